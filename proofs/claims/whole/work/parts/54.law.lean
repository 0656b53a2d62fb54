/-! THE LAW: two worlds, a script -/
def ad3 (b : Nat) (ad1 ad2 : Nat → Nat) : Nat → Nat := fun k => if k = 0 then b else if k = 1 then ad1 0 else ad2 0
def lCX (n : Nat) (xs : Nat → Int32) (D : va_G) (ad1 ad2 : Nat → Nat) (cA cZ : ClassId) (p : Program) (s : State) (m : MethodId) (meth : Method) (c : Code) (b : Nat) : Prop :=
  p.tables.exec = Jvm.exec ∧ c.code = code ∧ c.maxLocals = 4 ∧ s.vm.findClass "ApronDeskLaw" = some m.cls ∧ tTB s ∧ va_K D vwCl (tTy cA cZ) s ∧ va_X b n xs s s.heap ∧ b < s.heap.size ∧ tInj ad1 shX.length ∧ tInj ad2 shM.length ∧ (∀ i j, i < shX.length → j < shM.length → ad1 i ≠ ad2 j) ∧ (∀ i, i < shX.length → s.heap.size ≤ ad1 i) ∧ (∀ j, j < shM.length → s.heap.size ≤ ad2 j) ∧ tSF 0 ad1 (fun q => s.heap.size ≤ q) s
def LT (n : Nat) (xs : Nat → Int32) (pc : Nat) (L st : List Value) (σ τ : tSt) : Prop :=
  ∀ (l : Launch) (D : va_G) (ad1 ad2 : Nat → Nat) (cA cZ : ClassId) (p : Program) (e : Env) (s : State) (m : MethodId) (below : List Frame) (meth : Method) (c : Code) (H : Heap) (locs : List Loc) (ls : Array Slot) (b : Nat),
    lCX n xs D ad1 ad2 cA cZ p s m meth c b → va_P D vwCl (tpic ad1 cA cZ shX σ) H → va_P D vwCl (tpic ad2 cA cZ shM τ) H → va_S (fun q => s.heap.size ≤ q) s.heap H locs → tLR (ad3 b ad1 ad2) ls 4 L →
    ∀ (hr : meth.sig.returnType = ret) (hlk : meth.locks = false), W p l e room_1 s m #[Value.ref b] below meth c H locs 55 3671 (fun t => ∃ o, t.status = .running ∧ Ended t below o ∧ (o = .returned (some (.int 1)) ∧ Framed s o t [] 55 3671)) (F0 m pc ls (st.map (cv (ad3 b ad1 ad2))))
def LC (pc : Nat) (i : Instr) (n pc' : Nat) : Prop := decode code pc = .ok (i, n) ∧ pc + n = pc'
section TLAW
variable {n : Nat} {xs : Nat → Int32} {pc pc' tgt : Nat} {L st : List Value} {σ τ : tSt}
theorem lr_iconst {z : Int} (d : LC pc (.iconst z) 1 pc') (v : Int32) (hv : Int32.ofInt z = v) (k : LT n xs pc' L (.int v :: st) σ τ) : LT n xs pc L st σ τ := by
  intro l D ad1 ad2 cA cZ p e s m below meth c H locs ls b hC hP hM hS hL hr hlk
  obtain ⟨hd, rfl⟩ := d
  exact lv_iconst hC.1 hC.2.1 hd hv (k l D ad1 ad2 cA cZ p e s m below meth c H locs ls b hC hP hM hS hL hr hlk)
theorem lr_bipush {z : Int} (d : LC pc (.bipush z) 2 pc') (v : Int32) (hv : (Int8.ofInt z).toInt32 = v) (k : LT n xs pc' L (.int v :: st) σ τ) : LT n xs pc L st σ τ := by
  intro l D ad1 ad2 cA cZ p e s m below meth c H locs ls b hC hP hM hS hL hr hlk
  obtain ⟨hd, rfl⟩ := d
  exact lv_bipush hC.1 hC.2.1 hd hv (k l D ad1 ad2 cA cZ p e s m below meth c H locs ls b hC hP hM hS hL hr hlk)
theorem lr_iload_n {i : Fin 4} {x : Int32} (d : LC pc (.iload_n i) 1 pc') (hl : L[(i : Nat)]? = some (.int x)) (k : LT n xs pc' L (.int x :: st) σ τ) : LT n xs pc L st σ τ := by
  intro l D ad1 ad2 cA cZ p e s m below meth c H locs ls b hC hP hM hS hL hr hlk
  obtain ⟨hd, rfl⟩ := d
  exact lv_iload_n hC.1 hC.2.1 hd rfl (hL.2.2 _ _ hl (fun h => by cases h)) (k l D ad1 ad2 cA cZ p e s m below meth c H locs ls b hC hP hM hS hL hr hlk)
theorem lr_aload_n {i : Fin 4} {x : Nat} (d : LC pc (.aload_n i) 1 pc') (hl : L[(i : Nat)]? = some (.ref x)) (k : LT n xs pc' L (.ref x :: st) σ τ) : LT n xs pc L st σ τ := by
  intro l D ad1 ad2 cA cZ p e s m below meth c H locs ls b hC hP hM hS hL hr hlk
  obtain ⟨hd, rfl⟩ := d
  exact lv_aload_n hC.1 hC.2.1 hd rfl (hL.2.2 _ _ hl (fun h => by cases h)) (k l D ad1 ad2 cA cZ p e s m below meth c H locs ls b hC hP hM hS hL hr hlk)
end TLAW
def LJ (pc : Nat) (f : Int → Instr) (tgt pc' : Nat) : Prop := ∃ off : Int, decode code pc = .ok (f off, 3) ∧ (pc : Int) + off = (tgt : Int) ∧ pc + 3 = pc'
section TLAW2
variable {n : Nat} {xs : Nat → Int32} {pc pc' tgt : Nat} {L st : List Value} {σ τ : tSt}
theorem lr_iadd {a a2 : Int32} (d : LC pc .iadd 1 pc') (k : LT n xs pc' L (.int (a + a2) :: st) σ τ) : LT n xs pc L (.int a2 :: .int a :: st) σ τ := by
  intro l D ad1 ad2 cA cZ p e s m below meth c H locs ls b hC hP hM hS hL hr hlk
  obtain ⟨hd, rfl⟩ := d
  exact lv_iadd hC.1 hC.2.1 hd (k l D ad1 ad2 cA cZ p e s m below meth c H locs ls b hC hP hM hS hL hr hlk)
theorem lr_isub {a a2 : Int32} (d : LC pc .isub 1 pc') (k : LT n xs pc' L (.int (a - a2) :: st) σ τ) : LT n xs pc L (.int a2 :: .int a :: st) σ τ := by
  intro l D ad1 ad2 cA cZ p e s m below meth c H locs ls b hC hP hM hS hL hr hlk
  obtain ⟨hd, rfl⟩ := d
  exact lv_isub hC.1 hC.2.1 hd (k l D ad1 ad2 cA cZ p e s m below meth c H locs ls b hC hP hM hS hL hr hlk)
theorem lr_iand {a a2 : Int32} (d : LC pc .iand 1 pc') (k : LT n xs pc' L (.int (a &&& a2) :: st) σ τ) : LT n xs pc L (.int a2 :: .int a :: st) σ τ := by
  intro l D ad1 ad2 cA cZ p e s m below meth c H locs ls b hC hP hM hS hL hr hlk
  obtain ⟨hd, rfl⟩ := d
  exact lv_iand hC.1 hC.2.1 hd (k l D ad1 ad2 cA cZ p e s m below meth c H locs ls b hC hP hM hS hL hr hlk)
theorem lr_goto (d : LJ pc .goto tgt pc') (k : LT n xs tgt L st σ τ) : LT n xs pc L st σ τ := by
  intro l D ad1 ad2 cA cZ p e s m below meth c H locs ls b hC hP hM hS hL hr hlk
  obtain ⟨off, hd, ht, rfl⟩ := d
  exact lv_goto hC.1 hC.2.1 hd ht (k l D ad1 ad2 cA cZ p e s m below meth c H locs ls b hC hP hM hS hL hr hlk)
theorem lr_icmp_gt {a a2 : Int32} (d : LJ pc (.if_icmp .gt) tgt pc') (k : (a2 < a) → LT n xs tgt L st σ τ) (k2 : ¬ (a2 < a) → LT n xs pc' L st σ τ) : LT n xs pc L (.int a2 :: .int a :: st) σ τ := by
  intro l D ad1 ad2 cA cZ p e s m below meth c H locs ls b hC hP hM hS hL hr hlk
  obtain ⟨off, hd, ht, rfl⟩ := d
  exact lv_icmp_gt hC.1 hC.2.1 hd ht (fun h => k h l D ad1 ad2 cA cZ p e s m below meth c H locs ls b hC hP hM hS hL hr hlk) (fun h => k2 h l D ad1 ad2 cA cZ p e s m below meth c H locs ls b hC hP hM hS hL hr hlk)
theorem lr_icmp_eq {a a2 : Int32} (d : LJ pc (.if_icmp .eq) tgt pc') (k : (a = a2) → LT n xs tgt L st σ τ) (k2 : ¬ (a = a2) → LT n xs pc' L st σ τ) : LT n xs pc L (.int a2 :: .int a :: st) σ τ := by
  intro l D ad1 ad2 cA cZ p e s m below meth c H locs ls b hC hP hM hS hL hr hlk
  obtain ⟨off, hd, ht, rfl⟩ := d
  exact lv_icmp_eq hC.1 hC.2.1 hd ht (fun h => k h l D ad1 ad2 cA cZ p e s m below meth c H locs ls b hC hP hM hS hL hr hlk) (fun h => k2 h l D ad1 ad2 cA cZ p e s m below meth c H locs ls b hC hP hM hS hL hr hlk)
theorem lr_iinc {i : Nat} {z : Int} {x : Int32} (d : LC pc (.iinc i z) 3 pc') (v : Int32) (hv : x + Int32.ofInt z = v) (hl : L[i]? = some (.int x)) (hi : i < 4) (hc : tC1 L = true) (k : LT n xs pc' (L.set i (.int v)) st σ τ) : LT n xs pc L st σ τ := by
  intro l D ad1 ad2 cA cZ p e s m below meth c H locs ls b hC hP hM hS hL hr hlk
  obtain ⟨hd, rfl⟩ := d
  have hm : (i, Value.int x) ∈ L.zipIdx.filterMap (fun q => if q.1 = .null then none else some (q.2, cv (ad3 b ad1 ad2) q.1)) := List.mem_filterMap.mpr ⟨(.int x, i), List.mem_zipIdx_iff_getElem?.mpr hl, rfl⟩
  obtain ⟨kk, hkk⟩ := List.getElem?_of_mem hm
  exact lv_iinc hC.1 hC.2.1 hd (tLR_has hL) hkk hv hi rfl (fun ls' h' => k l D ad1 ad2 cA cZ p e s m below meth c H locs ls' b hC hP hM hS (tLR_set (v := .int v) h' (tC1_all hc)) hr hlk)
theorem lr_sld {i : Int32} (d : LC pc .iaload 1 pc') (hi : vp_in i n) (k : LT n xs pc' L (.int (xs (tn i)) :: st) σ τ) : LT n xs pc L (.int i :: .ref 0 :: st) σ τ := by
  intro l D ad1 ad2 cA cZ p e s m below meth c H locs ls b hC hP hM hS hL hr hlk
  obtain ⟨hd, rfl⟩ := d
  exact va_sld hC.1 hC.2.1 hC.2.2.2.2.2.2.1 hC.2.2.2.2.2.2.2.1 (Nat.not_le.mpr hC.2.2.2.2.2.2.2.1) hS hi hd (k l D ad1 ad2 cA cZ p e s m below meth c H locs ls b hC hP hM hS hL hr hlk)
theorem lr_slen (d : LC pc .arraylength 1 pc') (k : LT n xs pc' L (.int (nI n) :: st) σ τ) : LT n xs pc L (.ref 0 :: st) σ τ := by
  intro l D ad1 ad2 cA cZ p e s m below meth c H locs ls b hC hP hM hS hL hr hlk
  obtain ⟨hd, rfl⟩ := d
  exact va_slen hC.1 hC.2.1 hC.2.2.2.2.2.2.1 hC.2.2.2.2.2.2.2.1 (Nat.not_le.mpr hC.2.2.2.2.2.2.2.1) hS hd (k l D ad1 ad2 cA cZ p e s m below meth c H locs ls b hC hP hM hS hL hr hlk)
theorem lr_tabIn {dflt lo hi : Int} {offs : Array Int} {len : Nat} {x : Int32} {off : Int} (d : decode code pc = .ok (.tableswitch dflt lo hi offs, len)) (h1 : ¬ x.toInt < lo) (h2 : ¬ hi < x.toInt) (ho : offs[(x.toInt - lo).toNat]? = some off) (ht : (pc : Int) + off = (tgt : Int)) (k : LT n xs tgt L st σ τ) : LT n xs pc L (.int x :: st) σ τ := by
  intro l D ad1 ad2 cA cZ p e s m below meth c H locs ls b hC hP hM hS hL hr hlk
  exact lv_tableIn hC.1 hC.2.1 d h1 h2 ho ht (k l D ad1 ad2 cA cZ p e s m below meth c H locs ls b hC hP hM hS hL hr hlk)
theorem lr_tabOut {dflt lo hi : Int} {offs : Array Int} {len : Nat} {x : Int32} (d : decode code pc = .ok (.tableswitch dflt lo hi offs, len)) (h : x.toInt < lo ∨ hi < x.toInt) (ht : (pc : Int) + dflt = (tgt : Int)) (k : LT n xs tgt L st σ τ) : LT n xs pc L (.int x :: st) σ τ := by
  intro l D ad1 ad2 cA cZ p e s m below meth c H locs ls b hC hP hM hS hL hr hlk
  exact lv_tableOut hC.1 hC.2.1 d h ht (k l D ad1 ad2 cA cZ p e s m below meth c H locs ls b hC hP hM hS hL hr hlk)
end TLAW2
