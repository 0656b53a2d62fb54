/-! THE LAW: two worlds, a script -/
def ad3 (b : Nat) (ad1 ad2 : Nat → Nat) : Nat → Nat := fun k => if k = 0 then b else if k = 1 then ad1 0 else ad2 0
def lCX (n : Nat) (xs : Nat → Int32) (D : va_G) (ad1 ad2 : Nat → Nat) (cA cZ : ClassId) (p : Program) (s : State) (m : MethodId) (meth : Method) (c : Code) (b : Nat) : Prop :=
  p.tables.exec = Jvm.exec ∧ c.code = code ∧ c.maxLocals = 4 ∧ s.vm.findClass "ApronDeskLaw" = some m.cls ∧ tTB s ∧ va_K D vwCl (tTy cA cZ) s ∧ va_X b n xs s s.heap ∧ b < s.heap.size ∧ tInj ad1 shX.length ∧ tInj ad2 shM.length ∧ (∀ i j, i < shX.length → j < shM.length → ad1 i ≠ ad2 j) ∧ (∀ i, i < shX.length → s.heap.size ≤ ad1 i) ∧ (∀ j, j < shM.length → s.heap.size ≤ ad2 j) ∧ tSF 0 ad1 (fun q => s.heap.size ≤ q) s
def LT (n : Nat) (xs : Nat → Int32) (pc : Nat) (L st : List Value) (σ τ : tSt) : Prop :=
  ∀ (l : Launch) (D : va_G) (ad1 ad2 : Nat → Nat) (cA cZ : ClassId) (p : Program) (e : Env) (s : State) (m : MethodId) (below : List Frame) (meth : Method) (c : Code) (H : Heap) (locs : List Loc) (ls : Array Slot) (b : Nat),
    lCX n xs D ad1 ad2 cA cZ p s m meth c b → va_P D vwCl (tpic ad1 cA cZ shX σ) H → va_P D vwCl (tpic ad2 cA cZ shM τ) H → va_S (fun q => s.heap.size ≤ q) s.heap H locs → tLR (ad3 b ad1 ad2) ls 4 L →
    ∀ (hr : meth.sig.returnType = ret) (hlk : meth.locks = false), W p l e room_1 s m #[Value.ref b] below meth c H locs 55 3671 (fun t => ∃ o, t.status = .running ∧ Ended t below o ∧ (o = .returned (some (.int 1)) ∧ Framed s o t [] 55 3671)) (F0 m pc ls (st.map (cv (ad3 b ad1 ad2))))
def LC (pc : Nat) (i : Instr) (n pc' : Nat) : Prop := decode code pc = .ok (i, n) ∧ pc + n = pc'
section TLAW
variable {n : Nat} {xs : Nat → Int32} {pc pc' tgt : Nat} {L st : List Value} {σ τ : tSt}
theorem lr_iconst {z : Int} (d : LC pc (.iconst z) 1 pc') (v : Int32) (hv : Int32.ofInt z = v) (k : LT n xs pc' L (.int v :: st) σ τ) : LT n xs pc L st σ τ := by
  intro l D ad1 ad2 cA cZ p e s m below meth c H locs ls b hC hP hM hS hL hr hlk
  obtain ⟨hd, rfl⟩ := d
  exact lv_iconst hC.1 hC.2.1 hd hv (k l D ad1 ad2 cA cZ p e s m below meth c H locs ls b hC hP hM hS hL hr hlk)
theorem lr_bipush {z : Int} (d : LC pc (.bipush z) 2 pc') (v : Int32) (hv : (Int8.ofInt z).toInt32 = v) (k : LT n xs pc' L (.int v :: st) σ τ) : LT n xs pc L st σ τ := by
  intro l D ad1 ad2 cA cZ p e s m below meth c H locs ls b hC hP hM hS hL hr hlk
  obtain ⟨hd, rfl⟩ := d
  exact lv_bipush hC.1 hC.2.1 hd hv (k l D ad1 ad2 cA cZ p e s m below meth c H locs ls b hC hP hM hS hL hr hlk)
theorem lr_iload_n {i : Fin 4} {x : Int32} (d : LC pc (.iload_n i) 1 pc') (hl : L[(i : Nat)]? = some (.int x)) (k : LT n xs pc' L (.int x :: st) σ τ) : LT n xs pc L st σ τ := by
  intro l D ad1 ad2 cA cZ p e s m below meth c H locs ls b hC hP hM hS hL hr hlk
  obtain ⟨hd, rfl⟩ := d
  exact lv_iload_n hC.1 hC.2.1 hd rfl (hL.2.2 _ _ hl (fun h => by cases h)) (k l D ad1 ad2 cA cZ p e s m below meth c H locs ls b hC hP hM hS hL hr hlk)
theorem lr_aload_n {i : Fin 4} {x : Nat} (d : LC pc (.aload_n i) 1 pc') (hl : L[(i : Nat)]? = some (.ref x)) (k : LT n xs pc' L (.ref x :: st) σ τ) : LT n xs pc L st σ τ := by
  intro l D ad1 ad2 cA cZ p e s m below meth c H locs ls b hC hP hM hS hL hr hlk
  obtain ⟨hd, rfl⟩ := d
  exact lv_aload_n hC.1 hC.2.1 hd rfl (hL.2.2 _ _ hl (fun h => by cases h)) (k l D ad1 ad2 cA cZ p e s m below meth c H locs ls b hC hP hM hS hL hr hlk)
end TLAW
