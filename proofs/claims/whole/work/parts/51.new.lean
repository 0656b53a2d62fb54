/-! CONSTRUCTORS: a world that grows -/
theorem cv_id (v : Value) : cv id v = v := by cases v <;> rfl
def tCN (y : tMS) (D : va_G) (cA cZ : ClassId) (p : Program) (s : State) (m : MethodId) (meth : Method) (c : Code) : Prop :=
  p.tables.exec = Jvm.exec ∧ c.code = y.2.1 ∧ c.maxLocals = y.2.2.1 ∧ meth.sig.returnType = y.2.2.2.1 ∧ meth.locks = false ∧ s.vm.findClass y.1.cls = some m.cls ∧ tTB s ∧ va_K D vwCl (tTy cA cZ) s ∧ meth.name = y.1.name
def tQN (D : va_G) (A : Nat → Prop) (Q : va_W → Prop) : Array Value → State → Outcome → State → Prop := va_Qv Q (fun w t => va_P D vwCl w t.heap ∧ va_D A w) A
def NT (y : tMS) (D : va_G) (cA cZ : ClassId) (pc : Nat) (L st : List Value) (w : va_W) (kc ks : Nat) (Q : va_W → Prop) : Prop :=
  ∀ (l : Launch) (p : Program) (e : Env) (s : State) (m : MethodId) (args : Array Value) (below : List Frame) (meth : Method) (c : Code) (H : Heap) (locs : List Loc) (ls : Array Slot) (A : Nat → Prop),
    tCN y D cA cZ p s m meth c → va_P D vwCl w H → va_D A w → va_S A s.heap H locs → (∀ q, s.heap.size ≤ q → A q) → tLR id ls y.2.2.1 L →
    W p l e y.2.2.2.2.1 s m args below meth c H locs kc ks (MQ below (tQN D A Q) args s y.2.2.2.2.1.cells y.2.2.2.2.1.slots A) (F0 m pc ls st)
def tPN (D : va_G) (cA cZ : ClassId) (wc : va_W) (sz : Nat) (U : State) : Prop := U.heap.size = sz ∧ tTB U ∧ va_K D vwCl (tTy cA cZ) U ∧ va_P D vwCl wc U.heap ∧ va_D (fun _ => True) wc
def CN (z : tMS) (D : va_G) (cA cZ : ClassId) (as : List Value) (wc : va_W) (Q : va_W → Prop) : Prop :=
  ∀ (l : Launch) (sz : Nat), Met l z.1 [.code z.1 z.2.1 z.2.2.1 z.2.2.2.1] z.2.2.2.2.1 (va_Pc as (tPN D cA cZ wc sz)) (tQN D (va_A wc sz) Q) z.2.2.2.2.1.cells z.2.2.2.2.1.slots (va_A wc sz)
theorem CN.of {z : tMS} {D : va_G} {cA cZ : ClassId} {as : List Value} {wc : va_W} {Q : va_W → Prop} (j : Nat) (hy : plainName z.1.cls = true) (hc : tC2 as = true) (hn : as.length + j = z.2.2.1) (h : NT z D cA cZ 0 (as ++ List.replicate j .null) [] wc 0 0 Q) : CN z D cA cZ as wc Q := by
  intro l sz
  refine Met.ofW (cc := z.2.1) (maxL := z.2.2.1) (ret := z.2.2.2.1) hy rfl ?_
  intro p e s m args below meth c s₁ B hml hv
  obtain ⟨rfl, hsz, hT, hK, hP, hD⟩ := hv
  subst hsz
  rw [lg_entry_eq]
  have hcat : ∀ v ∈ as, v.category = 1 := fun v hv => by
    have := List.all_eq_true.mp hc v hv
    cases v <;> first | rfl | (cases this)
  have hL := tLR_entry id as z.2.2.1 j hcat hn
  rw [show as.map (cv id) = as from by rw [show cv id = id from funext cv_id, List.map_id]] at hL
  exact h l p e s m _ below meth c s.heap [] _ _ ⟨B.exec, B.bytes, hml, B.returns, B.notSynchronized, findClass_of_methodNamed B.named, hT, hK, (name_of_methodNamed B.named B.method).1⟩ hP hD.self va_S.rf (fun q hq => Or.inr hq) hL
section TNEW
variable {y z : tMS} {D : va_G} {cA cZ : ClassId} {pc pc' : Nat} {L st : List Value} {w : va_W} {kc ks : Nat} {Q : va_W → Prop}
theorem nr_iconst {n : Int} (d : DC y pc (.iconst n) 1 pc') (v : Int32) (hv : Int32.ofInt n = v) (k : NT y D cA cZ pc' L (.int v :: st) w kc ks Q) : NT y D cA cZ pc L st w kc ks Q := by
  intro l p e s m args below meth c H locs ls A hC hP hD hS hA hL
  obtain ⟨hd, rfl⟩ := d
  exact lv_iconst hC.1 hC.2.1 hd hv (k l p e s m args below meth c H locs ls A hC hP hD hS hA hL)
theorem nr_bipush {n : Int} (d : DC y pc (.bipush n) 2 pc') (v : Int32) (hv : (Int8.ofInt n).toInt32 = v) (k : NT y D cA cZ pc' L (.int v :: st) w kc ks Q) : NT y D cA cZ pc L st w kc ks Q := by
  intro l p e s m args below meth c H locs ls A hC hP hD hS hA hL
  obtain ⟨hd, rfl⟩ := d
  exact lv_bipush hC.1 hC.2.1 hd hv (k l p e s m args below meth c H locs ls A hC hP hD hS hA hL)
theorem nr_sipush {n : Int} (d : DC y pc (.sipush n) 3 pc') (v : Int32) (hv : (Int16.ofInt n).toInt32 = v) (k : NT y D cA cZ pc' L (.int v :: st) w kc ks Q) : NT y D cA cZ pc L st w kc ks Q := by
  intro l p e s m args below meth c H locs ls A hC hP hD hS hA hL
  obtain ⟨hd, rfl⟩ := d
  exact lv_sipush hC.1 hC.2.1 hd hv (k l p e s m args below meth c H locs ls A hC hP hD hS hA hL)
theorem nr_aload_n {i : Fin 4} {x : Nat} (d : DC y pc (.aload_n i) 1 pc') (hl : L[(i : Nat)]? = some (.ref x)) (k : NT y D cA cZ pc' L (.ref x :: st) w kc ks Q) : NT y D cA cZ pc L st w kc ks Q := by
  intro l p e s m args below meth c H locs ls A hC hP hD hS hA hL
  obtain ⟨hd, rfl⟩ := d
  exact lv_aload_n hC.1 hC.2.1 hd rfl (hL.2.2 _ _ hl (fun h => by cases h)) (k l p e s m args below meth c H locs ls A hC hP hD hS hA hL)
theorem nr_dup {v : Value} (d : DC y pc .dup 1 pc') (hv : v.category = 1) (k : NT y D cA cZ pc' L (v :: v :: st) w kc ks Q) : NT y D cA cZ pc L (v :: st) w kc ks Q := by
  intro l p e s m args below meth c H locs ls A hC hP hD hS hA hL
  obtain ⟨hd, rfl⟩ := d
  exact lv_dup hC.1 hC.2.1 hd hv (k l p e s m args below meth c H locs ls A hC hP hD hS hA hL)
theorem nr_vret (d : DC y pc .return_ 1 pc') (hr : y.2.2.2.1 = none) (h1 : y.2.2.2.2.1.cells = kc) (h2 : y.2.2.2.2.1.slots = ks) (hq : Q w) : NT y D cA cZ pc L [] w kc ks Q := by
  intro l p e s m args below meth c H locs ls A hC hP hD hS hA hL
  subst h1 h2
  exact W.vret hC.1 hC.2.1 (hC.2.2.2.1.trans hr) (fun t ht hW => ⟨⟨w, rfl, hq, by rw [ht]; exact hP, hD⟩, hS.F ht⟩) hS.2.2 d.1 hC.2.2.2.2.1
theorem nr_obj {ix a : Nat} (d : DC y pc (.invokespecial ix) 3 pc') (h1 : tWD (.methodLink y.1.cls ix Lib.objectInit)) (h2 : tWD (.instanceMethod Lib.objectInit)) (h3 : tWD (.code Lib.objectInit ⟨#[0xb1]⟩ 1 none)) (hR : 1 ≤ y.2.2.2.2.1.frames) (hR2 : (st.map fun v => v.category).sum + 12 ≤ y.2.2.2.2.1.locals) (k : NT y D cA cZ pc' L st w kc ks Q) : NT y D cA cZ pc L (.ref a :: st) w kc ks Q := by
  intro l p e s m args below meth c H locs ls A hC hP hD hS hA hL
  obtain ⟨hd, rfl⟩ := d
  have hTB := hC.2.2.2.2.2.2.1
  exact W.objInit hC.1 hC.2.1 hC.2.2.2.2.2.1 (tTB.use hTB h1) (tTB.use hTB h2) (tTB.use hTB h3) rfl (hL.1.trans hC.2.2.1.symm) rfl hd hR (Nat.le_trans (by simp) hR2) (k l p e s m args below meth c H locs ls A hC hP hD hS hA hL)
theorem nr_new {ix ci : Nat} {C : String} {Tb : u_T} {N : Nat} {ty : Nat → FieldType} {fs : List Value} (d : DC y pc (.new ix) 3 pc') (hcf : tCF ci C Tb N ty) (h1 : tWD (.classLink y.1.cls ix C)) (h2 : tWD (.instantiable C N)) (h3 : tWD (.initialized C)) (hfs : ∀ j, j < N → defaultValue (ty j) = vp_V fs j) (hc : kc + 1 ≤ y.2.2.2.2.1.cells) (hs : ks + N ≤ y.2.2.2.2.1.slots) (k : ∀ q, NT y D cA cZ pc' L (.ref q :: st) (w ++ [(q, .inr (ci, fs))]) (kc + 1) (ks + N) Q) : NT y D cA cZ pc L st w kc ks Q := by
  intro l p e s m args below meth c H locs ls A hC hP hD hS hA hL
  obtain ⟨hd, rfl⟩ := d
  obtain ⟨c1, c2, c3, c4⟩ := hcf
  have hTB := hC.2.2.2.2.2.2.1
  exact va_new hC.1 hC.2.1 (own := y.1.cls) (fun w hw => tTB.use hTB (c2 w hw)) (fun _ h => h) ty c3 hC.2.2.2.2.2.1 (tTB.use hTB h1) (tTB.use hTB h2) (tTB.use hTB h3) hC.2.2.2.2.2.2.2.1 hP hD hS hA c1 hfs hc hs hd
    (fun q H1 hP1 hD1 hS1 => k q l p e s m args below meth c H1 locs ls A hC hP1 hD1 hS1 hA hL)
theorem nr_get {ix ci i k0 a : Nat} {fs : List Value} {v : Value} (d : DC y pc (.getfield ix) 3 pc') (hf : tFK y.1.cls ix ci i) (hw : w[k0]? = some (a, .inr (ci, fs))) (hv : fs[i]? = some v) (k : NT y D cA cZ pc' L (v :: st) w kc ks Q) : NT y D cA cZ pc L (.ref a :: st) w kc ks Q := by
  intro l p e s m args below meth c H locs ls A hC hP hD hS hA hL
  obtain ⟨hd, rfl⟩ := d
  obtain ⟨C, Tb, N, ty, ⟨h1, h2, h3, h4⟩, hi, hT, hl⟩ := hf
  have hTB := hC.2.2.2.2.2.2.1
  have hk := k l p e s m args below meth c H locs ls A hC hP hD hS hA hL
  rcases hl with hl | hl
  · exact va_get hC.1 hC.2.1 (own := y.1.cls) (ref := C) (fun w hw => tTB.use hTB (h2 w hw)) (fun _ h => h) hC.2.2.2.2.2.1 hC.2.2.2.2.2.2.2.1 hP k0 hw h1 i hi (tTB.use hTB hl) (fun x h => by rw [hT] at h; exact h) hv hd hk
  · exact va_getN hC.1 hC.2.1 (own := y.1.cls) (ref := C) (fun w hw => tTB.use hTB (h2 w hw)) (fun _ h => h) hC.2.2.2.2.2.1 hC.2.2.2.2.2.2.2.1 hP k0 hw h1 i hi (tTB.use hTB hl) (fun x h => by rw [hT] at h; exact h) hv hd hk
/-- a field of the class's own, final or not -/
theorem nr_put {ix ci i k0 a : Nat} {Tb : u_T} {N : Nat} {ty : Nat → FieldType} {fs : List Value} {v : Value} (d : DC y pc (.putfield ix) 3 pc') (hy : y.1.name = "<init>") (hcf : tCF ci y.1.cls Tb N ty) (hi : i < N) (hT : (Tb i).1 = y.1.cls) (hl : tWD (.fieldLink y.1.cls ix y.1.cls (Tb i).2.1 (Tb i).2.2.1)) (hn : narrow (ty i) v = v) (hft : fits (ty i) v = true) (hil : i < fs.length) (hw : w[k0]? = some (a, .inr (ci, fs)))
    (k : NT y D cA cZ pc' L st (w.set k0 (a, .inr (ci, fs.set i v))) kc ks Q) : NT y D cA cZ pc L (v :: .ref a :: st) w kc ks Q := by
  intro l p e s m args below meth c H locs ls A hC hP hD hS hA hL
  obtain ⟨hd, rfl⟩ := d
  obtain ⟨h1, h2, h3, h4⟩ := hcf
  have hTB := hC.2.2.2.2.2.2.1
  have hk := fun H1 locs1 hP1 hD1 hS1 => k l p e s m args below meth c H1 locs1 ls A hC hP1 hD1 hS1 hA hL
  cases hfin : (Tb i).2.2.2 with
  | true => exact va_putF hC.1 hC.2.1 (own := y.1.cls) (ref := y.1.cls) (fun w hw => tTB.use hTB (h2 w hw)) (fun _ h => h) ty h3 h4 hC.2.2.2.2.2.1 hC.2.2.2.2.2.2.2.1 hP hD hS k0 hw h1 i hi (tTB.use hTB hl) (fun x h => by rw [hT] at h; exact h) hfin (hC.2.2.2.2.2.2.2.2.trans hy) hT (h3 i hi) hn hft hil hd hk
  | false => exact va_put hC.1 hC.2.1 (own := y.1.cls) (ref := y.1.cls) (fun w hw => tTB.use hTB (h2 w hw)) (fun _ h => h) ty h3 h4 hC.2.2.2.2.2.1 hC.2.2.2.2.2.2.2.1 hP hD hS k0 hw h1 i hi (tTB.use hTB hl) (fun x h => by rw [hT] at h; exact h) hfin (h3 i hi) hn hft hil hd hk
end TNEW
