/-! ROWS OF THE JUDGEMENT, one an instruction -/
def DC (y : tMS) (pc : Nat) (i : Instr) (n pc' : Nat) : Prop := decode y.2.1 pc = .ok (i, n) ∧ pc + n = pc'
def DJ (y : tMS) (pc : Nat) (f : Int → Instr) (tgt pc' : Nat) : Prop := ∃ off : Int, decode y.2.1 pc = .ok (f off, 3) ∧ (pc : Int) + off = (tgt : Int) ∧ pc + 3 = pc'
section TROWS
variable {y : tMS} {pc pc' tgt : Nat} {L st : List Value} {σ : tSt} {Q : Option Int32 → tSt → Prop}
theorem tr_iconst {n : Int} (d : DC y pc (.iconst n) 1 pc') (v : Int32) (hv : Int32.ofInt n = v) (k : TT y pc' L (.int v :: st) σ Q) : TT y pc L (st) σ Q := by
  intro l D ad cA cZ p e s m args below meth c H locs ls hC hP hS hL
  obtain ⟨hd, rfl⟩ := d
  exact lv_iconst hC.1 hC.2.1 hd hv (k l D ad cA cZ p e s m args below meth c H locs ls hC hP hS hL)
theorem tr_bipush {n : Int} (d : DC y pc (.bipush n) 2 pc') (v : Int32) (hv : (Int8.ofInt n).toInt32 = v) (k : TT y pc' L (.int v :: st) σ Q) : TT y pc L (st) σ Q := by
  intro l D ad cA cZ p e s m args below meth c H locs ls hC hP hS hL
  obtain ⟨hd, rfl⟩ := d
  exact lv_bipush hC.1 hC.2.1 hd hv (k l D ad cA cZ p e s m args below meth c H locs ls hC hP hS hL)
theorem tr_sipush {n : Int} (d : DC y pc (.sipush n) 3 pc') (v : Int32) (hv : (Int16.ofInt n).toInt32 = v) (k : TT y pc' L (.int v :: st) σ Q) : TT y pc L (st) σ Q := by
  intro l D ad cA cZ p e s m args below meth c H locs ls hC hP hS hL
  obtain ⟨hd, rfl⟩ := d
  exact lv_sipush hC.1 hC.2.1 hd hv (k l D ad cA cZ p e s m args below meth c H locs ls hC hP hS hL)
theorem tr_iload_n {i : Fin 4} {x : Int32} (d : DC y pc (.iload_n i) 1 pc') (hl : L[(i : Nat)]? = some (.int x)) (k : TT y pc' L (.int x :: st) σ Q) : TT y pc L (st) σ Q := by
  intro l D ad cA cZ p e s m args below meth c H locs ls hC hP hS hL
  obtain ⟨hd, rfl⟩ := d
  exact lv_iload_n hC.1 hC.2.1 hd rfl (hL.2.2 _ _ hl (fun h => by cases h)) (k l D ad cA cZ p e s m args below meth c H locs ls hC hP hS hL)
theorem tr_iload {i : Nat} {x : Int32} (d : DC y pc (.iload i) 2 pc') (hl : L[i]? = some (.int x)) (k : TT y pc' L (.int x :: st) σ Q) : TT y pc L (st) σ Q := by
  intro l D ad cA cZ p e s m args below meth c H locs ls hC hP hS hL
  obtain ⟨hd, rfl⟩ := d
  exact lv_iload hC.1 hC.2.1 hd (hL.2.2 _ _ hl (fun h => by cases h)) (k l D ad cA cZ p e s m args below meth c H locs ls hC hP hS hL)
theorem tr_aload_n {i : Fin 4} {x : Nat} (d : DC y pc (.aload_n i) 1 pc') (hl : L[(i : Nat)]? = some (.ref x)) (k : TT y pc' L (.ref x :: st) σ Q) : TT y pc L (st) σ Q := by
  intro l D ad cA cZ p e s m args below meth c H locs ls hC hP hS hL
  obtain ⟨hd, rfl⟩ := d
  exact lv_aload_n hC.1 hC.2.1 hd rfl (hL.2.2 _ _ hl (fun h => by cases h)) (k l D ad cA cZ p e s m args below meth c H locs ls hC hP hS hL)
theorem tr_aload {i : Nat} {x : Nat} (d : DC y pc (.aload i) 2 pc') (hl : L[i]? = some (.ref x)) (k : TT y pc' L (.ref x :: st) σ Q) : TT y pc L (st) σ Q := by
  intro l D ad cA cZ p e s m args below meth c H locs ls hC hP hS hL
  obtain ⟨hd, rfl⟩ := d
  exact lv_aload hC.1 hC.2.1 hd (hL.2.2 _ _ hl (fun h => by cases h)) (k l D ad cA cZ p e s m args below meth c H locs ls hC hP hS hL)
theorem tr_iadd {a b : Int32} (d : DC y pc .iadd 1 pc') (k : TT y pc' L (.int (a + b) :: st) σ Q) : TT y pc L (.int b :: .int a :: st) σ Q := by
  intro l D ad cA cZ p e s m args below meth c H locs ls hC hP hS hL
  obtain ⟨hd, rfl⟩ := d
  exact lv_iadd hC.1 hC.2.1 hd (k l D ad cA cZ p e s m args below meth c H locs ls hC hP hS hL)
theorem tr_isub {a b : Int32} (d : DC y pc .isub 1 pc') (k : TT y pc' L (.int (a - b) :: st) σ Q) : TT y pc L (.int b :: .int a :: st) σ Q := by
  intro l D ad cA cZ p e s m args below meth c H locs ls hC hP hS hL
  obtain ⟨hd, rfl⟩ := d
  exact lv_isub hC.1 hC.2.1 hd (k l D ad cA cZ p e s m args below meth c H locs ls hC hP hS hL)
theorem tr_imul {a b : Int32} (d : DC y pc .imul 1 pc') (k : TT y pc' L (.int (a * b) :: st) σ Q) : TT y pc L (.int b :: .int a :: st) σ Q := by
  intro l D ad cA cZ p e s m args below meth c H locs ls hC hP hS hL
  obtain ⟨hd, rfl⟩ := d
  exact lv_imul hC.1 hC.2.1 hd (k l D ad cA cZ p e s m args below meth c H locs ls hC hP hS hL)
theorem tr_iand {a b : Int32} (d : DC y pc .iand 1 pc') (k : TT y pc' L (.int (a &&& b) :: st) σ Q) : TT y pc L (.int b :: .int a :: st) σ Q := by
  intro l D ad cA cZ p e s m args below meth c H locs ls hC hP hS hL
  obtain ⟨hd, rfl⟩ := d
  exact lv_iand hC.1 hC.2.1 hd (k l D ad cA cZ p e s m args below meth c H locs ls hC hP hS hL)
theorem tr_idiv {a b : Int32} (d : DC y pc .idiv 1 pc') (hb : ¬ b = 0) (k : TT y pc' L (.int (a / b) :: st) σ Q) : TT y pc L (.int b :: .int a :: st) σ Q := by
  intro l D ad cA cZ p e s m args below meth c H locs ls hC hP hS hL
  obtain ⟨hd, rfl⟩ := d
  exact lv_idiv hC.1 hC.2.1 hd hb (k l D ad cA cZ p e s m args below meth c H locs ls hC hP hS hL)
theorem tr_dup {v : Value} (d : DC y pc .dup 1 pc') (hv : v.category = 1) (k : TT y pc' L (v :: v :: st) σ Q) : TT y pc L (v :: st) σ Q := by
  intro l D ad cA cZ p e s m args below meth c H locs ls hC hP hS hL
  obtain ⟨hd, rfl⟩ := d
  exact lv_dup hC.1 hC.2.1 hd ((cv_cat ad v).trans hv) (k l D ad cA cZ p e s m args below meth c H locs ls hC hP hS hL)
theorem tr_dup2 {v w : Value} (d : DC y pc .dup2 1 pc') (hv : v.category = 1) (hw : w.category = 1) (k : TT y pc' L (v :: w :: v :: w :: st) σ Q) : TT y pc L (v :: w :: st) σ Q := by
  intro l D ad cA cZ p e s m args below meth c H locs ls hC hP hS hL
  obtain ⟨hd, rfl⟩ := d
  exact lv_dup2_11 hC.1 hC.2.1 hd ((cv_cat ad v).trans hv) ((cv_cat ad w).trans hw) (k l D ad cA cZ p e s m args below meth c H locs ls hC hP hS hL)
theorem tr_pop {v : Value} (d : DC y pc .pop 1 pc') (hv : v.category = 1) (k : TT y pc' L (st) σ Q) : TT y pc L (v :: st) σ Q := by
  intro l D ad cA cZ p e s m args below meth c H locs ls hC hP hS hL
  obtain ⟨hd, rfl⟩ := d
  exact lv_pop hC.1 hC.2.1 hd ((cv_cat ad v).trans hv) (k l D ad cA cZ p e s m args below meth c H locs ls hC hP hS hL)
theorem tr_goto (d : DJ y pc .goto tgt pc') (k : TT y tgt L st σ Q) : TT y pc L st σ Q := by
  intro l D ad cA cZ p e s m args below meth c H locs ls hC hP hS hL
  obtain ⟨off, hd, ht, rfl⟩ := d
  exact lv_goto hC.1 hC.2.1 hd ht (k l D ad cA cZ p e s m args below meth c H locs ls hC hP hS hL)
theorem tr_icmp_eq {a b : Int32} (d : DJ y pc (.if_icmp .eq) tgt pc') (k : (a = b) → TT y tgt L st σ Q) (k2 : ¬ (a = b) → TT y pc' L st σ Q) : TT y pc L (.int b :: .int a :: st) σ Q := by
  intro l D ad cA cZ p e s m args below meth c H locs ls hC hP hS hL
  obtain ⟨off, hd, ht, rfl⟩ := d
  exact lv_icmp_eq hC.1 hC.2.1 hd ht (fun h => k h l D ad cA cZ p e s m args below meth c H locs ls hC hP hS hL) (fun h => k2 h l D ad cA cZ p e s m args below meth c H locs ls hC hP hS hL)
theorem tr_icmp_ne {a b : Int32} (d : DJ y pc (.if_icmp .ne) tgt pc') (k : (¬ a = b) → TT y tgt L st σ Q) (k2 : a = b → TT y pc' L st σ Q) : TT y pc L (.int b :: .int a :: st) σ Q := by
  intro l D ad cA cZ p e s m args below meth c H locs ls hC hP hS hL
  obtain ⟨off, hd, ht, rfl⟩ := d
  exact lv_icmp_ne hC.1 hC.2.1 hd ht (fun h => k h l D ad cA cZ p e s m args below meth c H locs ls hC hP hS hL) (fun h => k2 h l D ad cA cZ p e s m args below meth c H locs ls hC hP hS hL)
theorem tr_icmp_lt {a b : Int32} (d : DJ y pc (.if_icmp .lt) tgt pc') (k : (a < b) → TT y tgt L st σ Q) (k2 : ¬ (a < b) → TT y pc' L st σ Q) : TT y pc L (.int b :: .int a :: st) σ Q := by
  intro l D ad cA cZ p e s m args below meth c H locs ls hC hP hS hL
  obtain ⟨off, hd, ht, rfl⟩ := d
  exact lv_icmp_lt hC.1 hC.2.1 hd ht (fun h => k h l D ad cA cZ p e s m args below meth c H locs ls hC hP hS hL) (fun h => k2 h l D ad cA cZ p e s m args below meth c H locs ls hC hP hS hL)
theorem tr_icmp_ge {a b : Int32} (d : DJ y pc (.if_icmp .ge) tgt pc') (k : (b ≤ a) → TT y tgt L st σ Q) (k2 : ¬ (b ≤ a) → TT y pc' L st σ Q) : TT y pc L (.int b :: .int a :: st) σ Q := by
  intro l D ad cA cZ p e s m args below meth c H locs ls hC hP hS hL
  obtain ⟨off, hd, ht, rfl⟩ := d
  exact lv_icmp_ge hC.1 hC.2.1 hd ht (fun h => k h l D ad cA cZ p e s m args below meth c H locs ls hC hP hS hL) (fun h => k2 h l D ad cA cZ p e s m args below meth c H locs ls hC hP hS hL)
theorem tr_icmp_gt {a b : Int32} (d : DJ y pc (.if_icmp .gt) tgt pc') (k : (b < a) → TT y tgt L st σ Q) (k2 : ¬ (b < a) → TT y pc' L st σ Q) : TT y pc L (.int b :: .int a :: st) σ Q := by
  intro l D ad cA cZ p e s m args below meth c H locs ls hC hP hS hL
  obtain ⟨off, hd, ht, rfl⟩ := d
  exact lv_icmp_gt hC.1 hC.2.1 hd ht (fun h => k h l D ad cA cZ p e s m args below meth c H locs ls hC hP hS hL) (fun h => k2 h l D ad cA cZ p e s m args below meth c H locs ls hC hP hS hL)
theorem tr_icmp_le {a b : Int32} (d : DJ y pc (.if_icmp .le) tgt pc') (k : (a ≤ b) → TT y tgt L st σ Q) (k2 : ¬ (a ≤ b) → TT y pc' L st σ Q) : TT y pc L (.int b :: .int a :: st) σ Q := by
  intro l D ad cA cZ p e s m args below meth c H locs ls hC hP hS hL
  obtain ⟨off, hd, ht, rfl⟩ := d
  exact lv_icmp_le hC.1 hC.2.1 hd ht (fun h => k h l D ad cA cZ p e s m args below meth c H locs ls hC hP hS hL) (fun h => k2 h l D ad cA cZ p e s m args below meth c H locs ls hC hP hS hL)
theorem tr_if_eq {a : Int32} (d : DJ y pc (.ifCond .eq) tgt pc') (k : (a = 0) → TT y tgt L st σ Q) (k2 : ¬ (a = 0) → TT y pc' L st σ Q) : TT y pc L (.int a :: st) σ Q := by
  intro l D ad cA cZ p e s m args below meth c H locs ls hC hP hS hL
  obtain ⟨off, hd, ht, rfl⟩ := d
  exact lv_if_eq hC.1 hC.2.1 hd ht (fun h => k h l D ad cA cZ p e s m args below meth c H locs ls hC hP hS hL) (fun h => k2 h l D ad cA cZ p e s m args below meth c H locs ls hC hP hS hL)
theorem tr_if_ne {a : Int32} (d : DJ y pc (.ifCond .ne) tgt pc') (k : (¬ a = 0) → TT y tgt L st σ Q) (k2 : a = 0 → TT y pc' L st σ Q) : TT y pc L (.int a :: st) σ Q := by
  intro l D ad cA cZ p e s m args below meth c H locs ls hC hP hS hL
  obtain ⟨off, hd, ht, rfl⟩ := d
  exact lv_if_ne hC.1 hC.2.1 hd ht (fun h => k h l D ad cA cZ p e s m args below meth c H locs ls hC hP hS hL) (fun h => k2 h l D ad cA cZ p e s m args below meth c H locs ls hC hP hS hL)
theorem tr_if_lt {a : Int32} (d : DJ y pc (.ifCond .lt) tgt pc') (k : (a < 0) → TT y tgt L st σ Q) (k2 : ¬ (a < 0) → TT y pc' L st σ Q) : TT y pc L (.int a :: st) σ Q := by
  intro l D ad cA cZ p e s m args below meth c H locs ls hC hP hS hL
  obtain ⟨off, hd, ht, rfl⟩ := d
  exact lv_if_lt hC.1 hC.2.1 hd ht (fun h => k h l D ad cA cZ p e s m args below meth c H locs ls hC hP hS hL) (fun h => k2 h l D ad cA cZ p e s m args below meth c H locs ls hC hP hS hL)
theorem tr_if_ge {a : Int32} (d : DJ y pc (.ifCond .ge) tgt pc') (k : (0 ≤ a) → TT y tgt L st σ Q) (k2 : ¬ (0 ≤ a) → TT y pc' L st σ Q) : TT y pc L (.int a :: st) σ Q := by
  intro l D ad cA cZ p e s m args below meth c H locs ls hC hP hS hL
  obtain ⟨off, hd, ht, rfl⟩ := d
  exact lv_if_ge hC.1 hC.2.1 hd ht (fun h => k h l D ad cA cZ p e s m args below meth c H locs ls hC hP hS hL) (fun h => k2 h l D ad cA cZ p e s m args below meth c H locs ls hC hP hS hL)
theorem tr_if_gt {a : Int32} (d : DJ y pc (.ifCond .gt) tgt pc') (k : (0 < a) → TT y tgt L st σ Q) (k2 : ¬ (0 < a) → TT y pc' L st σ Q) : TT y pc L (.int a :: st) σ Q := by
  intro l D ad cA cZ p e s m args below meth c H locs ls hC hP hS hL
  obtain ⟨off, hd, ht, rfl⟩ := d
  exact lv_if_gt hC.1 hC.2.1 hd ht (fun h => k h l D ad cA cZ p e s m args below meth c H locs ls hC hP hS hL) (fun h => k2 h l D ad cA cZ p e s m args below meth c H locs ls hC hP hS hL)
theorem tr_if_le {a : Int32} (d : DJ y pc (.ifCond .le) tgt pc') (k : (a ≤ 0) → TT y tgt L st σ Q) (k2 : ¬ (a ≤ 0) → TT y pc' L st σ Q) : TT y pc L (.int a :: st) σ Q := by
  intro l D ad cA cZ p e s m args below meth c H locs ls hC hP hS hL
  obtain ⟨off, hd, ht, rfl⟩ := d
  exact lv_if_le hC.1 hC.2.1 hd ht (fun h => k h l D ad cA cZ p e s m args below meth c H locs ls hC hP hS hL) (fun h => k2 h l D ad cA cZ p e s m args below meth c H locs ls hC hP hS hL)
theorem tLR_set {ad : Nat → Nat} {ls' : Array Slot} {n i : Nat} {v : Value} (h' : lv_has ls' n ((i, cv ad v) :: ((L.zipIdx.filterMap (fun q => if q.1 = .null then none else some (q.2, cv ad q.1))).filter (fun q => !(q.1 == i) && !(q.1 + 1 == i && q.2.category == 2))))) (hc : ∀ w ∈ L, w.category = 1 ∨ w = .null) : tLR ad ls' n (L.set i v) := by
  refine ⟨h'.1, h'.2.1, fun k w hk hw => ?_⟩
  by_cases hki : k = i
  · subst hki
    have hlt : k < L.length := by
      have := (List.getElem?_eq_some_iff.mp hk).1
      simpa using this
    rw [List.getElem?_set_self hlt] at hk
    cases hk
    exact h'.2.2 (k, cv ad v) List.mem_cons_self
  · rw [List.getElem?_set_ne (Ne.symm hki)] at hk
    refine h'.2.2 (k, cv ad w) (List.mem_cons_of_mem _ (List.mem_filter.mpr ⟨List.mem_filterMap.mpr ⟨(w, k), ?_, by simp [hw]⟩, ?_⟩))
    · exact List.mem_zipIdx_iff_getElem?.mpr hk
    · have h1 : (cv ad w).category = 1 := by
        rw [cv_cat]
        rcases hc w (List.mem_of_getElem? hk) with h | h
        · exact h
        · exact absurd h hw
      simp [hki, h1]
theorem tLR_has {ad : Nat → Nat} {ls : Array Slot} {n : Nat} (h : tLR ad ls n L) : lv_has ls n (L.zipIdx.filterMap (fun q => if q.1 = .null then none else some (q.2, cv ad q.1))) := by
  refine ⟨h.1, h.2.1, fun q hq => ?_⟩
  obtain ⟨⟨w, k⟩, h1, h2⟩ := List.mem_filterMap.mp hq
  by_cases hw : w = .null
  · simp [hw] at h2
  · simp [hw] at h2
    subst h2
    exact h.2.2 k w (List.mem_zipIdx_iff_getElem?.mp h1) hw
/-- all locals are ints, cells or unset -/
def tC1 (L : List Value) : Bool := L.all (fun w => match w with
  | .int _ => true
  | .ref _ => true
  | .null => true
  | _ => false)
theorem tC1_all (h : tC1 L = true) : ∀ w ∈ L, w.category = 1 ∨ w = .null := by
  intro w hw
  have := List.all_eq_true.mp h w hw
  cases w <;> simp_all [Value.category]
theorem tr_istore_n {i : Fin 4} {x : Int32} (d : DC y pc (.istore_n i) 1 pc') (hi : (i : Nat) < y.2.2.1) (hc : tC1 L = true) (k : TT y pc' (L.set (i : Nat) (.int x)) st σ Q) : TT y pc L (.int x :: st) σ Q := by
  intro l D ad cA cZ p e s m args below meth c H locs ls hC hP hS hL
  obtain ⟨hd, rfl⟩ := d
  exact lv_istore_n hC.1 hC.2.1 hd rfl (tLR_has hL) hi rfl (fun ls' h' => k l D ad cA cZ p e s m args below meth c H locs ls' hC hP hS (tLR_set (v := .int x) h' (tC1_all hc)))
theorem tr_istore {i : Nat} {x : Int32} (d : DC y pc (.istore i) 2 pc') (hi : (i : Nat) < y.2.2.1) (hc : tC1 L = true) (k : TT y pc' (L.set (i : Nat) (.int x)) st σ Q) : TT y pc L (.int x :: st) σ Q := by
  intro l D ad cA cZ p e s m args below meth c H locs ls hC hP hS hL
  obtain ⟨hd, rfl⟩ := d
  exact lv_istore hC.1 hC.2.1 hd (tLR_has hL) hi rfl (fun ls' h' => k l D ad cA cZ p e s m args below meth c H locs ls' hC hP hS (tLR_set (v := .int x) h' (tC1_all hc)))
theorem tr_astore_n {i : Fin 4} {x : Nat} (d : DC y pc (.astore_n i) 1 pc') (hi : (i : Nat) < y.2.2.1) (hc : tC1 L = true) (k : TT y pc' (L.set (i : Nat) (.ref x)) st σ Q) : TT y pc L (.ref x :: st) σ Q := by
  intro l D ad cA cZ p e s m args below meth c H locs ls hC hP hS hL
  obtain ⟨hd, rfl⟩ := d
  exact lv_astore_n hC.1 hC.2.1 hd rfl (tLR_has hL) hi rfl (fun ls' h' => k l D ad cA cZ p e s m args below meth c H locs ls' hC hP hS (tLR_set (v := .ref x) h' (tC1_all hc)))
theorem tr_astore {i : Nat} {x : Nat} (d : DC y pc (.astore i) 2 pc') (hi : (i : Nat) < y.2.2.1) (hc : tC1 L = true) (k : TT y pc' (L.set (i : Nat) (.ref x)) st σ Q) : TT y pc L (.ref x :: st) σ Q := by
  intro l D ad cA cZ p e s m args below meth c H locs ls hC hP hS hL
  obtain ⟨hd, rfl⟩ := d
  exact lv_astore hC.1 hC.2.1 hd (tLR_has hL) hi rfl (fun ls' h' => k l D ad cA cZ p e s m args below meth c H locs ls' hC hP hS (tLR_set (v := .ref x) h' (tC1_all hc)))
theorem tr_iinc {i : Nat} {n : Int} {x : Int32} (d : DC y pc (.iinc i n) 3 pc') (v : Int32) (hv : x + Int32.ofInt n = v) (hl : L[i]? = some (.int x)) (hi : i < y.2.2.1) (hc : tC1 L = true) (k : TT y pc' (L.set i (.int v)) st σ Q) : TT y pc L st σ Q := by
  intro l D ad cA cZ p e s m args below meth c H locs ls hC hP hS hL
  obtain ⟨hd, rfl⟩ := d
  have hm : (i, Value.int x) ∈ L.zipIdx.filterMap (fun q => if q.1 = .null then none else some (q.2, cv ad q.1)) := List.mem_filterMap.mpr ⟨(.int x, i), List.mem_zipIdx_iff_getElem?.mpr hl, rfl⟩
  obtain ⟨kk, hkk⟩ := List.getElem?_of_mem hm
  exact lv_iinc hC.1 hC.2.1 hd (tLR_has hL) hkk hv hi rfl (fun ls' h' => k l D ad cA cZ p e s m args below meth c H locs ls' hC hP hS (tLR_set (v := .int v) h' (tC1_all hc)))
theorem tr_ret {v : Int32} {ty : FieldType} (d : DC y pc .ireturn 1 pc') (hr : y.2.2.2.1 = some ty) (hn : narrow ty (.int v) = .int v) (hq : Q (some v) σ) : TT y pc L [.int v] σ Q := by
  intro l D ad cA cZ p e s m args below meth c H locs ls hC hP hS hL
  exact W.zret hC.1 hC.2.1 (hC.2.2.2.1.trans hr) hn (fun t ht hW => ⟨⟨some v, σ, rfl, hq, by rw [ht]; exact hP⟩, hS.F ht⟩) hS.2.2 d.1 hC.2.2.2.2.1
theorem tr_vret (d : DC y pc .return_ 1 pc') (hr : y.2.2.2.1 = none) (hq : Q none σ) : TT y pc L [] σ Q := by
  intro l D ad cA cZ p e s m args below meth c H locs ls hC hP hS hL
  exact W.vret hC.1 hC.2.1 (hC.2.2.2.1.trans hr) (fun t ht hW => ⟨⟨none, σ, rfl, hq, by rw [ht]; exact hP⟩, hS.F ht⟩) hS.2.2 d.1 hC.2.2.2.2.1
end TROWS
