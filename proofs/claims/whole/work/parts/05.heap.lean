/-! ROWS OVER THE WORLD: fields, arrays, statics, calls -/
theorem shp_ok (w : Nat) : (shp w).all (fun q => match q with
  | .inl a => decide (a.2 < 2 ^ 31)
  | .inr o => decide (o.2.length < 2 ^ 31)) = true := by
  unfold shp
  split <;> decide
theorem shp_n {w k : Nat} {b : Bool} {n : Nat} (h : (shp w)[k]? = some (.inl (b, n))) : n < 2 ^ 31 := by
  have := List.all_eq_true.mp (shp_ok w) _ (List.mem_of_getElem? h)
  simpa using this
theorem shp_f {w k : Nat} {ci : Nat} {fs : List (Option Nat)} (h : (shp w)[k]? = some (.inr (ci, fs))) : fs.length < 2 ^ 31 := by
  have := List.all_eq_true.mp (shp_ok w) _ (List.mem_of_getElem? h)
  simpa using this
def tCF (ci : Nat) (C : String) (T : u_T) (N : Nat) (ty : Nat → FieldType) : Prop := vwCl[ci]? = some (C, T, N) ∧ (∀ w ∈ u_ws C T N, tWD w) ∧ (∀ k, k < N → parseFieldDescriptor (T k).2.2.1 = some (ty k)) ∧ (∀ a, a < N → ∀ b, b < N → a ≠ b → (T a).2.1 ≠ (T b).2.1)
def tLF (own : String) (ix : Nat) (C n d : String) : Prop := tWD (.fieldLink own ix C n d) ∨ tWD (.fieldLinkNest own ix C n d "ApronDesk")
def tFK (own : String) (ix ci i : Nat) : Prop := ∃ (C : String) (T : u_T) (N : Nat) (ty : Nat → FieldType), tCF ci C T N ty ∧ i < N ∧ (T i).1 = C ∧ tLF own ix C (T i).2.1 (T i).2.2.1
def tFP (own : String) (ix ci i : Nat) : Prop := ∃ (C : String) (T : u_T) (N : Nat) (ty : Nat → FieldType), tCF ci C T N ty ∧ i < N ∧ (T i).1 = C ∧ tLF own ix C (T i).2.1 (T i).2.2.1 ∧ (T i).2.2.2 = false ∧ ty i = .int
def psh (r : Option Int32) (st : List Value) : List Value := match r with
  | some x => .int x :: st
  | none => st
section THEAP
variable {y : tMS} {pc pc' tgt : Nat} {L st : List Value} {σ : tSt} {Q : Option Int32 → tSt → Prop}
theorem tr_getf {k ci ix i : Nat} {fs : List (Option Nat)} {o : Option Nat} {v : Value} (d : DC y pc (.getfield ix) 3 pc') (hf : tFK y.1.cls ix ci i) (hs : (shp y.2.2.2.2.2)[k]? = some (.inr (ci, fs))) (ho : fs[i]? = some o) (hv : ∀ ad, cv ad v = tfld ad (σ k) i o) (kk : TT y pc' L (v :: st) σ Q) : TT y pc L (.ref k :: st) σ Q := by
  intro l D ad cA cZ p e s m args below meth c H locs ls hC hP hS hL
  obtain ⟨hd, rfl⟩ := d
  obtain ⟨C, T, N, ty, ⟨h1, h2, h3, h4⟩, hi, hT, hl⟩ := hf
  obtain ⟨hx, hb, hml, hr, hlk, hown, hTB, hK, hI, hF⟩ := hC
  have hk := kk l D ad cA cZ p e s m args below meth c H locs ls ⟨hx, hb, hml, hr, hlk, hown, hTB, hK, hI, hF⟩ hP hS hL
  have hvv : (fs.mapIdx (tfld ad (σ k)))[i]? = some (cv ad v) := by rw [List.getElem?_mapIdx, ho, hv]; rfl
  rcases hl with hl | hl
  · exact va_get hx hb (own := y.1.cls) (ref := C) (fun w hw => tTB.use hTB (h2 w hw)) (fun _ h => h) hown hK hP k (tpic_at hs) h1 i hi (tTB.use hTB hl) (fun x h => by rw [hT] at h; exact h) hvv hd hk
  · exact va_getN hx hb (own := y.1.cls) (ref := C) (fun w hw => tTB.use hTB (h2 w hw)) (fun _ h => h) hown hK hP k (tpic_at hs) h1 i hi (tTB.use hTB hl) (fun x h => by rw [hT] at h; exact h) hvv hd hk
theorem tr_getI {k ci ix i : Nat} {fs : List (Option Nat)} (d : DC y pc (.getfield ix) 3 pc') (hf : tFK y.1.cls ix ci i) (hs : (shp y.2.2.2.2.2)[k]? = some (.inr (ci, fs))) (ho : fs[i]? = some none) (kk : TT y pc' L (.int (σ k (nI i)) :: st) σ Q) : TT y pc L (.ref k :: st) σ Q := tr_getf d hf hs ho (fun _ => rfl) kk
theorem tr_getR {k ci ix i j : Nat} {fs : List (Option Nat)} (d : DC y pc (.getfield ix) 3 pc') (hf : tFK y.1.cls ix ci i) (hs : (shp y.2.2.2.2.2)[k]? = some (.inr (ci, fs))) (ho : fs[i]? = some (some j)) (kk : TT y pc' L (.ref j :: st) σ Q) : TT y pc L (.ref k :: st) σ Q := tr_getf d hf hs ho (fun _ => rfl) kk
theorem tr_put {k ci ix i : Nat} {fs : List (Option Nat)} {x : Int32} (d : DC y pc (.putfield ix) 3 pc') (hf : tFP y.1.cls ix ci i) (hs : (shp y.2.2.2.2.2)[k]? = some (.inr (ci, fs))) (ho : fs[i]? = some none) (kk : TT y pc' L st (up σ k (nI i) x) Q) : TT y pc L (.int x :: .ref k :: st) σ Q := by
  intro l D ad cA cZ p e s m args below meth c H locs ls hC hP hS hL
  obtain ⟨hd, rfl⟩ := d
  obtain ⟨C, T, N, ty, ⟨h1, h2, h3, h4⟩, hi, hT, hl, hfin, hty⟩ := hf
  obtain ⟨hx, hb, hml, hr, hlk, hown, hTB, hK, hI, hF⟩ := hC
  have hl2 : i < (fs.mapIdx (tfld ad (σ k))).length := by simpa using (List.getElem?_eq_some_iff.mp ho).1
  rcases hl with hl | hl
  · exact va_put hx hb (own := y.1.cls) (ref := C) (fun w hw => tTB.use hTB (h2 w hw)) (fun _ h => h) ty h3 h4 hown hK hP (tpic_D hI) hS k (tpic_at hs) h1 i hi (tTB.use hTB hl) (fun x h => by rw [hT] at h; exact h) hfin (by rw [h3 i hi, hty]) rfl rfl hl2 hd
      (fun H1 locs1 hP1 _ hS1 => kk l D ad cA cZ p e s m args below meth c H1 locs1 ls ⟨hx, hb, hml, hr, hlk, hown, hTB, hK, hI, hF⟩ (tput_fld hs ho (shp_f hs) hP1) hS1 hL)
  · exact va_putN hx hb (own := y.1.cls) (ref := C) (fun w hw => tTB.use hTB (h2 w hw)) (fun _ h => h) ty h3 h4 hown hK hP (tpic_D hI) hS k (tpic_at hs) h1 i hi (tTB.use hTB hl) (fun x h => by rw [hT] at h; exact h) hfin (by rw [h3 i hi, hty]) rfl rfl hl2 hd
      (fun H1 locs1 hP1 _ hS1 => kk l D ad cA cZ p e s m args below meth c H1 locs1 ls ⟨hx, hb, hml, hr, hlk, hown, hTB, hK, hI, hF⟩ (tput_fld hs ho (shp_f hs) hP1) hS1 hL)
theorem tr_iald {k n : Nat} {i : Int32} (d : DC y pc .iaload 1 pc') (hs : (shp y.2.2.2.2.2)[k]? = some (.inl (false, n))) (hi : vp_in i n) (kk : TT y pc' L (.int (σ k i) :: st) σ Q) : TT y pc L (.int i :: .ref k :: st) σ Q := by
  intro l D ad cA cZ p e s m args below meth c H locs ls hC hP hS hL
  obtain ⟨hd, rfl⟩ := d
  have hk := kk l D ad cA cZ p e s m args below meth c H locs ls hC hP hS hL
  have he := (vp_in_eq hi (shp_n hs)).2
  refine va_iald hC.1 hC.2.1 hC.2.2.2.2.2.2.2.1 hP k 0 (tpic_at hs) rfl hi hd ?_
  rw [he]
  exact hk
theorem tr_zald {k n : Nat} {i : Int32} (d : DC y pc .baload 1 pc') (hs : (shp y.2.2.2.2.2)[k]? = some (.inl (true, n))) (hi : vp_in i n) (kk : TT y pc' L (.int (σ k i) :: st) σ Q) : TT y pc L (.int i :: .ref k :: st) σ Q := by
  intro l D ad cA cZ p e s m args below meth c H locs ls hC hP hS hL
  obtain ⟨hd, rfl⟩ := d
  have hk := kk l D ad cA cZ p e s m args below meth c H locs ls hC hP hS hL
  have he := (vp_in_eq hi (shp_n hs)).2
  refine va_zald hC.1 hC.2.1 hC.2.2.2.2.2.2.2.1 hP k 1 (tpic_at hs) rfl hi hd ?_
  rw [he]
  exact hk
theorem tr_iast {k n : Nat} {i x : Int32} (d : DC y pc .iastore 1 pc') (hs : (shp y.2.2.2.2.2)[k]? = some (.inl (false, n))) (hi : vp_in i n) (kk : TT y pc' L st (up σ k i x) Q) : TT y pc L (.int x :: .int i :: .ref k :: st) σ Q := by
  intro l D ad cA cZ p e s m args below meth c H locs ls hC hP hS hL
  obtain ⟨hd, rfl⟩ := d
  exact va_iast hC.1 hC.2.1 hC.2.2.2.2.2.2.2.1 hP (tpic_D hC.2.2.2.2.2.2.2.2.1) hS k 0 (tpic_at hs) rfl hi hd (fun H1 locs1 hP1 _ hS1 => kk l D ad cA cZ p e s m args below meth c H1 locs1 ls hC (tput_arr hs (shp_n hs) hi hP1) hS1 hL)
theorem tr_zast {k n : Nat} {i x : Int32} (d : DC y pc .bastore 1 pc') (hs : (shp y.2.2.2.2.2)[k]? = some (.inl (true, n))) (hi : vp_in i n) (hx : vp_nar .boolean x = x) (kk : TT y pc' L st (up σ k i x) Q) : TT y pc L (.int x :: .int i :: .ref k :: st) σ Q := by
  intro l D ad cA cZ p e s m args below meth c H locs ls hC hP hS hL
  obtain ⟨hd, rfl⟩ := d
  refine va_zast hC.1 hC.2.1 hC.2.2.2.2.2.2.2.1 hP (tpic_D hC.2.2.2.2.2.2.2.2.1) hS k 1 (tpic_at hs) rfl hi hd (fun H1 locs1 hP1 _ hS1 => ?_)
  rw [hx] at hP1
  exact kk l D ad cA cZ p e s m args below meth c H1 locs1 ls hC (tput_arr hs (shp_n hs) hi hP1) hS1 hL
/-- the two static rows of the class: cells 100 and 101 -/
def tTab (k : Nat) (i : Int32) : Int32 := if k = 100 then frO i else coO i
def tTl (k : Nat) : Nat := if k = 100 then 3 else 5
theorem tr_tald {k : Nat} {i : Int32} (d : DC y pc .iaload 1 pc') (hw : y.2.2.2.2.2 = 0) (hk : k = 100 ∨ k = 101) (hi : vp_in i (tTl k)) (kk : TT y pc' L (.int (tTab k i) :: st) σ Q) : TT y pc L (.int i :: .ref k :: st) σ Q := by
  intro l D ad cA cZ p e s m args below meth c H locs ls hC hP hS hL
  obtain ⟨hd, rfl⟩ := d
  have hkk := kk l D ad cA cZ p e s m args below meth c H locs ls hC hP hS hL
  obtain ⟨⟨h1, h2⟩, h3, h4⟩ := hC.2.2.2.2.2.2.2.2.2 hw
  rcases hk with rfl | rfl
  · have he := (vp_in_eq hi (by decide)).2
    exact va_ti hC.1 hC.2.1 h2 hS hi (v := .int (frO i)) (by rw [he]) hd hkk
  · have he := (vp_in_eq hi (by decide)).2
    exact va_ti hC.1 hC.2.1 h4 hS hi (v := .int (coO i)) (by rw [he]) hd hkk
theorem tr_tlen {k : Nat} (d : DC y pc .arraylength 1 pc') (hw : y.2.2.2.2.2 = 0) (hk : k = 100 ∨ k = 101) (kk : TT y pc' L (.int (nI (tTl k)) :: st) σ Q) : TT y pc L (.ref k :: st) σ Q := by
  intro l D ad cA cZ p e s m args below meth c H locs ls hC hP hS hL
  obtain ⟨hd, rfl⟩ := d
  have hkk := kk l D ad cA cZ p e s m args below meth c H locs ls hC hP hS hL
  obtain ⟨⟨h1, h2⟩, h3, h4⟩ := hC.2.2.2.2.2.2.2.2.2 hw
  rcases hk with rfl | rfl
  · exact va_tlen hC.1 hC.2.1 h2 hS rfl hd hkk
  · exact va_tlen hC.1 hC.2.1 h4 hS rfl hd hkk
theorem tr_gets {k ix : Nat} {n : String} (d : DC y pc (.getstatic ix) 3 pc') (hw : y.2.2.2.2.2 = 0) (hk : (k = 100 ∧ n = "FREIGHT_ORDER") ∨ (k = 101 ∧ n = "COMMON_ORDER")) (hl : tLF y.1.cls ix "ApronDesk" n "[I") (kk : TT y pc' L (.ref k :: st) σ Q) : TT y pc L st σ Q := by
  intro l D ad cA cZ p e s m args below meth c H locs ls hC hP hS hL
  obtain ⟨hd, rfl⟩ := d
  have hkk := kk l D ad cA cZ p e s m args below meth c H locs ls hC hP hS hL
  obtain ⟨⟨h1, h2⟩, h3, h4⟩ := hC.2.2.2.2.2.2.2.2.2 hw
  have hTB := hC.2.2.2.2.2.2.1
  rcases hk with ⟨rfl, rfl⟩ | ⟨rfl, rfl⟩ <;> rcases hl with hl | hl
  · exact va_gets hC.1 hC.2.1 h1 hS hC.2.2.2.2.2.1 (tTB.use hTB hl) (fun _ h => h) hd hkk
  · exact va_getsN hC.1 hC.2.1 h1 hS hC.2.2.2.2.2.1 (tTB.use hTB hl) (fun _ h => h) hd hkk
  · exact va_gets hC.1 hC.2.1 h3 hS hC.2.2.2.2.2.1 (tTB.use hTB hl) (fun _ h => h) hd hkk
  · exact va_getsN hC.1 hC.2.1 h3 hS hC.2.2.2.2.2.1 (tTB.use hTB hl) (fun _ h => h) hd hkk
theorem tr_tabIn {dflt lo hi : Int} {offs : Array Int} {len : Nat} {x : Int32} {off : Int} (d : decode y.2.1 pc = .ok (.tableswitch dflt lo hi offs, len)) (h1 : ¬ x.toInt < lo) (h2 : ¬ hi < x.toInt) (ho : offs[(x.toInt - lo).toNat]? = some off) (ht : (pc : Int) + off = (tgt : Int)) (k : TT y tgt L st σ Q) : TT y pc L (.int x :: st) σ Q := by
  intro l D ad cA cZ p e s m args below meth c H locs ls hC hP hS hL
  exact lv_tableIn hC.1 hC.2.1 d h1 h2 ho ht (k l D ad cA cZ p e s m args below meth c H locs ls hC hP hS hL)
theorem tr_tabOut {dflt lo hi : Int} {offs : Array Int} {len : Nat} {x : Int32} (d : decode y.2.1 pc = .ok (.tableswitch dflt lo hi offs, len)) (h : x.toInt < lo ∨ hi < x.toInt) (ht : (pc : Int) + dflt = (tgt : Int)) (k : TT y tgt L st σ Q) : TT y pc L (.int x :: st) σ Q := by
  intro l D ad cA cZ p e s m args below meth c H locs ls hC hP hS hL
  exact lv_tableOut hC.1 hC.2.1 d h ht (k l D ad cA cZ p e s m args below meth c H locs ls hC hP hS hL)
theorem cv_sum (ad : Nat → Nat) (st : List Value) : ((st.map (cv ad)).map fun v => v.category).sum = (st.map fun v => v.category).sum := by
  rw [List.map_map]
  exact congrArg List.sum (List.map_congr_left fun v _ => cv_cat ad v)
theorem tr_max {a b : Int32} {ix : Nat} (d : DC y pc (.invokestatic ix) 3 pc') (hl : tWD (.methodLink y.1.cls ix Lib.Math.max.name)) (h1 : tWD (.static Lib.Math.max.name)) (h2 : tWD (.initialized "java/lang/Math")) (h3 : tWD (.code Lib.Math.max.name Lib.Math.max.code 2 (some .int))) (hR : 1 ≤ y.2.2.2.2.1.frames) (hR2 : (st.map fun v => v.category).sum + 13 ≤ y.2.2.2.2.1.locals) (kk : TT y pc' L (.int (if a < b then b else a) :: st) σ Q) : TT y pc L (.int b :: .int a :: st) σ Q := by
  intro l D ad cA cZ p e s m args below meth c H locs ls hC hP hS hL
  obtain ⟨hd, rfl⟩ := d
  have hTB := hC.2.2.2.2.2.2.1
  exact va_mmax hC.1 hC.2.1 (hC.2.2.1.trans hL.1.symm) hC.2.2.2.2.2.1 (tTB.use hTB hl) (tTB.use hTB h1) (tTB.use hTB h2) (tTB.use hTB h3) hR (by rw [cv_sum]; exact hR2) (Nat.zero_le _) (Nat.zero_le _) hd (kk l D ad cA cZ p e s m args below meth c H locs ls hC hP hS hL)
theorem tr_min {a b : Int32} {ix : Nat} (d : DC y pc (.invokestatic ix) 3 pc') (hl : tWD (.methodLink y.1.cls ix Lib.Math.min.name)) (h1 : tWD (.static Lib.Math.min.name)) (h2 : tWD (.initialized "java/lang/Math")) (h3 : tWD (.code Lib.Math.min.name Lib.Math.min.code 2 (some .int))) (hR : 1 ≤ y.2.2.2.2.1.frames) (hR2 : (st.map fun v => v.category).sum + 13 ≤ y.2.2.2.2.1.locals) (kk : TT y pc' L (.int (if b < a then b else a) :: st) σ Q) : TT y pc L (.int b :: .int a :: st) σ Q := by
  intro l D ad cA cZ p e s m args below meth c H locs ls hC hP hS hL
  obtain ⟨hd, rfl⟩ := d
  have hTB := hC.2.2.2.2.2.2.1
  exact va_mmin hC.1 hC.2.1 (hC.2.2.1.trans hL.1.symm) hC.2.2.2.2.2.1 (tTB.use hTB hl) (tTB.use hTB h1) (tTB.use hTB h2) (tTB.use hTB h3) hR (by rw [cv_sum]; exact hR2) (Nat.zero_le _) (Nat.zero_le _) hd (kk l D ad cA cZ p e s m args below meth c H locs ls hC hP hS hL)
end THEAP
