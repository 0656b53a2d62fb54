/-! THE JUDGEMENT: a world of fixed cells, by numbers; a store gives each cell's ints. -/
abbrev tSt : Type := Nat → Int32 → Int32
abbrev tSC : Type := (Bool × Nat) ⊕ (Nat × List (Option Nat))
abbrev tSh : Type := List tSC
/-- a method: its name, code, locals, answer, room, world -/
abbrev tMS : Type := MethodName × ByteArray × Nat × Option FieldType × Room × Nat
def cv (ad : Nat → Nat) (v : Value) : Value := match v with
  | .ref k => .ref (ad k)
  | v => v
def tfld (ad : Nat → Nat) (f : Int32 → Int32) (i : Nat) (o : Option Nat) : Value := match o with
  | some j => .ref (ad j)
  | none => .int (f (nI i))
def tent (ad : Nat → Nat) (cA cZ : ClassId) (f : Int32 → Int32) (q : tSC) : va_E := match q with
  | .inl (b, n) => .inl (bif b then cZ else cA, n, .inl (fun j => f (nI j)))
  | .inr (ci, fs) => .inr (ci, fs.mapIdx (tfld ad f))
def tpic (ad : Nat → Nat) (cA cZ : ClassId) (sh : tSh) (σ : tSt) : va_W := sh.mapIdx (fun k q => (ad k, tent ad cA cZ (σ k) q))
theorem tpic_at {ad : Nat → Nat} {cA cZ : ClassId} {sh : tSh} {σ : tSt} {k : Nat} {q : tSC} (h : sh[k]? = some q) : (tpic ad cA cZ sh σ)[k]? = some (ad k, tent ad cA cZ (σ k) q) := by
  simp [tpic, h]
theorem tpic_of {ad : Nat → Nat} {cA cZ : ClassId} {sh : tSh} {σ : tSt} {k : Nat} {x : Nat × va_E} (h : (tpic ad cA cZ sh σ)[k]? = some x) : ∃ q, sh[k]? = some q ∧ x = (ad k, tent ad cA cZ (σ k) q) := by
  simp only [tpic, List.getElem?_mapIdx] at h
  cases hq : sh[k]? with
  | none => rw [hq] at h; cases h
  | some q => rw [hq] at h; exact ⟨q, rfl, (Option.some.inj h).symm⟩
def tInj (ad : Nat → Nat) (n : Nat) : Prop := ∀ i j, i < n → j < n → ad i = ad j → i = j
def tAW (n : Nat) (ad : Nat → Nat) (sz : Nat) : Nat → Prop := fun q => (∃ k, k < n ∧ q = ad k) ∨ sz ≤ q
theorem tpic_D {ad : Nat → Nat} {cA cZ : ClassId} {sh : tSh} {σ : tSt} {sz : Nat} (h : tInj ad sh.length) : va_D (tAW sh.length ad sz) (tpic ad cA cZ sh σ) := by
  refine ⟨fun i j p q hi hj hpq => ?_, fun k q hk => ?_⟩
  · obtain ⟨a, ha, rfl⟩ := tpic_of hi
    obtain ⟨b, hb, rfl⟩ := tpic_of hj
    exact h i j (List.getElem?_eq_some_iff.mp ha).1 (List.getElem?_eq_some_iff.mp hb).1 hpq
  · obtain ⟨a, ha, rfl⟩ := tpic_of hk
    exact Or.inl ⟨k, (List.getElem?_eq_some_iff.mp ha).1, rfl⟩
/-- a store with one int changed -/
def up (σ : tSt) (k : Nat) (i x : Int32) : tSt := fun k' => if k' = k then (fun i' => if i' = i then x else σ k i') else σ k'
theorem up_s {σ : tSt} {k : Nat} {i x : Int32} : up σ k i x k i = x := by simp [up]
theorem up_k {σ : tSt} {k k' : Nat} {i x : Int32} (h : k' ≠ k) : up σ k i x k' = σ k' := by simp [up, h]
theorem up_n {σ : tSt} {k k' : Nat} {i i' x : Int32} (h : i' ≠ i) : up σ k i x k' i' = σ k' i' := by
  simp only [up]
  by_cases hk : k' = k
  · subst hk; simp [h]
  · simp [hk]
theorem up_at (σ : tSt) (k : Nat) (i x i' : Int32) : up σ k i x k i' = if i' = i then x else σ k i' := by simp [up]
theorem vcell_congr {c : ClassId} {n : Nat} {f g : Nat → Int32} (h : ∀ j, j < n → f j = g j) : vp_cell c (n, .inl f) = vp_cell c (n, .inl g) := by
  rw [vp_cell_i, vp_cell_i]
  unfold arrV
  congr 1
  apply congrArg
  funext j
  exact congrArg Value.int (h j.val j.isLt)
theorem nI_inj {a b : Nat} (ha : a < 2 ^ 31) (hb : b < 2 ^ 31) (h : nI a = nI b) : a = b := (nI_eq ha hb).mp h
theorem vp_in_eq {i : Int32} {n : Nat} (h : vp_in i n) (hn : n < 2 ^ 31) : i.toNatClampNeg < n ∧ nI i.toNatClampNeg = i := by
  obtain ⟨j, hj, rfl⟩ := vp_in_of h hn
  rw [nI_clamp (by omega)]
  exact ⟨hj, rfl⟩
theorem tput_arr {D : va_G} {cl : List vw_C} {ad : Nat → Nat} {cA cZ : ClassId} {sh : tSh} {σ : tSt} {k : Nat} {b : Bool} {n : Nat} {i x : Int32} {H : Heap} (hs : sh[k]? = some (.inl (b, n))) (hn : n < 2 ^ 31) (hi : vp_in i n)
    (h : va_P D cl ((tpic ad cA cZ sh σ).set k (ad k, .inl (bif b then cZ else cA, n, .inl (upd (fun j => σ k (nI j)) i.toNatClampNeg x)))) H) : va_P D cl (tpic ad cA cZ sh (up σ k i x)) H := by
  obtain ⟨hlt, he⟩ := vp_in_eq hi hn
  have hk : k < (tpic ad cA cZ sh σ).length := (List.getElem?_eq_some_iff.mp (tpic_at hs)).1
  intro k' q hq
  obtain ⟨q', hq', rfl⟩ := tpic_of hq
  by_cases hkk : k' = k
  · subst hkk
    obtain rfl : q' = .inl (b, n) := Option.some.inj (hq'.symm.trans hs)
    have h1 := h k' _ (List.getElem?_set_self hk)
    show H[ad k']? = some (vp_cell _ _)
    refine Eq.trans h1 (congrArg some (vcell_congr fun j hj => ?_))
    simp only [upd, up]
    by_cases hji : j = i.toNatClampNeg
    · subst hji; simp [he]
    · have : nI j ≠ i := fun q => hji (nI_inj (by omega) (by omega) (q.trans he.symm))
      simp [hji, this]
  · have h1 := h k' (ad k', tent ad cA cZ (σ k') q') (by rw [List.getElem?_set_ne (Ne.symm hkk)]; exact tpic_at hq')
    rw [up_k hkk]
    exact h1
theorem tput_fld {D : va_G} {cl : List vw_C} {ad : Nat → Nat} {cA cZ : ClassId} {sh : tSh} {σ : tSt} {k i : Nat} {ci : Nat} {fs : List (Option Nat)} {x : Int32} {H : Heap} (hs : sh[k]? = some (.inr (ci, fs))) (hi : fs[i]? = some none) (hn : fs.length < 2 ^ 31)
    (h : va_P D cl ((tpic ad cA cZ sh σ).set k (ad k, .inr (ci, (fs.mapIdx (tfld ad (σ k))).set i (.int x)))) H) : va_P D cl (tpic ad cA cZ sh (up σ k (nI i) x)) H := by
  have hk : k < (tpic ad cA cZ sh σ).length := (List.getElem?_eq_some_iff.mp (tpic_at hs)).1
  have hil : i < fs.length := (List.getElem?_eq_some_iff.mp hi).1
  intro k' q hq
  obtain ⟨q', hq', rfl⟩ := tpic_of hq
  by_cases hkk : k' = k
  · subst hkk
    obtain rfl : q' = .inr (ci, fs) := Option.some.inj (hq'.symm.trans hs)
    have h1 := h k' _ (List.getElem?_set_self hk)
    have e : (fs.mapIdx (tfld ad (σ k'))).set i (.int x) = fs.mapIdx (tfld ad (up σ k' (nI i) x k')) := by
      apply List.ext_getElem?
      intro j
      by_cases hj : j = i
      · subst hj
        rw [List.getElem?_set_self (by simpa using hil), List.getElem?_mapIdx, hi]
        simp [tfld, up_s]
      · rw [List.getElem?_set_ne (Ne.symm hj), List.getElem?_mapIdx, List.getElem?_mapIdx]
        cases hf : fs[j]? with
        | none => rfl
        | some o =>
          have hjl : j < fs.length := (List.getElem?_eq_some_iff.mp hf).1
          cases o with
          | some _ => rfl
          | none => simp only [Option.map_some, tfld, up_n (show nI j ≠ nI i from fun q => hj (nI_inj (by omega) (by omega) q))]
    rw [e] at h1
    exact h1
  · have h1 := h k' (ad k', tent ad cA cZ (σ k') q') (by rw [List.getElem?_set_ne (Ne.symm hkk)]; exact tpic_at hq')
    rw [up_k hkk]
    exact h1
/-! the tables' words -/
def gw (w : Cond) : Bool := match w with
  | .fieldLinkNest .. => true
  | .methodLinkNest .. => true
  | .arrayClass _ => false
  | w => w.onTables && w.keeps
def tTB (U : State) : Prop := ∀ w ∈ lw_tbl, gw w = true → va_Nw w U
def tWD (w : Cond) : Prop := w ∈ lw_tbl ∧ gw w = true
theorem gw_on {w : Cond} (h : gw w = true) : w.onTables = true := by
  cases w <;> first | rfl | (simp only [gw, Bool.and_eq_true] at h; exact h.1) | (cases h)
theorem tTB.warm {s U : State} (hW : s.WarmedH U.vm) (h : tTB s) : tTB U := by
  intro w hw hg
  have h1 := h w hw hg
  cases w <;> first | exact va_Nw.warmF hW h1 | exact va_Nw.warmM hW h1 | exact word_at hW (Or.inl hg) h1 | cases hg
theorem tTB.same {s U : State} (hv : s.vm = U.vm) (h : tTB s) : tTB U := fun w hw hg => va_Nw.same (gw_on hg) hv (h w hw hg)
theorem tTB.use {s : State} {args : Array Value} (h : tTB s) {w : Cond} (hw : tWD w) : w.before args s = true := va_Nw.use (gw_on hw.2) (h w hw.1 hw.2)
/-! the two worlds -/
def shX : tSh := [
  .inr (6, [some 17, some 18, some 19, some 20, some 21, some 22, none, none, none, none]),
  .inl (false, 24), .inl (false, 24), .inl (false, 40), .inl (false, 40), .inl (false, 40), .inl (false, 40), .inl (false, 20), .inl (false, 20), .inl (false, 20),
  .inl (false, 200), .inl (false, 40), .inl (false, 40), .inl (false, 320), .inl (false, 320), .inl (false, 320), .inl (false, 40),
  .inr (1, [some 1, some 2, some 3, some 4, some 5, some 6, some 7, some 8, some 9, none, none, none]),
  .inr (5, [some 10, some 11, some 12, some 13, some 14, some 15, none, none]),
  .inr (2, [some 17, some 18, some 26, none, none, none, none, none]),
  .inr (4, [some 17, some 18, some 19, some 23, some 27, some 28, none, none, none]),
  .inr (0, [some 18, some 19, some 24, some 25, some 29]),
  .inr (3, [some 30, none]), .inr (3, [some 31, none]), .inr (3, [some 32, none]), .inr (3, [some 16, none]),
  .inl (true, 40), .inl (false, 40), .inl (false, 40), .inl (false, 40), .inl (false, 40), .inl (false, 40), .inl (false, 40)]
def shM : tSh := [
  .inr (7, [none, none, none, none, none, none, none, none, none, some 1, some 2, some 3, some 4, some 5, some 6, some 7, some 8, some 9, some 11, some 10, some 12, some 13, some 14, some 15, none, some 17, none, some 18, some 19, none, none, some 20, some 21, some 16, none]),
  .inl (false, 24), .inl (false, 24), .inl (false, 40), .inl (false, 40), .inl (false, 40), .inl (false, 40), .inl (false, 20), .inl (false, 20), .inl (false, 20),
  .inl (false, 200), .inl (false, 40), .inl (false, 40), .inl (false, 320), .inl (false, 320), .inl (false, 320), .inl (false, 40),
  .inl (false, 40), .inl (false, 40), .inl (false, 40), .inl (false, 40), .inl (false, 40)]
def shp (w : Nat) : tSh := match w with
  | 0 => shX
  | _ => shM
def frO (i : Int32) : Int32 := if i = nI 0 then nI 4 else if i = nI 1 then nI 1 else nI 5
def coO (i : Int32) : Int32 := if i = nI 0 then nI 2 else if i = nI 1 then nI 3 else if i = nI 2 then nI 1 else if i = nI 3 then nI 4 else nI 5
def tSF (w : Nat) (ad : Nat → Nat) (A : Nat → Prop) (s : State) : Prop := w = 0 →
  (va_Z "ApronDesk" "FREIGHT_ORDER" "[I" (.ref (ad 100)) A s s.heap ∧ va_T .int (ad 100) 3 (fun j => .int (frO (nI j))) A s s.heap) ∧
  (va_Z "ApronDesk" "COMMON_ORDER" "[I" (.ref (ad 101)) A s s.heap ∧ va_T .int (ad 101) 5 (fun j => .int (coO (nI j))) A s s.heap)
abbrev tTy (cA cZ : ClassId) : List (ClassId × FieldType) := [(cA, .int), (cZ, .boolean)]
def tCX (y : tMS) (D : va_G) (ad : Nat → Nat) (cA cZ : ClassId) (p : Program) (s : State) (m : MethodId) (meth : Method) (c : Code) : Prop :=
  p.tables.exec = Jvm.exec ∧ c.code = y.2.1 ∧ c.maxLocals = y.2.2.1 ∧ meth.sig.returnType = y.2.2.2.1 ∧ meth.locks = false ∧ s.vm.findClass y.1.cls = some m.cls ∧ tTB s ∧ va_K D vwCl (tTy cA cZ) s ∧ tInj ad (shp y.2.2.2.2.2).length ∧ tSF y.2.2.2.2.2 ad (tAW (shp y.2.2.2.2.2).length ad s.heap.size) s
def tQR (w : Nat) (D : va_G) (ad : Nat → Nat) (cA cZ : ClassId) (Q : Option Int32 → tSt → Prop) : Array Value → State → Outcome → State → Prop := fun _ st oc t =>
  (∃ (r : Option Int32) (σ : tSt), oc = .returned (r.map Value.int) ∧ Q r σ ∧ va_P D vwCl (tpic ad cA cZ (shp w) σ) t.heap) ∧ va_F (tAW (shp w).length ad st.heap.size) st t
def tLR (ad : Nat → Nat) (ls : Array Slot) (n : Nat) (L : List Value) : Prop := ls.size = n ∧ lv_wf ls ∧ ∀ (k : Nat) (v : Value), L[k]? = some v → v ≠ .null → ls[k]? = some (.val (cv ad v))
/-- THE JUDGEMENT: method y, at pc, with locals L and stack st (cells by their numbers; null: not set) over the store σ, comes to an end with Q -/
def TT (y : tMS) (pc : Nat) (L st : List Value) (σ : tSt) (Q : Option Int32 → tSt → Prop) : Prop :=
  ∀ (l : Launch) (D : va_G) (ad : Nat → Nat) (cA cZ : ClassId) (p : Program) (e : Env) (s : State) (m : MethodId) (args : Array Value) (below : List Frame) (meth : Method) (c : Code) (H : Heap) (locs : List Loc) (ls : Array Slot),
    tCX y D ad cA cZ p s m meth c → va_P D vwCl (tpic ad cA cZ (shp y.2.2.2.2.2) σ) H → va_S (tAW (shp y.2.2.2.2.2).length ad s.heap.size) s.heap H locs → tLR ad ls y.2.2.1 L →
    W p l e y.2.2.2.2.1 s m args below meth c H locs 0 0 (MQ below (tQR y.2.2.2.2.2 D ad cA cZ Q) args s 0 0 (tAW (shp y.2.2.2.2.2).length ad s.heap.size)) (F0 m pc ls (st.map (cv ad)))
def tPX (w : Nat) (D : va_G) (ad : Nat → Nat) (cA cZ : ClassId) (σ : tSt) (sz : Nat) (U : State) : Prop :=
  U.heap.size = sz ∧ tTB U ∧ va_K D vwCl (tTy cA cZ) U ∧ tInj ad (shp w).length ∧ va_P D vwCl (tpic ad cA cZ (shp w) σ) U.heap ∧ tSF w ad (tAW (shp w).length ad sz) U
/-- THE CONTRACT: method z, called with as over σ -/
def CT (z : tMS) (as : List Value) (σ : tSt) (Q : Option Int32 → tSt → Prop) : Prop :=
  ∀ (l : Launch) (D : va_G) (ad : Nat → Nat) (cA cZ : ClassId) (sz : Nat), Met l z.1 [.code z.1 z.2.1 z.2.2.1 z.2.2.2.1] z.2.2.2.2.1 (va_Pc (as.map (cv ad)) (tPX z.2.2.2.2.2 D ad cA cZ σ sz)) (tQR z.2.2.2.2.2 D ad cA cZ Q) 0 0 (tAW (shp z.2.2.2.2.2).length ad sz)
theorem cv_cat (ad : Nat → Nat) (v : Value) : (cv ad v).category = v.category := by cases v <;> rfl
theorem tLR_entry (ad : Nat → Nat) (as : List Value) (n j : Nat) (hc : ∀ v ∈ as, v.category = 1) (hn : as.length + j = n) :
    tLR ad ((lg_sl (as.map (cv ad)) ++ List.replicate (n - (lg_sl (as.map (cv ad))).length) Slot.unset).toArray) n (as ++ List.replicate j .null) := by
  have hsl : ∀ l : List Value, (∀ v ∈ l, v.category = 1) → lg_sl (l.map (cv ad)) = l.map (fun v => Slot.val (cv ad v)) := by
    intro l
    induction l with
    | nil => intro _; rfl
    | cons v t ih =>
      intro h
      have h1 := h v List.mem_cons_self
      simp only [List.map_cons, lg_sl, List.flatMap_cons, cv_cat, h1]
      have := ih (fun w hw => h w (List.mem_cons_of_mem _ hw))
      simp only [lg_sl] at this
      rw [this]
      rfl
  have hlen : (lg_sl (as.map (cv ad))).length ≤ n := by rw [hsl as hc]; simp; omega
  obtain ⟨h1, h2, -⟩ := lv_entry (as.map (cv ad)) hlen
  refine ⟨h1, h2, fun k v hk hv => ?_⟩
  rw [hsl as hc]
  by_cases hkl : k < as.length
  · rw [List.getElem?_append_left hkl] at hk
    simp [List.getElem?_append_left, hkl, hk]
    have := List.getElem?_eq_some_iff.mp hk
    obtain ⟨_, e⟩ := this
    rw [e]
  · rw [List.getElem?_append_right (by omega)] at hk
    have := List.mem_of_getElem? hk
    rw [List.mem_replicate] at this
    exact absurd this.2 hv
theorem CT.of {z : tMS} {as : List Value} {σ : tSt} {Q : Option Int32 → tSt → Prop} (j : Nat) (hy : plainName z.1.cls = true) (hc : ∀ v ∈ as, v.category = 1) (hn : as.length + j = z.2.2.1) (h : TT z 0 (as ++ List.replicate j .null) [] σ Q) : CT z as σ Q := by
  intro l D ad cA cZ sz
  refine Met.ofW (cc := z.2.1) (maxL := z.2.2.1) (ret := z.2.2.2.1) hy rfl ?_
  intro p e s m args below meth c s₁ B hml hv
  obtain ⟨rfl, hsz, hT, hK, hI, hP, hF⟩ := hv
  subst hsz
  rw [lg_entry_eq]
  exact h l D ad cA cZ p e s m _ below meth c s.heap [] _ ⟨B.exec, B.bytes, hml, B.returns, B.notSynchronized, findClass_of_methodNamed B.named, hT, hK, hI, hF⟩ hP va_S.rf (tLR_entry ad as z.2.2.1 j hc hn)
theorem CT.mono {z : tMS} {as : List Value} {σ : tSt} {Q Q' : Option Int32 → tSt → Prop} (h : CT z as σ Q) (hq : ∀ r σ', Q r σ' → Q' r σ') : CT z as σ Q' := by
  intro l D ad cA cZ sz p e h1 h2 h3 s m args below h4 h5 h6 h7
  obtain ⟨k, o, a1, a2, a3, ⟨⟨r, σ', b1, b2, b3⟩, b4⟩, a4⟩ := h l D ad cA cZ sz p e h1 h2 h3 s m args below h4 h5 h6 h7
  exact ⟨k, o, a1, a2, a3, ⟨⟨r, σ', b1, hq r σ' b2, b3⟩, b4⟩, a4⟩
