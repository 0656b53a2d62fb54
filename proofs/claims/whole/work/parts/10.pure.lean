/-! NUMBERS, and small words of the specification -/
def tC2 (L : List Value) : Bool := L.all (fun w => match w with
  | .int _ => true
  | .ref _ => true
  | _ => false)
theorem CT.of2 {z : tMS} {as : List Value} {σ : tSt} {Q : Option Int32 → tSt → Prop} (j : Nat) (hy : plainName z.1.cls = true) (hc : tC2 as = true) (hn : as.length + j = z.2.2.1) (h : TT z 0 (as ++ List.replicate j .null) [] σ Q) : CT z as σ Q :=
  CT.of j hy (fun v hv => by have := List.all_eq_true.mp hc v hv; cases v <;> simp_all [Value.category]) hn h
theorem tr_imulC {y : tMS} {pc pc' : Nat} {L st : List Value} {σ : tSt} {Q : Option Int32 → tSt → Prop} {a b : Int32} (d : DC y pc .imul 1 pc') (k : TT y pc' L (.int (b * a) :: st) σ Q) : TT y pc L (.int b :: .int a :: st) σ Q := by
  refine tr_imul d ?_
  rw [Int32.mul_comm]
  exact k
def bi (P : Prop) [Decidable P] : Int32 := if P then nI 1 else nI 0
theorem bi_0 {P : Prop} [Decidable P] (h : bi P = 0) : ¬ P := by
  intro hp
  rw [bi, if_pos hp] at h
  exact absurd h (by decide)
theorem bi_n {P : Prop} [Decidable P] (h : ¬ bi P = 0) : P := by
  by_cases hp : P
  · exact hp
  · rw [bi, if_neg hp] at h
    exact absurd rfl h
theorem bi_t {P : Prop} [Decidable P] (h : P) : nI 1 = bi P := by rw [bi, if_pos h]
theorem bi_f {P : Prop} [Decidable P] (h : ¬ P) : nI 0 = bi P := by rw [bi, if_neg h]
theorem bi_iff {P R : Prop} [Decidable P] [Decidable R] (h : P ↔ R) : bi P = bi R := by
  unfold bi
  by_cases hp : P
  · rw [if_pos hp, if_pos (h.mp hp)]
  · rw [if_neg hp, if_neg (fun q => hp (h.mpr q))]
theorem nar_bi (P : Prop) [Decidable P] : narrow .boolean (.int (bi P)) = .int (bi P) := by
  unfold bi
  by_cases hp : P
  · rw [if_pos hp]; rfl
  · rw [if_neg hp]; rfl
theorem ci_m1 : Int32.ofInt (-1) = (-1 : Int32) := by decide
theorem ci_0 : Int32.ofInt 0 = nI 0 := by decide
theorem ci_1 : Int32.ofInt 1 = nI 1 := by decide
theorem ci_2 : Int32.ofInt 2 = nI 2 := by decide
theorem ci_3 : Int32.ofInt 3 = nI 3 := by decide
theorem ci_4 : Int32.ofInt 4 = nI 4 := by decide
theorem ci_5 : Int32.ofInt 5 = nI 5 := by decide
theorem in_row {v : Int32} (c : Nat) (hc : c < 5) (h : vp_in v 40) : vp_in (v * nI 5 + nI c) 200 := by
  obtain ⟨j, hj, rfl⟩ := vp_in_of h (by decide)
  rw [pk_mul, nI_add]
  exact vp_in_nI (by omega) (by decide)
theorem in_row0 {v : Int32} (h : vp_in v 40) : vp_in (v * nI 5) 200 := by
  obtain ⟨j, hj, rfl⟩ := vp_in_of h (by decide)
  rw [pk_mul]
  exact vp_in_nI (by omega) (by decide)
theorem in_slot {v k : Int32} (h : vp_in v 40) (hk : vp_in k 8) : vp_in (v * nI 8 + k) 320 := by
  obtain ⟨j, hj, rfl⟩ := vp_in_of h (by decide)
  obtain ⟨i, hi, rfl⟩ := vp_in_of hk (by decide)
  rw [pk_mul, nI_add]
  exact vp_in_nI (by omega) (by decide)
theorem in_slot0 {v : Int32} (h : vp_in v 40) : vp_in (v * nI 8) 320 := by
  obtain ⟨j, hj, rfl⟩ := vp_in_of h (by decide)
  rw [pk_mul]
  exact vp_in_nI (by omega) (by decide)
theorem in_lt {x : Int32} {n N : Nat} (h0 : ¬ x < 0) (h1 : x < nI n) (hn : n ≤ N) (hN : N < 2 ^ 31) : vp_in x N := by
  obtain ⟨j, hj, rfl⟩ := nI_of h0
  exact vp_in_nI (by have := (nI_ltI hj (by omega)).mp h1; omega) hN
theorem add_n0 (x : Int32) : x + nI 0 = x := by
  show x + 0 = x
  simp
theorem n0 : nI 0 = 0 := rfl
/-- the first of f ints from i on for which P, else -1 -/
def fi (P : Int32 → Bool) : Nat → Nat → Int32
  | 0, _ => -1
  | f + 1, i => if P (nI i) then nI i else fi P f (i + 1)
/-- is there one of f ints from i on for which P -/
def an (P : Int32 → Bool) : Nat → Nat → Bool
  | 0, _ => false
  | f + 1, i => P (nI i) || an P f (i + 1)
/-- how many of f ints from i on, for which P -/
def ct (P : Int32 → Bool) : Nat → Nat → Nat
  | 0, _ => 0
  | f + 1, i => (if P (nI i) then 1 else 0) + ct P f (i + 1)
theorem an_iff {P : Int32 → Bool} : ∀ {f i : Nat}, an P f i = true ↔ ∃ j, i ≤ j ∧ j < i + f ∧ P (nI j) = true
  | 0, i => by simp [an]; intro j h1 h2; omega
  | f + 1, i => by
    simp only [an, Bool.or_eq_true, an_iff (f := f) (i := i + 1)]
    constructor
    · rintro (h | ⟨j, h1, h2, h3⟩)
      · exact ⟨i, Nat.le_refl _, by omega, h⟩
      · exact ⟨j, by omega, by omega, h3⟩
    · rintro ⟨j, h1, h2, h3⟩
      by_cases hj : j = i
      · subst hj; exact Or.inl h3
      · exact Or.inr ⟨j, by omega, by omega, h3⟩
theorem an_congr {P R : Int32 → Bool} : ∀ {f i : Nat}, (∀ j, i ≤ j → j < i + f → P (nI j) = R (nI j)) → an P f i = an R f i
  | 0, _, _ => rfl
  | f + 1, i, h => by
    simp only [an]
    rw [h i (Nat.le_refl _) (by omega), an_congr (f := f) (i := i + 1) (fun j h1 h2 => h j (by omega) (by omega))]
theorem fi_congr {P R : Int32 → Bool} : ∀ {f i : Nat}, (∀ j, i ≤ j → j < i + f → P (nI j) = R (nI j)) → fi P f i = fi R f i
  | 0, _, _ => rfl
  | f + 1, i, h => by
    simp only [fi]
    rw [h i (Nat.le_refl _) (by omega), fi_congr (f := f) (i := i + 1) (fun j h1 h2 => h j (by omega) (by omega))]
theorem fi_some {P : Int32 → Bool} : ∀ {f i : Nat}, fi P f i ≠ -1 → ∃ j, i ≤ j ∧ j < i + f ∧ fi P f i = nI j ∧ P (nI j) = true
  | 0, i, h => absurd rfl h
  | f + 1, i, h => by
    simp only [fi] at h ⊢
    by_cases hp : P (nI i) = true
    · exact ⟨i, Nat.le_refl _, by omega, by rw [if_pos hp], hp⟩
    · rw [if_neg hp] at h ⊢
      obtain ⟨j, h1, h2, h3, h4⟩ := fi_some (f := f) (i := i + 1) h
      exact ⟨j, by omega, by omega, h3, h4⟩
theorem nI_ne_m1 {n : Nat} (h : n < 2 ^ 31) : nI n ≠ -1 := by
  intro q
  have := nI_toInt h
  rw [q] at this
  have h2 : (-1 : Int32).toInt = -1 := by decide
  omega
theorem fi_none {P : Int32 → Bool} : ∀ {f i : Nat}, i + f < 2 ^ 31 → (fi P f i = -1 ↔ ∀ j, i ≤ j → j < i + f → P (nI j) = false)
  | 0, i, _ => by simp [fi]; intro j h1 h2; omega
  | f + 1, i, hb => by
    simp only [fi]
    by_cases hp : P (nI i) = true
    · rw [if_pos hp]
      constructor
      · intro h; exact absurd h (nI_ne_m1 (by omega))
      · intro h; rw [h i (Nat.le_refl _) (by omega)] at hp; cases hp
    · rw [if_neg hp, fi_none (f := f) (i := i + 1) (by omega)]
      constructor
      · intro h j h1 h2
        by_cases hj : j = i
        · subst hj; simpa using hp
        · exact h j (by omega) (by omega)
      · intro h j h1 h2; exact h j (by omega) (by omega)
theorem up_f {σ : tSt} {k k' a b : Nat} {x : Int32} (h : nI b ≠ nI a) : up σ k (nI a) x k' (nI b) = σ k' (nI b) := up_n h
theorem inc_n (i : Nat) : nI i + Int32.ofInt 1 = nI (i + 1) := nI_1 i
theorem ge_of {x : Int32} {n i : Nat} (hx : x = nI n) (hn : n < 2 ^ 31) (hi : i < 2 ^ 31) (h : x ≤ nI i) : n ≤ i := (nI_leI hn hi).mp (hx ▸ h)
theorem lt_of {x : Int32} {n i : Nat} (hx : x = nI n) (hn : n < 2 ^ 31) (hi : i < 2 ^ 31) (h : ¬ x ≤ nI i) : i < n := Nat.not_le.mp fun q => h (hx ▸ (nI_leI hn hi).mpr q)
theorem fi_t {P : Int32 → Bool} {f i : Nat} (h : P (nI i) = true) : nI i = fi P (f + 1) i := by rw [fi, if_pos h]
theorem an_t {P : Int32 → Bool} {f i : Nat} (h : P (nI i) = true) : an P (f + 1) i = true := by rw [an, h]; rfl
theorem lpF {y : tMS} {pc : Nat} {L st : List Value} {σ τ : tSt} {P : Int32 → Bool} {f i : Nat} (h : P (nI i) = false) (k : TT y pc L st σ (PE (some (fi P f (i + 1))) τ)) : TT y pc L st σ (PE (some (fi P (f + 1) i)) τ) := by
  rw [fi, if_neg (by rw [h]; decide)]
  exact k
theorem lpA {y : tMS} {pc : Nat} {L st : List Value} {σ τ : tSt} {P : Int32 → Bool} {f i : Nat} (h : P (nI i) = false) (k : TT y pc L st σ (PE (some (bi (an P f (i + 1) = true))) τ)) : TT y pc L st σ (PE (some (bi (an P (f + 1) i = true))) τ) := by
  have e : an P (f + 1) i = an P f (i + 1) := by rw [an, h]; rfl
  rw [bi_iff (P := an P (f + 1) i = true) (R := an P f (i + 1) = true) (by rw [e])]
  exact k
theorem up_up {σ : tSt} {k : Nat} {i x z : Int32} : up (up σ k i x) k i z = up σ k i z := by
  funext k' i'
  simp only [up]
  by_cases hk : k' = k
  · simp [hk]
    by_cases hi : i' = i <;> simp [hi]
  · simp [hk]
abbrev tn (x : Int32) : Nat := x.toNatClampNeg
theorem tn_of {x : Int32} {n : Nat} (h : x = nI n) (hn : n < 2 ^ 31) : tn x = n := by rw [h]; exact nI_clamp hn
/-- forget locals -/
def fgl (ks : List Nat) (L : List Value) : List Value := ks.foldl (fun l k => l.set k .null) L
theorem fgl_at : ∀ (ks : List Nat) (L : List Value) (k : Nat) (v : Value), (fgl ks L)[k]? = some v → v ≠ .null → L[k]? = some v
  | [], _, _, _, h, _ => h
  | a :: ks, L, k, v, h, hv => by
    have h1 := fgl_at ks (L.set a .null) k v h hv
    by_cases hk : k = a
    · subst hk
      have hlt : k < L.length := by
        have := (List.getElem?_eq_some_iff.mp h1).1
        simpa using this
      rw [List.getElem?_set_self hlt] at h1
      exact absurd (Option.some.inj h1).symm hv
    · rw [List.getElem?_set_ne (Ne.symm hk)] at h1
      exact h1
theorem TT.fg {y : tMS} {pc : Nat} {L st : List Value} {σ : tSt} {Q : Option Int32 → tSt → Prop} (ks : List Nat) (h : TT y pc (fgl ks L) st σ Q) : TT y pc L st σ Q := by
  intro l D ad cA cZ p e s m args below meth c H locs ls hC hP hS hL
  exact h l D ad cA cZ p e s m args below meth c H locs ls hC hP hS ⟨hL.1, hL.2.1, fun k v hk hv => hL.2.2 k v (fgl_at ks L k v hk hv) hv⟩
