/-! the line of those for which P, and how the invariant is kept -/
def insK (μ : tSt) (u : Nat) : List Nat → List Nat
  | [] => [u]
  | x :: t => if kx μ u < kx μ x then u :: x :: t else x :: insK μ u t
theorem mem_insK {μ : tSt} {u x : Nat} : ∀ {l : List Nat}, x ∈ insK μ u l ↔ x = u ∨ x ∈ l
  | [] => by simp [insK]
  | y :: t => by
    simp only [insK]
    split
    · simp
    · rw [List.mem_cons, mem_insK, List.mem_cons]
      constructor
      · rintro (h | h | h)
        · exact Or.inr (Or.inl h)
        · exact Or.inl h
        · exact Or.inr (Or.inr h)
      · rintro (h | h | h)
        · exact Or.inr (Or.inl h)
        · exact Or.inl h
        · exact Or.inr (Or.inr h)
theorem SR_insK {μ : tSt} {u : Nat} : ∀ {l : List Nat}, SR μ l → (∀ x ∈ l, kx μ x ≠ kx μ u) → SR μ (insK μ u l)
  | [], _, _ => by simp [insK, SR]
  | x :: t, h, hu => by
    obtain ⟨p1, p2⟩ := List.pairwise_cons.mp h
    simp only [insK]
    split
    · rename_i hlt
      refine List.pairwise_cons.mpr ⟨fun y hy => ?_, h⟩
      rcases List.mem_cons.mp hy with rfl | hy
      · exact hlt
      · exact Nat.lt_trans hlt (p1 y hy)
    · rename_i hlt
      have hx : kx μ x < kx μ u := by have := hu x List.mem_cons_self; omega
      refine List.pairwise_cons.mpr ⟨fun y hy => ?_, SR_insK p2 (fun y hy => hu y (List.mem_cons_of_mem _ hy))⟩
      rcases mem_insK.mp hy with rfl | hy
      · exact hx
      · exact p1 y hy
def sl (μ : tSt) (P : Int32 → Bool) : Nat → List Nat
  | 0 => []
  | n + 1 => if P (nI n) = true then insK μ n (sl μ P n) else sl μ P n
theorem mem_sl {μ : tSt} {P : Int32 → Bool} {x : Nat} : ∀ {n : Nat}, x ∈ sl μ P n ↔ x < n ∧ P (nI x) = true
  | 0 => by simp [sl]
  | n + 1 => by
    simp only [sl]
    split
    · rename_i hp
      rw [mem_insK, mem_sl]
      constructor
      · rintro (rfl | ⟨h1, h2⟩)
        · exact ⟨by omega, hp⟩
        · exact ⟨by omega, h2⟩
      · rintro ⟨h1, h2⟩
        by_cases hx : x = n
        · exact Or.inl hx
        · exact Or.inr ⟨by omega, h2⟩
    · rename_i hp
      rw [mem_sl]
      constructor
      · rintro ⟨h1, h2⟩; exact ⟨by omega, h2⟩
      · rintro ⟨h1, h2⟩
        refine ⟨?_, h2⟩
        rcases Nat.lt_or_ge x n with q | q
        · exact q
        · rw [show x = n by omega] at h2; exact absurd h2 hp
theorem kx_inj {μ : tSt} {x y : Nat} (hx : x < 64) (hy : y < 64) (h : kx μ x = kx μ y) : x = y := by unfold kx at h; omega
theorem SR_sl {μ : tSt} {P : Int32 → Bool} : ∀ {n : Nat}, n ≤ 40 → SR μ (sl μ P n)
  | 0, _ => by simp [sl, SR]
  | n + 1, hn => by
    simp only [sl]
    split
    · refine SR_insK (SR_sl (by omega)) (fun x hx e => ?_)
      have := (mem_sl.mp hx).1
      have := kx_inj (by omega) (by omega) e
      omega
    · exact SR_sl (by omega)
theorem sl_of {μ : tSt} {P : Int32 → Bool} {n : Nat} (hn : n ≤ 40) {l : List Nat} (hS : SR μ l) (hm : ∀ x, x ∈ l ↔ x < n ∧ P (nI x) = true) : l = sl μ P n := SR_ext hS (SR_sl hn) (fun x => by rw [hm, mem_sl])
theorem SR_len {μ : tSt} {n : Nat} : ∀ {l : List Nat}, SR μ l → (∀ x ∈ l, x < n) → l.length ≤ n := by
  intro l h hl
  have hnd : l.Nodup := by
    refine List.Pairwise.imp ?_ h
    intro a b hab e; subst e; omega
  have : l.length ≤ (List.range n).length := List.Nodup.length_le_of_subset hnd (fun x hx => List.mem_range.mpr (hl x hx))
  simpa using this
/-! places in the rows of stays -/
theorem sl_ne {u v k j : Nat} (hu : u < 40) (hv : v < 40) (hk : k < 8) (hj : j < 8) (h : ¬ (u = v ∧ k = j)) : nI u * nI 8 + nI k ≠ nI v * nI 8 + nI j := by
  rw [pk_mul, nI_add, pk_mul, nI_add]
  intro e
  have := nI_inj (by omega) (by omega) e
  omega
theorem sl_ne0 {u v k : Nat} (hu : u < 40) (hv : v < 40) (hk : k < 8) (h : ¬ (u = v ∧ k = 0)) : nI u * nI 8 + nI k ≠ nI v * nI 8 := by
  have := sl_ne (j := 0) hu hv hk (by omega) h
  rwa [add_n0] at this
theorem nI_ne {a b : Nat} (ha : a < 2 ^ 31) (hb : b < 2 ^ 31) (h : a ≠ b) : nI a ≠ nI b := fun e => h (nI_inj ha hb e)
theorem iA_st {μ : tSt} {nS nP nC nV : Nat} (h : iA μ nS nP nC nV) (i x : Int32) (hi : i = nI 6 ∨ i = nI 7 ∨ i = nI 8) : iA (up μ 0 i x) nS nP nC nV := by
  have h0 : ∀ j : Nat, j < 10 → j ≠ 6 → j ≠ 7 → j ≠ 8 → up μ 0 i x 0 (nI j) = μ 0 (nI j) := by
    intro j hj a b c
    apply up_n
    rcases hi with rfl | rfl | rfl
    · exact nI_ne (by omega) (by omega) a
    · exact nI_ne (by omega) (by omega) b
    · exact nI_ne (by omega) (by omega) c
  obtain ⟨⟨a1, a2, a3, a4⟩, b, c, d, ⟨e1, e2, e3⟩, f⟩ := h
  refine ⟨⟨?_, ?_, ?_, ?_⟩, b, c, d, ⟨?_, ?_, ?_⟩, f⟩
  · rw [h0 0 (by decide) (by decide) (by decide) (by decide)]; exact a1
  · rw [h0 1 (by decide) (by decide) (by decide) (by decide)]; exact a2
  · rw [h0 2 (by decide) (by decide) (by decide) (by decide)]; exact a3
  · rw [h0 3 (by decide) (by decide) (by decide) (by decide)]; exact a4
  · rw [h0 4 (by decide) (by decide) (by decide) (by decide)]; exact e1
  · rw [h0 5 (by decide) (by decide) (by decide) (by decide)]; exact e2
  · rw [h0 9 (by decide) (by decide) (by decide) (by decide)]; exact e3
/-- v has a stay more or less: what must hold of v's alone -/
theorem iA_stays {μ ρ : tSt} {nS nP nC nV v : Nat} (h : iA μ nS nP nC nV) (hv : v < nV) (hk : ∀ k, k ≠ 12 → k ≠ 13 → k ≠ 14 → k ≠ 15 → ρ k = μ k) (h12 : ∀ u : Nat, u < 40 → u ≠ v → ρ 12 (nI u) = μ 12 (nI u))
    (h13 : ∀ u k : Nat, u < 40 → u ≠ v → k < 8 → ρ 13 (nI u * nI 8 + nI k) = μ 13 (nI u * nI 8 + nI k) ∧ ρ 14 (nI u * nI 8 + nI k) = μ 14 (nI u * nI 8 + nI k) ∧ ρ 15 (nI u * nI 8 + nI k) = μ 15 (nI u * nI 8 + nI k))
    (hvc : ∃ c : Nat, c ≤ 8 ∧ ρ 12 (nI v) = nI c) (hvu : ¬ ρ 12 (nI v) = nI 0 → nI 2 < μ 11 (nI v))
    (hvs : ∀ k : Nat, nI k < ρ 12 (nI v) → k < 8 → (∃ s : Nat, s < nS ∧ ρ 13 (nI v * nI 8 + nI k) = nI s) ∧ ∃ a b : Nat, ρ 14 (nI v * nI 8 + nI k) = nI a ∧ ρ 15 (nI v * nI 8 + nI k) = nI b ∧ a < b ∧ b ≤ 2880) : iA ρ nS nP nC nV := by
  obtain ⟨a, ⟨b1, b2, b3, b4⟩, ⟨c1, c2, c3, c4⟩, d, e, f⟩ := h
  have hV40 : nV ≤ 40 := a.2.2.2.2
  have e0 := hk 0 (by decide) (by decide) (by decide) (by decide)
  refine ⟨?_, ⟨?_, ?_, ?_, ?_⟩, ⟨?_, ?_, ?_, ?_⟩, ?_, ?_, ?_⟩
  · unfold iN; rw [e0]; exact a
  · intro u hu
    by_cases q : u = v
    · subst q; exact hvc
    · rw [h12 u hu q]; exact b1 u hu
  · intro u k hu hk1 hk8
    by_cases q : u = v
    · subst q; exact (hvs k hk1 hk8).2
    · rw [h12 u hu q] at hk1
      rw [(h13 u k hu q hk8).2.1, (h13 u k hu q hk8).2.2]
      exact b2 u k hu hk1 hk8
  · intro p hp; rw [hk 3 (by decide) (by decide) (by decide) (by decide), hk 4 (by decide) (by decide) (by decide) (by decide)]; exact b3 p hp
  · intro p hp; rw [hk 8 (by decide) (by decide) (by decide) (by decide), hk 9 (by decide) (by decide) (by decide) (by decide)]; exact b4 p hp
  · intro u hu; rw [hk 10 (by decide) (by decide) (by decide) (by decide)]; exact c1 u hu
  · intro u hu hu2
    rw [h12 u hu2 (by omega)]; exact c2 u hu hu2
  · intro u hu; rw [hk 11 (by decide) (by decide) (by decide) (by decide)]; exact c3 u hu
  · intro u hu hne
    rw [hk 11 (by decide) (by decide) (by decide) (by decide)]
    by_cases q : u = v
    · subst q; exact hvu hne
    · rw [h12 u hu q] at hne; exact c4 u hu hne
  · intro u k hu hk1 hk8
    by_cases q : u = v
    · subst q; exact (hvs k hk1 hk8).1
    · rw [h12 u hu q] at hk1
      rw [(h13 u k hu q hk8).1]
      exact d u k hu hk1 hk8
  · unfold mOK; rw [e0]; exact e
  · intro s hs; rw [hk 1 (by decide) (by decide) (by decide) (by decide)]; exact f s hs
theorem iA_set {μ : tSt} {nS nP nC nV v s a b : Nat} (h : iA μ nS nP nC nV) (hv : v < nV) (hu : nI 2 < μ 11 (nI v)) (hs : s < nS) (hab : a < b) (hb : b ≤ 2880) : iA (s_set μ (nI v) (nI s) (nI a) (nI b)) nS nP nC nV := by
  have hV40 : nV ≤ 40 := h.1.2.2.2.2
  refine iA_stays h hv (fun k h1 h2 h3 h4 => by simp only [s_set]; rw [up_k h4, up_k h3, up_k h2, up_k h1]) (fun u hu q => ?_) (fun u k hu q hk => ?_) ⟨1, by decide, ?_⟩ (fun _ => hu) (fun k hk hk8 => ?_)
  · simp only [s_set]; rw [up_k (by decide), up_k (by decide), up_k (by decide), up_n (nI_ne (by omega) (by omega) q)]
  · have hne := sl_ne0 (v := v) hu (by omega) hk (fun w => q w.1)
    refine ⟨?_, ?_, ?_⟩
    · simp only [s_set]; rw [up_k (by decide), up_k (by decide), up_n hne, up_k (by decide)]
    · simp only [s_set]; rw [up_k (by decide), up_n hne, up_k (by decide), up_k (by decide)]
    · simp only [s_set]; rw [up_n hne, up_k (by decide), up_k (by decide), up_k (by decide)]
  · simp only [s_set]; rw [up_k (by decide), up_k (by decide), up_k (by decide), up_s]
  · have e1 : s_set μ (nI v) (nI s) (nI a) (nI b) 12 (nI v) = nI 1 := by simp only [s_set]; rw [up_k (by decide), up_k (by decide), up_k (by decide), up_s]
    rw [e1] at hk
    have : k = 0 := by have := (nI_ltI (by omega) (by decide)).mp hk; omega
    subst this
    rw [add_n0]
    refine ⟨⟨s, hs, ?_⟩, a, b, ?_, ?_, hab, hb⟩
    · simp only [s_set]; rw [up_k (by decide), up_k (by decide), up_s]
    · simp only [s_set]; rw [up_k (by decide), up_s]
    · simp only [s_set]; rw [up_s]
theorem iA_off {μ : tSt} {nS nP nC nV v : Nat} (h : iA μ nS nP nC nV) (hv : v < nV) : iA (up μ 12 (nI v) (nI 0)) nS nP nC nV := by
  have hV40 : nV ≤ 40 := h.1.2.2.2.2
  refine iA_stays h hv (fun k h1 h2 h3 h4 => up_k h1) (fun u hu q => up_n (nI_ne (by omega) (by omega) q)) (fun u k hu q hk => ⟨by rw [up_k (by decide)], by rw [up_k (by decide)], by rw [up_k (by decide)]⟩) ⟨0, by decide, up_s⟩ (fun q => absurd up_s q) (fun k hk hk8 => ?_)
  rw [up_s] at hk
  exact absurd hk (by rw [n0]; exact nI_pos (by omega))
