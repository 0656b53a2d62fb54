/-! THE BEST STAND: the class's way and the reference's are one -/
def lxl (g1 g2 : Int32 → Int32) (kd : Int32) (s t : Nat) : Prop := s_rank kd (g1 (nI s)) < s_rank kd (g1 (nI t)) ∨ (s_rank kd (g1 (nI s)) = s_rank kd (g1 (nI t)) ∧ (g2 (nI s) < g2 (nI t) ∨ (g2 (nI s) = g2 (nI t) ∧ s ≤ t)))
def isB (g1 g2 : Int32 → Int32) (fr : Int32 → Bool) (kd : Int32) (n : Nat) (r : Int32) : Prop := (r = -1 ∧ ∀ s, s < n → fr (nI s) = false) ∨ ∃ s, s < n ∧ r = nI s ∧ fr (nI s) = true ∧ ∀ t, t < n → fr (nI t) = true → lxl g1 g2 kd s t
theorem i32_tri (a b : Int32) : a < b ∨ a = b ∨ b < a := by
  rcases Int.lt_trichotomy a.toInt b.toInt with h | h | h
  · exact Or.inl (Int32.lt_iff_toInt_lt.mpr h)
  · exact Or.inr (Or.inl (Int32.toInt_inj.mp h))
  · exact Or.inr (Or.inr (Int32.lt_iff_toInt_lt.mpr h))
theorem i32_asymm {a b : Int32} (h : a < b) : ¬ b < a := fun q => by
  rw [Int32.lt_iff_toInt_lt] at h q; omega
theorem i32_irr (a : Int32) : ¬ a < a := Int32.lt_irrefl
theorem i32_trans {a b c : Int32} (h : a < b) (h2 : b < c) : a < c := by
  rw [Int32.lt_iff_toInt_lt] at *; omega
theorem isB_uniq {g1 g2 : Int32 → Int32} {fr : Int32 → Bool} {kd : Int32} {n : Nat} {r r' : Int32} (h : isB g1 g2 fr kd n r) (h' : isB g1 g2 fr kd n r') : r = r' := by
  rcases h with ⟨e, h⟩ | ⟨s, hs, e, hf, h⟩ <;> rcases h' with ⟨e', h'⟩ | ⟨t, ht, e', hf', h'⟩
  · rw [e, e']
  · rw [h t ht] at hf'; cases hf'
  · rw [h' s hs] at hf; cases hf
  · have a := h t ht hf'
    have b := h' s hs hf
    have : s = t := by
      rcases a with a | ⟨a1, a | ⟨a2, a3⟩⟩ <;> rcases b with b | ⟨b1, b | ⟨b2, b3⟩⟩
      · exact absurd b (i32_asymm a)
      · rw [b1] at a; exact absurd a (i32_irr _)
      · rw [b1] at a; exact absurd a (i32_irr _)
      · rw [a1] at b; exact absurd b (i32_irr _)
      · exact absurd b (i32_asymm a)
      · rw [b2] at a; exact absurd a (i32_irr _)
      · rw [a1] at b; exact absurd b (i32_irr _)
      · rw [a2] at b; exact absurd b (i32_irr _)
      · omega
    rw [e, e', this]
theorem lxl_trans {g1 g2 : Int32 → Int32} {kd : Int32} {s t u : Nat} (a : lxl g1 g2 kd s t) (b : lxl g1 g2 kd t u) : lxl g1 g2 kd s u := by
  rcases a with a | ⟨a1, a | ⟨a2, a3⟩⟩ <;> rcases b with b | ⟨b1, b | ⟨b2, b3⟩⟩
  · exact Or.inl (i32_trans a b)
  · exact Or.inl (b1 ▸ a)
  · exact Or.inl (b1 ▸ a)
  · exact Or.inl (a1 ▸ b)
  · exact Or.inr ⟨a1.trans b1, Or.inl (i32_trans a b)⟩
  · exact Or.inr ⟨a1.trans b1, Or.inl (b2 ▸ a)⟩
  · exact Or.inl (a1 ▸ b)
  · exact Or.inr ⟨a1.trans b1, Or.inl (a2 ▸ b)⟩
  · exact Or.inr ⟨a1.trans b1, Or.inr ⟨a2.trans b2, by omega⟩⟩
theorem lxl_refl {g1 g2 : Int32 → Int32} {kd : Int32} {s : Nat} : lxl g1 g2 kd s s := Or.inr ⟨rfl, Or.inr ⟨rfl, Nat.le_refl _⟩⟩
theorem bm_isB {g1 g2 : Int32 → Int32} {fr : Int32 → Bool} {kd : Int32} {n : Nat} (hn : n ≤ 24) : ∀ (f i : Nat) (best : Int32), i + f = n → isB g1 g2 fr kd i best → isB g1 g2 fr kd n (s_bm g1 g2 fr kd f i best)
  | 0, i, best, hi, h => by
    have : i = n := by omega
    subst this; exact h
  | f + 1, i, best, hi, h => by
    simp only [s_bm]
    refine bm_isB hn f (i + 1) _ (by omega) ?_
    by_cases hf : fr (nI i) = true
    · rcases h with ⟨e, h⟩ | ⟨s, hs, e, hf', h⟩
      · rw [if_pos ⟨hf, Or.inl e⟩]
        refine Or.inr ⟨i, by omega, rfl, hf, fun t ht hft => ?_⟩
        by_cases hti : t = i
        · subst hti; exact lxl_refl
        · rw [h t (by omega)] at hft; cases hft
      · by_cases hc : s_rank kd (g1 (nI i)) < s_rank kd (g1 best) ∨ (s_rank kd (g1 (nI i)) = s_rank kd (g1 best) ∧ g2 (nI i) < g2 best)
        · rw [if_pos ⟨hf, Or.inr hc⟩]
          rw [e] at hc
          have his : lxl g1 g2 kd i s := by
            rcases hc with hc | ⟨h1, h2⟩
            · exact Or.inl hc
            · exact Or.inr ⟨h1, Or.inl h2⟩
          refine Or.inr ⟨i, by omega, rfl, hf, fun t ht hft => ?_⟩
          by_cases hti : t = i
          · subst hti; exact lxl_refl
          · exact lxl_trans his (h t (by omega) hft)
        · rw [if_neg (fun q => ?_)]
          · refine Or.inr ⟨s, by omega, e, hf', fun t ht hft => ?_⟩
            by_cases hti : t = i
            · subst hti
              rw [e] at hc
              rcases i32_tri (s_rank kd (g1 (nI s))) (s_rank kd (g1 (nI t))) with q | q | q
              · exact Or.inl q
              · rcases i32_tri (g2 (nI s)) (g2 (nI t)) with w | w | w
                · exact Or.inr ⟨q, Or.inl w⟩
                · exact Or.inr ⟨q, Or.inr ⟨w, by omega⟩⟩
                · exact absurd (Or.inr ⟨q.symm, w⟩) hc
              · exact absurd (Or.inl q) hc
            · exact h t (by omega) hft
          · rcases q.2 with q | q
            · rw [e] at q; exact absurd q (nI_ne_m1 (by omega))
            · exact hc q
    · rw [if_neg (fun q => hf q.1)]
      have hf0 : fr (nI i) = false := by simpa using hf
      rcases h with ⟨e, h⟩ | ⟨s, hs, e, hf', h⟩
      · refine Or.inl ⟨e, fun t ht => ?_⟩
        by_cases hti : t = i
        · subst hti; exact hf0
        · exact h t (by omega)
      · refine Or.inr ⟨s, by omega, e, hf', fun t ht hft => ?_⟩
        by_cases hti : t = i
        · subst hti; rw [hf0] at hft; cases hft
        · exact h t (by omega) hft
/-- the least of one kind -/
def isK (g1 g2 : Int32 → Int32) (fr : Int32 → Bool) (kd : Int32) (n : Nat) (r : Int32) : Prop := (r = -1 ∧ ∀ s, s < n → g1 (nI s) = kd → fr (nI s) = false) ∨ ∃ s, s < n ∧ r = nI s ∧ g1 (nI s) = kd ∧ fr (nI s) = true ∧ ∀ t, t < n → g1 (nI t) = kd → fr (nI t) = true → g2 (nI s) < g2 (nI t) ∨ (g2 (nI s) = g2 (nI t) ∧ s ≤ t)
theorem bk_isK {g1 g2 : Int32 → Int32} {fr : Int32 → Bool} {kd : Int32} {n : Nat} (hn : n ≤ 24) : ∀ (f i : Nat) (best : Int32), i + f = n → isK g1 g2 fr kd i best → isK g1 g2 fr kd n (s_bk g1 g2 fr kd f i best)
  | 0, i, best, hi, h => by
    have : i = n := by omega
    subst this; exact h
  | f + 1, i, best, hi, h => by
    simp only [s_bk]
    refine bk_isK hn f (i + 1) _ (by omega) ?_
    by_cases hf : g1 (nI i) = kd ∧ fr (nI i) = true
    · rcases h with ⟨e, h⟩ | ⟨s, hs, e, hk, hf', h⟩
      · rw [if_pos ⟨hf.1, Or.inl e, hf.2⟩]
        refine Or.inr ⟨i, by omega, rfl, hf.1, hf.2, fun t ht hkt hft => ?_⟩
        by_cases hti : t = i
        · subst hti; exact Or.inr ⟨rfl, Nat.le_refl _⟩
        · rw [h t (by omega) hkt] at hft; cases hft
      · by_cases hc : g2 (nI i) < g2 best
        · rw [if_pos ⟨hf.1, Or.inr hc, hf.2⟩]
          rw [e] at hc
          refine Or.inr ⟨i, by omega, rfl, hf.1, hf.2, fun t ht hkt hft => ?_⟩
          by_cases hti : t = i
          · subst hti; exact Or.inr ⟨rfl, Nat.le_refl _⟩
          · rcases h t (by omega) hkt hft with q | ⟨q, _⟩
            · exact Or.inl (i32_trans hc q)
            · exact Or.inl (q ▸ hc)
        · rw [if_neg (fun q => ?_)]
          · refine Or.inr ⟨s, by omega, e, hk, hf', fun t ht hkt hft => ?_⟩
            by_cases hti : t = i
            · subst hti
              rw [e] at hc
              rcases i32_tri (g2 (nI s)) (g2 (nI t)) with w | w | w
              · exact Or.inl w
              · exact Or.inr ⟨w, by omega⟩
              · exact absurd w hc
            · exact h t (by omega) hkt hft
          · rcases q.2.1 with q | q
            · rw [e] at q; exact absurd q (nI_ne_m1 (by omega))
            · exact hc q
    · rw [if_neg (fun q => hf ⟨q.1, q.2.2⟩)]
      rcases h with ⟨e, h⟩ | ⟨s, hs, e, hk, hf', h⟩
      · refine Or.inl ⟨e, fun t ht hkt => ?_⟩
        by_cases hti : t = i
        · subst hti
          cases hq : fr (nI t) with
          | false => rfl
          | true => exact absurd ⟨hkt, hq⟩ hf
        · exact h t (by omega) hkt
      · refine Or.inr ⟨s, by omega, e, hk, hf', fun t ht hkt hft => ?_⟩
        by_cases hti : t = i
        · subst hti; exact absurd ⟨hkt, hft⟩ hf
        · exact h t (by omega) hkt hft
theorem isK_0 {g1 g2 : Int32 → Int32} {fr : Int32 → Bool} {kd : Int32} : isK g1 g2 fr kd 0 (-1) := Or.inl ⟨rfl, fun s hs => absurd hs (by omega)⟩
theorem isB_0 {g1 g2 : Int32 → Int32} {fr : Int32 → Bool} {kd : Int32} : isB g1 g2 fr kd 0 (-1) := Or.inl ⟨rfl, fun s hs => absurd hs (by omega)⟩
/-- along the order k, from i on: kinds ahead of it have none -/
theorem bo_isB {g1 g2 : Int32 → Int32} {fr : Int32 → Bool} {kd : Int32} {n k : Nat} (hn : n ≤ 24) (hk : k = s_tk0 kd)
    (hr : ∀ i : Nat, i < tTl k → s_rank kd (tTab k (nI i)) = nI i) (hin : ∀ s, s < n → fr (nI s) = true → ∃ i, i < tTl k ∧ g1 (nI s) = tTab k (nI i)) :
    ∀ (f i : Nat), i + f = tTl k → (∀ j, j < i → ∀ s, s < n → g1 (nI s) = tTab k (nI j) → fr (nI s) = false) → isB g1 g2 fr kd n (s_bo g1 g2 fr n k f i)
  | 0, i, hi, h => by
    refine Or.inl ⟨rfl, fun s hs => ?_⟩
    cases hq : fr (nI s) with
    | false => rfl
    | true =>
      obtain ⟨j, hj, e⟩ := hin s hs hq
      rw [h j (by omega) s hs e] at hq; cases hq
  | f + 1, i, hi, h => by
    have hK := bk_isK (g1 := g1) (g2 := g2) (fr := fr) (kd := tTab k (nI i)) hn n 0 (-1) (by omega) isK_0
    simp only [s_bo]
    rcases hK with ⟨e, hK⟩ | ⟨s, hs, e, hks, hf, hK⟩
    · rw [if_neg (fun q => q e)]
      refine bo_isB hn hk hr hin f (i + 1) (by omega) (fun j hj s hs hks => ?_)
      by_cases hji : j = i
      · subst hji; exact hK s hs hks
      · exact h j (by omega) s hs hks
    · rw [if_pos (by rw [e]; exact nI_ne_m1 (by omega)), e]
      refine Or.inr ⟨s, hs, rfl, hf, fun t ht hft => ?_⟩
      have h5 : tTl k ≤ 5 := by unfold tTl; split <;> omega
      obtain ⟨j, hj, ej⟩ := hin t ht hft
      rw [lxl, hks, ej, hr i (by omega), hr j hj]
      rcases Nat.lt_trichotomy i j with q | q | q
      · exact Or.inl ((nI_ltI (by omega) (by omega)).mpr q)
      · subst q; exact Or.inr ⟨rfl, hK t ht ej hft⟩
      · rw [h j q t ht ej] at hft; cases hft
theorem best_one {g1 g2 : Int32 → Int32} {fr : Int32 → Bool} {kd : Int32} {n : Nat} (hn : n ≤ 24) (hh : ∀ s, s < n → ∃ k : Nat, 1 ≤ k ∧ k ≤ 5 ∧ g1 (nI s) = nI k) (hg : kd = nI 3 → ∀ s, s < n → (g1 (nI s) = nI 2 ∨ g1 (nI s) = nI 3) → fr (nI s) = false) :
    s_bo g1 g2 fr n (s_tk0 kd) (tTl (s_tk0 kd)) 0 = s_bm g1 g2 fr kd n 0 (-1) := by
  refine isB_uniq (g1 := g1) (g2 := g2) (fr := fr) (kd := kd) (n := n) (bo_isB hn rfl ?_ ?_ _ 0 (by omega) (fun j hj => absurd hj (by omega))) (bm_isB hn n 0 (-1) (by omega) isB_0)
  · intro i hi
    unfold s_tk0 at hi ⊢
    by_cases h3 : kd = nI 3
    · rw [if_pos h3] at hi ⊢
      have : i < 3 := hi
      rw [s_rank, if_pos h3]
      rcases (show i = 0 ∨ i = 1 ∨ i = 2 by omega) with rfl | rfl | rfl <;> decide
    · rw [if_neg h3] at hi ⊢
      have : i < 5 := hi
      rw [s_rank, if_neg h3]
      rcases (show i = 0 ∨ i = 1 ∨ i = 2 ∨ i = 3 ∨ i = 4 by omega) with rfl | rfl | rfl | rfl | rfl <;> decide
  · intro s hs hf
    obtain ⟨k, h1, h5, e⟩ := hh s hs
    unfold s_tk0
    by_cases h3 : kd = nI 3
    · rw [if_pos h3]
      rcases (show k = 1 ∨ k = 2 ∨ k = 3 ∨ k = 4 ∨ k = 5 by omega) with rfl | rfl | rfl | rfl | rfl
      · exact ⟨1, by decide, by rw [e]; decide⟩
      · rw [hg h3 s hs (Or.inl e)] at hf; cases hf
      · rw [hg h3 s hs (Or.inr e)] at hf; cases hf
      · exact ⟨0, by decide, by rw [e]; decide⟩
      · exact ⟨2, by decide, by rw [e]; decide⟩
    · rw [if_neg h3]
      rcases (show k = 1 ∨ k = 2 ∨ k = 3 ∨ k = 4 ∨ k = 5 by omega) with rfl | rfl | rfl | rfl | rfl
      · exact ⟨2, by decide, by rw [e]; decide⟩
      · exact ⟨0, by decide, by rw [e]; decide⟩
      · exact ⟨1, by decide, by rw [e]; decide⟩
      · exact ⟨3, by decide, by rw [e]; decide⟩
      · exact ⟨4, by decide, by rw [e]; decide⟩
/-- the best stand, of the view -/
def s_B (μ : tSt) (v a : Int32) : Int32 := s_bm (μ 1) (μ 2) (fun s => decide ((s_A μ v s a (s_out μ v)).1 = 0)) (s_kind μ v) (tn (μ 0 (nI 0))) 0 (-1)
theorem ag_fgate {μ : tSt} {n nC nV : Nat} {o : Int32 → Bool} {w nd s a b : Int32} (h : μ 1 s = nI 2 ∨ μ 1 s = nI 3) : ¬ (s_ag μ n nC nV o (nI 3) w nd s a b).1 = 0 := by
  have hu : s_unf μ (nI 3) nd s a b = true := by
    have : s_gate μ s = true := by simp only [s_gate, decide_eq_true_eq]; exact h
    simp [s_unf, this]
  rw [s_ag]
  split
  · decide
  · decide
theorem s_bestX_eq {σ : tSt} {nS nP nC nV : Nat} (hI : iA (aX σ) nS nP nC nV) (hz : aw0 σ) (v a : Int32) : s_bestX σ nS nP nC nV v a = s_B (aX σ) v a := by
  have hN := hI.1
  have hS24 := hN.1.2
  rw [s_bestX, s_B, s_out_aX, s_kind_aX, tn_of hN.1.1 (by omega), aX_k σ (k := 1) (by decide), aX_k σ (k := 2) (by decide)]
  have e : s_frX (s_reg σ v) nP nC nV a (s_out σ v) = fun s => decide ((s_A (aX σ) v s a (s_out σ v)).1 = 0) := by
    funext s
    rw [s_frX, s_A_X hN hz]
  rw [e]
  refine best_one hS24 (fun s hs => ?_) (fun h3 s hs hg => ?_)
  · have := hI.2.2.2.2.2 s hs
    rw [aX_k σ (by decide)] at this
    exact this
  · refine decide_eq_false ?_
    rw [s_A_of hN, s_kind_aX, h3]
    exact ag_fgate (by rw [aX_k σ (by decide)]; exact hg)
theorem s_bestM_eq {τ : tSt} {nS nP nC nV : Nat} (hI : iA (aM τ) nS nP nC nV) (v a : Int32) : s_bestM τ nS nP nC nV v a (s_out τ v) = s_B (aM τ) v a := by
  have hN := hI.1
  have hS24 := hN.1.2
  rw [s_bestM, s_B, s_out_aM, s_kind_aM, tn_of hN.1.1 (by omega), aM_k τ (k := 1) (by decide), aM_k τ (k := 2) (by decide)]
  have e : s_frM τ nP nC nV v a (s_out τ v) = fun s => decide ((s_A (aM τ) v s a (s_out τ v)).1 = 0) := by
    funext s
    rw [s_frM, s_A_of hN, s_kind_aM, s_wing_aM, s_need_aM, s_agM]
    rw [s_ag_same (ρ := aM τ) (o' := s_ne v) (fun k h1 h2 => by rw [aM_k τ ⟨h1, by omega⟩]) (fun _ _ => rfl)]
  rw [e]
theorem k_X2_bestStandA {σ : tSt} {v a : Int32} {nS nP nC nV : Nat} (hI : iA (aX σ) nS nP nC nV) (hz : aw0 σ) (hv : vp_in v 40) : CT mX2_bestStand [.ref 19, .int v, .int a] σ (fun r ρ => r = some (s_B (aX σ) v a) ∧ ∀ k, k ≠ 19 → ρ k = σ k) := by
  have hN := hI.1
  have hS := hN.1.1
  rw [aX_0] at hS
  have hP := hN.2.1.1
  rw [aX_1] at hP
  have hC := hN.2.2.1.1
  rw [aX_2] at hC
  have hV := hN.2.2.2.1
  rw [aX_3] at hV
  refine (k_X2_bestStand (a := a) hv hS hN.1.2 hV hN.2.2.2.2 (cOK_aX hI.2.1.1) hP hN.2.1.2 hC hN.2.2.1.2).mono (fun r ρ h => ?_)
  obtain ⟨h1, z, rfl⟩ := h
  refine ⟨by rw [h1, s_bestX_eq hI hz], fun k hk => ?_⟩
  simp only [s_reg, up_k hk]
theorem k_X7_bestOfA {τ : tSt} {v a : Int32} {nS nP nC nV : Nat} (hI : iA (aM τ) nS nP nC nV) (hv : vp_in v 40) (hab : a < s_out τ v) : CT mX7_bestOf [.ref 0, .int v, .int a, .int (s_out τ v)] τ (fun r ρ => r = some (s_B (aM τ) v a) ∧ ∃ z, ρ = up τ 0 (nI 24) z) := by
  have hN := hI.1
  have hS := hN.1.1
  rw [aM_0] at hS
  have hP := hN.2.1.1
  rw [aM_1] at hP
  have hC := hN.2.2.1.1
  rw [aM_2] at hC
  have hV := hN.2.2.2.1
  rw [aM_3] at hV
  refine (k_X7_bestOf hv hS hN.1.2 hab hV hN.2.2.2.2 (cOK_aM hI.2.1.1) (sOK_aM hI.2.1.2.1) hP hN.2.1.2 (pOK_aM hI.2.1.2.2.1) hC hN.2.2.1.2 (kOK_aM hI.2.1.2.2.2)).mono (fun r ρ h => ?_)
  exact ⟨by rw [h.1, s_bestM_eq hI], h.2⟩
