/-! LATE: its parts, of the view -/
theorem s_ag_gen {σ ρ : tSt} {n nC nV : Nat} {o o' : Int32 → Bool} (hk : ∀ k, k ≠ 0 → k ≤ 9 → σ k = ρ k)
    (hv : ∀ u : Nat, u < nV → (o (nI u) = o' (nI u) ∧ σ 12 (nI u) = ρ 12 (nI u) ∧ s_wing σ (nI u) = s_wing ρ (nI u) ∧ ∀ j : Nat, j < tn (σ 12 (nI u)) → σ 13 (nI u * nI 8 + nI j) = ρ 13 (nI u * nI 8 + nI j) ∧ σ 14 (nI u * nI 8 + nI j) = ρ 14 (nI u * nI 8 + nI j) ∧ σ 15 (nI u * nI 8 + nI j) = ρ 15 (nI u * nI 8 + nI j)) ∨ ((o (nI u) = false ∨ tn (σ 12 (nI u)) = 0) ∧ (o' (nI u) = false ∨ tn (ρ 12 (nI u)) = 0))) (kd w nd s a b : Int32) :
    s_ag σ n nC nV o kd w nd s a b = s_ag ρ n nC nV o' kd w nd s a b := by
  have h1 := hk 1 (by decide) (by decide)
  have h2 := hk 2 (by decide) (by decide)
  have h3 := hk 3 (by decide) (by decide)
  have h4 := hk 4 (by decide) (by decide)
  have h5 := hk 5 (by decide) (by decide)
  have h6 := hk 6 (by decide) (by decide)
  have h7 := hk 7 (by decide) (by decide)
  have h8 := hk 8 (by decide) (by decide)
  have h9 := hk 9 (by decide) (by decide)
  have hnear : ∀ s w q x, s_near σ n s w q x = s_near ρ n s w q x := fun s w q x => by unfold s_near; rw [h3, h4, h5, h6]
  have A : ∀ j : Nat, j < nV → (o (nI j) && s_nbr σ n w (nI j) s a b) = (o' (nI j) && s_nbr ρ n w (nI j) s a b) := by
    intro j hj
    rcases hv j hj with ⟨e1, e2, e3, e4⟩ | ⟨e1, e2⟩
    · have : s_nbr σ n w (nI j) s a b = s_nbr ρ n w (nI j) s a b := by
        unfold s_nbr
        rw [← e2, e3]
        exact an_congr (fun i _ hi => by obtain ⟨q1, q2, q3⟩ := e4 i (by omega); simp only [q1, q2, q3, hnear])
      rw [e1, this]
    · have f1 : (o (nI j) && s_nbr σ n w (nI j) s a b) = false := by
        rcases e1 with e | e
        · rw [e]; rfl
        · rw [s_nbr, e, an_0, Bool.and_false]
      have f2 : (o' (nI j) && s_nbr ρ n w (nI j) s a b) = false := by
        rcases e2 with e | e
        · rw [e]; rfl
        · rw [s_nbr, e, an_0, Bool.and_false]
      rw [f1, f2]
  have B : ∀ (u s a b : Int32) (j : Nat), j < nV → (decide (¬ nI j = u) && o (nI j) && s_there σ (nI j) s a b) = (decide (¬ nI j = u) && o' (nI j) && s_there ρ (nI j) s a b) := by
    intro u s a b j hj
    rcases hv j hj with ⟨e1, e2, e3, e4⟩ | ⟨e1, e2⟩
    · have : s_there σ (nI j) s a b = s_there ρ (nI j) s a b := by
        unfold s_there
        rw [← e2]
        exact an_congr (fun i _ hi => by obtain ⟨q1, q2, q3⟩ := e4 i (by omega); simp only [s_sa, q1, q2, q3])
      rw [e1, this]
    · have f1 : (o (nI j) && s_there σ (nI j) s a b) = false := by
        rcases e1 with e | e
        · rw [e]; rfl
        · rw [s_there, e, an_0, Bool.and_false]
      have f2 : (o' (nI j) && s_there ρ (nI j) s a b) = false := by
        rcases e2 with e | e
        · rw [e]; rfl
        · rw [s_there, e, an_0, Bool.and_false]
      rw [Bool.and_assoc, Bool.and_assoc, f1, f2]
  have Cc : ∀ u s a b, s_third σ nV o u s a b = s_third ρ nV o' u s a b := fun u s a b => an_congr (fun j _ hj => B u s a b j (by omega))
  have E : ∀ j : Nat, j < nV → (o (nI j) && s_takes σ nV o w (nI j) s a b) = (o' (nI j) && s_takes ρ nV o' w (nI j) s a b) := by
    intro j hj
    rcases hv j hj with ⟨e1, e2, e3, e4⟩ | ⟨e1, e2⟩
    · have : s_takes σ nV o w (nI j) s a b = s_takes ρ nV o' w (nI j) s a b := by
        unfold s_takes
        rw [← e2]
        exact an_congr (fun i _ hi => by obtain ⟨q1, q2, q3⟩ := e4 i (by omega); simp only [s_tk, s_sa, s_share, q1, q2, q3, Cc, h1, h2, e3])
      rw [e1, this]
    · have f1 : (o (nI j) && s_takes σ nV o w (nI j) s a b) = false := by
        rcases e1 with e | e
        · rw [e]; rfl
        · rw [s_takes, e, an_0, Bool.and_false]
      have f2 : (o' (nI j) && s_takes ρ nV o' w (nI j) s a b) = false := by
        rcases e2 with e | e
        · rw [e]; rfl
        · rw [s_takes, e, an_0, Bool.and_false]
      rw [f1, f2]
  have e1 : s_fn σ n nV o w s a b = s_fn ρ n nV o' w s a b := fi_congr (fun j _ hj => A j (by omega))
  have e2 : s_ft σ nV o w s a b = s_ft ρ nV o' w s a b := fi_congr (fun j _ hj => E j (by omega))
  have e3 : s_fc σ nC s a b = s_fc ρ nC s a b := by simp only [s_fc, h7, h8, h9]
  have e4 : s_unf σ kd nd s a b = s_unf ρ kd nd s a b := by simp only [s_unf, s_gate, h1]
  unfold s_ag
  rw [e1, e2, e3, e4, h2]
theorem s_A_by {μ : tSt} {nS nP nC nV : Nat} (h : iN μ nS nP nC nV) {v s a b : Int32} (hc : (s_A μ v s a b).1 = nI 3 ∨ (s_A μ v s a b).1 = nI 5) : ∃ u, u < nV ∧ (s_A μ v s a b).2 = nI u ∧ ¬ nI u = v ∧ ¬ tn (μ 12 (nI u)) = 0 := by
  rw [s_A_of h] at hc ⊢
  unfold s_ag at hc ⊢
  split
  · rename_i q; rw [if_pos q] at hc; exact absurd hc (show ¬ (nI 1 = nI 3 ∨ nI 1 = nI 5) by decide)
  · rename_i q
    rw [if_neg q] at hc
    split
    · rename_i q; rw [if_pos q] at hc; exact absurd hc (show ¬ (nI 2 = nI 3 ∨ nI 2 = nI 5) by decide)
    · rename_i q
      rw [if_neg q] at hc
      split
      · rename_i q
        obtain ⟨j, _, hj, e, hp⟩ := fi_some q
        rw [Bool.and_eq_true] at hp
        refine ⟨j, by omega, e, of_decide_eq_true hp.1, fun z => ?_⟩
        have := hp.2
        rw [s_nbr, z, an_0] at this
        exact absurd this (by decide)
      · rename_i q
        rw [if_neg q] at hc
        split
        · rename_i q; rw [if_pos q] at hc; exact absurd hc (show ¬ (nI 4 = nI 3 ∨ nI 4 = nI 5) by decide)
        · rename_i q
          rw [if_neg q] at hc
          split
          · rename_i q
            obtain ⟨j, _, hj, e, hp⟩ := fi_some q
            rw [Bool.and_eq_true] at hp
            refine ⟨j, by omega, e, of_decide_eq_true hp.1, fun z => ?_⟩
            have := hp.2
            rw [s_takes, z, an_0] at this
            exact absurd this (by decide)
          · rename_i q; rw [if_neg q] at hc; exact absurd hc (show ¬ (nI 0 = nI 3 ∨ nI 0 = nI 5) by decide)
theorem iA_cnt {μ ρ : tSt} {nS nP nC nV : Nat} (h : iA μ nS nP nC nV) (hk : ∀ k, k ≠ 12 → ρ k = μ k) (h12 : ∀ u : Nat, u < 40 → ρ 12 (nI u) = μ 12 (nI u) ∨ ρ 12 (nI u) = nI 0) : iA ρ nS nP nC nV := by
  obtain ⟨a, ⟨b1, b2, b3, b4⟩, ⟨c1, c2, c3, c4⟩, d, e, f⟩ := h
  have e0 := hk 0 (by decide)
  have hlt : ∀ u k : Nat, u < 40 → nI k < ρ 12 (nI u) → k < 8 → nI k < μ 12 (nI u) := fun u k hu q q8 => by
    rcases h12 u hu with z | z
    · rwa [z] at q
    · rw [z] at q; exact absurd q (by rw [n0]; exact nI_pos (by omega))
  refine ⟨?_, ⟨?_, ?_, ?_, ?_⟩, ⟨?_, ?_, ?_, ?_⟩, ?_, ?_, ?_⟩
  · unfold iN; rw [e0]; exact a
  · intro u hu
    rcases h12 u hu with z | z
    · rw [z]; exact b1 u hu
    · exact ⟨0, by decide, z⟩
  · intro u k hu q q8
    rw [hk 14 (by decide), hk 15 (by decide)]
    exact b2 u k hu (hlt u k hu q q8) q8
  · intro p hp; rw [hk 3 (by decide), hk 4 (by decide)]; exact b3 p hp
  · intro p hp; rw [hk 8 (by decide), hk 9 (by decide)]; exact b4 p hp
  · intro u hu; rw [hk 10 (by decide)]; exact c1 u hu
  · intro u hu hu2
    rcases h12 u hu2 with z | z
    · rw [z]; exact c2 u hu hu2
    · exact z
  · intro u hu; rw [hk 11 (by decide)]; exact c3 u hu
  · intro u hu hne
    rw [hk 11 (by decide)]
    rcases h12 u hu with z | z
    · rw [z] at hne; exact c4 u hu hne
    · exact absurd z hne
  · intro u k hu q q8
    rw [hk 13 (by decide)]
    exact d u k hu (hlt u k hu q q8) q8
  · unfold mOK; rw [e0]; exact e
  · intro s hs; rw [hk 1 (by decide)]; exact f s hs
def vd (g : Int32 → Bool) (μ : tSt) : tSt := fun k j => if k = 12 ∧ g j = true then nI 0 else μ k j
theorem vd_k {g : Int32 → Bool} {μ : tSt} {k : Nat} (h : k ≠ 12) : vd g μ k = μ k := by funext j; unfold vd; rw [if_neg (fun q => h q.1)]
theorem vd_t {g : Int32 → Bool} {μ : tSt} {j : Int32} (h : g j = true) : vd g μ 12 j = nI 0 := by unfold vd; rw [if_pos ⟨rfl, h⟩]
theorem vd_f {g : Int32 → Bool} {μ : tSt} {j : Int32} (h : ¬ g j = true) : vd g μ 12 j = μ 12 j := by unfold vd; rw [if_neg (fun q => h q.2)]
theorem vd_0 {μ : tSt} : vd (fun _ => false) μ = μ := by funext k j; unfold vd; rw [if_neg (fun q => Bool.false_ne_true q.2)]
theorem iA_vd {μ : tSt} {nS nP nC nV : Nat} (h : iA μ nS nP nC nV) (g : Int32 → Bool) : iA (vd g μ) nS nP nC nV := iA_cnt h (fun k hk => vd_k hk) (fun u _ => by
  by_cases q : g (nI u) = true
  · exact Or.inr (vd_t q)
  · exact Or.inl (vd_f q))
def ltm (μ : tSt) (v t : Int32) : tSt := up (up μ 10 (v * nI 5 + nI 3) t) 15 (s_li μ v) t
def can (μ : tSt) (a : Int32 × Int32) : Bool := (decide (a.1 = nI 3) || decide (a.1 = nI 5)) && !s_beg μ (μ 0 (nI 4)) a.2
def ltG (μ : tSt) (v S A t : Int32) : Nat → (Int32 → Bool) → (Int32 × Int32) × (Int32 → Bool)
  | 0, g => (s_A (vd g μ) v S A t, g)
  | f + 1, g => if can μ (s_A (vd g μ) v S A t) = true then ltG μ v S A t f (fun j => decide (j = (s_A (vd g μ) v S A t).2) || g j) else (s_A (vd g μ) v S A t, g)
def chg (μ : tSt) (u : Int32) : tSt := up (up μ 16 (μ 0 (nI 9)) u) 0 (nI 9) (μ 0 (nI 9) + nI 1)
def ltP (μ : tSt) (u : Int32) : tSt := if s_B μ u (s_in μ u) = -1 then μ else s_set μ u (s_B μ u (s_in μ u)) (s_in μ u) (s_out μ u)
def ltS (F : Int32 → Int32) (μ : tSt) (u : Int32) : tSt := if s_B μ u (s_in μ u) = F u then ltP μ u else chg (ltP μ u) u
def ltB (F : Int32 → Int32) : List Nat → tSt → tSt
  | [], μ => μ
  | u :: l, μ => ltB F l (ltS F μ (nI u))
def s_G (μ : tSt) (v t : Int32) : (Int32 × Int32) × (Int32 → Bool) := ltG μ v (μ 13 (s_li μ v)) (μ 14 (s_li μ v)) t 40 (fun _ => false)
def s_LM (μ : tSt) (v t : Int32) : tSt := ltB (fun u => μ 13 (u * nI 8)) (sl μ (s_G μ v t).2 (tn (μ 0 (nI 3)))) (up (vd (s_G μ v t).2 (ltm μ v t)) 0 (nI 9) (nI 0))
def f_late (μ : tSt) (v t : Int32) : Int32 := if s_nvi μ v then nI 2 else if μ 11 v ≤ nI 3 then nI 3 else if t ≤ s_out μ v then nI 3 else if ¬ t ≤ nI 2880 then nI 3 else if ¬ s_put μ v = true then nI 6 else nI 0
def s_latep (μ : tSt) (v t : Int32) : Int32 × tSt := if ¬ f_late μ v t = 0 then s_rf μ (f_late μ v t) else if ¬ (s_G μ v t).1.1 = 0 then s_rf (s_rs μ (s_G μ v t).1) (nI 9) else s_gr (s_LM μ v t) (s_LM μ v t 0 (nI 9))
def oOK (μ : tSt) : Prop := ∀ u k : Nat, u < 40 → nI k < μ 12 (nI u) → k < 8 → μ 14 (nI u * nI 8 + nI k) < s_out μ (nI u)
theorem rw_ne {u v k j : Nat} (hu : u < 40) (hv : v < 40) (hk : k < 5) (hj : j < 5) (h : ¬ (u = v ∧ k = j)) : nI u * nI 5 + nI k ≠ nI v * nI 5 + nI j := by
  rw [pk_mul, nI_add, pk_mul, nI_add]
  intro e
  have := nI_inj (by omega) (by omega) e
  omega
theorem rw_ne0 {u v j : Nat} (hu : u < 40) (hv : v < 40) (hj : j < 5) (h : ¬ (u = v ∧ 0 = j)) : nI u * nI 5 ≠ nI v * nI 5 + nI j := by
  have := rw_ne (k := 0) hu hv (by omega) hj h
  rwa [add_n0] at this
theorem li_eq {μ : tSt} {v c : Nat} (h : μ 12 (nI v) = nI c) (hc : 1 ≤ c) : s_li μ (nI v) = nI v * nI 8 + nI (c - 1) := by
  unfold s_li
  rw [h, pk_mul, nI_add, nI_add, pk_sub (by omega), show v * 8 + c - 1 = v * 8 + (c - 1) by omega]
/-- what f_late = 0 tells -/
theorem late0 {μ : tSt} {nS nP nC nV : Nat} (h : iA μ nS nP nC nV) (ho : oOK μ) {v t : Int32} (h0 : f_late μ v t = 0) : ∃ n c s a b d m : Nat, v = nI n ∧ n < nV ∧ μ 12 v = nI c ∧ 1 ≤ c ∧ c ≤ 8 ∧ s_li μ v = nI n * nI 8 + nI (c - 1) ∧ μ 13 (s_li μ v) = nI s ∧ s < nS ∧ μ 14 (s_li μ v) = nI a ∧ s_out μ v = nI b ∧ a < b ∧ t = nI m ∧ b < m ∧ m ≤ 2880 ∧ nI 3 < μ 11 v ∧ μ 10 (v * nI 5 + nI 2) = nI d ∧ d < b := by
  unfold f_late at h0
  split at h0
  · exact absurd h0 (by decide)
  · rename_i q1
    split at h0
    · exact absurd h0 (by decide)
    · rename_i q2
      split at h0
      · exact absurd h0 (by decide)
      · rename_i q3
        split at h0
        · exact absurd h0 (by decide)
        · rename_i q4
          split at h0
          · exact absurd h0 (by decide)
          · rename_i q5
            have hV40 := h.1.2.2.2.2
            rw [s_nvi] at q1
            have q1 := n_not q1
            obtain ⟨n, hn, rfl⟩ := nI_of q1.1
            have hnV : n < nV := by
              have := q1.2
              rw [h.1.2.2.2.1] at this
              exact Nat.not_le.mp fun z => this ((nI_leI (by omega) (by omega)).mpr z)
            obtain ⟨c, hc8, hc⟩ := h.2.1.1 n (by omega)
            have hc1 : 1 ≤ c := Nat.pos_of_ne_zero fun z => by
              have q5 := n_not q5
              rw [s_put, decide_eq_true_eq, hc, z] at q5
              exact q5 (by decide)
            have hli := li_eq hc hc1
            have hkc : nI (c - 1) < μ 12 (nI n) := by rw [hc]; exact (nI_ltI (by omega) (by omega)).mpr (by omega)
            obtain ⟨s, hs, es⟩ := h.2.2.2.1 n (c - 1) (by omega) hkc (by omega)
            obtain ⟨a, b', ea, eb', hab', hb'⟩ := h.2.1.2.1 n (c - 1) (by omega) hkc (by omega)
            obtain ⟨d, b, ed, eb, hdb, hb⟩ := h.2.2.1.1.io hnV
            have hlt := ho n (c - 1) (by omega) hkc (by omega)
            rw [ea, eb] at hlt
            have hab := (nI_ltI (by omega) (by omega)).mp hlt
            have ht0 : ¬ t < 0 := fun z => q3 (by
              rw [eb]
              exact Int32.le_of_lt (i32_trans_le z (nI_pos' (by omega))))
            obtain ⟨m, hm, rfl⟩ := nI_of ht0
            rw [eb] at q3
            have hbm : b < m := Nat.not_le.mp fun z => q3 ((nI_leI (by omega) (by omega)).mpr z)
            have hm2 : m ≤ 2880 := (nI_leI (by omega) (by omega)).mp (n_not q4)
            exact ⟨n, c, s, a, b, d, m, rfl, hnV, hc, hc1, hc8, hli, by rw [hli]; exact es, hs, by rw [hli]; exact ea, eb, hab, rfl, hbm, hm2, Int32.not_le.mp q2, ed, hdb⟩
