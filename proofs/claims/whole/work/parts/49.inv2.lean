theorem f_tow1 {μ : tSt} {v m s : Int32} (h : f_tow μ v m s = 0) : ¬ s_nst μ s ∧ ¬ s_nvi μ v ∧ s_put μ v = true ∧ μ 14 (s_li μ v) < m ∧ μ 0 (nI 4) < m ∧ m < s_out μ v - μ 0 (nI 5) ∧ μ 12 v < nI 8 := by
  unfold f_tow at h
  split at h
  · exact absurd h (by decide)
  · rename_i q1
    split at h
    · exact absurd h (by decide)
    · rename_i q2
      split at h
      · exact absurd h (by decide)
      · rename_i q3
        split at h
        · exact absurd h (by decide)
        · split at h
          · exact absurd h (by decide)
          · rename_i q5
            split at h
            · exact absurd h (by decide)
            · rename_i q6
              split at h
              · exact absurd h (by decide)
              · rename_i q7
                split at h
                · exact absurd h (by decide)
                · rename_i q8
                  exact ⟨q1, q2, n_not q3, n_not q5, n_not q6, n_not q7, n_not q8⟩
theorem sub_lt {m b t : Nat} (hm : m < 2 ^ 31) (hb : b ≤ 2880) (ht : t ≤ 60) (h : nI m < nI b - nI t) : m + t < b := by
  have h1 : (nI b).toInt = b := nI_toInt (by omega)
  have h2 : (nI t).toInt = t := nI_toInt (by omega)
  have h3 : (nI m).toInt = m := nI_toInt hm
  rw [Int32.lt_iff_toInt_lt, Int32.toInt_sub, h1, h2, h3] at h
  rw [Int.bmod_eq_of_le (by omega) (by omega)] at h
  omega
theorem inv_tow {μ : tSt} (h : inv μ) (v m s : Int32) : inv (s_towp μ v m s).2 := by
  unfold s_towp
  split
  · exact inv_dn h _
  · rename_i q
    obtain ⟨q1, q2, q3, q4, q5, q6, q7⟩ := f_tow1 (n_not q)
    split
    · refine inv_al ?_
      obtain ⟨nS, nP, nC, nV, hI, ho⟩ := h
      have hV40 := hI.1.2.2.2.2
      obtain ⟨n, hn, rfl⟩ := nvi_of hI q2
      obtain ⟨st, hst, rfl⟩ := nst_of hI q1
      obtain ⟨c, hc8, hc⟩ := hI.2.1.1 n (by omega)
      have hc1 : 1 ≤ c := Nat.pos_of_ne_zero fun z => by
        rw [s_put, decide_eq_true_eq, hc, z] at q3
        exact q3 (by decide)
      have hc7 : c < 8 := by rw [hc] at q7; exact (nI_ltI (by omega) (by omega)).mp q7
      have hli := li_eq hc hc1
      obtain ⟨t0, ht0, et0⟩ := hI.2.2.2.2.1.1
      obtain ⟨tt, htt1, htt, ett⟩ := hI.2.2.2.2.1.2.1
      obtain ⟨d, b, ed, eb, hdb, hb⟩ := hI.2.2.1.1.io hn
      rw [et0] at q5
      have hm0 : ¬ m < 0 := fun z => absurd (i32_trans_le q5 (Int32.le_of_lt z)) (by rw [show (0 : Int32) = nI 0 from rfl, nI_ltI (by omega) (by decide)]; omega)
      obtain ⟨mm, hmm, rfl⟩ := nI_of hm0
      rw [eb, ett] at q6
      have hmb := sub_lt hmm hb htt q6
      have hkc : nI (c - 1) < μ 12 (nI n) := by rw [hc]; exact (nI_ltI (by omega) (by omega)).mpr (by omega)
      obtain ⟨a, b', ea, eb', hab', hb'⟩ := hI.2.1.2.1 n (c - 1) (by omega) hkc (by omega)
      rw [hli, ea] at q4
      have ham : a < mm := (nI_ltI (by omega) (by omega)).mp q4
      have hu2 : nI 2 < μ 11 (nI n) := hI.2.2.1.2.2.2 n (by omega) (by rw [hc]; exact nI_ne (by omega) (by omega) (by omega))
      have e : s_tw μ (nI n) (nI mm) (nI st) = up (up (up (up (up μ 15 (nI n * nI 8 + nI (c - 1)) (nI (mm + tt))) 13 (nI n * nI 8 + nI c) (nI st)) 14 (nI n * nI 8 + nI c) (nI mm)) 15 (nI n * nI 8 + nI c) (nI b)) 12 (nI n) (nI (c + 1)) := by
        unfold s_tw
        rw [hli, hc, eb, ett, nI_add, nI_add]
      rw [e]
      have hne : ∀ u k j : Nat, u < 40 → k < 8 → j < 8 → ¬ (u = n ∧ k = j) → nI u * nI 8 + nI k ≠ nI n * nI 8 + nI j := fun u k j hu hk hj hh => sl_ne hu (by omega) hk hj hh
      refine ⟨nS, nP, nC, nV, ?_, ?_⟩
      · refine iA_stays hI hn (fun k h1 h2 h3 h4 => by rw [up_k h1, up_k h4, up_k h3, up_k h2, up_k h4]) (fun u hu q => by rw [up_n (nI_ne (by omega) (by omega) q), up_k (by decide), up_k (by decide), up_k (by decide), up_k (by decide)]) (fun u k hu q hk => ⟨?_, ?_, ?_⟩) ⟨c + 1, by omega, up_s⟩ (fun _ => hu2) (fun k hk h8 => ?_)
        · rw [up_k (by decide), up_k (by decide), up_k (by decide), up_n (hne u k c hu hk hc7 (fun w => q w.1)), up_k (by decide)]
        · rw [up_k (by decide), up_k (by decide), up_n (hne u k c hu hk hc7 (fun w => q w.1)), up_k (by decide), up_k (by decide)]
        · rw [up_k (by decide), up_n (hne u k c hu hk hc7 (fun w => q w.1)), up_k (by decide), up_k (by decide), up_n (hne u k (c - 1) hu hk (by omega) (fun w => q w.1))]
        · rw [up_s] at hk
          have hkc1 : k < c + 1 := (nI_ltI (by omega) (by omega)).mp hk
          by_cases hkc2 : k = c
          · subst hkc2
            refine ⟨⟨st, hst, ?_⟩, mm, b, ?_, ?_, by omega, hb⟩
            · rw [up_k (by decide), up_k (by decide), up_k (by decide), up_s]
            · rw [up_k (by decide), up_k (by decide), up_s]
            · rw [up_k (by decide), up_s]
          · have hkl : nI k < μ 12 (nI n) := by rw [hc]; exact (nI_ltI (by omega) (by omega)).mpr (by omega)
            have hn1 := hne n k c (by omega) h8 hc7 (fun w => hkc2 w.2)
            obtain ⟨s1, hs1, es1⟩ := hI.2.2.2.1 n k (by omega) hkl h8
            obtain ⟨a1, b1, ea1, eb1, hab1, hb1⟩ := hI.2.1.2.1 n k (by omega) hkl h8
            refine ⟨⟨s1, hs1, ?_⟩, ?_⟩
            · rw [up_k (by decide), up_k (by decide), up_k (by decide), up_n hn1, up_k (by decide)]; exact es1
            · by_cases hkc3 : k = c - 1
              · subst hkc3
                refine ⟨a, mm + tt, ?_, ?_, by omega, by omega⟩
                · rw [up_k (by decide), up_k (by decide), up_n hn1, up_k (by decide), up_k (by decide)]; exact ea
                · rw [up_k (by decide), up_n hn1, up_k (by decide), up_k (by decide), up_s]
              · refine ⟨a1, b1, ?_, ?_, hab1, hb1⟩
                · rw [up_k (by decide), up_k (by decide), up_n hn1, up_k (by decide), up_k (by decide)]; exact ea1
                · rw [up_k (by decide), up_n hn1, up_k (by decide), up_k (by decide), up_n (hne n k (c - 1) (by omega) h8 (by omega) (fun w => hkc3 w.2))]; exact eb1
      · intro u k hu hk h8
        refine (show _ < s_out μ (nI u) from ?_)
        rw [up_k (by decide), up_k (by decide)]
        by_cases q : u = n ∧ k = c
        · obtain ⟨rfl, rfl⟩ := q
          rw [up_s, eb]
          exact (nI_ltI (by omega) (by omega)).mpr (by omega)
        · rw [up_n (hne u k c hu h8 hc7 q), up_k (by decide), up_k (by decide)]
          refine ho u k hu ?_ h8
          rw [up_at] at hk
          by_cases q2 : nI u = nI n
          · rw [if_pos q2] at hk
            have hun := nI_inj (by omega) (by omega) q2
            have := (nI_ltI (by omega) (by omega)).mp hk
            rw [q2, hc]
            exact (nI_ltI (by omega) (by omega)).mpr (by omega)
          · rw [if_neg q2] at hk
            exact hk
    · exact inv_dn (inv_rs h _) _
theorem f_sw1 {μ : tSt} {a b : Int32} (h : f_sw μ a b = 0) : ¬ s_nvi μ a ∧ ¬ s_nvi μ b ∧ μ 12 a = nI 1 ∧ μ 12 b = nI 1 := by
  unfold f_sw at h
  split at h
  · exact absurd h (by decide)
  · rename_i q1
    split at h
    · exact absurd h (by decide)
    · rename_i q2
      split at h
      · exact absurd h (by decide)
      · split at h
        · exact absurd h (by decide)
        · split at h
          · exact absurd h (by decide)
          · split at h
            · exact absurd h (by decide)
            · rename_i q6
              split at h
              · exact absurd h (by decide)
              · rename_i q7
                exact ⟨q1, q2, n_not q6, n_not q7⟩
theorem inv_swap {μ : tSt} (h : inv μ) (a b : Int32) : inv (s_swapp μ a b).2 := by
  unfold s_swapp
  split
  · exact inv_dn h _
  · rename_i q
    obtain ⟨q1, q2, q3, q4⟩ := f_sw1 (n_not q)
    split
    · exact inv_dn (inv_rs h _) _
    · split
      · exact inv_dn (inv_rs h _) _
      · refine inv_al ?_
        obtain ⟨nS, nP, nC, nV, hI, ho⟩ := h
        have hV40 := hI.1.2.2.2.2
        obtain ⟨x, hx, rfl⟩ := nvi_of hI q1
        obtain ⟨y, hy, rfl⟩ := nvi_of hI q2
        obtain ⟨sx, hsx, ex⟩ := hI.2.2.2.1 x 0 (by omega) (by rw [q3]; decide) (by decide)
        obtain ⟨sy, hsy, ey⟩ := hI.2.2.2.1 y 0 (by omega) (by rw [q4]; decide) (by decide)
        rw [add_n0] at ex ey
        obtain ⟨a0, b0, c0, d0, e0, f0⟩ := hI
        refine ⟨nS, nP, nC, nV, ⟨a0, b0, c0, ?_, e0, f0⟩, ho⟩
        intro u k hu hk h8
        rw [up_at]
        by_cases w1 : nI u * nI 8 + nI k = nI y * nI 8
        · rw [if_pos w1]; exact ⟨sx, hsx, ex⟩
        · rw [if_neg w1, up_at]
          by_cases w2 : nI u * nI 8 + nI k = nI x * nI 8
          · rw [if_pos w2]; exact ⟨sy, hsy, ey⟩
          · rw [if_neg w2]; exact d0 u k hu hk h8
theorem oOK_srv {nS nP nC nV : Nat} {now : Int32} (hV40 : nV ≤ 40) : ∀ (l : List Nat) {μ : tSt}, oOK μ → (∀ v ∈ l, cand μ now nV v) → oOK (s_srv now l μ).2
  | [], _, h, _ => h
  | v :: l, μ, h, hc => by
    rw [s_srv]
    obtain ⟨h1, h2, a, b, e1, e2, hab, hb⟩ := hc v (by simp)
    split
    · exact oOK_srv (nS := nS) (nP := nP) (nC := nC) hV40 l h (fun x hx => hc x (by simp [hx]))
    · exact oOK_srv (nS := nS) (nP := nP) (nC := nC) hV40 l (oOK_set h (by omega) (by rw [e1, e2]; exact (nI_ltI (by omega) (by omega)).mpr hab)) (fun x hx => cand_set (hc x (by simp [hx])) _ _ _ _)
theorem inv_plan {μ : tSt} (h : inv μ) : inv (s_planp μ).2 := by
  unfold s_planp
  refine inv_gr ?_ _
  obtain ⟨nS, nP, nC, nV, hI, ho⟩ := h
  have hV40 := hI.1.2.2.2.2
  have hcd : ∀ v ∈ l_plan μ, cand μ (μ 0 (nI 4)) nV v := fun v hv => by
    rw [l_plan, tn_of hI.1.2.2.2.1 (by omega)] at hv
    obtain ⟨a, b⟩ := mem_sl.mp hv
    exact (cand_come hI a b).1
  exact ⟨nS, nP, nC, nV, iA_srv _ hI hcd, oOK_srv (nS := nS) (nP := nP) (nC := nC) hV40 _ ho hcd⟩
theorem inv_now {μ : tSt} (h : inv μ) (m : Int32) : inv (s_nowp μ m).2 := by
  unfold s_nowp
  split
  · exact inv_rf h _
  · rename_i q
    refine inv_gr ?_ _
    obtain ⟨nS, nP, nC, nV, hI, ho⟩ := h
    have hV40 := hI.1.2.2.2.2
    have hI2 := iA_now hI (n_not q)
    have ho2 : oOK (up μ 0 (nI 4) m) := ho
    have hcd : ∀ v ∈ l_wait (up μ 0 (nI 4) m), cand (up μ 0 (nI 4) m) m nV v := fun v hv => by
      rw [l_wait, tn_of hI2.1.2.2.2.1 (by omega)] at hv
      obtain ⟨a, b⟩ := mem_sl.mp hv
      have := (cand_wait hI2 a b).1
      rwa [up_s] at this
    exact ⟨nS, nP, nC, nV, iA_srv _ hI2 hcd, oOK_srv (nS := nS) (nP := nP) (nC := nC) hV40 _ ho2 hcd⟩
