/-! THOSE IN LINE ARE SERVED -/
def s_srv (now : Int32) : List Nat → tSt → Nat × tSt
  | [], μ => (0, μ)
  | v :: t, μ => if s_B μ (nI v) (s_mx (s_in μ (nI v)) now) = -1 then s_srv now t μ else ((s_srv now t (s_set μ (nI v) (s_B μ (nI v) (s_mx (s_in μ (nI v)) now)) (s_mx (s_in μ (nI v)) now) (s_out μ (nI v)))).1 + 1, (s_srv now t (s_set μ (nI v) (s_B μ (nI v) (s_mx (s_in μ (nI v)) now)) (s_mx (s_in μ (nI v)) now) (s_out μ (nI v)))).2)
theorem s_srv_le (now : Int32) : ∀ (l : List Nat) (μ : tSt), (s_srv now l μ).1 ≤ l.length
  | [], _ => Nat.le_refl _
  | v :: t, μ => by
    simp only [s_srv]
    split
    · exact Nat.le_trans (s_srv_le now t μ) (by simp)
    · have := s_srv_le now t (s_set μ (nI v) (s_B μ (nI v) (s_mx (s_in μ (nI v)) now)) (s_mx (s_in μ (nI v)) now) (s_out μ (nI v)))
      simp only [List.length_cons]
      omega
/-- one in line: what it needs -/
def cand (μ : tSt) (now : Int32) (nV v : Nat) : Prop := v < nV ∧ nI 2 < μ 11 (nI v) ∧ ∃ a b : Nat, s_mx (s_in μ (nI v)) now = nI a ∧ s_out μ (nI v) = nI b ∧ a < b ∧ b ≤ 2880
theorem cand_set {μ : tSt} {now : Int32} {nV v : Nat} (h : cand μ now nV v) (u s a b : Int32) : cand (s_set μ u s a b) now nV v := h
theorem s_bm_in {g1 g2 : Int32 → Int32} {fr : Int32 → Bool} {kd : Int32} {n : Nat} (hn : n ≤ 24) (h : ¬ s_bm g1 g2 fr kd n 0 (-1) = -1) : ∃ s, s < n ∧ s_bm g1 g2 fr kd n 0 (-1) = nI s := by
  rcases bm_isB (g1 := g1) (g2 := g2) (fr := fr) (kd := kd) hn n 0 (-1) (by omega) isB_0 with ⟨e, _⟩ | ⟨s, hs, e, _⟩
  · exact absurd e h
  · exact ⟨s, hs, e⟩
theorem s_B_in {μ : tSt} {nS nP nC nV : Nat} (h : iA μ nS nP nC nV) {v a : Int32} (hb : ¬ s_B μ v a = -1) : ∃ s, s < nS ∧ s_B μ v a = nI s := by
  have h24 := h.1.1.2
  unfold s_B at hb ⊢
  rw [tn_of h.1.1.1 (by omega)] at hb ⊢
  exact s_bm_in h24 hb
theorem iA_serve {μ : tSt} {nS nP nC nV v : Nat} {now : Int32} (h : iA μ nS nP nC nV) (hc : cand μ now nV v) (hb : ¬ s_B μ (nI v) (s_mx (s_in μ (nI v)) now) = -1) : iA (s_set μ (nI v) (s_B μ (nI v) (s_mx (s_in μ (nI v)) now)) (s_mx (s_in μ (nI v)) now) (s_out μ (nI v))) nS nP nC nV := by
  obtain ⟨s, hs, e⟩ := s_B_in h hb
  obtain ⟨h1, h2, a, b, e1, e2, h3, h4⟩ := hc
  rw [e, e1, e2]
  exact iA_set h h1 h2 hs h3 h4
theorem iA_srv {nS nP nC nV : Nat} {now : Int32} : ∀ (l : List Nat) {μ : tSt}, iA μ nS nP nC nV → (∀ v ∈ l, cand μ now nV v) → iA (s_srv now l μ).2 nS nP nC nV
  | [], _, h, _ => h
  | v :: t, μ, h, hc => by
    simp only [s_srv]
    split
    · exact iA_srv t h (fun u hu => hc u (List.mem_cons_of_mem _ hu))
    · rename_i hb
      exact iA_srv t (iA_serve h (hc v List.mem_cons_self) hb) (fun u hu => cand_set (hc u (List.mem_cons_of_mem _ hu)) ..)
theorem drop_cons {l : List Nat} {i : Nat} (hi : i < l.length) : l.drop i = l[i] :: l.drop (i + 1) := List.drop_eq_getElem_cons hi
theorem aX_off19 {σ ρ : tSt} (h : ∀ k, k ≠ 19 → ρ k = σ k) : aX ρ = aX σ := by
  funext k i
  simp only [aX]
  rw [h 17 (by decide), h 18 (by decide), h 0 (by decide), h 25 (by decide)]
  by_cases hk : k = 0
  · rw [if_pos hk, if_pos hk]
  · rw [if_neg hk, if_neg hk]
    by_cases h16 : k ≤ 16
    · rw [if_pos h16, if_pos h16, h k (by omega)]
    · rw [if_neg h16, if_neg h16]
theorem lp_X6_serveLine_4 {σ0 : tSt} {nS nP nC nV : Nat} {l : List Nat} (hl40 : l.length ≤ 40) (hln : σ0 22 (nI 1) = nI l.length) (hls : LNS (σ0 30) l) : ∀ (f i c : Nat) (σ : tSt), i + f = l.length → iA (aX σ) nS nP nC nV → aw0 σ → σ 22 = σ0 22 → σ 30 = σ0 30 → (∀ v ∈ l.drop i, cand (aX σ) (aX σ0 0 (nI 4)) nV v) → σ 18 = σ0 18 →
    TT mX6_serveLine 4 [.ref 0, .int (nI c), .int (nI i), .null, .null] [] σ (fun r ρ => r = some (nI (c + (s_srv (aX σ0 0 (nI 4)) (l.drop i) (aX σ)).1)) ∧ aX ρ = (s_srv (aX σ0 0 (nI 4)) (l.drop i) (aX σ)).2 ∧ aw0 ρ ∧ ρ 22 = σ0 22) := by
  intro f
  induction f with
  | zero =>
    intro i c σ hi hI hz h22 h30 hcd h18
    have hn : σ 22 (nI 1) = nI l.length := by rw [h22]; exact hln
    refine tr_iload_n eX6_serveLine_4 rfl ?_
    refine tr_aload_n eX6_serveLine_5 rfl ?_
    refine tr_getR eX6_serveLine_6 fk_X6_53 rfl rfl ?_
    refine tr_getI eX6_serveLine_9 fk_X6_190 rfl rfl ?_
    refine tr_icmp_ge eX6_serveLine_12 (fun h12 => ?_) (fun h12 => ?_)
    · skip
      refine tr_iload_n eX6_serveLine_77 rfl ?_
      refine tr_ret eX6_serveLine_78 rfl rfl ?_
      rw [List.drop_of_length_le (by omega)]
      exact ⟨rfl, rfl, hz, h22⟩
    · skip
      exact absurd (lt_of hn (by omega) (by omega) h12) (by omega)
  | succ f ih =>
    intro i c σ hi hI hz h22 h30 hcd h18
    have hn : σ 22 (nI 1) = nI l.length := by rw [h22]; exact hln
    have hil : i < l.length := by omega
    have hmi : σ 30 (nI i) = nI l[i] := by rw [h30]; exact hls i hil
    have hcv : cand (aX σ) (aX σ0 0 (nI 4)) nV l[i] := hcd _ (by rw [drop_cons hil]; exact List.mem_cons_self)
    have hcd' : ∀ v ∈ l.drop (i + 1), cand (aX σ) (aX σ0 0 (nI 4)) nV v := fun v hv => hcd v (by rw [drop_cons hil]; exact List.mem_cons_of_mem _ hv)
    have hV40 : nV ≤ 40 := hI.1.2.2.2.2
    have hv : vp_in (nI l[i]) 40 := vp_in_nI (by have := hcv.1; omega) (by decide)
    have hnow : σ 18 (nI 7) = aX σ0 0 (nI 4) := by rw [aX_4, h18]
    refine tr_iload_n eX6_serveLine_4 rfl ?_
    refine tr_aload_n eX6_serveLine_5 rfl ?_
    refine tr_getR eX6_serveLine_6 fk_X6_53 rfl rfl ?_
    refine tr_getI eX6_serveLine_9 fk_X6_190 rfl rfl ?_
    refine tr_icmp_ge eX6_serveLine_12 (fun h12 => ?_) (fun h12 => ?_)
    · skip
      exact absurd (ge_of hn (by omega) (by omega) h12) (by omega)
    · skip
      skip
      refine tr_aload_n eX6_serveLine_15 rfl ?_
      refine tr_getR eX6_serveLine_16 fk_X6_53 rfl rfl ?_
      refine tr_getR eX6_serveLine_19 fk_X6_269 rfl rfl ?_
      refine tr_iload_n eX6_serveLine_22 rfl ?_
      refine tr_iald eX6_serveLine_23 rfl (vp_in_nI (by omega) (by decide)) ?_
      rw [hmi]
      refine tr_istore_n eX6_serveLine_24 (by decide) rfl ?_
      refine tr_aload_n eX6_serveLine_25 rfl ?_
      refine tr_getR eX6_serveLine_26 fk_X6_19 rfl rfl ?_
      refine tr_iload_n eX6_serveLine_29 rfl ?_
      refine tr_ce1 eX6_serveLine_30 zv_X5_inOf zi_X5_inOf lk_X6_146 ⟨rfl, by decide, by decide⟩ rfl rfl rfl (show CT mX5_inOf _ _ (PE (some (s_in (aX σ) (nI l[i]))) _) from by have h := k_X5_inOf (σ := σ) hv; rw [s_in_aX]; exact h) ?_
      refine tr_aload_n eX6_serveLine_33 rfl ?_
      refine tr_getR eX6_serveLine_34 fk_X6_19 rfl rfl ?_
      refine tr_getI eX6_serveLine_37 fk_X6_224 rfl rfl ?_
      rw [hnow]
      refine tr_max eX6_serveLine_40 lm_X6_272 wm_max_s wm_i wm_max_c (by decide) (Nat.le_of_ble_eq_true rfl) ?_
      refine tr_istore eX6_serveLine_43 (by decide) rfl ?_
      refine tr_aload_n eX6_serveLine_45 rfl ?_
      refine tr_getR eX6_serveLine_46 fk_X6_19 rfl rfl ?_
      refine tr_iload_n eX6_serveLine_49 rfl ?_
      refine tr_aload_n eX6_serveLine_50 rfl ?_
      refine tr_getR eX6_serveLine_51 fk_X6_28 rfl rfl ?_
      refine tr_iload_n eX6_serveLine_54 rfl ?_
      refine tr_iload eX6_serveLine_55 rfl ?_
      refine tr_cv2 (r0 := none) (σ1 := fun _ _ => 0) eX6_serveLine_57 zv_X2_bestStand zi_X2_bestStand lk_X6_277 ⟨rfl, by decide, by decide⟩ rfl rfl rfl (k_X2_bestStandA hI hz hv) (fun r' ρ hq => ?_)
      try simp (disch := decide) only [up_k, up_s, up_f, s_set_0]
      obtain ⟨rfl, hρ⟩ := hq
      have haρ := aX_off19 hρ
      have hzρ : aw0 ρ := fun u hu => by rw [hρ 26 (by decide)]; exact hz u hu
      refine tr_iload eX6_serveLine_60 rfl ?_
      refine tr_ce3 eX6_serveLine_62 zv_X5_place zi_X5_place lk_X6_156 ⟨rfl, by decide, by decide⟩ rfl rfl rfl (show CT mX5_place _ _ (PE (some (bi (s_B (aX σ) (nI l[i]) (s_mx (s_in (aX σ) (nI l[i])) (aX σ0 0 (nI 4))) ≠ -1))) (if s_B (aX σ) (nI l[i]) (s_mx (s_in (aX σ) (nI l[i])) (aX σ0 0 (nI 4))) = -1 then ρ else s_set ρ (nI l[i]) (s_B (aX σ) (nI l[i]) (s_mx (s_in (aX σ) (nI l[i])) (aX σ0 0 (nI 4)))) (s_mx (s_in (aX σ) (nI l[i])) (aX σ0 0 (nI 4))) (s_out (aX σ) (nI l[i])))) from by have h := k_X5_place (σ := ρ) (v := (nI l[i])) (s := s_B (aX σ) (nI l[i]) (s_mx (s_in (aX σ) (nI l[i])) (aX σ0 0 (nI 4)))) (a := (s_mx (s_in (aX σ) (nI l[i])) (aX σ0 0 (nI 4)))) hv; rw [show s_out ρ (nI l[i]) = s_out (aX σ) (nI l[i]) from by rw [← haρ, s_out_aX]] at h; exact h) ?_
      try simp (disch := decide) only [up_k, up_s, up_f, s_set_0]
      refine tr_if_eq eX6_serveLine_65 (fun h65 => ?_) (fun h65 => ?_)
      · skip
        try first | replace h65 := bi_0 h65 | replace h65 := bi_n h65
        refine tr_iinc eX6_serveLine_71 _ (by first | with_reducible exact inc_n _ | with_reducible exact ix_s _ _ | with_reducible rfl) rfl (by decide) rfl ?_
        refine tr_goto eX6_serveLine_74 ?_
        have g65 : s_B (aX σ) (nI l[i]) (s_mx (s_in (aX σ) (nI l[i])) (aX σ0 0 (nI 4))) = -1 := n_not h65
        rw [if_pos g65]
        refine TT.fg [3, 4] (TT.post (ih (i + 1) c ρ (by omega) (by rw [haρ]; exact hI) hzρ (by rw [hρ 22 (by decide)]; exact h22) (by rw [hρ 30 (by decide)]; exact h30) (by rw [haρ]; exact hcd') (by rw [hρ 18 (by decide)]; exact h18)) (fun r τ h => ?_))
        rw [haρ] at h
        rw [drop_cons (by omega)]
        simp only [s_srv]
        rw [if_pos g65]
        exact h
      · skip
        try first | replace h65 := bi_0 h65 | replace h65 := bi_n h65
        refine tr_iinc eX6_serveLine_68 _ (by first | with_reducible exact inc_n _ | with_reducible exact ix_s _ _ | with_reducible rfl) rfl (by decide) rfl ?_
        refine tr_iinc eX6_serveLine_71 _ (by first | with_reducible exact inc_n _ | with_reducible exact ix_s _ _ | with_reducible rfl) rfl (by decide) rfl ?_
        refine tr_goto eX6_serveLine_74 ?_
        have g65 : ¬ s_B (aX σ) (nI l[i]) (s_mx (s_in (aX σ) (nI l[i])) (aX σ0 0 (nI 4))) = -1 := h65
        rw [if_neg g65]
        have e2 : aX (s_set ρ (nI l[i]) (s_B (aX σ) (nI l[i]) (s_mx (s_in (aX σ) (nI l[i])) (aX σ0 0 (nI 4)))) (s_mx (s_in (aX σ) (nI l[i])) (aX σ0 0 (nI 4))) (s_out (aX σ) (nI l[i]))) = s_set (aX σ) (nI l[i]) (s_B (aX σ) (nI l[i]) (s_mx (s_in (aX σ) (nI l[i])) (aX σ0 0 (nI 4)))) (s_mx (s_in (aX σ) (nI l[i])) (aX σ0 0 (nI 4))) (s_out (aX σ) (nI l[i])) := by rw [aX_set, haρ]
        refine TT.fg [3, 4] (TT.post (ih (i + 1) (c + 1) (s_set ρ (nI l[i]) (s_B (aX σ) (nI l[i]) (s_mx (s_in (aX σ) (nI l[i])) (aX σ0 0 (nI 4)))) (s_mx (s_in (aX σ) (nI l[i])) (aX σ0 0 (nI 4))) (s_out (aX σ) (nI l[i]))) (by omega) (by rw [e2]; exact iA_serve hI hcv g65) hzρ (by rw [← h22, ← hρ 22 (by decide)]; rfl) (by rw [← h30, ← hρ 30 (by decide)]; rfl) (by rw [e2]; exact fun u hu => cand_set (hcd' u hu) ..) (by rw [← h18, ← hρ 18 (by decide)]; rfl)) (fun r τ h => ?_))
        rw [e2] at h
        rw [drop_cons (by omega)]
        simp only [s_srv]
        rw [if_neg g65]
        refine ⟨?_, h.2⟩
        rw [h.1]
        congr 2
        omega
theorem k_X6_serveLine {σ : tSt} {nS nP nC nV : Nat} {l : List Nat} (hI : iA (aX σ) nS nP nC nV) (hz : aw0 σ) (hl40 : l.length ≤ 40) (hln : σ 22 (nI 1) = nI l.length) (hls : LNS (σ 30) l) (hcd : ∀ v ∈ l, cand (aX σ) (aX σ 0 (nI 4)) nV v) : CT mX6_serveLine [.ref 0] σ (fun r ρ => r = some (nI (s_srv (aX σ 0 (nI 4)) l (aX σ)).1) ∧ aX ρ = (s_srv (aX σ 0 (nI 4)) l (aX σ)).2 ∧ aw0 ρ ∧ ρ 22 = σ 22) := by
  refine CT.of2 4 (by decide) rfl rfl ?_
  refine tr_iconst eX6_serveLine_0 (nI 0) ci_0 ?_
  refine tr_istore_n eX6_serveLine_1 (by decide) rfl ?_
  refine tr_iconst eX6_serveLine_2 (nI 0) ci_0 ?_
  refine tr_istore_n eX6_serveLine_3 (by decide) rfl ?_
  refine TT.post (lp_X6_serveLine_4 hl40 hln hls l.length 0 0 σ (by omega) hI hz rfl rfl (by rw [List.drop_zero]; exact hcd) rfl) (fun r ρ h => ?_)
  rw [List.drop_zero, Nat.zero_add] at h
  exact h

