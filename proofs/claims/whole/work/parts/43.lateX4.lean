theorem s_G_ok {μ : tSt} {nS nP nC nV : Nat} (h : iA μ nS nP nC nV) (v t : Int32) : gIn nV v (s_G μ v t).2 := ltG_in h 40 _ (fun j q => absurd q Bool.false_ne_true)
/-- the gone ones have stays -/
theorem ltG_put {μ : tSt} {nS nP nC nV : Nat} (h : iA μ nS nP nC nV) {v s a t : Int32} : ∀ (f : Nat) (g : Int32 → Bool), gIn nV v g → (∀ u : Nat, u < nV → g (nI u) = true → ¬ μ 12 (nI u) = nI 0) → ∀ u : Nat, u < nV → (ltG μ v s a t f g).2 (nI u) = true → ¬ μ 12 (nI u) = nI 0
  | 0, _, _, hp => hp
  | f + 1, g, hg, hp => by
    rw [ltG]
    split
    · rename_i hc
      obtain ⟨h1, w, hw, ew, _, _, hw0⟩ := gIn_step h hg hc
      refine ltG_put h f _ h1 (fun u hu q => ?_)
      rw [Bool.or_eq_true] at q
      rcases q with q | q
      · rw [(of_decide_eq_true q).trans ew]; exact hw0
      · exact hp u hu q
    · exact hp
theorem s_G_unk {μ : tSt} {nS nP nC nV : Nat} (h : iA μ nS nP nC nV) (v t : Int32) : ∀ u : Nat, u < nV → (s_G μ v t).2 (nI u) = true → nI 2 < μ 11 (nI u) := fun u hu q => h.2.2.1.2.2.2 u (by have := h.1.2.2.2.2; omega) (ltG_put h 40 _ (fun j q => absurd q Bool.false_ne_true) (fun u _ q => absurd q Bool.false_ne_true) u hu q)
theorem k_X6_late {σ : tSt} {nS nP nC nV : Nat} {v t : Int32} (hI : iA (aX σ) nS nP nC nV) (hz : aw0 σ) (ho : oOK (aX σ)) : CT mX6_late [.ref 0, .int v, .int t] σ (QY (s_latep (aX σ) v t)) := by
  have hI0 := hI.1
  have hS := hI0.1.1
  rw [aX_0] at hS
  have hP := hI0.2.1.1
  rw [aX_1] at hP
  have hC := hI0.2.2.1.1
  rw [aX_2] at hC
  have hV := hI0.2.2.2.1
  rw [aX_3] at hV
  have hS24 := hI0.1.2
  have hP40 := hI0.2.1.2
  have hC20 := hI0.2.2.1.2
  have hV40 := hI0.2.2.2.2
  refine CT.of2 1 (by decide) rfl rfl ?_
  refine tr_aload_n eX6_late_0 rfl ?_
  refine tr_getR eX6_late_1 fk_X6_19 rfl rfl ?_
  refine tr_iload_n eX6_late_4 rfl ?_
  refine tr_ce1 eX6_late_5 zv_X5_has zi_X5_has lk_X6_131 ⟨rfl, by decide, by decide⟩ rfl rfl rfl k_X5_has ?_
  refine tr_if_ne eX6_late_8 (fun h8 => ?_) (fun h8 => ?_)
  · skip
    try first | replace h8 := bi_0 h8 | replace h8 := bi_n h8
    have hv : vp_in v 40 := in_has hV hV40 (by decide) h8
    refine tr_aload_n eX6_late_17 rfl ?_
    refine tr_getR eX6_late_18 fk_X6_19 rfl rfl ?_
    refine tr_getR eX6_late_21 fk_X6_134 rfl rfl ?_
    refine tr_iload_n eX6_late_24 rfl ?_
    refine tr_iald eX6_late_25 rfl (by first | with_reducible assumption | with_reducible exact in_slot (by with_reducible assumption) (by with_reducible assumption) | with_reducible exact in_row _ (by decide) (by with_reducible assumption) | with_reducible exact in_row0 (by with_reducible assumption) | with_reducible exact in_slot0 (by with_reducible assumption) | (simp (disch := decide) only [up_k, up_s, up_f] <;> with_reducible assumption)) ?_
    refine tr_iconst eX6_late_26 (nI 3) ci_3 ?_
    refine tr_icmp_le eX6_late_27 (fun h27 => ?_) (fun h27 => ?_)
    · skip
      refine tr_aload_n eX6_late_49 rfl ?_
      refine tr_iconst eX6_late_50 (nI 3) ci_3 ?_
      refine tr_ce1 eX6_late_51 zv_X6_refuse zi_X6_refuse lk_X6_74 ⟨rfl, by decide, by decide⟩ rfl rfl rfl k_X6_refuse ?_
      try simp (disch := decide) only [up_k, up_s, up_f, s_set_0]
      refine tr_ret eX6_late_54 rfl rfl ?_
      have hf : f_late (aX σ) v t = nI 3 := by rw [f_late, if_neg (by rw [s_nvi, aX_3]; exact fun q => q h8), if_pos (by rw [aX_k _ (by decide)]; exact h27)]
      refine ⟨?_, ?_, fun u hu => by rw [up_k (by decide)]; exact hz u hu⟩
      · rw [s_latep, hf, if_pos (by decide)]; rfl
      · rw [s_latep, hf, if_pos (by decide), aX_f0_7]; rfl
    · skip
      refine tr_iload_n eX6_late_30 rfl ?_
      refine tr_aload_n eX6_late_31 rfl ?_
      refine tr_getR eX6_late_32 fk_X6_19 rfl rfl ?_
      refine tr_iload_n eX6_late_35 rfl ?_
      refine tr_ce1 eX6_late_36 zv_X5_outOf zi_X5_outOf lk_X6_149 ⟨rfl, by decide, by decide⟩ rfl rfl rfl (k_X5_outOf hv) ?_
      refine tr_icmp_le eX6_late_39 (fun h39 => ?_) (fun h39 => ?_)
      · skip
        refine tr_aload_n eX6_late_49 rfl ?_
        refine tr_iconst eX6_late_50 (nI 3) ci_3 ?_
        refine tr_ce1 eX6_late_51 zv_X6_refuse zi_X6_refuse lk_X6_74 ⟨rfl, by decide, by decide⟩ rfl rfl rfl k_X6_refuse ?_
        try simp (disch := decide) only [up_k, up_s, up_f, s_set_0]
        refine tr_ret eX6_late_54 rfl rfl ?_
        have hf : f_late (aX σ) v t = nI 3 := by rw [f_late, if_neg (by rw [s_nvi, aX_3]; exact fun q => q h8), if_neg (by rw [aX_k _ (by decide)]; exact h27), if_pos (by rw [s_out_aX]; exact h39)]
        refine ⟨?_, ?_, fun u hu => by rw [up_k (by decide)]; exact hz u hu⟩
        · rw [s_latep, hf, if_pos (by decide)]; rfl
        · rw [s_latep, hf, if_pos (by decide), aX_f0_7]; rfl
      · skip
        refine tr_iload_n eX6_late_42 rfl ?_
        refine tr_sipush eX6_late_43 (nI 2880) (by decide) ?_
        refine tr_icmp_le eX6_late_46 (fun h46 => ?_) (fun h46 => ?_)
        · skip
          refine tr_aload_n eX6_late_55 rfl ?_
          refine tr_getR eX6_late_56 fk_X6_19 rfl rfl ?_
          refine tr_iload_n eX6_late_59 rfl ?_
          refine tr_ce1 eX6_late_60 zv_X5_isPut zi_X5_isPut lk_X6_137 ⟨rfl, by decide, by decide⟩ rfl rfl rfl (k_X5_isPut hv) ?_
          refine tr_if_ne eX6_late_63 (fun h63 => ?_) (fun h63 => ?_)
          · skip
            try first | replace h63 := bi_0 h63 | replace h63 := bi_n h63
            have hf : f_late (aX σ) v t = 0 := by rw [f_late, if_neg (by rw [s_nvi, aX_3]; exact fun q => q h8), if_neg (by rw [aX_k _ (by decide)]; exact h27), if_neg (by rw [s_out_aX]; exact h39), if_neg (fun q => q h46), if_neg (by rw [s_put_aX]; exact fun q => q h63)]; rfl
            obtain ⟨n, c, s, a, b, d, m, rfl, hnV, hc, hc1, hc8, hli, hs, hsS, ha, hb, hab, rfl, hbm, hm, h3, hd, hdb⟩ := late0 hI ho hf
            rw [hli] at hs ha
            have hL := iA_ltm hI hnV hc hc1 hc8 ha hd hab hdb hbm hm
            rw [aX_k _ (by decide)] at hc hs
            have hS24 := hI.1.1.2
            have hmr := k_X0_makeRoom (t := nI m) hI hz hnV hc hc1 hc8 (by rw [hs]; exact vp_in_nI (by omega) (by decide))
            refine tr_aload_n eX6_late_73 rfl ?_
            refine tr_getR eX6_late_74 fk_X6_46 rfl rfl ?_
            refine tr_iload_n eX6_late_77 rfl ?_
            refine tr_iload_n eX6_late_78 rfl ?_
            refine tr_cv2 (r0 := none) (σ1 := fun _ _ => 0) eX6_late_79 zv_X0_makeRoom zi_X0_makeRoom lk_X6_209 ⟨rfl, by decide, by decide⟩ rfl rfl rfl hmr (fun r' ρ hq => ?_)
            try simp (disch := decide) only [up_k, up_s, up_f, s_set_0]
            obtain ⟨rfl, m2, m3, m4, m5⟩ := hq
            have ea : aX ρ = aX σ := aX_offG (fun k hk => m2 k (by omega) (by omega))
            refine tr_istore_n eX6_late_82 (by decide) rfl ?_
            refine tr_iload_n eX6_late_83 rfl ?_
            refine tr_if_eq eX6_late_84 (fun h84 => ?_) (fun h84 => ?_)
            · skip
              have hg := m4 h84
              have hbd := k_X0_bend (σ := ρ) (t := nI m) (g := (s_G (aX σ) (nI n) (nI m)).2) (by rw [ea]; exact hI) (by rw [ea]; exact hL) hnV (by rw [m2 12 (by decide) (by decide)]; exact hc) hc1 hc8 (s_G_ok hI _ _) hg (by rw [ea]; exact s_G_unk hI _ _)
              rw [ea] at hbd
              have eLM : s_LM (aX σ) (nI n) (nI m) = ltB (fun u => aX σ 13 (u * nI 8)) (sl (aX σ) (s_G (aX σ) (nI n) (nI m)).2 nV) (up (vd (s_G (aX σ) (nI n) (nI m)).2 (ltm (aX σ) (nI n) (nI m))) 0 (nI 9) (nI 0)) := by
                rw [s_LM, tn_of hI0.2.2.2.1 (by omega)]
              refine tr_aload_n eX6_late_99 rfl ?_
              refine tr_aload_n eX6_late_100 rfl ?_
              refine tr_getR eX6_late_101 fk_X6_46 rfl rfl ?_
              refine tr_iload_n eX6_late_104 rfl ?_
              refine tr_iload_n eX6_late_105 rfl ?_
              refine tr_cv2 (r0 := none) (σ1 := fun _ _ => 0) eX6_late_106 zv_X0_bend zi_X0_bend lk_X6_215 ⟨rfl, by decide, by decide⟩ rfl rfl rfl hbd (fun r' ω hq => ?_)
              try simp (disch := decide) only [up_k, up_s, up_f, s_set_0]
              obtain ⟨rfl, w2, w3⟩ := hq
              refine tr_ce1 eX6_late_109 zv_X6_grant zi_X6_grant lk_X6_85 ⟨rfl, by decide, by decide⟩ rfl rfl rfl k_X6_grant ?_
              try simp (disch := decide) only [up_k, up_s, up_f, s_set_0]
              refine tr_ret eX6_late_112 rfl rfl ?_
              refine ⟨?_, ?_, fun u hu => by rw [up_k (by decide)]; exact w3 u hu⟩
              · rw [s_latep, if_neg (fun q => q hf), if_neg (fun q => q h84)]
                show some _ = some (s_LM (aX σ) (nI n) (nI m) 0 (nI 9))
                rw [eLM]
              · rw [s_latep, if_neg (fun q => q hf), if_neg (fun q => q h84), aX_f0_7, w2]
                show _ = up (s_LM (aX σ) (nI n) (nI m)) 0 (nI 6) (nI 0)
                rw [eLM]
            · skip
              refine tr_aload_n eX6_late_87 rfl ?_
              refine tr_iload_n eX6_late_88 rfl ?_
              refine tr_ce1 eX6_late_89 zv_X6_keepReason zi_X6_keepReason lk_X6_212 ⟨rfl, by decide, by decide⟩ rfl rfl rfl k_X6_keepReason ?_
              try simp (disch := decide) only [up_k, up_s, up_f, s_set_0]
              refine tr_aload_n eX6_late_92 rfl ?_
              refine tr_bipush eX6_late_93 (nI 9) (by decide) ?_
              refine tr_ce1 eX6_late_95 zv_X6_refuse zi_X6_refuse lk_X6_74 ⟨rfl, by decide, by decide⟩ rfl rfl rfl k_X6_refuse ?_
              try simp (disch := decide) only [up_k, up_s, up_f, s_set_0]
              refine tr_ret eX6_late_98 rfl rfl ?_
              refine ⟨?_, ?_, fun u hu => by rw [up_k (by decide), up_k (by decide), up_k (by decide)]; exact m5 h84 u hu⟩
              · rw [s_latep, if_neg (fun q => q hf), if_pos h84]; rfl
              · rw [s_latep, if_neg (fun q => q hf), if_pos h84, aX_f0_7, aX_f0_9, aX_f0_8, m3, ea]; rfl
          · skip
            try first | replace h63 := bi_0 h63 | replace h63 := bi_n h63
            refine tr_aload_n eX6_late_66 rfl ?_
            refine tr_bipush eX6_late_67 (nI 6) (by decide) ?_
            refine tr_ce1 eX6_late_69 zv_X6_refuse zi_X6_refuse lk_X6_74 ⟨rfl, by decide, by decide⟩ rfl rfl rfl k_X6_refuse ?_
            try simp (disch := decide) only [up_k, up_s, up_f, s_set_0]
            refine tr_ret eX6_late_72 rfl rfl ?_
            have hf : f_late (aX σ) v t = nI 6 := by rw [f_late, if_neg (by rw [s_nvi, aX_3]; exact fun q => q h8), if_neg (by rw [aX_k _ (by decide)]; exact h27), if_neg (by rw [s_out_aX]; exact h39), if_neg (fun q => q h46), if_pos (by rw [s_put_aX]; exact h63)]
            refine ⟨?_, ?_, fun u hu => by rw [up_k (by decide)]; exact hz u hu⟩
            · rw [s_latep, hf, if_pos (by decide)]; rfl
            · rw [s_latep, hf, if_pos (by decide), aX_f0_7]; rfl
        · skip
          refine tr_aload_n eX6_late_49 rfl ?_
          refine tr_iconst eX6_late_50 (nI 3) ci_3 ?_
          refine tr_ce1 eX6_late_51 zv_X6_refuse zi_X6_refuse lk_X6_74 ⟨rfl, by decide, by decide⟩ rfl rfl rfl k_X6_refuse ?_
          try simp (disch := decide) only [up_k, up_s, up_f, s_set_0]
          refine tr_ret eX6_late_54 rfl rfl ?_
          have hf : f_late (aX σ) v t = nI 3 := by rw [f_late, if_neg (by rw [s_nvi, aX_3]; exact fun q => q h8), if_neg (by rw [aX_k _ (by decide)]; exact h27), if_neg (by rw [s_out_aX]; exact h39), if_pos h46]
          refine ⟨?_, ?_, fun u hu => by rw [up_k (by decide)]; exact hz u hu⟩
          · rw [s_latep, hf, if_pos (by decide)]; rfl
          · rw [s_latep, hf, if_pos (by decide), aX_f0_7]; rfl
  · skip
    try first | replace h8 := bi_0 h8 | replace h8 := bi_n h8
    refine tr_aload_n eX6_late_11 rfl ?_
    refine tr_iconst eX6_late_12 (nI 2) ci_2 ?_
    refine tr_ce1 eX6_late_13 zv_X6_refuse zi_X6_refuse lk_X6_74 ⟨rfl, by decide, by decide⟩ rfl rfl rfl k_X6_refuse ?_
    try simp (disch := decide) only [up_k, up_s, up_f, s_set_0]
    refine tr_ret eX6_late_16 rfl rfl ?_
    have hf : f_late (aX σ) v t = nI 2 := by rw [f_late, if_pos (by rw [s_nvi, aX_3]; exact h8)]
    refine ⟨?_, ?_, fun u hu => by rw [up_k (by decide)]; exact hz u hu⟩
    · rw [s_latep, hf, if_pos (by decide)]; rfl
    · rw [s_latep, hf, if_pos (by decide), aX_f0_7]; rfl

