theorem le3_of {x : Int32} (h : x < nI 4) : x ≤ nI 3 := by
  rw [Int32.lt_iff_toInt_lt] at h
  rw [Int32.le_iff_toInt_le]
  have h1 : (nI 4).toInt = 4 := by decide
  have h2 : (nI 3).toInt = 3 := by decide
  omega
theorem lt4_of {x : Int32} (h : x ≤ nI 3) : x < nI 4 := by
  rw [Int32.le_iff_toInt_le] at h
  rw [Int32.lt_iff_toInt_lt]
  have h1 : (nI 4).toInt = 4 := by decide
  have h2 : (nI 3).toInt = 3 := by decide
  omega
theorem k_X7_late {τ : tSt} {nS nP nC nV : Nat} {v t : Int32} (hI : iA (aM τ) nS nP nC nV) (ho : oOK (aM τ)) : CT mX7_late [.ref 0, .int v, .int t] τ (QM (s_latep (aM τ) v t)) := by
  have hI0 := hI.1
  have hS := hI0.1.1
  rw [aM_0] at hS
  have hP := hI0.2.1.1
  rw [aM_1] at hP
  have hC := hI0.2.2.1.1
  rw [aM_2] at hC
  have hV := hI0.2.2.2.1
  rw [aM_3] at hV
  have hS24 := hI0.1.2
  have hP40 := hI0.2.1.2
  have hC20 := hI0.2.2.1.2
  have hV40 := hI0.2.2.2.2
  refine CT.of2 7 (by decide) rfl rfl ?_
  refine tr_aload_n eX7_late_0 rfl ?_
  refine tr_iload_n eX7_late_1 rfl ?_
  refine tr_ce1 eX7_late_2 zv_X7_isVisit zi_X7_isVisit lk_X7_113 ⟨rfl, by decide, by decide⟩ rfl rfl rfl k_X7_isVisit ?_
  refine tr_if_ne eX7_late_5 (fun h5 => ?_) (fun h5 => ?_)
  · skip
    try first | replace h5 := bi_0 h5 | replace h5 := bi_n h5
    have hv : vp_in v 40 := in_has hV hV40 (by decide) h5
    refine tr_aload_n eX7_late_14 rfl ?_
    refine tr_getR eX7_late_15 fk_X7_44 rfl rfl ?_
    refine tr_iload_n eX7_late_18 rfl ?_
    refine tr_iald eX7_late_19 rfl (by first | with_reducible assumption | with_reducible exact in_slot (by with_reducible assumption) (by with_reducible assumption) | with_reducible exact in_row _ (by decide) (by with_reducible assumption) | with_reducible exact in_row0 (by with_reducible assumption) | with_reducible exact in_slot0 (by with_reducible assumption) | (simp (disch := decide) only [up_k, up_s, up_f] <;> with_reducible assumption)) ?_
    refine tr_iconst eX7_late_20 (nI 4) ci_4 ?_
    refine tr_icmp_lt eX7_late_21 (fun h21 => ?_) (fun h21 => ?_)
    · skip
      refine tr_aload_n eX7_late_40 rfl ?_
      refine tr_iconst eX7_late_41 (nI 3) ci_3 ?_
      refine tr_ce1 eX7_late_42 zv_X7_refuse zi_X7_refuse lk_X7_92 ⟨rfl, by decide, by decide⟩ rfl rfl rfl k_X7_refuse ?_
      try simp (disch := decide) only [up_k, up_s, up_f, s_set_0]
      refine tr_ret eX7_late_45 rfl rfl ?_
      have hf : f_late (aM τ) v t = nI 3 := by rw [f_late, if_neg (by rw [s_nvi, aM_3]; exact fun q => q h5), if_pos (by rw [aM_k _ (by decide)]; exact le3_of h21)]
      refine ⟨?_, ?_⟩
      · rw [s_latep, hf, if_pos (by decide)]; rfl
      · rw [s_latep, hf, if_pos (by decide), aM_f0_0]; rfl
    · skip
      refine tr_iload_n eX7_late_24 rfl ?_
      refine tr_aload_n eX7_late_25 rfl ?_
      refine tr_iload_n eX7_late_26 rfl ?_
      refine tr_ce1 eX7_late_27 zv_X7_outOf zi_X7_outOf lk_X7_178 ⟨rfl, by decide, by decide⟩ rfl rfl rfl (k_X7_outOf hv) ?_
      refine tr_icmp_le eX7_late_30 (fun h30 => ?_) (fun h30 => ?_)
      · skip
        refine tr_aload_n eX7_late_40 rfl ?_
        refine tr_iconst eX7_late_41 (nI 3) ci_3 ?_
        refine tr_ce1 eX7_late_42 zv_X7_refuse zi_X7_refuse lk_X7_92 ⟨rfl, by decide, by decide⟩ rfl rfl rfl k_X7_refuse ?_
        try simp (disch := decide) only [up_k, up_s, up_f, s_set_0]
        refine tr_ret eX7_late_45 rfl rfl ?_
        have hf : f_late (aM τ) v t = nI 3 := by rw [f_late, if_neg (by rw [s_nvi, aM_3]; exact fun q => q h5), if_neg (by rw [aM_k _ (by decide)]; exact fun q => h21 (lt4_of q)), if_pos (by rw [s_out_aM]; exact h30)]
        refine ⟨?_, ?_⟩
        · rw [s_latep, hf, if_pos (by decide)]; rfl
        · rw [s_latep, hf, if_pos (by decide), aM_f0_0]; rfl
      · skip
        refine tr_iload_n eX7_late_33 rfl ?_
        refine tr_sipush eX7_late_34 (nI 2880) (by decide) ?_
        refine tr_icmp_le eX7_late_37 (fun h37 => ?_) (fun h37 => ?_)
        · skip
          refine tr_aload_n eX7_late_46 rfl ?_
          refine tr_iload_n eX7_late_47 rfl ?_
          refine tr_ce1 eX7_late_48 zv_X7_isPut zi_X7_isPut lk_X7_116 ⟨rfl, by decide, by decide⟩ rfl rfl rfl (k_X7_isPut hv) ?_
          refine tr_if_ne eX7_late_51 (fun h51 => ?_) (fun h51 => ?_)
          · skip
            try first | replace h51 := bi_0 h51 | replace h51 := bi_n h51
            have hf : f_late (aM τ) v t = 0 := by rw [f_late, if_neg (by rw [s_nvi, aM_3]; exact fun q => q h5), if_neg (by rw [aM_k _ (by decide)]; exact fun q => h21 (lt4_of q)), if_neg (by rw [s_out_aM]; exact h30), if_neg (fun q => q h37), if_neg (by rw [s_put_aM]; exact fun q => q h51)]; rfl
            obtain ⟨n, c, s, a, b, d, m, rfl, hnV, hc, hc1, hc8, hli, hs, hsS, ha, hb, hab, rfl, hbm, hm, h3, hd, hdb⟩ := late0 hI ho hf
            rw [hli] at hs ha
            have hL := iA_ltm hI hnV hc hc1 hc8 ha hd hab hdb hbm hm
            have hS24 := hI.1.1.2
            have hS' : vp_in (aM τ 13 (nI n * nI 8 + nI (c - 1))) 24 := by rw [hs]; exact vp_in_nI (by omega) (by decide)
            have hAt : aM τ 14 (nI n * nI 8 + nI (c - 1)) < nI m := by rw [ha]; exact (nI_ltI (by omega) (by omega)).mpr (by omega)
            have hout : s_out τ (nI n) = aM τ 10 (nI n * nI 5 + nI 3) := by
              rw [← s_out_aM, s_out, if_neg (Int32.not_le.mpr h3)]
            have hli' : nI n * nI 8 + τ 12 (nI n) - nI 1 = (nI n * nI 8 + nI (c - 1)) := by
              have := hli
              rwa [s_li, aM_k _ (by decide)] at this
            have hri : vp_in (nI n * nI 5 + nI 3) 200 := in_row 3 (by decide) hv
            have hei : vp_in (nI n * nI 8 + nI (c - 1)) 320 := in_slot hv (vp_in_nI (by omega) (by decide))
            refine tr_iconst eX7_late_61 (nI 0) ci_0 ?_
            refine tr_istore_n eX7_late_62 (by decide) rfl ?_
            refine lp_X7_late_63 (τ := τ) hV hV40 (fun ρ k20 h20 => ?_) nV 0 τ (by omega) (fun _ _ => rfl) (fun u hu => absurd hu (by omega))
            have ea : aM ρ = aM τ := aM_k0 (fun k _ q => k20 k (by omega)) (k20 0 (by decide))
            have eaR : aM (up (up (up ρ 10 (nI n * nI 5 + nI 3) (nI m)) 15 (nI n * nI 8 + nI (c - 1)) (nI m)) 0 (nI 26) (nI 0)) = ltm (aM τ) (nI n) (nI m) := by
              rw [aM_f0_26, aM_u _ (by decide), aM_u _ (by decide), ea, ltm, hli]
            have e12 : ρ 12 (nI n) = τ 12 (nI n) := by rw [k20 12 (by decide)]
            have e15 : ρ 15 (nI n * nI 8 + nI (c - 1)) = aM τ 15 (nI n * nI 8 + nI (c - 1)) := by rw [k20 15 (by decide), aM_k _ (by decide)]
            have e13 : ρ 13 (nI n * nI 8 + nI (c - 1)) = aM τ 13 (nI n * nI 8 + nI (c - 1)) := by rw [k20 13 (by decide), aM_k _ (by decide)]
            have e14 : ρ 14 (nI n * nI 8 + nI (c - 1)) = aM τ 14 (nI n * nI 8 + nI (c - 1)) := by rw [k20 14 (by decide), aM_k _ (by decide)]
            have hlate := k_X7_againstOfB (τ := (up (up (up ρ 10 (nI n * nI 5 + nI 3) (nI m)) 15 (nI n * nI 8 + nI (c - 1)) (nI m)) 0 (nI 26) (nI 0))) (v := nI n) (s := aM τ 13 (nI n * nI 8 + nI (c - 1))) (a := aM τ 14 (nI n * nI 8 + nI (c - 1))) (b := nI m) (by rw [eaR]; exact hL) hv hS' hAt
            have eA : s_A (aM (up (up (up ρ 10 (nI n * nI 5 + nI 3) (nI m)) 15 (nI n * nI 8 + nI (c - 1)) (nI m)) 0 (nI 26) (nI 0))) (nI n) (aM τ 13 (nI n * nI 8 + nI (c - 1))) (aM τ 14 (nI n * nI 8 + nI (c - 1))) (nI m) = s_A (vd (fun _ => false) (aM τ)) (nI n) (aM τ 13 (nI n * nI 8 + nI (c - 1))) (aM τ 14 (nI n * nI 8 + nI (c - 1))) (nI m) := by
              rw [eaR]
              have := s_A_ltm hI hnV hc hc1 hc8 (fun _ => false) (nI m) (aM τ 13 (nI n * nI 8 + nI (c - 1))) (aM τ 14 (nI n * nI 8 + nI (c - 1))) (nI m)
              rwa [vd_0 (μ := ltm (aM τ) (nI n) (nI m))] at this
            rw [eA] at hlate
            have houtρ : CT mX7_outOf [.ref 0, .int (nI n)] ρ (PE (some (aM τ 10 (nI n * nI 5 + nI 3))) ρ) := by
              have h := k_X7_outOf (σ := ρ) hv
              rwa [out_eq (k20 10 (by decide)) (k20 11 (by decide)), hout] at h
            refine tr_bipush eX7_late_89 (nI 8) (by decide) ?_
            refine tr_iload_n eX7_late_91 rfl ?_
            refine tr_imulC eX7_late_92 ?_
            refine tr_aload_n eX7_late_93 rfl ?_
            refine tr_getR eX7_late_94 fk_X7_50 rfl rfl ?_
            refine tr_iload_n eX7_late_97 rfl ?_
            refine tr_iald eX7_late_98 rfl hv ?_
            rw [e12]
            refine tr_iadd eX7_late_99 ?_
            refine tr_iconst eX7_late_100 (nI 1) ci_1 ?_
            refine tr_isub eX7_late_101 ?_
            rw [hli']
            refine tr_istore_n eX7_late_102 (by decide) rfl ?_
            refine tr_aload_n eX7_late_103 rfl ?_
            refine tr_getR eX7_late_104 fk_X7_59 rfl rfl ?_
            refine tr_iload_n eX7_late_107 rfl ?_
            refine tr_iald eX7_late_108 rfl hei ?_
            rw [e15]
            refine tr_istore eX7_late_109 (by decide) rfl ?_
            refine tr_aload_n eX7_late_111 rfl ?_
            refine tr_iload_n eX7_late_112 rfl ?_
            refine tr_ce1 eX7_late_113 zv_X7_outOf zi_X7_outOf lk_X7_178 ⟨rfl, by decide, by decide⟩ rfl rfl rfl houtρ ?_
            refine tr_istore eX7_late_116 (by decide) rfl ?_
            refine tr_aload_n eX7_late_118 rfl ?_
            refine tr_getR eX7_late_119 fk_X7_47 rfl rfl ?_
            refine tr_iconst eX7_late_122 (nI 5) ci_5 ?_
            refine tr_iload_n eX7_late_123 rfl ?_
            refine tr_imulC eX7_late_124 ?_
            refine tr_iconst eX7_late_125 (nI 3) ci_3 ?_
            refine tr_iadd eX7_late_126 ?_
            refine tr_iload_n eX7_late_127 rfl ?_
            refine tr_iast eX7_late_128 rfl hri ?_
            refine tr_aload_n eX7_late_129 rfl ?_
            refine tr_getR eX7_late_130 fk_X7_59 rfl rfl ?_
            refine tr_iload_n eX7_late_133 rfl ?_
            refine tr_iload_n eX7_late_134 rfl ?_
            refine tr_iast eX7_late_135 rfl hei ?_
            refine tr_aload_n eX7_late_136 rfl ?_
            refine tr_iconst eX7_late_137 (nI 0) ci_0 ?_
            refine tr_put eX7_late_138 fp_X7_188 rfl rfl ?_
            refine tr_aload_n eX7_late_141 rfl ?_
            refine tr_iload_n eX7_late_142 rfl ?_
            refine tr_aload_n eX7_late_143 rfl ?_
            refine tr_getR eX7_late_144 fk_X7_53 rfl rfl ?_
            refine tr_iload_n eX7_late_147 rfl ?_
            refine tr_iald eX7_late_148 rfl hei ?_
            try simp (disch := decide) only [up_k, up_s, up_f, s_set_0]
            try rw [up_k (by decide), up_k (by decide), up_k (by decide)]
            rw [e13]
            refine tr_aload_n eX7_late_149 rfl ?_
            refine tr_getR eX7_late_150 fk_X7_56 rfl rfl ?_
            refine tr_iload_n eX7_late_153 rfl ?_
            refine tr_iald eX7_late_154 rfl hei ?_
            try simp (disch := decide) only [up_k, up_s, up_f, s_set_0]
            try rw [up_k (by decide), up_k (by decide), up_k (by decide)]
            rw [e14]
            refine tr_iload_n eX7_late_155 rfl ?_
            refine tr_ce4 eX7_late_156 zv_X7_againstOf zi_X7_againstOf lk_X7_165 ⟨rfl, by decide, by decide⟩ rfl rfl rfl hlate ?_
            try simp (disch := decide) only [up_k, up_s, up_f, s_set_0]
            refine tr_istore eX7_late_159 (by decide) rfl ?_
            have hfin := lp_X7_late_161 hI hnV hc hc1 hc8 hL hS' hAt 40 [] (fun _ => false) (up (up (up (up ρ 10 (nI n * nI 5 + nI 3) (nI m)) 15 (nI n * nI 8 + nI (c - 1)) (nI m)) 0 (nI 26) (nI 0)) 0 (nI 24) (s_A (vd (fun _ => false) (aM τ)) (nI n) (aM τ 13 (nI n * nI 8 + nI (c - 1))) (aM τ 14 (nI n * nI 8 + nI (c - 1))) (nI m)).2) (by simp) (fun j q => absurd q Bool.false_ne_true) (fun u _ q => absurd q Bool.false_ne_true) ⟨?_, fun u hu => ?_, fun q hq => absurd hq (by simp), by simp [SR], ?_, fun x => by simp, fun x hx => absurd hx (by simp)⟩ up_s
            · refine TT.post hfin (fun r ω hq => ?_)
              have eG : ltG (aM τ) (nI n) (aM τ 13 (nI n * nI 8 + nI (c - 1))) (aM τ 14 (nI n * nI 8 + nI (c - 1))) (nI m) 40 (fun _ => false) = s_G (aM τ) (nI n) (nI m) := by rw [s_G, hli]
              rw [eG] at hq
              have er : s_latep (aM τ) (nI n) (nI m) = resL (aM τ) n m nV (s_G (aM τ) (nI n) (nI m)) := by
                rw [s_latep, if_neg (fun q => q hf), resL]
                split
                · rfl
                · rw [s_LM, tn_of hI0.2.2.2.1 (by omega)]
              rw [er]
              exact hq
            · rw [aM_f0_24, eaR, vd_0]
            · rw [up_k (by decide), up_k (by decide), up_k (by decide), up_k (by decide), h20 u hu, aM_k _ (by decide)]
            · rw [up_f (by decide), up_s]; rfl
          · skip
            try first | replace h51 := bi_0 h51 | replace h51 := bi_n h51
            refine tr_aload_n eX7_late_54 rfl ?_
            refine tr_bipush eX7_late_55 (nI 6) (by decide) ?_
            refine tr_ce1 eX7_late_57 zv_X7_refuse zi_X7_refuse lk_X7_92 ⟨rfl, by decide, by decide⟩ rfl rfl rfl k_X7_refuse ?_
            try simp (disch := decide) only [up_k, up_s, up_f, s_set_0]
            refine tr_ret eX7_late_60 rfl rfl ?_
            have hf : f_late (aM τ) v t = nI 6 := by rw [f_late, if_neg (by rw [s_nvi, aM_3]; exact fun q => q h5), if_neg (by rw [aM_k _ (by decide)]; exact fun q => h21 (lt4_of q)), if_neg (by rw [s_out_aM]; exact h30), if_neg (fun q => q h37), if_pos (by rw [s_put_aM]; exact h51)]
            refine ⟨?_, ?_⟩
            · rw [s_latep, hf, if_pos (by decide)]; rfl
            · rw [s_latep, hf, if_pos (by decide), aM_f0_0]; rfl
        · skip
          refine tr_aload_n eX7_late_40 rfl ?_
          refine tr_iconst eX7_late_41 (nI 3) ci_3 ?_
          refine tr_ce1 eX7_late_42 zv_X7_refuse zi_X7_refuse lk_X7_92 ⟨rfl, by decide, by decide⟩ rfl rfl rfl k_X7_refuse ?_
          try simp (disch := decide) only [up_k, up_s, up_f, s_set_0]
          refine tr_ret eX7_late_45 rfl rfl ?_
          have hf : f_late (aM τ) v t = nI 3 := by rw [f_late, if_neg (by rw [s_nvi, aM_3]; exact fun q => q h5), if_neg (by rw [aM_k _ (by decide)]; exact fun q => h21 (lt4_of q)), if_neg (by rw [s_out_aM]; exact h30), if_pos h37]
          refine ⟨?_, ?_⟩
          · rw [s_latep, hf, if_pos (by decide)]; rfl
          · rw [s_latep, hf, if_pos (by decide), aM_f0_0]; rfl
  · skip
    try first | replace h5 := bi_0 h5 | replace h5 := bi_n h5
    refine tr_aload_n eX7_late_8 rfl ?_
    refine tr_iconst eX7_late_9 (nI 2) ci_2 ?_
    refine tr_ce1 eX7_late_10 zv_X7_refuse zi_X7_refuse lk_X7_92 ⟨rfl, by decide, by decide⟩ rfl rfl rfl k_X7_refuse ?_
    try simp (disch := decide) only [up_k, up_s, up_f, s_set_0]
    refine tr_ret eX7_late_13 rfl rfl ?_
    have hf : f_late (aM τ) v t = nI 2 := by rw [f_late, if_pos (by rw [s_nvi, aM_3]; exact h5)]
    refine ⟨?_, ?_⟩
    · rw [s_latep, hf, if_pos (by decide)]; rfl
    · rw [s_latep, hf, if_pos (by decide), aM_f0_0]; rfl

