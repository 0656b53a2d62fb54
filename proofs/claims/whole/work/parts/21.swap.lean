theorem c_lt8 {μ : tSt} (hc : cOK μ) {v : Int32} (hv : vp_in v 40) (h : ¬ μ 12 v = nI 8) : μ 12 v < nI 8 := by
  obtain ⟨u, hu, rfl⟩ := vp_in_of hv (by decide)
  obtain ⟨c, hc8, e⟩ := hc u hu
  rw [e] at h ⊢
  exact (nI_ltI (by omega) (by decide)).mpr (Nat.lt_of_le_of_ne hc8 (fun q => h (by rw [q])))
theorem k_X7_tow {τ : tSt} {nS nP nC nV : Nat} {v m s : Int32} (hI : iA (aM τ) nS nP nC nV) : CT mX7_tow [.ref 0, .int v, .int m, .int s] τ (QM (s_towp (aM τ) v m s)) := by
  have hI0 := hI.1
  have hS := hI0.1.1
  rw [aM_0] at hS
  have hP := hI0.2.1.1
  rw [aM_1] at hP
  have hC := hI0.2.2.1.1
  rw [aM_2] at hC
  have hV := hI0.2.2.2.1
  rw [aM_3] at hV
  have hS24 := hI0.1.2
  have hP40 := hI0.2.1.2
  have hC20 := hI0.2.2.1.2
  have hV40 := hI0.2.2.2.2
  have hcc := cOK_aM hI.2.1.1
  refine CT.of2 2 (by decide) rfl rfl ?_
  refine tr_aload_n eX7_tow_0 rfl ?_
  refine tr_aload_n eX7_tow_1 rfl ?_
  refine tr_iload_n eX7_tow_2 rfl ?_
  refine tr_ce1 eX7_tow_3 zv_X7_isStand zi_X7_isStand lk_X7_99 ⟨rfl, by decide, by decide⟩ rfl rfl rfl k_X7_isStand ?_
  refine tr_if_ne eX7_tow_6 (fun h6 => ?_) (fun h6 => ?_)
  · skip
    try first | replace h6 := bi_0 h6 | replace h6 := bi_n h6
    refine tr_aload_n eX7_tow_13 rfl ?_
    refine tr_iload_n eX7_tow_14 rfl ?_
    refine tr_ce1 eX7_tow_15 zv_X7_isVisit zi_X7_isVisit lk_X7_113 ⟨rfl, by decide, by decide⟩ rfl rfl rfl k_X7_isVisit ?_
    refine tr_if_ne eX7_tow_18 (fun h18 => ?_) (fun h18 => ?_)
    · skip
      try first | replace h18 := bi_0 h18 | replace h18 := bi_n h18
      have hv : vp_in v 40 := in_has hV hV40 (by decide) h18
      refine tr_aload_n eX7_tow_25 rfl ?_
      refine tr_iload_n eX7_tow_26 rfl ?_
      refine tr_ce1 eX7_tow_27 zv_X7_isPut zi_X7_isPut lk_X7_116 ⟨rfl, by decide, by decide⟩ rfl rfl rfl (k_X7_isPut (by first | with_reducible assumption | with_reducible exact in_slot (by with_reducible assumption) (by with_reducible assumption) | with_reducible exact in_row _ (by decide) (by with_reducible assumption) | with_reducible exact in_row0 (by with_reducible assumption) | with_reducible exact in_slot0 (by with_reducible assumption) | (simp (disch := decide) only [up_k, up_s, up_f] <;> with_reducible assumption))) ?_
      refine tr_if_ne eX7_tow_30 (fun h30 => ?_) (fun h30 => ?_)
      · skip
        try first | replace h30 := bi_0 h30 | replace h30 := bi_n h30
        have hli : vp_in (v * nI 8 + τ 12 v - nI 1) 320 := (in_li hcc hv h30).1
        refine tr_iconst eX7_tow_38 (nI 0) ci_0 ?_
        refine tr_put eX7_tow_39 fp_X7_80 rfl rfl ?_
        refine tr_aload_n eX7_tow_42 rfl ?_
        refine tr_getI eX7_tow_43 fk_X7_80 rfl rfl ?_
        try simp (disch := decide) only [up_k, up_s, up_f, s_set_0]
        refine tr_if_le eX7_tow_46 (fun _ => ?_) (fun h46 => absurd h46 (by decide))
        refine tr_bipush eX7_tow_51 (nI 8) (by decide) ?_
        refine tr_iload_n eX7_tow_53 rfl ?_
        refine tr_imulC eX7_tow_54 ?_
        refine tr_aload_n eX7_tow_55 rfl ?_
        refine tr_getR eX7_tow_56 fk_X7_50 rfl rfl ?_
        refine tr_iload_n eX7_tow_59 rfl ?_
        refine tr_iald eX7_tow_60 rfl (by first | with_reducible assumption | with_reducible exact in_slot (by with_reducible assumption) (by with_reducible assumption) | with_reducible exact in_row _ (by decide) (by with_reducible assumption) | with_reducible exact in_row0 (by with_reducible assumption) | with_reducible exact in_slot0 (by with_reducible assumption) | (simp (disch := decide) only [up_k, up_s, up_f] <;> with_reducible assumption)) ?_
        try simp (disch := decide) only [up_k, up_s, up_f, s_set_0]
        refine tr_iadd eX7_tow_61 ?_
        refine tr_iconst eX7_tow_62 (nI 1) ci_1 ?_
        refine tr_isub eX7_tow_63 ?_
        refine tr_istore eX7_tow_64 (by decide) rfl ?_
        refine tr_aload_n eX7_tow_66 rfl ?_
        refine tr_iload_n eX7_tow_67 rfl ?_
        refine tr_ce1 eX7_tow_68 zv_X7_outOf zi_X7_outOf lk_X7_178 ⟨rfl, by decide, by decide⟩ rfl rfl rfl (show CT mX7_outOf _ _ (PE (some (s_out τ v)) _) from k_X7_outOf hv) ?_
        try simp (disch := decide) only [up_k, up_s, up_f, s_set_0]
        refine tr_istore eX7_tow_71 (by decide) rfl ?_
        refine tr_aload_n eX7_tow_73 rfl ?_
        refine tr_getR eX7_tow_74 fk_X7_53 rfl rfl ?_
        refine tr_iload eX7_tow_77 rfl ?_
        refine tr_iald eX7_tow_79 rfl (by first | with_reducible assumption | with_reducible exact in_slot (by with_reducible assumption) (by with_reducible assumption) | with_reducible exact in_row _ (by decide) (by with_reducible assumption) | with_reducible exact in_row0 (by with_reducible assumption) | with_reducible exact in_slot0 (by with_reducible assumption) | (simp (disch := decide) only [up_k, up_s, up_f] <;> with_reducible assumption)) ?_
        try simp (disch := decide) only [up_k, up_s, up_f, s_set_0]
        refine tr_iload_n eX7_tow_80 rfl ?_
        refine tr_icmp_eq eX7_tow_81 (fun h81 => ?_) (fun h81 => ?_)
        · skip
          refine tr_aload_n eX7_tow_114 rfl ?_
          refine tr_iconst eX7_tow_115 (nI 3) ci_3 ?_
          refine tr_put eX7_tow_116 fp_X7_80 rfl rfl ?_
          refine tr_goto eX7_tow_119 ?_
          refine tr_aload_n eX7_tow_163 rfl ?_
          refine tr_getI eX7_tow_164 fk_X7_80 rfl rfl ?_
          try simp (disch := decide) only [up_k, up_s, up_f, s_set_0]
          refine tr_if_le eX7_tow_167 (fun h167 => absurd h167 (by decide)) (fun _ => ?_)
          refine tr_iconst eX7_tow_170 (nI 0) ci_0 ?_
          refine tr_ret eX7_tow_171 rfl (by first | rfl | exact nar_bi _) ?_
          clear hcc
          have hf : f_tow (aM τ) v m s = nI 3 := by simp (disch := decide) only [f_tow, up_c0, up_65, s_nst, s_nvi, s_kind_aM, s_wing_aM, s_in_aM, s_out_aM, s_need_aM, s_unk_aM, s_put_aM, aM_0, aM_1, aM_2, aM_3, aM_4, aM_5, aM_6, aM_7, aM_8, aM_9, aM_f0_3, aM_f0_4, aM_f0_5, aM_f0_6, aM_f0_8, aM_f0_7, aM_f0_0, aM_f0_1, aM_f0_2, aM_f0_34, aM_f0_24, aM_f0_26, aM_f0_29, aM_f0_30, s_li, aM_k]; simp_all [n0, le_nlt, -Int32.not_lt, -Int32.not_le]
          have e : s_towp (aM τ) v m s = s_dn (aM τ) (nI 3) := by rw [s_towp, if_pos (by rw [hf]; decide), hf]
          rw [e]
          exact ⟨rfl, by simp only [aM_f0_0, s_dn, up_up]⟩
        · skip
          refine tr_aload_n eX7_tow_84 rfl ?_
          refine tr_getR eX7_tow_85 fk_X7_56 rfl rfl ?_
          refine tr_iload eX7_tow_88 rfl ?_
          refine tr_iald eX7_tow_90 rfl (by first | with_reducible assumption | with_reducible exact in_slot (by with_reducible assumption) (by with_reducible assumption) | with_reducible exact in_row _ (by decide) (by with_reducible assumption) | with_reducible exact in_row0 (by with_reducible assumption) | with_reducible exact in_slot0 (by with_reducible assumption) | (simp (disch := decide) only [up_k, up_s, up_f] <;> with_reducible assumption)) ?_
          try simp (disch := decide) only [up_k, up_s, up_f, s_set_0]
          refine tr_iload_n eX7_tow_91 rfl ?_
          refine tr_icmp_ge eX7_tow_92 (fun h92 => ?_) (fun h92 => ?_)
          · skip
            refine tr_aload_n eX7_tow_114 rfl ?_
            refine tr_iconst eX7_tow_115 (nI 3) ci_3 ?_
            refine tr_put eX7_tow_116 fp_X7_80 rfl rfl ?_
            refine tr_goto eX7_tow_119 ?_
            refine tr_aload_n eX7_tow_163 rfl ?_
            refine tr_getI eX7_tow_164 fk_X7_80 rfl rfl ?_
            try simp (disch := decide) only [up_k, up_s, up_f, s_set_0]
            refine tr_if_le eX7_tow_167 (fun h167 => absurd h167 (by decide)) (fun _ => ?_)
            refine tr_iconst eX7_tow_170 (nI 0) ci_0 ?_
            refine tr_ret eX7_tow_171 rfl (by first | rfl | exact nar_bi _) ?_
            clear hcc
            have hf : f_tow (aM τ) v m s = nI 3 := by simp (disch := decide) only [f_tow, up_c0, up_65, s_nst, s_nvi, s_kind_aM, s_wing_aM, s_in_aM, s_out_aM, s_need_aM, s_unk_aM, s_put_aM, aM_0, aM_1, aM_2, aM_3, aM_4, aM_5, aM_6, aM_7, aM_8, aM_9, aM_f0_3, aM_f0_4, aM_f0_5, aM_f0_6, aM_f0_8, aM_f0_7, aM_f0_0, aM_f0_1, aM_f0_2, aM_f0_34, aM_f0_24, aM_f0_26, aM_f0_29, aM_f0_30, s_li, aM_k]; simp_all [n0, le_nlt, -Int32.not_lt, -Int32.not_le]
            have e : s_towp (aM τ) v m s = s_dn (aM τ) (nI 3) := by rw [s_towp, if_pos (by rw [hf]; decide), hf]
            rw [e]
            exact ⟨rfl, by simp only [aM_f0_0, s_dn, up_up]⟩
          · skip
            refine tr_iload_n eX7_tow_95 rfl ?_
            refine tr_aload_n eX7_tow_96 rfl ?_
            refine tr_getI eX7_tow_97 fk_X7_122 rfl rfl ?_
            try simp (disch := decide) only [up_k, up_s, up_f, s_set_0]
            refine tr_icmp_le eX7_tow_100 (fun h100 => ?_) (fun h100 => ?_)
            · skip
              refine tr_aload_n eX7_tow_114 rfl ?_
              refine tr_iconst eX7_tow_115 (nI 3) ci_3 ?_
              refine tr_put eX7_tow_116 fp_X7_80 rfl rfl ?_
              refine tr_goto eX7_tow_119 ?_
              refine tr_aload_n eX7_tow_163 rfl ?_
              refine tr_getI eX7_tow_164 fk_X7_80 rfl rfl ?_
              try simp (disch := decide) only [up_k, up_s, up_f, s_set_0]
              refine tr_if_le eX7_tow_167 (fun h167 => absurd h167 (by decide)) (fun _ => ?_)
              refine tr_iconst eX7_tow_170 (nI 0) ci_0 ?_
              refine tr_ret eX7_tow_171 rfl (by first | rfl | exact nar_bi _) ?_
              clear hcc
              have hf : f_tow (aM τ) v m s = nI 3 := by simp (disch := decide) only [f_tow, up_c0, up_65, s_nst, s_nvi, s_kind_aM, s_wing_aM, s_in_aM, s_out_aM, s_need_aM, s_unk_aM, s_put_aM, aM_0, aM_1, aM_2, aM_3, aM_4, aM_5, aM_6, aM_7, aM_8, aM_9, aM_f0_3, aM_f0_4, aM_f0_5, aM_f0_6, aM_f0_8, aM_f0_7, aM_f0_0, aM_f0_1, aM_f0_2, aM_f0_34, aM_f0_24, aM_f0_26, aM_f0_29, aM_f0_30, s_li, aM_k]; simp_all [n0, le_nlt, -Int32.not_lt, -Int32.not_le]
              have e : s_towp (aM τ) v m s = s_dn (aM τ) (nI 3) := by rw [s_towp, if_pos (by rw [hf]; decide), hf]
              rw [e]
              exact ⟨rfl, by simp only [aM_f0_0, s_dn, up_up]⟩
            · skip
              refine tr_iload eX7_tow_103 rfl ?_
              refine tr_aload_n eX7_tow_105 rfl ?_
              refine tr_getI eX7_tow_106 fk_X7_13 rfl rfl ?_
              try simp (disch := decide) only [up_k, up_s, up_f, s_set_0]
              refine tr_isub eX7_tow_109 ?_
              refine tr_iload_n eX7_tow_110 rfl ?_
              refine tr_icmp_gt eX7_tow_111 (fun h111 => ?_) (fun h111 => ?_)
              · skip
                refine tr_aload_n eX7_tow_122 rfl ?_
                refine tr_getR eX7_tow_123 fk_X7_50 rfl rfl ?_
                refine tr_iload_n eX7_tow_126 rfl ?_
                refine tr_iald eX7_tow_127 rfl (by first | with_reducible assumption | with_reducible exact in_slot (by with_reducible assumption) (by with_reducible assumption) | with_reducible exact in_row _ (by decide) (by with_reducible assumption) | with_reducible exact in_row0 (by with_reducible assumption) | with_reducible exact in_slot0 (by with_reducible assumption) | (simp (disch := decide) only [up_k, up_s, up_f] <;> with_reducible assumption)) ?_
                try simp (disch := decide) only [up_k, up_s, up_f, s_set_0]
                refine tr_bipush eX7_tow_128 (nI 8) (by decide) ?_
                refine tr_icmp_ne eX7_tow_130 (fun h130 => ?_) (fun h130 => ?_)
                · skip
                  have g130 := c_lt8 hcc hv h130
                  have hs : vp_in s 24 := in_has hS hS24 (by decide) h6
                  have hk8 := in_c8 hcc hv g130
                  have hf : f_tow (aM τ) v m s = 0 := by
                    clear hcc
                    simp (disch := decide) only [f_tow, s_li, up_c0, up_65, s_nst, s_nvi, s_kind_aM, s_wing_aM, s_in_aM, s_out_aM, s_need_aM, s_unk_aM, s_put_aM, aM_0, aM_1, aM_2, aM_3, aM_4, aM_5, aM_6, aM_7, aM_8, aM_9, aM_f0_3, aM_f0_4, aM_f0_5, aM_f0_6, aM_f0_8, aM_f0_7, aM_f0_0, aM_f0_1, aM_f0_2, aM_f0_34, aM_f0_24, aM_f0_26, aM_f0_29, aM_f0_30, aM_k]; simp_all [n0, le_nlt, -Int32.not_lt, -Int32.not_le]
                  obtain ⟨tw, tw1, tw2, tw3⟩ := hI.2.2.2.2.1.2.1
                  rw [aM_5] at tw3
                  have hmo : m < s_out τ v := by
                    obtain ⟨j, hj, rfl⟩ := nI_of h18.1
                    obtain ⟨ia, ib, e1, e2, e3, e4⟩ := hI.2.2.1.1.io (u := j) (Nat.not_le.mp fun q => h18.2 (by rw [hV]; exact (nI_leI (by omega) hj).mpr q))
                    rw [s_out_aM] at e2
                    exact lt_tow e2 e4 tw3 tw1 tw2 h111
                  refine tr_aload_n eX7_tow_141 rfl ?_
                  refine tr_aload_n eX7_tow_142 rfl ?_
                  refine tr_iload_n eX7_tow_143 rfl ?_
                  refine tr_iload_n eX7_tow_144 rfl ?_
                  refine tr_iload_n eX7_tow_145 rfl ?_
                  refine tr_iload eX7_tow_146 rfl ?_
                  refine tr_ce4 eX7_tow_148 zv_X7_againstOf zi_X7_againstOf lk_X7_165 ⟨rfl, by decide, by decide⟩ rfl rfl rfl (k_X7_againstOfA hI hv hs hmo) ?_
                  try simp (disch := decide) only [up_k, up_s, up_f, s_set_0]
                  refine tr_ce1 eX7_tow_151 zv_X7_isAgainst zi_X7_isAgainst lk_X7_181 ⟨rfl, by decide, by decide⟩ rfl rfl rfl k_X7_isAgainst ?_
                  try simp (disch := decide) only [up_k, up_s, up_f, s_set_0]
                  refine tr_if_eq eX7_tow_154 (fun h154 => ?_) (fun h154 => ?_)
                  · skip
                    replace h154 := bi_0 h154
                    have g154 := n_not h154
                    rw [if_pos g154]
                    refine tr_aload_n eX7_tow_163 rfl ?_
                    refine tr_getI eX7_tow_164 fk_X7_80 rfl rfl ?_
                    try simp (disch := decide) only [up_k, up_s, up_f, s_set_0]
                    refine tr_if_le eX7_tow_167 (fun _ => ?_) (fun h167 => absurd h167 (by decide))
                    refine tr_aload_n eX7_tow_172 rfl ?_
                    refine tr_getR eX7_tow_173 fk_X7_59 rfl rfl ?_
                    refine tr_iload eX7_tow_176 rfl ?_
                    refine tr_iload_n eX7_tow_178 rfl ?_
                    refine tr_aload_n eX7_tow_179 rfl ?_
                    refine tr_getI eX7_tow_180 fk_X7_13 rfl rfl ?_
                    try simp (disch := decide) only [up_k, up_s, up_f, s_set_0]
                    refine tr_iadd eX7_tow_183 ?_
                    refine tr_iast eX7_tow_184 rfl (by first | with_reducible assumption | with_reducible exact in_slot (by with_reducible assumption) (by with_reducible assumption) | with_reducible exact in_row _ (by decide) (by with_reducible assumption) | with_reducible exact in_row0 (by with_reducible assumption) | with_reducible exact in_slot0 (by with_reducible assumption) | (simp (disch := decide) only [up_k, up_s, up_f] <;> with_reducible assumption)) ?_
                    refine tr_aload_n eX7_tow_185 rfl ?_
                    refine tr_getR eX7_tow_186 fk_X7_53 rfl rfl ?_
                    refine tr_iload eX7_tow_189 rfl ?_
                    refine tr_iconst eX7_tow_191 (nI 1) ci_1 ?_
                    refine tr_iadd eX7_tow_192 ?_
                    rw [sub1add1]
                    refine tr_iload_n eX7_tow_193 rfl ?_
                    refine tr_iast eX7_tow_194 rfl (by first | with_reducible assumption | with_reducible exact in_slot (by with_reducible assumption) (by with_reducible assumption) | with_reducible exact in_row _ (by decide) (by with_reducible assumption) | with_reducible exact in_row0 (by with_reducible assumption) | with_reducible exact in_slot0 (by with_reducible assumption) | (simp (disch := decide) only [up_k, up_s, up_f] <;> with_reducible assumption)) ?_
                    refine tr_aload_n eX7_tow_195 rfl ?_
                    refine tr_getR eX7_tow_196 fk_X7_56 rfl rfl ?_
                    refine tr_iload eX7_tow_199 rfl ?_
                    refine tr_iconst eX7_tow_201 (nI 1) ci_1 ?_
                    refine tr_iadd eX7_tow_202 ?_
                    rw [sub1add1]
                    refine tr_iload_n eX7_tow_203 rfl ?_
                    refine tr_iast eX7_tow_204 rfl (by first | with_reducible assumption | with_reducible exact in_slot (by with_reducible assumption) (by with_reducible assumption) | with_reducible exact in_row _ (by decide) (by with_reducible assumption) | with_reducible exact in_row0 (by with_reducible assumption) | with_reducible exact in_slot0 (by with_reducible assumption) | (simp (disch := decide) only [up_k, up_s, up_f] <;> with_reducible assumption)) ?_
                    refine tr_aload_n eX7_tow_205 rfl ?_
                    refine tr_getR eX7_tow_206 fk_X7_59 rfl rfl ?_
                    refine tr_iload eX7_tow_209 rfl ?_
                    refine tr_iconst eX7_tow_211 (nI 1) ci_1 ?_
                    refine tr_iadd eX7_tow_212 ?_
                    rw [sub1add1]
                    refine tr_iload eX7_tow_213 rfl ?_
                    refine tr_iast eX7_tow_215 rfl (by first | with_reducible assumption | with_reducible exact in_slot (by with_reducible assumption) (by with_reducible assumption) | with_reducible exact in_row _ (by decide) (by with_reducible assumption) | with_reducible exact in_row0 (by with_reducible assumption) | with_reducible exact in_slot0 (by with_reducible assumption) | (simp (disch := decide) only [up_k, up_s, up_f] <;> with_reducible assumption)) ?_
                    refine tr_aload_n eX7_tow_216 rfl ?_
                    refine tr_getR eX7_tow_217 fk_X7_50 rfl rfl ?_
                    refine tr_iload_n eX7_tow_220 rfl ?_
                    refine tr_dup2 eX7_tow_221 rfl rfl ?_
                    refine tr_iald eX7_tow_222 rfl (by first | with_reducible assumption | with_reducible exact in_slot (by with_reducible assumption) (by with_reducible assumption) | with_reducible exact in_row _ (by decide) (by with_reducible assumption) | with_reducible exact in_row0 (by with_reducible assumption) | with_reducible exact in_slot0 (by with_reducible assumption) | (simp (disch := decide) only [up_k, up_s, up_f] <;> with_reducible assumption)) ?_
                    try simp (disch := decide) only [up_k, up_s, up_f, s_set_0]
                    refine tr_iconst eX7_tow_223 (nI 1) ci_1 ?_
                    refine tr_iadd eX7_tow_224 ?_
                    refine tr_iast eX7_tow_225 rfl (by first | with_reducible assumption | with_reducible exact in_slot (by with_reducible assumption) (by with_reducible assumption) | with_reducible exact in_row _ (by decide) (by with_reducible assumption) | with_reducible exact in_row0 (by with_reducible assumption) | with_reducible exact in_slot0 (by with_reducible assumption) | (simp (disch := decide) only [up_k, up_s, up_f] <;> with_reducible assumption)) ?_
                    refine tr_iconst eX7_tow_226 (nI 1) ci_1 ?_
                    refine tr_ret eX7_tow_227 rfl (by first | rfl | exact nar_bi _) ?_
                    have e : s_towp (aM τ) v m s = s_al (s_tw (aM τ) v m s) := by rw [s_towp, if_neg (fun q => q hf), s_out_aM, if_pos g154]
                    rw [e]
                    exact ⟨rfl, by simp (disch := decide) only [s_al, s_tw, s_li, s_out_aM, aM_5, aM_k, aM_u, aM_f0_0, aM_f0_24, up_c0]⟩
                  · skip
                    replace h154 := bi_n h154
                    rw [if_neg h154]
                    try simp (disch := decide) only [up_k, up_s, up_f]
                    refine tr_aload_n eX7_tow_157 rfl ?_
                    refine tr_bipush eX7_tow_158 (nI 8) (by decide) ?_
                    refine tr_put eX7_tow_160 fp_X7_80 rfl rfl ?_
                    refine tr_aload_n eX7_tow_163 rfl ?_
                    refine tr_getI eX7_tow_164 fk_X7_80 rfl rfl ?_
                    try simp (disch := decide) only [up_k, up_s, up_f, s_set_0]
                    refine tr_if_le eX7_tow_167 (fun h167 => absurd h167 (by decide)) (fun _ => ?_)
                    refine tr_iconst eX7_tow_170 (nI 0) ci_0 ?_
                    refine tr_ret eX7_tow_171 rfl (by first | rfl | exact nar_bi _) ?_
                    have e : s_towp (aM τ) v m s = s_dn (s_rs (aM τ) (s_A (aM τ) v s m (s_out τ v))) (nI 8) := by rw [s_towp, if_neg (fun q => q hf), s_out_aM, if_neg h154]
                    rw [e]
                    exact ⟨rfl, by simp (disch := decide) only [s_dn, s_rs, aM_f0_0, aM_f0_1, aM_f0_2, aM_f0_24, up_ci6, up_ci67, up_up]⟩
                · skip
                  have g130 : ¬ τ 12 v < nI 8 := by rw [h130]; decide
                  refine tr_aload_n eX7_tow_133 rfl ?_
                  refine tr_iconst eX7_tow_134 (nI 4) ci_4 ?_
                  refine tr_put eX7_tow_135 fp_X7_80 rfl rfl ?_
                  refine tr_goto eX7_tow_138 ?_
                  refine tr_aload_n eX7_tow_163 rfl ?_
                  refine tr_getI eX7_tow_164 fk_X7_80 rfl rfl ?_
                  try simp (disch := decide) only [up_k, up_s, up_f, s_set_0]
                  refine tr_if_le eX7_tow_167 (fun h167 => absurd h167 (by decide)) (fun _ => ?_)
                  refine tr_iconst eX7_tow_170 (nI 0) ci_0 ?_
                  refine tr_ret eX7_tow_171 rfl (by first | rfl | exact nar_bi _) ?_
                  clear hcc
                  have hf : f_tow (aM τ) v m s = nI 4 := by simp (disch := decide) only [f_tow, up_c0, up_65, s_nst, s_nvi, s_kind_aM, s_wing_aM, s_in_aM, s_out_aM, s_need_aM, s_unk_aM, s_put_aM, aM_0, aM_1, aM_2, aM_3, aM_4, aM_5, aM_6, aM_7, aM_8, aM_9, aM_f0_3, aM_f0_4, aM_f0_5, aM_f0_6, aM_f0_8, aM_f0_7, aM_f0_0, aM_f0_1, aM_f0_2, aM_f0_34, aM_f0_24, aM_f0_26, aM_f0_29, aM_f0_30, s_li, aM_k]; simp_all [n0, le_nlt, -Int32.not_lt, -Int32.not_le]
                  have e : s_towp (aM τ) v m s = s_dn (aM τ) (nI 4) := by rw [s_towp, if_pos (by rw [hf]; decide), hf]
                  rw [e]
                  exact ⟨rfl, by simp only [aM_f0_0, s_dn, up_up]⟩
              · skip
                refine tr_aload_n eX7_tow_114 rfl ?_
                refine tr_iconst eX7_tow_115 (nI 3) ci_3 ?_
                refine tr_put eX7_tow_116 fp_X7_80 rfl rfl ?_
                refine tr_goto eX7_tow_119 ?_
                refine tr_aload_n eX7_tow_163 rfl ?_
                refine tr_getI eX7_tow_164 fk_X7_80 rfl rfl ?_
                try simp (disch := decide) only [up_k, up_s, up_f, s_set_0]
                refine tr_if_le eX7_tow_167 (fun h167 => absurd h167 (by decide)) (fun _ => ?_)
                refine tr_iconst eX7_tow_170 (nI 0) ci_0 ?_
                refine tr_ret eX7_tow_171 rfl (by first | rfl | exact nar_bi _) ?_
                clear hcc
                have hf : f_tow (aM τ) v m s = nI 3 := by simp (disch := decide) only [f_tow, up_c0, up_65, s_nst, s_nvi, s_kind_aM, s_wing_aM, s_in_aM, s_out_aM, s_need_aM, s_unk_aM, s_put_aM, aM_0, aM_1, aM_2, aM_3, aM_4, aM_5, aM_6, aM_7, aM_8, aM_9, aM_f0_3, aM_f0_4, aM_f0_5, aM_f0_6, aM_f0_8, aM_f0_7, aM_f0_0, aM_f0_1, aM_f0_2, aM_f0_34, aM_f0_24, aM_f0_26, aM_f0_29, aM_f0_30, s_li, aM_k]; simp_all [n0, le_nlt, -Int32.not_lt, -Int32.not_le]
                have e : s_towp (aM τ) v m s = s_dn (aM τ) (nI 3) := by rw [s_towp, if_pos (by rw [hf]; decide), hf]
                rw [e]
                exact ⟨rfl, by simp only [aM_f0_0, s_dn, up_up]⟩
      · skip
        try first | replace h30 := bi_0 h30 | replace h30 := bi_n h30
        refine tr_bipush eX7_tow_33 (nI 6) (by decide) ?_
        refine tr_goto eX7_tow_35 ?_
        refine tr_put eX7_tow_39 fp_X7_80 rfl rfl ?_
        refine tr_aload_n eX7_tow_42 rfl ?_
        refine tr_getI eX7_tow_43 fk_X7_80 rfl rfl ?_
        try simp (disch := decide) only [up_k, up_s, up_f, s_set_0]
        refine tr_if_le eX7_tow_46 (fun h46 => absurd h46 (by decide)) (fun _ => ?_)
        refine tr_iconst eX7_tow_49 (nI 0) ci_0 ?_
        refine tr_ret eX7_tow_50 rfl (by first | rfl | exact nar_bi _) ?_
        clear hcc
        have hf : f_tow (aM τ) v m s = nI 6 := by simp (disch := decide) only [f_tow, up_c0, up_65, s_nst, s_nvi, s_kind_aM, s_wing_aM, s_in_aM, s_out_aM, s_need_aM, s_unk_aM, s_put_aM, aM_0, aM_1, aM_2, aM_3, aM_4, aM_5, aM_6, aM_7, aM_8, aM_9, aM_f0_3, aM_f0_4, aM_f0_5, aM_f0_6, aM_f0_8, aM_f0_7, aM_f0_0, aM_f0_1, aM_f0_2, aM_f0_34, aM_f0_24, aM_f0_26, aM_f0_29, aM_f0_30, s_li, aM_k]; simp_all [n0, le_nlt, -Int32.not_lt, -Int32.not_le]
        have e : s_towp (aM τ) v m s = s_dn (aM τ) (nI 6) := by rw [s_towp, if_pos (by rw [hf]; decide), hf]
        rw [e]
        exact ⟨rfl, by simp only [aM_f0_0, s_dn, up_up]⟩
    · skip
      try first | replace h18 := bi_0 h18 | replace h18 := bi_n h18
      refine tr_iconst eX7_tow_21 (nI 2) ci_2 ?_
      refine tr_goto eX7_tow_22 ?_
      refine tr_put eX7_tow_39 fp_X7_80 rfl rfl ?_
      refine tr_aload_n eX7_tow_42 rfl ?_
      refine tr_getI eX7_tow_43 fk_X7_80 rfl rfl ?_
      try simp (disch := decide) only [up_k, up_s, up_f, s_set_0]
      refine tr_if_le eX7_tow_46 (fun h46 => absurd h46 (by decide)) (fun _ => ?_)
      refine tr_iconst eX7_tow_49 (nI 0) ci_0 ?_
      refine tr_ret eX7_tow_50 rfl (by first | rfl | exact nar_bi _) ?_
      clear hcc
      have hf : f_tow (aM τ) v m s = nI 2 := by simp (disch := decide) only [f_tow, up_c0, up_65, s_nst, s_nvi, s_kind_aM, s_wing_aM, s_in_aM, s_out_aM, s_need_aM, s_unk_aM, s_put_aM, aM_0, aM_1, aM_2, aM_3, aM_4, aM_5, aM_6, aM_7, aM_8, aM_9, aM_f0_3, aM_f0_4, aM_f0_5, aM_f0_6, aM_f0_8, aM_f0_7, aM_f0_0, aM_f0_1, aM_f0_2, aM_f0_34, aM_f0_24, aM_f0_26, aM_f0_29, aM_f0_30, s_li, aM_k]; simp_all [n0, le_nlt, -Int32.not_lt, -Int32.not_le]
      have e : s_towp (aM τ) v m s = s_dn (aM τ) (nI 2) := by rw [s_towp, if_pos (by rw [hf]; decide), hf]
      rw [e]
      exact ⟨rfl, by simp only [aM_f0_0, s_dn, up_up]⟩
  · skip
    try first | replace h6 := bi_0 h6 | replace h6 := bi_n h6
    refine tr_iconst eX7_tow_9 (nI 1) ci_1 ?_
    refine tr_goto eX7_tow_10 ?_
    refine tr_put eX7_tow_39 fp_X7_80 rfl rfl ?_
    refine tr_aload_n eX7_tow_42 rfl ?_
    refine tr_getI eX7_tow_43 fk_X7_80 rfl rfl ?_
    try simp (disch := decide) only [up_k, up_s, up_f, s_set_0]
    refine tr_if_le eX7_tow_46 (fun h46 => absurd h46 (by decide)) (fun _ => ?_)
    refine tr_iconst eX7_tow_49 (nI 0) ci_0 ?_
    refine tr_ret eX7_tow_50 rfl (by first | rfl | exact nar_bi _) ?_
    clear hcc
    have hf : f_tow (aM τ) v m s = nI 1 := by simp (disch := decide) only [f_tow, up_c0, up_65, s_nst, s_nvi, s_kind_aM, s_wing_aM, s_in_aM, s_out_aM, s_need_aM, s_unk_aM, s_put_aM, aM_0, aM_1, aM_2, aM_3, aM_4, aM_5, aM_6, aM_7, aM_8, aM_9, aM_f0_3, aM_f0_4, aM_f0_5, aM_f0_6, aM_f0_8, aM_f0_7, aM_f0_0, aM_f0_1, aM_f0_2, aM_f0_34, aM_f0_24, aM_f0_26, aM_f0_29, aM_f0_30, s_li, aM_k]; simp_all [n0, le_nlt, -Int32.not_lt, -Int32.not_le]
    have e : s_towp (aM τ) v m s = s_dn (aM τ) (nI 1) := by rw [s_towp, if_pos (by rw [hf]; decide), hf]
    rw [e]
    exact ⟨rfl, by simp only [aM_f0_0, s_dn, up_up]⟩

def QY (F : Int32 × tSt) : Option Int32 → tSt → Prop := fun r σ' => r = some F.1 ∧ aX σ' = F.2 ∧ aw0 σ'
theorem QX.y {σ : tSt} (hz : aw0 σ) {F : Int32 × tSt} {r : Option Int32} {ρ : tSt} (h : QX σ F r ρ) : QY F r ρ := ⟨h.1, h.2.1, fun u hu => by rw [h.2.2]; exact hz u hu⟩
def f_sw (μ : tSt) (a b : Int32) : Int32 := if s_nvi μ a then nI 2 else if s_nvi μ b then nI 2 else if a = b then nI 2 else if s_unk μ a = true then nI 5 else if s_unk μ b = true then nI 5 else if ¬ μ 12 a = nI 1 then nI 6 else if ¬ μ 12 b = nI 1 then nI 6 else if ¬ μ 0 (nI 4) < s_in μ a then nI 7 else if ¬ μ 0 (nI 4) < s_in μ b then nI 7 else nI 0
def s_A2 (μ : tSt) (a b s x y : Int32) : Int32 × Int32 := s_ag μ (tn (μ 0 (nI 1))) (tn (μ 0 (nI 2))) (tn (μ 0 (nI 3))) (fun u => s_ne a u && s_ne b u) (s_kind μ a) (s_wing μ a) (s_need μ a) s x y
def s_sA (μ : tSt) (a b : Int32) : Int32 × Int32 := s_A2 μ a b (μ 13 (b * nI 8)) (μ 14 (a * nI 8)) (μ 15 (a * nI 8))
def s_sB (μ : tSt) (a b : Int32) : Int32 × Int32 := s_A (up μ 13 (a * nI 8) (μ 13 (b * nI 8))) b (μ 13 (a * nI 8)) (μ 14 (b * nI 8)) (μ 15 (b * nI 8))
def s_swapp (μ : tSt) (a b : Int32) : Int32 × tSt := if ¬ f_sw μ a b = 0 then s_dn μ (f_sw μ a b) else if ¬ (s_sA μ a b).1 = 0 then s_dn (s_rs μ (s_sA μ a b)) (nI 8) else if ¬ (s_sB μ a b).1 = 0 then s_dn (s_rs μ (s_sB μ a b)) (nI 8) else s_al (up (up μ 13 (a * nI 8) (μ 13 (b * nI 8))) 13 (b * nI 8) (μ 13 (a * nI 8)))
theorem f_sw0 {μ : tSt} {a b : Int32} (h : f_sw μ a b = 0) : ¬ s_nvi μ a ∧ ¬ s_nvi μ b ∧ ¬ a = b ∧ ¬ s_unk μ a = true ∧ ¬ s_unk μ b = true ∧ μ 12 a = nI 1 ∧ μ 12 b = nI 1 ∧ μ 0 (nI 4) < s_in μ a ∧ μ 0 (nI 4) < s_in μ b := by
  unfold f_sw at h
  split at h
  · exact absurd h (by decide)
  split at h
  · exact absurd h (by decide)
  split at h
  · exact absurd h (by decide)
  split at h
  · exact absurd h (by decide)
  split at h
  · exact absurd h (by decide)
  split at h
  · exact absurd h (by decide)
  split at h
  · exact absurd h (by decide)
  split at h
  · exact absurd h (by decide)
  split at h
  · exact absurd h (by decide)
  rename_i a1 a2 a3 a4 a5 a6 a7 a8 a9
  exact ⟨a1, a2, a3, a4, a5, n_not a6, n_not a7, n_not a8, n_not a9⟩
theorem aX_off {σ ρ : tSt} (h : ∀ k, k ≠ 26 → ρ k = σ k) : aX ρ = aX σ := by
  funext k i
  simp only [aX]
  rw [h 17 (by decide), h 18 (by decide), h 0 (by decide), h 25 (by decide)]
  by_cases hk : k = 0
  · rw [if_pos hk, if_pos hk]
  · rw [if_neg hk, if_neg hk]
    by_cases h16 : k ≤ 16
    · rw [if_pos h16, if_pos h16, h k (by omega)]
    · rw [if_neg h16, if_neg h16]
theorem s_A2_X {σ : tSt} {nS nP nC nV : Nat} (h : iN (aX σ) nS nP nC nV) (hz : aw0 σ) (a b s x y : Int32) : s_agX (s_reg (up σ 26 b (nI 1)) a) nP nC nV s x y = s_A2 (aX σ) a b s x y := by
  have eA : s_A2 (aX σ) a b s x y = s_ag (aX σ) nP nC nV (fun u => s_ne a u && s_ne b u) (s_kind (aX σ) a) (s_wing (aX σ) a) (s_need (aX σ) a) s x y := by
    unfold s_A2
    rw [tn_of h.2.1.1 (by have := h.2.1.2; omega), tn_of h.2.2.1.1 (by have := h.2.2.1.2; omega), tn_of h.2.2.2.1 (by have := h.2.2.2.2; omega)]
  rw [eA, s_kind_aX, s_wing_aX, s_need_aX, s_agX]
  have e1 : s_reg (up σ 26 b (nI 1)) a 19 (nI 4) = s_kind σ a := by simp (disch := decide) only [s_reg, up_s, up_f]; rfl
  have e2 : s_reg (up σ 26 b (nI 1)) a 19 (nI 5) = s_wing σ a := by simp (disch := decide) only [s_reg, up_s, up_f]; rfl
  have e3 : s_reg (up σ 26 b (nI 1)) a 19 (nI 6) = s_need σ a := by simp (disch := decide) only [s_reg, up_s, up_f]; rfl
  have e4 : s_reg (up σ 26 b (nI 1)) a 19 (nI 3) = a := by simp (disch := decide) only [s_reg, up_s, up_f]
  have e5 : s_reg (up σ 26 b (nI 1)) a 26 = up σ 26 b (nI 1) 26 := by simp (disch := decide) only [s_reg, up_k]
  rw [e1, e2, e3]
  refine s_ag_same (fun k h1 h2 => ?_) (fun u hu => ?_) ..
  · rw [aX_k σ ⟨h1, by omega⟩]
    simp only [s_reg]
    rw [up_k (by omega), up_k (by omega), up_k (by omega), up_k (by omega), up_k (by omega)]
  · have hb := h.2.2.2.2
    rw [s_oth, e4, e5, up_at, s_ne, s_ne]
    by_cases hub : nI u = b
    · rw [if_pos hub]; simp [hub]; intro _; decide
    · rw [if_neg hub, hz u (by omega)]; simp [hub, n0]
theorem k_X6_faultOfSwapping {σ : tSt} {nS nP nC nV : Nat} {a b : Int32} (hI : iN (aX σ) nS nP nC nV) : CT mX6_faultOfSwapping [.ref 0, .int a, .int b] σ (PE (some (f_sw (aX σ) a b)) σ) := by
  have hS := hI.1.1
  rw [aX_0] at hS
  have hP := hI.2.1.1
  rw [aX_1] at hP
  have hC := hI.2.2.1.1
  rw [aX_2] at hC
  have hV := hI.2.2.2.1
  rw [aX_3] at hV
  have hS24 := hI.1.2
  have hP40 := hI.2.1.2
  have hC20 := hI.2.2.1.2
  have hV40 := hI.2.2.2.2
  refine CT.of2 0 (by decide) rfl rfl ?_
  refine tr_aload_n eX6_faultOfSwapping_0 rfl ?_
  refine tr_getR eX6_faultOfSwapping_1 fk_X6_19 rfl rfl ?_
  refine tr_iload_n eX6_faultOfSwapping_4 rfl ?_
  refine tr_ce1 eX6_faultOfSwapping_5 zv_X5_has zi_X5_has lk_X6_131 ⟨rfl, by decide, by decide⟩ rfl rfl rfl k_X5_has ?_
  refine tr_if_eq eX6_faultOfSwapping_8 (fun h8 => ?_) (fun h8 => ?_)
  · skip
    try first | replace h8 := bi_0 h8 | replace h8 := bi_n h8
    refine tr_iconst eX6_faultOfSwapping_27 (nI 2) ci_2 ?_
    refine tr_ret eX6_faultOfSwapping_28 rfl rfl ?_
    refine ⟨congrArg some ?_, rfl⟩
    simp (disch := decide) only [f_sw, s_nst, s_nvi, s_kind_aX, s_wing_aX, s_in_aX, s_out_aX, s_need_aX, s_unk_aX, s_put_aX, aX_0, aX_1, aX_2, aX_3, aX_4, aX_5, aX_6, aX_7, aX_8, aX_9, aX_f17_9, aX_f17_10, aX_f17_11, aX_f18_6, aX_f18_7, aX_f0_6, aX_f0_7, aX_f0_8, aX_f0_9, aX_f25_1, aX_k] <;> simp_all [n0, le_nlt, s_beg, -Int32.not_lt, -Int32.not_le]
  · skip
    try first | replace h8 := bi_0 h8 | replace h8 := bi_n h8
    refine tr_aload_n eX6_faultOfSwapping_11 rfl ?_
    refine tr_getR eX6_faultOfSwapping_12 fk_X6_19 rfl rfl ?_
    refine tr_iload_n eX6_faultOfSwapping_15 rfl ?_
    refine tr_ce1 eX6_faultOfSwapping_16 zv_X5_has zi_X5_has lk_X6_131 ⟨rfl, by decide, by decide⟩ rfl rfl rfl k_X5_has ?_
    refine tr_if_eq eX6_faultOfSwapping_19 (fun h19 => ?_) (fun h19 => ?_)
    · skip
      try first | replace h19 := bi_0 h19 | replace h19 := bi_n h19
      refine tr_iconst eX6_faultOfSwapping_27 (nI 2) ci_2 ?_
      refine tr_ret eX6_faultOfSwapping_28 rfl rfl ?_
      refine ⟨congrArg some ?_, rfl⟩
      simp (disch := decide) only [f_sw, s_nst, s_nvi, s_kind_aX, s_wing_aX, s_in_aX, s_out_aX, s_need_aX, s_unk_aX, s_put_aX, aX_0, aX_1, aX_2, aX_3, aX_4, aX_5, aX_6, aX_7, aX_8, aX_9, aX_f17_9, aX_f17_10, aX_f17_11, aX_f18_6, aX_f18_7, aX_f0_6, aX_f0_7, aX_f0_8, aX_f0_9, aX_f25_1, aX_k] <;> simp_all [n0, le_nlt, s_beg, -Int32.not_lt, -Int32.not_le]
    · skip
      try first | replace h19 := bi_0 h19 | replace h19 := bi_n h19
      have hva : vp_in a 40 := in_has hV hV40 (by decide) h8
      have hvb : vp_in b 40 := in_has hV hV40 (by decide) h19
      refine tr_iload_n eX6_faultOfSwapping_22 rfl ?_
      refine tr_iload_n eX6_faultOfSwapping_23 rfl ?_
      refine tr_icmp_ne eX6_faultOfSwapping_24 (fun h24 => ?_) (fun h24 => ?_)
      · skip
        refine tr_aload_n eX6_faultOfSwapping_29 rfl ?_
        refine tr_getR eX6_faultOfSwapping_30 fk_X6_19 rfl rfl ?_
        refine tr_iload_n eX6_faultOfSwapping_33 rfl ?_
        refine tr_ce1 eX6_faultOfSwapping_34 zv_X5_isUnknown zi_X5_isUnknown lk_X6_266 ⟨rfl, by decide, by decide⟩ rfl rfl rfl (k_X5_isUnknown (by first | with_reducible assumption | with_reducible exact in_slot (by with_reducible assumption) (by with_reducible assumption) | with_reducible exact in_row _ (by decide) (by with_reducible assumption) | with_reducible exact in_row0 (by with_reducible assumption) | with_reducible exact in_slot0 (by with_reducible assumption) | (simp (disch := decide) only [up_k, up_s, up_f] <;> with_reducible assumption))) ?_
        refine tr_if_ne eX6_faultOfSwapping_37 (fun h37 => ?_) (fun h37 => ?_)
        · skip
          try first | replace h37 := bi_0 h37 | replace h37 := bi_n h37
          refine tr_iconst eX6_faultOfSwapping_51 (nI 5) ci_5 ?_
          refine tr_ret eX6_faultOfSwapping_52 rfl rfl ?_
          refine ⟨congrArg some ?_, rfl⟩
          simp (disch := decide) only [f_sw, s_nst, s_nvi, s_kind_aX, s_wing_aX, s_in_aX, s_out_aX, s_need_aX, s_unk_aX, s_put_aX, aX_0, aX_1, aX_2, aX_3, aX_4, aX_5, aX_6, aX_7, aX_8, aX_9, aX_f17_9, aX_f17_10, aX_f17_11, aX_f18_6, aX_f18_7, aX_f0_6, aX_f0_7, aX_f0_8, aX_f0_9, aX_f25_1, aX_k] <;> simp_all [n0, le_nlt, s_beg, -Int32.not_lt, -Int32.not_le]
        · skip
          try first | replace h37 := bi_0 h37 | replace h37 := bi_n h37
          refine tr_aload_n eX6_faultOfSwapping_40 rfl ?_
          refine tr_getR eX6_faultOfSwapping_41 fk_X6_19 rfl rfl ?_
          refine tr_iload_n eX6_faultOfSwapping_44 rfl ?_
          refine tr_ce1 eX6_faultOfSwapping_45 zv_X5_isUnknown zi_X5_isUnknown lk_X6_266 ⟨rfl, by decide, by decide⟩ rfl rfl rfl (k_X5_isUnknown (by first | with_reducible assumption | with_reducible exact in_slot (by with_reducible assumption) (by with_reducible assumption) | with_reducible exact in_row _ (by decide) (by with_reducible assumption) | with_reducible exact in_row0 (by with_reducible assumption) | with_reducible exact in_slot0 (by with_reducible assumption) | (simp (disch := decide) only [up_k, up_s, up_f] <;> with_reducible assumption))) ?_
          refine tr_if_eq eX6_faultOfSwapping_48 (fun h48 => ?_) (fun h48 => ?_)
          · skip
            try first | replace h48 := bi_0 h48 | replace h48 := bi_n h48
            refine tr_aload_n eX6_faultOfSwapping_53 rfl ?_
            refine tr_getR eX6_faultOfSwapping_54 fk_X6_19 rfl rfl ?_
            refine tr_getR eX6_faultOfSwapping_57 fk_X6_251 rfl rfl ?_
            refine tr_iload_n eX6_faultOfSwapping_60 rfl ?_
            refine tr_iald eX6_faultOfSwapping_61 rfl (by first | with_reducible assumption | with_reducible exact in_slot (by with_reducible assumption) (by with_reducible assumption) | with_reducible exact in_row _ (by decide) (by with_reducible assumption) | with_reducible exact in_row0 (by with_reducible assumption) | with_reducible exact in_slot0 (by with_reducible assumption) | (simp (disch := decide) only [up_k, up_s, up_f] <;> with_reducible assumption)) ?_
            refine tr_iconst eX6_faultOfSwapping_62 (nI 1) ci_1 ?_
            refine tr_icmp_ne eX6_faultOfSwapping_63 (fun h63 => ?_) (fun h63 => ?_)
            · skip
              refine tr_bipush eX6_faultOfSwapping_79 (nI 6) (by decide) ?_
              refine tr_ret eX6_faultOfSwapping_81 rfl rfl ?_
              refine ⟨congrArg some ?_, rfl⟩
              simp (disch := decide) only [f_sw, s_nst, s_nvi, s_kind_aX, s_wing_aX, s_in_aX, s_out_aX, s_need_aX, s_unk_aX, s_put_aX, aX_0, aX_1, aX_2, aX_3, aX_4, aX_5, aX_6, aX_7, aX_8, aX_9, aX_f17_9, aX_f17_10, aX_f17_11, aX_f18_6, aX_f18_7, aX_f0_6, aX_f0_7, aX_f0_8, aX_f0_9, aX_f25_1, aX_k] <;> simp_all [n0, le_nlt, s_beg, -Int32.not_lt, -Int32.not_le]
            · skip
              refine tr_aload_n eX6_faultOfSwapping_66 rfl ?_
              refine tr_getR eX6_faultOfSwapping_67 fk_X6_19 rfl rfl ?_
              refine tr_getR eX6_faultOfSwapping_70 fk_X6_251 rfl rfl ?_
              refine tr_iload_n eX6_faultOfSwapping_73 rfl ?_
              refine tr_iald eX6_faultOfSwapping_74 rfl (by first | with_reducible assumption | with_reducible exact in_slot (by with_reducible assumption) (by with_reducible assumption) | with_reducible exact in_row _ (by decide) (by with_reducible assumption) | with_reducible exact in_row0 (by with_reducible assumption) | with_reducible exact in_slot0 (by with_reducible assumption) | (simp (disch := decide) only [up_k, up_s, up_f] <;> with_reducible assumption)) ?_
              refine tr_iconst eX6_faultOfSwapping_75 (nI 1) ci_1 ?_
              refine tr_icmp_eq eX6_faultOfSwapping_76 (fun h76 => ?_) (fun h76 => ?_)
              · skip
                refine tr_aload_n eX6_faultOfSwapping_82 rfl ?_
                refine tr_getR eX6_faultOfSwapping_83 fk_X6_19 rfl rfl ?_
                refine tr_iload_n eX6_faultOfSwapping_86 rfl ?_
                refine tr_ce1 eX6_faultOfSwapping_87 zv_X5_hasBegun zi_X5_hasBegun lk_X6_162 ⟨rfl, by decide, by decide⟩ rfl rfl rfl (k_X5_hasBegun (by first | with_reducible assumption | with_reducible exact in_slot (by with_reducible assumption) (by with_reducible assumption) | with_reducible exact in_row _ (by decide) (by with_reducible assumption) | with_reducible exact in_row0 (by with_reducible assumption) | with_reducible exact in_slot0 (by with_reducible assumption) | (simp (disch := decide) only [up_k, up_s, up_f] <;> with_reducible assumption))) ?_
                refine tr_if_ne eX6_faultOfSwapping_90 (fun h90 => ?_) (fun h90 => ?_)
                · skip
                  try first | replace h90 := bi_0 h90 | replace h90 := bi_n h90
                  refine tr_bipush eX6_faultOfSwapping_104 (nI 7) (by decide) ?_
                  refine tr_goto eX6_faultOfSwapping_106 ?_
                  refine tr_ret eX6_faultOfSwapping_110 rfl rfl ?_
                  refine ⟨congrArg some ?_, rfl⟩
                  simp (disch := decide) only [f_sw, s_nst, s_nvi, s_kind_aX, s_wing_aX, s_in_aX, s_out_aX, s_need_aX, s_unk_aX, s_put_aX, aX_0, aX_1, aX_2, aX_3, aX_4, aX_5, aX_6, aX_7, aX_8, aX_9, aX_f17_9, aX_f17_10, aX_f17_11, aX_f18_6, aX_f18_7, aX_f0_6, aX_f0_7, aX_f0_8, aX_f0_9, aX_f25_1, aX_k] <;> simp_all [n0, le_nlt, s_beg, -Int32.not_lt, -Int32.not_le]
                · skip
                  try first | replace h90 := bi_0 h90 | replace h90 := bi_n h90
                  refine tr_aload_n eX6_faultOfSwapping_93 rfl ?_
                  refine tr_getR eX6_faultOfSwapping_94 fk_X6_19 rfl rfl ?_
                  refine tr_iload_n eX6_faultOfSwapping_97 rfl ?_
                  refine tr_ce1 eX6_faultOfSwapping_98 zv_X5_hasBegun zi_X5_hasBegun lk_X6_162 ⟨rfl, by decide, by decide⟩ rfl rfl rfl (k_X5_hasBegun (by first | with_reducible assumption | with_reducible exact in_slot (by with_reducible assumption) (by with_reducible assumption) | with_reducible exact in_row _ (by decide) (by with_reducible assumption) | with_reducible exact in_row0 (by with_reducible assumption) | with_reducible exact in_slot0 (by with_reducible assumption) | (simp (disch := decide) only [up_k, up_s, up_f] <;> with_reducible assumption))) ?_
                  refine tr_if_eq eX6_faultOfSwapping_101 (fun h101 => ?_) (fun h101 => ?_)
                  · skip
                    try first | replace h101 := bi_0 h101 | replace h101 := bi_n h101
                    refine tr_iconst eX6_faultOfSwapping_109 (nI 0) ci_0 ?_
                    refine tr_ret eX6_faultOfSwapping_110 rfl rfl ?_
                    refine ⟨congrArg some ?_, rfl⟩
                    simp (disch := decide) only [f_sw, s_nst, s_nvi, s_kind_aX, s_wing_aX, s_in_aX, s_out_aX, s_need_aX, s_unk_aX, s_put_aX, aX_0, aX_1, aX_2, aX_3, aX_4, aX_5, aX_6, aX_7, aX_8, aX_9, aX_f17_9, aX_f17_10, aX_f17_11, aX_f18_6, aX_f18_7, aX_f0_6, aX_f0_7, aX_f0_8, aX_f0_9, aX_f25_1, aX_k] <;> simp_all [n0, le_nlt, s_beg, -Int32.not_lt, -Int32.not_le]
                  · skip
                    try first | replace h101 := bi_0 h101 | replace h101 := bi_n h101
                    refine tr_bipush eX6_faultOfSwapping_104 (nI 7) (by decide) ?_
                    refine tr_goto eX6_faultOfSwapping_106 ?_
                    refine tr_ret eX6_faultOfSwapping_110 rfl rfl ?_
                    refine ⟨congrArg some ?_, rfl⟩
                    simp (disch := decide) only [f_sw, s_nst, s_nvi, s_kind_aX, s_wing_aX, s_in_aX, s_out_aX, s_need_aX, s_unk_aX, s_put_aX, aX_0, aX_1, aX_2, aX_3, aX_4, aX_5, aX_6, aX_7, aX_8, aX_9, aX_f17_9, aX_f17_10, aX_f17_11, aX_f18_6, aX_f18_7, aX_f0_6, aX_f0_7, aX_f0_8, aX_f0_9, aX_f25_1, aX_k] <;> simp_all [n0, le_nlt, s_beg, -Int32.not_lt, -Int32.not_le]
              · skip
                refine tr_bipush eX6_faultOfSwapping_79 (nI 6) (by decide) ?_
                refine tr_ret eX6_faultOfSwapping_81 rfl rfl ?_
                refine ⟨congrArg some ?_, rfl⟩
                simp (disch := decide) only [f_sw, s_nst, s_nvi, s_kind_aX, s_wing_aX, s_in_aX, s_out_aX, s_need_aX, s_unk_aX, s_put_aX, aX_0, aX_1, aX_2, aX_3, aX_4, aX_5, aX_6, aX_7, aX_8, aX_9, aX_f17_9, aX_f17_10, aX_f17_11, aX_f18_6, aX_f18_7, aX_f0_6, aX_f0_7, aX_f0_8, aX_f0_9, aX_f25_1, aX_k] <;> simp_all [n0, le_nlt, s_beg, -Int32.not_lt, -Int32.not_le]
          · skip
            try first | replace h48 := bi_0 h48 | replace h48 := bi_n h48
            refine tr_iconst eX6_faultOfSwapping_51 (nI 5) ci_5 ?_
            refine tr_ret eX6_faultOfSwapping_52 rfl rfl ?_
            refine ⟨congrArg some ?_, rfl⟩
            simp (disch := decide) only [f_sw, s_nst, s_nvi, s_kind_aX, s_wing_aX, s_in_aX, s_out_aX, s_need_aX, s_unk_aX, s_put_aX, aX_0, aX_1, aX_2, aX_3, aX_4, aX_5, aX_6, aX_7, aX_8, aX_9, aX_f17_9, aX_f17_10, aX_f17_11, aX_f18_6, aX_f18_7, aX_f0_6, aX_f0_7, aX_f0_8, aX_f0_9, aX_f25_1, aX_k] <;> simp_all [n0, le_nlt, s_beg, -Int32.not_lt, -Int32.not_le]
      · skip
        refine tr_iconst eX6_faultOfSwapping_27 (nI 2) ci_2 ?_
        refine tr_ret eX6_faultOfSwapping_28 rfl rfl ?_
        refine ⟨congrArg some ?_, rfl⟩
        simp (disch := decide) only [f_sw, s_nst, s_nvi, s_kind_aX, s_wing_aX, s_in_aX, s_out_aX, s_need_aX, s_unk_aX, s_put_aX, aX_0, aX_1, aX_2, aX_3, aX_4, aX_5, aX_6, aX_7, aX_8, aX_9, aX_f17_9, aX_f17_10, aX_f17_11, aX_f18_6, aX_f18_7, aX_f0_6, aX_f0_7, aX_f0_8, aX_f0_9, aX_f25_1, aX_k] <;> simp_all [n0, le_nlt, s_beg, -Int32.not_lt, -Int32.not_le]

theorem gOK_aX {σ : tSt} {n : Nat} (h : gOK (aX σ) n) : gOK σ n := fun u k hu hk h8 => by
  have := h u k hu (by rw [aX_k σ (by decide)]; exact hk) h8
  rw [aX_k σ (by decide)] at this
  exact this
theorem gOK_aM {σ : tSt} {n : Nat} (h : gOK (aM σ) n) : gOK σ n := fun u k hu hk h8 => by
  have := h u k hu (by rw [aM_k σ (by decide)]; exact hk) h8
  rw [aM_k σ (by decide)] at this
  exact this
theorem stS0 {μ : tSt} {nS : Nat} (h : gOK μ nS) (hS : nS ≤ 24) {v : Int32} (hv : vp_in v 40) (hc : μ 12 v = nI 1) : vp_in (μ 13 (v * nI 8)) 24 := by
  obtain ⟨u, hu, rfl⟩ := vp_in_of hv (by decide)
  obtain ⟨s, hs, e⟩ := h u 0 hu (by rw [hc]; decide) (by decide)
  rw [add_n0] at e
  rw [e]
  exact vp_in_nI (by omega) (by decide)
theorem stF0 {μ : tSt} (h : sOK μ) {v : Int32} (hv : vp_in v 40) (hc : μ 12 v = nI 1) : μ 14 (v * nI 8) < μ 15 (v * nI 8) := by
  obtain ⟨u, hu, rfl⟩ := vp_in_of hv (by decide)
  have := h u 0 hu (by rw [hc]; decide) (by decide)
  rw [add_n0] at this
  exact this
theorem aX_26 (σ : tSt) (i x : Int32) : aX (up σ 26 i x) = aX σ := aX_s σ (by decide) i x
theorem k_X6_swap {σ : tSt} {nS nP nC nV : Nat} {a b : Int32} (hI : iA (aX σ) nS nP nC nV) (hz : aw0 σ) : CT mX6_swap [.ref 0, .int a, .int b] σ (QY (s_swapp (aX σ) a b)) := by
  have hI0 := hI.1
  have hS := hI0.1.1
  rw [aX_0] at hS
  have hP := hI0.2.1.1
  rw [aX_1] at hP
  have hC := hI0.2.2.1.1
  rw [aX_2] at hC
  have hV := hI0.2.2.2.1
  rw [aX_3] at hV
  have hS24 := hI0.1.2
  have hP40 := hI0.2.1.2
  have hC20 := hI0.2.2.1.2
  have hV40 := hI0.2.2.2.2
  have hcc := cOK_aX hI.2.1.1
  refine CT.of2 4 (by decide) rfl rfl ?_
  refine tr_aload_n eX6_swap_0 rfl ?_
  refine tr_iload_n eX6_swap_1 rfl ?_
  refine tr_iload_n eX6_swap_2 rfl ?_
  refine tr_ce2 eX6_swap_3 zv_X6_faultOfSwapping zi_X6_faultOfSwapping lk_X6_230 ⟨rfl, by decide, by decide⟩ rfl rfl rfl (k_X6_faultOfSwapping hI.1) ?_
  try simp (disch := decide) only [up_k, up_s, up_f, s_set_0]
  refine tr_istore_n eX6_swap_6 (by decide) rfl ?_
  refine tr_iload_n eX6_swap_7 rfl ?_
  refine tr_if_eq eX6_swap_8 (fun h8 => ?_) (fun h8 => ?_)
  · skip
    obtain ⟨q1, q2, q3, q4, q5, q6, q7, q8, q9⟩ := f_sw0 h8
    rw [aX_k σ (by decide)] at q6 q7
    have hb' : ¬ b < 0 ∧ ¬ σ 18 (nI 6) ≤ b := by rw [s_nvi, aX_3] at q2; exact n_not q2
    have hva : vp_in a 40 := by rw [s_nvi, aX_3] at q1; exact in_has hV hV40 (by decide) (n_not q1)
    have hvb : vp_in b 40 := in_has hV hV40 (by decide) hb'
    have hk0 : vp_in (nI 0) 8 := vp_in_nI (by decide) (by decide)
    have hsA : vp_in (σ 13 (a * nI 8)) 24 := stS0 (gOK_aX hI.2.2.2.1) hS24 hva q6
    have hsB : vp_in (σ 13 (b * nI 8)) 24 := stS0 (gOK_aX hI.2.2.2.1) hS24 hvb q7
    refine tr_aload_n eX6_swap_17 rfl ?_
    refine tr_getR eX6_swap_18 fk_X6_19 rfl rfl ?_
    refine tr_iload_n eX6_swap_21 rfl ?_
    refine tr_iconst eX6_swap_22 (nI 0) ci_0 ?_
    refine tr_ce2 eX6_swap_23 zv_X5_standOf zi_X5_standOf lk_X6_233 ⟨rfl, by decide, by decide⟩ rfl rfl rfl (show CT mX5_standOf _ _ (PE (some (σ 13 (a * nI 8))) _) from by have h := k_X5_standOf (σ := σ) (v := a) (k := nI 0) hva hk0; rw [add_n0] at h; exact h) ?_
    try simp (disch := decide) only [up_k, up_s, up_f, s_set_0]
    refine tr_istore eX6_swap_26 (by decide) rfl ?_
    refine tr_aload_n eX6_swap_28 rfl ?_
    refine tr_getR eX6_swap_29 fk_X6_19 rfl rfl ?_
    refine tr_iload_n eX6_swap_32 rfl ?_
    refine tr_iconst eX6_swap_33 (nI 0) ci_0 ?_
    refine tr_ce2 eX6_swap_34 zv_X5_standOf zi_X5_standOf lk_X6_233 ⟨rfl, by decide, by decide⟩ rfl rfl rfl (show CT mX5_standOf _ _ (PE (some (σ 13 (b * nI 8))) _) from by have h := k_X5_standOf (σ := σ) (v := b) (k := nI 0) hvb hk0; rw [add_n0] at h; exact h) ?_
    try simp (disch := decide) only [up_k, up_s, up_f, s_set_0]
    refine tr_istore eX6_swap_37 (by decide) rfl ?_
    refine tr_aload_n eX6_swap_39 rfl ?_
    refine tr_getR eX6_swap_40 fk_X6_28 rfl rfl ?_
    refine tr_iload_n eX6_swap_43 rfl ?_
    refine tr_ce1 eX6_swap_44 zv_X2_sendAway zi_X2_sendAway lk_X6_236 ⟨rfl, by decide, by decide⟩ rfl rfl rfl (k_X2_sendAway hvb hb') ?_
    try simp (disch := decide) only [up_k, up_s, up_f, s_set_0]
    refine tr_aload_n eX6_swap_47 rfl ?_
    refine tr_iload_n eX6_swap_48 rfl ?_
    refine tr_iload eX6_swap_49 rfl ?_
    refine tr_aload_n eX6_swap_51 rfl ?_
    refine tr_getR eX6_swap_52 fk_X6_19 rfl rfl ?_
    refine tr_iload_n eX6_swap_55 rfl ?_
    refine tr_iconst eX6_swap_56 (nI 0) ci_0 ?_
    refine tr_ce2 eX6_swap_57 zv_X5_fromOf zi_X5_fromOf lk_X6_239 ⟨rfl, by decide, by decide⟩ rfl rfl rfl (show CT mX5_fromOf _ _ (PE (some (σ 14 (a * nI 8))) _) from by have h := k_X5_fromOf (σ := (up σ 26 b (nI 1))) (v := a) (k := nI 0) hva hk0; rw [add_n0] at h; exact h) ?_
    try simp (disch := decide) only [up_k, up_s, up_f, s_set_0]
    refine tr_aload_n eX6_swap_60 rfl ?_
    refine tr_getR eX6_swap_61 fk_X6_19 rfl rfl ?_
    refine tr_iload_n eX6_swap_64 rfl ?_
    refine tr_iconst eX6_swap_65 (nI 0) ci_0 ?_
    refine tr_ce2 eX6_swap_66 zv_X5_endOf zi_X5_endOf lk_X6_242 ⟨rfl, by decide, by decide⟩ rfl rfl rfl (show CT mX5_endOf _ _ (PE (some (σ 15 (a * nI 8))) _) from by have h := k_X5_endOf (σ := (up σ 26 b (nI 1))) (v := a) (k := nI 0) hva hk0; rw [add_n0] at h; exact h) ?_
    try simp (disch := decide) only [up_k, up_s, up_f, s_set_0]
    refine tr_ce4 eX6_swap_69 zv_X6_isHindered zi_X6_isHindered lk_X6_152 ⟨rfl, by decide, by decide⟩ rfl rfl rfl (show CT mX6_isHindered _ _ (PE (some (bi (¬ (s_sA (aX σ) a b).1 = 0))) (s_hin (up σ 26 b (nI 1)) (s_sA (aX σ) a b) a)) from by have h := k_X6_isHindered (σ := (up σ 26 b (nI 1))) (s := σ 13 (b * nI 8)) (a := σ 14 (a * nI 8)) (b := σ 15 (a * nI 8)) hva hsB hV hV40 hcc hP hP40 hC hC20; rw [s_A2_X hI.1 hz] at h; rw [show s_sA (aX σ) a b = s_A2 (aX σ) a b (σ 13 (b * nI 8)) (σ 14 (a * nI 8)) (σ 15 (a * nI 8)) from by unfold s_sA; rw [aX_k σ (by decide), aX_k σ (by decide), aX_k σ (by decide)]]; exact h) ?_
    try simp (disch := decide) only [up_k, up_s, up_f, s_set_0]
    refine tr_istore eX6_swap_72 (by decide) rfl ?_
    refine tr_aload_n eX6_swap_74 rfl ?_
    refine tr_getR eX6_swap_75 fk_X6_28 rfl rfl ?_
    refine tr_cv0 (r0 := none) (σ1 := fun _ _ => 0) eX6_swap_78 zv_X2_callAllBack zi_X2_callAllBack lk_X6_245 ⟨rfl, by decide, by decide⟩ rfl rfl rfl k_X2_callAllBack (fun r' ρ hq => ?_)
    try simp (disch := decide) only [up_k, up_s, up_f, s_set_0]
    obtain ⟨rfl, hback⟩ := hq
    have hρ : ∀ k, k ≠ 26 → k ≠ 0 → k ≠ 19 → ρ k = σ k := fun k h1 h2 h3 => by rw [hback.1 k h1, s_hin_k h2 h3, up_k h1]
    have hzρ : aw0 ρ := hback.2
    have haρ : aX ρ = aX (s_hin (up σ 26 b (nI 1)) (s_sA (aX σ) a b) a) := aX_off hback.1
    refine tr_iload eX6_swap_81 rfl ?_
    refine tr_if_eq eX6_swap_83 (fun h83 => ?_) (fun h83 => ?_)
    · skip
      try first | replace h83 := bi_0 h83 | replace h83 := bi_n h83
      have g83 := n_not h83
      have haρ2 : aX ρ = aX σ := by rw [haρ, s_hin_t g83, aX_s _ (by decide), aX_reg, aX_26]
      have e13 : aX (up ρ 13 (a * nI 8) (σ 13 (b * nI 8))) = up (aX σ) 13 (a * nI 8) (σ 13 (b * nI 8)) := by rw [aX_u _ (by decide), haρ2]
      have hN2 : iN (aX (up ρ 13 (a * nI 8) (σ 13 (b * nI 8)))) nS nP nC nV := by rw [e13]; exact hI.1
      have hz2 : aw0 (up ρ 13 (a * nI 8) (σ 13 (b * nI 8))) := fun u hu => by rw [up_k (by decide)]; exact hzρ u hu
      have hB : CT mX6_isHindered [.ref 0, .int b, .int (σ 13 (a * nI 8)), .int (σ 14 (b * nI 8)), .int (σ 15 (b * nI 8))] (up ρ 13 (a * nI 8) (σ 13 (b * nI 8))) (PE (some (bi (¬ (s_sB (aX σ) a b).1 = 0))) (s_hin (up ρ 13 (a * nI 8) (σ 13 (b * nI 8))) (s_sB (aX σ) a b) b)) := by
        have h := k_X6_isHindered (σ := (up ρ 13 (a * nI 8) (σ 13 (b * nI 8)))) (s := σ 13 (a * nI 8)) (a := σ 14 (b * nI 8)) (b := σ 15 (b * nI 8)) (n := nP) (nC := nC) (nV := nV) hvb hsA (by rw [up_k (by decide), hρ _ (by decide) (by decide) (by decide)]; exact hV) hV40 (fun u hu => by rw [up_k (by decide), hρ _ (by decide) (by decide) (by decide)]; exact hcc u hu) (by rw [up_k (by decide), hρ _ (by decide) (by decide) (by decide)]; exact hP) hP40 (by rw [up_k (by decide), hρ _ (by decide) (by decide) (by decide)]; exact hC) hC20
        rw [s_A_X hN2 hz2, e13] at h
        rw [show s_sB (aX σ) a b = s_A (up (aX σ) 13 (a * nI 8) (σ 13 (b * nI 8))) b (σ 13 (a * nI 8)) (σ 14 (b * nI 8)) (σ 15 (b * nI 8)) from by unfold s_sB; rw [aX_k σ (by decide), aX_k σ (by decide), aX_k σ (by decide)]]
        exact h
      refine tr_aload_n eX6_swap_93 rfl ?_
      refine tr_getR eX6_swap_94 fk_X6_19 rfl rfl ?_
      refine tr_iload_n eX6_swap_97 rfl ?_
      refine tr_iload eX6_swap_98 rfl ?_
      refine tr_ce2 eX6_swap_100 zv_X5_moveFirstStay zi_X5_moveFirstStay lk_X6_248 ⟨rfl, by decide, by decide⟩ rfl rfl rfl (show CT mX5_moveFirstStay _ _ (PE none (up ρ 13 (a * nI 8) (σ 13 (b * nI 8)))) from k_X5_moveFirstStay (in_slot0 hva)) ?_
      try simp (disch := decide) only [up_k, up_s, up_f, s_set_0]
      refine tr_aload_n eX6_swap_103 rfl ?_
      refine tr_iload_n eX6_swap_104 rfl ?_
      refine tr_iload eX6_swap_105 rfl ?_
      refine tr_aload_n eX6_swap_107 rfl ?_
      refine tr_getR eX6_swap_108 fk_X6_19 rfl rfl ?_
      refine tr_iload_n eX6_swap_111 rfl ?_
      refine tr_iconst eX6_swap_112 (nI 0) ci_0 ?_
      refine tr_ce2 eX6_swap_113 zv_X5_fromOf zi_X5_fromOf lk_X6_239 ⟨rfl, by decide, by decide⟩ rfl rfl rfl (show CT mX5_fromOf _ _ (PE (some (σ 14 (b * nI 8))) _) from by have h := k_X5_fromOf (σ := (up ρ 13 (a * nI 8) (σ 13 (b * nI 8)))) (v := b) (k := nI 0) hvb hk0; rw [add_n0, up_k (by decide), hρ _ (by decide) (by decide) (by decide)] at h; exact h) ?_
      try simp (disch := decide) only [up_k, up_s, up_f, s_set_0]
      refine tr_aload_n eX6_swap_116 rfl ?_
      refine tr_getR eX6_swap_117 fk_X6_19 rfl rfl ?_
      refine tr_iload_n eX6_swap_120 rfl ?_
      refine tr_iconst eX6_swap_121 (nI 0) ci_0 ?_
      refine tr_ce2 eX6_swap_122 zv_X5_endOf zi_X5_endOf lk_X6_242 ⟨rfl, by decide, by decide⟩ rfl rfl rfl (show CT mX5_endOf _ _ (PE (some (σ 15 (b * nI 8))) _) from by have h := k_X5_endOf (σ := (up ρ 13 (a * nI 8) (σ 13 (b * nI 8)))) (v := b) (k := nI 0) hvb hk0; rw [add_n0, up_k (by decide), hρ _ (by decide) (by decide) (by decide)] at h; exact h) ?_
      try simp (disch := decide) only [up_k, up_s, up_f, s_set_0]
      refine tr_ce4 eX6_swap_125 zv_X6_isHindered zi_X6_isHindered lk_X6_152 ⟨rfl, by decide, by decide⟩ rfl rfl rfl (show CT mX6_isHindered _ _ (PE (some (bi (¬ (s_sB (aX σ) a b).1 = 0))) (s_hin (up ρ 13 (a * nI 8) (σ 13 (b * nI 8))) (s_sB (aX σ) a b) b)) from hB) ?_
      try simp (disch := decide) only [up_k, up_s, up_f, s_set_0]
      refine tr_if_eq eX6_swap_128 (fun h128 => ?_) (fun h128 => ?_)
      · skip
        try first | replace h128 := bi_0 h128 | replace h128 := bi_n h128
        have g128 := n_not h128
        refine tr_aload_n eX6_swap_148 rfl ?_
        refine tr_getR eX6_swap_149 fk_X6_19 rfl rfl ?_
        refine tr_iload_n eX6_swap_152 rfl ?_
        refine tr_iload eX6_swap_153 rfl ?_
        refine tr_ce2 eX6_swap_155 zv_X5_moveFirstStay zi_X5_moveFirstStay lk_X6_248 ⟨rfl, by decide, by decide⟩ rfl rfl rfl (show CT mX5_moveFirstStay _ _ (PE none (up (s_hin (up ρ 13 (a * nI 8) (σ 13 (b * nI 8))) (s_sB (aX σ) a b) b) 13 (b * nI 8) (σ 13 (a * nI 8)))) from k_X5_moveFirstStay (in_slot0 hvb)) ?_
        try simp (disch := decide) only [up_k, up_s, up_f, s_set_0]
        refine tr_aload_n eX6_swap_158 rfl ?_
        refine tr_ce0 eX6_swap_159 zv_X6_allow zi_X6_allow lk_X6_120 ⟨rfl, by decide, by decide⟩ rfl rfl rfl k_X6_allow ?_
        try simp (disch := decide) only [up_k, up_s, up_f, s_set_0]
        refine tr_ret eX6_swap_162 rfl (by first | rfl | exact nar_bi _) ?_
        have e : s_swapp (aX σ) a b = s_al (up (up (aX σ) 13 (a * nI 8) (aX σ 13 (b * nI 8))) 13 (b * nI 8) (aX σ 13 (a * nI 8))) := by rw [s_swapp, if_neg (fun q => q h8), if_neg (fun q => q g83), if_neg (fun q => q g128)]
        rw [e]
        refine ⟨rfl, ?_, fun u hu => by rw [up_k (by decide), up_k (by decide), s_hin_k (by decide) (by decide)]; exact hz2 u hu⟩
        rw [aX_f0_7, aX_u _ (by decide), s_hin_t g128, aX_s _ (by decide), aX_reg, e13, aX_k σ (by decide)]
        rfl
      · skip
        try first | replace h128 := bi_0 h128 | replace h128 := bi_n h128
        refine tr_aload_n eX6_swap_131 rfl ?_
        refine tr_getR eX6_swap_132 fk_X6_19 rfl rfl ?_
        refine tr_iload_n eX6_swap_135 rfl ?_
        refine tr_iload eX6_swap_136 rfl ?_
        refine tr_ce2 eX6_swap_138 zv_X5_moveFirstStay zi_X5_moveFirstStay lk_X6_248 ⟨rfl, by decide, by decide⟩ rfl rfl rfl (show CT mX5_moveFirstStay _ _ (PE none (up (s_hin (up ρ 13 (a * nI 8) (σ 13 (b * nI 8))) (s_sB (aX σ) a b) b) 13 (a * nI 8) (σ 13 (a * nI 8)))) from k_X5_moveFirstStay (in_slot0 hva)) ?_
        try simp (disch := decide) only [up_k, up_s, up_f, s_set_0]
        refine tr_aload_n eX6_swap_141 rfl ?_
        refine tr_bipush eX6_swap_142 (nI 8) (by decide) ?_
        refine tr_ce1 eX6_swap_144 zv_X6_deny zi_X6_deny lk_X6_117 ⟨rfl, by decide, by decide⟩ rfl rfl rfl k_X6_deny ?_
        try simp (disch := decide) only [up_k, up_s, up_f, s_set_0]
        refine tr_ret eX6_swap_147 rfl (by first | rfl | exact nar_bi _) ?_
        have e : s_swapp (aX σ) a b = s_dn (s_rs (aX σ) (s_sB (aX σ) a b)) (nI 8) := by rw [s_swapp, if_neg (fun q => q h8), if_neg (fun q => q g83), if_pos h128]
        rw [e]
        refine ⟨rfl, ?_, fun u hu => by rw [up_k (by decide), up_k (by decide), s_hin_k (by decide) (by decide)]; exact hz2 u hu⟩
        rw [aX_f0_7, aX_u _ (by decide), s_hin_f h128, aX_f0_9, aX_f0_8, aX_s _ (by decide), aX_reg, e13]
        simp (disch := decide) only [s_dn, s_rs, up_c0, up_up]
        rw [up_id (k := 13) (i := a * nI 8) (by rw [aX_k σ (by decide)])]
    · skip
      try first | replace h83 := bi_0 h83 | replace h83 := bi_n h83
      refine tr_aload_n eX6_swap_86 rfl ?_
      refine tr_bipush eX6_swap_87 (nI 8) (by decide) ?_
      refine tr_ce1 eX6_swap_89 zv_X6_deny zi_X6_deny lk_X6_117 ⟨rfl, by decide, by decide⟩ rfl rfl rfl k_X6_deny ?_
      try simp (disch := decide) only [up_k, up_s, up_f, s_set_0]
      refine tr_ret eX6_swap_92 rfl (by first | rfl | exact nar_bi _) ?_
      have e : s_swapp (aX σ) a b = s_dn (s_rs (aX σ) (s_sA (aX σ) a b)) (nI 8) := by rw [s_swapp, if_neg (fun q => q h8), if_pos h83]
      rw [e]
      exact ⟨rfl, by rw [aX_f0_7, haρ, s_hin_f h83]; simp (disch := decide) only [s_dn, s_rs, aX_f0_8, aX_f0_9, aX_s, aX_reg], fun u hu => by rw [up_k (by decide)]; exact hzρ u hu⟩
  · skip
    refine tr_aload_n eX6_swap_11 rfl ?_
    refine tr_iload_n eX6_swap_12 rfl ?_
    refine tr_ce1 eX6_swap_13 zv_X6_deny zi_X6_deny lk_X6_117 ⟨rfl, by decide, by decide⟩ rfl rfl rfl k_X6_deny ?_
    try simp (disch := decide) only [up_k, up_s, up_f, s_set_0]
    refine tr_ret eX6_swap_16 rfl (by first | rfl | exact nar_bi _) ?_
    have e : s_swapp (aX σ) a b = s_dn (aX σ) (f_sw (aX σ) a b) := by rw [s_swapp, if_pos h8]
    rw [e]
    exact ⟨rfl, by rw [aX_f0_7]; rfl, hz⟩

theorem cnt_back {μ : tSt} {a b : Int32} (hab : ¬ a = b) (ha : μ 12 a = nI 1) (hb : μ 12 b = nI 1) : up (up (up (up μ 12 a (nI 0)) 12 b (nI 0)) 12 a (nI 1)) 12 b (nI 1) = μ := by
  funext k i
  by_cases hk : k = 12
  · subst hk
    simp only [up_at]
    by_cases h1 : i = b
    · rw [if_pos h1, h1, hb]
    · by_cases h2 : i = a
      · rw [if_neg h1, if_pos h2, h2, ha]
      · rw [if_neg h1, if_neg h2, if_neg h1, if_neg h2]
  · rw [up_k hk, up_k hk, up_k hk, up_k hk]
theorem up_13_12 {μ : tSt} {i j x y : Int32} : up (up μ 13 i x) 12 j y = up (up μ 12 j y) 13 i x := up_ck (by decide)
theorem s_A2_M {τ ρ : tSt} {nS nP nC nV : Nat} (h : iN (aM τ) nS nP nC nV) {a b : Int32} (hk : ∀ k, k ≠ 0 → k ≤ 15 → k ≠ 12 → ρ k = τ k) (h12 : ρ 12 = up (up τ 12 a (nI 0)) 12 b (nI 0) 12) (s x y : Int32) :
    s_ag ρ nP nC nV (s_ne a) (s_kind ρ a) (s_wing ρ a) (s_need ρ a) s x y = s_A2 (aM τ) a b s x y := by
  have eA : s_A2 (aM τ) a b s x y = s_ag (aM τ) nP nC nV (fun u => s_ne a u && s_ne b u) (s_kind (aM τ) a) (s_wing (aM τ) a) (s_need (aM τ) a) s x y := by
    unfold s_A2
    rw [tn_of h.2.1.1 (by have := h.2.1.2; omega), tn_of h.2.2.1.1 (by have := h.2.2.1.2; omega), tn_of h.2.2.2.1 (by have := h.2.2.2.2; omega)]
  have e10 := hk 10 (by decide) (by decide) (by decide)
  have e11 := hk 11 (by decide) (by decide) (by decide)
  rw [eA, s_kind_aM, s_wing_aM, s_need_aM, show s_kind ρ a = s_kind τ a from by rw [s_kind, e10]; rfl, show s_wing ρ a = s_wing τ a from by rw [s_wing, e10]; rfl, show s_need ρ a = s_need τ a from by rw [s_need, e10, e11]; rfl]
  refine s_ag_void (fun k h1 h2 h3 => ?_) (fun u hu => ?_) ..
  · rw [hk k h1 h2 h3, aM_k τ ⟨h1, by omega⟩]
  · rw [h12, aM_k τ (by decide)]
    by_cases ha : nI u = a
    · right; simp [s_ne, ha]
    · by_cases hb : nI u = b
      · right
        rw [up_at, if_pos hb]
        exact ⟨Or.inr rfl, Or.inl (by simp [s_ne, hb])⟩
      · left
        rw [up_at, if_neg hb, up_at, if_neg ha]
        simp [s_ne, ha, hb]
theorem s_B_M {τ ρ : tSt} {nS nP nC nV : Nat} (h : iN (aM τ) nS nP nC nV) {a b z : Int32} (hk : ∀ k, k ≠ 0 → k ≤ 15 → k ≠ 12 → k ≠ 13 → ρ k = τ k) (h13 : ρ 13 = up τ 13 (a * nI 8) z 13) (h12 : ∀ i, ¬ i = b → ρ 12 i = τ 12 i) (s x y : Int32) :
    s_ag ρ nP nC nV (s_ne b) (s_kind ρ b) (s_wing ρ b) (s_need ρ b) s x y = s_A (up (aM τ) 13 (a * nI 8) z) b s x y := by
  have e10 := hk 10 (by decide) (by decide) (by decide) (by decide)
  have e11 := hk 11 (by decide) (by decide) (by decide) (by decide)
  rw [s_A_of (μ := up (aM τ) 13 (a * nI 8) z) (nS := nS) (nP := nP) (nC := nC) (nV := nV) h]
  rw [show s_kind (up (aM τ) 13 (a * nI 8) z) b = s_kind τ b from s_kind_aM τ b, show s_wing (up (aM τ) 13 (a * nI 8) z) b = s_wing τ b from s_wing_aM τ b, show s_need (up (aM τ) 13 (a * nI 8) z) b = s_need τ b from s_need_aM τ b]
  rw [show s_kind ρ b = s_kind τ b from by rw [s_kind, e10]; rfl, show s_wing ρ b = s_wing τ b from by rw [s_wing, e10]; rfl, show s_need ρ b = s_need τ b from by rw [s_need, e10, e11]; rfl]
  refine s_ag_void (fun k h1 h2 h3 => ?_) (fun u hu => ?_) ..
  · by_cases hk13 : k = 13
    · subst hk13; rw [h13]; funext i; simp only [up_at]; rw [aM_k τ (by decide)]
    · rw [hk k h1 h2 h3 hk13, up_k hk13, aM_k τ ⟨h1, by omega⟩]
  · by_cases hb : nI u = b
    · right; simp [s_ne, hb]
    · left; rw [h12 _ hb, up_k (by decide), aM_k τ (by decide)]; exact ⟨rfl, rfl⟩
theorem cOK_up {μ : tSt} (h : cOK μ) {a x : Int32} (hx : x = nI 0 ∨ x = nI 1) : cOK (up μ 12 a x) := fun u hu => by
  rw [up_at]
  by_cases e : nI u = a
  · rw [if_pos e]
    rcases hx with rfl | rfl
    · exact ⟨0, by decide, rfl⟩
    · exact ⟨1, by decide, rfl⟩
  · rw [if_neg e]; exact h u hu
theorem sOK_up0 {μ : tSt} (h : sOK μ) {a : Int32} : sOK (up μ 12 a (nI 0)) := fun u k hu hk h8 => by
  rw [up_at] at hk
  by_cases e : nI u = a
  · rw [if_pos e] at hk; exact absurd hk (by rw [n0]; exact nI_pos (by omega))
  · rw [if_neg e] at hk; exact h u k hu hk h8
theorem sOK_le {μ ρ : tSt} (h : sOK μ) (h14 : ρ 14 = μ 14) (h15 : ρ 15 = μ 15) (h12 : ∀ u k : Nat, nI k < ρ 12 (nI u) → nI k < μ 12 (nI u)) : sOK ρ := fun u k hu hk h8 => by
  rw [h14, h15]; exact h u k hu (h12 u k hk) h8
theorem k_X7_swap {τ : tSt} {nS nP nC nV : Nat} {a b : Int32} (hI : iA (aM τ) nS nP nC nV) : CT mX7_swap [.ref 0, .int a, .int b] τ (QM (s_swapp (aM τ) a b)) := by
  have hI0 := hI.1
  have hS := hI0.1.1
  rw [aM_0] at hS
  have hP := hI0.2.1.1
  rw [aM_1] at hP
  have hC := hI0.2.2.1.1
  rw [aM_2] at hC
  have hV := hI0.2.2.2.1
  rw [aM_3] at hV
  have hS24 := hI0.1.2
  have hP40 := hI0.2.1.2
  have hC20 := hI0.2.2.1.2
  have hV40 := hI0.2.2.2.2
  refine CT.of2 5 (by decide) rfl rfl ?_
  refine tr_aload_n eX7_swap_0 rfl ?_
  refine tr_aload_n eX7_swap_1 rfl ?_
  refine tr_iload_n eX7_swap_2 rfl ?_
  refine tr_ce1 eX7_swap_3 zv_X7_isVisit zi_X7_isVisit lk_X7_113 ⟨rfl, by decide, by decide⟩ rfl rfl rfl k_X7_isVisit ?_
  refine tr_if_eq eX7_swap_6 (fun h6 => ?_) (fun h6 => ?_)
  · skip
    try first | replace h6 := bi_0 h6 | replace h6 := bi_n h6
    refine tr_iconst eX7_swap_22 (nI 2) ci_2 ?_
    refine tr_goto eX7_swap_23 ?_
    refine tr_put eX7_swap_93 fp_X7_80 rfl rfl ?_
    refine tr_aload_n eX7_swap_96 rfl ?_
    refine tr_getI eX7_swap_97 fk_X7_80 rfl rfl ?_
    try simp (disch := decide) only [up_k, up_s, up_f, s_set_0]
    refine tr_if_le eX7_swap_100 (fun h100 => absurd h100 (by decide)) (fun _ => ?_)
    refine tr_iconst eX7_swap_103 (nI 0) ci_0 ?_
    refine tr_ret eX7_swap_104 rfl (by first | rfl | exact nar_bi _) ?_
    have hf : f_sw (aM τ) a b = nI 2 := by simp (disch := decide) only [f_sw, up_c0, up_65, s_nst, s_nvi, s_kind_aM, s_wing_aM, s_in_aM, s_out_aM, s_need_aM, s_unk_aM, s_put_aM, aM_0, aM_1, aM_2, aM_3, aM_4, aM_5, aM_6, aM_7, aM_8, aM_9, aM_f0_3, aM_f0_4, aM_f0_5, aM_f0_6, aM_f0_8, aM_f0_7, aM_f0_0, aM_f0_1, aM_f0_2, aM_f0_34, aM_f0_24, aM_f0_26, aM_f0_29, aM_f0_30, aM_k]; simp_all [n0, le_nlt, -Int32.not_lt, -Int32.not_le]
    have e : s_swapp (aM τ) a b = s_dn (aM τ) (nI 2) := by rw [s_swapp, if_pos (by rw [hf]; decide), hf]
    rw [e]
    exact ⟨rfl, by simp only [aM_f0_0, s_dn, up_up]⟩
  · skip
    try first | replace h6 := bi_0 h6 | replace h6 := bi_n h6
    refine tr_aload_n eX7_swap_9 rfl ?_
    refine tr_iload_n eX7_swap_10 rfl ?_
    refine tr_ce1 eX7_swap_11 zv_X7_isVisit zi_X7_isVisit lk_X7_113 ⟨rfl, by decide, by decide⟩ rfl rfl rfl k_X7_isVisit ?_
    refine tr_if_eq eX7_swap_14 (fun h14 => ?_) (fun h14 => ?_)
    · skip
      try first | replace h14 := bi_0 h14 | replace h14 := bi_n h14
      refine tr_iconst eX7_swap_22 (nI 2) ci_2 ?_
      refine tr_goto eX7_swap_23 ?_
      refine tr_put eX7_swap_93 fp_X7_80 rfl rfl ?_
      refine tr_aload_n eX7_swap_96 rfl ?_
      refine tr_getI eX7_swap_97 fk_X7_80 rfl rfl ?_
      try simp (disch := decide) only [up_k, up_s, up_f, s_set_0]
      refine tr_if_le eX7_swap_100 (fun h100 => absurd h100 (by decide)) (fun _ => ?_)
      refine tr_iconst eX7_swap_103 (nI 0) ci_0 ?_
      refine tr_ret eX7_swap_104 rfl (by first | rfl | exact nar_bi _) ?_
      have hf : f_sw (aM τ) a b = nI 2 := by simp (disch := decide) only [f_sw, up_c0, up_65, s_nst, s_nvi, s_kind_aM, s_wing_aM, s_in_aM, s_out_aM, s_need_aM, s_unk_aM, s_put_aM, aM_0, aM_1, aM_2, aM_3, aM_4, aM_5, aM_6, aM_7, aM_8, aM_9, aM_f0_3, aM_f0_4, aM_f0_5, aM_f0_6, aM_f0_8, aM_f0_7, aM_f0_0, aM_f0_1, aM_f0_2, aM_f0_34, aM_f0_24, aM_f0_26, aM_f0_29, aM_f0_30, aM_k]; simp_all [n0, le_nlt, -Int32.not_lt, -Int32.not_le]
      have e : s_swapp (aM τ) a b = s_dn (aM τ) (nI 2) := by rw [s_swapp, if_pos (by rw [hf]; decide), hf]
      rw [e]
      exact ⟨rfl, by simp only [aM_f0_0, s_dn, up_up]⟩
    · skip
      try first | replace h14 := bi_0 h14 | replace h14 := bi_n h14
      have hva : vp_in a 40 := in_has hV hV40 (by decide) h6
      have hvb : vp_in b 40 := in_has hV hV40 (by decide) h14
      refine tr_iload_n eX7_swap_17 rfl ?_
      refine tr_iload_n eX7_swap_18 rfl ?_
      refine tr_icmp_ne eX7_swap_19 (fun h19 => ?_) (fun h19 => ?_)
      · skip
        refine tr_aload_n eX7_swap_26 rfl ?_
        refine tr_iload_n eX7_swap_27 rfl ?_
        refine tr_ce1 eX7_swap_28 zv_X7_isUnknown zi_X7_isUnknown lk_X7_172 ⟨rfl, by decide, by decide⟩ rfl rfl rfl (k_X7_isUnknown (by first | with_reducible assumption | with_reducible exact in_slot (by with_reducible assumption) (by with_reducible assumption) | with_reducible exact in_row _ (by decide) (by with_reducible assumption) | with_reducible exact in_row0 (by with_reducible assumption) | with_reducible exact in_slot0 (by with_reducible assumption) | (simp (disch := decide) only [up_k, up_s, up_f] <;> with_reducible assumption))) ?_
        refine tr_if_ne eX7_swap_31 (fun h31 => ?_) (fun h31 => ?_)
        · skip
          try first | replace h31 := bi_0 h31 | replace h31 := bi_n h31
          refine tr_iconst eX7_swap_42 (nI 5) ci_5 ?_
          refine tr_goto eX7_swap_43 ?_
          refine tr_put eX7_swap_93 fp_X7_80 rfl rfl ?_
          refine tr_aload_n eX7_swap_96 rfl ?_
          refine tr_getI eX7_swap_97 fk_X7_80 rfl rfl ?_
          try simp (disch := decide) only [up_k, up_s, up_f, s_set_0]
          refine tr_if_le eX7_swap_100 (fun h100 => absurd h100 (by decide)) (fun _ => ?_)
          refine tr_iconst eX7_swap_103 (nI 0) ci_0 ?_
          refine tr_ret eX7_swap_104 rfl (by first | rfl | exact nar_bi _) ?_
          have hf : f_sw (aM τ) a b = nI 5 := by simp (disch := decide) only [f_sw, up_c0, up_65, s_nst, s_nvi, s_kind_aM, s_wing_aM, s_in_aM, s_out_aM, s_need_aM, s_unk_aM, s_put_aM, aM_0, aM_1, aM_2, aM_3, aM_4, aM_5, aM_6, aM_7, aM_8, aM_9, aM_f0_3, aM_f0_4, aM_f0_5, aM_f0_6, aM_f0_8, aM_f0_7, aM_f0_0, aM_f0_1, aM_f0_2, aM_f0_34, aM_f0_24, aM_f0_26, aM_f0_29, aM_f0_30, aM_k]; simp_all [n0, le_nlt, -Int32.not_lt, -Int32.not_le]
          have e : s_swapp (aM τ) a b = s_dn (aM τ) (nI 5) := by rw [s_swapp, if_pos (by rw [hf]; decide), hf]
          rw [e]
          exact ⟨rfl, by simp only [aM_f0_0, s_dn, up_up]⟩
        · skip
          try first | replace h31 := bi_0 h31 | replace h31 := bi_n h31
          refine tr_aload_n eX7_swap_34 rfl ?_
          refine tr_iload_n eX7_swap_35 rfl ?_
          refine tr_ce1 eX7_swap_36 zv_X7_isUnknown zi_X7_isUnknown lk_X7_172 ⟨rfl, by decide, by decide⟩ rfl rfl rfl (k_X7_isUnknown (by first | with_reducible assumption | with_reducible exact in_slot (by with_reducible assumption) (by with_reducible assumption) | with_reducible exact in_row _ (by decide) (by with_reducible assumption) | with_reducible exact in_row0 (by with_reducible assumption) | with_reducible exact in_slot0 (by with_reducible assumption) | (simp (disch := decide) only [up_k, up_s, up_f] <;> with_reducible assumption))) ?_
          refine tr_if_eq eX7_swap_39 (fun h39 => ?_) (fun h39 => ?_)
          · skip
            try first | replace h39 := bi_0 h39 | replace h39 := bi_n h39
            refine tr_aload_n eX7_swap_46 rfl ?_
            refine tr_getR eX7_swap_47 fk_X7_50 rfl rfl ?_
            refine tr_iload_n eX7_swap_50 rfl ?_
            refine tr_iald eX7_swap_51 rfl (by first | with_reducible assumption | with_reducible exact in_slot (by with_reducible assumption) (by with_reducible assumption) | with_reducible exact in_row _ (by decide) (by with_reducible assumption) | with_reducible exact in_row0 (by with_reducible assumption) | with_reducible exact in_slot0 (by with_reducible assumption) | (simp (disch := decide) only [up_k, up_s, up_f] <;> with_reducible assumption)) ?_
            refine tr_iconst eX7_swap_52 (nI 1) ci_1 ?_
            refine tr_icmp_ne eX7_swap_53 (fun h53 => ?_) (fun h53 => ?_)
            · skip
              refine tr_bipush eX7_swap_66 (nI 6) (by decide) ?_
              refine tr_goto eX7_swap_68 ?_
              refine tr_put eX7_swap_93 fp_X7_80 rfl rfl ?_
              refine tr_aload_n eX7_swap_96 rfl ?_
              refine tr_getI eX7_swap_97 fk_X7_80 rfl rfl ?_
              try simp (disch := decide) only [up_k, up_s, up_f, s_set_0]
              refine tr_if_le eX7_swap_100 (fun h100 => absurd h100 (by decide)) (fun _ => ?_)
              refine tr_iconst eX7_swap_103 (nI 0) ci_0 ?_
              refine tr_ret eX7_swap_104 rfl (by first | rfl | exact nar_bi _) ?_
              have hf : f_sw (aM τ) a b = nI 6 := by simp (disch := decide) only [f_sw, up_c0, up_65, s_nst, s_nvi, s_kind_aM, s_wing_aM, s_in_aM, s_out_aM, s_need_aM, s_unk_aM, s_put_aM, aM_0, aM_1, aM_2, aM_3, aM_4, aM_5, aM_6, aM_7, aM_8, aM_9, aM_f0_3, aM_f0_4, aM_f0_5, aM_f0_6, aM_f0_8, aM_f0_7, aM_f0_0, aM_f0_1, aM_f0_2, aM_f0_34, aM_f0_24, aM_f0_26, aM_f0_29, aM_f0_30, aM_k]; simp_all [n0, le_nlt, -Int32.not_lt, -Int32.not_le]
              have e : s_swapp (aM τ) a b = s_dn (aM τ) (nI 6) := by rw [s_swapp, if_pos (by rw [hf]; decide), hf]
              rw [e]
              exact ⟨rfl, by simp only [aM_f0_0, s_dn, up_up]⟩
            · skip
              refine tr_aload_n eX7_swap_56 rfl ?_
              refine tr_getR eX7_swap_57 fk_X7_50 rfl rfl ?_
              refine tr_iload_n eX7_swap_60 rfl ?_
              refine tr_iald eX7_swap_61 rfl (by first | with_reducible assumption | with_reducible exact in_slot (by with_reducible assumption) (by with_reducible assumption) | with_reducible exact in_row _ (by decide) (by with_reducible assumption) | with_reducible exact in_row0 (by with_reducible assumption) | with_reducible exact in_slot0 (by with_reducible assumption) | (simp (disch := decide) only [up_k, up_s, up_f] <;> with_reducible assumption)) ?_
              refine tr_iconst eX7_swap_62 (nI 1) ci_1 ?_
              refine tr_icmp_eq eX7_swap_63 (fun h63 => ?_) (fun h63 => ?_)
              · skip
                refine tr_aload_n eX7_swap_71 rfl ?_
                refine tr_iload_n eX7_swap_72 rfl ?_
                refine tr_ce1 eX7_swap_73 zv_X7_hasBegun zi_X7_hasBegun lk_X7_175 ⟨rfl, by decide, by decide⟩ rfl rfl rfl (k_X7_hasBegun (by first | with_reducible assumption | with_reducible exact in_slot (by with_reducible assumption) (by with_reducible assumption) | with_reducible exact in_row _ (by decide) (by with_reducible assumption) | with_reducible exact in_row0 (by with_reducible assumption) | with_reducible exact in_slot0 (by with_reducible assumption) | (simp (disch := decide) only [up_k, up_s, up_f] <;> with_reducible assumption))) ?_
                refine tr_if_ne eX7_swap_76 (fun h76 => ?_) (fun h76 => ?_)
                · skip
                  try first | replace h76 := bi_0 h76 | replace h76 := bi_n h76
                  refine tr_bipush eX7_swap_87 (nI 7) (by decide) ?_
                  refine tr_goto eX7_swap_89 ?_
                  refine tr_put eX7_swap_93 fp_X7_80 rfl rfl ?_
                  refine tr_aload_n eX7_swap_96 rfl ?_
                  refine tr_getI eX7_swap_97 fk_X7_80 rfl rfl ?_
                  try simp (disch := decide) only [up_k, up_s, up_f, s_set_0]
                  refine tr_if_le eX7_swap_100 (fun h100 => absurd h100 (by decide)) (fun _ => ?_)
                  refine tr_iconst eX7_swap_103 (nI 0) ci_0 ?_
                  refine tr_ret eX7_swap_104 rfl (by first | rfl | exact nar_bi _) ?_
                  have hf : f_sw (aM τ) a b = nI 7 := by simp (disch := decide) only [f_sw, up_c0, up_65, s_nst, s_nvi, s_kind_aM, s_wing_aM, s_in_aM, s_out_aM, s_need_aM, s_unk_aM, s_put_aM, aM_0, aM_1, aM_2, aM_3, aM_4, aM_5, aM_6, aM_7, aM_8, aM_9, aM_f0_3, aM_f0_4, aM_f0_5, aM_f0_6, aM_f0_8, aM_f0_7, aM_f0_0, aM_f0_1, aM_f0_2, aM_f0_34, aM_f0_24, aM_f0_26, aM_f0_29, aM_f0_30, aM_k]; simp_all [n0, le_nlt, -Int32.not_lt, -Int32.not_le]
                  have e : s_swapp (aM τ) a b = s_dn (aM τ) (nI 7) := by rw [s_swapp, if_pos (by rw [hf]; decide), hf]
                  rw [e]
                  exact ⟨rfl, by simp only [aM_f0_0, s_dn, up_up]⟩
                · skip
                  try first | replace h76 := bi_0 h76 | replace h76 := bi_n h76
                  refine tr_aload_n eX7_swap_79 rfl ?_
                  refine tr_iload_n eX7_swap_80 rfl ?_
                  refine tr_ce1 eX7_swap_81 zv_X7_hasBegun zi_X7_hasBegun lk_X7_175 ⟨rfl, by decide, by decide⟩ rfl rfl rfl (k_X7_hasBegun (by first | with_reducible assumption | with_reducible exact in_slot (by with_reducible assumption) (by with_reducible assumption) | with_reducible exact in_row _ (by decide) (by with_reducible assumption) | with_reducible exact in_row0 (by with_reducible assumption) | with_reducible exact in_slot0 (by with_reducible assumption) | (simp (disch := decide) only [up_k, up_s, up_f] <;> with_reducible assumption))) ?_
                  refine tr_if_eq eX7_swap_84 (fun h84 => ?_) (fun h84 => ?_)
                  · skip
                    try first | replace h84 := bi_0 h84 | replace h84 := bi_n h84
                    have hf : f_sw (aM τ) a b = 0 := by simp (disch := decide) only [f_sw, up_c0, up_65, s_nst, s_nvi, s_kind_aM, s_wing_aM, s_in_aM, s_out_aM, s_need_aM, s_unk_aM, s_put_aM, aM_0, aM_1, aM_2, aM_3, aM_4, aM_5, aM_6, aM_7, aM_8, aM_9, aM_f0_3, aM_f0_4, aM_f0_5, aM_f0_6, aM_f0_8, aM_f0_7, aM_f0_0, aM_f0_1, aM_f0_2, aM_f0_34, aM_f0_24, aM_f0_26, aM_f0_29, aM_f0_30, aM_k]; simp_all [n0, le_nlt, -Int32.not_lt, -Int32.not_le]
                    have hcc := cOK_aM hI.2.1.1
                    have hss := sOK_aM hI.2.1.2.1
                    have hk0 : vp_in (nI 0) 8 := vp_in_nI (by decide) (by decide)
                    have hsA : vp_in (τ 13 (a * nI 8)) 24 := stS0 (gOK_aM hI.2.2.2.1) hS24 hva h53
                    have hsB : vp_in (τ 13 (b * nI 8)) 24 := stS0 (gOK_aM hI.2.2.2.1) hS24 hvb h63
                    have hsa0 := in_slot0 hva
                    have hsb0 := in_slot0 hvb
                    have hA : CT mX7_againstOf [.ref 0, .int a, .int (τ 13 (b * nI 8)), .int (τ 14 (a * nI 8)), .int (τ 15 (a * nI 8))] (up (up (up τ 0 (nI 0) (nI 0)) 12 a (nI 0)) 12 b (nI 0)) (PE (some (s_sA (aM τ) a b).1) (up (up (up (up τ 0 (nI 0) (nI 0)) 12 a (nI 0)) 12 b (nI 0)) 0 (nI 24) (s_sA (aM τ) a b).2)) := by
                      have h := k_X7_againstOf (σ := (up (up (up τ 0 (nI 0) (nI 0)) 12 a (nI 0)) 12 b (nI 0))) (n := nP) (nC := nC) (nV := nV) (s := τ 13 (b * nI 8)) hva (stF0 hss hva h53) hsB hV hV40 (cOK_up (cOK_up hcc (Or.inl rfl)) (Or.inl rfl)) (sOK_up0 (sOK_up0 (μ := up τ 0 (nI 0) (nI 0)) hss)) hP hP40 (pOK_aM hI.2.1.2.2.1) hC hC20 (kOK_aM hI.2.1.2.2.2)
                      rw [s_A2_M (ρ := (up (up (up τ 0 (nI 0) (nI 0)) 12 a (nI 0)) 12 b (nI 0))) (b := b) hI.1 (fun k h1 h2 h3 => by rw [up_k h3, up_k h3, up_k h1]) rfl] at h
                      rw [show s_sA (aM τ) a b = s_A2 (aM τ) a b (τ 13 (b * nI 8)) (τ 14 (a * nI 8)) (τ 15 (a * nI 8)) from by unfold s_sA; rw [aM_k τ (by decide), aM_k τ (by decide), aM_k τ (by decide)]]
                      exact h
                    have hB : CT mX7_againstOf [.ref 0, .int b, .int (τ 13 (a * nI 8)), .int (τ 14 (b * nI 8)), .int (τ 15 (b * nI 8))] (up (up (up (up (up (up τ 0 (nI 0) (nI 0)) 12 a (nI 0)) 12 b (nI 0)) 0 (nI 24) (s_sA (aM τ) a b).2) 13 (a * nI 8) (τ 13 (b * nI 8))) 12 a (nI 1)) (PE (some (s_sB (aM τ) a b).1) (up (up (up (up (up (up (up τ 0 (nI 0) (nI 0)) 12 a (nI 0)) 12 b (nI 0)) 0 (nI 24) (s_sA (aM τ) a b).2) 13 (a * nI 8) (τ 13 (b * nI 8))) 12 a (nI 1)) 0 (nI 24) (s_sB (aM τ) a b).2)) := by
                      have h := k_X7_againstOf (σ := (up (up (up (up (up (up τ 0 (nI 0) (nI 0)) 12 a (nI 0)) 12 b (nI 0)) 0 (nI 24) (s_sA (aM τ) a b).2) 13 (a * nI 8) (τ 13 (b * nI 8))) 12 a (nI 1))) (n := nP) (nC := nC) (nV := nV) (s := τ 13 (a * nI 8)) hvb (stF0 hss hvb h63) hsA hV hV40 (cOK_up (μ := up (up (up (up (up τ 0 (nI 0) (nI 0)) 12 a (nI 0)) 12 b (nI 0)) 0 (nI 24) (s_sA (aM τ) a b).2) 13 (a * nI 8) (τ 13 (b * nI 8))) (cOK_up (cOK_up hcc (Or.inl rfl)) (Or.inl rfl)) (Or.inr rfl)) (sOK_le hss rfl rfl (fun u k hk => by
                        rw [up_at] at hk
                        by_cases e : nI u = a
                        · rw [if_pos e] at hk; rw [e, h53]; exact hk
                        · rw [if_neg e, up_k (by decide), up_k (by decide), up_at] at hk
                          by_cases e2 : nI u = b
                          · rw [if_pos e2] at hk; rw [e2, h63]; exact Int32.lt_trans hk (by decide)
                          · rw [if_neg e2, up_at, if_neg e, up_k (by decide)] at hk; exact hk)) hP hP40 (pOK_aM hI.2.1.2.2.1) hC hC20 (kOK_aM hI.2.1.2.2.2)
                      rw [s_B_M (τ := τ) (ρ := (up (up (up (up (up (up τ 0 (nI 0) (nI 0)) 12 a (nI 0)) 12 b (nI 0)) 0 (nI 24) (s_sA (aM τ) a b).2) 13 (a * nI 8) (τ 13 (b * nI 8))) 12 a (nI 1))) (a := a) (b := b) (z := τ 13 (b * nI 8)) hI.1 (fun k h1 h2 h3 h4 => by rw [up_k h3, up_k h4, up_k h1, up_k h3, up_k h3, up_k h1]) (by rw [up_k (by decide)]; funext i; rw [up_at, up_at]; rfl) (fun i hi => by
                        rw [up_at]
                        by_cases e : i = a
                        · rw [if_pos e, e, h53]
                        · rw [if_neg e, up_k (by decide), up_k (by decide), up_at, if_neg hi, up_at, if_neg e, up_k (by decide)])] at h
                      rw [show s_sB (aM τ) a b = s_A (up (aM τ) 13 (a * nI 8) (τ 13 (b * nI 8))) b (τ 13 (a * nI 8)) (τ 14 (b * nI 8)) (τ 15 (b * nI 8)) from by unfold s_sB; rw [aM_k τ (by decide), aM_k τ (by decide), aM_k τ (by decide)]]
                      exact h
                    refine tr_iconst eX7_swap_92 (nI 0) ci_0 ?_
                    refine tr_put eX7_swap_93 fp_X7_80 rfl rfl ?_
                    refine tr_aload_n eX7_swap_96 rfl ?_
                    refine tr_getI eX7_swap_97 fk_X7_80 rfl rfl ?_
                    try simp (disch := decide) only [up_k, up_s, up_f, s_set_0]
                    refine tr_if_le eX7_swap_100 (fun _ => ?_) (fun h100 => absurd h100 (by decide))
                    refine tr_bipush eX7_swap_105 (nI 8) (by decide) ?_
                    refine tr_iload_n eX7_swap_107 rfl ?_
                    refine tr_imulC eX7_swap_108 ?_
                    refine tr_istore_n eX7_swap_109 (by decide) rfl ?_
                    refine tr_bipush eX7_swap_110 (nI 8) (by decide) ?_
                    refine tr_iload_n eX7_swap_112 rfl ?_
                    refine tr_imulC eX7_swap_113 ?_
                    refine tr_istore eX7_swap_114 (by decide) rfl ?_
                    refine tr_aload_n eX7_swap_116 rfl ?_
                    refine tr_getR eX7_swap_117 fk_X7_53 rfl rfl ?_
                    refine tr_iload_n eX7_swap_120 rfl ?_
                    refine tr_iald eX7_swap_121 rfl (by first | with_reducible assumption | with_reducible exact in_slot (by with_reducible assumption) (by with_reducible assumption) | with_reducible exact in_row _ (by decide) (by with_reducible assumption) | with_reducible exact in_row0 (by with_reducible assumption) | with_reducible exact in_slot0 (by with_reducible assumption) | (simp (disch := decide) only [up_k, up_s, up_f] <;> with_reducible assumption)) ?_
                    try simp (disch := decide) only [up_k, up_s, up_f, s_set_0]
                    refine tr_istore eX7_swap_122 (by decide) rfl ?_
                    refine tr_aload_n eX7_swap_124 rfl ?_
                    refine tr_getR eX7_swap_125 fk_X7_53 rfl rfl ?_
                    refine tr_iload eX7_swap_128 rfl ?_
                    refine tr_iald eX7_swap_130 rfl (by first | with_reducible assumption | with_reducible exact in_slot (by with_reducible assumption) (by with_reducible assumption) | with_reducible exact in_row _ (by decide) (by with_reducible assumption) | with_reducible exact in_row0 (by with_reducible assumption) | with_reducible exact in_slot0 (by with_reducible assumption) | (simp (disch := decide) only [up_k, up_s, up_f] <;> with_reducible assumption)) ?_
                    try simp (disch := decide) only [up_k, up_s, up_f, s_set_0]
                    refine tr_istore eX7_swap_131 (by decide) rfl ?_
                    refine tr_aload_n eX7_swap_133 rfl ?_
                    refine tr_getR eX7_swap_134 fk_X7_50 rfl rfl ?_
                    refine tr_iload_n eX7_swap_137 rfl ?_
                    refine tr_iconst eX7_swap_138 (nI 0) ci_0 ?_
                    refine tr_iast eX7_swap_139 rfl (by first | with_reducible assumption | with_reducible exact in_slot (by with_reducible assumption) (by with_reducible assumption) | with_reducible exact in_row _ (by decide) (by with_reducible assumption) | with_reducible exact in_row0 (by with_reducible assumption) | with_reducible exact in_slot0 (by with_reducible assumption) | (simp (disch := decide) only [up_k, up_s, up_f] <;> with_reducible assumption)) ?_
                    refine tr_aload_n eX7_swap_140 rfl ?_
                    refine tr_getR eX7_swap_141 fk_X7_50 rfl rfl ?_
                    refine tr_iload_n eX7_swap_144 rfl ?_
                    refine tr_iconst eX7_swap_145 (nI 0) ci_0 ?_
                    refine tr_iast eX7_swap_146 rfl (by first | with_reducible assumption | with_reducible exact in_slot (by with_reducible assumption) (by with_reducible assumption) | with_reducible exact in_row _ (by decide) (by with_reducible assumption) | with_reducible exact in_row0 (by with_reducible assumption) | with_reducible exact in_slot0 (by with_reducible assumption) | (simp (disch := decide) only [up_k, up_s, up_f] <;> with_reducible assumption)) ?_
                    refine tr_aload_n eX7_swap_147 rfl ?_
                    refine tr_aload_n eX7_swap_148 rfl ?_
                    refine tr_iload_n eX7_swap_149 rfl ?_
                    refine tr_iload eX7_swap_150 rfl ?_
                    refine tr_aload_n eX7_swap_152 rfl ?_
                    refine tr_getR eX7_swap_153 fk_X7_56 rfl rfl ?_
                    refine tr_iload_n eX7_swap_156 rfl ?_
                    refine tr_iald eX7_swap_157 rfl (by first | with_reducible assumption | with_reducible exact in_slot (by with_reducible assumption) (by with_reducible assumption) | with_reducible exact in_row _ (by decide) (by with_reducible assumption) | with_reducible exact in_row0 (by with_reducible assumption) | with_reducible exact in_slot0 (by with_reducible assumption) | (simp (disch := decide) only [up_k, up_s, up_f] <;> with_reducible assumption)) ?_
                    try simp (disch := decide) only [up_k, up_s, up_f, s_set_0]
                    refine tr_aload_n eX7_swap_158 rfl ?_
                    refine tr_getR eX7_swap_159 fk_X7_59 rfl rfl ?_
                    refine tr_iload_n eX7_swap_162 rfl ?_
                    refine tr_iald eX7_swap_163 rfl (by first | with_reducible assumption | with_reducible exact in_slot (by with_reducible assumption) (by with_reducible assumption) | with_reducible exact in_row _ (by decide) (by with_reducible assumption) | with_reducible exact in_row0 (by with_reducible assumption) | with_reducible exact in_slot0 (by with_reducible assumption) | (simp (disch := decide) only [up_k, up_s, up_f] <;> with_reducible assumption)) ?_
                    try simp (disch := decide) only [up_k, up_s, up_f, s_set_0]
                    refine tr_ce4 eX7_swap_164 zv_X7_againstOf zi_X7_againstOf lk_X7_165 ⟨rfl, by decide, by decide⟩ rfl rfl rfl hA ?_
                    try simp (disch := decide) only [up_k, up_s, up_f, s_set_0]
                    refine tr_ce1 eX7_swap_167 zv_X7_isAgainst zi_X7_isAgainst lk_X7_181 ⟨rfl, by decide, by decide⟩ rfl rfl rfl k_X7_isAgainst ?_
                    try simp (disch := decide) only [up_k, up_s, up_f, s_set_0]
                    refine tr_istore eX7_swap_170 (by decide) rfl ?_
                    refine tr_iload eX7_swap_172 rfl ?_
                    refine tr_if_ne eX7_swap_174 (fun h174 => ?_) (fun h174 => ?_)
                    · skip
                      try first | replace h174 := bi_0 h174 | replace h174 := bi_n h174
                      rw [if_neg h174]
                      try simp (disch := decide) only [up_k, up_s, up_f]
                      refine tr_aload_n eX7_swap_219 rfl ?_
                      refine tr_getR eX7_swap_220 fk_X7_50 rfl rfl ?_
                      refine tr_iload_n eX7_swap_223 rfl ?_
                      refine tr_iconst eX7_swap_224 (nI 1) ci_1 ?_
                      refine tr_iast eX7_swap_225 rfl (by first | with_reducible assumption | with_reducible exact in_slot (by with_reducible assumption) (by with_reducible assumption) | with_reducible exact in_row _ (by decide) (by with_reducible assumption) | with_reducible exact in_row0 (by with_reducible assumption) | with_reducible exact in_slot0 (by with_reducible assumption) | (simp (disch := decide) only [up_k, up_s, up_f] <;> with_reducible assumption)) ?_
                      refine tr_aload_n eX7_swap_226 rfl ?_
                      refine tr_getR eX7_swap_227 fk_X7_50 rfl rfl ?_
                      refine tr_iload_n eX7_swap_230 rfl ?_
                      refine tr_iconst eX7_swap_231 (nI 1) ci_1 ?_
                      refine tr_iast eX7_swap_232 rfl (by first | with_reducible assumption | with_reducible exact in_slot (by with_reducible assumption) (by with_reducible assumption) | with_reducible exact in_row _ (by decide) (by with_reducible assumption) | with_reducible exact in_row0 (by with_reducible assumption) | with_reducible exact in_slot0 (by with_reducible assumption) | (simp (disch := decide) only [up_k, up_s, up_f] <;> with_reducible assumption)) ?_
                      refine tr_aload_n eX7_swap_233 rfl ?_
                      refine tr_getR eX7_swap_234 fk_X7_53 rfl rfl ?_
                      refine tr_iload_n eX7_swap_237 rfl ?_
                      refine tr_iload eX7_swap_238 rfl ?_
                      refine tr_if_eq eX7_swap_240 (fun h240 => ?_) (fun h240 => ?_)
                      · skip
                        try first | replace h240 := bi_0 h240 | replace h240 := bi_n h240
                        exact absurd h174 h240
                      · skip
                        try first | replace h240 := bi_0 h240 | replace h240 := bi_n h240
                        skip
                        refine tr_iload eX7_swap_243 rfl ?_
                        refine tr_goto eX7_swap_245 ?_
                        refine tr_iast eX7_swap_250 rfl (by first | with_reducible assumption | with_reducible exact in_slot (by with_reducible assumption) (by with_reducible assumption) | with_reducible exact in_row _ (by decide) (by with_reducible assumption) | with_reducible exact in_row0 (by with_reducible assumption) | with_reducible exact in_slot0 (by with_reducible assumption) | (simp (disch := decide) only [up_k, up_s, up_f] <;> with_reducible assumption)) ?_
                        refine tr_aload_n eX7_swap_251 rfl ?_
                        refine tr_getR eX7_swap_252 fk_X7_53 rfl rfl ?_
                        refine tr_iload eX7_swap_255 rfl ?_
                        refine tr_iload eX7_swap_257 rfl ?_
                        refine tr_if_eq eX7_swap_259 (fun h259 => ?_) (fun h259 => ?_)
                        · skip
                          try first | replace h259 := bi_0 h259 | replace h259 := bi_n h259
                          exact absurd h174 h259
                        · skip
                          try first | replace h259 := bi_0 h259 | replace h259 := bi_n h259
                          skip
                          refine tr_iload eX7_swap_262 rfl ?_
                          refine tr_goto eX7_swap_264 ?_
                          refine tr_iast eX7_swap_269 rfl (by first | with_reducible assumption | with_reducible exact in_slot (by with_reducible assumption) (by with_reducible assumption) | with_reducible exact in_row _ (by decide) (by with_reducible assumption) | with_reducible exact in_row0 (by with_reducible assumption) | with_reducible exact in_slot0 (by with_reducible assumption) | (simp (disch := decide) only [up_k, up_s, up_f] <;> with_reducible assumption)) ?_
                          refine tr_aload_n eX7_swap_270 rfl ?_
                          refine tr_iload eX7_swap_271 rfl ?_
                          refine tr_if_eq eX7_swap_273 (fun h273 => ?_) (fun h273 => ?_)
                          · skip
                            try first | replace h273 := bi_0 h273 | replace h273 := bi_n h273
                            exact absurd h174 h273
                          · skip
                            try first | replace h273 := bi_0 h273 | replace h273 := bi_n h273
                            skip
                            refine tr_bipush eX7_swap_276 (nI 8) (by decide) ?_
                            refine tr_goto eX7_swap_278 ?_
                            refine tr_put eX7_swap_282 fp_X7_80 rfl rfl ?_
                            refine tr_iload eX7_swap_285 rfl ?_
                            refine tr_if_ne eX7_swap_287 (fun h287 => ?_) (fun h287 => ?_)
                            · skip
                              try first | replace h287 := bi_0 h287 | replace h287 := bi_n h287
                              skip
                              refine tr_iconst eX7_swap_294 (nI 0) ci_0 ?_
                              refine tr_ret eX7_swap_295 rfl (by first | rfl | exact nar_bi _) ?_
                              have e : s_swapp (aM τ) a b = s_dn (s_rs (aM τ) (s_sA (aM τ) a b)) (nI 8) := by rw [s_swapp, if_neg (fun q => q hf), if_pos h174]
                              rw [e]
                              refine ⟨rfl, ?_⟩
                              simp (disch := decide) only [s_dn, s_rs, aM_u, aM_f0_0, aM_f0_1, aM_f0_2, aM_f0_24, up_c0, up_ci6, up_ci67, up_13_12, up_up]
                              rw [cnt_back (μ := aM τ) h19 (by rw [aM_k τ (by decide)]; exact h53) (by rw [aM_k τ (by decide)]; exact h63), up_id (i := a * nI 8) (by rw [aM_k τ (by decide)]), up_id (i := b * nI 8) (by rw [aM_k τ (by decide)])]
                            · skip
                              try first | replace h287 := bi_0 h287 | replace h287 := bi_n h287
                              exact absurd h174 h287
                    · skip
                      try first | replace h174 := bi_0 h174 | replace h174 := bi_n h174
                      have g174 := n_not h174
                      rw [if_pos g174]
                      refine tr_aload_n eX7_swap_177 rfl ?_
                      refine tr_getR eX7_swap_178 fk_X7_53 rfl rfl ?_
                      refine tr_iload_n eX7_swap_181 rfl ?_
                      refine tr_iload eX7_swap_182 rfl ?_
                      refine tr_iast eX7_swap_184 rfl (by first | with_reducible assumption | with_reducible exact in_slot (by with_reducible assumption) (by with_reducible assumption) | with_reducible exact in_row _ (by decide) (by with_reducible assumption) | with_reducible exact in_row0 (by with_reducible assumption) | with_reducible exact in_slot0 (by with_reducible assumption) | (simp (disch := decide) only [up_k, up_s, up_f] <;> with_reducible assumption)) ?_
                      refine tr_aload_n eX7_swap_185 rfl ?_
                      refine tr_getR eX7_swap_186 fk_X7_50 rfl rfl ?_
                      refine tr_iload_n eX7_swap_189 rfl ?_
                      refine tr_iconst eX7_swap_190 (nI 1) ci_1 ?_
                      refine tr_iast eX7_swap_191 rfl (by first | with_reducible assumption | with_reducible exact in_slot (by with_reducible assumption) (by with_reducible assumption) | with_reducible exact in_row _ (by decide) (by with_reducible assumption) | with_reducible exact in_row0 (by with_reducible assumption) | with_reducible exact in_slot0 (by with_reducible assumption) | (simp (disch := decide) only [up_k, up_s, up_f] <;> with_reducible assumption)) ?_
                      refine tr_aload_n eX7_swap_192 rfl ?_
                      refine tr_aload_n eX7_swap_193 rfl ?_
                      refine tr_iload_n eX7_swap_194 rfl ?_
                      refine tr_iload eX7_swap_195 rfl ?_
                      refine tr_aload_n eX7_swap_197 rfl ?_
                      refine tr_getR eX7_swap_198 fk_X7_56 rfl rfl ?_
                      refine tr_iload eX7_swap_201 rfl ?_
                      refine tr_iald eX7_swap_203 rfl (by first | with_reducible assumption | with_reducible exact in_slot (by with_reducible assumption) (by with_reducible assumption) | with_reducible exact in_row _ (by decide) (by with_reducible assumption) | with_reducible exact in_row0 (by with_reducible assumption) | with_reducible exact in_slot0 (by with_reducible assumption) | (simp (disch := decide) only [up_k, up_s, up_f] <;> with_reducible assumption)) ?_
                      try simp (disch := decide) only [up_k, up_s, up_f, s_set_0]
                      refine tr_aload_n eX7_swap_204 rfl ?_
                      refine tr_getR eX7_swap_205 fk_X7_59 rfl rfl ?_
                      refine tr_iload eX7_swap_208 rfl ?_
                      refine tr_iald eX7_swap_210 rfl (by first | with_reducible assumption | with_reducible exact in_slot (by with_reducible assumption) (by with_reducible assumption) | with_reducible exact in_row _ (by decide) (by with_reducible assumption) | with_reducible exact in_row0 (by with_reducible assumption) | with_reducible exact in_slot0 (by with_reducible assumption) | (simp (disch := decide) only [up_k, up_s, up_f] <;> with_reducible assumption)) ?_
                      try simp (disch := decide) only [up_k, up_s, up_f, s_set_0]
                      refine tr_ce4 eX7_swap_211 zv_X7_againstOf zi_X7_againstOf lk_X7_165 ⟨rfl, by decide, by decide⟩ rfl rfl rfl hB ?_
                      try simp (disch := decide) only [up_k, up_s, up_f, s_set_0]
                      refine tr_ce1 eX7_swap_214 zv_X7_isAgainst zi_X7_isAgainst lk_X7_181 ⟨rfl, by decide, by decide⟩ rfl rfl rfl k_X7_isAgainst ?_
                      try simp (disch := decide) only [up_k, up_s, up_f, s_set_0]
                      refine tr_istore eX7_swap_217 (by decide) rfl ?_
                      refine tr_aload_n eX7_swap_219 rfl ?_
                      refine tr_getR eX7_swap_220 fk_X7_50 rfl rfl ?_
                      refine tr_iload_n eX7_swap_223 rfl ?_
                      refine tr_iconst eX7_swap_224 (nI 1) ci_1 ?_
                      refine tr_iast eX7_swap_225 rfl (by first | with_reducible assumption | with_reducible exact in_slot (by with_reducible assumption) (by with_reducible assumption) | with_reducible exact in_row _ (by decide) (by with_reducible assumption) | with_reducible exact in_row0 (by with_reducible assumption) | with_reducible exact in_slot0 (by with_reducible assumption) | (simp (disch := decide) only [up_k, up_s, up_f] <;> with_reducible assumption)) ?_
                      refine tr_aload_n eX7_swap_226 rfl ?_
                      refine tr_getR eX7_swap_227 fk_X7_50 rfl rfl ?_
                      refine tr_iload_n eX7_swap_230 rfl ?_
                      refine tr_iconst eX7_swap_231 (nI 1) ci_1 ?_
                      refine tr_iast eX7_swap_232 rfl (by first | with_reducible assumption | with_reducible exact in_slot (by with_reducible assumption) (by with_reducible assumption) | with_reducible exact in_row _ (by decide) (by with_reducible assumption) | with_reducible exact in_row0 (by with_reducible assumption) | with_reducible exact in_slot0 (by with_reducible assumption) | (simp (disch := decide) only [up_k, up_s, up_f] <;> with_reducible assumption)) ?_
                      refine tr_aload_n eX7_swap_233 rfl ?_
                      refine tr_getR eX7_swap_234 fk_X7_53 rfl rfl ?_
                      refine tr_iload_n eX7_swap_237 rfl ?_
                      refine tr_iload eX7_swap_238 rfl ?_
                      refine tr_if_eq eX7_swap_240 (fun h240 => ?_) (fun h240 => ?_)
                      · skip
                        try first | replace h240 := bi_0 h240 | replace h240 := bi_n h240
                        have g240 := n_not h240
                        rw [if_pos g240]
                        refine tr_iload eX7_swap_248 rfl ?_
                        refine tr_iast eX7_swap_250 rfl (by first | with_reducible assumption | with_reducible exact in_slot (by with_reducible assumption) (by with_reducible assumption) | with_reducible exact in_row _ (by decide) (by with_reducible assumption) | with_reducible exact in_row0 (by with_reducible assumption) | with_reducible exact in_slot0 (by with_reducible assumption) | (simp (disch := decide) only [up_k, up_s, up_f] <;> with_reducible assumption)) ?_
                        refine tr_aload_n eX7_swap_251 rfl ?_
                        refine tr_getR eX7_swap_252 fk_X7_53 rfl rfl ?_
                        refine tr_iload eX7_swap_255 rfl ?_
                        refine tr_iload eX7_swap_257 rfl ?_
                        refine tr_if_eq eX7_swap_259 (fun h259 => ?_) (fun h259 => ?_)
                        · skip
                          try first | replace h259 := bi_0 h259 | replace h259 := bi_n h259
                          skip
                          refine tr_iload eX7_swap_267 rfl ?_
                          refine tr_iast eX7_swap_269 rfl (by first | with_reducible assumption | with_reducible exact in_slot (by with_reducible assumption) (by with_reducible assumption) | with_reducible exact in_row _ (by decide) (by with_reducible assumption) | with_reducible exact in_row0 (by with_reducible assumption) | with_reducible exact in_slot0 (by with_reducible assumption) | (simp (disch := decide) only [up_k, up_s, up_f] <;> with_reducible assumption)) ?_
                          refine tr_aload_n eX7_swap_270 rfl ?_
                          refine tr_iload eX7_swap_271 rfl ?_
                          refine tr_if_eq eX7_swap_273 (fun h273 => ?_) (fun h273 => ?_)
                          · skip
                            try first | replace h273 := bi_0 h273 | replace h273 := bi_n h273
                            skip
                            refine tr_iconst eX7_swap_281 (nI 0) ci_0 ?_
                            refine tr_put eX7_swap_282 fp_X7_80 rfl rfl ?_
                            refine tr_iload eX7_swap_285 rfl ?_
                            refine tr_if_ne eX7_swap_287 (fun h287 => ?_) (fun h287 => ?_)
                            · skip
                              try first | replace h287 := bi_0 h287 | replace h287 := bi_n h287
                              exact absurd g240 h287
                            · skip
                              try first | replace h287 := bi_0 h287 | replace h287 := bi_n h287
                              skip
                              refine tr_iconst eX7_swap_290 (nI 1) ci_1 ?_
                              refine tr_goto eX7_swap_291 ?_
                              refine tr_ret eX7_swap_295 rfl (by first | rfl | exact nar_bi _) ?_
                              have e : s_swapp (aM τ) a b = s_al (up (up (aM τ) 13 (a * nI 8) (aM τ 13 (b * nI 8))) 13 (b * nI 8) (aM τ 13 (a * nI 8))) := by rw [s_swapp, if_neg (fun q => q hf), if_neg (fun q => q g174), if_neg (fun q => q g240)]
                              rw [e]
                              refine ⟨rfl, ?_⟩
                              simp (disch := decide) only [s_al, aM_u, aM_f0_0, aM_f0_1, aM_f0_2, aM_f0_24, up_c0, up_ci6, up_ci67, up_13_12, up_up]
                              rw [cnt_back (μ := aM τ) h19 (by rw [aM_k τ (by decide)]; exact h53) (by rw [aM_k τ (by decide)]; exact h63), aM_k τ (by decide)]
                          · skip
                            try first | replace h273 := bi_0 h273 | replace h273 := bi_n h273
                            exact absurd g240 h273
                        · skip
                          try first | replace h259 := bi_0 h259 | replace h259 := bi_n h259
                          exact absurd g240 h259
                      · skip
                        try first | replace h240 := bi_0 h240 | replace h240 := bi_n h240
                        rw [if_neg h240]
                        try simp (disch := decide) only [up_k, up_s, up_f]
                        refine tr_iload eX7_swap_243 rfl ?_
                        refine tr_goto eX7_swap_245 ?_
                        refine tr_iast eX7_swap_250 rfl (by first | with_reducible assumption | with_reducible exact in_slot (by with_reducible assumption) (by with_reducible assumption) | with_reducible exact in_row _ (by decide) (by with_reducible assumption) | with_reducible exact in_row0 (by with_reducible assumption) | with_reducible exact in_slot0 (by with_reducible assumption) | (simp (disch := decide) only [up_k, up_s, up_f] <;> with_reducible assumption)) ?_
                        refine tr_aload_n eX7_swap_251 rfl ?_
                        refine tr_getR eX7_swap_252 fk_X7_53 rfl rfl ?_
                        refine tr_iload eX7_swap_255 rfl ?_
                        refine tr_iload eX7_swap_257 rfl ?_
                        refine tr_if_eq eX7_swap_259 (fun h259 => ?_) (fun h259 => ?_)
                        · skip
                          try first | replace h259 := bi_0 h259 | replace h259 := bi_n h259
                          exact absurd h240 h259
                        · skip
                          try first | replace h259 := bi_0 h259 | replace h259 := bi_n h259
                          skip
                          refine tr_iload eX7_swap_262 rfl ?_
                          refine tr_goto eX7_swap_264 ?_
                          refine tr_iast eX7_swap_269 rfl (by first | with_reducible assumption | with_reducible exact in_slot (by with_reducible assumption) (by with_reducible assumption) | with_reducible exact in_row _ (by decide) (by with_reducible assumption) | with_reducible exact in_row0 (by with_reducible assumption) | with_reducible exact in_slot0 (by with_reducible assumption) | (simp (disch := decide) only [up_k, up_s, up_f] <;> with_reducible assumption)) ?_
                          refine tr_aload_n eX7_swap_270 rfl ?_
                          refine tr_iload eX7_swap_271 rfl ?_
                          refine tr_if_eq eX7_swap_273 (fun h273 => ?_) (fun h273 => ?_)
                          · skip
                            try first | replace h273 := bi_0 h273 | replace h273 := bi_n h273
                            exact absurd h240 h273
                          · skip
                            try first | replace h273 := bi_0 h273 | replace h273 := bi_n h273
                            skip
                            refine tr_bipush eX7_swap_276 (nI 8) (by decide) ?_
                            refine tr_goto eX7_swap_278 ?_
                            refine tr_put eX7_swap_282 fp_X7_80 rfl rfl ?_
                            refine tr_iload eX7_swap_285 rfl ?_
                            refine tr_if_ne eX7_swap_287 (fun h287 => ?_) (fun h287 => ?_)
                            · skip
                              try first | replace h287 := bi_0 h287 | replace h287 := bi_n h287
                              skip
                              refine tr_iconst eX7_swap_294 (nI 0) ci_0 ?_
                              refine tr_ret eX7_swap_295 rfl (by first | rfl | exact nar_bi _) ?_
                              have e : s_swapp (aM τ) a b = s_dn (s_rs (aM τ) (s_sB (aM τ) a b)) (nI 8) := by rw [s_swapp, if_neg (fun q => q hf), if_neg (fun q => q g174), if_pos h240]
                              rw [e]
                              refine ⟨rfl, ?_⟩
                              simp (disch := decide) only [s_dn, s_rs, aM_u, aM_f0_0, aM_f0_1, aM_f0_2, aM_f0_24, up_c0, up_ci6, up_ci67, up_13_12, up_up]
                              rw [cnt_back (μ := aM τ) h19 (by rw [aM_k τ (by decide)]; exact h53) (by rw [aM_k τ (by decide)]; exact h63), up_id (i := a * nI 8) (by rw [aM_k τ (by decide)]), up_id (i := b * nI 8) (by rw [aM_k τ (by decide)])]
                            · skip
                              try first | replace h287 := bi_0 h287 | replace h287 := bi_n h287
                              exact absurd h240 h287
                  · skip
                    try first | replace h84 := bi_0 h84 | replace h84 := bi_n h84
                    refine tr_bipush eX7_swap_87 (nI 7) (by decide) ?_
                    refine tr_goto eX7_swap_89 ?_
                    refine tr_put eX7_swap_93 fp_X7_80 rfl rfl ?_
                    refine tr_aload_n eX7_swap_96 rfl ?_
                    refine tr_getI eX7_swap_97 fk_X7_80 rfl rfl ?_
                    try simp (disch := decide) only [up_k, up_s, up_f, s_set_0]
                    refine tr_if_le eX7_swap_100 (fun h100 => absurd h100 (by decide)) (fun _ => ?_)
                    refine tr_iconst eX7_swap_103 (nI 0) ci_0 ?_
                    refine tr_ret eX7_swap_104 rfl (by first | rfl | exact nar_bi _) ?_
                    have hf : f_sw (aM τ) a b = nI 7 := by simp (disch := decide) only [f_sw, up_c0, up_65, s_nst, s_nvi, s_kind_aM, s_wing_aM, s_in_aM, s_out_aM, s_need_aM, s_unk_aM, s_put_aM, aM_0, aM_1, aM_2, aM_3, aM_4, aM_5, aM_6, aM_7, aM_8, aM_9, aM_f0_3, aM_f0_4, aM_f0_5, aM_f0_6, aM_f0_8, aM_f0_7, aM_f0_0, aM_f0_1, aM_f0_2, aM_f0_34, aM_f0_24, aM_f0_26, aM_f0_29, aM_f0_30, aM_k]; simp_all [n0, le_nlt, -Int32.not_lt, -Int32.not_le]
                    have e : s_swapp (aM τ) a b = s_dn (aM τ) (nI 7) := by rw [s_swapp, if_pos (by rw [hf]; decide), hf]
                    rw [e]
                    exact ⟨rfl, by simp only [aM_f0_0, s_dn, up_up]⟩
              · skip
                refine tr_bipush eX7_swap_66 (nI 6) (by decide) ?_
                refine tr_goto eX7_swap_68 ?_
                refine tr_put eX7_swap_93 fp_X7_80 rfl rfl ?_
                refine tr_aload_n eX7_swap_96 rfl ?_
                refine tr_getI eX7_swap_97 fk_X7_80 rfl rfl ?_
                try simp (disch := decide) only [up_k, up_s, up_f, s_set_0]
                refine tr_if_le eX7_swap_100 (fun h100 => absurd h100 (by decide)) (fun _ => ?_)
                refine tr_iconst eX7_swap_103 (nI 0) ci_0 ?_
                refine tr_ret eX7_swap_104 rfl (by first | rfl | exact nar_bi _) ?_
                have hf : f_sw (aM τ) a b = nI 6 := by simp (disch := decide) only [f_sw, up_c0, up_65, s_nst, s_nvi, s_kind_aM, s_wing_aM, s_in_aM, s_out_aM, s_need_aM, s_unk_aM, s_put_aM, aM_0, aM_1, aM_2, aM_3, aM_4, aM_5, aM_6, aM_7, aM_8, aM_9, aM_f0_3, aM_f0_4, aM_f0_5, aM_f0_6, aM_f0_8, aM_f0_7, aM_f0_0, aM_f0_1, aM_f0_2, aM_f0_34, aM_f0_24, aM_f0_26, aM_f0_29, aM_f0_30, aM_k]; simp_all [n0, le_nlt, -Int32.not_lt, -Int32.not_le]
                have e : s_swapp (aM τ) a b = s_dn (aM τ) (nI 6) := by rw [s_swapp, if_pos (by rw [hf]; decide), hf]
                rw [e]
                exact ⟨rfl, by simp only [aM_f0_0, s_dn, up_up]⟩
          · skip
            try first | replace h39 := bi_0 h39 | replace h39 := bi_n h39
            refine tr_iconst eX7_swap_42 (nI 5) ci_5 ?_
            refine tr_goto eX7_swap_43 ?_
            refine tr_put eX7_swap_93 fp_X7_80 rfl rfl ?_
            refine tr_aload_n eX7_swap_96 rfl ?_
            refine tr_getI eX7_swap_97 fk_X7_80 rfl rfl ?_
            try simp (disch := decide) only [up_k, up_s, up_f, s_set_0]
            refine tr_if_le eX7_swap_100 (fun h100 => absurd h100 (by decide)) (fun _ => ?_)
            refine tr_iconst eX7_swap_103 (nI 0) ci_0 ?_
            refine tr_ret eX7_swap_104 rfl (by first | rfl | exact nar_bi _) ?_
            have hf : f_sw (aM τ) a b = nI 5 := by simp (disch := decide) only [f_sw, up_c0, up_65, s_nst, s_nvi, s_kind_aM, s_wing_aM, s_in_aM, s_out_aM, s_need_aM, s_unk_aM, s_put_aM, aM_0, aM_1, aM_2, aM_3, aM_4, aM_5, aM_6, aM_7, aM_8, aM_9, aM_f0_3, aM_f0_4, aM_f0_5, aM_f0_6, aM_f0_8, aM_f0_7, aM_f0_0, aM_f0_1, aM_f0_2, aM_f0_34, aM_f0_24, aM_f0_26, aM_f0_29, aM_f0_30, aM_k]; simp_all [n0, le_nlt, -Int32.not_lt, -Int32.not_le]
            have e : s_swapp (aM τ) a b = s_dn (aM τ) (nI 5) := by rw [s_swapp, if_pos (by rw [hf]; decide), hf]
            rw [e]
            exact ⟨rfl, by simp only [aM_f0_0, s_dn, up_up]⟩
      · skip
        refine tr_iconst eX7_swap_22 (nI 2) ci_2 ?_
        refine tr_goto eX7_swap_23 ?_
        refine tr_put eX7_swap_93 fp_X7_80 rfl rfl ?_
        refine tr_aload_n eX7_swap_96 rfl ?_
        refine tr_getI eX7_swap_97 fk_X7_80 rfl rfl ?_
        try simp (disch := decide) only [up_k, up_s, up_f, s_set_0]
        refine tr_if_le eX7_swap_100 (fun h100 => absurd h100 (by decide)) (fun _ => ?_)
        refine tr_iconst eX7_swap_103 (nI 0) ci_0 ?_
        refine tr_ret eX7_swap_104 rfl (by first | rfl | exact nar_bi _) ?_
        have hf : f_sw (aM τ) a b = nI 2 := by simp (disch := decide) only [f_sw, up_c0, up_65, s_nst, s_nvi, s_kind_aM, s_wing_aM, s_in_aM, s_out_aM, s_need_aM, s_unk_aM, s_put_aM, aM_0, aM_1, aM_2, aM_3, aM_4, aM_5, aM_6, aM_7, aM_8, aM_9, aM_f0_3, aM_f0_4, aM_f0_5, aM_f0_6, aM_f0_8, aM_f0_7, aM_f0_0, aM_f0_1, aM_f0_2, aM_f0_34, aM_f0_24, aM_f0_26, aM_f0_29, aM_f0_30, aM_k]; simp_all [n0, le_nlt, -Int32.not_lt, -Int32.not_le]
        have e : s_swapp (aM τ) a b = s_dn (aM τ) (nI 2) := by rw [s_swapp, if_pos (by rw [hf]; decide), hf]
        rw [e]
        exact ⟨rfl, by simp only [aM_f0_0, s_dn, up_up]⟩

