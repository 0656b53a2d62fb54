theorem up_id {σ : tSt} {k : Nat} {i x : Int32} (h : σ k i = x) : up σ k i x = σ := by
  subst h
  exact up_self σ k i
theorem k_X6_visit {σ : tSt} {nS nP nC nV : Nat} {k w a b d : Int32} (hI : iN (aX σ) nS nP nC nV) : CT mX6_visit [.ref 0, .int k, .int w, .int a, .int b, .int d] σ (QX σ (s_visit (aX σ) k w a b d)) := by
  have hS := hI.1.1
  rw [aX_0] at hS
  have hP := hI.2.1.1
  rw [aX_1] at hP
  have hC := hI.2.2.1.1
  rw [aX_2] at hC
  have hV := hI.2.2.2.1
  rw [aX_3] at hV
  have hS24 := hI.1.2
  have hP40 := hI.2.1.2
  have hC20 := hI.2.2.1.2
  have hV40 := hI.2.2.2.2
  refine CT.of2 0 (by decide) rfl rfl ?_
  refine tr_iload_n eX6_visit_0 rfl ?_
  refine tr_iconst eX6_visit_1 (nI 1) ci_1 ?_
  refine tr_iconst eX6_visit_2 (nI 4) ci_4 ?_
  refine tr_se3 eX6_visit_3 zv_X6_isWithin zs_X6_isWithin lk_X6_70 ⟨rfl, by decide, by decide⟩ rfl k_X6_isWithin ?_
  refine tr_if_eq eX6_visit_6 (fun h6 => ?_) (fun h6 => ?_)
  · skip
    try first | replace h6 := bi_0 h6 | replace h6 := bi_n h6
    refine tr_aload_n eX6_visit_21 rfl ?_
    refine tr_iconst eX6_visit_22 (nI 3) ci_3 ?_
    refine tr_ce1 eX6_visit_23 zv_X6_refuse zi_X6_refuse lk_X6_74 ⟨rfl, by decide, by decide⟩ rfl rfl rfl k_X6_refuse ?_
    try simp (disch := decide) only [up_k, up_s, up_f]
    refine tr_ret eX6_visit_26 rfl rfl ?_
    refine ⟨?_, ?_, rfl⟩ <;> simp (disch := decide) only [s_visit, PE, psh, s_nst, s_nvi, s_kind_aX, s_wing_aX, s_in_aX, s_out_aX, s_need_aX, s_unk_aX, s_put_aX, aX_0, aX_1, aX_2, aX_3, aX_4, aX_5, aX_6, aX_7, aX_8, aX_9, aX_f17_9, aX_f17_10, aX_f17_11, aX_f18_6, aX_f18_7, aX_f0_6, aX_f0_7, aX_f0_8, aX_f0_9, aX_f25_1, aX_u, aX_k, aX_s] <;> simp_all [s_rf, s_gr, s_dn, s_al, n0, add_n0, le_nlt, -Int32.not_lt, -Int32.not_le]
  · skip
    try first | replace h6 := bi_0 h6 | replace h6 := bi_n h6
    refine tr_iload_n eX6_visit_9 rfl ?_
    refine tr_bipush eX6_visit_10 (nI 10) (by decide) ?_
    refine tr_sipush eX6_visit_12 (nI 200) (by decide) ?_
    refine tr_se3 eX6_visit_15 zv_X6_isWithin zs_X6_isWithin lk_X6_70 ⟨rfl, by decide, by decide⟩ rfl k_X6_isWithin ?_
    refine tr_if_ne eX6_visit_18 (fun h18 => ?_) (fun h18 => ?_)
    · skip
      try first | replace h18 := bi_0 h18 | replace h18 := bi_n h18
      refine tr_iload_n eX6_visit_27 rfl ?_
      refine tr_iload eX6_visit_28 rfl ?_
      refine tr_se2 eX6_visit_30 zv_X6_isSpan zs_X6_isSpan lk_X6_106 ⟨rfl, by decide, by decide⟩ rfl k_X6_isSpan ?_
      refine tr_if_eq eX6_visit_33 (fun h33 => ?_) (fun h33 => ?_)
      · skip
        try first | replace h33 := bi_0 h33 | replace h33 := bi_n h33
        refine tr_aload_n eX6_visit_46 rfl ?_
        refine tr_iconst eX6_visit_47 (nI 3) ci_3 ?_
        refine tr_ce1 eX6_visit_48 zv_X6_refuse zi_X6_refuse lk_X6_74 ⟨rfl, by decide, by decide⟩ rfl rfl rfl k_X6_refuse ?_
        try simp (disch := decide) only [up_k, up_s, up_f]
        refine tr_ret eX6_visit_51 rfl rfl ?_
        refine ⟨?_, ?_, rfl⟩ <;> simp (disch := decide) only [s_visit, PE, psh, s_nst, s_nvi, s_kind_aX, s_wing_aX, s_in_aX, s_out_aX, s_need_aX, s_unk_aX, s_put_aX, aX_0, aX_1, aX_2, aX_3, aX_4, aX_5, aX_6, aX_7, aX_8, aX_9, aX_f17_9, aX_f17_10, aX_f17_11, aX_f18_6, aX_f18_7, aX_f0_6, aX_f0_7, aX_f0_8, aX_f0_9, aX_f25_1, aX_u, aX_k, aX_s] <;> simp_all [s_rf, s_gr, s_dn, s_al, n0, add_n0, le_nlt, -Int32.not_lt, -Int32.not_le]
      · skip
        try first | replace h33 := bi_0 h33 | replace h33 := bi_n h33
        refine tr_iload eX6_visit_36 rfl ?_
        refine tr_iconst eX6_visit_38 (nI 0) ci_0 ?_
        refine tr_iconst eX6_visit_39 (nI 2) ci_2 ?_
        refine tr_se3 eX6_visit_40 zv_X6_isWithin zs_X6_isWithin lk_X6_70 ⟨rfl, by decide, by decide⟩ rfl k_X6_isWithin ?_
        refine tr_if_ne eX6_visit_43 (fun h43 => ?_) (fun h43 => ?_)
        · skip
          try first | replace h43 := bi_0 h43 | replace h43 := bi_n h43
          refine tr_aload_n eX6_visit_52 rfl ?_
          refine tr_getR eX6_visit_53 fk_X6_19 rfl rfl ?_
          refine tr_getI eX6_visit_56 fk_X6_124 rfl rfl ?_
          refine tr_bipush eX6_visit_59 (nI 40) (by decide) ?_
          refine tr_icmp_lt eX6_visit_61 (fun h61 => ?_) (fun h61 => ?_)
          · skip
            have g61 := lt_neq h61
            have hin := in_of_ne hV hV40 (by decide) g61
            refine tr_aload_n eX6_visit_70 rfl ?_
            refine tr_aload_n eX6_visit_71 rfl ?_
            refine tr_getR eX6_visit_72 fk_X6_19 rfl rfl ?_
            refine tr_iload_n eX6_visit_75 rfl ?_
            refine tr_iload_n eX6_visit_76 rfl ?_
            refine tr_iload_n eX6_visit_77 rfl ?_
            refine tr_iload eX6_visit_78 rfl ?_
            refine tr_iload eX6_visit_80 rfl ?_
            refine tr_ce5 eX6_visit_82 zv_X5_add zi_X5_add lk_X6_127 ⟨rfl, by decide, by decide⟩ rfl rfl rfl (k_X5_add (by first | with_reducible assumption | with_reducible exact in_slot (by with_reducible assumption) (by with_reducible assumption) | with_reducible exact in_row _ (by decide) (by with_reducible assumption) | with_reducible exact in_row0 (by with_reducible assumption) | with_reducible exact in_slot0 (by with_reducible assumption) | (simp (disch := decide) only [up_k, up_s, up_f] <;> with_reducible assumption))) ?_
            try simp (disch := decide) only [up_k, up_s, up_f]
            refine tr_ce1 eX6_visit_85 zv_X6_grant zi_X6_grant lk_X6_85 ⟨rfl, by decide, by decide⟩ rfl rfl rfl k_X6_grant ?_
            try simp (disch := decide) only [up_k, up_s, up_f]
            refine tr_ret eX6_visit_88 rfl rfl ?_
            refine ⟨?_, ?_, rfl⟩ <;> simp (disch := decide) only [s_visit, PE, psh, s_nst, s_nvi, s_kind_aX, s_wing_aX, s_in_aX, s_out_aX, s_need_aX, s_unk_aX, s_put_aX, aX_0, aX_1, aX_2, aX_3, aX_4, aX_5, aX_6, aX_7, aX_8, aX_9, aX_f17_9, aX_f17_10, aX_f17_11, aX_f18_6, aX_f18_7, aX_f0_6, aX_f0_7, aX_f0_8, aX_f0_9, aX_f25_1, aX_u, aX_k, aX_s] <;> simp_all [s_rf, s_gr, s_dn, s_al, n0, add_n0, le_nlt, -Int32.not_lt, -Int32.not_le]
          · skip
            have g61 := ge_eq hV hV40 (by decide) h61
            refine tr_aload_n eX6_visit_64 rfl ?_
            refine tr_iconst eX6_visit_65 (nI 4) ci_4 ?_
            refine tr_ce1 eX6_visit_66 zv_X6_refuse zi_X6_refuse lk_X6_74 ⟨rfl, by decide, by decide⟩ rfl rfl rfl k_X6_refuse ?_
            try simp (disch := decide) only [up_k, up_s, up_f]
            refine tr_ret eX6_visit_69 rfl rfl ?_
            refine ⟨?_, ?_, rfl⟩ <;> simp (disch := decide) only [s_visit, PE, psh, s_nst, s_nvi, s_kind_aX, s_wing_aX, s_in_aX, s_out_aX, s_need_aX, s_unk_aX, s_put_aX, aX_0, aX_1, aX_2, aX_3, aX_4, aX_5, aX_6, aX_7, aX_8, aX_9, aX_f17_9, aX_f17_10, aX_f17_11, aX_f18_6, aX_f18_7, aX_f0_6, aX_f0_7, aX_f0_8, aX_f0_9, aX_f25_1, aX_u, aX_k, aX_s] <;> simp_all [s_rf, s_gr, s_dn, s_al, n0, add_n0, le_nlt, -Int32.not_lt, -Int32.not_le]
        · skip
          try first | replace h43 := bi_0 h43 | replace h43 := bi_n h43
          refine tr_aload_n eX6_visit_46 rfl ?_
          refine tr_iconst eX6_visit_47 (nI 3) ci_3 ?_
          refine tr_ce1 eX6_visit_48 zv_X6_refuse zi_X6_refuse lk_X6_74 ⟨rfl, by decide, by decide⟩ rfl rfl rfl k_X6_refuse ?_
          try simp (disch := decide) only [up_k, up_s, up_f]
          refine tr_ret eX6_visit_51 rfl rfl ?_
          refine ⟨?_, ?_, rfl⟩ <;> simp (disch := decide) only [s_visit, PE, psh, s_nst, s_nvi, s_kind_aX, s_wing_aX, s_in_aX, s_out_aX, s_need_aX, s_unk_aX, s_put_aX, aX_0, aX_1, aX_2, aX_3, aX_4, aX_5, aX_6, aX_7, aX_8, aX_9, aX_f17_9, aX_f17_10, aX_f17_11, aX_f18_6, aX_f18_7, aX_f0_6, aX_f0_7, aX_f0_8, aX_f0_9, aX_f25_1, aX_u, aX_k, aX_s] <;> simp_all [s_rf, s_gr, s_dn, s_al, n0, add_n0, le_nlt, -Int32.not_lt, -Int32.not_le]
    · skip
      try first | replace h18 := bi_0 h18 | replace h18 := bi_n h18
      refine tr_aload_n eX6_visit_21 rfl ?_
      refine tr_iconst eX6_visit_22 (nI 3) ci_3 ?_
      refine tr_ce1 eX6_visit_23 zv_X6_refuse zi_X6_refuse lk_X6_74 ⟨rfl, by decide, by decide⟩ rfl rfl rfl k_X6_refuse ?_
      try simp (disch := decide) only [up_k, up_s, up_f]
      refine tr_ret eX6_visit_26 rfl rfl ?_
      refine ⟨?_, ?_, rfl⟩ <;> simp (disch := decide) only [s_visit, PE, psh, s_nst, s_nvi, s_kind_aX, s_wing_aX, s_in_aX, s_out_aX, s_need_aX, s_unk_aX, s_put_aX, aX_0, aX_1, aX_2, aX_3, aX_4, aX_5, aX_6, aX_7, aX_8, aX_9, aX_f17_9, aX_f17_10, aX_f17_11, aX_f18_6, aX_f18_7, aX_f0_6, aX_f0_7, aX_f0_8, aX_f0_9, aX_f25_1, aX_u, aX_k, aX_s] <;> simp_all [s_rf, s_gr, s_dn, s_al, n0, add_n0, le_nlt, -Int32.not_lt, -Int32.not_le]

theorem k_X7_visit {τ : tSt} {nS nP nC nV : Nat} {k w a b d : Int32} (hI : iN (aM τ) nS nP nC nV) (hz : ∀ u : Nat, nV ≤ u → u < 40 → τ 12 (nI u) = nI 0) : CT mX7_visit [.ref 0, .int k, .int w, .int a, .int b, .int d] τ (QM (s_visit (aM τ) k w a b d)) := by
  have hS := hI.1.1
  rw [aM_0] at hS
  have hP := hI.2.1.1
  rw [aM_1] at hP
  have hC := hI.2.2.1.1
  rw [aM_2] at hC
  have hV := hI.2.2.2.1
  rw [aM_3] at hV
  have hS24 := hI.1.2
  have hP40 := hI.2.1.2
  have hC20 := hI.2.2.1.2
  have hV40 := hI.2.2.2.2
  refine CT.of2 1 (by decide) rfl rfl ?_
  refine tr_iload_n eX7_visit_0 rfl ?_
  refine tr_iconst eX7_visit_1 (nI 1) ci_1 ?_
  refine tr_icmp_lt eX7_visit_2 (fun h2 => ?_) (fun h2 => ?_)
  · skip
    refine tr_aload_n eX7_visit_43 rfl ?_
    refine tr_iconst eX7_visit_44 (nI 3) ci_3 ?_
    refine tr_ce1 eX7_visit_45 zv_X7_refuse zi_X7_refuse lk_X7_92 ⟨rfl, by decide, by decide⟩ rfl rfl rfl k_X7_refuse ?_
    try simp (disch := decide) only [up_k, up_s, up_f]
    refine tr_ret eX7_visit_48 rfl rfl ?_
    refine ⟨?_, ?_⟩ <;> simp (disch := decide) only [s_visit, PE, psh, up_c0, up_65, s_nst, s_nvi, s_kind_aM, s_wing_aM, s_in_aM, s_out_aM, s_need_aM, s_unk_aM, s_put_aM, aM_0, aM_1, aM_2, aM_3, aM_4, aM_5, aM_6, aM_7, aM_8, aM_9, aM_f0_3, aM_f0_4, aM_f0_5, aM_f0_6, aM_f0_8, aM_f0_7, aM_f0_0, aM_f0_1, aM_f0_2, aM_f0_34, aM_f0_24, aM_f0_26, aM_f0_29, aM_f0_30, aM_u, aM_k, aM_s] <;> simp_all [s_rf, s_gr, s_dn, s_al, n0, add_n0, le_nlt, -Int32.not_lt, -Int32.not_le]
  · skip
    refine tr_iload_n eX7_visit_5 rfl ?_
    refine tr_iconst eX7_visit_6 (nI 4) ci_4 ?_
    refine tr_icmp_gt eX7_visit_7 (fun h7 => ?_) (fun h7 => ?_)
    · skip
      refine tr_aload_n eX7_visit_43 rfl ?_
      refine tr_iconst eX7_visit_44 (nI 3) ci_3 ?_
      refine tr_ce1 eX7_visit_45 zv_X7_refuse zi_X7_refuse lk_X7_92 ⟨rfl, by decide, by decide⟩ rfl rfl rfl k_X7_refuse ?_
      try simp (disch := decide) only [up_k, up_s, up_f]
      refine tr_ret eX7_visit_48 rfl rfl ?_
      refine ⟨?_, ?_⟩ <;> simp (disch := decide) only [s_visit, PE, psh, up_c0, up_65, s_nst, s_nvi, s_kind_aM, s_wing_aM, s_in_aM, s_out_aM, s_need_aM, s_unk_aM, s_put_aM, aM_0, aM_1, aM_2, aM_3, aM_4, aM_5, aM_6, aM_7, aM_8, aM_9, aM_f0_3, aM_f0_4, aM_f0_5, aM_f0_6, aM_f0_8, aM_f0_7, aM_f0_0, aM_f0_1, aM_f0_2, aM_f0_34, aM_f0_24, aM_f0_26, aM_f0_29, aM_f0_30, aM_u, aM_k, aM_s] <;> simp_all [s_rf, s_gr, s_dn, s_al, n0, add_n0, le_nlt, -Int32.not_lt, -Int32.not_le]
    · skip
      refine tr_iload_n eX7_visit_10 rfl ?_
      refine tr_bipush eX7_visit_11 (nI 10) (by decide) ?_
      refine tr_icmp_lt eX7_visit_13 (fun h13 => ?_) (fun h13 => ?_)
      · skip
        refine tr_aload_n eX7_visit_43 rfl ?_
        refine tr_iconst eX7_visit_44 (nI 3) ci_3 ?_
        refine tr_ce1 eX7_visit_45 zv_X7_refuse zi_X7_refuse lk_X7_92 ⟨rfl, by decide, by decide⟩ rfl rfl rfl k_X7_refuse ?_
        try simp (disch := decide) only [up_k, up_s, up_f]
        refine tr_ret eX7_visit_48 rfl rfl ?_
        refine ⟨?_, ?_⟩ <;> simp (disch := decide) only [s_visit, PE, psh, up_c0, up_65, s_nst, s_nvi, s_kind_aM, s_wing_aM, s_in_aM, s_out_aM, s_need_aM, s_unk_aM, s_put_aM, aM_0, aM_1, aM_2, aM_3, aM_4, aM_5, aM_6, aM_7, aM_8, aM_9, aM_f0_3, aM_f0_4, aM_f0_5, aM_f0_6, aM_f0_8, aM_f0_7, aM_f0_0, aM_f0_1, aM_f0_2, aM_f0_34, aM_f0_24, aM_f0_26, aM_f0_29, aM_f0_30, aM_u, aM_k, aM_s] <;> simp_all [s_rf, s_gr, s_dn, s_al, n0, add_n0, le_nlt, -Int32.not_lt, -Int32.not_le]
      · skip
        refine tr_iload_n eX7_visit_16 rfl ?_
        refine tr_sipush eX7_visit_17 (nI 200) (by decide) ?_
        refine tr_icmp_gt eX7_visit_20 (fun h20 => ?_) (fun h20 => ?_)
        · skip
          refine tr_aload_n eX7_visit_43 rfl ?_
          refine tr_iconst eX7_visit_44 (nI 3) ci_3 ?_
          refine tr_ce1 eX7_visit_45 zv_X7_refuse zi_X7_refuse lk_X7_92 ⟨rfl, by decide, by decide⟩ rfl rfl rfl k_X7_refuse ?_
          try simp (disch := decide) only [up_k, up_s, up_f]
          refine tr_ret eX7_visit_48 rfl rfl ?_
          refine ⟨?_, ?_⟩ <;> simp (disch := decide) only [s_visit, PE, psh, up_c0, up_65, s_nst, s_nvi, s_kind_aM, s_wing_aM, s_in_aM, s_out_aM, s_need_aM, s_unk_aM, s_put_aM, aM_0, aM_1, aM_2, aM_3, aM_4, aM_5, aM_6, aM_7, aM_8, aM_9, aM_f0_3, aM_f0_4, aM_f0_5, aM_f0_6, aM_f0_8, aM_f0_7, aM_f0_0, aM_f0_1, aM_f0_2, aM_f0_34, aM_f0_24, aM_f0_26, aM_f0_29, aM_f0_30, aM_u, aM_k, aM_s] <;> simp_all [s_rf, s_gr, s_dn, s_al, n0, add_n0, le_nlt, -Int32.not_lt, -Int32.not_le]
        · skip
          refine tr_iload_n eX7_visit_23 rfl ?_
          refine tr_iload eX7_visit_24 rfl ?_
          refine tr_se2 eX7_visit_26 zv_X7_isSpan zs_X7_isSpan lk_X7_106 ⟨rfl, by decide, by decide⟩ rfl k_X7_isSpan ?_
          refine tr_if_eq eX7_visit_29 (fun h29 => ?_) (fun h29 => ?_)
          · skip
            try first | replace h29 := bi_0 h29 | replace h29 := bi_n h29
            refine tr_aload_n eX7_visit_43 rfl ?_
            refine tr_iconst eX7_visit_44 (nI 3) ci_3 ?_
            refine tr_ce1 eX7_visit_45 zv_X7_refuse zi_X7_refuse lk_X7_92 ⟨rfl, by decide, by decide⟩ rfl rfl rfl k_X7_refuse ?_
            try simp (disch := decide) only [up_k, up_s, up_f]
            refine tr_ret eX7_visit_48 rfl rfl ?_
            refine ⟨?_, ?_⟩ <;> simp (disch := decide) only [s_visit, PE, psh, up_c0, up_65, s_nst, s_nvi, s_kind_aM, s_wing_aM, s_in_aM, s_out_aM, s_need_aM, s_unk_aM, s_put_aM, aM_0, aM_1, aM_2, aM_3, aM_4, aM_5, aM_6, aM_7, aM_8, aM_9, aM_f0_3, aM_f0_4, aM_f0_5, aM_f0_6, aM_f0_8, aM_f0_7, aM_f0_0, aM_f0_1, aM_f0_2, aM_f0_34, aM_f0_24, aM_f0_26, aM_f0_29, aM_f0_30, aM_u, aM_k, aM_s] <;> simp_all [s_rf, s_gr, s_dn, s_al, n0, add_n0, le_nlt, -Int32.not_lt, -Int32.not_le]
          · skip
            try first | replace h29 := bi_0 h29 | replace h29 := bi_n h29
            refine tr_iload eX7_visit_32 rfl ?_
            refine tr_if_lt eX7_visit_34 (fun h34 => ?_) (fun h34 => ?_)
            · skip
              refine tr_aload_n eX7_visit_43 rfl ?_
              refine tr_iconst eX7_visit_44 (nI 3) ci_3 ?_
              refine tr_ce1 eX7_visit_45 zv_X7_refuse zi_X7_refuse lk_X7_92 ⟨rfl, by decide, by decide⟩ rfl rfl rfl k_X7_refuse ?_
              try simp (disch := decide) only [up_k, up_s, up_f]
              refine tr_ret eX7_visit_48 rfl rfl ?_
              refine ⟨?_, ?_⟩ <;> simp (disch := decide) only [s_visit, PE, psh, up_c0, up_65, s_nst, s_nvi, s_kind_aM, s_wing_aM, s_in_aM, s_out_aM, s_need_aM, s_unk_aM, s_put_aM, aM_0, aM_1, aM_2, aM_3, aM_4, aM_5, aM_6, aM_7, aM_8, aM_9, aM_f0_3, aM_f0_4, aM_f0_5, aM_f0_6, aM_f0_8, aM_f0_7, aM_f0_0, aM_f0_1, aM_f0_2, aM_f0_34, aM_f0_24, aM_f0_26, aM_f0_29, aM_f0_30, aM_u, aM_k, aM_s] <;> simp_all [s_rf, s_gr, s_dn, s_al, n0, add_n0, le_nlt, -Int32.not_lt, -Int32.not_le]
            · skip
              refine tr_iload eX7_visit_37 rfl ?_
              refine tr_iconst eX7_visit_39 (nI 2) ci_2 ?_
              refine tr_icmp_le eX7_visit_40 (fun h40 => ?_) (fun h40 => ?_)
              · skip
                refine tr_aload_n eX7_visit_49 rfl ?_
                refine tr_getI eX7_visit_50 fk_X7_89 rfl rfl ?_
                refine tr_bipush eX7_visit_53 (nI 40) (by decide) ?_
                refine tr_icmp_ne eX7_visit_55 (fun h55 => ?_) (fun h55 => ?_)
                · skip
                  have hin := in_of_ne hV hV40 (by decide) h55
                  have hz1 : ∀ ρ : tSt, ρ 12 = τ 12 → up ρ 12 (τ 0 (nI 6)) (nI 0) = ρ := fun ρ h => up_id (by rw [h, hV]; exact hz nV (Nat.le_refl _) (by rcases Nat.lt_or_ge nV 40 with q | q; exact q; exact absurd (by rw [hV, show nV = 40 by omega]) h55))
                  clear hz
                  refine tr_iconst eX7_visit_64 (nI 5) ci_5 ?_
                  refine tr_aload_n eX7_visit_65 rfl ?_
                  refine tr_getI eX7_visit_66 fk_X7_89 rfl rfl ?_
                  refine tr_imulC eX7_visit_69 ?_
                  refine tr_istore eX7_visit_70 (by decide) rfl ?_
                  refine tr_aload_n eX7_visit_72 rfl ?_
                  refine tr_getR eX7_visit_73 fk_X7_47 rfl rfl ?_
                  refine tr_iload eX7_visit_76 rfl ?_
                  refine tr_iload_n eX7_visit_78 rfl ?_
                  refine tr_iast eX7_visit_79 rfl (by first | with_reducible assumption | with_reducible exact in_slot (by with_reducible assumption) (by with_reducible assumption) | with_reducible exact in_row _ (by decide) (by with_reducible assumption) | with_reducible exact in_row0 (by with_reducible assumption) | with_reducible exact in_slot0 (by with_reducible assumption) | (simp (disch := decide) only [up_k, up_s, up_f] <;> with_reducible assumption)) ?_
                  refine tr_aload_n eX7_visit_80 rfl ?_
                  refine tr_getR eX7_visit_81 fk_X7_47 rfl rfl ?_
                  refine tr_iload eX7_visit_84 rfl ?_
                  refine tr_iconst eX7_visit_86 (nI 1) ci_1 ?_
                  refine tr_iadd eX7_visit_87 ?_
                  refine tr_iload_n eX7_visit_88 rfl ?_
                  refine tr_iast eX7_visit_89 rfl (by first | with_reducible assumption | with_reducible exact in_slot (by with_reducible assumption) (by with_reducible assumption) | with_reducible exact in_row _ (by decide) (by with_reducible assumption) | with_reducible exact in_row0 (by with_reducible assumption) | with_reducible exact in_slot0 (by with_reducible assumption) | (simp (disch := decide) only [up_k, up_s, up_f] <;> with_reducible assumption)) ?_
                  refine tr_aload_n eX7_visit_90 rfl ?_
                  refine tr_getR eX7_visit_91 fk_X7_47 rfl rfl ?_
                  refine tr_iload eX7_visit_94 rfl ?_
                  refine tr_iconst eX7_visit_96 (nI 2) ci_2 ?_
                  refine tr_iadd eX7_visit_97 ?_
                  refine tr_iload_n eX7_visit_98 rfl ?_
                  refine tr_iast eX7_visit_99 rfl (by first | with_reducible assumption | with_reducible exact in_slot (by with_reducible assumption) (by with_reducible assumption) | with_reducible exact in_row _ (by decide) (by with_reducible assumption) | with_reducible exact in_row0 (by with_reducible assumption) | with_reducible exact in_slot0 (by with_reducible assumption) | (simp (disch := decide) only [up_k, up_s, up_f] <;> with_reducible assumption)) ?_
                  refine tr_aload_n eX7_visit_100 rfl ?_
                  refine tr_getR eX7_visit_101 fk_X7_47 rfl rfl ?_
                  refine tr_iload eX7_visit_104 rfl ?_
                  refine tr_iconst eX7_visit_106 (nI 3) ci_3 ?_
                  refine tr_iadd eX7_visit_107 ?_
                  refine tr_iload eX7_visit_108 rfl ?_
                  refine tr_iast eX7_visit_110 rfl (by first | with_reducible assumption | with_reducible exact in_slot (by with_reducible assumption) (by with_reducible assumption) | with_reducible exact in_row _ (by decide) (by with_reducible assumption) | with_reducible exact in_row0 (by with_reducible assumption) | with_reducible exact in_slot0 (by with_reducible assumption) | (simp (disch := decide) only [up_k, up_s, up_f] <;> with_reducible assumption)) ?_
                  refine tr_aload_n eX7_visit_111 rfl ?_
                  refine tr_getR eX7_visit_112 fk_X7_47 rfl rfl ?_
                  refine tr_iload eX7_visit_115 rfl ?_
                  refine tr_iconst eX7_visit_117 (nI 4) ci_4 ?_
                  refine tr_iadd eX7_visit_118 ?_
                  refine tr_iload eX7_visit_119 rfl ?_
                  refine tr_iast eX7_visit_121 rfl (by first | with_reducible assumption | with_reducible exact in_slot (by with_reducible assumption) (by with_reducible assumption) | with_reducible exact in_row _ (by decide) (by with_reducible assumption) | with_reducible exact in_row0 (by with_reducible assumption) | with_reducible exact in_slot0 (by with_reducible assumption) | (simp (disch := decide) only [up_k, up_s, up_f] <;> with_reducible assumption)) ?_
                  refine tr_aload_n eX7_visit_122 rfl ?_
                  refine tr_getR eX7_visit_123 fk_X7_44 rfl rfl ?_
                  refine tr_aload_n eX7_visit_126 rfl ?_
                  refine tr_getI eX7_visit_127 fk_X7_89 rfl rfl ?_
                  try simp (disch := decide) only [up_k, up_s, up_f]
                  refine tr_iconst eX7_visit_130 (nI 5) ci_5 ?_
                  refine tr_iast eX7_visit_131 rfl (by first | with_reducible assumption | with_reducible exact in_slot (by with_reducible assumption) (by with_reducible assumption) | with_reducible exact in_row _ (by decide) (by with_reducible assumption) | with_reducible exact in_row0 (by with_reducible assumption) | with_reducible exact in_slot0 (by with_reducible assumption) | (simp (disch := decide) only [up_k, up_s, up_f] <;> with_reducible assumption)) ?_
                  refine tr_aload_n eX7_visit_132 rfl ?_
                  refine tr_getR eX7_visit_133 fk_X7_50 rfl rfl ?_
                  refine tr_aload_n eX7_visit_136 rfl ?_
                  refine tr_getI eX7_visit_137 fk_X7_89 rfl rfl ?_
                  try simp (disch := decide) only [up_k, up_s, up_f]
                  refine tr_iconst eX7_visit_140 (nI 0) ci_0 ?_
                  refine tr_iast eX7_visit_141 rfl (by first | with_reducible assumption | with_reducible exact in_slot (by with_reducible assumption) (by with_reducible assumption) | with_reducible exact in_row _ (by decide) (by with_reducible assumption) | with_reducible exact in_row0 (by with_reducible assumption) | with_reducible exact in_slot0 (by with_reducible assumption) | (simp (disch := decide) only [up_k, up_s, up_f] <;> with_reducible assumption)) ?_
                  rw [hz1 _ (by rfl)]
                  refine tr_aload_n eX7_visit_142 rfl ?_
                  refine tr_dup eX7_visit_143 rfl ?_
                  refine tr_getI eX7_visit_144 fk_X7_89 rfl rfl ?_
                  try simp (disch := decide) only [up_k, up_s, up_f]
                  refine tr_iconst eX7_visit_147 (nI 1) ci_1 ?_
                  refine tr_iadd eX7_visit_148 ?_
                  refine tr_put eX7_visit_149 fp_X7_89 rfl rfl ?_
                  refine tr_aload_n eX7_visit_152 rfl ?_
                  refine tr_aload_n eX7_visit_153 rfl ?_
                  refine tr_getI eX7_visit_154 fk_X7_89 rfl rfl ?_
                  try simp (disch := decide) only [up_k, up_s, up_f]
                  refine tr_iconst eX7_visit_157 (nI 1) ci_1 ?_
                  refine tr_isub eX7_visit_158 ?_
                  refine tr_ce1 eX7_visit_159 zv_X7_gives zi_X7_gives lk_X7_96 ⟨rfl, by decide, by decide⟩ rfl rfl rfl k_X7_gives ?_
                  try simp (disch := decide) only [up_k, up_s, up_f]
                  refine tr_ret eX7_visit_162 rfl rfl ?_
                  refine ⟨?_, ?_⟩ <;> simp (disch := decide) only [s_visit, PE, psh, up_c0, up_65, s_nst, s_nvi, s_kind_aM, s_wing_aM, s_in_aM, s_out_aM, s_need_aM, s_unk_aM, s_put_aM, aM_0, aM_1, aM_2, aM_3, aM_4, aM_5, aM_6, aM_7, aM_8, aM_9, aM_f0_3, aM_f0_4, aM_f0_5, aM_f0_6, aM_f0_8, aM_f0_7, aM_f0_0, aM_f0_1, aM_f0_2, aM_f0_34, aM_f0_24, aM_f0_26, aM_f0_29, aM_f0_30, aM_u, aM_k, aM_s] <;> simp_all [s_rf, s_gr, s_dn, s_al, n0, add_n0, le_nlt, -Int32.not_lt, -Int32.not_le]
                · skip
                  refine tr_aload_n eX7_visit_58 rfl ?_
                  refine tr_iconst eX7_visit_59 (nI 4) ci_4 ?_
                  refine tr_ce1 eX7_visit_60 zv_X7_refuse zi_X7_refuse lk_X7_92 ⟨rfl, by decide, by decide⟩ rfl rfl rfl k_X7_refuse ?_
                  try simp (disch := decide) only [up_k, up_s, up_f]
                  refine tr_ret eX7_visit_63 rfl rfl ?_
                  refine ⟨?_, ?_⟩ <;> simp (disch := decide) only [s_visit, PE, psh, up_c0, up_65, s_nst, s_nvi, s_kind_aM, s_wing_aM, s_in_aM, s_out_aM, s_need_aM, s_unk_aM, s_put_aM, aM_0, aM_1, aM_2, aM_3, aM_4, aM_5, aM_6, aM_7, aM_8, aM_9, aM_f0_3, aM_f0_4, aM_f0_5, aM_f0_6, aM_f0_8, aM_f0_7, aM_f0_0, aM_f0_1, aM_f0_2, aM_f0_34, aM_f0_24, aM_f0_26, aM_f0_29, aM_f0_30, aM_u, aM_k, aM_s] <;> simp_all [s_rf, s_gr, s_dn, s_al, n0, add_n0, le_nlt, -Int32.not_lt, -Int32.not_le]
              · skip
                refine tr_aload_n eX7_visit_43 rfl ?_
                refine tr_iconst eX7_visit_44 (nI 3) ci_3 ?_
                refine tr_ce1 eX7_visit_45 zv_X7_refuse zi_X7_refuse lk_X7_92 ⟨rfl, by decide, by decide⟩ rfl rfl rfl k_X7_refuse ?_
                try simp (disch := decide) only [up_k, up_s, up_f]
                refine tr_ret eX7_visit_48 rfl rfl ?_
                refine ⟨?_, ?_⟩ <;> simp (disch := decide) only [s_visit, PE, psh, up_c0, up_65, s_nst, s_nvi, s_kind_aM, s_wing_aM, s_in_aM, s_out_aM, s_need_aM, s_unk_aM, s_put_aM, aM_0, aM_1, aM_2, aM_3, aM_4, aM_5, aM_6, aM_7, aM_8, aM_9, aM_f0_3, aM_f0_4, aM_f0_5, aM_f0_6, aM_f0_8, aM_f0_7, aM_f0_0, aM_f0_1, aM_f0_2, aM_f0_34, aM_f0_24, aM_f0_26, aM_f0_29, aM_f0_30, aM_u, aM_k, aM_s] <;> simp_all [s_rf, s_gr, s_dn, s_al, n0, add_n0, le_nlt, -Int32.not_lt, -Int32.not_le]

theorem k_X3_empty {σ : tSt} {k j : Nat} (hs : shX[k]? = some (.inr (3, [some j, none]))) : CT mX3_empty [.ref k] σ (PE none (up σ k (nI 1) (nI 0))) := by
  refine CT.of2 0 (by decide) rfl rfl ?_
  refine tr_aload_n eX3_empty_0 rfl ?_
  refine tr_iconst eX3_empty_1 (nI 0) ci_0 ?_
  refine tr_put eX3_empty_2 fp_X3_15 hs rfl ?_
  refine tr_vret eX3_empty_5 rfl ?_
  exact ⟨rfl, rfl⟩

theorem k_X3_memberAt {σ : tSt} {k j : Nat} {i : Int32} {n : Nat} (hs : shX[k]? = some (.inr (3, [some j, none]))) (hj : shX[j]? = some (.inl (false, 40))) (hn : σ k (nI 1) = nI n) (hn40 : n ≤ 40) : CT mX3_memberAt [.ref k, .int i] σ (PE (some (if ¬ i < 0 then (if i < σ k (nI 1) then σ j i else -1) else -1)) σ) := by
  refine CT.of2 0 (by decide) rfl rfl ?_
  refine tr_iload_n eX3_memberAt_0 rfl ?_
  refine tr_if_lt eX3_memberAt_1 (fun h1 => ?_) (fun h1 => ?_)
  · skip
    refine tr_iconst eX3_memberAt_21 (-1) ci_m1 ?_
    refine tr_ret eX3_memberAt_22 rfl rfl ?_
    exact ⟨by simp_all [le_nlt, -Int32.not_lt, -Int32.not_le], rfl⟩
  · skip
    refine tr_iload_n eX3_memberAt_4 rfl ?_
    refine tr_aload_n eX3_memberAt_5 rfl ?_
    refine tr_getI eX3_memberAt_6 fk_X3_15 hs rfl ?_
    refine tr_icmp_ge eX3_memberAt_9 (fun h9 => ?_) (fun h9 => ?_)
    · skip
      refine tr_iconst eX3_memberAt_21 (-1) ci_m1 ?_
      refine tr_ret eX3_memberAt_22 rfl rfl ?_
      exact ⟨by simp_all [le_nlt, -Int32.not_lt, -Int32.not_le], rfl⟩
    · skip
      have hin : vp_in i 40 := in_lt h1 (hn ▸ Int32.not_le.mp h9) hn40 (by decide)
      refine tr_aload_n eX3_memberAt_12 rfl ?_
      refine tr_getR eX3_memberAt_13 fk_X3_9 hs rfl ?_
      refine tr_iload_n eX3_memberAt_16 rfl ?_
      refine tr_iald eX3_memberAt_17 hj (by first | with_reducible assumption | with_reducible exact in_slot (by with_reducible assumption) (by with_reducible assumption) | with_reducible exact in_row _ (by decide) (by with_reducible assumption) | with_reducible exact in_row0 (by with_reducible assumption) | with_reducible exact in_slot0 (by with_reducible assumption) | (simp (disch := decide) only [up_k, up_s, up_f] <;> with_reducible assumption)) ?_
      refine tr_goto eX3_memberAt_18 ?_
      refine tr_ret eX3_memberAt_22 rfl rfl ?_
      exact ⟨by simp_all [le_nlt, -Int32.not_lt, -Int32.not_le], rfl⟩

theorem k_X3_join {σ : tSt} {k j : Nat} {v : Int32} {n : Nat} (hkj : j ≠ k) (hs : shX[k]? = some (.inr (3, [some j, none]))) (hj : shX[j]? = some (.inl (false, 40))) (hn : σ k (nI 1) = nI n) (hn40 : n < 40) : CT mX3_join [.ref k, .int v] σ (PE none (up (up σ j (σ k (nI 1)) v) k (nI 1) (σ k (nI 1) + nI 1))) := by
  refine CT.of2 0 (by decide) rfl rfl ?_
  refine tr_aload_n eX3_join_0 rfl ?_
  refine tr_getI eX3_join_1 fk_X3_15 hs rfl ?_
  refine tr_bipush eX3_join_4 (nI 40) (by decide) ?_
  refine tr_icmp_ge eX3_join_6 (fun h6 => ?_) (fun h6 => ?_)
  · skip
    exact absurd (hn ▸ h6) (nI_ge hn40 (by decide))
  · skip
    have hin : vp_in (σ k (nI 1)) 40 := by rw [hn]; exact vp_in_nI hn40 (by decide)
    refine tr_aload_n eX3_join_9 rfl ?_
    refine tr_getR eX3_join_10 fk_X3_9 hs rfl ?_
    refine tr_aload_n eX3_join_13 rfl ?_
    refine tr_getI eX3_join_14 fk_X3_15 hs rfl ?_
    refine tr_iload_n eX3_join_17 rfl ?_
    refine tr_iast eX3_join_18 hj (by first | with_reducible assumption | with_reducible exact in_slot (by with_reducible assumption) (by with_reducible assumption) | with_reducible exact in_row _ (by decide) (by with_reducible assumption) | with_reducible exact in_row0 (by with_reducible assumption) | with_reducible exact in_slot0 (by with_reducible assumption) | (simp (disch := decide) only [up_k, up_s, up_f] <;> with_reducible assumption)) ?_
    refine tr_aload_n eX3_join_19 rfl ?_
    refine tr_dup eX3_join_20 rfl ?_
    refine tr_getI eX3_join_21 fk_X3_15 hs rfl ?_
    try simp (disch := decide) only [up_k, up_s, up_f]
    rw [up_k (Ne.symm hkj)]
    refine tr_iconst eX3_join_24 (nI 1) ci_1 ?_
    refine tr_iadd eX3_join_25 ?_
    refine tr_put eX3_join_26 fp_X3_15 hs rfl ?_
    refine tr_vret eX3_join_29 rfl ?_
    exact ⟨rfl, rfl⟩

theorem k_X6_changed {σ : tSt} {nS nP nC nV : Nat} {k : Int32} (hI : iN (aX σ) nS nP nC nV) {n : Nat} (hn : σ 25 (nI 1) = nI n) (hn40 : n ≤ 40) : CT mX6_changed [.ref 0, .int k] σ (QX σ (s_changed (aX σ) k)) := by
  have hS := hI.1.1
  rw [aX_0] at hS
  have hP := hI.2.1.1
  rw [aX_1] at hP
  have hC := hI.2.2.1.1
  rw [aX_2] at hC
  have hV := hI.2.2.2.1
  rw [aX_3] at hV
  have hS24 := hI.1.2
  have hP40 := hI.2.1.2
  have hC20 := hI.2.2.1.2
  have hV40 := hI.2.2.2.2
  refine CT.of2 0 (by decide) rfl rfl ?_
  refine tr_aload_n eX6_changed_0 rfl ?_
  refine tr_getR eX6_changed_1 fk_X6_46 rfl rfl ?_
  refine tr_getR eX6_changed_4 fk_X6_218 rfl rfl ?_
  refine tr_iload_n eX6_changed_7 rfl ?_
  refine tr_ce1 eX6_changed_8 zv_X3_memberAt zi_X3_memberAt lk_X6_221 ⟨rfl, by decide, by decide⟩ rfl rfl rfl (k_X3_memberAt rfl rfl hn hn40) ?_
  try simp (disch := decide) only [up_k, up_s, up_f]
  refine tr_ret eX6_changed_11 rfl rfl ?_
  exact ⟨by simp (disch := decide) only [s_changed, aX_9, aX_k], by simp only [s_changed], rfl⟩

theorem k_X7_changed {τ : tSt} {nS nP nC nV : Nat} {k : Int32} (hI : iN (aM τ) nS nP nC nV) {n : Nat} (hn : τ 0 (nI 34) = nI n) (hn40 : n ≤ 40) : CT mX7_changed [.ref 0, .int k] τ (QM (s_changed (aM τ) k)) := by
  have hS := hI.1.1
  rw [aM_0] at hS
  have hP := hI.2.1.1
  rw [aM_1] at hP
  have hC := hI.2.2.1.1
  rw [aM_2] at hC
  have hV := hI.2.2.2.1
  rw [aM_3] at hV
  have hS24 := hI.1.2
  have hP40 := hI.2.1.2
  have hC20 := hI.2.2.1.2
  have hV40 := hI.2.2.2.2
  refine CT.of2 0 (by decide) rfl rfl ?_
  refine tr_iload_n eX7_changed_0 rfl ?_
  refine tr_if_lt eX7_changed_1 (fun h1 => ?_) (fun h1 => ?_)
  · skip
    refine tr_iconst eX7_changed_12 (-1) ci_m1 ?_
    refine tr_goto eX7_changed_13 ?_
    refine tr_ret eX7_changed_22 rfl rfl ?_
    exact ⟨by simp (disch := decide) only [s_changed, aM_9, aM_k] <;> simp_all [le_nlt, -Int32.not_lt, -Int32.not_le], by simp only [s_changed]⟩
  · skip
    refine tr_iload_n eX7_changed_4 rfl ?_
    refine tr_aload_n eX7_changed_5 rfl ?_
    refine tr_getI eX7_changed_6 fk_X7_219 rfl rfl ?_
    refine tr_icmp_lt eX7_changed_9 (fun h9 => ?_) (fun h9 => ?_)
    · skip
      have hin : vp_in k 40 := in_lt h1 (hn ▸ h9) hn40 (by decide)
      refine tr_aload_n eX7_changed_16 rfl ?_
      refine tr_getR eX7_changed_17 fk_X7_77 rfl rfl ?_
      refine tr_iload_n eX7_changed_20 rfl ?_
      refine tr_iald eX7_changed_21 rfl (by first | with_reducible assumption | with_reducible exact in_slot (by with_reducible assumption) (by with_reducible assumption) | with_reducible exact in_row _ (by decide) (by with_reducible assumption) | with_reducible exact in_row0 (by with_reducible assumption) | with_reducible exact in_slot0 (by with_reducible assumption) | (simp (disch := decide) only [up_k, up_s, up_f] <;> with_reducible assumption)) ?_
      refine tr_ret eX7_changed_22 rfl rfl ?_
      exact ⟨by simp (disch := decide) only [s_changed, aM_9, aM_k] <;> simp_all [le_nlt, -Int32.not_lt, -Int32.not_le], by simp only [s_changed]⟩
    · skip
      refine tr_iconst eX7_changed_12 (-1) ci_m1 ?_
      refine tr_goto eX7_changed_13 ?_
      refine tr_ret eX7_changed_22 rfl rfl ?_
      exact ⟨by simp (disch := decide) only [s_changed, aM_9, aM_k] <;> simp_all [le_nlt, -Int32.not_lt, -Int32.not_le], by simp only [s_changed]⟩

/-- all called back -/
def s_back (σ ρ : tSt) : Prop := (∀ k, k ≠ 26 → ρ k = σ k) ∧ ∀ u : Nat, u < 40 → ρ 26 (nI u) = nI 0
theorem lp_X2_callAllBack_2 {σ : tSt} : ∀ (f i : Nat) (ρ : tSt), i + f = 40 → (∀ k, k ≠ 26 → ρ k = σ k) → (∀ u : Nat, u < i → ρ 26 (nI u) = nI 0) → TT mX2_callAllBack 2 [.ref 19, .int (nI i)] [] ρ (fun r τ => r = none ∧ s_back σ τ) := by
  intro f
  induction f with
  | zero =>
    intro i ρ hi h1 h2
    refine tr_iload_n eX2_callAllBack_2 rfl ?_
    refine tr_bipush eX2_callAllBack_3 (nI 40) (by decide) ?_
    refine tr_icmp_ge eX2_callAllBack_5 (fun h5 => ?_) (fun h5 => ?_)
    · skip
      refine tr_vret eX2_callAllBack_21 rfl ?_
      exact ⟨rfl, h1, fun u hu => h2 u (by omega)⟩
    · skip
      exact absurd (lt_of rfl (by decide) (by omega) h5) (by omega)
  | succ f ih =>
    intro i ρ hi h1 h2
    refine tr_iload_n eX2_callAllBack_2 rfl ?_
    refine tr_bipush eX2_callAllBack_3 (nI 40) (by decide) ?_
    refine tr_icmp_ge eX2_callAllBack_5 (fun h5 => ?_) (fun h5 => ?_)
    · skip
      exact absurd (ge_of rfl (by decide) (by omega) h5) (by omega)
    · skip
      have hin : vp_in (nI i) 40 := vp_in_nI (by omega) (by decide)
      refine tr_aload_n eX2_callAllBack_8 rfl ?_
      refine tr_getR eX2_callAllBack_9 fk_X2_9 rfl rfl ?_
      refine tr_iload_n eX2_callAllBack_12 rfl ?_
      refine tr_iconst eX2_callAllBack_13 (nI 0) ci_0 ?_
      refine tr_zast eX2_callAllBack_14 rfl (by first | with_reducible assumption | with_reducible exact in_slot (by with_reducible assumption) (by with_reducible assumption) | with_reducible exact in_row _ (by decide) (by with_reducible assumption) | with_reducible exact in_row0 (by with_reducible assumption) | with_reducible exact in_slot0 (by with_reducible assumption) | (simp (disch := decide) only [up_k, up_s, up_f] <;> with_reducible assumption)) (by decide) ?_
      refine tr_iinc eX2_callAllBack_15 _ (by first | exact inc_n _ | rfl) rfl (by decide) rfl ?_
      refine tr_goto eX2_callAllBack_18 ?_
      refine ih (i + 1) _ (by omega) (fun k hk => by rw [up_k hk]; exact h1 k hk) (fun u hu => ?_)
      by_cases hq : u = i
      · subst hq; rw [up_s]
      · rw [up_n (fun q => hq (nI_inj (by omega) (by omega) q))]; exact h2 u (by omega)
theorem k_X2_callAllBack {σ : tSt} : CT mX2_callAllBack [.ref 19] σ (fun r τ => r = none ∧ s_back σ τ) := by
  refine CT.of2 1 (by decide) rfl rfl ?_
  refine tr_iconst eX2_callAllBack_0 (nI 0) ci_0 ?_
  refine tr_istore_n eX2_callAllBack_1 (by decide) rfl ?_
  exact lp_X2_callAllBack_2 40 0 σ (by omega) (fun _ _ => rfl) (fun u hu => absurd hu (by omega))

def s_waiting (μ : tSt) (nV : Nat) : Int32 := nI (ct (fun v => s_wait μ (μ 0 (nI 4)) v) nV 0)
theorem ct_le (P : Int32 → Bool) : ∀ f i : Nat, ct P f i ≤ f
  | 0, _ => Nat.le_refl _
  | f + 1, i => by
    have := ct_le P f (i + 1)
    simp only [ct]
    split <;> omega
theorem lp_X6_waiting_4 {σ : tSt} {nV : Nat} (hV : σ 18 (nI 6) = nI nV) (hV40 : nV ≤ 40) : ∀ f i c : Nat, i + f = nV → TT mX6_waiting 4 [.ref 0, .int (nI c), .int (nI i)] [] σ (PE (some (nI (c + ct (fun v => s_wait σ (σ 18 (nI 7)) v) f i))) σ) := by
  intro f
  induction f with
  | zero =>
    intro i c hi
    refine tr_iload_n eX6_waiting_4 rfl ?_
    refine tr_aload_n eX6_waiting_5 rfl ?_
    refine tr_getR eX6_waiting_6 fk_X6_19 rfl rfl ?_
    refine tr_getI eX6_waiting_9 fk_X6_124 rfl rfl ?_
    refine tr_icmp_ge eX6_waiting_12 (fun h12 => ?_) (fun h12 => ?_)
    · skip
      refine tr_iload_n eX6_waiting_35 rfl ?_
      refine tr_ret eX6_waiting_36 rfl rfl ?_
      exact ⟨rfl, rfl⟩
    · skip
      exact absurd (lt_of hV (by omega) (by omega) h12) (by omega)
  | succ f ih =>
    intro i c hi
    refine tr_iload_n eX6_waiting_4 rfl ?_
    refine tr_aload_n eX6_waiting_5 rfl ?_
    refine tr_getR eX6_waiting_6 fk_X6_19 rfl rfl ?_
    refine tr_getI eX6_waiting_9 fk_X6_124 rfl rfl ?_
    refine tr_icmp_ge eX6_waiting_12 (fun h12 => ?_) (fun h12 => ?_)
    · skip
      exact absurd (ge_of hV (by omega) (by omega) h12) (by omega)
    · skip
      have hin : vp_in (nI i) 40 := vp_in_nI (by omega) (by decide)
      refine tr_aload_n eX6_waiting_15 rfl ?_
      refine tr_getR eX6_waiting_16 fk_X6_19 rfl rfl ?_
      refine tr_iload_n eX6_waiting_19 rfl ?_
      refine tr_ce1 eX6_waiting_20 zv_X5_isWaiting zi_X5_isWaiting lk_X6_227 ⟨rfl, by decide, by decide⟩ rfl rfl rfl (k_X5_isWaiting (by first | with_reducible assumption | with_reducible exact in_slot (by with_reducible assumption) (by with_reducible assumption) | with_reducible exact in_row _ (by decide) (by with_reducible assumption) | with_reducible exact in_row0 (by with_reducible assumption) | with_reducible exact in_slot0 (by with_reducible assumption) | (simp (disch := decide) only [up_k, up_s, up_f] <;> with_reducible assumption))) ?_
      refine tr_if_eq eX6_waiting_23 (fun h23 => ?_) (fun h23 => ?_)
      · skip
        try first | replace h23 := bi_0 h23 | replace h23 := bi_n h23
        refine tr_iinc eX6_waiting_29 _ (by first | exact inc_n _ | rfl) rfl (by decide) rfl ?_
        refine tr_goto eX6_waiting_32 ?_
        have h := ih (i + 1) c (by omega)
        have e : c + ct (fun v => s_wait σ (σ 18 (nI 7)) v) (f + 1) i = c + ct (fun v => s_wait σ (σ 18 (nI 7)) v) f (i + 1) := by simp only [ct]; rw [if_neg (by simpa using h23)]; omega
        rw [e]
        exact h
      · skip
        try first | replace h23 := bi_0 h23 | replace h23 := bi_n h23
        refine tr_iinc eX6_waiting_26 _ (by first | exact inc_n _ | rfl) rfl (by decide) rfl ?_
        refine tr_iinc eX6_waiting_29 _ (by first | exact inc_n _ | rfl) rfl (by decide) rfl ?_
        refine tr_goto eX6_waiting_32 ?_
        have h := ih (i + 1) (c + 1) (by omega)
        have e : c + ct (fun v => s_wait σ (σ 18 (nI 7)) v) (f + 1) i = c + 1 + ct (fun v => s_wait σ (σ 18 (nI 7)) v) f (i + 1) := by simp only [ct]; rw [if_pos (by simpa using h23)]; omega
        rw [e]
        exact h
theorem lp_X7_waiting_4 {τ : tSt} {nV : Nat} (hV : τ 0 (nI 6) = nI nV) (hV40 : nV ≤ 40) : ∀ f i c : Nat, i + f = nV → TT mX7_waiting 4 [.ref 0, .int (nI c), .int (nI i)] [] τ (PE (some (nI (c + ct (fun v => s_wait τ (τ 0 (nI 8)) v) f i))) τ) := by
  intro f
  induction f with
  | zero =>
    intro i c hi
    refine tr_iload_n eX7_waiting_4 rfl ?_
    refine tr_aload_n eX7_waiting_5 rfl ?_
    refine tr_getI eX7_waiting_6 fk_X7_89 rfl rfl ?_
    refine tr_icmp_ge eX7_waiting_9 (fun h9 => ?_) (fun h9 => ?_)
    · skip
      refine tr_iload_n eX7_waiting_34 rfl ?_
      refine tr_ret eX7_waiting_35 rfl rfl ?_
      exact ⟨rfl, rfl⟩
    · skip
      exact absurd (lt_of hV (by omega) (by omega) h9) (by omega)
  | succ f ih =>
    intro i c hi
    refine tr_iload_n eX7_waiting_4 rfl ?_
    refine tr_aload_n eX7_waiting_5 rfl ?_
    refine tr_getI eX7_waiting_6 fk_X7_89 rfl rfl ?_
    refine tr_icmp_ge eX7_waiting_9 (fun h9 => ?_) (fun h9 => ?_)
    · skip
      exact absurd (ge_of hV (by omega) (by omega) h9) (by omega)
    · skip
      have hin : vp_in (nI i) 40 := vp_in_nI (by omega) (by decide)
      refine tr_iload_n eX7_waiting_12 rfl ?_
      refine tr_aload_n eX7_waiting_13 rfl ?_
      refine tr_iload_n eX7_waiting_14 rfl ?_
      refine tr_ce1 eX7_waiting_15 zv_X7_isWaiting zi_X7_isWaiting lk_X7_222 ⟨rfl, by decide, by decide⟩ rfl rfl rfl (k_X7_isWaiting (by first | with_reducible assumption | with_reducible exact in_slot (by with_reducible assumption) (by with_reducible assumption) | with_reducible exact in_row _ (by decide) (by with_reducible assumption) | with_reducible exact in_row0 (by with_reducible assumption) | with_reducible exact in_slot0 (by with_reducible assumption) | (simp (disch := decide) only [up_k, up_s, up_f] <;> with_reducible assumption))) ?_
      refine tr_if_eq eX7_waiting_18 (fun h18 => ?_) (fun h18 => ?_)
      · skip
        try first | replace h18 := bi_0 h18 | replace h18 := bi_n h18
        refine tr_iconst eX7_waiting_25 (nI 0) ci_0 ?_
        refine tr_iadd eX7_waiting_26 ?_
        rw [add_n0]
        refine tr_istore_n eX7_waiting_27 (by decide) rfl ?_
        refine tr_iinc eX7_waiting_28 _ (by first | exact inc_n _ | rfl) rfl (by decide) rfl ?_
        refine tr_goto eX7_waiting_31 ?_
        have h := ih (i + 1) c (by omega)
        have e : c + ct (fun v => s_wait τ (τ 0 (nI 8)) v) (f + 1) i = c + ct (fun v => s_wait τ (τ 0 (nI 8)) v) f (i + 1) := by simp only [ct]; rw [if_neg (by simpa using h18)]; omega
        rw [e]
        exact h
      · skip
        try first | replace h18 := bi_0 h18 | replace h18 := bi_n h18
        refine tr_iconst eX7_waiting_21 (nI 1) ci_1 ?_
        refine tr_goto eX7_waiting_22 ?_
        refine tr_iadd eX7_waiting_26 ?_
        rw [show nI c + nI 1 = nI (c + 1) from nI_1 c]
        refine tr_istore_n eX7_waiting_27 (by decide) rfl ?_
        refine tr_iinc eX7_waiting_28 _ (by first | exact inc_n _ | rfl) rfl (by decide) rfl ?_
        refine tr_goto eX7_waiting_31 ?_
        have h := ih (i + 1) (c + 1) (by omega)
        have e : c + ct (fun v => s_wait τ (τ 0 (nI 8)) v) (f + 1) i = c + 1 + ct (fun v => s_wait τ (τ 0 (nI 8)) v) f (i + 1) := by simp only [ct]; rw [if_pos (by simpa using h18)]; omega
        rw [e]
        exact h
theorem k_X6_waiting {σ : tSt} {nS nP nC nV : Nat} (hI : iN (aX σ) nS nP nC nV) : CT mX6_waiting [.ref 0] σ (QX σ (s_waiting (aX σ) nV, aX σ)) := by
  have hS := hI.1.1
  rw [aX_0] at hS
  have hP := hI.2.1.1
  rw [aX_1] at hP
  have hC := hI.2.2.1.1
  rw [aX_2] at hC
  have hV := hI.2.2.2.1
  rw [aX_3] at hV
  have hS24 := hI.1.2
  have hP40 := hI.2.1.2
  have hC20 := hI.2.2.1.2
  have hV40 := hI.2.2.2.2
  refine CT.of2 2 (by decide) rfl rfl ?_
  refine tr_iconst eX6_waiting_0 (nI 0) ci_0 ?_
  refine tr_istore_n eX6_waiting_1 (by decide) rfl ?_
  refine tr_iconst eX6_waiting_2 (nI 0) ci_0 ?_
  refine tr_istore_n eX6_waiting_3 (by decide) rfl ?_
  refine TT.post (lp_X6_waiting_4 hV hV40 nV 0 0 (by omega)) (fun r ρ h => ?_)
  obtain ⟨rfl, rfl⟩ := h
  refine ⟨congrArg some ?_, rfl, rfl⟩
  simp only [s_waiting, s_wait_aX, aX_4, Nat.zero_add]

theorem k_X7_waiting {τ : tSt} {nS nP nC nV : Nat} (hI : iN (aM τ) nS nP nC nV) : CT mX7_waiting [.ref 0] τ (QM (s_waiting (aM τ) nV, aM τ)) := by
  have hS := hI.1.1
  rw [aM_0] at hS
  have hP := hI.2.1.1
  rw [aM_1] at hP
  have hC := hI.2.2.1.1
  rw [aM_2] at hC
  have hV := hI.2.2.2.1
  rw [aM_3] at hV
  have hS24 := hI.1.2
  have hP40 := hI.2.1.2
  have hC20 := hI.2.2.1.2
  have hV40 := hI.2.2.2.2
  refine CT.of2 2 (by decide) rfl rfl ?_
  refine tr_iconst eX7_waiting_0 (nI 0) ci_0 ?_
  refine tr_istore_n eX7_waiting_1 (by decide) rfl ?_
  refine tr_iconst eX7_waiting_2 (nI 0) ci_0 ?_
  refine tr_istore_n eX7_waiting_3 (by decide) rfl ?_
  refine TT.post (lp_X7_waiting_4 hV hV40 nV 0 0 (by omega)) (fun r ρ h => ?_)
  obtain ⟨rfl, rfl⟩ := h
  refine ⟨congrArg some ?_, rfl⟩
  simp only [s_waiting, s_wait_aM, aM_4, Nat.zero_add]

