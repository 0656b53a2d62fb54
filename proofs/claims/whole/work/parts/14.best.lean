theorem k_X2_isUnfit {σ : tSt} {s a b : Int32} (hs : vp_in s 24) : CT mX2_isUnfit [.ref 19, .int s, .int a, .int b] σ (PE (some (bi (s_unf σ (σ 19 (nI 4)) (σ 19 (nI 6)) s a b = true))) σ) := by
  refine CT.of2 2 (by decide) rfl rfl ?_
  refine tr_aload_n eX2_isUnfit_0 rfl ?_
  refine tr_getR eX2_isUnfit_1 fk_X2_15 rfl rfl ?_
  refine tr_iload_n eX2_isUnfit_4 rfl ?_
  refine tr_ce1 eX2_isUnfit_5 zv_X1_hasGate zi_X1_hasGate lk_X2_97 ⟨rfl, by decide, by decide⟩ rfl rfl rfl (k_X1_hasGate (by first | with_reducible assumption | with_reducible exact in_slot (by with_reducible assumption) (by with_reducible assumption) | with_reducible exact in_row _ (by decide) (by with_reducible assumption) | with_reducible exact in_row0 (by with_reducible assumption) | with_reducible exact in_slot0 (by with_reducible assumption) | (simp (disch := decide) only [up_k, up_s, up_f] <;> with_reducible assumption))) ?_
  refine tr_istore eX2_isUnfit_8 (by decide) rfl ?_
  refine tr_aload_n eX2_isUnfit_10 rfl ?_
  refine tr_getR eX2_isUnfit_11 fk_X2_15 rfl rfl ?_
  refine tr_getR eX2_isUnfit_14 fk_X2_77 rfl rfl ?_
  refine tr_iload_n eX2_isUnfit_17 rfl ?_
  refine tr_iald eX2_isUnfit_18 rfl (by first | with_reducible assumption | with_reducible exact in_slot (by with_reducible assumption) (by with_reducible assumption) | with_reducible exact in_row _ (by decide) (by with_reducible assumption) | with_reducible exact in_row0 (by with_reducible assumption) | with_reducible exact in_slot0 (by with_reducible assumption) | (simp (disch := decide) only [up_k, up_s, up_f] <;> with_reducible assumption)) ?_
  refine tr_iconst eX2_isUnfit_19 (nI 5) ci_5 ?_
  refine tr_icmp_ne eX2_isUnfit_20 (fun h20 => ?_) (fun h20 => ?_)
  · skip
    refine tr_iconst eX2_isUnfit_27 (nI 0) ci_0 ?_
    refine tr_istore eX2_isUnfit_28 (by decide) rfl ?_
    refine tr_aload_n eX2_isUnfit_30 rfl ?_
    refine tr_getI eX2_isUnfit_31 fk_X2_52 rfl rfl ?_
    refine tr_iconst eX2_isUnfit_34 (nI 1) ci_1 ?_
    refine tr_icmp_ne eX2_isUnfit_35 (fun h35 => ?_) (fun h35 => ?_)
    · skip
      refine tr_aload_n eX2_isUnfit_43 rfl ?_
      refine tr_getI eX2_isUnfit_44 fk_X2_52 rfl rfl ?_
      refine tr_iconst eX2_isUnfit_47 (nI 2) ci_2 ?_
      refine tr_icmp_ne eX2_isUnfit_48 (fun h48 => ?_) (fun h48 => ?_)
      · skip
        refine tr_aload_n eX2_isUnfit_58 rfl ?_
        refine tr_getI eX2_isUnfit_59 fk_X2_40 rfl rfl ?_
        refine tr_iconst eX2_isUnfit_62 (nI 3) ci_3 ?_
        refine tr_icmp_ne eX2_isUnfit_63 (fun h63 => ?_) (fun h63 => ?_)
        · skip
          refine tr_aload_n eX2_isUnfit_71 rfl ?_
          refine tr_getI eX2_isUnfit_72 fk_X2_40 rfl rfl ?_
          refine tr_iconst eX2_isUnfit_75 (nI 2) ci_2 ?_
          refine tr_icmp_ne eX2_isUnfit_76 (fun h76 => ?_) (fun h76 => ?_)
          · skip
            refine tr_aload_n eX2_isUnfit_86 rfl ?_
            refine tr_getI eX2_isUnfit_87 fk_X2_40 rfl rfl ?_
            refine tr_iconst eX2_isUnfit_90 (nI 4) ci_4 ?_
            refine tr_icmp_ne eX2_isUnfit_91 (fun h91 => ?_) (fun h91 => ?_)
            · skip
              refine tr_iconst eX2_isUnfit_117 (nI 0) ci_0 ?_
              refine tr_ret eX2_isUnfit_118 rfl (by first | rfl | exact nar_bi _) ?_
              refine ⟨congrArg some ?_, rfl⟩
              first | (refine bi_t ?_; simp_all [s_unf]; done) | (refine bi_f ?_; simp_all [s_unf]; done) | (exfalso; simp_all; done)
            · skip
              refine tr_iload eX2_isUnfit_94 rfl ?_
              refine tr_if_eq eX2_isUnfit_96 (fun h96 => ?_) (fun h96 => ?_)
              · skip
                try first | replace h96 := bi_0 h96 | replace h96 := bi_n h96
                refine tr_iconst eX2_isUnfit_117 (nI 0) ci_0 ?_
                refine tr_ret eX2_isUnfit_118 rfl (by first | rfl | exact nar_bi _) ?_
                refine ⟨congrArg some ?_, rfl⟩
                first | (refine bi_t ?_; simp_all [s_unf]; done) | (refine bi_f ?_; simp_all [s_unf]; done) | (exfalso; simp_all; done)
              · skip
                try first | replace h96 := bi_0 h96 | replace h96 := bi_n h96
                refine tr_iload_n eX2_isUnfit_99 rfl ?_
                refine tr_iload_n eX2_isUnfit_100 rfl ?_
                refine tr_sipush eX2_isUnfit_101 (nI 1320) (by decide) ?_
                refine tr_sipush eX2_isUnfit_104 (nI 1560) (by decide) ?_
                refine tr_se4 eX2_isUnfit_107 zv_X6_haveCommonMinute zs_X6_haveCommonMinute lk_X2_100 ⟨rfl, by decide, by decide⟩ rfl k_X6_haveCommonMinute ?_
                refine tr_if_eq eX2_isUnfit_110 (fun h110 => ?_) (fun h110 => ?_)
                · skip
                  try first | replace h110 := bi_0 h110 | replace h110 := bi_n h110
                  refine tr_iconst eX2_isUnfit_117 (nI 0) ci_0 ?_
                  refine tr_ret eX2_isUnfit_118 rfl (by first | rfl | exact nar_bi _) ?_
                  refine ⟨congrArg some ?_, rfl⟩
                  first | (refine bi_t ?_; simp_all [s_unf]; done) | (refine bi_f ?_; simp_all [s_unf]; done) | (exfalso; simp_all; done)
                · skip
                  try first | replace h110 := bi_0 h110 | replace h110 := bi_n h110
                  refine tr_iconst eX2_isUnfit_113 (nI 1) ci_1 ?_
                  refine tr_goto eX2_isUnfit_114 ?_
                  refine tr_ret eX2_isUnfit_118 rfl (by first | rfl | exact nar_bi _) ?_
                  refine ⟨congrArg some ?_, rfl⟩
                  first | (refine bi_t ?_; simp_all [s_unf]; done) | (refine bi_f ?_; simp_all [s_unf]; done) | (exfalso; simp_all; done)
          · skip
            refine tr_iload eX2_isUnfit_79 rfl ?_
            refine tr_if_eq eX2_isUnfit_81 (fun _ => ?_) (fun h81 => absurd h81 (by decide))
            refine tr_aload_n eX2_isUnfit_86 rfl ?_
            refine tr_getI eX2_isUnfit_87 fk_X2_40 rfl rfl ?_
            refine tr_iconst eX2_isUnfit_90 (nI 4) ci_4 ?_
            refine tr_icmp_ne eX2_isUnfit_91 (fun h91 => ?_) (fun h91 => ?_)
            · skip
              refine tr_iconst eX2_isUnfit_117 (nI 0) ci_0 ?_
              refine tr_ret eX2_isUnfit_118 rfl (by first | rfl | exact nar_bi _) ?_
              refine ⟨congrArg some ?_, rfl⟩
              first | (refine bi_t ?_; simp_all [s_unf]; done) | (refine bi_f ?_; simp_all [s_unf]; done) | (exfalso; simp_all; done)
            · skip
              refine tr_iload eX2_isUnfit_94 rfl ?_
              refine tr_if_eq eX2_isUnfit_96 (fun h96 => ?_) (fun h96 => ?_)
              · skip
                try first | replace h96 := bi_0 h96 | replace h96 := bi_n h96
                refine tr_iconst eX2_isUnfit_117 (nI 0) ci_0 ?_
                refine tr_ret eX2_isUnfit_118 rfl (by first | rfl | exact nar_bi _) ?_
                refine ⟨congrArg some ?_, rfl⟩
                first | (refine bi_t ?_; simp_all [s_unf]; done) | (refine bi_f ?_; simp_all [s_unf]; done) | (exfalso; simp_all; done)
              · skip
                try first | replace h96 := bi_0 h96 | replace h96 := bi_n h96
                refine tr_iload_n eX2_isUnfit_99 rfl ?_
                refine tr_iload_n eX2_isUnfit_100 rfl ?_
                refine tr_sipush eX2_isUnfit_101 (nI 1320) (by decide) ?_
                refine tr_sipush eX2_isUnfit_104 (nI 1560) (by decide) ?_
                refine tr_se4 eX2_isUnfit_107 zv_X6_haveCommonMinute zs_X6_haveCommonMinute lk_X2_100 ⟨rfl, by decide, by decide⟩ rfl k_X6_haveCommonMinute ?_
                refine tr_if_eq eX2_isUnfit_110 (fun h110 => ?_) (fun h110 => ?_)
                · skip
                  try first | replace h110 := bi_0 h110 | replace h110 := bi_n h110
                  refine tr_iconst eX2_isUnfit_117 (nI 0) ci_0 ?_
                  refine tr_ret eX2_isUnfit_118 rfl (by first | rfl | exact nar_bi _) ?_
                  refine ⟨congrArg some ?_, rfl⟩
                  first | (refine bi_t ?_; simp_all [s_unf]; done) | (refine bi_f ?_; simp_all [s_unf]; done) | (exfalso; simp_all; done)
                · skip
                  try first | replace h110 := bi_0 h110 | replace h110 := bi_n h110
                  refine tr_iconst eX2_isUnfit_113 (nI 1) ci_1 ?_
                  refine tr_goto eX2_isUnfit_114 ?_
                  refine tr_ret eX2_isUnfit_118 rfl (by first | rfl | exact nar_bi _) ?_
                  refine ⟨congrArg some ?_, rfl⟩
                  first | (refine bi_t ?_; simp_all [s_unf]; done) | (refine bi_f ?_; simp_all [s_unf]; done) | (exfalso; simp_all; done)
        · skip
          refine tr_iload eX2_isUnfit_66 rfl ?_
          refine tr_if_ne eX2_isUnfit_68 (fun h68 => ?_) (fun h68 => ?_)
          · skip
            try first | replace h68 := bi_0 h68 | replace h68 := bi_n h68
            refine tr_iconst eX2_isUnfit_84 (nI 1) ci_1 ?_
            refine tr_ret eX2_isUnfit_85 rfl (by first | rfl | exact nar_bi _) ?_
            refine ⟨congrArg some ?_, rfl⟩
            first | (refine bi_t ?_; simp_all [s_unf]; done) | (refine bi_f ?_; simp_all [s_unf]; done) | (exfalso; simp_all; done)
          · skip
            try first | replace h68 := bi_0 h68 | replace h68 := bi_n h68
            refine tr_aload_n eX2_isUnfit_71 rfl ?_
            refine tr_getI eX2_isUnfit_72 fk_X2_40 rfl rfl ?_
            refine tr_iconst eX2_isUnfit_75 (nI 2) ci_2 ?_
            refine tr_icmp_ne eX2_isUnfit_76 (fun h76 => ?_) (fun h76 => ?_)
            · skip
              refine tr_aload_n eX2_isUnfit_86 rfl ?_
              refine tr_getI eX2_isUnfit_87 fk_X2_40 rfl rfl ?_
              refine tr_iconst eX2_isUnfit_90 (nI 4) ci_4 ?_
              refine tr_icmp_ne eX2_isUnfit_91 (fun h91 => ?_) (fun h91 => ?_)
              · skip
                refine tr_iconst eX2_isUnfit_117 (nI 0) ci_0 ?_
                refine tr_ret eX2_isUnfit_118 rfl (by first | rfl | exact nar_bi _) ?_
                refine ⟨congrArg some ?_, rfl⟩
                first | (refine bi_t ?_; simp_all [s_unf]; done) | (refine bi_f ?_; simp_all [s_unf]; done) | (exfalso; simp_all; done)
              · skip
                refine tr_iload eX2_isUnfit_94 rfl ?_
                refine tr_if_eq eX2_isUnfit_96 (fun h96 => ?_) (fun h96 => ?_)
                · skip
                  try first | replace h96 := bi_0 h96 | replace h96 := bi_n h96
                  refine tr_iconst eX2_isUnfit_117 (nI 0) ci_0 ?_
                  refine tr_ret eX2_isUnfit_118 rfl (by first | rfl | exact nar_bi _) ?_
                  refine ⟨congrArg some ?_, rfl⟩
                  first | (refine bi_t ?_; simp_all [s_unf]; done) | (refine bi_f ?_; simp_all [s_unf]; done) | (exfalso; simp_all; done)
                · skip
                  try first | replace h96 := bi_0 h96 | replace h96 := bi_n h96
                  refine tr_iload_n eX2_isUnfit_99 rfl ?_
                  refine tr_iload_n eX2_isUnfit_100 rfl ?_
                  refine tr_sipush eX2_isUnfit_101 (nI 1320) (by decide) ?_
                  refine tr_sipush eX2_isUnfit_104 (nI 1560) (by decide) ?_
                  refine tr_se4 eX2_isUnfit_107 zv_X6_haveCommonMinute zs_X6_haveCommonMinute lk_X2_100 ⟨rfl, by decide, by decide⟩ rfl k_X6_haveCommonMinute ?_
                  refine tr_if_eq eX2_isUnfit_110 (fun h110 => ?_) (fun h110 => ?_)
                  · skip
                    try first | replace h110 := bi_0 h110 | replace h110 := bi_n h110
                    refine tr_iconst eX2_isUnfit_117 (nI 0) ci_0 ?_
                    refine tr_ret eX2_isUnfit_118 rfl (by first | rfl | exact nar_bi _) ?_
                    refine ⟨congrArg some ?_, rfl⟩
                    first | (refine bi_t ?_; simp_all [s_unf]; done) | (refine bi_f ?_; simp_all [s_unf]; done) | (exfalso; simp_all; done)
                  · skip
                    try first | replace h110 := bi_0 h110 | replace h110 := bi_n h110
                    refine tr_iconst eX2_isUnfit_113 (nI 1) ci_1 ?_
                    refine tr_goto eX2_isUnfit_114 ?_
                    refine tr_ret eX2_isUnfit_118 rfl (by first | rfl | exact nar_bi _) ?_
                    refine ⟨congrArg some ?_, rfl⟩
                    first | (refine bi_t ?_; simp_all [s_unf]; done) | (refine bi_f ?_; simp_all [s_unf]; done) | (exfalso; simp_all; done)
            · skip
              refine tr_iload eX2_isUnfit_79 rfl ?_
              refine tr_if_eq eX2_isUnfit_81 (fun _ => ?_) (fun h81 => absurd h81 (by decide))
              refine tr_aload_n eX2_isUnfit_86 rfl ?_
              refine tr_getI eX2_isUnfit_87 fk_X2_40 rfl rfl ?_
              refine tr_iconst eX2_isUnfit_90 (nI 4) ci_4 ?_
              refine tr_icmp_ne eX2_isUnfit_91 (fun h91 => ?_) (fun h91 => ?_)
              · skip
                refine tr_iconst eX2_isUnfit_117 (nI 0) ci_0 ?_
                refine tr_ret eX2_isUnfit_118 rfl (by first | rfl | exact nar_bi _) ?_
                refine ⟨congrArg some ?_, rfl⟩
                first | (refine bi_t ?_; simp_all [s_unf]; done) | (refine bi_f ?_; simp_all [s_unf]; done) | (exfalso; simp_all; done)
              · skip
                refine tr_iload eX2_isUnfit_94 rfl ?_
                refine tr_if_eq eX2_isUnfit_96 (fun h96 => ?_) (fun h96 => ?_)
                · skip
                  try first | replace h96 := bi_0 h96 | replace h96 := bi_n h96
                  refine tr_iconst eX2_isUnfit_117 (nI 0) ci_0 ?_
                  refine tr_ret eX2_isUnfit_118 rfl (by first | rfl | exact nar_bi _) ?_
                  refine ⟨congrArg some ?_, rfl⟩
                  first | (refine bi_t ?_; simp_all [s_unf]; done) | (refine bi_f ?_; simp_all [s_unf]; done) | (exfalso; simp_all; done)
                · skip
                  try first | replace h96 := bi_0 h96 | replace h96 := bi_n h96
                  refine tr_iload_n eX2_isUnfit_99 rfl ?_
                  refine tr_iload_n eX2_isUnfit_100 rfl ?_
                  refine tr_sipush eX2_isUnfit_101 (nI 1320) (by decide) ?_
                  refine tr_sipush eX2_isUnfit_104 (nI 1560) (by decide) ?_
                  refine tr_se4 eX2_isUnfit_107 zv_X6_haveCommonMinute zs_X6_haveCommonMinute lk_X2_100 ⟨rfl, by decide, by decide⟩ rfl k_X6_haveCommonMinute ?_
                  refine tr_if_eq eX2_isUnfit_110 (fun h110 => ?_) (fun h110 => ?_)
                  · skip
                    try first | replace h110 := bi_0 h110 | replace h110 := bi_n h110
                    refine tr_iconst eX2_isUnfit_117 (nI 0) ci_0 ?_
                    refine tr_ret eX2_isUnfit_118 rfl (by first | rfl | exact nar_bi _) ?_
                    refine ⟨congrArg some ?_, rfl⟩
                    first | (refine bi_t ?_; simp_all [s_unf]; done) | (refine bi_f ?_; simp_all [s_unf]; done) | (exfalso; simp_all; done)
                  · skip
                    try first | replace h110 := bi_0 h110 | replace h110 := bi_n h110
                    refine tr_iconst eX2_isUnfit_113 (nI 1) ci_1 ?_
                    refine tr_goto eX2_isUnfit_114 ?_
                    refine tr_ret eX2_isUnfit_118 rfl (by first | rfl | exact nar_bi _) ?_
                    refine ⟨congrArg some ?_, rfl⟩
                    first | (refine bi_t ?_; simp_all [s_unf]; done) | (refine bi_f ?_; simp_all [s_unf]; done) | (exfalso; simp_all; done)
      · skip
        refine tr_iload eX2_isUnfit_51 rfl ?_
        refine tr_if_ne eX2_isUnfit_53 (fun h53 => absurd h53 (by decide)) (fun _ => ?_)
        refine tr_iconst eX2_isUnfit_56 (nI 1) ci_1 ?_
        refine tr_ret eX2_isUnfit_57 rfl (by first | rfl | exact nar_bi _) ?_
        refine ⟨congrArg some ?_, rfl⟩
        first | (refine bi_t ?_; simp_all [s_unf]; done) | (refine bi_f ?_; simp_all [s_unf]; done) | (exfalso; simp_all; done)
    · skip
      refine tr_iload eX2_isUnfit_38 rfl ?_
      refine tr_if_eq eX2_isUnfit_40 (fun h40 => ?_) (fun h40 => ?_)
      · skip
        try first | replace h40 := bi_0 h40 | replace h40 := bi_n h40
        refine tr_iconst eX2_isUnfit_56 (nI 1) ci_1 ?_
        refine tr_ret eX2_isUnfit_57 rfl (by first | rfl | exact nar_bi _) ?_
        refine ⟨congrArg some ?_, rfl⟩
        first | (refine bi_t ?_; simp_all [s_unf]; done) | (refine bi_f ?_; simp_all [s_unf]; done) | (exfalso; simp_all; done)
      · skip
        try first | replace h40 := bi_0 h40 | replace h40 := bi_n h40
        refine tr_aload_n eX2_isUnfit_43 rfl ?_
        refine tr_getI eX2_isUnfit_44 fk_X2_52 rfl rfl ?_
        refine tr_iconst eX2_isUnfit_47 (nI 2) ci_2 ?_
        refine tr_icmp_ne eX2_isUnfit_48 (fun h48 => ?_) (fun h48 => ?_)
        · skip
          refine tr_aload_n eX2_isUnfit_58 rfl ?_
          refine tr_getI eX2_isUnfit_59 fk_X2_40 rfl rfl ?_
          refine tr_iconst eX2_isUnfit_62 (nI 3) ci_3 ?_
          refine tr_icmp_ne eX2_isUnfit_63 (fun h63 => ?_) (fun h63 => ?_)
          · skip
            refine tr_aload_n eX2_isUnfit_71 rfl ?_
            refine tr_getI eX2_isUnfit_72 fk_X2_40 rfl rfl ?_
            refine tr_iconst eX2_isUnfit_75 (nI 2) ci_2 ?_
            refine tr_icmp_ne eX2_isUnfit_76 (fun h76 => ?_) (fun h76 => ?_)
            · skip
              refine tr_aload_n eX2_isUnfit_86 rfl ?_
              refine tr_getI eX2_isUnfit_87 fk_X2_40 rfl rfl ?_
              refine tr_iconst eX2_isUnfit_90 (nI 4) ci_4 ?_
              refine tr_icmp_ne eX2_isUnfit_91 (fun h91 => ?_) (fun h91 => ?_)
              · skip
                refine tr_iconst eX2_isUnfit_117 (nI 0) ci_0 ?_
                refine tr_ret eX2_isUnfit_118 rfl (by first | rfl | exact nar_bi _) ?_
                refine ⟨congrArg some ?_, rfl⟩
                first | (refine bi_t ?_; simp_all [s_unf]; done) | (refine bi_f ?_; simp_all [s_unf]; done) | (exfalso; simp_all; done)
              · skip
                refine tr_iload eX2_isUnfit_94 rfl ?_
                refine tr_if_eq eX2_isUnfit_96 (fun h96 => ?_) (fun h96 => ?_)
                · skip
                  try first | replace h96 := bi_0 h96 | replace h96 := bi_n h96
                  refine tr_iconst eX2_isUnfit_117 (nI 0) ci_0 ?_
                  refine tr_ret eX2_isUnfit_118 rfl (by first | rfl | exact nar_bi _) ?_
                  refine ⟨congrArg some ?_, rfl⟩
                  first | (refine bi_t ?_; simp_all [s_unf]; done) | (refine bi_f ?_; simp_all [s_unf]; done) | (exfalso; simp_all; done)
                · skip
                  try first | replace h96 := bi_0 h96 | replace h96 := bi_n h96
                  refine tr_iload_n eX2_isUnfit_99 rfl ?_
                  refine tr_iload_n eX2_isUnfit_100 rfl ?_
                  refine tr_sipush eX2_isUnfit_101 (nI 1320) (by decide) ?_
                  refine tr_sipush eX2_isUnfit_104 (nI 1560) (by decide) ?_
                  refine tr_se4 eX2_isUnfit_107 zv_X6_haveCommonMinute zs_X6_haveCommonMinute lk_X2_100 ⟨rfl, by decide, by decide⟩ rfl k_X6_haveCommonMinute ?_
                  refine tr_if_eq eX2_isUnfit_110 (fun h110 => ?_) (fun h110 => ?_)
                  · skip
                    try first | replace h110 := bi_0 h110 | replace h110 := bi_n h110
                    refine tr_iconst eX2_isUnfit_117 (nI 0) ci_0 ?_
                    refine tr_ret eX2_isUnfit_118 rfl (by first | rfl | exact nar_bi _) ?_
                    refine ⟨congrArg some ?_, rfl⟩
                    first | (refine bi_t ?_; simp_all [s_unf]; done) | (refine bi_f ?_; simp_all [s_unf]; done) | (exfalso; simp_all; done)
                  · skip
                    try first | replace h110 := bi_0 h110 | replace h110 := bi_n h110
                    refine tr_iconst eX2_isUnfit_113 (nI 1) ci_1 ?_
                    refine tr_goto eX2_isUnfit_114 ?_
                    refine tr_ret eX2_isUnfit_118 rfl (by first | rfl | exact nar_bi _) ?_
                    refine ⟨congrArg some ?_, rfl⟩
                    first | (refine bi_t ?_; simp_all [s_unf]; done) | (refine bi_f ?_; simp_all [s_unf]; done) | (exfalso; simp_all; done)
            · skip
              refine tr_iload eX2_isUnfit_79 rfl ?_
              refine tr_if_eq eX2_isUnfit_81 (fun _ => ?_) (fun h81 => absurd h81 (by decide))
              refine tr_aload_n eX2_isUnfit_86 rfl ?_
              refine tr_getI eX2_isUnfit_87 fk_X2_40 rfl rfl ?_
              refine tr_iconst eX2_isUnfit_90 (nI 4) ci_4 ?_
              refine tr_icmp_ne eX2_isUnfit_91 (fun h91 => ?_) (fun h91 => ?_)
              · skip
                refine tr_iconst eX2_isUnfit_117 (nI 0) ci_0 ?_
                refine tr_ret eX2_isUnfit_118 rfl (by first | rfl | exact nar_bi _) ?_
                refine ⟨congrArg some ?_, rfl⟩
                first | (refine bi_t ?_; simp_all [s_unf]; done) | (refine bi_f ?_; simp_all [s_unf]; done) | (exfalso; simp_all; done)
              · skip
                refine tr_iload eX2_isUnfit_94 rfl ?_
                refine tr_if_eq eX2_isUnfit_96 (fun h96 => ?_) (fun h96 => ?_)
                · skip
                  try first | replace h96 := bi_0 h96 | replace h96 := bi_n h96
                  refine tr_iconst eX2_isUnfit_117 (nI 0) ci_0 ?_
                  refine tr_ret eX2_isUnfit_118 rfl (by first | rfl | exact nar_bi _) ?_
                  refine ⟨congrArg some ?_, rfl⟩
                  first | (refine bi_t ?_; simp_all [s_unf]; done) | (refine bi_f ?_; simp_all [s_unf]; done) | (exfalso; simp_all; done)
                · skip
                  try first | replace h96 := bi_0 h96 | replace h96 := bi_n h96
                  refine tr_iload_n eX2_isUnfit_99 rfl ?_
                  refine tr_iload_n eX2_isUnfit_100 rfl ?_
                  refine tr_sipush eX2_isUnfit_101 (nI 1320) (by decide) ?_
                  refine tr_sipush eX2_isUnfit_104 (nI 1560) (by decide) ?_
                  refine tr_se4 eX2_isUnfit_107 zv_X6_haveCommonMinute zs_X6_haveCommonMinute lk_X2_100 ⟨rfl, by decide, by decide⟩ rfl k_X6_haveCommonMinute ?_
                  refine tr_if_eq eX2_isUnfit_110 (fun h110 => ?_) (fun h110 => ?_)
                  · skip
                    try first | replace h110 := bi_0 h110 | replace h110 := bi_n h110
                    refine tr_iconst eX2_isUnfit_117 (nI 0) ci_0 ?_
                    refine tr_ret eX2_isUnfit_118 rfl (by first | rfl | exact nar_bi _) ?_
                    refine ⟨congrArg some ?_, rfl⟩
                    first | (refine bi_t ?_; simp_all [s_unf]; done) | (refine bi_f ?_; simp_all [s_unf]; done) | (exfalso; simp_all; done)
                  · skip
                    try first | replace h110 := bi_0 h110 | replace h110 := bi_n h110
                    refine tr_iconst eX2_isUnfit_113 (nI 1) ci_1 ?_
                    refine tr_goto eX2_isUnfit_114 ?_
                    refine tr_ret eX2_isUnfit_118 rfl (by first | rfl | exact nar_bi _) ?_
                    refine ⟨congrArg some ?_, rfl⟩
                    first | (refine bi_t ?_; simp_all [s_unf]; done) | (refine bi_f ?_; simp_all [s_unf]; done) | (exfalso; simp_all; done)
          · skip
            refine tr_iload eX2_isUnfit_66 rfl ?_
            refine tr_if_ne eX2_isUnfit_68 (fun h68 => ?_) (fun h68 => ?_)
            · skip
              try first | replace h68 := bi_0 h68 | replace h68 := bi_n h68
              refine tr_iconst eX2_isUnfit_84 (nI 1) ci_1 ?_
              refine tr_ret eX2_isUnfit_85 rfl (by first | rfl | exact nar_bi _) ?_
              refine ⟨congrArg some ?_, rfl⟩
              first | (refine bi_t ?_; simp_all [s_unf]; done) | (refine bi_f ?_; simp_all [s_unf]; done) | (exfalso; simp_all; done)
            · skip
              try first | replace h68 := bi_0 h68 | replace h68 := bi_n h68
              refine tr_aload_n eX2_isUnfit_71 rfl ?_
              refine tr_getI eX2_isUnfit_72 fk_X2_40 rfl rfl ?_
              refine tr_iconst eX2_isUnfit_75 (nI 2) ci_2 ?_
              refine tr_icmp_ne eX2_isUnfit_76 (fun h76 => ?_) (fun h76 => ?_)
              · skip
                refine tr_aload_n eX2_isUnfit_86 rfl ?_
                refine tr_getI eX2_isUnfit_87 fk_X2_40 rfl rfl ?_
                refine tr_iconst eX2_isUnfit_90 (nI 4) ci_4 ?_
                refine tr_icmp_ne eX2_isUnfit_91 (fun h91 => ?_) (fun h91 => ?_)
                · skip
                  refine tr_iconst eX2_isUnfit_117 (nI 0) ci_0 ?_
                  refine tr_ret eX2_isUnfit_118 rfl (by first | rfl | exact nar_bi _) ?_
                  refine ⟨congrArg some ?_, rfl⟩
                  first | (refine bi_t ?_; simp_all [s_unf]; done) | (refine bi_f ?_; simp_all [s_unf]; done) | (exfalso; simp_all; done)
                · skip
                  refine tr_iload eX2_isUnfit_94 rfl ?_
                  refine tr_if_eq eX2_isUnfit_96 (fun h96 => ?_) (fun h96 => ?_)
                  · skip
                    try first | replace h96 := bi_0 h96 | replace h96 := bi_n h96
                    refine tr_iconst eX2_isUnfit_117 (nI 0) ci_0 ?_
                    refine tr_ret eX2_isUnfit_118 rfl (by first | rfl | exact nar_bi _) ?_
                    refine ⟨congrArg some ?_, rfl⟩
                    first | (refine bi_t ?_; simp_all [s_unf]; done) | (refine bi_f ?_; simp_all [s_unf]; done) | (exfalso; simp_all; done)
                  · skip
                    try first | replace h96 := bi_0 h96 | replace h96 := bi_n h96
                    refine tr_iload_n eX2_isUnfit_99 rfl ?_
                    refine tr_iload_n eX2_isUnfit_100 rfl ?_
                    refine tr_sipush eX2_isUnfit_101 (nI 1320) (by decide) ?_
                    refine tr_sipush eX2_isUnfit_104 (nI 1560) (by decide) ?_
                    refine tr_se4 eX2_isUnfit_107 zv_X6_haveCommonMinute zs_X6_haveCommonMinute lk_X2_100 ⟨rfl, by decide, by decide⟩ rfl k_X6_haveCommonMinute ?_
                    refine tr_if_eq eX2_isUnfit_110 (fun h110 => ?_) (fun h110 => ?_)
                    · skip
                      try first | replace h110 := bi_0 h110 | replace h110 := bi_n h110
                      refine tr_iconst eX2_isUnfit_117 (nI 0) ci_0 ?_
                      refine tr_ret eX2_isUnfit_118 rfl (by first | rfl | exact nar_bi _) ?_
                      refine ⟨congrArg some ?_, rfl⟩
                      first | (refine bi_t ?_; simp_all [s_unf]; done) | (refine bi_f ?_; simp_all [s_unf]; done) | (exfalso; simp_all; done)
                    · skip
                      try first | replace h110 := bi_0 h110 | replace h110 := bi_n h110
                      refine tr_iconst eX2_isUnfit_113 (nI 1) ci_1 ?_
                      refine tr_goto eX2_isUnfit_114 ?_
                      refine tr_ret eX2_isUnfit_118 rfl (by first | rfl | exact nar_bi _) ?_
                      refine ⟨congrArg some ?_, rfl⟩
                      first | (refine bi_t ?_; simp_all [s_unf]; done) | (refine bi_f ?_; simp_all [s_unf]; done) | (exfalso; simp_all; done)
              · skip
                refine tr_iload eX2_isUnfit_79 rfl ?_
                refine tr_if_eq eX2_isUnfit_81 (fun _ => ?_) (fun h81 => absurd h81 (by decide))
                refine tr_aload_n eX2_isUnfit_86 rfl ?_
                refine tr_getI eX2_isUnfit_87 fk_X2_40 rfl rfl ?_
                refine tr_iconst eX2_isUnfit_90 (nI 4) ci_4 ?_
                refine tr_icmp_ne eX2_isUnfit_91 (fun h91 => ?_) (fun h91 => ?_)
                · skip
                  refine tr_iconst eX2_isUnfit_117 (nI 0) ci_0 ?_
                  refine tr_ret eX2_isUnfit_118 rfl (by first | rfl | exact nar_bi _) ?_
                  refine ⟨congrArg some ?_, rfl⟩
                  first | (refine bi_t ?_; simp_all [s_unf]; done) | (refine bi_f ?_; simp_all [s_unf]; done) | (exfalso; simp_all; done)
                · skip
                  refine tr_iload eX2_isUnfit_94 rfl ?_
                  refine tr_if_eq eX2_isUnfit_96 (fun h96 => ?_) (fun h96 => ?_)
                  · skip
                    try first | replace h96 := bi_0 h96 | replace h96 := bi_n h96
                    refine tr_iconst eX2_isUnfit_117 (nI 0) ci_0 ?_
                    refine tr_ret eX2_isUnfit_118 rfl (by first | rfl | exact nar_bi _) ?_
                    refine ⟨congrArg some ?_, rfl⟩
                    first | (refine bi_t ?_; simp_all [s_unf]; done) | (refine bi_f ?_; simp_all [s_unf]; done) | (exfalso; simp_all; done)
                  · skip
                    try first | replace h96 := bi_0 h96 | replace h96 := bi_n h96
                    refine tr_iload_n eX2_isUnfit_99 rfl ?_
                    refine tr_iload_n eX2_isUnfit_100 rfl ?_
                    refine tr_sipush eX2_isUnfit_101 (nI 1320) (by decide) ?_
                    refine tr_sipush eX2_isUnfit_104 (nI 1560) (by decide) ?_
                    refine tr_se4 eX2_isUnfit_107 zv_X6_haveCommonMinute zs_X6_haveCommonMinute lk_X2_100 ⟨rfl, by decide, by decide⟩ rfl k_X6_haveCommonMinute ?_
                    refine tr_if_eq eX2_isUnfit_110 (fun h110 => ?_) (fun h110 => ?_)
                    · skip
                      try first | replace h110 := bi_0 h110 | replace h110 := bi_n h110
                      refine tr_iconst eX2_isUnfit_117 (nI 0) ci_0 ?_
                      refine tr_ret eX2_isUnfit_118 rfl (by first | rfl | exact nar_bi _) ?_
                      refine ⟨congrArg some ?_, rfl⟩
                      first | (refine bi_t ?_; simp_all [s_unf]; done) | (refine bi_f ?_; simp_all [s_unf]; done) | (exfalso; simp_all; done)
                    · skip
                      try first | replace h110 := bi_0 h110 | replace h110 := bi_n h110
                      refine tr_iconst eX2_isUnfit_113 (nI 1) ci_1 ?_
                      refine tr_goto eX2_isUnfit_114 ?_
                      refine tr_ret eX2_isUnfit_118 rfl (by first | rfl | exact nar_bi _) ?_
                      refine ⟨congrArg some ?_, rfl⟩
                      first | (refine bi_t ?_; simp_all [s_unf]; done) | (refine bi_f ?_; simp_all [s_unf]; done) | (exfalso; simp_all; done)
        · skip
          refine tr_iload eX2_isUnfit_51 rfl ?_
          refine tr_if_ne eX2_isUnfit_53 (fun h53 => absurd h53 (by decide)) (fun _ => ?_)
          refine tr_iconst eX2_isUnfit_56 (nI 1) ci_1 ?_
          refine tr_ret eX2_isUnfit_57 rfl (by first | rfl | exact nar_bi _) ?_
          refine ⟨congrArg some ?_, rfl⟩
          first | (refine bi_t ?_; simp_all [s_unf]; done) | (refine bi_f ?_; simp_all [s_unf]; done) | (exfalso; simp_all; done)
  · skip
    refine tr_iconst eX2_isUnfit_23 (nI 1) ci_1 ?_
    refine tr_goto eX2_isUnfit_24 ?_
    refine tr_istore eX2_isUnfit_28 (by decide) rfl ?_
    refine tr_aload_n eX2_isUnfit_30 rfl ?_
    refine tr_getI eX2_isUnfit_31 fk_X2_52 rfl rfl ?_
    refine tr_iconst eX2_isUnfit_34 (nI 1) ci_1 ?_
    refine tr_icmp_ne eX2_isUnfit_35 (fun h35 => ?_) (fun h35 => ?_)
    · skip
      refine tr_aload_n eX2_isUnfit_43 rfl ?_
      refine tr_getI eX2_isUnfit_44 fk_X2_52 rfl rfl ?_
      refine tr_iconst eX2_isUnfit_47 (nI 2) ci_2 ?_
      refine tr_icmp_ne eX2_isUnfit_48 (fun h48 => ?_) (fun h48 => ?_)
      · skip
        refine tr_aload_n eX2_isUnfit_58 rfl ?_
        refine tr_getI eX2_isUnfit_59 fk_X2_40 rfl rfl ?_
        refine tr_iconst eX2_isUnfit_62 (nI 3) ci_3 ?_
        refine tr_icmp_ne eX2_isUnfit_63 (fun h63 => ?_) (fun h63 => ?_)
        · skip
          refine tr_aload_n eX2_isUnfit_71 rfl ?_
          refine tr_getI eX2_isUnfit_72 fk_X2_40 rfl rfl ?_
          refine tr_iconst eX2_isUnfit_75 (nI 2) ci_2 ?_
          refine tr_icmp_ne eX2_isUnfit_76 (fun h76 => ?_) (fun h76 => ?_)
          · skip
            refine tr_aload_n eX2_isUnfit_86 rfl ?_
            refine tr_getI eX2_isUnfit_87 fk_X2_40 rfl rfl ?_
            refine tr_iconst eX2_isUnfit_90 (nI 4) ci_4 ?_
            refine tr_icmp_ne eX2_isUnfit_91 (fun h91 => ?_) (fun h91 => ?_)
            · skip
              refine tr_iconst eX2_isUnfit_117 (nI 0) ci_0 ?_
              refine tr_ret eX2_isUnfit_118 rfl (by first | rfl | exact nar_bi _) ?_
              refine ⟨congrArg some ?_, rfl⟩
              first | (refine bi_t ?_; simp_all [s_unf]; done) | (refine bi_f ?_; simp_all [s_unf]; done) | (exfalso; simp_all; done)
            · skip
              refine tr_iload eX2_isUnfit_94 rfl ?_
              refine tr_if_eq eX2_isUnfit_96 (fun h96 => ?_) (fun h96 => ?_)
              · skip
                try first | replace h96 := bi_0 h96 | replace h96 := bi_n h96
                refine tr_iconst eX2_isUnfit_117 (nI 0) ci_0 ?_
                refine tr_ret eX2_isUnfit_118 rfl (by first | rfl | exact nar_bi _) ?_
                refine ⟨congrArg some ?_, rfl⟩
                first | (refine bi_t ?_; simp_all [s_unf]; done) | (refine bi_f ?_; simp_all [s_unf]; done) | (exfalso; simp_all; done)
              · skip
                try first | replace h96 := bi_0 h96 | replace h96 := bi_n h96
                refine tr_iload_n eX2_isUnfit_99 rfl ?_
                refine tr_iload_n eX2_isUnfit_100 rfl ?_
                refine tr_sipush eX2_isUnfit_101 (nI 1320) (by decide) ?_
                refine tr_sipush eX2_isUnfit_104 (nI 1560) (by decide) ?_
                refine tr_se4 eX2_isUnfit_107 zv_X6_haveCommonMinute zs_X6_haveCommonMinute lk_X2_100 ⟨rfl, by decide, by decide⟩ rfl k_X6_haveCommonMinute ?_
                refine tr_if_eq eX2_isUnfit_110 (fun h110 => ?_) (fun h110 => ?_)
                · skip
                  try first | replace h110 := bi_0 h110 | replace h110 := bi_n h110
                  refine tr_iconst eX2_isUnfit_117 (nI 0) ci_0 ?_
                  refine tr_ret eX2_isUnfit_118 rfl (by first | rfl | exact nar_bi _) ?_
                  refine ⟨congrArg some ?_, rfl⟩
                  first | (refine bi_t ?_; simp_all [s_unf]; done) | (refine bi_f ?_; simp_all [s_unf]; done) | (exfalso; simp_all; done)
                · skip
                  try first | replace h110 := bi_0 h110 | replace h110 := bi_n h110
                  refine tr_iconst eX2_isUnfit_113 (nI 1) ci_1 ?_
                  refine tr_goto eX2_isUnfit_114 ?_
                  refine tr_ret eX2_isUnfit_118 rfl (by first | rfl | exact nar_bi _) ?_
                  refine ⟨congrArg some ?_, rfl⟩
                  first | (refine bi_t ?_; simp_all [s_unf]; done) | (refine bi_f ?_; simp_all [s_unf]; done) | (exfalso; simp_all; done)
          · skip
            refine tr_iload eX2_isUnfit_79 rfl ?_
            refine tr_if_eq eX2_isUnfit_81 (fun h81 => absurd h81 (by decide)) (fun _ => ?_)
            refine tr_iconst eX2_isUnfit_84 (nI 1) ci_1 ?_
            refine tr_ret eX2_isUnfit_85 rfl (by first | rfl | exact nar_bi _) ?_
            refine ⟨congrArg some ?_, rfl⟩
            first | (refine bi_t ?_; simp_all [s_unf]; done) | (refine bi_f ?_; simp_all [s_unf]; done) | (exfalso; simp_all; done)
        · skip
          refine tr_iload eX2_isUnfit_66 rfl ?_
          refine tr_if_ne eX2_isUnfit_68 (fun h68 => ?_) (fun h68 => ?_)
          · skip
            try first | replace h68 := bi_0 h68 | replace h68 := bi_n h68
            refine tr_iconst eX2_isUnfit_84 (nI 1) ci_1 ?_
            refine tr_ret eX2_isUnfit_85 rfl (by first | rfl | exact nar_bi _) ?_
            refine ⟨congrArg some ?_, rfl⟩
            first | (refine bi_t ?_; simp_all [s_unf]; done) | (refine bi_f ?_; simp_all [s_unf]; done) | (exfalso; simp_all; done)
          · skip
            try first | replace h68 := bi_0 h68 | replace h68 := bi_n h68
            refine tr_aload_n eX2_isUnfit_71 rfl ?_
            refine tr_getI eX2_isUnfit_72 fk_X2_40 rfl rfl ?_
            refine tr_iconst eX2_isUnfit_75 (nI 2) ci_2 ?_
            refine tr_icmp_ne eX2_isUnfit_76 (fun h76 => ?_) (fun h76 => ?_)
            · skip
              refine tr_aload_n eX2_isUnfit_86 rfl ?_
              refine tr_getI eX2_isUnfit_87 fk_X2_40 rfl rfl ?_
              refine tr_iconst eX2_isUnfit_90 (nI 4) ci_4 ?_
              refine tr_icmp_ne eX2_isUnfit_91 (fun h91 => ?_) (fun h91 => ?_)
              · skip
                refine tr_iconst eX2_isUnfit_117 (nI 0) ci_0 ?_
                refine tr_ret eX2_isUnfit_118 rfl (by first | rfl | exact nar_bi _) ?_
                refine ⟨congrArg some ?_, rfl⟩
                first | (refine bi_t ?_; simp_all [s_unf]; done) | (refine bi_f ?_; simp_all [s_unf]; done) | (exfalso; simp_all; done)
              · skip
                refine tr_iload eX2_isUnfit_94 rfl ?_
                refine tr_if_eq eX2_isUnfit_96 (fun h96 => ?_) (fun h96 => ?_)
                · skip
                  try first | replace h96 := bi_0 h96 | replace h96 := bi_n h96
                  refine tr_iconst eX2_isUnfit_117 (nI 0) ci_0 ?_
                  refine tr_ret eX2_isUnfit_118 rfl (by first | rfl | exact nar_bi _) ?_
                  refine ⟨congrArg some ?_, rfl⟩
                  first | (refine bi_t ?_; simp_all [s_unf]; done) | (refine bi_f ?_; simp_all [s_unf]; done) | (exfalso; simp_all; done)
                · skip
                  try first | replace h96 := bi_0 h96 | replace h96 := bi_n h96
                  refine tr_iload_n eX2_isUnfit_99 rfl ?_
                  refine tr_iload_n eX2_isUnfit_100 rfl ?_
                  refine tr_sipush eX2_isUnfit_101 (nI 1320) (by decide) ?_
                  refine tr_sipush eX2_isUnfit_104 (nI 1560) (by decide) ?_
                  refine tr_se4 eX2_isUnfit_107 zv_X6_haveCommonMinute zs_X6_haveCommonMinute lk_X2_100 ⟨rfl, by decide, by decide⟩ rfl k_X6_haveCommonMinute ?_
                  refine tr_if_eq eX2_isUnfit_110 (fun h110 => ?_) (fun h110 => ?_)
                  · skip
                    try first | replace h110 := bi_0 h110 | replace h110 := bi_n h110
                    refine tr_iconst eX2_isUnfit_117 (nI 0) ci_0 ?_
                    refine tr_ret eX2_isUnfit_118 rfl (by first | rfl | exact nar_bi _) ?_
                    refine ⟨congrArg some ?_, rfl⟩
                    first | (refine bi_t ?_; simp_all [s_unf]; done) | (refine bi_f ?_; simp_all [s_unf]; done) | (exfalso; simp_all; done)
                  · skip
                    try first | replace h110 := bi_0 h110 | replace h110 := bi_n h110
                    refine tr_iconst eX2_isUnfit_113 (nI 1) ci_1 ?_
                    refine tr_goto eX2_isUnfit_114 ?_
                    refine tr_ret eX2_isUnfit_118 rfl (by first | rfl | exact nar_bi _) ?_
                    refine ⟨congrArg some ?_, rfl⟩
                    first | (refine bi_t ?_; simp_all [s_unf]; done) | (refine bi_f ?_; simp_all [s_unf]; done) | (exfalso; simp_all; done)
            · skip
              refine tr_iload eX2_isUnfit_79 rfl ?_
              refine tr_if_eq eX2_isUnfit_81 (fun h81 => absurd h81 (by decide)) (fun _ => ?_)
              refine tr_iconst eX2_isUnfit_84 (nI 1) ci_1 ?_
              refine tr_ret eX2_isUnfit_85 rfl (by first | rfl | exact nar_bi _) ?_
              refine ⟨congrArg some ?_, rfl⟩
              first | (refine bi_t ?_; simp_all [s_unf]; done) | (refine bi_f ?_; simp_all [s_unf]; done) | (exfalso; simp_all; done)
      · skip
        refine tr_iload eX2_isUnfit_51 rfl ?_
        refine tr_if_ne eX2_isUnfit_53 (fun _ => ?_) (fun h53 => absurd h53 (by decide))
        refine tr_aload_n eX2_isUnfit_58 rfl ?_
        refine tr_getI eX2_isUnfit_59 fk_X2_40 rfl rfl ?_
        refine tr_iconst eX2_isUnfit_62 (nI 3) ci_3 ?_
        refine tr_icmp_ne eX2_isUnfit_63 (fun h63 => ?_) (fun h63 => ?_)
        · skip
          refine tr_aload_n eX2_isUnfit_71 rfl ?_
          refine tr_getI eX2_isUnfit_72 fk_X2_40 rfl rfl ?_
          refine tr_iconst eX2_isUnfit_75 (nI 2) ci_2 ?_
          refine tr_icmp_ne eX2_isUnfit_76 (fun h76 => ?_) (fun h76 => ?_)
          · skip
            refine tr_aload_n eX2_isUnfit_86 rfl ?_
            refine tr_getI eX2_isUnfit_87 fk_X2_40 rfl rfl ?_
            refine tr_iconst eX2_isUnfit_90 (nI 4) ci_4 ?_
            refine tr_icmp_ne eX2_isUnfit_91 (fun h91 => ?_) (fun h91 => ?_)
            · skip
              refine tr_iconst eX2_isUnfit_117 (nI 0) ci_0 ?_
              refine tr_ret eX2_isUnfit_118 rfl (by first | rfl | exact nar_bi _) ?_
              refine ⟨congrArg some ?_, rfl⟩
              first | (refine bi_t ?_; simp_all [s_unf]; done) | (refine bi_f ?_; simp_all [s_unf]; done) | (exfalso; simp_all; done)
            · skip
              refine tr_iload eX2_isUnfit_94 rfl ?_
              refine tr_if_eq eX2_isUnfit_96 (fun h96 => ?_) (fun h96 => ?_)
              · skip
                try first | replace h96 := bi_0 h96 | replace h96 := bi_n h96
                refine tr_iconst eX2_isUnfit_117 (nI 0) ci_0 ?_
                refine tr_ret eX2_isUnfit_118 rfl (by first | rfl | exact nar_bi _) ?_
                refine ⟨congrArg some ?_, rfl⟩
                first | (refine bi_t ?_; simp_all [s_unf]; done) | (refine bi_f ?_; simp_all [s_unf]; done) | (exfalso; simp_all; done)
              · skip
                try first | replace h96 := bi_0 h96 | replace h96 := bi_n h96
                refine tr_iload_n eX2_isUnfit_99 rfl ?_
                refine tr_iload_n eX2_isUnfit_100 rfl ?_
                refine tr_sipush eX2_isUnfit_101 (nI 1320) (by decide) ?_
                refine tr_sipush eX2_isUnfit_104 (nI 1560) (by decide) ?_
                refine tr_se4 eX2_isUnfit_107 zv_X6_haveCommonMinute zs_X6_haveCommonMinute lk_X2_100 ⟨rfl, by decide, by decide⟩ rfl k_X6_haveCommonMinute ?_
                refine tr_if_eq eX2_isUnfit_110 (fun h110 => ?_) (fun h110 => ?_)
                · skip
                  try first | replace h110 := bi_0 h110 | replace h110 := bi_n h110
                  refine tr_iconst eX2_isUnfit_117 (nI 0) ci_0 ?_
                  refine tr_ret eX2_isUnfit_118 rfl (by first | rfl | exact nar_bi _) ?_
                  refine ⟨congrArg some ?_, rfl⟩
                  first | (refine bi_t ?_; simp_all [s_unf]; done) | (refine bi_f ?_; simp_all [s_unf]; done) | (exfalso; simp_all; done)
                · skip
                  try first | replace h110 := bi_0 h110 | replace h110 := bi_n h110
                  refine tr_iconst eX2_isUnfit_113 (nI 1) ci_1 ?_
                  refine tr_goto eX2_isUnfit_114 ?_
                  refine tr_ret eX2_isUnfit_118 rfl (by first | rfl | exact nar_bi _) ?_
                  refine ⟨congrArg some ?_, rfl⟩
                  first | (refine bi_t ?_; simp_all [s_unf]; done) | (refine bi_f ?_; simp_all [s_unf]; done) | (exfalso; simp_all; done)
          · skip
            refine tr_iload eX2_isUnfit_79 rfl ?_
            refine tr_if_eq eX2_isUnfit_81 (fun h81 => absurd h81 (by decide)) (fun _ => ?_)
            refine tr_iconst eX2_isUnfit_84 (nI 1) ci_1 ?_
            refine tr_ret eX2_isUnfit_85 rfl (by first | rfl | exact nar_bi _) ?_
            refine ⟨congrArg some ?_, rfl⟩
            first | (refine bi_t ?_; simp_all [s_unf]; done) | (refine bi_f ?_; simp_all [s_unf]; done) | (exfalso; simp_all; done)
        · skip
          refine tr_iload eX2_isUnfit_66 rfl ?_
          refine tr_if_ne eX2_isUnfit_68 (fun h68 => ?_) (fun h68 => ?_)
          · skip
            try first | replace h68 := bi_0 h68 | replace h68 := bi_n h68
            refine tr_iconst eX2_isUnfit_84 (nI 1) ci_1 ?_
            refine tr_ret eX2_isUnfit_85 rfl (by first | rfl | exact nar_bi _) ?_
            refine ⟨congrArg some ?_, rfl⟩
            first | (refine bi_t ?_; simp_all [s_unf]; done) | (refine bi_f ?_; simp_all [s_unf]; done) | (exfalso; simp_all; done)
          · skip
            try first | replace h68 := bi_0 h68 | replace h68 := bi_n h68
            refine tr_aload_n eX2_isUnfit_71 rfl ?_
            refine tr_getI eX2_isUnfit_72 fk_X2_40 rfl rfl ?_
            refine tr_iconst eX2_isUnfit_75 (nI 2) ci_2 ?_
            refine tr_icmp_ne eX2_isUnfit_76 (fun h76 => ?_) (fun h76 => ?_)
            · skip
              refine tr_aload_n eX2_isUnfit_86 rfl ?_
              refine tr_getI eX2_isUnfit_87 fk_X2_40 rfl rfl ?_
              refine tr_iconst eX2_isUnfit_90 (nI 4) ci_4 ?_
              refine tr_icmp_ne eX2_isUnfit_91 (fun h91 => ?_) (fun h91 => ?_)
              · skip
                refine tr_iconst eX2_isUnfit_117 (nI 0) ci_0 ?_
                refine tr_ret eX2_isUnfit_118 rfl (by first | rfl | exact nar_bi _) ?_
                refine ⟨congrArg some ?_, rfl⟩
                first | (refine bi_t ?_; simp_all [s_unf]; done) | (refine bi_f ?_; simp_all [s_unf]; done) | (exfalso; simp_all; done)
              · skip
                refine tr_iload eX2_isUnfit_94 rfl ?_
                refine tr_if_eq eX2_isUnfit_96 (fun h96 => ?_) (fun h96 => ?_)
                · skip
                  try first | replace h96 := bi_0 h96 | replace h96 := bi_n h96
                  refine tr_iconst eX2_isUnfit_117 (nI 0) ci_0 ?_
                  refine tr_ret eX2_isUnfit_118 rfl (by first | rfl | exact nar_bi _) ?_
                  refine ⟨congrArg some ?_, rfl⟩
                  first | (refine bi_t ?_; simp_all [s_unf]; done) | (refine bi_f ?_; simp_all [s_unf]; done) | (exfalso; simp_all; done)
                · skip
                  try first | replace h96 := bi_0 h96 | replace h96 := bi_n h96
                  refine tr_iload_n eX2_isUnfit_99 rfl ?_
                  refine tr_iload_n eX2_isUnfit_100 rfl ?_
                  refine tr_sipush eX2_isUnfit_101 (nI 1320) (by decide) ?_
                  refine tr_sipush eX2_isUnfit_104 (nI 1560) (by decide) ?_
                  refine tr_se4 eX2_isUnfit_107 zv_X6_haveCommonMinute zs_X6_haveCommonMinute lk_X2_100 ⟨rfl, by decide, by decide⟩ rfl k_X6_haveCommonMinute ?_
                  refine tr_if_eq eX2_isUnfit_110 (fun h110 => ?_) (fun h110 => ?_)
                  · skip
                    try first | replace h110 := bi_0 h110 | replace h110 := bi_n h110
                    refine tr_iconst eX2_isUnfit_117 (nI 0) ci_0 ?_
                    refine tr_ret eX2_isUnfit_118 rfl (by first | rfl | exact nar_bi _) ?_
                    refine ⟨congrArg some ?_, rfl⟩
                    first | (refine bi_t ?_; simp_all [s_unf]; done) | (refine bi_f ?_; simp_all [s_unf]; done) | (exfalso; simp_all; done)
                  · skip
                    try first | replace h110 := bi_0 h110 | replace h110 := bi_n h110
                    refine tr_iconst eX2_isUnfit_113 (nI 1) ci_1 ?_
                    refine tr_goto eX2_isUnfit_114 ?_
                    refine tr_ret eX2_isUnfit_118 rfl (by first | rfl | exact nar_bi _) ?_
                    refine ⟨congrArg some ?_, rfl⟩
                    first | (refine bi_t ?_; simp_all [s_unf]; done) | (refine bi_f ?_; simp_all [s_unf]; done) | (exfalso; simp_all; done)
            · skip
              refine tr_iload eX2_isUnfit_79 rfl ?_
              refine tr_if_eq eX2_isUnfit_81 (fun h81 => absurd h81 (by decide)) (fun _ => ?_)
              refine tr_iconst eX2_isUnfit_84 (nI 1) ci_1 ?_
              refine tr_ret eX2_isUnfit_85 rfl (by first | rfl | exact nar_bi _) ?_
              refine ⟨congrArg some ?_, rfl⟩
              first | (refine bi_t ?_; simp_all [s_unf]; done) | (refine bi_f ?_; simp_all [s_unf]; done) | (exfalso; simp_all; done)
    · skip
      refine tr_iload eX2_isUnfit_38 rfl ?_
      refine tr_if_eq eX2_isUnfit_40 (fun h40 => ?_) (fun h40 => ?_)
      · skip
        try first | replace h40 := bi_0 h40 | replace h40 := bi_n h40
        refine tr_iconst eX2_isUnfit_56 (nI 1) ci_1 ?_
        refine tr_ret eX2_isUnfit_57 rfl (by first | rfl | exact nar_bi _) ?_
        refine ⟨congrArg some ?_, rfl⟩
        first | (refine bi_t ?_; simp_all [s_unf]; done) | (refine bi_f ?_; simp_all [s_unf]; done) | (exfalso; simp_all; done)
      · skip
        try first | replace h40 := bi_0 h40 | replace h40 := bi_n h40
        refine tr_aload_n eX2_isUnfit_43 rfl ?_
        refine tr_getI eX2_isUnfit_44 fk_X2_52 rfl rfl ?_
        refine tr_iconst eX2_isUnfit_47 (nI 2) ci_2 ?_
        refine tr_icmp_ne eX2_isUnfit_48 (fun h48 => ?_) (fun h48 => ?_)
        · skip
          refine tr_aload_n eX2_isUnfit_58 rfl ?_
          refine tr_getI eX2_isUnfit_59 fk_X2_40 rfl rfl ?_
          refine tr_iconst eX2_isUnfit_62 (nI 3) ci_3 ?_
          refine tr_icmp_ne eX2_isUnfit_63 (fun h63 => ?_) (fun h63 => ?_)
          · skip
            refine tr_aload_n eX2_isUnfit_71 rfl ?_
            refine tr_getI eX2_isUnfit_72 fk_X2_40 rfl rfl ?_
            refine tr_iconst eX2_isUnfit_75 (nI 2) ci_2 ?_
            refine tr_icmp_ne eX2_isUnfit_76 (fun h76 => ?_) (fun h76 => ?_)
            · skip
              refine tr_aload_n eX2_isUnfit_86 rfl ?_
              refine tr_getI eX2_isUnfit_87 fk_X2_40 rfl rfl ?_
              refine tr_iconst eX2_isUnfit_90 (nI 4) ci_4 ?_
              refine tr_icmp_ne eX2_isUnfit_91 (fun h91 => ?_) (fun h91 => ?_)
              · skip
                refine tr_iconst eX2_isUnfit_117 (nI 0) ci_0 ?_
                refine tr_ret eX2_isUnfit_118 rfl (by first | rfl | exact nar_bi _) ?_
                refine ⟨congrArg some ?_, rfl⟩
                first | (refine bi_t ?_; simp_all [s_unf]; done) | (refine bi_f ?_; simp_all [s_unf]; done) | (exfalso; simp_all; done)
              · skip
                refine tr_iload eX2_isUnfit_94 rfl ?_
                refine tr_if_eq eX2_isUnfit_96 (fun h96 => ?_) (fun h96 => ?_)
                · skip
                  try first | replace h96 := bi_0 h96 | replace h96 := bi_n h96
                  refine tr_iconst eX2_isUnfit_117 (nI 0) ci_0 ?_
                  refine tr_ret eX2_isUnfit_118 rfl (by first | rfl | exact nar_bi _) ?_
                  refine ⟨congrArg some ?_, rfl⟩
                  first | (refine bi_t ?_; simp_all [s_unf]; done) | (refine bi_f ?_; simp_all [s_unf]; done) | (exfalso; simp_all; done)
                · skip
                  try first | replace h96 := bi_0 h96 | replace h96 := bi_n h96
                  refine tr_iload_n eX2_isUnfit_99 rfl ?_
                  refine tr_iload_n eX2_isUnfit_100 rfl ?_
                  refine tr_sipush eX2_isUnfit_101 (nI 1320) (by decide) ?_
                  refine tr_sipush eX2_isUnfit_104 (nI 1560) (by decide) ?_
                  refine tr_se4 eX2_isUnfit_107 zv_X6_haveCommonMinute zs_X6_haveCommonMinute lk_X2_100 ⟨rfl, by decide, by decide⟩ rfl k_X6_haveCommonMinute ?_
                  refine tr_if_eq eX2_isUnfit_110 (fun h110 => ?_) (fun h110 => ?_)
                  · skip
                    try first | replace h110 := bi_0 h110 | replace h110 := bi_n h110
                    refine tr_iconst eX2_isUnfit_117 (nI 0) ci_0 ?_
                    refine tr_ret eX2_isUnfit_118 rfl (by first | rfl | exact nar_bi _) ?_
                    refine ⟨congrArg some ?_, rfl⟩
                    first | (refine bi_t ?_; simp_all [s_unf]; done) | (refine bi_f ?_; simp_all [s_unf]; done) | (exfalso; simp_all; done)
                  · skip
                    try first | replace h110 := bi_0 h110 | replace h110 := bi_n h110
                    refine tr_iconst eX2_isUnfit_113 (nI 1) ci_1 ?_
                    refine tr_goto eX2_isUnfit_114 ?_
                    refine tr_ret eX2_isUnfit_118 rfl (by first | rfl | exact nar_bi _) ?_
                    refine ⟨congrArg some ?_, rfl⟩
                    first | (refine bi_t ?_; simp_all [s_unf]; done) | (refine bi_f ?_; simp_all [s_unf]; done) | (exfalso; simp_all; done)
            · skip
              refine tr_iload eX2_isUnfit_79 rfl ?_
              refine tr_if_eq eX2_isUnfit_81 (fun h81 => absurd h81 (by decide)) (fun _ => ?_)
              refine tr_iconst eX2_isUnfit_84 (nI 1) ci_1 ?_
              refine tr_ret eX2_isUnfit_85 rfl (by first | rfl | exact nar_bi _) ?_
              refine ⟨congrArg some ?_, rfl⟩
              first | (refine bi_t ?_; simp_all [s_unf]; done) | (refine bi_f ?_; simp_all [s_unf]; done) | (exfalso; simp_all; done)
          · skip
            refine tr_iload eX2_isUnfit_66 rfl ?_
            refine tr_if_ne eX2_isUnfit_68 (fun h68 => ?_) (fun h68 => ?_)
            · skip
              try first | replace h68 := bi_0 h68 | replace h68 := bi_n h68
              refine tr_iconst eX2_isUnfit_84 (nI 1) ci_1 ?_
              refine tr_ret eX2_isUnfit_85 rfl (by first | rfl | exact nar_bi _) ?_
              refine ⟨congrArg some ?_, rfl⟩
              first | (refine bi_t ?_; simp_all [s_unf]; done) | (refine bi_f ?_; simp_all [s_unf]; done) | (exfalso; simp_all; done)
            · skip
              try first | replace h68 := bi_0 h68 | replace h68 := bi_n h68
              refine tr_aload_n eX2_isUnfit_71 rfl ?_
              refine tr_getI eX2_isUnfit_72 fk_X2_40 rfl rfl ?_
              refine tr_iconst eX2_isUnfit_75 (nI 2) ci_2 ?_
              refine tr_icmp_ne eX2_isUnfit_76 (fun h76 => ?_) (fun h76 => ?_)
              · skip
                refine tr_aload_n eX2_isUnfit_86 rfl ?_
                refine tr_getI eX2_isUnfit_87 fk_X2_40 rfl rfl ?_
                refine tr_iconst eX2_isUnfit_90 (nI 4) ci_4 ?_
                refine tr_icmp_ne eX2_isUnfit_91 (fun h91 => ?_) (fun h91 => ?_)
                · skip
                  refine tr_iconst eX2_isUnfit_117 (nI 0) ci_0 ?_
                  refine tr_ret eX2_isUnfit_118 rfl (by first | rfl | exact nar_bi _) ?_
                  refine ⟨congrArg some ?_, rfl⟩
                  first | (refine bi_t ?_; simp_all [s_unf]; done) | (refine bi_f ?_; simp_all [s_unf]; done) | (exfalso; simp_all; done)
                · skip
                  refine tr_iload eX2_isUnfit_94 rfl ?_
                  refine tr_if_eq eX2_isUnfit_96 (fun h96 => ?_) (fun h96 => ?_)
                  · skip
                    try first | replace h96 := bi_0 h96 | replace h96 := bi_n h96
                    refine tr_iconst eX2_isUnfit_117 (nI 0) ci_0 ?_
                    refine tr_ret eX2_isUnfit_118 rfl (by first | rfl | exact nar_bi _) ?_
                    refine ⟨congrArg some ?_, rfl⟩
                    first | (refine bi_t ?_; simp_all [s_unf]; done) | (refine bi_f ?_; simp_all [s_unf]; done) | (exfalso; simp_all; done)
                  · skip
                    try first | replace h96 := bi_0 h96 | replace h96 := bi_n h96
                    refine tr_iload_n eX2_isUnfit_99 rfl ?_
                    refine tr_iload_n eX2_isUnfit_100 rfl ?_
                    refine tr_sipush eX2_isUnfit_101 (nI 1320) (by decide) ?_
                    refine tr_sipush eX2_isUnfit_104 (nI 1560) (by decide) ?_
                    refine tr_se4 eX2_isUnfit_107 zv_X6_haveCommonMinute zs_X6_haveCommonMinute lk_X2_100 ⟨rfl, by decide, by decide⟩ rfl k_X6_haveCommonMinute ?_
                    refine tr_if_eq eX2_isUnfit_110 (fun h110 => ?_) (fun h110 => ?_)
                    · skip
                      try first | replace h110 := bi_0 h110 | replace h110 := bi_n h110
                      refine tr_iconst eX2_isUnfit_117 (nI 0) ci_0 ?_
                      refine tr_ret eX2_isUnfit_118 rfl (by first | rfl | exact nar_bi _) ?_
                      refine ⟨congrArg some ?_, rfl⟩
                      first | (refine bi_t ?_; simp_all [s_unf]; done) | (refine bi_f ?_; simp_all [s_unf]; done) | (exfalso; simp_all; done)
                    · skip
                      try first | replace h110 := bi_0 h110 | replace h110 := bi_n h110
                      refine tr_iconst eX2_isUnfit_113 (nI 1) ci_1 ?_
                      refine tr_goto eX2_isUnfit_114 ?_
                      refine tr_ret eX2_isUnfit_118 rfl (by first | rfl | exact nar_bi _) ?_
                      refine ⟨congrArg some ?_, rfl⟩
                      first | (refine bi_t ?_; simp_all [s_unf]; done) | (refine bi_f ?_; simp_all [s_unf]; done) | (exfalso; simp_all; done)
              · skip
                refine tr_iload eX2_isUnfit_79 rfl ?_
                refine tr_if_eq eX2_isUnfit_81 (fun h81 => absurd h81 (by decide)) (fun _ => ?_)
                refine tr_iconst eX2_isUnfit_84 (nI 1) ci_1 ?_
                refine tr_ret eX2_isUnfit_85 rfl (by first | rfl | exact nar_bi _) ?_
                refine ⟨congrArg some ?_, rfl⟩
                first | (refine bi_t ?_; simp_all [s_unf]; done) | (refine bi_f ?_; simp_all [s_unf]; done) | (exfalso; simp_all; done)
        · skip
          refine tr_iload eX2_isUnfit_51 rfl ?_
          refine tr_if_ne eX2_isUnfit_53 (fun _ => ?_) (fun h53 => absurd h53 (by decide))
          refine tr_aload_n eX2_isUnfit_58 rfl ?_
          refine tr_getI eX2_isUnfit_59 fk_X2_40 rfl rfl ?_
          refine tr_iconst eX2_isUnfit_62 (nI 3) ci_3 ?_
          refine tr_icmp_ne eX2_isUnfit_63 (fun h63 => ?_) (fun h63 => ?_)
          · skip
            refine tr_aload_n eX2_isUnfit_71 rfl ?_
            refine tr_getI eX2_isUnfit_72 fk_X2_40 rfl rfl ?_
            refine tr_iconst eX2_isUnfit_75 (nI 2) ci_2 ?_
            refine tr_icmp_ne eX2_isUnfit_76 (fun h76 => ?_) (fun h76 => ?_)
            · skip
              refine tr_aload_n eX2_isUnfit_86 rfl ?_
              refine tr_getI eX2_isUnfit_87 fk_X2_40 rfl rfl ?_
              refine tr_iconst eX2_isUnfit_90 (nI 4) ci_4 ?_
              refine tr_icmp_ne eX2_isUnfit_91 (fun h91 => ?_) (fun h91 => ?_)
              · skip
                refine tr_iconst eX2_isUnfit_117 (nI 0) ci_0 ?_
                refine tr_ret eX2_isUnfit_118 rfl (by first | rfl | exact nar_bi _) ?_
                refine ⟨congrArg some ?_, rfl⟩
                first | (refine bi_t ?_; simp_all [s_unf]; done) | (refine bi_f ?_; simp_all [s_unf]; done) | (exfalso; simp_all; done)
              · skip
                refine tr_iload eX2_isUnfit_94 rfl ?_
                refine tr_if_eq eX2_isUnfit_96 (fun h96 => ?_) (fun h96 => ?_)
                · skip
                  try first | replace h96 := bi_0 h96 | replace h96 := bi_n h96
                  refine tr_iconst eX2_isUnfit_117 (nI 0) ci_0 ?_
                  refine tr_ret eX2_isUnfit_118 rfl (by first | rfl | exact nar_bi _) ?_
                  refine ⟨congrArg some ?_, rfl⟩
                  first | (refine bi_t ?_; simp_all [s_unf]; done) | (refine bi_f ?_; simp_all [s_unf]; done) | (exfalso; simp_all; done)
                · skip
                  try first | replace h96 := bi_0 h96 | replace h96 := bi_n h96
                  refine tr_iload_n eX2_isUnfit_99 rfl ?_
                  refine tr_iload_n eX2_isUnfit_100 rfl ?_
                  refine tr_sipush eX2_isUnfit_101 (nI 1320) (by decide) ?_
                  refine tr_sipush eX2_isUnfit_104 (nI 1560) (by decide) ?_
                  refine tr_se4 eX2_isUnfit_107 zv_X6_haveCommonMinute zs_X6_haveCommonMinute lk_X2_100 ⟨rfl, by decide, by decide⟩ rfl k_X6_haveCommonMinute ?_
                  refine tr_if_eq eX2_isUnfit_110 (fun h110 => ?_) (fun h110 => ?_)
                  · skip
                    try first | replace h110 := bi_0 h110 | replace h110 := bi_n h110
                    refine tr_iconst eX2_isUnfit_117 (nI 0) ci_0 ?_
                    refine tr_ret eX2_isUnfit_118 rfl (by first | rfl | exact nar_bi _) ?_
                    refine ⟨congrArg some ?_, rfl⟩
                    first | (refine bi_t ?_; simp_all [s_unf]; done) | (refine bi_f ?_; simp_all [s_unf]; done) | (exfalso; simp_all; done)
                  · skip
                    try first | replace h110 := bi_0 h110 | replace h110 := bi_n h110
                    refine tr_iconst eX2_isUnfit_113 (nI 1) ci_1 ?_
                    refine tr_goto eX2_isUnfit_114 ?_
                    refine tr_ret eX2_isUnfit_118 rfl (by first | rfl | exact nar_bi _) ?_
                    refine ⟨congrArg some ?_, rfl⟩
                    first | (refine bi_t ?_; simp_all [s_unf]; done) | (refine bi_f ?_; simp_all [s_unf]; done) | (exfalso; simp_all; done)
            · skip
              refine tr_iload eX2_isUnfit_79 rfl ?_
              refine tr_if_eq eX2_isUnfit_81 (fun h81 => absurd h81 (by decide)) (fun _ => ?_)
              refine tr_iconst eX2_isUnfit_84 (nI 1) ci_1 ?_
              refine tr_ret eX2_isUnfit_85 rfl (by first | rfl | exact nar_bi _) ?_
              refine ⟨congrArg some ?_, rfl⟩
              first | (refine bi_t ?_; simp_all [s_unf]; done) | (refine bi_f ?_; simp_all [s_unf]; done) | (exfalso; simp_all; done)
          · skip
            refine tr_iload eX2_isUnfit_66 rfl ?_
            refine tr_if_ne eX2_isUnfit_68 (fun h68 => ?_) (fun h68 => ?_)
            · skip
              try first | replace h68 := bi_0 h68 | replace h68 := bi_n h68
              refine tr_iconst eX2_isUnfit_84 (nI 1) ci_1 ?_
              refine tr_ret eX2_isUnfit_85 rfl (by first | rfl | exact nar_bi _) ?_
              refine ⟨congrArg some ?_, rfl⟩
              first | (refine bi_t ?_; simp_all [s_unf]; done) | (refine bi_f ?_; simp_all [s_unf]; done) | (exfalso; simp_all; done)
            · skip
              try first | replace h68 := bi_0 h68 | replace h68 := bi_n h68
              refine tr_aload_n eX2_isUnfit_71 rfl ?_
              refine tr_getI eX2_isUnfit_72 fk_X2_40 rfl rfl ?_
              refine tr_iconst eX2_isUnfit_75 (nI 2) ci_2 ?_
              refine tr_icmp_ne eX2_isUnfit_76 (fun h76 => ?_) (fun h76 => ?_)
              · skip
                refine tr_aload_n eX2_isUnfit_86 rfl ?_
                refine tr_getI eX2_isUnfit_87 fk_X2_40 rfl rfl ?_
                refine tr_iconst eX2_isUnfit_90 (nI 4) ci_4 ?_
                refine tr_icmp_ne eX2_isUnfit_91 (fun h91 => ?_) (fun h91 => ?_)
                · skip
                  refine tr_iconst eX2_isUnfit_117 (nI 0) ci_0 ?_
                  refine tr_ret eX2_isUnfit_118 rfl (by first | rfl | exact nar_bi _) ?_
                  refine ⟨congrArg some ?_, rfl⟩
                  first | (refine bi_t ?_; simp_all [s_unf]; done) | (refine bi_f ?_; simp_all [s_unf]; done) | (exfalso; simp_all; done)
                · skip
                  refine tr_iload eX2_isUnfit_94 rfl ?_
                  refine tr_if_eq eX2_isUnfit_96 (fun h96 => ?_) (fun h96 => ?_)
                  · skip
                    try first | replace h96 := bi_0 h96 | replace h96 := bi_n h96
                    refine tr_iconst eX2_isUnfit_117 (nI 0) ci_0 ?_
                    refine tr_ret eX2_isUnfit_118 rfl (by first | rfl | exact nar_bi _) ?_
                    refine ⟨congrArg some ?_, rfl⟩
                    first | (refine bi_t ?_; simp_all [s_unf]; done) | (refine bi_f ?_; simp_all [s_unf]; done) | (exfalso; simp_all; done)
                  · skip
                    try first | replace h96 := bi_0 h96 | replace h96 := bi_n h96
                    refine tr_iload_n eX2_isUnfit_99 rfl ?_
                    refine tr_iload_n eX2_isUnfit_100 rfl ?_
                    refine tr_sipush eX2_isUnfit_101 (nI 1320) (by decide) ?_
                    refine tr_sipush eX2_isUnfit_104 (nI 1560) (by decide) ?_
                    refine tr_se4 eX2_isUnfit_107 zv_X6_haveCommonMinute zs_X6_haveCommonMinute lk_X2_100 ⟨rfl, by decide, by decide⟩ rfl k_X6_haveCommonMinute ?_
                    refine tr_if_eq eX2_isUnfit_110 (fun h110 => ?_) (fun h110 => ?_)
                    · skip
                      try first | replace h110 := bi_0 h110 | replace h110 := bi_n h110
                      refine tr_iconst eX2_isUnfit_117 (nI 0) ci_0 ?_
                      refine tr_ret eX2_isUnfit_118 rfl (by first | rfl | exact nar_bi _) ?_
                      refine ⟨congrArg some ?_, rfl⟩
                      first | (refine bi_t ?_; simp_all [s_unf]; done) | (refine bi_f ?_; simp_all [s_unf]; done) | (exfalso; simp_all; done)
                    · skip
                      try first | replace h110 := bi_0 h110 | replace h110 := bi_n h110
                      refine tr_iconst eX2_isUnfit_113 (nI 1) ci_1 ?_
                      refine tr_goto eX2_isUnfit_114 ?_
                      refine tr_ret eX2_isUnfit_118 rfl (by first | rfl | exact nar_bi _) ?_
                      refine ⟨congrArg some ?_, rfl⟩
                      first | (refine bi_t ?_; simp_all [s_unf]; done) | (refine bi_f ?_; simp_all [s_unf]; done) | (exfalso; simp_all; done)
              · skip
                refine tr_iload eX2_isUnfit_79 rfl ?_
                refine tr_if_eq eX2_isUnfit_81 (fun h81 => absurd h81 (by decide)) (fun _ => ?_)
                refine tr_iconst eX2_isUnfit_84 (nI 1) ci_1 ?_
                refine tr_ret eX2_isUnfit_85 rfl (by first | rfl | exact nar_bi _) ?_
                refine ⟨congrArg some ?_, rfl⟩
                first | (refine bi_t ?_; simp_all [s_unf]; done) | (refine bi_f ?_; simp_all [s_unf]; done) | (exfalso; simp_all; done)

abbrev s_agX (σ : tSt) (n nC nV : Nat) (s a b : Int32) : Int32 × Int32 := s_ag σ n nC nV (s_oth σ) (σ 19 (nI 4)) (σ 19 (nI 5)) (σ 19 (nI 6)) s a b
theorem k_X2_against {σ : tSt} {s a b : Int32} {n nC nV : Nat} (hs : vp_in s 24) (hV : σ 18 (nI 6) = nI nV) (hV40 : nV ≤ 40) (hcc : cOK σ) (hn : σ 17 (nI 10) = nI n) (hb : n ≤ 40) (hC : σ 17 (nI 11) = nI nC) (hC20 : nC ≤ 20) : CT mX2_against [.ref 19, .int s, .int a, .int b] σ (PE (some (s_agX σ n nC nV s a b).1) (up σ 19 (nI 7) (s_agX σ n nC nV s a b).2)) := by
  refine CT.of2 0 (by decide) rfl rfl ?_
  refine tr_aload_n eX2_against_0 rfl ?_
  refine tr_iconst eX2_against_1 (-1) ci_m1 ?_
  refine tr_put eX2_against_2 fp_X2_23 rfl rfl ?_
  refine tr_aload_n eX2_against_5 rfl ?_
  refine tr_getI eX2_against_6 fk_X2_46 rfl rfl ?_
  try simp (disch := decide) only [up_k, up_s, up_f]
  refine tr_aload_n eX2_against_9 rfl ?_
  refine tr_getR eX2_against_10 fk_X2_15 rfl rfl ?_
  refine tr_getR eX2_against_13 fk_X2_74 rfl rfl ?_
  refine tr_iload_n eX2_against_16 rfl ?_
  refine tr_iald eX2_against_17 rfl hs ?_
  try simp (disch := decide) only [up_k, up_s, up_f]
  refine tr_icmp_le eX2_against_18 (fun h18 => ?_) (fun h18 => ?_)
  · skip
    refine tr_aload_n eX2_against_23 rfl ?_
    refine tr_iload_n eX2_against_24 rfl ?_
    refine tr_iload_n eX2_against_25 rfl ?_
    refine tr_iload_n eX2_against_26 rfl ?_
    refine tr_ce3 eX2_against_27 zv_X2_isUnfit zi_X2_isUnfit lk_X2_84 ⟨rfl, by decide, by decide⟩ rfl rfl rfl (show CT mX2_isUnfit _ _ (PE (some (bi (s_unf σ (σ 19 (nI 4)) (σ 19 (nI 6)) s a b = true))) _) from k_X2_isUnfit hs) ?_
    try simp (disch := decide) only [up_k, up_s, up_f]
    refine tr_if_eq eX2_against_30 (fun h30 => ?_) (fun h30 => ?_)
    · skip
      try first | replace h30 := bi_0 h30 | replace h30 := bi_n h30
      refine tr_aload_n eX2_against_35 rfl ?_
      refine tr_aload_n eX2_against_36 rfl ?_
      refine tr_iload_n eX2_against_37 rfl ?_
      refine tr_iload_n eX2_against_38 rfl ?_
      refine tr_iload_n eX2_against_39 rfl ?_
      refine tr_ce3 eX2_against_40 zv_X2_firstNeighbour zi_X2_firstNeighbour lk_X2_88 ⟨rfl, by decide, by decide⟩ rfl rfl rfl (show CT mX2_firstNeighbour _ _ (PE (some (s_fn σ n nV (s_oth σ) (σ 19 (nI 5)) s a b)) _) from k_X2_firstNeighbour hV hV40 hcc hn hb) ?_
      try simp (disch := decide) only [up_k, up_s, up_f]
      refine tr_put eX2_against_43 fp_X2_23 rfl rfl ?_
      refine tr_aload_n eX2_against_46 rfl ?_
      refine tr_getI eX2_against_47 fk_X2_23 rfl rfl ?_
      try simp (disch := decide) only [up_k, up_s, up_f]
      refine tr_iconst eX2_against_50 (-1) ci_m1 ?_
      refine tr_icmp_eq eX2_against_51 (fun h51 => ?_) (fun h51 => ?_)
      · skip
        refine tr_aload_n eX2_against_56 rfl ?_
        refine tr_aload_n eX2_against_57 rfl ?_
        refine tr_getR eX2_against_58 fk_X2_15 rfl rfl ?_
        refine tr_iload_n eX2_against_61 rfl ?_
        refine tr_iload_n eX2_against_62 rfl ?_
        refine tr_iload_n eX2_against_63 rfl ?_
        refine tr_ce3 eX2_against_64 zv_X1_firstCone zi_X1_firstCone lk_X2_91 ⟨rfl, by decide, by decide⟩ rfl rfl rfl (show CT mX1_firstCone _ _ (PE (some (s_fc σ nC s a b)) _) from k_X1_firstCone hC hC20) ?_
        try simp (disch := decide) only [up_k, up_s, up_f]
        refine tr_put eX2_against_67 fp_X2_23 rfl rfl ?_
        refine tr_aload_n eX2_against_70 rfl ?_
        refine tr_getI eX2_against_71 fk_X2_23 rfl rfl ?_
        try simp (disch := decide) only [up_k, up_s, up_f]
        refine tr_iconst eX2_against_74 (-1) ci_m1 ?_
        refine tr_icmp_eq eX2_against_75 (fun h75 => ?_) (fun h75 => ?_)
        · skip
          refine tr_aload_n eX2_against_80 rfl ?_
          refine tr_aload_n eX2_against_81 rfl ?_
          refine tr_iload_n eX2_against_82 rfl ?_
          refine tr_iload_n eX2_against_83 rfl ?_
          refine tr_iload_n eX2_against_84 rfl ?_
          refine tr_ce3 eX2_against_85 zv_X2_firstTaker zi_X2_firstTaker lk_X2_94 ⟨rfl, by decide, by decide⟩ rfl rfl rfl (show CT mX2_firstTaker _ _ (PE (some (s_ft σ nV (s_oth σ) (σ 19 (nI 5)) s a b)) _) from k_X2_firstTaker hs hV hV40 hcc) ?_
          try simp (disch := decide) only [up_k, up_s, up_f]
          refine tr_put eX2_against_88 fp_X2_23 rfl rfl ?_
          refine tr_aload_n eX2_against_91 rfl ?_
          refine tr_getI eX2_against_92 fk_X2_23 rfl rfl ?_
          try simp (disch := decide) only [up_k, up_s, up_f]
          refine tr_iconst eX2_against_95 (-1) ci_m1 ?_
          refine tr_icmp_eq eX2_against_96 (fun h96 => ?_) (fun h96 => ?_)
          · skip
            refine tr_iconst eX2_against_103 (nI 0) ci_0 ?_
            refine tr_ret eX2_against_104 rfl rfl ?_
            have g18 : ¬ σ 2 s < σ 19 (nI 5) := Int32.not_lt.mpr h18
            have e : s_agX σ n nC nV s a b = (nI 0, -1) := by rw [s_agX, s_ag, if_neg g18, if_neg h30, if_neg (fun q => q h51), if_neg (fun q => q h75), if_neg (fun q => q h96)]
            exact ⟨by rw [e], by rw [e, up_up, up_up, up_up, h96]⟩
          · skip
            refine tr_iconst eX2_against_99 (nI 5) ci_5 ?_
            refine tr_goto eX2_against_100 ?_
            refine tr_ret eX2_against_104 rfl rfl ?_
            have g18 : ¬ σ 2 s < σ 19 (nI 5) := Int32.not_lt.mpr h18
            have e : s_agX σ n nC nV s a b = (nI 5, s_ft σ nV (s_oth σ) (σ 19 (nI 5)) s a b) := by rw [s_agX, s_ag, if_neg g18, if_neg h30, if_neg (fun q => q h51), if_neg (fun q => q h75), if_pos h96]
            exact ⟨by rw [e], by rw [e, up_up, up_up, up_up]⟩
        · skip
          refine tr_iconst eX2_against_78 (nI 4) ci_4 ?_
          refine tr_ret eX2_against_79 rfl rfl ?_
          have g18 : ¬ σ 2 s < σ 19 (nI 5) := Int32.not_lt.mpr h18
          have e : s_agX σ n nC nV s a b = (nI 4, s_fc σ nC s a b) := by rw [s_agX, s_ag, if_neg g18, if_neg h30, if_neg (fun q => q h51), if_pos h75]
          exact ⟨by rw [e], by rw [e, up_up, up_up]⟩
      · skip
        refine tr_iconst eX2_against_54 (nI 3) ci_3 ?_
        refine tr_ret eX2_against_55 rfl rfl ?_
        have g18 : ¬ σ 2 s < σ 19 (nI 5) := Int32.not_lt.mpr h18
        have e : s_agX σ n nC nV s a b = (nI 3, s_fn σ n nV (s_oth σ) (σ 19 (nI 5)) s a b) := by rw [s_agX, s_ag, if_neg g18, if_neg h30, if_pos h51]
        exact ⟨by rw [e], by rw [e, up_up]⟩
    · skip
      try first | replace h30 := bi_0 h30 | replace h30 := bi_n h30
      refine tr_iconst eX2_against_33 (nI 2) ci_2 ?_
      refine tr_ret eX2_against_34 rfl rfl ?_
      have g18 : ¬ σ 2 s < σ 19 (nI 5) := Int32.not_lt.mpr h18
      have e : s_agX σ n nC nV s a b = (nI 2, -1) := by rw [s_agX, s_ag, if_neg g18, if_pos h30]
      exact ⟨by rw [e], by rw [e]⟩
  · skip
    refine tr_iconst eX2_against_21 (nI 1) ci_1 ?_
    refine tr_ret eX2_against_22 rfl rfl ?_
    have e : s_agX σ n nC nV s a b = (nI 1, -1) := by rw [s_agX, s_ag, if_pos (Int32.not_le.mp h18)]
    exact ⟨by rw [e], by rw [e]⟩

theorem k_X2_againstU {σ : tSt} {s a b x : Int32} {n nC nV : Nat} (hs : vp_in s 24) (hV : σ 18 (nI 6) = nI nV) (hV40 : nV ≤ 40) (hcc : cOK σ) (hn : σ 17 (nI 10) = nI n) (hb : n ≤ 40) (hC : σ 17 (nI 11) = nI nC) (hC20 : nC ≤ 20) : CT mX2_against [.ref 19, .int s, .int a, .int b] (up σ 19 (nI 7) x) (PE (some (s_agX σ n nC nV s a b).1) (up σ 19 (nI 7) (s_agX σ n nC nV s a b).2)) := by
  have h := k_X2_against (σ := up σ 19 (nI 7) x) hs hV hV40 hcc hn hb hC hC20 (a := a) (b := b)
  rw [up_up] at h
  exact h
/-- of the stands from i on, f of them, of kind kd and free: the least, the first of these; best so far -/
def s_bk (g1 g2 : Int32 → Int32) (fr : Int32 → Bool) (kd : Int32) : Nat → Nat → Int32 → Int32
  | 0, _, best => best
  | f + 1, i, best => s_bk g1 g2 fr kd f (i + 1) (if g1 (nI i) = kd ∧ (best = -1 ∨ g2 (nI i) < g2 best) ∧ fr (nI i) = true then nI i else best)
def s_bo (g1 g2 : Int32 → Int32) (fr : Int32 → Bool) (nS k : Nat) : Nat → Nat → Int32
  | 0, _ => -1
  | f + 1, i => if s_bk g1 g2 fr (tTab k (nI i)) nS 0 (-1) ≠ -1 then s_bk g1 g2 fr (tTab k (nI i)) nS 0 (-1) else s_bo g1 g2 fr nS k f (i + 1)
def s_frX (σ : tSt) (n nC nV : Nat) (a b : Int32) : Int32 → Bool := fun s => decide ((s_agX σ n nC nV s a b).1 = 0)
def s_tk0 (kd : Int32) : Nat := if kd = nI 3 then 100 else 101
theorem lp_X2_bestStand_50 {σ : tSt} {v a b : Int32} {nS n nC nV k ii : Nat} (hS : σ 17 (nI 9) = nI nS) (hS24 : nS ≤ 24) (hV : σ 18 (nI 6) = nI nV) (hV40 : nV ≤ 40) (hcc : cOK σ) (hn : σ 17 (nI 10) = nI n) (hb : n ≤ 40) (hC : σ 17 (nI 11) = nI nC) (hC20 : nC ≤ 20) (hk0 : k = 100 ∨ k = 101) (hi5 : vp_in (nI ii) (tTl k)) {Q : Option Int32 → tSt → Prop} :
    ∀ (f i : Nat) (best x : Int32), i + f = nS → (best = -1 ∨ vp_in best 24) → (∀ x' : Int32, TT mX2_bestStand 142 [.ref 19, .int v, .int a, .int b, .ref k, .int (nI ii), .int (s_bk (σ 1) (σ 2) (s_frX σ n nC nV a b) (tTab k (nI ii)) f i best), .null, .null] [] (up σ 19 (nI 7) x') Q) → TT mX2_bestStand 50 [.ref 19, .int v, .int a, .int b, .ref k, .int (nI ii), .int best, .int (nI i), .null] [] (up σ 19 (nI 7) x) Q := by
  intro f
  induction f with
  | zero =>
    intro i best x hi hbest kk
    refine tr_iload eX2_bestStand_50 rfl ?_
    refine tr_aload_n eX2_bestStand_52 rfl ?_
    refine tr_getR eX2_bestStand_53 fk_X2_15 rfl rfl ?_
    refine tr_getI eX2_bestStand_56 fk_X2_69 rfl rfl ?_
    try simp (disch := decide) only [up_k, up_s, up_f]
    refine tr_icmp_ge eX2_bestStand_59 (fun h59 => ?_) (fun h59 => ?_)
    · skip
      exact TT.fg [7, 8] (kk x)
    · skip
      exact absurd (lt_of hS (by omega) (by omega) h59) (by omega)
  | succ f ih =>
    intro i best x hi hbest kk
    refine tr_iload eX2_bestStand_50 rfl ?_
    refine tr_aload_n eX2_bestStand_52 rfl ?_
    refine tr_getR eX2_bestStand_53 fk_X2_15 rfl rfl ?_
    refine tr_getI eX2_bestStand_56 fk_X2_69 rfl rfl ?_
    try simp (disch := decide) only [up_k, up_s, up_f]
    refine tr_icmp_ge eX2_bestStand_59 (fun h59 => ?_) (fun h59 => ?_)
    · skip
      exact absurd (ge_of hS (by omega) (by omega) h59) (by omega)
    · skip
      have g59 := lt_of hS (by omega) (by omega) h59
      have hsv : vp_in (nI i) 24 := vp_in_nI (by omega) (by decide)
      refine tr_iload eX2_bestStand_62 rfl ?_
      refine tr_iconst eX2_bestStand_64 (-1) ci_m1 ?_
      refine tr_icmp_eq eX2_bestStand_65 (fun h65 => ?_) (fun h65 => ?_)
      · skip
        have hless : best = -1 ∨ σ 2 (nI i) < σ 2 best := Or.inl h65
        refine tr_iconst eX2_bestStand_91 (nI 1) ci_1 ?_
        refine tr_goto eX2_bestStand_92 ?_
        refine tr_istore eX2_bestStand_96 (by decide) rfl ?_
        refine tr_aload_n eX2_bestStand_98 rfl ?_
        refine tr_getR eX2_bestStand_99 fk_X2_15 rfl rfl ?_
        refine tr_getR eX2_bestStand_102 fk_X2_77 rfl rfl ?_
        refine tr_iload eX2_bestStand_105 rfl ?_
        refine tr_iald eX2_bestStand_107 rfl hsv ?_
        try simp (disch := decide) only [up_k, up_s, up_f]
        refine tr_aload eX2_bestStand_108 rfl ?_
        refine tr_iload eX2_bestStand_110 rfl ?_
        refine tr_tald eX2_bestStand_112 rfl hk0 hi5 ?_
        try simp (disch := decide) only [up_k, up_s, up_f]
        refine tr_icmp_ne eX2_bestStand_113 (fun h113 => ?_) (fun h113 => ?_)
        · skip
          refine tr_iinc eX2_bestStand_136 _ (by first | exact inc_n _ | rfl) rfl (by decide) rfl ?_
          refine tr_goto eX2_bestStand_139 ?_
          refine TT.fg [8] (ih (i + 1) _ _ (by omega) hbest (fun x' => ?_))
          have h := kk x'
          simp only [s_bk] at h
          rw [if_neg (fun q => ?_)] at h
          · exact h
          · obtain ⟨q1, q2, q3⟩ := q
            first | exact absurd q1 h113 | (rcases q2 with q2 | q2; exact absurd q2 h65; exact absurd q2 (Int32.not_lt.mpr h88)) | (simp only [s_frX, decide_eq_true_eq] at q3; exact absurd q3 h129)
        · skip
          refine tr_iload eX2_bestStand_116 rfl ?_
          refine tr_if_eq eX2_bestStand_118 (fun h118 => absurd h118 (by decide)) (fun _ => ?_)
          refine tr_aload_n eX2_bestStand_121 rfl ?_
          refine tr_iload eX2_bestStand_122 rfl ?_
          refine tr_iload_n eX2_bestStand_124 rfl ?_
          refine tr_iload_n eX2_bestStand_125 rfl ?_
          refine tr_ce3 eX2_bestStand_126 zv_X2_against zi_X2_against lk_X2_80 ⟨rfl, by decide, by decide⟩ rfl rfl rfl (k_X2_againstU hsv hV hV40 hcc hn hb hC hC20) ?_
          try simp (disch := decide) only [up_k, up_s, up_f]
          refine tr_if_ne eX2_bestStand_129 (fun h129 => ?_) (fun h129 => ?_)
          · skip
            refine tr_iinc eX2_bestStand_136 _ (by first | exact inc_n _ | rfl) rfl (by decide) rfl ?_
            refine tr_goto eX2_bestStand_139 ?_
            refine TT.fg [8] (ih (i + 1) _ _ (by omega) hbest (fun x' => ?_))
            have h := kk x'
            simp only [s_bk] at h
            rw [if_neg (fun q => ?_)] at h
            · exact h
            · obtain ⟨q1, q2, q3⟩ := q
              first | exact absurd q1 h113 | (rcases q2 with q2 | q2; exact absurd q2 h65; exact absurd q2 (Int32.not_lt.mpr h88)) | (simp only [s_frX, decide_eq_true_eq] at q3; exact absurd q3 h129)
          · skip
            refine tr_iload eX2_bestStand_132 rfl ?_
            refine tr_istore eX2_bestStand_134 (by decide) rfl ?_
            refine tr_iinc eX2_bestStand_136 _ (by first | exact inc_n _ | rfl) rfl (by decide) rfl ?_
            refine tr_goto eX2_bestStand_139 ?_
            refine TT.fg [8] (ih (i + 1) _ _ (by omega) (Or.inr hsv) (fun x' => ?_))
            have h := kk x'
            simp only [s_bk] at h
            rw [if_pos ⟨h113, hless, by simp [s_frX, h129]⟩] at h
            exact h
      · skip
        refine tr_aload_n eX2_bestStand_68 rfl ?_
        refine tr_getR eX2_bestStand_69 fk_X2_15 rfl rfl ?_
        refine tr_getR eX2_bestStand_72 fk_X2_74 rfl rfl ?_
        refine tr_iload eX2_bestStand_75 rfl ?_
        refine tr_iald eX2_bestStand_77 rfl hsv ?_
        try simp (disch := decide) only [up_k, up_s, up_f]
        refine tr_aload_n eX2_bestStand_78 rfl ?_
        refine tr_getR eX2_bestStand_79 fk_X2_15 rfl rfl ?_
        refine tr_getR eX2_bestStand_82 fk_X2_74 rfl rfl ?_
        refine tr_iload eX2_bestStand_85 rfl ?_
        refine tr_iald eX2_bestStand_87 rfl (by first | with_reducible assumption | (rcases hbest with h | h; exact absurd h h65; exact h)) ?_
        try simp (disch := decide) only [up_k, up_s, up_f]
        refine tr_icmp_ge eX2_bestStand_88 (fun h88 => ?_) (fun h88 => ?_)
        · skip
          refine tr_iconst eX2_bestStand_95 (nI 0) ci_0 ?_
          refine tr_istore eX2_bestStand_96 (by decide) rfl ?_
          refine tr_aload_n eX2_bestStand_98 rfl ?_
          refine tr_getR eX2_bestStand_99 fk_X2_15 rfl rfl ?_
          refine tr_getR eX2_bestStand_102 fk_X2_77 rfl rfl ?_
          refine tr_iload eX2_bestStand_105 rfl ?_
          refine tr_iald eX2_bestStand_107 rfl hsv ?_
          try simp (disch := decide) only [up_k, up_s, up_f]
          refine tr_aload eX2_bestStand_108 rfl ?_
          refine tr_iload eX2_bestStand_110 rfl ?_
          refine tr_tald eX2_bestStand_112 rfl hk0 hi5 ?_
          try simp (disch := decide) only [up_k, up_s, up_f]
          refine tr_icmp_ne eX2_bestStand_113 (fun h113 => ?_) (fun h113 => ?_)
          · skip
            refine tr_iinc eX2_bestStand_136 _ (by first | exact inc_n _ | rfl) rfl (by decide) rfl ?_
            refine tr_goto eX2_bestStand_139 ?_
            refine TT.fg [8] (ih (i + 1) _ _ (by omega) hbest (fun x' => ?_))
            have h := kk x'
            simp only [s_bk] at h
            rw [if_neg (fun q => ?_)] at h
            · exact h
            · obtain ⟨q1, q2, q3⟩ := q
              first | exact absurd q1 h113 | (rcases q2 with q2 | q2; exact absurd q2 h65; exact absurd q2 (Int32.not_lt.mpr h88)) | (simp only [s_frX, decide_eq_true_eq] at q3; exact absurd q3 h129)
          · skip
            refine tr_iload eX2_bestStand_116 rfl ?_
            refine tr_if_eq eX2_bestStand_118 (fun _ => ?_) (fun h118 => absurd h118 (by decide))
            refine tr_iinc eX2_bestStand_136 _ (by first | exact inc_n _ | rfl) rfl (by decide) rfl ?_
            refine tr_goto eX2_bestStand_139 ?_
            refine TT.fg [8] (ih (i + 1) _ _ (by omega) hbest (fun x' => ?_))
            have h := kk x'
            simp only [s_bk] at h
            rw [if_neg (fun q => ?_)] at h
            · exact h
            · obtain ⟨q1, q2, q3⟩ := q
              first | exact absurd q1 h113 | (rcases q2 with q2 | q2; exact absurd q2 h65; exact absurd q2 (Int32.not_lt.mpr h88)) | (simp only [s_frX, decide_eq_true_eq] at q3; exact absurd q3 h129)
        · skip
          have hless : best = -1 ∨ σ 2 (nI i) < σ 2 best := Or.inr (Int32.not_le.mp h88)
          refine tr_iconst eX2_bestStand_91 (nI 1) ci_1 ?_
          refine tr_goto eX2_bestStand_92 ?_
          refine tr_istore eX2_bestStand_96 (by decide) rfl ?_
          refine tr_aload_n eX2_bestStand_98 rfl ?_
          refine tr_getR eX2_bestStand_99 fk_X2_15 rfl rfl ?_
          refine tr_getR eX2_bestStand_102 fk_X2_77 rfl rfl ?_
          refine tr_iload eX2_bestStand_105 rfl ?_
          refine tr_iald eX2_bestStand_107 rfl hsv ?_
          try simp (disch := decide) only [up_k, up_s, up_f]
          refine tr_aload eX2_bestStand_108 rfl ?_
          refine tr_iload eX2_bestStand_110 rfl ?_
          refine tr_tald eX2_bestStand_112 rfl hk0 hi5 ?_
          try simp (disch := decide) only [up_k, up_s, up_f]
          refine tr_icmp_ne eX2_bestStand_113 (fun h113 => ?_) (fun h113 => ?_)
          · skip
            refine tr_iinc eX2_bestStand_136 _ (by first | exact inc_n _ | rfl) rfl (by decide) rfl ?_
            refine tr_goto eX2_bestStand_139 ?_
            refine TT.fg [8] (ih (i + 1) _ _ (by omega) hbest (fun x' => ?_))
            have h := kk x'
            simp only [s_bk] at h
            rw [if_neg (fun q => ?_)] at h
            · exact h
            · obtain ⟨q1, q2, q3⟩ := q
              first | exact absurd q1 h113 | (rcases q2 with q2 | q2; exact absurd q2 h65; exact absurd q2 (Int32.not_lt.mpr h88)) | (simp only [s_frX, decide_eq_true_eq] at q3; exact absurd q3 h129)
          · skip
            refine tr_iload eX2_bestStand_116 rfl ?_
            refine tr_if_eq eX2_bestStand_118 (fun h118 => absurd h118 (by decide)) (fun _ => ?_)
            refine tr_aload_n eX2_bestStand_121 rfl ?_
            refine tr_iload eX2_bestStand_122 rfl ?_
            refine tr_iload_n eX2_bestStand_124 rfl ?_
            refine tr_iload_n eX2_bestStand_125 rfl ?_
            refine tr_ce3 eX2_bestStand_126 zv_X2_against zi_X2_against lk_X2_80 ⟨rfl, by decide, by decide⟩ rfl rfl rfl (k_X2_againstU hsv hV hV40 hcc hn hb hC hC20) ?_
            try simp (disch := decide) only [up_k, up_s, up_f]
            refine tr_if_ne eX2_bestStand_129 (fun h129 => ?_) (fun h129 => ?_)
            · skip
              refine tr_iinc eX2_bestStand_136 _ (by first | exact inc_n _ | rfl) rfl (by decide) rfl ?_
              refine tr_goto eX2_bestStand_139 ?_
              refine TT.fg [8] (ih (i + 1) _ _ (by omega) hbest (fun x' => ?_))
              have h := kk x'
              simp only [s_bk] at h
              rw [if_neg (fun q => ?_)] at h
              · exact h
              · obtain ⟨q1, q2, q3⟩ := q
                first | exact absurd q1 h113 | (rcases q2 with q2 | q2; exact absurd q2 h65; exact absurd q2 (Int32.not_lt.mpr h88)) | (simp only [s_frX, decide_eq_true_eq] at q3; exact absurd q3 h129)
            · skip
              refine tr_iload eX2_bestStand_132 rfl ?_
              refine tr_istore eX2_bestStand_134 (by decide) rfl ?_
              refine tr_iinc eX2_bestStand_136 _ (by first | exact inc_n _ | rfl) rfl (by decide) rfl ?_
              refine tr_goto eX2_bestStand_139 ?_
              refine TT.fg [8] (ih (i + 1) _ _ (by omega) (Or.inr hsv) (fun x' => ?_))
              have h := kk x'
              simp only [s_bk] at h
              rw [if_pos ⟨h113, hless, by simp [s_frX, h129]⟩] at h
              exact h
theorem lp_X2_bestStand_36 {σ : tSt} {v a b : Int32} {nS n nC nV k : Nat} (hS : σ 17 (nI 9) = nI nS) (hS24 : nS ≤ 24) (hV : σ 18 (nI 6) = nI nV) (hV40 : nV ≤ 40) (hcc : cOK σ) (hn : σ 17 (nI 10) = nI n) (hb : n ≤ 40) (hC : σ 17 (nI 11) = nI nC) (hC20 : nC ≤ 20) (hk0 : k = 100 ∨ k = 101) :
    ∀ (f ii : Nat) (x : Int32), ii + f = tTl k → TT mX2_bestStand 36 [.ref 19, .int v, .int a, .int b, .ref k, .int (nI ii), .null, .null, .null] [] (up σ 19 (nI 7) x) (fun r τ => r = some (s_bo (σ 1) (σ 2) (s_frX σ n nC nV a b) nS k f ii) ∧ ∃ z, τ = up σ 19 (nI 7) z) := by
  have hk5 : tTl k ≤ 5 := by unfold tTl; split <;> omega
  intro f
  induction f with
  | zero =>
    intro ii x hi
    refine tr_iload eX2_bestStand_36 rfl ?_
    refine tr_aload eX2_bestStand_38 rfl ?_
    refine tr_tlen eX2_bestStand_40 rfl hk0 ?_
    refine tr_icmp_ge eX2_bestStand_41 (fun h41 => ?_) (fun h41 => ?_)
    · skip
      refine tr_iconst eX2_bestStand_157 (-1) ci_m1 ?_
      refine tr_ret eX2_bestStand_158 rfl rfl ?_
      exact ⟨rfl, x, rfl⟩
    · skip
      exact absurd (lt_of rfl (by omega) (by omega) h41) (by omega)
  | succ f ih =>
    intro ii x hi
    refine tr_iload eX2_bestStand_36 rfl ?_
    refine tr_aload eX2_bestStand_38 rfl ?_
    refine tr_tlen eX2_bestStand_40 rfl hk0 ?_
    refine tr_icmp_ge eX2_bestStand_41 (fun h41 => ?_) (fun h41 => ?_)
    · skip
      exact absurd (ge_of rfl (by omega) (by omega) h41) (by omega)
    · skip
      have hi5 : vp_in (nI ii) (tTl k) := vp_in_nI (lt_of rfl (by omega) (by omega) h41) (by omega)
      refine tr_iconst eX2_bestStand_44 (-1) ci_m1 ?_
      refine tr_istore eX2_bestStand_45 (by decide) rfl ?_
      refine tr_iconst eX2_bestStand_47 (nI 0) ci_0 ?_
      refine tr_istore eX2_bestStand_48 (by decide) rfl ?_
      refine lp_X2_bestStand_50 hS hS24 hV hV40 hcc hn hb hC hC20 hk0 hi5 nS 0 (-1) x (by omega) (Or.inl rfl) (fun x' => ?_)
      refine tr_iload eX2_bestStand_142 rfl ?_
      refine tr_iconst eX2_bestStand_144 (-1) ci_m1 ?_
      refine tr_icmp_eq eX2_bestStand_145 (fun h145 => ?_) (fun h145 => ?_)
      · skip
        refine tr_iinc eX2_bestStand_151 _ (by first | exact inc_n _ | rfl) rfl (by decide) rfl ?_
        refine tr_goto eX2_bestStand_154 ?_
        simp only [s_bo]
        rw [if_neg (fun q => q h145)]
        exact TT.fg [6] (ih (ii + 1) x' (by omega))
      · skip
        refine tr_iload eX2_bestStand_148 rfl ?_
        refine tr_ret eX2_bestStand_150 rfl rfl ?_
        exact ⟨by simp only [s_bo]; rw [if_pos h145], x', rfl⟩
def s_reg (σ : tSt) (v : Int32) : tSt := (up (up (up (up σ 19 (nI 3) v) 19 (nI 4) (s_kind σ v)) 19 (nI 5) (s_wing σ v)) 19 (nI 6) (s_need σ v))
/-- the best stand of v from a to its OUT, by the class's judge -/
def s_bestX (σ : tSt) (nS n nC nV : Nat) (v a : Int32) : Int32 := s_bo (σ 1) (σ 2) (s_frX (s_reg σ v) n nC nV a (s_out σ v)) nS (s_tk0 (s_kind σ v)) (tTl (s_tk0 (s_kind σ v))) 0
theorem s_reg_by (σ : tSt) (v : Int32) : up (s_reg σ v) 19 (nI 7) (σ 19 (nI 7)) = s_reg σ v := by
  funext k i
  simp only [up]
  by_cases hk : k = 19
  · subst hk
    by_cases hi : i = nI 7
    · subst hi; simp [s_reg, up]
      rw [if_neg (by decide), if_neg (by decide), if_neg (by decide), if_neg (by decide)]
    · simp [hi]
  · simp [hk]
theorem k_X2_bestStand {σ : tSt} {v a : Int32} {nS n nC nV : Nat} (hv : vp_in v 40) (hS : σ 17 (nI 9) = nI nS) (hS24 : nS ≤ 24) (hV : σ 18 (nI 6) = nI nV) (hV40 : nV ≤ 40) (hcc : cOK σ) (hn : σ 17 (nI 10) = nI n) (hb : n ≤ 40) (hC : σ 17 (nI 11) = nI nC) (hC20 : nC ≤ 20) : CT mX2_bestStand [.ref 19, .int v, .int a] σ (fun r τ => r = some (s_bestX σ nS n nC nV v a) ∧ ∃ z, τ = up (s_reg σ v) 19 (nI 7) z) := by
  refine CT.of2 6 (by decide) rfl rfl ?_
  refine tr_aload_n eX2_bestStand_0 rfl ?_
  refine tr_iload_n eX2_bestStand_1 rfl ?_
  refine tr_ce1 eX2_bestStand_2 zv_X2_regard zi_X2_regard lk_X2_55 ⟨rfl, by decide, by decide⟩ rfl rfl rfl (k_X2_regard (by first | with_reducible assumption | with_reducible exact in_slot (by with_reducible assumption) (by with_reducible assumption) | with_reducible exact in_row _ (by decide) (by with_reducible assumption) | with_reducible exact in_row0 (by with_reducible assumption) | with_reducible exact in_slot0 (by with_reducible assumption) | (simp (disch := decide) only [up_k, up_s, up_f] <;> with_reducible assumption))) ?_
  try simp (disch := decide) only [up_k, up_s, up_f]
  refine tr_aload_n eX2_bestStand_5 rfl ?_
  refine tr_getR eX2_bestStand_6 fk_X2_19 rfl rfl ?_
  refine tr_iload_n eX2_bestStand_9 rfl ?_
  refine tr_ce1 eX2_bestStand_10 zv_X5_outOf zi_X5_outOf lk_X2_59 ⟨rfl, by decide, by decide⟩ rfl rfl rfl (show CT mX5_outOf _ _ (PE (some (s_out σ v)) _) from k_X5_outOf hv) ?_
  try simp (disch := decide) only [up_k, up_s, up_f]
  refine tr_istore_n eX2_bestStand_13 (by decide) rfl ?_
  refine tr_aload_n eX2_bestStand_14 rfl ?_
  refine tr_getI eX2_bestStand_15 fk_X2_40 rfl rfl ?_
  try simp (disch := decide) only [up_k, up_s, up_f]
  refine tr_iconst eX2_bestStand_18 (nI 3) ci_3 ?_
  refine tr_icmp_ne eX2_bestStand_19 (fun h19 => ?_) (fun h19 => ?_)
  · skip
    refine tr_gets (k := 101) eX2_bestStand_28 rfl (by decide) fs_X2_66 ?_
    refine tr_astore eX2_bestStand_31 (by decide) rfl ?_
    refine tr_iconst eX2_bestStand_33 (nI 0) ci_0 ?_
    refine tr_istore eX2_bestStand_34 (by decide) rfl ?_
    have ek : s_tk0 (s_kind σ v) = 101 := by unfold s_tk0; rw [if_neg h19]
    rw [s_bestX, ek]
    have hh := lp_X2_bestStand_36 (σ := s_reg σ v) (v := v) (a := a) (b := s_out σ v) (k := 101) hS hS24 hV hV40 hcc hn hb hC hC20 (by decide) (tTl 101) 0 (σ 19 (nI 7)) (by omega)
    rw [s_reg_by] at hh
    exact hh
  · skip
    refine tr_gets (k := 100) eX2_bestStand_22 rfl (by decide) fs_X2_62 ?_
    refine tr_goto eX2_bestStand_25 ?_
    refine tr_astore eX2_bestStand_31 (by decide) rfl ?_
    refine tr_iconst eX2_bestStand_33 (nI 0) ci_0 ?_
    refine tr_istore eX2_bestStand_34 (by decide) rfl ?_
    have ek : s_tk0 (s_kind σ v) = 100 := by unfold s_tk0; rw [if_pos h19]
    rw [s_bestX, ek]
    have hh := lp_X2_bestStand_36 (σ := s_reg σ v) (v := v) (a := a) (b := s_out σ v) (k := 100) hS hS24 hV hV40 hcc hn hb hC hC20 (by decide) (tTl 100) 0 (σ 19 (nI 7)) (by omega)
    rw [s_reg_by] at hh
    exact hh

