theorem k_X6_isWithin {σ : tSt} {n lo hi : Int32} : CT mX6_isWithin [.int n, .int lo, .int hi] σ (PE (some (bi (¬ n < lo ∧ ¬ hi < n))) σ) := by
  refine CT.of2 0 (by decide) rfl rfl ?_
  refine tr_iload_n eX6_isWithin_0 rfl ?_
  refine tr_iload_n eX6_isWithin_1 rfl ?_
  refine tr_icmp_lt eX6_isWithin_2 (fun h2 => ?_) (fun h2 => ?_)
  · skip
    refine tr_iconst eX6_isWithin_14 (nI 0) ci_0 ?_
    refine tr_ret eX6_isWithin_15 rfl (by first | rfl | exact nar_bi _) ?_
    first | with_reducible exact ⟨rfl, rfl⟩ | (refine ⟨congrArg some ?_, rfl⟩; unfold bi; split <;> first | with_reducible rfl | (exfalso; simp_all; done) | (exfalso; simp only [Int32.lt_iff_toInt_lt, Int32.le_iff_toInt_le] at *; omega)) | exact ⟨rfl, rfl⟩
  · skip
    refine tr_iload_n eX6_isWithin_5 rfl ?_
    refine tr_iload_n eX6_isWithin_6 rfl ?_
    refine tr_icmp_gt eX6_isWithin_7 (fun h7 => ?_) (fun h7 => ?_)
    · skip
      refine tr_iconst eX6_isWithin_14 (nI 0) ci_0 ?_
      refine tr_ret eX6_isWithin_15 rfl (by first | rfl | exact nar_bi _) ?_
      first | with_reducible exact ⟨rfl, rfl⟩ | (refine ⟨congrArg some ?_, rfl⟩; unfold bi; split <;> first | with_reducible rfl | (exfalso; simp_all; done) | (exfalso; simp only [Int32.lt_iff_toInt_lt, Int32.le_iff_toInt_le] at *; omega)) | exact ⟨rfl, rfl⟩
    · skip
      refine tr_iconst eX6_isWithin_10 (nI 1) ci_1 ?_
      refine tr_goto eX6_isWithin_11 ?_
      refine tr_ret eX6_isWithin_15 rfl (by first | rfl | exact nar_bi _) ?_
      first | with_reducible exact ⟨rfl, rfl⟩ | (refine ⟨congrArg some ?_, rfl⟩; unfold bi; split <;> first | with_reducible rfl | (exfalso; simp_all; done) | (exfalso; simp only [Int32.lt_iff_toInt_lt, Int32.le_iff_toInt_le] at *; omega)) | exact ⟨rfl, rfl⟩

theorem k_X6_isSpan {σ : tSt} {a b : Int32} : CT mX6_isSpan [.int a, .int b] σ (PE (some (bi (¬ a < 0 ∧ ¬ b ≤ a ∧ ¬ nI 2880 < b))) σ) := by
  refine CT.of2 0 (by decide) rfl rfl ?_
  refine tr_iload_n eX6_isSpan_0 rfl ?_
  refine tr_if_lt eX6_isSpan_1 (fun h1 => ?_) (fun h1 => ?_)
  · skip
    refine tr_iconst eX6_isSpan_20 (nI 0) ci_0 ?_
    refine tr_ret eX6_isSpan_21 rfl (by first | rfl | exact nar_bi _) ?_
    first | with_reducible exact ⟨rfl, rfl⟩ | (refine ⟨congrArg some ?_, rfl⟩; unfold bi; split <;> first | with_reducible rfl | (exfalso; simp_all; done) | (exfalso; simp only [Int32.lt_iff_toInt_lt, Int32.le_iff_toInt_le] at *; omega)) | exact ⟨rfl, rfl⟩
  · skip
    refine tr_iload_n eX6_isSpan_4 rfl ?_
    refine tr_iload_n eX6_isSpan_5 rfl ?_
    refine tr_icmp_ge eX6_isSpan_6 (fun h6 => ?_) (fun h6 => ?_)
    · skip
      refine tr_iconst eX6_isSpan_20 (nI 0) ci_0 ?_
      refine tr_ret eX6_isSpan_21 rfl (by first | rfl | exact nar_bi _) ?_
      first | with_reducible exact ⟨rfl, rfl⟩ | (refine ⟨congrArg some ?_, rfl⟩; unfold bi; split <;> first | with_reducible rfl | (exfalso; simp_all; done) | (exfalso; simp only [Int32.lt_iff_toInt_lt, Int32.le_iff_toInt_le] at *; omega)) | exact ⟨rfl, rfl⟩
    · skip
      refine tr_iload_n eX6_isSpan_9 rfl ?_
      refine tr_sipush eX6_isSpan_10 (nI 2880) (by decide) ?_
      refine tr_icmp_gt eX6_isSpan_13 (fun h13 => ?_) (fun h13 => ?_)
      · skip
        refine tr_iconst eX6_isSpan_20 (nI 0) ci_0 ?_
        refine tr_ret eX6_isSpan_21 rfl (by first | rfl | exact nar_bi _) ?_
        first | with_reducible exact ⟨rfl, rfl⟩ | (refine ⟨congrArg some ?_, rfl⟩; unfold bi; split <;> first | with_reducible rfl | (exfalso; simp_all; done) | (exfalso; simp only [Int32.lt_iff_toInt_lt, Int32.le_iff_toInt_le] at *; omega)) | exact ⟨rfl, rfl⟩
      · skip
        refine tr_iconst eX6_isSpan_16 (nI 1) ci_1 ?_
        refine tr_goto eX6_isSpan_17 ?_
        refine tr_ret eX6_isSpan_21 rfl (by first | rfl | exact nar_bi _) ?_
        first | with_reducible exact ⟨rfl, rfl⟩ | (refine ⟨congrArg some ?_, rfl⟩; unfold bi; split <;> first | with_reducible rfl | (exfalso; simp_all; done) | (exfalso; simp only [Int32.lt_iff_toInt_lt, Int32.le_iff_toInt_le] at *; omega)) | exact ⟨rfl, rfl⟩

/-- spans with a minute in common -/
def s_hc (a b c d : Int32) : Bool := decide (a < d) && decide (c < b)
theorem k_X6_haveCommonMinute {σ : tSt} {a b c d : Int32} : CT mX6_haveCommonMinute [.int a, .int b, .int c, .int d] σ (PE (some (bi (s_hc a b c d = true))) σ) := by
  refine CT.of2 0 (by decide) rfl rfl ?_
  refine tr_iload_n eX6_haveCommonMinute_0 rfl ?_
  refine tr_iload_n eX6_haveCommonMinute_1 rfl ?_
  refine tr_icmp_ge eX6_haveCommonMinute_2 (fun h2 => ?_) (fun h2 => ?_)
  · skip
    refine tr_iconst eX6_haveCommonMinute_14 (nI 0) ci_0 ?_
    refine tr_ret eX6_haveCommonMinute_15 rfl (by first | rfl | exact nar_bi _) ?_
    refine ⟨congrArg some ?_, rfl⟩
    first | (refine bi_t ?_; simp_all [s_hc]; done) | (refine bi_f ?_; simp_all [s_hc]; done) | (refine bi_f ?_; simp_all [s_hc]; simp only [Int32.lt_iff_toInt_lt, Int32.le_iff_toInt_le] at *; omega)
  · skip
    refine tr_iload_n eX6_haveCommonMinute_5 rfl ?_
    refine tr_iload_n eX6_haveCommonMinute_6 rfl ?_
    refine tr_icmp_ge eX6_haveCommonMinute_7 (fun h7 => ?_) (fun h7 => ?_)
    · skip
      refine tr_iconst eX6_haveCommonMinute_14 (nI 0) ci_0 ?_
      refine tr_ret eX6_haveCommonMinute_15 rfl (by first | rfl | exact nar_bi _) ?_
      refine ⟨congrArg some ?_, rfl⟩
      first | (refine bi_t ?_; simp_all [s_hc]; done) | (refine bi_f ?_; simp_all [s_hc]; done) | (refine bi_f ?_; simp_all [s_hc]; simp only [Int32.lt_iff_toInt_lt, Int32.le_iff_toInt_le] at *; omega)
    · skip
      refine tr_iconst eX6_haveCommonMinute_10 (nI 1) ci_1 ?_
      refine tr_goto eX6_haveCommonMinute_11 ?_
      refine tr_ret eX6_haveCommonMinute_15 rfl (by first | rfl | exact nar_bi _) ?_
      refine ⟨congrArg some ?_, rfl⟩
      first | (refine bi_t ?_; simp_all [s_hc]; done) | (refine bi_f ?_; simp_all [s_hc]; done) | (refine bi_f ?_; simp_all [s_hc]; simp only [Int32.lt_iff_toInt_lt, Int32.le_iff_toInt_le] at *; omega)

theorem k_X6_grant {σ : tSt} {x : Int32} : CT mX6_grant [.ref 0, .int x] σ (PE (some x) (up σ 0 (nI 7) (nI 0))) := by
  refine CT.of2 0 (by decide) rfl rfl ?_
  refine tr_aload_n eX6_grant_0 rfl ?_
  refine tr_iconst eX6_grant_1 (nI 0) ci_0 ?_
  refine tr_put eX6_grant_2 fp_X6_61 rfl rfl ?_
  refine tr_iload_n eX6_grant_5 rfl ?_
  refine tr_ret eX6_grant_6 rfl rfl ?_
  first | with_reducible exact ⟨rfl, rfl⟩ | (refine ⟨congrArg some ?_, rfl⟩; unfold bi; split <;> first | with_reducible rfl | (exfalso; simp_all; done) | (exfalso; simp only [Int32.lt_iff_toInt_lt, Int32.le_iff_toInt_le] at *; omega)) | exact ⟨rfl, rfl⟩

theorem k_X6_allow {σ : tSt} : CT mX6_allow [.ref 0] σ (PE (some (nI 1)) (up σ 0 (nI 7) (nI 0))) := by
  refine CT.of2 0 (by decide) rfl rfl ?_
  refine tr_aload_n eX6_allow_0 rfl ?_
  refine tr_iconst eX6_allow_1 (nI 0) ci_0 ?_
  refine tr_put eX6_allow_2 fp_X6_61 rfl rfl ?_
  refine tr_iconst eX6_allow_5 (nI 1) ci_1 ?_
  refine tr_ret eX6_allow_6 rfl (by first | rfl | exact nar_bi _) ?_
  first | with_reducible exact ⟨rfl, rfl⟩ | (refine ⟨congrArg some ?_, rfl⟩; unfold bi; split <;> first | with_reducible rfl | (exfalso; simp_all; done) | (exfalso; simp only [Int32.lt_iff_toInt_lt, Int32.le_iff_toInt_le] at *; omega)) | exact ⟨rfl, rfl⟩

theorem k_X6_refuse {σ : tSt} {x : Int32} : CT mX6_refuse [.ref 0, .int x] σ (PE (some (-1)) (up σ 0 (nI 7) x)) := by
  refine CT.of2 0 (by decide) rfl rfl ?_
  refine tr_aload_n eX6_refuse_0 rfl ?_
  refine tr_iload_n eX6_refuse_1 rfl ?_
  refine tr_put eX6_refuse_2 fp_X6_61 rfl rfl ?_
  refine tr_iconst eX6_refuse_5 (-1) ci_m1 ?_
  refine tr_ret eX6_refuse_6 rfl rfl ?_
  first | with_reducible exact ⟨rfl, rfl⟩ | (refine ⟨congrArg some ?_, rfl⟩; unfold bi; split <;> first | with_reducible rfl | (exfalso; simp_all; done) | (exfalso; simp only [Int32.lt_iff_toInt_lt, Int32.le_iff_toInt_le] at *; omega)) | exact ⟨rfl, rfl⟩

theorem k_X6_deny {σ : tSt} {x : Int32} : CT mX6_deny [.ref 0, .int x] σ (PE (some (nI 0)) (up σ 0 (nI 7) x)) := by
  refine CT.of2 0 (by decide) rfl rfl ?_
  refine tr_aload_n eX6_deny_0 rfl ?_
  refine tr_iload_n eX6_deny_1 rfl ?_
  refine tr_put eX6_deny_2 fp_X6_61 rfl rfl ?_
  refine tr_iconst eX6_deny_5 (nI 0) ci_0 ?_
  refine tr_ret eX6_deny_6 rfl (by first | rfl | exact nar_bi _) ?_
  first | with_reducible exact ⟨rfl, rfl⟩ | (refine ⟨congrArg some ?_, rfl⟩; unfold bi; split <;> first | with_reducible rfl | (exfalso; simp_all; done) | (exfalso; simp only [Int32.lt_iff_toInt_lt, Int32.le_iff_toInt_le] at *; omega)) | exact ⟨rfl, rfl⟩

theorem k_X6_keepReason {σ : tSt} {x : Int32} : CT mX6_keepReason [.ref 0, .int x] σ (PE none (up (up σ 0 (nI 8) x) 0 (nI 9) (σ 19 (nI 7)))) := by
  refine CT.of2 0 (by decide) rfl rfl ?_
  refine tr_aload_n eX6_keepReason_0 rfl ?_
  refine tr_iload_n eX6_keepReason_1 rfl ?_
  refine tr_put eX6_keepReason_2 fp_X6_64 rfl rfl ?_
  refine tr_aload_n eX6_keepReason_5 rfl ?_
  refine tr_aload_n eX6_keepReason_6 rfl ?_
  refine tr_getR eX6_keepReason_7 fk_X6_28 rfl rfl ?_
  refine tr_getI eX6_keepReason_10 fk_X6_283 rfl rfl ?_
  try simp (disch := decide) only [up_k, up_s, up_f]
  refine tr_put eX6_keepReason_13 fp_X6_67 rfl rfl ?_
  refine tr_vret eX6_keepReason_16 rfl ?_
  first | with_reducible exact ⟨rfl, rfl⟩ | (refine ⟨congrArg some ?_, rfl⟩; unfold bi; split <;> first | with_reducible rfl | (exfalso; simp_all; done) | (exfalso; simp only [Int32.lt_iff_toInt_lt, Int32.le_iff_toInt_le] at *; omega)) | exact ⟨rfl, rfl⟩

theorem k_X1_hasStand {σ : tSt} {s : Int32} : CT mX1_hasStand [.ref 17, .int s] σ (PE (some (bi (¬ s < 0 ∧ ¬ σ 17 (nI 9) ≤ s))) σ) := by
  refine CT.of2 0 (by decide) rfl rfl ?_
  refine tr_iload_n eX1_hasStand_0 rfl ?_
  refine tr_if_lt eX1_hasStand_1 (fun h1 => ?_) (fun h1 => ?_)
  · skip
    refine tr_iconst eX1_hasStand_16 (nI 0) ci_0 ?_
    refine tr_ret eX1_hasStand_17 rfl (by first | rfl | exact nar_bi _) ?_
    first | with_reducible exact ⟨rfl, rfl⟩ | (refine ⟨congrArg some ?_, rfl⟩; unfold bi; split <;> first | with_reducible rfl | (exfalso; simp_all; done) | (exfalso; simp only [Int32.lt_iff_toInt_lt, Int32.le_iff_toInt_le] at *; omega)) | exact ⟨rfl, rfl⟩
  · skip
    refine tr_iload_n eX1_hasStand_4 rfl ?_
    refine tr_aload_n eX1_hasStand_5 rfl ?_
    refine tr_getI eX1_hasStand_6 fk_X1_39 rfl rfl ?_
    refine tr_icmp_ge eX1_hasStand_9 (fun h9 => ?_) (fun h9 => ?_)
    · skip
      refine tr_iconst eX1_hasStand_16 (nI 0) ci_0 ?_
      refine tr_ret eX1_hasStand_17 rfl (by first | rfl | exact nar_bi _) ?_
      first | with_reducible exact ⟨rfl, rfl⟩ | (refine ⟨congrArg some ?_, rfl⟩; unfold bi; split <;> first | with_reducible rfl | (exfalso; simp_all; done) | (exfalso; simp only [Int32.lt_iff_toInt_lt, Int32.le_iff_toInt_le] at *; omega)) | exact ⟨rfl, rfl⟩
    · skip
      refine tr_iconst eX1_hasStand_12 (nI 1) ci_1 ?_
      refine tr_goto eX1_hasStand_13 ?_
      refine tr_ret eX1_hasStand_17 rfl (by first | rfl | exact nar_bi _) ?_
      first | with_reducible exact ⟨rfl, rfl⟩ | (refine ⟨congrArg some ?_, rfl⟩; unfold bi; split <;> first | with_reducible rfl | (exfalso; simp_all; done) | (exfalso; simp only [Int32.lt_iff_toInt_lt, Int32.le_iff_toInt_le] at *; omega)) | exact ⟨rfl, rfl⟩

theorem k_X1_addStand {σ : tSt} {k z : Int32} (hn : vp_in (σ 17 (nI 9)) 24) : CT mX1_addStand [.ref 17, .int k, .int z] σ (PE (some (σ 17 (nI 9) + nI 1 - nI 1)) (up (up (up σ 1 (σ 17 (nI 9)) k) 2 (σ 17 (nI 9)) z) 17 (nI 9) (σ 17 (nI 9) + nI 1))) := by
  refine CT.of2 0 (by decide) rfl rfl ?_
  refine tr_aload_n eX1_addStand_0 rfl ?_
  refine tr_getR eX1_addStand_1 fk_X1_9 rfl rfl ?_
  refine tr_aload_n eX1_addStand_4 rfl ?_
  refine tr_getI eX1_addStand_5 fk_X1_39 rfl rfl ?_
  refine tr_iload_n eX1_addStand_8 rfl ?_
  refine tr_iast eX1_addStand_9 rfl (by first | with_reducible assumption | with_reducible exact in_slot (by with_reducible assumption) (by with_reducible assumption) | with_reducible exact in_row _ (by decide) (by with_reducible assumption) | with_reducible exact in_row0 (by with_reducible assumption) | with_reducible exact in_slot0 (by with_reducible assumption) | (simp (disch := decide) only [up_k, up_s, up_f] <;> with_reducible assumption)) ?_
  refine tr_aload_n eX1_addStand_10 rfl ?_
  refine tr_getR eX1_addStand_11 fk_X1_15 rfl rfl ?_
  refine tr_aload_n eX1_addStand_14 rfl ?_
  refine tr_getI eX1_addStand_15 fk_X1_39 rfl rfl ?_
  try simp (disch := decide) only [up_k, up_s, up_f]
  refine tr_iload_n eX1_addStand_18 rfl ?_
  refine tr_iast eX1_addStand_19 rfl (by first | with_reducible assumption | with_reducible exact in_slot (by with_reducible assumption) (by with_reducible assumption) | with_reducible exact in_row _ (by decide) (by with_reducible assumption) | with_reducible exact in_row0 (by with_reducible assumption) | with_reducible exact in_slot0 (by with_reducible assumption) | (simp (disch := decide) only [up_k, up_s, up_f] <;> with_reducible assumption)) ?_
  refine tr_aload_n eX1_addStand_20 rfl ?_
  refine tr_dup eX1_addStand_21 rfl ?_
  refine tr_getI eX1_addStand_22 fk_X1_39 rfl rfl ?_
  try simp (disch := decide) only [up_k, up_s, up_f]
  refine tr_iconst eX1_addStand_25 (nI 1) ci_1 ?_
  refine tr_iadd eX1_addStand_26 ?_
  refine tr_put eX1_addStand_27 fp_X1_39 rfl rfl ?_
  refine tr_aload_n eX1_addStand_30 rfl ?_
  refine tr_getI eX1_addStand_31 fk_X1_39 rfl rfl ?_
  try simp (disch := decide) only [up_k, up_s, up_f]
  refine tr_iconst eX1_addStand_34 (nI 1) ci_1 ?_
  refine tr_isub eX1_addStand_35 ?_
  refine tr_ret eX1_addStand_36 rfl rfl ?_
  first | with_reducible exact ⟨rfl, rfl⟩ | (refine ⟨congrArg some ?_, rfl⟩; unfold bi; split <;> first | with_reducible rfl | (exfalso; simp_all; done) | (exfalso; simp only [Int32.lt_iff_toInt_lt, Int32.le_iff_toInt_le] at *; omega)) | exact ⟨rfl, rfl⟩

theorem k_X1_addPair {σ : tSt} {a b c d : Int32} (hn : vp_in (σ 17 (nI 10)) 40) : CT mX1_addPair [.ref 17, .int a, .int b, .int c, .int d] σ (PE (some (σ 17 (nI 10) + nI 1)) (up (up (up (up (up σ 3 (σ 17 (nI 10)) a) 4 (σ 17 (nI 10)) b) 5 (σ 17 (nI 10)) c) 6 (σ 17 (nI 10)) d) 17 (nI 10) (σ 17 (nI 10) + nI 1))) := by
  refine CT.of2 0 (by decide) rfl rfl ?_
  refine tr_aload_n eX1_addPair_0 rfl ?_
  refine tr_getR eX1_addPair_1 fk_X1_18 rfl rfl ?_
  refine tr_aload_n eX1_addPair_4 rfl ?_
  refine tr_getI eX1_addPair_5 fk_X1_43 rfl rfl ?_
  refine tr_iload_n eX1_addPair_8 rfl ?_
  refine tr_iast eX1_addPair_9 rfl (by first | with_reducible assumption | with_reducible exact in_slot (by with_reducible assumption) (by with_reducible assumption) | with_reducible exact in_row _ (by decide) (by with_reducible assumption) | with_reducible exact in_row0 (by with_reducible assumption) | with_reducible exact in_slot0 (by with_reducible assumption) | (simp (disch := decide) only [up_k, up_s, up_f] <;> with_reducible assumption)) ?_
  refine tr_aload_n eX1_addPair_10 rfl ?_
  refine tr_getR eX1_addPair_11 fk_X1_21 rfl rfl ?_
  refine tr_aload_n eX1_addPair_14 rfl ?_
  refine tr_getI eX1_addPair_15 fk_X1_43 rfl rfl ?_
  try simp (disch := decide) only [up_k, up_s, up_f]
  refine tr_iload_n eX1_addPair_18 rfl ?_
  refine tr_iast eX1_addPair_19 rfl (by first | with_reducible assumption | with_reducible exact in_slot (by with_reducible assumption) (by with_reducible assumption) | with_reducible exact in_row _ (by decide) (by with_reducible assumption) | with_reducible exact in_row0 (by with_reducible assumption) | with_reducible exact in_slot0 (by with_reducible assumption) | (simp (disch := decide) only [up_k, up_s, up_f] <;> with_reducible assumption)) ?_
  refine tr_aload_n eX1_addPair_20 rfl ?_
  refine tr_getR eX1_addPair_21 fk_X1_24 rfl rfl ?_
  refine tr_aload_n eX1_addPair_24 rfl ?_
  refine tr_getI eX1_addPair_25 fk_X1_43 rfl rfl ?_
  try simp (disch := decide) only [up_k, up_s, up_f]
  refine tr_iload_n eX1_addPair_28 rfl ?_
  refine tr_iast eX1_addPair_29 rfl (by first | with_reducible assumption | with_reducible exact in_slot (by with_reducible assumption) (by with_reducible assumption) | with_reducible exact in_row _ (by decide) (by with_reducible assumption) | with_reducible exact in_row0 (by with_reducible assumption) | with_reducible exact in_slot0 (by with_reducible assumption) | (simp (disch := decide) only [up_k, up_s, up_f] <;> with_reducible assumption)) ?_
  refine tr_aload_n eX1_addPair_30 rfl ?_
  refine tr_getR eX1_addPair_31 fk_X1_27 rfl rfl ?_
  refine tr_aload_n eX1_addPair_34 rfl ?_
  refine tr_getI eX1_addPair_35 fk_X1_43 rfl rfl ?_
  try simp (disch := decide) only [up_k, up_s, up_f]
  refine tr_iload eX1_addPair_38 rfl ?_
  refine tr_iast eX1_addPair_40 rfl (by first | with_reducible assumption | with_reducible exact in_slot (by with_reducible assumption) (by with_reducible assumption) | with_reducible exact in_row _ (by decide) (by with_reducible assumption) | with_reducible exact in_row0 (by with_reducible assumption) | with_reducible exact in_slot0 (by with_reducible assumption) | (simp (disch := decide) only [up_k, up_s, up_f] <;> with_reducible assumption)) ?_
  refine tr_aload_n eX1_addPair_41 rfl ?_
  refine tr_dup eX1_addPair_42 rfl ?_
  refine tr_getI eX1_addPair_43 fk_X1_43 rfl rfl ?_
  try simp (disch := decide) only [up_k, up_s, up_f]
  refine tr_iconst eX1_addPair_46 (nI 1) ci_1 ?_
  refine tr_iadd eX1_addPair_47 ?_
  refine tr_put eX1_addPair_48 fp_X1_43 rfl rfl ?_
  refine tr_aload_n eX1_addPair_51 rfl ?_
  refine tr_getI eX1_addPair_52 fk_X1_43 rfl rfl ?_
  try simp (disch := decide) only [up_k, up_s, up_f]
  refine tr_ret eX1_addPair_55 rfl rfl ?_
  first | with_reducible exact ⟨rfl, rfl⟩ | (refine ⟨congrArg some ?_, rfl⟩; unfold bi; split <;> first | with_reducible rfl | (exfalso; simp_all; done) | (exfalso; simp only [Int32.lt_iff_toInt_lt, Int32.le_iff_toInt_le] at *; omega)) | exact ⟨rfl, rfl⟩

theorem k_X1_addCone {σ : tSt} {a b c : Int32} (hn : vp_in (σ 17 (nI 11)) 20) : CT mX1_addCone [.ref 17, .int a, .int b, .int c] σ (PE (some (σ 17 (nI 11) + nI 1 - nI 1)) (up (up (up (up σ 7 (σ 17 (nI 11)) a) 8 (σ 17 (nI 11)) b) 9 (σ 17 (nI 11)) c) 17 (nI 11) (σ 17 (nI 11) + nI 1))) := by
  refine CT.of2 0 (by decide) rfl rfl ?_
  refine tr_aload_n eX1_addCone_0 rfl ?_
  refine tr_getR eX1_addCone_1 fk_X1_30 rfl rfl ?_
  refine tr_aload_n eX1_addCone_4 rfl ?_
  refine tr_getI eX1_addCone_5 fk_X1_46 rfl rfl ?_
  refine tr_iload_n eX1_addCone_8 rfl ?_
  refine tr_iast eX1_addCone_9 rfl (by first | with_reducible assumption | with_reducible exact in_slot (by with_reducible assumption) (by with_reducible assumption) | with_reducible exact in_row _ (by decide) (by with_reducible assumption) | with_reducible exact in_row0 (by with_reducible assumption) | with_reducible exact in_slot0 (by with_reducible assumption) | (simp (disch := decide) only [up_k, up_s, up_f] <;> with_reducible assumption)) ?_
  refine tr_aload_n eX1_addCone_10 rfl ?_
  refine tr_getR eX1_addCone_11 fk_X1_33 rfl rfl ?_
  refine tr_aload_n eX1_addCone_14 rfl ?_
  refine tr_getI eX1_addCone_15 fk_X1_46 rfl rfl ?_
  try simp (disch := decide) only [up_k, up_s, up_f]
  refine tr_iload_n eX1_addCone_18 rfl ?_
  refine tr_iast eX1_addCone_19 rfl (by first | with_reducible assumption | with_reducible exact in_slot (by with_reducible assumption) (by with_reducible assumption) | with_reducible exact in_row _ (by decide) (by with_reducible assumption) | with_reducible exact in_row0 (by with_reducible assumption) | with_reducible exact in_slot0 (by with_reducible assumption) | (simp (disch := decide) only [up_k, up_s, up_f] <;> with_reducible assumption)) ?_
  refine tr_aload_n eX1_addCone_20 rfl ?_
  refine tr_getR eX1_addCone_21 fk_X1_36 rfl rfl ?_
  refine tr_aload_n eX1_addCone_24 rfl ?_
  refine tr_getI eX1_addCone_25 fk_X1_46 rfl rfl ?_
  try simp (disch := decide) only [up_k, up_s, up_f]
  refine tr_iload_n eX1_addCone_28 rfl ?_
  refine tr_iast eX1_addCone_29 rfl (by first | with_reducible assumption | with_reducible exact in_slot (by with_reducible assumption) (by with_reducible assumption) | with_reducible exact in_row _ (by decide) (by with_reducible assumption) | with_reducible exact in_row0 (by with_reducible assumption) | with_reducible exact in_slot0 (by with_reducible assumption) | (simp (disch := decide) only [up_k, up_s, up_f] <;> with_reducible assumption)) ?_
  refine tr_aload_n eX1_addCone_30 rfl ?_
  refine tr_dup eX1_addCone_31 rfl ?_
  refine tr_getI eX1_addCone_32 fk_X1_46 rfl rfl ?_
  try simp (disch := decide) only [up_k, up_s, up_f]
  refine tr_iconst eX1_addCone_35 (nI 1) ci_1 ?_
  refine tr_iadd eX1_addCone_36 ?_
  refine tr_put eX1_addCone_37 fp_X1_46 rfl rfl ?_
  refine tr_aload_n eX1_addCone_40 rfl ?_
  refine tr_getI eX1_addCone_41 fk_X1_46 rfl rfl ?_
  try simp (disch := decide) only [up_k, up_s, up_f]
  refine tr_iconst eX1_addCone_44 (nI 1) ci_1 ?_
  refine tr_isub eX1_addCone_45 ?_
  refine tr_ret eX1_addCone_46 rfl rfl ?_
  first | with_reducible exact ⟨rfl, rfl⟩ | (refine ⟨congrArg some ?_, rfl⟩; unfold bi; split <;> first | with_reducible rfl | (exfalso; simp_all; done) | (exfalso; simp only [Int32.lt_iff_toInt_lt, Int32.le_iff_toInt_le] at *; omega)) | exact ⟨rfl, rfl⟩

def s_gate (σ : tSt) (s : Int32) : Bool := decide (σ 1 s = nI 2 ∨ σ 1 s = nI 3)
theorem k_X1_hasGate {σ : tSt} {s : Int32} (hs : vp_in s 24) : CT mX1_hasGate [.ref 17, .int s] σ (PE (some (bi (s_gate σ s = true))) σ) := by
  refine CT.of2 0 (by decide) rfl rfl ?_
  refine tr_aload_n eX1_hasGate_0 rfl ?_
  refine tr_getR eX1_hasGate_1 fk_X1_9 rfl rfl ?_
  refine tr_iload_n eX1_hasGate_4 rfl ?_
  refine tr_iald eX1_hasGate_5 rfl (by first | with_reducible assumption | with_reducible exact in_slot (by with_reducible assumption) (by with_reducible assumption) | with_reducible exact in_row _ (by decide) (by with_reducible assumption) | with_reducible exact in_row0 (by with_reducible assumption) | with_reducible exact in_slot0 (by with_reducible assumption) | (simp (disch := decide) only [up_k, up_s, up_f] <;> with_reducible assumption)) ?_
  refine tr_iconst eX1_hasGate_6 (nI 2) ci_2 ?_
  refine tr_icmp_eq eX1_hasGate_7 (fun h7 => ?_) (fun h7 => ?_)
  · skip
    refine tr_iconst eX1_hasGate_20 (nI 1) ci_1 ?_
    refine tr_goto eX1_hasGate_21 ?_
    refine tr_ret eX1_hasGate_25 rfl (by first | rfl | exact nar_bi _) ?_
    refine ⟨congrArg some ?_, rfl⟩
    first | (refine bi_t ?_; simp_all [s_gate]; done) | (refine bi_f ?_; simp_all [s_gate]; done)
  · skip
    refine tr_aload_n eX1_hasGate_10 rfl ?_
    refine tr_getR eX1_hasGate_11 fk_X1_9 rfl rfl ?_
    refine tr_iload_n eX1_hasGate_14 rfl ?_
    refine tr_iald eX1_hasGate_15 rfl (by first | with_reducible assumption | with_reducible exact in_slot (by with_reducible assumption) (by with_reducible assumption) | with_reducible exact in_row _ (by decide) (by with_reducible assumption) | with_reducible exact in_row0 (by with_reducible assumption) | with_reducible exact in_slot0 (by with_reducible assumption) | (simp (disch := decide) only [up_k, up_s, up_f] <;> with_reducible assumption)) ?_
    refine tr_iconst eX1_hasGate_16 (nI 3) ci_3 ?_
    refine tr_icmp_ne eX1_hasGate_17 (fun h17 => ?_) (fun h17 => ?_)
    · skip
      refine tr_iconst eX1_hasGate_24 (nI 0) ci_0 ?_
      refine tr_ret eX1_hasGate_25 rfl (by first | rfl | exact nar_bi _) ?_
      refine ⟨congrArg some ?_, rfl⟩
      first | (refine bi_t ?_; simp_all [s_gate]; done) | (refine bi_f ?_; simp_all [s_gate]; done)
    · skip
      refine tr_iconst eX1_hasGate_20 (nI 1) ci_1 ?_
      refine tr_goto eX1_hasGate_21 ?_
      refine tr_ret eX1_hasGate_25 rfl (by first | rfl | exact nar_bi _) ?_
      refine ⟨congrArg some ?_, rfl⟩
      first | (refine bi_t ?_; simp_all [s_gate]; done) | (refine bi_f ?_; simp_all [s_gate]; done)

theorem k_X1_halfOf {σ : tSt} {s : Int32} (hs : vp_in s 24) : CT mX1_halfOf [.ref 17, .int s] σ (PE (some (σ 2 s / nI 2)) σ) := by
  refine CT.of2 0 (by decide) rfl rfl ?_
  refine tr_aload_n eX1_halfOf_0 rfl ?_
  refine tr_getR eX1_halfOf_1 fk_X1_15 rfl rfl ?_
  refine tr_iload_n eX1_halfOf_4 rfl ?_
  refine tr_iald eX1_halfOf_5 rfl (by first | with_reducible assumption | with_reducible exact in_slot (by with_reducible assumption) (by with_reducible assumption) | with_reducible exact in_row _ (by decide) (by with_reducible assumption) | with_reducible exact in_row0 (by with_reducible assumption) | with_reducible exact in_slot0 (by with_reducible assumption) | (simp (disch := decide) only [up_k, up_s, up_f] <;> with_reducible assumption)) ?_
  refine tr_iconst eX1_halfOf_6 (nI 2) ci_2 ?_
  refine tr_idiv eX1_halfOf_7 (by decide) ?_
  refine tr_ret eX1_halfOf_8 rfl rfl ?_
  first | with_reducible exact ⟨rfl, rfl⟩ | (refine ⟨congrArg some ?_, rfl⟩; unfold bi; split <;> first | with_reducible rfl | (exfalso; simp_all; done) | (exfalso; simp only [Int32.lt_iff_toInt_lt, Int32.le_iff_toInt_le] at *; omega)) | exact ⟨rfl, rfl⟩

def s_kind (σ : tSt) (v : Int32) : Int32 := σ 10 (v * nI 5)
def s_wing (σ : tSt) (v : Int32) : Int32 := σ 10 (v * nI 5 + nI 1)
def s_in (σ : tSt) (v : Int32) : Int32 := σ 10 (v * nI 5 + nI 2)
def s_out (σ : tSt) (v : Int32) : Int32 := if σ 11 v ≤ nI 3 then nI 2880 else σ 10 (v * nI 5 + nI 3)
def s_need (σ : tSt) (v : Int32) : Int32 := if σ 11 v ≤ nI 4 then nI 0 else σ 10 (v * nI 5 + nI 4)
def s_unk (σ : tSt) (v : Int32) : Bool := decide (¬ nI 2 < σ 11 v)
def s_put (σ : tSt) (v : Int32) : Bool := decide (¬ σ 12 v ≤ 0)
def s_beg (σ : tSt) (now v : Int32) : Bool := !s_unk σ v && decide (¬ now < s_in σ v)
def s_come (σ : tSt) (now v : Int32) : Bool := !s_put σ v && !s_unk σ v && !s_beg σ now v
def s_wait (σ : tSt) (now v : Int32) : Bool := !s_put σ v && s_beg σ now v && decide (¬ s_out σ v ≤ now)
/-- is stay k of v at s with a minute of from .. to -/
def s_sa (σ : tSt) (v k s a b : Int32) : Bool := decide (σ 13 (v * nI 8 + k) = s) && decide (σ 14 (v * nI 8 + k) < b) && decide (a < σ 15 (v * nI 8 + k))
theorem k_X5_has {σ : tSt} {v : Int32} : CT mX5_has [.ref 18, .int v] σ (PE (some (bi (¬ v < 0 ∧ ¬ σ 18 (nI 6) ≤ v))) σ) := by
  refine CT.of2 0 (by decide) rfl rfl ?_
  refine tr_iload_n eX5_has_0 rfl ?_
  refine tr_if_lt eX5_has_1 (fun h1 => ?_) (fun h1 => ?_)
  · skip
    refine tr_iconst eX5_has_16 (nI 0) ci_0 ?_
    refine tr_ret eX5_has_17 rfl (by first | rfl | exact nar_bi _) ?_
    first | with_reducible exact ⟨rfl, rfl⟩ | (refine ⟨congrArg some ?_, rfl⟩; unfold bi; split <;> first | with_reducible rfl | (exfalso; simp_all; done) | (exfalso; simp only [Int32.lt_iff_toInt_lt, Int32.le_iff_toInt_le] at *; omega)) | exact ⟨rfl, rfl⟩
  · skip
    refine tr_iload_n eX5_has_4 rfl ?_
    refine tr_aload_n eX5_has_5 rfl ?_
    refine tr_getI eX5_has_6 fk_X5_30 rfl rfl ?_
    refine tr_icmp_ge eX5_has_9 (fun h9 => ?_) (fun h9 => ?_)
    · skip
      refine tr_iconst eX5_has_16 (nI 0) ci_0 ?_
      refine tr_ret eX5_has_17 rfl (by first | rfl | exact nar_bi _) ?_
      first | with_reducible exact ⟨rfl, rfl⟩ | (refine ⟨congrArg some ?_, rfl⟩; unfold bi; split <;> first | with_reducible rfl | (exfalso; simp_all; done) | (exfalso; simp only [Int32.lt_iff_toInt_lt, Int32.le_iff_toInt_le] at *; omega)) | exact ⟨rfl, rfl⟩
    · skip
      refine tr_iconst eX5_has_12 (nI 1) ci_1 ?_
      refine tr_goto eX5_has_13 ?_
      refine tr_ret eX5_has_17 rfl (by first | rfl | exact nar_bi _) ?_
      first | with_reducible exact ⟨rfl, rfl⟩ | (refine ⟨congrArg some ?_, rfl⟩; unfold bi; split <;> first | with_reducible rfl | (exfalso; simp_all; done) | (exfalso; simp only [Int32.lt_iff_toInt_lt, Int32.le_iff_toInt_le] at *; omega)) | exact ⟨rfl, rfl⟩

theorem k_X5_kindOf {σ : tSt} {v : Int32} (hv : vp_in v 40) : CT mX5_kindOf [.ref 18, .int v] σ (PE (some (s_kind σ v)) σ) := by
  refine CT.of2 0 (by decide) rfl rfl ?_
  refine tr_aload_n eX5_kindOf_0 rfl ?_
  refine tr_getR eX5_kindOf_1 fk_X5_9 rfl rfl ?_
  refine tr_iload_n eX5_kindOf_4 rfl ?_
  refine tr_iconst eX5_kindOf_5 (nI 5) ci_5 ?_
  refine tr_imul eX5_kindOf_6 ?_
  refine tr_iconst eX5_kindOf_7 (nI 0) ci_0 ?_
  refine tr_iadd eX5_kindOf_8 ?_
  refine tr_iald eX5_kindOf_9 rfl (by first | with_reducible assumption | with_reducible exact in_slot (by with_reducible assumption) (by with_reducible assumption) | with_reducible exact in_row _ (by decide) (by with_reducible assumption) | with_reducible exact in_row0 (by with_reducible assumption) | with_reducible exact in_slot0 (by with_reducible assumption) | (simp (disch := decide) only [up_k, up_s, up_f] <;> with_reducible assumption)) ?_
  refine tr_ret eX5_kindOf_10 rfl rfl ?_
  first | with_reducible exact ⟨rfl, rfl⟩ | (refine ⟨congrArg some ?_, rfl⟩; unfold bi; split <;> first | with_reducible rfl | (exfalso; simp_all [s_wait, s_come]; done) | (exfalso; simp_all [s_kind, s_wing, s_in, s_out, s_need, s_unk, s_put, s_beg, s_come, s_wait, s_sa, add_n0]; done) | (exfalso; simp_all [s_kind, s_wing, s_in, s_out, s_need, s_unk, s_put, s_beg, s_come, s_wait, s_sa, add_n0]; simp only [Int32.lt_iff_toInt_lt, Int32.le_iff_toInt_le] at *; omega)) | (refine ⟨congrArg some ?_, rfl⟩; (first | unfold s_out | unfold s_need); split <;> first | with_reducible rfl | contradiction) | (exact ⟨by simp [s_kind, s_wing, s_in, s_out, s_need, s_unk, s_put, s_beg, s_come, s_wait, s_sa, add_n0], rfl⟩) | exact ⟨rfl, rfl⟩

theorem k_X5_wingOf {σ : tSt} {v : Int32} (hv : vp_in v 40) : CT mX5_wingOf [.ref 18, .int v] σ (PE (some (s_wing σ v)) σ) := by
  refine CT.of2 0 (by decide) rfl rfl ?_
  refine tr_aload_n eX5_wingOf_0 rfl ?_
  refine tr_getR eX5_wingOf_1 fk_X5_9 rfl rfl ?_
  refine tr_iload_n eX5_wingOf_4 rfl ?_
  refine tr_iconst eX5_wingOf_5 (nI 5) ci_5 ?_
  refine tr_imul eX5_wingOf_6 ?_
  refine tr_iconst eX5_wingOf_7 (nI 1) ci_1 ?_
  refine tr_iadd eX5_wingOf_8 ?_
  refine tr_iald eX5_wingOf_9 rfl (by first | with_reducible assumption | with_reducible exact in_slot (by with_reducible assumption) (by with_reducible assumption) | with_reducible exact in_row _ (by decide) (by with_reducible assumption) | with_reducible exact in_row0 (by with_reducible assumption) | with_reducible exact in_slot0 (by with_reducible assumption) | (simp (disch := decide) only [up_k, up_s, up_f] <;> with_reducible assumption)) ?_
  refine tr_ret eX5_wingOf_10 rfl rfl ?_
  first | with_reducible exact ⟨rfl, rfl⟩ | (refine ⟨congrArg some ?_, rfl⟩; unfold bi; split <;> first | with_reducible rfl | (exfalso; simp_all [s_wait, s_come]; done) | (exfalso; simp_all [s_kind, s_wing, s_in, s_out, s_need, s_unk, s_put, s_beg, s_come, s_wait, s_sa, add_n0]; done) | (exfalso; simp_all [s_kind, s_wing, s_in, s_out, s_need, s_unk, s_put, s_beg, s_come, s_wait, s_sa, add_n0]; simp only [Int32.lt_iff_toInt_lt, Int32.le_iff_toInt_le] at *; omega)) | (refine ⟨congrArg some ?_, rfl⟩; (first | unfold s_out | unfold s_need); split <;> first | with_reducible rfl | contradiction) | (exact ⟨by simp [s_kind, s_wing, s_in, s_out, s_need, s_unk, s_put, s_beg, s_come, s_wait, s_sa, add_n0], rfl⟩) | exact ⟨rfl, rfl⟩

theorem k_X5_inOf {σ : tSt} {v : Int32} (hv : vp_in v 40) : CT mX5_inOf [.ref 18, .int v] σ (PE (some (s_in σ v)) σ) := by
  refine CT.of2 0 (by decide) rfl rfl ?_
  refine tr_aload_n eX5_inOf_0 rfl ?_
  refine tr_getR eX5_inOf_1 fk_X5_9 rfl rfl ?_
  refine tr_iload_n eX5_inOf_4 rfl ?_
  refine tr_iconst eX5_inOf_5 (nI 5) ci_5 ?_
  refine tr_imul eX5_inOf_6 ?_
  refine tr_iconst eX5_inOf_7 (nI 2) ci_2 ?_
  refine tr_iadd eX5_inOf_8 ?_
  refine tr_iald eX5_inOf_9 rfl (by first | with_reducible assumption | with_reducible exact in_slot (by with_reducible assumption) (by with_reducible assumption) | with_reducible exact in_row _ (by decide) (by with_reducible assumption) | with_reducible exact in_row0 (by with_reducible assumption) | with_reducible exact in_slot0 (by with_reducible assumption) | (simp (disch := decide) only [up_k, up_s, up_f] <;> with_reducible assumption)) ?_
  refine tr_ret eX5_inOf_10 rfl rfl ?_
  first | with_reducible exact ⟨rfl, rfl⟩ | (refine ⟨congrArg some ?_, rfl⟩; unfold bi; split <;> first | with_reducible rfl | (exfalso; simp_all [s_wait, s_come]; done) | (exfalso; simp_all [s_kind, s_wing, s_in, s_out, s_need, s_unk, s_put, s_beg, s_come, s_wait, s_sa, add_n0]; done) | (exfalso; simp_all [s_kind, s_wing, s_in, s_out, s_need, s_unk, s_put, s_beg, s_come, s_wait, s_sa, add_n0]; simp only [Int32.lt_iff_toInt_lt, Int32.le_iff_toInt_le] at *; omega)) | (refine ⟨congrArg some ?_, rfl⟩; (first | unfold s_out | unfold s_need); split <;> first | with_reducible rfl | contradiction) | (exact ⟨by simp [s_kind, s_wing, s_in, s_out, s_need, s_unk, s_put, s_beg, s_come, s_wait, s_sa, add_n0], rfl⟩) | exact ⟨rfl, rfl⟩

theorem k_X5_outOf {σ : tSt} {v : Int32} (hv : vp_in v 40) : CT mX5_outOf [.ref 18, .int v] σ (PE (some (s_out σ v)) σ) := by
  refine CT.of2 0 (by decide) rfl rfl ?_
  refine tr_aload_n eX5_outOf_0 rfl ?_
  refine tr_getR eX5_outOf_1 fk_X5_15 rfl rfl ?_
  refine tr_iload_n eX5_outOf_4 rfl ?_
  refine tr_iald eX5_outOf_5 rfl (by first | with_reducible assumption | with_reducible exact in_slot (by with_reducible assumption) (by with_reducible assumption) | with_reducible exact in_row _ (by decide) (by with_reducible assumption) | with_reducible exact in_row0 (by with_reducible assumption) | with_reducible exact in_slot0 (by with_reducible assumption) | (simp (disch := decide) only [up_k, up_s, up_f] <;> with_reducible assumption)) ?_
  refine tr_iconst eX5_outOf_6 (nI 3) ci_3 ?_
  refine tr_icmp_le eX5_outOf_7 (fun h7 => ?_) (fun h7 => ?_)
  · skip
    refine tr_sipush eX5_outOf_23 (nI 2880) (by decide) ?_
    refine tr_ret eX5_outOf_26 rfl rfl ?_
    first | with_reducible exact ⟨rfl, rfl⟩ | (refine ⟨congrArg some ?_, rfl⟩; unfold bi; split <;> first | with_reducible rfl | (exfalso; simp_all [s_wait, s_come]; done) | (exfalso; simp_all [s_kind, s_wing, s_in, s_out, s_need, s_unk, s_put, s_beg, s_come, s_wait, s_sa, add_n0]; done) | (exfalso; simp_all [s_kind, s_wing, s_in, s_out, s_need, s_unk, s_put, s_beg, s_come, s_wait, s_sa, add_n0]; simp only [Int32.lt_iff_toInt_lt, Int32.le_iff_toInt_le] at *; omega)) | (refine ⟨congrArg some ?_, rfl⟩; (first | unfold s_out | unfold s_need); split <;> first | with_reducible rfl | contradiction) | (exact ⟨by simp [s_kind, s_wing, s_in, s_out, s_need, s_unk, s_put, s_beg, s_come, s_wait, s_sa, add_n0], rfl⟩) | exact ⟨rfl, rfl⟩
  · skip
    refine tr_aload_n eX5_outOf_10 rfl ?_
    refine tr_getR eX5_outOf_11 fk_X5_9 rfl rfl ?_
    refine tr_iload_n eX5_outOf_14 rfl ?_
    refine tr_iconst eX5_outOf_15 (nI 5) ci_5 ?_
    refine tr_imul eX5_outOf_16 ?_
    refine tr_iconst eX5_outOf_17 (nI 3) ci_3 ?_
    refine tr_iadd eX5_outOf_18 ?_
    refine tr_iald eX5_outOf_19 rfl (by first | with_reducible assumption | with_reducible exact in_slot (by with_reducible assumption) (by with_reducible assumption) | with_reducible exact in_row _ (by decide) (by with_reducible assumption) | with_reducible exact in_row0 (by with_reducible assumption) | with_reducible exact in_slot0 (by with_reducible assumption) | (simp (disch := decide) only [up_k, up_s, up_f] <;> with_reducible assumption)) ?_
    refine tr_goto eX5_outOf_20 ?_
    refine tr_ret eX5_outOf_26 rfl rfl ?_
    first | with_reducible exact ⟨rfl, rfl⟩ | (refine ⟨congrArg some ?_, rfl⟩; unfold bi; split <;> first | with_reducible rfl | (exfalso; simp_all [s_wait, s_come]; done) | (exfalso; simp_all [s_kind, s_wing, s_in, s_out, s_need, s_unk, s_put, s_beg, s_come, s_wait, s_sa, add_n0]; done) | (exfalso; simp_all [s_kind, s_wing, s_in, s_out, s_need, s_unk, s_put, s_beg, s_come, s_wait, s_sa, add_n0]; simp only [Int32.lt_iff_toInt_lt, Int32.le_iff_toInt_le] at *; omega)) | (refine ⟨congrArg some ?_, rfl⟩; (first | unfold s_out | unfold s_need); split <;> first | with_reducible rfl | contradiction) | (exact ⟨by simp [s_kind, s_wing, s_in, s_out, s_need, s_unk, s_put, s_beg, s_come, s_wait, s_sa, add_n0], rfl⟩) | exact ⟨rfl, rfl⟩

theorem k_X5_needOf {σ : tSt} {v : Int32} (hv : vp_in v 40) : CT mX5_needOf [.ref 18, .int v] σ (PE (some (s_need σ v)) σ) := by
  refine CT.of2 0 (by decide) rfl rfl ?_
  refine tr_aload_n eX5_needOf_0 rfl ?_
  refine tr_getR eX5_needOf_1 fk_X5_15 rfl rfl ?_
  refine tr_iload_n eX5_needOf_4 rfl ?_
  refine tr_iald eX5_needOf_5 rfl (by first | with_reducible assumption | with_reducible exact in_slot (by with_reducible assumption) (by with_reducible assumption) | with_reducible exact in_row _ (by decide) (by with_reducible assumption) | with_reducible exact in_row0 (by with_reducible assumption) | with_reducible exact in_slot0 (by with_reducible assumption) | (simp (disch := decide) only [up_k, up_s, up_f] <;> with_reducible assumption)) ?_
  refine tr_iconst eX5_needOf_6 (nI 4) ci_4 ?_
  refine tr_icmp_le eX5_needOf_7 (fun h7 => ?_) (fun h7 => ?_)
  · skip
    refine tr_iconst eX5_needOf_23 (nI 0) ci_0 ?_
    refine tr_ret eX5_needOf_24 rfl rfl ?_
    first | with_reducible exact ⟨rfl, rfl⟩ | (refine ⟨congrArg some ?_, rfl⟩; unfold bi; split <;> first | with_reducible rfl | (exfalso; simp_all [s_wait, s_come]; done) | (exfalso; simp_all [s_kind, s_wing, s_in, s_out, s_need, s_unk, s_put, s_beg, s_come, s_wait, s_sa, add_n0]; done) | (exfalso; simp_all [s_kind, s_wing, s_in, s_out, s_need, s_unk, s_put, s_beg, s_come, s_wait, s_sa, add_n0]; simp only [Int32.lt_iff_toInt_lt, Int32.le_iff_toInt_le] at *; omega)) | (refine ⟨congrArg some ?_, rfl⟩; (first | unfold s_out | unfold s_need); split <;> first | with_reducible rfl | contradiction) | (exact ⟨by simp [s_kind, s_wing, s_in, s_out, s_need, s_unk, s_put, s_beg, s_come, s_wait, s_sa, add_n0], rfl⟩) | exact ⟨rfl, rfl⟩
  · skip
    refine tr_aload_n eX5_needOf_10 rfl ?_
    refine tr_getR eX5_needOf_11 fk_X5_9 rfl rfl ?_
    refine tr_iload_n eX5_needOf_14 rfl ?_
    refine tr_iconst eX5_needOf_15 (nI 5) ci_5 ?_
    refine tr_imul eX5_needOf_16 ?_
    refine tr_iconst eX5_needOf_17 (nI 4) ci_4 ?_
    refine tr_iadd eX5_needOf_18 ?_
    refine tr_iald eX5_needOf_19 rfl (by first | with_reducible assumption | with_reducible exact in_slot (by with_reducible assumption) (by with_reducible assumption) | with_reducible exact in_row _ (by decide) (by with_reducible assumption) | with_reducible exact in_row0 (by with_reducible assumption) | with_reducible exact in_slot0 (by with_reducible assumption) | (simp (disch := decide) only [up_k, up_s, up_f] <;> with_reducible assumption)) ?_
    refine tr_goto eX5_needOf_20 ?_
    refine tr_ret eX5_needOf_24 rfl rfl ?_
    first | with_reducible exact ⟨rfl, rfl⟩ | (refine ⟨congrArg some ?_, rfl⟩; unfold bi; split <;> first | with_reducible rfl | (exfalso; simp_all [s_wait, s_come]; done) | (exfalso; simp_all [s_kind, s_wing, s_in, s_out, s_need, s_unk, s_put, s_beg, s_come, s_wait, s_sa, add_n0]; done) | (exfalso; simp_all [s_kind, s_wing, s_in, s_out, s_need, s_unk, s_put, s_beg, s_come, s_wait, s_sa, add_n0]; simp only [Int32.lt_iff_toInt_lt, Int32.le_iff_toInt_le] at *; omega)) | (refine ⟨congrArg some ?_, rfl⟩; (first | unfold s_out | unfold s_need); split <;> first | with_reducible rfl | contradiction) | (exact ⟨by simp [s_kind, s_wing, s_in, s_out, s_need, s_unk, s_put, s_beg, s_come, s_wait, s_sa, add_n0], rfl⟩) | exact ⟨rfl, rfl⟩

theorem k_X5_isUnknown {σ : tSt} {v : Int32} (hv : vp_in v 40) : CT mX5_isUnknown [.ref 18, .int v] σ (PE (some (bi (s_unk σ v = true))) σ) := by
  refine CT.of2 0 (by decide) rfl rfl ?_
  refine tr_aload_n eX5_isUnknown_0 rfl ?_
  refine tr_getR eX5_isUnknown_1 fk_X5_15 rfl rfl ?_
  refine tr_iload_n eX5_isUnknown_4 rfl ?_
  refine tr_iald eX5_isUnknown_5 rfl (by first | with_reducible assumption | with_reducible exact in_slot (by with_reducible assumption) (by with_reducible assumption) | with_reducible exact in_row _ (by decide) (by with_reducible assumption) | with_reducible exact in_row0 (by with_reducible assumption) | with_reducible exact in_slot0 (by with_reducible assumption) | (simp (disch := decide) only [up_k, up_s, up_f] <;> with_reducible assumption)) ?_
  refine tr_iconst eX5_isUnknown_6 (nI 2) ci_2 ?_
  refine tr_icmp_gt eX5_isUnknown_7 (fun h7 => ?_) (fun h7 => ?_)
  · skip
    refine tr_iconst eX5_isUnknown_14 (nI 0) ci_0 ?_
    refine tr_ret eX5_isUnknown_15 rfl (by first | rfl | exact nar_bi _) ?_
    first | with_reducible exact ⟨rfl, rfl⟩ | (refine ⟨congrArg some ?_, rfl⟩; unfold bi; split <;> first | with_reducible rfl | (exfalso; simp_all [s_wait, s_come]; done) | (exfalso; simp_all [s_kind, s_wing, s_in, s_out, s_need, s_unk, s_put, s_beg, s_come, s_wait, s_sa, add_n0]; done) | (exfalso; simp_all [s_kind, s_wing, s_in, s_out, s_need, s_unk, s_put, s_beg, s_come, s_wait, s_sa, add_n0]; simp only [Int32.lt_iff_toInt_lt, Int32.le_iff_toInt_le] at *; omega)) | (refine ⟨congrArg some ?_, rfl⟩; (first | unfold s_out | unfold s_need); split <;> first | with_reducible rfl | contradiction) | (exact ⟨by simp [s_kind, s_wing, s_in, s_out, s_need, s_unk, s_put, s_beg, s_come, s_wait, s_sa, add_n0], rfl⟩) | exact ⟨rfl, rfl⟩
  · skip
    refine tr_iconst eX5_isUnknown_10 (nI 1) ci_1 ?_
    refine tr_goto eX5_isUnknown_11 ?_
    refine tr_ret eX5_isUnknown_15 rfl (by first | rfl | exact nar_bi _) ?_
    first | with_reducible exact ⟨rfl, rfl⟩ | (refine ⟨congrArg some ?_, rfl⟩; unfold bi; split <;> first | with_reducible rfl | (exfalso; simp_all [s_wait, s_come]; done) | (exfalso; simp_all [s_kind, s_wing, s_in, s_out, s_need, s_unk, s_put, s_beg, s_come, s_wait, s_sa, add_n0]; done) | (exfalso; simp_all [s_kind, s_wing, s_in, s_out, s_need, s_unk, s_put, s_beg, s_come, s_wait, s_sa, add_n0]; simp only [Int32.lt_iff_toInt_lt, Int32.le_iff_toInt_le] at *; omega)) | (refine ⟨congrArg some ?_, rfl⟩; (first | unfold s_out | unfold s_need); split <;> first | with_reducible rfl | contradiction) | (exact ⟨by simp [s_kind, s_wing, s_in, s_out, s_need, s_unk, s_put, s_beg, s_come, s_wait, s_sa, add_n0], rfl⟩) | exact ⟨rfl, rfl⟩

theorem k_X5_isPut {σ : tSt} {v : Int32} (hv : vp_in v 40) : CT mX5_isPut [.ref 18, .int v] σ (PE (some (bi (s_put σ v = true))) σ) := by
  refine CT.of2 0 (by decide) rfl rfl ?_
  refine tr_aload_n eX5_isPut_0 rfl ?_
  refine tr_getR eX5_isPut_1 fk_X5_18 rfl rfl ?_
  refine tr_iload_n eX5_isPut_4 rfl ?_
  refine tr_iald eX5_isPut_5 rfl (by first | with_reducible assumption | with_reducible exact in_slot (by with_reducible assumption) (by with_reducible assumption) | with_reducible exact in_row _ (by decide) (by with_reducible assumption) | with_reducible exact in_row0 (by with_reducible assumption) | with_reducible exact in_slot0 (by with_reducible assumption) | (simp (disch := decide) only [up_k, up_s, up_f] <;> with_reducible assumption)) ?_
  refine tr_if_le eX5_isPut_6 (fun h6 => ?_) (fun h6 => ?_)
  · skip
    refine tr_iconst eX5_isPut_13 (nI 0) ci_0 ?_
    refine tr_ret eX5_isPut_14 rfl (by first | rfl | exact nar_bi _) ?_
    first | with_reducible exact ⟨rfl, rfl⟩ | (refine ⟨congrArg some ?_, rfl⟩; unfold bi; split <;> first | with_reducible rfl | (exfalso; simp_all [s_wait, s_come]; done) | (exfalso; simp_all [s_kind, s_wing, s_in, s_out, s_need, s_unk, s_put, s_beg, s_come, s_wait, s_sa, add_n0]; done) | (exfalso; simp_all [s_kind, s_wing, s_in, s_out, s_need, s_unk, s_put, s_beg, s_come, s_wait, s_sa, add_n0]; simp only [Int32.lt_iff_toInt_lt, Int32.le_iff_toInt_le] at *; omega)) | (refine ⟨congrArg some ?_, rfl⟩; (first | unfold s_out | unfold s_need); split <;> first | with_reducible rfl | contradiction) | (exact ⟨by simp [s_kind, s_wing, s_in, s_out, s_need, s_unk, s_put, s_beg, s_come, s_wait, s_sa, add_n0], rfl⟩) | exact ⟨rfl, rfl⟩
  · skip
    refine tr_iconst eX5_isPut_9 (nI 1) ci_1 ?_
    refine tr_goto eX5_isPut_10 ?_
    refine tr_ret eX5_isPut_14 rfl (by first | rfl | exact nar_bi _) ?_
    first | with_reducible exact ⟨rfl, rfl⟩ | (refine ⟨congrArg some ?_, rfl⟩; unfold bi; split <;> first | with_reducible rfl | (exfalso; simp_all [s_wait, s_come]; done) | (exfalso; simp_all [s_kind, s_wing, s_in, s_out, s_need, s_unk, s_put, s_beg, s_come, s_wait, s_sa, add_n0]; done) | (exfalso; simp_all [s_kind, s_wing, s_in, s_out, s_need, s_unk, s_put, s_beg, s_come, s_wait, s_sa, add_n0]; simp only [Int32.lt_iff_toInt_lt, Int32.le_iff_toInt_le] at *; omega)) | (refine ⟨congrArg some ?_, rfl⟩; (first | unfold s_out | unfold s_need); split <;> first | with_reducible rfl | contradiction) | (exact ⟨by simp [s_kind, s_wing, s_in, s_out, s_need, s_unk, s_put, s_beg, s_come, s_wait, s_sa, add_n0], rfl⟩) | exact ⟨rfl, rfl⟩

theorem k_X5_hasBegun {σ : tSt} {v : Int32} (hv : vp_in v 40) : CT mX5_hasBegun [.ref 18, .int v] σ (PE (some (bi (s_beg σ (σ 18 (nI 7)) v = true))) σ) := by
  refine CT.of2 0 (by decide) rfl rfl ?_
  refine tr_aload_n eX5_hasBegun_0 rfl ?_
  refine tr_iload_n eX5_hasBegun_1 rfl ?_
  refine tr_ce1 eX5_hasBegun_2 zv_X5_isUnknown zi_X5_isUnknown lk_X5_34 ⟨rfl, by decide, by decide⟩ rfl rfl rfl (k_X5_isUnknown (by first | with_reducible assumption | with_reducible exact in_slot (by with_reducible assumption) (by with_reducible assumption) | with_reducible exact in_row _ (by decide) (by with_reducible assumption) | with_reducible exact in_row0 (by with_reducible assumption) | with_reducible exact in_slot0 (by with_reducible assumption) | (simp (disch := decide) only [up_k, up_s, up_f] <;> with_reducible assumption))) ?_
  refine tr_if_ne eX5_hasBegun_5 (fun h5 => ?_) (fun h5 => ?_)
  · skip
    try first | replace h5 := bi_0 h5 | replace h5 := bi_n h5
    refine tr_iconst eX5_hasBegun_24 (nI 0) ci_0 ?_
    refine tr_ret eX5_hasBegun_25 rfl (by first | rfl | exact nar_bi _) ?_
    first | with_reducible exact ⟨rfl, rfl⟩ | (refine ⟨congrArg some ?_, rfl⟩; unfold bi; split <;> first | with_reducible rfl | (exfalso; simp_all [s_wait, s_come]; done) | (exfalso; simp_all [s_kind, s_wing, s_in, s_out, s_need, s_unk, s_put, s_beg, s_come, s_wait, s_sa, add_n0]; done) | (exfalso; simp_all [s_kind, s_wing, s_in, s_out, s_need, s_unk, s_put, s_beg, s_come, s_wait, s_sa, add_n0]; simp only [Int32.lt_iff_toInt_lt, Int32.le_iff_toInt_le] at *; omega)) | (refine ⟨congrArg some ?_, rfl⟩; (first | unfold s_out | unfold s_need); split <;> first | with_reducible rfl | contradiction) | (exact ⟨by simp [s_kind, s_wing, s_in, s_out, s_need, s_unk, s_put, s_beg, s_come, s_wait, s_sa, add_n0], rfl⟩) | exact ⟨rfl, rfl⟩
  · skip
    try first | replace h5 := bi_0 h5 | replace h5 := bi_n h5
    refine tr_aload_n eX5_hasBegun_8 rfl ?_
    refine tr_iload_n eX5_hasBegun_9 rfl ?_
    refine tr_ce1 eX5_hasBegun_10 zv_X5_inOf zi_X5_inOf lk_X5_38 ⟨rfl, by decide, by decide⟩ rfl rfl rfl (k_X5_inOf (by first | with_reducible assumption | with_reducible exact in_slot (by with_reducible assumption) (by with_reducible assumption) | with_reducible exact in_row _ (by decide) (by with_reducible assumption) | with_reducible exact in_row0 (by with_reducible assumption) | with_reducible exact in_slot0 (by with_reducible assumption) | (simp (disch := decide) only [up_k, up_s, up_f] <;> with_reducible assumption))) ?_
    refine tr_aload_n eX5_hasBegun_13 rfl ?_
    refine tr_getI eX5_hasBegun_14 fk_X5_42 rfl rfl ?_
    refine tr_icmp_gt eX5_hasBegun_17 (fun h17 => ?_) (fun h17 => ?_)
    · skip
      refine tr_iconst eX5_hasBegun_24 (nI 0) ci_0 ?_
      refine tr_ret eX5_hasBegun_25 rfl (by first | rfl | exact nar_bi _) ?_
      first | with_reducible exact ⟨rfl, rfl⟩ | (refine ⟨congrArg some ?_, rfl⟩; unfold bi; split <;> first | with_reducible rfl | (exfalso; simp_all [s_wait, s_come]; done) | (exfalso; simp_all [s_kind, s_wing, s_in, s_out, s_need, s_unk, s_put, s_beg, s_come, s_wait, s_sa, add_n0]; done) | (exfalso; simp_all [s_kind, s_wing, s_in, s_out, s_need, s_unk, s_put, s_beg, s_come, s_wait, s_sa, add_n0]; simp only [Int32.lt_iff_toInt_lt, Int32.le_iff_toInt_le] at *; omega)) | (refine ⟨congrArg some ?_, rfl⟩; (first | unfold s_out | unfold s_need); split <;> first | with_reducible rfl | contradiction) | (exact ⟨by simp [s_kind, s_wing, s_in, s_out, s_need, s_unk, s_put, s_beg, s_come, s_wait, s_sa, add_n0], rfl⟩) | exact ⟨rfl, rfl⟩
    · skip
      refine tr_iconst eX5_hasBegun_20 (nI 1) ci_1 ?_
      refine tr_goto eX5_hasBegun_21 ?_
      refine tr_ret eX5_hasBegun_25 rfl (by first | rfl | exact nar_bi _) ?_
      first | with_reducible exact ⟨rfl, rfl⟩ | (refine ⟨congrArg some ?_, rfl⟩; unfold bi; split <;> first | with_reducible rfl | (exfalso; simp_all [s_wait, s_come]; done) | (exfalso; simp_all [s_kind, s_wing, s_in, s_out, s_need, s_unk, s_put, s_beg, s_come, s_wait, s_sa, add_n0]; done) | (exfalso; simp_all [s_kind, s_wing, s_in, s_out, s_need, s_unk, s_put, s_beg, s_come, s_wait, s_sa, add_n0]; simp only [Int32.lt_iff_toInt_lt, Int32.le_iff_toInt_le] at *; omega)) | (refine ⟨congrArg some ?_, rfl⟩; (first | unfold s_out | unfold s_need); split <;> first | with_reducible rfl | contradiction) | (exact ⟨by simp [s_kind, s_wing, s_in, s_out, s_need, s_unk, s_put, s_beg, s_come, s_wait, s_sa, add_n0], rfl⟩) | exact ⟨rfl, rfl⟩

theorem k_X5_isToCome {σ : tSt} {v : Int32} (hv : vp_in v 40) : CT mX5_isToCome [.ref 18, .int v] σ (PE (some (bi (s_come σ (σ 18 (nI 7)) v = true))) σ) := by
  refine CT.of2 0 (by decide) rfl rfl ?_
  refine tr_aload_n eX5_isToCome_0 rfl ?_
  refine tr_iload_n eX5_isToCome_1 rfl ?_
  refine tr_ce1 eX5_isToCome_2 zv_X5_isPut zi_X5_isPut lk_X5_45 ⟨rfl, by decide, by decide⟩ rfl rfl rfl (k_X5_isPut (by first | with_reducible assumption | with_reducible exact in_slot (by with_reducible assumption) (by with_reducible assumption) | with_reducible exact in_row _ (by decide) (by with_reducible assumption) | with_reducible exact in_row0 (by with_reducible assumption) | with_reducible exact in_slot0 (by with_reducible assumption) | (simp (disch := decide) only [up_k, up_s, up_f] <;> with_reducible assumption))) ?_
  refine tr_if_ne eX5_isToCome_5 (fun h5 => ?_) (fun h5 => ?_)
  · skip
    try first | replace h5 := bi_0 h5 | replace h5 := bi_n h5
    refine tr_iconst eX5_isToCome_28 (nI 0) ci_0 ?_
    refine tr_ret eX5_isToCome_29 rfl (by first | rfl | exact nar_bi _) ?_
    first | with_reducible exact ⟨rfl, rfl⟩ | (refine ⟨congrArg some ?_, rfl⟩; unfold bi; split <;> first | with_reducible rfl | (exfalso; simp_all [s_wait, s_come]; done) | (exfalso; simp_all [s_kind, s_wing, s_in, s_out, s_need, s_unk, s_put, s_beg, s_come, s_wait, s_sa, add_n0]; done) | (exfalso; simp_all [s_kind, s_wing, s_in, s_out, s_need, s_unk, s_put, s_beg, s_come, s_wait, s_sa, add_n0]; simp only [Int32.lt_iff_toInt_lt, Int32.le_iff_toInt_le] at *; omega)) | (refine ⟨congrArg some ?_, rfl⟩; (first | unfold s_out | unfold s_need); split <;> first | with_reducible rfl | contradiction) | (exact ⟨by simp [s_kind, s_wing, s_in, s_out, s_need, s_unk, s_put, s_beg, s_come, s_wait, s_sa, add_n0], rfl⟩) | exact ⟨rfl, rfl⟩
  · skip
    try first | replace h5 := bi_0 h5 | replace h5 := bi_n h5
    refine tr_aload_n eX5_isToCome_8 rfl ?_
    refine tr_iload_n eX5_isToCome_9 rfl ?_
    refine tr_ce1 eX5_isToCome_10 zv_X5_isUnknown zi_X5_isUnknown lk_X5_34 ⟨rfl, by decide, by decide⟩ rfl rfl rfl (k_X5_isUnknown (by first | with_reducible assumption | with_reducible exact in_slot (by with_reducible assumption) (by with_reducible assumption) | with_reducible exact in_row _ (by decide) (by with_reducible assumption) | with_reducible exact in_row0 (by with_reducible assumption) | with_reducible exact in_slot0 (by with_reducible assumption) | (simp (disch := decide) only [up_k, up_s, up_f] <;> with_reducible assumption))) ?_
    refine tr_if_ne eX5_isToCome_13 (fun h13 => ?_) (fun h13 => ?_)
    · skip
      try first | replace h13 := bi_0 h13 | replace h13 := bi_n h13
      refine tr_iconst eX5_isToCome_28 (nI 0) ci_0 ?_
      refine tr_ret eX5_isToCome_29 rfl (by first | rfl | exact nar_bi _) ?_
      first | with_reducible exact ⟨rfl, rfl⟩ | (refine ⟨congrArg some ?_, rfl⟩; unfold bi; split <;> first | with_reducible rfl | (exfalso; simp_all [s_wait, s_come]; done) | (exfalso; simp_all [s_kind, s_wing, s_in, s_out, s_need, s_unk, s_put, s_beg, s_come, s_wait, s_sa, add_n0]; done) | (exfalso; simp_all [s_kind, s_wing, s_in, s_out, s_need, s_unk, s_put, s_beg, s_come, s_wait, s_sa, add_n0]; simp only [Int32.lt_iff_toInt_lt, Int32.le_iff_toInt_le] at *; omega)) | (refine ⟨congrArg some ?_, rfl⟩; (first | unfold s_out | unfold s_need); split <;> first | with_reducible rfl | contradiction) | (exact ⟨by simp [s_kind, s_wing, s_in, s_out, s_need, s_unk, s_put, s_beg, s_come, s_wait, s_sa, add_n0], rfl⟩) | exact ⟨rfl, rfl⟩
    · skip
      try first | replace h13 := bi_0 h13 | replace h13 := bi_n h13
      refine tr_aload_n eX5_isToCome_16 rfl ?_
      refine tr_iload_n eX5_isToCome_17 rfl ?_
      refine tr_ce1 eX5_isToCome_18 zv_X5_hasBegun zi_X5_hasBegun lk_X5_48 ⟨rfl, by decide, by decide⟩ rfl rfl rfl (k_X5_hasBegun (by first | with_reducible assumption | with_reducible exact in_slot (by with_reducible assumption) (by with_reducible assumption) | with_reducible exact in_row _ (by decide) (by with_reducible assumption) | with_reducible exact in_row0 (by with_reducible assumption) | with_reducible exact in_slot0 (by with_reducible assumption) | (simp (disch := decide) only [up_k, up_s, up_f] <;> with_reducible assumption))) ?_
      refine tr_if_ne eX5_isToCome_21 (fun h21 => ?_) (fun h21 => ?_)
      · skip
        try first | replace h21 := bi_0 h21 | replace h21 := bi_n h21
        refine tr_iconst eX5_isToCome_28 (nI 0) ci_0 ?_
        refine tr_ret eX5_isToCome_29 rfl (by first | rfl | exact nar_bi _) ?_
        first | with_reducible exact ⟨rfl, rfl⟩ | (refine ⟨congrArg some ?_, rfl⟩; unfold bi; split <;> first | with_reducible rfl | (exfalso; simp_all [s_wait, s_come]; done) | (exfalso; simp_all [s_kind, s_wing, s_in, s_out, s_need, s_unk, s_put, s_beg, s_come, s_wait, s_sa, add_n0]; done) | (exfalso; simp_all [s_kind, s_wing, s_in, s_out, s_need, s_unk, s_put, s_beg, s_come, s_wait, s_sa, add_n0]; simp only [Int32.lt_iff_toInt_lt, Int32.le_iff_toInt_le] at *; omega)) | (refine ⟨congrArg some ?_, rfl⟩; (first | unfold s_out | unfold s_need); split <;> first | with_reducible rfl | contradiction) | (exact ⟨by simp [s_kind, s_wing, s_in, s_out, s_need, s_unk, s_put, s_beg, s_come, s_wait, s_sa, add_n0], rfl⟩) | exact ⟨rfl, rfl⟩
      · skip
        try first | replace h21 := bi_0 h21 | replace h21 := bi_n h21
        refine tr_iconst eX5_isToCome_24 (nI 1) ci_1 ?_
        refine tr_goto eX5_isToCome_25 ?_
        refine tr_ret eX5_isToCome_29 rfl (by first | rfl | exact nar_bi _) ?_
        first | with_reducible exact ⟨rfl, rfl⟩ | (refine ⟨congrArg some ?_, rfl⟩; unfold bi; split <;> first | with_reducible rfl | (exfalso; simp_all [s_wait, s_come]; done) | (exfalso; simp_all [s_kind, s_wing, s_in, s_out, s_need, s_unk, s_put, s_beg, s_come, s_wait, s_sa, add_n0]; done) | (exfalso; simp_all [s_kind, s_wing, s_in, s_out, s_need, s_unk, s_put, s_beg, s_come, s_wait, s_sa, add_n0]; simp only [Int32.lt_iff_toInt_lt, Int32.le_iff_toInt_le] at *; omega)) | (refine ⟨congrArg some ?_, rfl⟩; (first | unfold s_out | unfold s_need); split <;> first | with_reducible rfl | contradiction) | (exact ⟨by simp [s_kind, s_wing, s_in, s_out, s_need, s_unk, s_put, s_beg, s_come, s_wait, s_sa, add_n0], rfl⟩) | exact ⟨rfl, rfl⟩

theorem k_X5_isWaiting {σ : tSt} {v : Int32} (hv : vp_in v 40) : CT mX5_isWaiting [.ref 18, .int v] σ (PE (some (bi (s_wait σ (σ 18 (nI 7)) v = true))) σ) := by
  refine CT.of2 0 (by decide) rfl rfl ?_
  refine tr_aload_n eX5_isWaiting_0 rfl ?_
  refine tr_iload_n eX5_isWaiting_1 rfl ?_
  refine tr_ce1 eX5_isWaiting_2 zv_X5_isPut zi_X5_isPut lk_X5_45 ⟨rfl, by decide, by decide⟩ rfl rfl rfl (k_X5_isPut (by first | with_reducible assumption | with_reducible exact in_slot (by with_reducible assumption) (by with_reducible assumption) | with_reducible exact in_row _ (by decide) (by with_reducible assumption) | with_reducible exact in_row0 (by with_reducible assumption) | with_reducible exact in_slot0 (by with_reducible assumption) | (simp (disch := decide) only [up_k, up_s, up_f] <;> with_reducible assumption))) ?_
  refine tr_if_ne eX5_isWaiting_5 (fun h5 => ?_) (fun h5 => ?_)
  · skip
    try first | replace h5 := bi_0 h5 | replace h5 := bi_n h5
    refine tr_iconst eX5_isWaiting_32 (nI 0) ci_0 ?_
    refine tr_ret eX5_isWaiting_33 rfl (by first | rfl | exact nar_bi _) ?_
    first | with_reducible exact ⟨rfl, rfl⟩ | (refine ⟨congrArg some ?_, rfl⟩; unfold bi; split <;> first | with_reducible rfl | (exfalso; simp_all [s_wait, s_come]; done) | (exfalso; simp_all [s_kind, s_wing, s_in, s_out, s_need, s_unk, s_put, s_beg, s_come, s_wait, s_sa, add_n0]; done) | (exfalso; simp_all [s_kind, s_wing, s_in, s_out, s_need, s_unk, s_put, s_beg, s_come, s_wait, s_sa, add_n0]; simp only [Int32.lt_iff_toInt_lt, Int32.le_iff_toInt_le] at *; omega)) | (refine ⟨congrArg some ?_, rfl⟩; (first | unfold s_out | unfold s_need); split <;> first | with_reducible rfl | contradiction) | (exact ⟨by simp [s_kind, s_wing, s_in, s_out, s_need, s_unk, s_put, s_beg, s_come, s_wait, s_sa, add_n0], rfl⟩) | exact ⟨rfl, rfl⟩
  · skip
    try first | replace h5 := bi_0 h5 | replace h5 := bi_n h5
    refine tr_aload_n eX5_isWaiting_8 rfl ?_
    refine tr_iload_n eX5_isWaiting_9 rfl ?_
    refine tr_ce1 eX5_isWaiting_10 zv_X5_hasBegun zi_X5_hasBegun lk_X5_48 ⟨rfl, by decide, by decide⟩ rfl rfl rfl (k_X5_hasBegun (by first | with_reducible assumption | with_reducible exact in_slot (by with_reducible assumption) (by with_reducible assumption) | with_reducible exact in_row _ (by decide) (by with_reducible assumption) | with_reducible exact in_row0 (by with_reducible assumption) | with_reducible exact in_slot0 (by with_reducible assumption) | (simp (disch := decide) only [up_k, up_s, up_f] <;> with_reducible assumption))) ?_
    refine tr_if_eq eX5_isWaiting_13 (fun h13 => ?_) (fun h13 => ?_)
    · skip
      try first | replace h13 := bi_0 h13 | replace h13 := bi_n h13
      refine tr_iconst eX5_isWaiting_32 (nI 0) ci_0 ?_
      refine tr_ret eX5_isWaiting_33 rfl (by first | rfl | exact nar_bi _) ?_
      first | with_reducible exact ⟨rfl, rfl⟩ | (refine ⟨congrArg some ?_, rfl⟩; unfold bi; split <;> first | with_reducible rfl | (exfalso; simp_all [s_wait, s_come]; done) | (exfalso; simp_all [s_kind, s_wing, s_in, s_out, s_need, s_unk, s_put, s_beg, s_come, s_wait, s_sa, add_n0]; done) | (exfalso; simp_all [s_kind, s_wing, s_in, s_out, s_need, s_unk, s_put, s_beg, s_come, s_wait, s_sa, add_n0]; simp only [Int32.lt_iff_toInt_lt, Int32.le_iff_toInt_le] at *; omega)) | (refine ⟨congrArg some ?_, rfl⟩; (first | unfold s_out | unfold s_need); split <;> first | with_reducible rfl | contradiction) | (exact ⟨by simp [s_kind, s_wing, s_in, s_out, s_need, s_unk, s_put, s_beg, s_come, s_wait, s_sa, add_n0], rfl⟩) | exact ⟨rfl, rfl⟩
    · skip
      try first | replace h13 := bi_0 h13 | replace h13 := bi_n h13
      refine tr_aload_n eX5_isWaiting_16 rfl ?_
      refine tr_iload_n eX5_isWaiting_17 rfl ?_
      refine tr_ce1 eX5_isWaiting_18 zv_X5_outOf zi_X5_outOf lk_X5_51 ⟨rfl, by decide, by decide⟩ rfl rfl rfl (k_X5_outOf (by first | with_reducible assumption | with_reducible exact in_slot (by with_reducible assumption) (by with_reducible assumption) | with_reducible exact in_row _ (by decide) (by with_reducible assumption) | with_reducible exact in_row0 (by with_reducible assumption) | with_reducible exact in_slot0 (by with_reducible assumption) | (simp (disch := decide) only [up_k, up_s, up_f] <;> with_reducible assumption))) ?_
      refine tr_aload_n eX5_isWaiting_21 rfl ?_
      refine tr_getI eX5_isWaiting_22 fk_X5_42 rfl rfl ?_
      refine tr_icmp_le eX5_isWaiting_25 (fun h25 => ?_) (fun h25 => ?_)
      · skip
        refine tr_iconst eX5_isWaiting_32 (nI 0) ci_0 ?_
        refine tr_ret eX5_isWaiting_33 rfl (by first | rfl | exact nar_bi _) ?_
        first | with_reducible exact ⟨rfl, rfl⟩ | (refine ⟨congrArg some ?_, rfl⟩; unfold bi; split <;> first | with_reducible rfl | (exfalso; simp_all [s_wait, s_come]; done) | (exfalso; simp_all [s_kind, s_wing, s_in, s_out, s_need, s_unk, s_put, s_beg, s_come, s_wait, s_sa, add_n0]; done) | (exfalso; simp_all [s_kind, s_wing, s_in, s_out, s_need, s_unk, s_put, s_beg, s_come, s_wait, s_sa, add_n0]; simp only [Int32.lt_iff_toInt_lt, Int32.le_iff_toInt_le] at *; omega)) | (refine ⟨congrArg some ?_, rfl⟩; (first | unfold s_out | unfold s_need); split <;> first | with_reducible rfl | contradiction) | (exact ⟨by simp [s_kind, s_wing, s_in, s_out, s_need, s_unk, s_put, s_beg, s_come, s_wait, s_sa, add_n0], rfl⟩) | exact ⟨rfl, rfl⟩
      · skip
        refine tr_iconst eX5_isWaiting_28 (nI 1) ci_1 ?_
        refine tr_goto eX5_isWaiting_29 ?_
        refine tr_ret eX5_isWaiting_33 rfl (by first | rfl | exact nar_bi _) ?_
        first | with_reducible exact ⟨rfl, rfl⟩ | (refine ⟨congrArg some ?_, rfl⟩; unfold bi; split <;> first | with_reducible rfl | (exfalso; simp_all [s_wait, s_come]; done) | (exfalso; simp_all [s_kind, s_wing, s_in, s_out, s_need, s_unk, s_put, s_beg, s_come, s_wait, s_sa, add_n0]; done) | (exfalso; simp_all [s_kind, s_wing, s_in, s_out, s_need, s_unk, s_put, s_beg, s_come, s_wait, s_sa, add_n0]; simp only [Int32.lt_iff_toInt_lt, Int32.le_iff_toInt_le] at *; omega)) | (refine ⟨congrArg some ?_, rfl⟩; (first | unfold s_out | unfold s_need); split <;> first | with_reducible rfl | contradiction) | (exact ⟨by simp [s_kind, s_wing, s_in, s_out, s_need, s_unk, s_put, s_beg, s_come, s_wait, s_sa, add_n0], rfl⟩) | exact ⟨rfl, rfl⟩

theorem k_X5_standOf {σ : tSt} {v k : Int32} (hv : vp_in v 40) (hk : vp_in k 8) : CT mX5_standOf [.ref 18, .int v, .int k] σ (PE (some (σ 13 (v * nI 8 + k))) σ) := by
  refine CT.of2 0 (by decide) rfl rfl ?_
  refine tr_aload_n eX5_standOf_0 rfl ?_
  refine tr_getR eX5_standOf_1 fk_X5_21 rfl rfl ?_
  refine tr_iload_n eX5_standOf_4 rfl ?_
  refine tr_bipush eX5_standOf_5 (nI 8) (by decide) ?_
  refine tr_imul eX5_standOf_7 ?_
  refine tr_iload_n eX5_standOf_8 rfl ?_
  refine tr_iadd eX5_standOf_9 ?_
  refine tr_iald eX5_standOf_10 rfl (by first | with_reducible assumption | with_reducible exact in_slot (by with_reducible assumption) (by with_reducible assumption) | with_reducible exact in_row _ (by decide) (by with_reducible assumption) | with_reducible exact in_row0 (by with_reducible assumption) | with_reducible exact in_slot0 (by with_reducible assumption) | (simp (disch := decide) only [up_k, up_s, up_f] <;> with_reducible assumption)) ?_
  refine tr_ret eX5_standOf_11 rfl rfl ?_
  first | with_reducible exact ⟨rfl, rfl⟩ | (refine ⟨congrArg some ?_, rfl⟩; unfold bi; split <;> first | with_reducible rfl | (exfalso; simp_all; done) | (exfalso; simp only [Int32.lt_iff_toInt_lt, Int32.le_iff_toInt_le] at *; omega)) | exact ⟨rfl, rfl⟩

theorem k_X5_fromOf {σ : tSt} {v k : Int32} (hv : vp_in v 40) (hk : vp_in k 8) : CT mX5_fromOf [.ref 18, .int v, .int k] σ (PE (some (σ 14 (v * nI 8 + k))) σ) := by
  refine CT.of2 0 (by decide) rfl rfl ?_
  refine tr_aload_n eX5_fromOf_0 rfl ?_
  refine tr_getR eX5_fromOf_1 fk_X5_24 rfl rfl ?_
  refine tr_iload_n eX5_fromOf_4 rfl ?_
  refine tr_bipush eX5_fromOf_5 (nI 8) (by decide) ?_
  refine tr_imul eX5_fromOf_7 ?_
  refine tr_iload_n eX5_fromOf_8 rfl ?_
  refine tr_iadd eX5_fromOf_9 ?_
  refine tr_iald eX5_fromOf_10 rfl (by first | with_reducible assumption | with_reducible exact in_slot (by with_reducible assumption) (by with_reducible assumption) | with_reducible exact in_row _ (by decide) (by with_reducible assumption) | with_reducible exact in_row0 (by with_reducible assumption) | with_reducible exact in_slot0 (by with_reducible assumption) | (simp (disch := decide) only [up_k, up_s, up_f] <;> with_reducible assumption)) ?_
  refine tr_ret eX5_fromOf_11 rfl rfl ?_
  first | with_reducible exact ⟨rfl, rfl⟩ | (refine ⟨congrArg some ?_, rfl⟩; unfold bi; split <;> first | with_reducible rfl | (exfalso; simp_all; done) | (exfalso; simp only [Int32.lt_iff_toInt_lt, Int32.le_iff_toInt_le] at *; omega)) | exact ⟨rfl, rfl⟩

theorem k_X5_endOf {σ : tSt} {v k : Int32} (hv : vp_in v 40) (hk : vp_in k 8) : CT mX5_endOf [.ref 18, .int v, .int k] σ (PE (some (σ 15 (v * nI 8 + k))) σ) := by
  refine CT.of2 0 (by decide) rfl rfl ?_
  refine tr_aload_n eX5_endOf_0 rfl ?_
  refine tr_getR eX5_endOf_1 fk_X5_27 rfl rfl ?_
  refine tr_iload_n eX5_endOf_4 rfl ?_
  refine tr_bipush eX5_endOf_5 (nI 8) (by decide) ?_
  refine tr_imul eX5_endOf_7 ?_
  refine tr_iload_n eX5_endOf_8 rfl ?_
  refine tr_iadd eX5_endOf_9 ?_
  refine tr_iald eX5_endOf_10 rfl (by first | with_reducible assumption | with_reducible exact in_slot (by with_reducible assumption) (by with_reducible assumption) | with_reducible exact in_row _ (by decide) (by with_reducible assumption) | with_reducible exact in_row0 (by with_reducible assumption) | with_reducible exact in_slot0 (by with_reducible assumption) | (simp (disch := decide) only [up_k, up_s, up_f] <;> with_reducible assumption)) ?_
  refine tr_ret eX5_endOf_11 rfl rfl ?_
  first | with_reducible exact ⟨rfl, rfl⟩ | (refine ⟨congrArg some ?_, rfl⟩; unfold bi; split <;> first | with_reducible rfl | (exfalso; simp_all; done) | (exfalso; simp only [Int32.lt_iff_toInt_lt, Int32.le_iff_toInt_le] at *; omega)) | exact ⟨rfl, rfl⟩

theorem k_X5_isStayAt {σ : tSt} {v k s a b : Int32} (hv : vp_in v 40) (hk : vp_in k 8) : CT mX5_isStayAt [.ref 18, .int v, .int k, .int s, .int a, .int b] σ (PE (some (bi (s_sa σ v k s a b = true))) σ) := by
  refine CT.of2 1 (by decide) rfl rfl ?_
  refine tr_iload_n eX5_isStayAt_0 rfl ?_
  refine tr_bipush eX5_isStayAt_1 (nI 8) (by decide) ?_
  refine tr_imul eX5_isStayAt_3 ?_
  refine tr_iload_n eX5_isStayAt_4 rfl ?_
  refine tr_iadd eX5_isStayAt_5 ?_
  refine tr_istore eX5_isStayAt_6 (by decide) rfl ?_
  refine tr_aload_n eX5_isStayAt_8 rfl ?_
  refine tr_getR eX5_isStayAt_9 fk_X5_21 rfl rfl ?_
  refine tr_iload eX5_isStayAt_12 rfl ?_
  refine tr_iald eX5_isStayAt_14 rfl (by first | with_reducible assumption | with_reducible exact in_slot (by with_reducible assumption) (by with_reducible assumption) | with_reducible exact in_row _ (by decide) (by with_reducible assumption) | with_reducible exact in_row0 (by with_reducible assumption) | with_reducible exact in_slot0 (by with_reducible assumption) | (simp (disch := decide) only [up_k, up_s, up_f] <;> with_reducible assumption)) ?_
  refine tr_iload_n eX5_isStayAt_15 rfl ?_
  refine tr_icmp_ne eX5_isStayAt_16 (fun h16 => ?_) (fun h16 => ?_)
  · skip
    refine tr_iconst eX5_isStayAt_47 (nI 0) ci_0 ?_
    refine tr_ret eX5_isStayAt_48 rfl (by first | rfl | exact nar_bi _) ?_
    first | with_reducible exact ⟨rfl, rfl⟩ | (refine ⟨congrArg some ?_, rfl⟩; unfold bi; split <;> first | with_reducible rfl | (exfalso; simp_all [s_wait, s_come]; done) | (exfalso; simp_all [s_kind, s_wing, s_in, s_out, s_need, s_unk, s_put, s_beg, s_come, s_wait, s_sa, add_n0]; done) | (exfalso; simp_all [s_kind, s_wing, s_in, s_out, s_need, s_unk, s_put, s_beg, s_come, s_wait, s_sa, add_n0]; simp only [Int32.lt_iff_toInt_lt, Int32.le_iff_toInt_le] at *; omega)) | (refine ⟨congrArg some ?_, rfl⟩; (first | unfold s_out | unfold s_need); split <;> first | with_reducible rfl | contradiction) | (exact ⟨by simp [s_kind, s_wing, s_in, s_out, s_need, s_unk, s_put, s_beg, s_come, s_wait, s_sa, add_n0], rfl⟩) | exact ⟨rfl, rfl⟩
  · skip
    refine tr_aload_n eX5_isStayAt_19 rfl ?_
    refine tr_getR eX5_isStayAt_20 fk_X5_24 rfl rfl ?_
    refine tr_iload eX5_isStayAt_23 rfl ?_
    refine tr_iald eX5_isStayAt_25 rfl (by first | with_reducible assumption | with_reducible exact in_slot (by with_reducible assumption) (by with_reducible assumption) | with_reducible exact in_row _ (by decide) (by with_reducible assumption) | with_reducible exact in_row0 (by with_reducible assumption) | with_reducible exact in_slot0 (by with_reducible assumption) | (simp (disch := decide) only [up_k, up_s, up_f] <;> with_reducible assumption)) ?_
    refine tr_iload eX5_isStayAt_26 rfl ?_
    refine tr_icmp_ge eX5_isStayAt_28 (fun h28 => ?_) (fun h28 => ?_)
    · skip
      refine tr_iconst eX5_isStayAt_47 (nI 0) ci_0 ?_
      refine tr_ret eX5_isStayAt_48 rfl (by first | rfl | exact nar_bi _) ?_
      first | with_reducible exact ⟨rfl, rfl⟩ | (refine ⟨congrArg some ?_, rfl⟩; unfold bi; split <;> first | with_reducible rfl | (exfalso; simp_all [s_wait, s_come]; done) | (exfalso; simp_all [s_kind, s_wing, s_in, s_out, s_need, s_unk, s_put, s_beg, s_come, s_wait, s_sa, add_n0]; done) | (exfalso; simp_all [s_kind, s_wing, s_in, s_out, s_need, s_unk, s_put, s_beg, s_come, s_wait, s_sa, add_n0]; simp only [Int32.lt_iff_toInt_lt, Int32.le_iff_toInt_le] at *; omega)) | (refine ⟨congrArg some ?_, rfl⟩; (first | unfold s_out | unfold s_need); split <;> first | with_reducible rfl | contradiction) | (exact ⟨by simp [s_kind, s_wing, s_in, s_out, s_need, s_unk, s_put, s_beg, s_come, s_wait, s_sa, add_n0], rfl⟩) | exact ⟨rfl, rfl⟩
    · skip
      refine tr_iload eX5_isStayAt_31 rfl ?_
      refine tr_aload_n eX5_isStayAt_33 rfl ?_
      refine tr_getR eX5_isStayAt_34 fk_X5_27 rfl rfl ?_
      refine tr_iload eX5_isStayAt_37 rfl ?_
      refine tr_iald eX5_isStayAt_39 rfl (by first | with_reducible assumption | with_reducible exact in_slot (by with_reducible assumption) (by with_reducible assumption) | with_reducible exact in_row _ (by decide) (by with_reducible assumption) | with_reducible exact in_row0 (by with_reducible assumption) | with_reducible exact in_slot0 (by with_reducible assumption) | (simp (disch := decide) only [up_k, up_s, up_f] <;> with_reducible assumption)) ?_
      refine tr_icmp_ge eX5_isStayAt_40 (fun h40 => ?_) (fun h40 => ?_)
      · skip
        refine tr_iconst eX5_isStayAt_47 (nI 0) ci_0 ?_
        refine tr_ret eX5_isStayAt_48 rfl (by first | rfl | exact nar_bi _) ?_
        first | with_reducible exact ⟨rfl, rfl⟩ | (refine ⟨congrArg some ?_, rfl⟩; unfold bi; split <;> first | with_reducible rfl | (exfalso; simp_all [s_wait, s_come]; done) | (exfalso; simp_all [s_kind, s_wing, s_in, s_out, s_need, s_unk, s_put, s_beg, s_come, s_wait, s_sa, add_n0]; done) | (exfalso; simp_all [s_kind, s_wing, s_in, s_out, s_need, s_unk, s_put, s_beg, s_come, s_wait, s_sa, add_n0]; simp only [Int32.lt_iff_toInt_lt, Int32.le_iff_toInt_le] at *; omega)) | (refine ⟨congrArg some ?_, rfl⟩; (first | unfold s_out | unfold s_need); split <;> first | with_reducible rfl | contradiction) | (exact ⟨by simp [s_kind, s_wing, s_in, s_out, s_need, s_unk, s_put, s_beg, s_come, s_wait, s_sa, add_n0], rfl⟩) | exact ⟨rfl, rfl⟩
      · skip
        refine tr_iconst eX5_isStayAt_43 (nI 1) ci_1 ?_
        refine tr_goto eX5_isStayAt_44 ?_
        refine tr_ret eX5_isStayAt_48 rfl (by first | rfl | exact nar_bi _) ?_
        first | with_reducible exact ⟨rfl, rfl⟩ | (refine ⟨congrArg some ?_, rfl⟩; unfold bi; split <;> first | with_reducible rfl | (exfalso; simp_all [s_wait, s_come]; done) | (exfalso; simp_all [s_kind, s_wing, s_in, s_out, s_need, s_unk, s_put, s_beg, s_come, s_wait, s_sa, add_n0]; done) | (exfalso; simp_all [s_kind, s_wing, s_in, s_out, s_need, s_unk, s_put, s_beg, s_come, s_wait, s_sa, add_n0]; simp only [Int32.lt_iff_toInt_lt, Int32.le_iff_toInt_le] at *; omega)) | (refine ⟨congrArg some ?_, rfl⟩; (first | unfold s_out | unfold s_need); split <;> first | with_reducible rfl | contradiction) | (exact ⟨by simp [s_kind, s_wing, s_in, s_out, s_need, s_unk, s_put, s_beg, s_come, s_wait, s_sa, add_n0], rfl⟩) | exact ⟨rfl, rfl⟩

theorem k_X5_add {σ : tSt} {a b c d e : Int32} (hn : vp_in (σ 18 (nI 6)) 40) : CT mX5_add [.ref 18, .int a, .int b, .int c, .int d, .int e] σ (PE (some (σ 18 (nI 6) + nI 1 - nI 1)) (up (up (up (up (up (up (up σ 10 (σ 18 (nI 6) * nI 5 + nI 0) a) 10 (σ 18 (nI 6) * nI 5 + nI 1) b) 10 (σ 18 (nI 6) * nI 5 + nI 2) c) 10 (σ 18 (nI 6) * nI 5 + nI 3) d) 10 (σ 18 (nI 6) * nI 5 + nI 4) e) 11 (σ 18 (nI 6)) (nI 5)) 18 (nI 6) (σ 18 (nI 6) + nI 1))) := by
  refine CT.of2 1 (by decide) rfl rfl ?_
  refine tr_aload_n eX5_add_0 rfl ?_
  refine tr_getI eX5_add_1 fk_X5_30 rfl rfl ?_
  refine tr_iconst eX5_add_4 (nI 5) ci_5 ?_
  refine tr_imul eX5_add_5 ?_
  refine tr_istore eX5_add_6 (by decide) rfl ?_
  refine tr_aload_n eX5_add_8 rfl ?_
  refine tr_getR eX5_add_9 fk_X5_9 rfl rfl ?_
  refine tr_iload eX5_add_12 rfl ?_
  refine tr_iconst eX5_add_14 (nI 0) ci_0 ?_
  refine tr_iadd eX5_add_15 ?_
  refine tr_iload_n eX5_add_16 rfl ?_
  refine tr_iast eX5_add_17 rfl (by first | with_reducible assumption | with_reducible exact in_slot (by with_reducible assumption) (by with_reducible assumption) | with_reducible exact in_row _ (by decide) (by with_reducible assumption) | with_reducible exact in_row0 (by with_reducible assumption) | with_reducible exact in_slot0 (by with_reducible assumption) | (simp (disch := decide) only [up_k, up_s, up_f] <;> with_reducible assumption)) ?_
  refine tr_aload_n eX5_add_18 rfl ?_
  refine tr_getR eX5_add_19 fk_X5_9 rfl rfl ?_
  refine tr_iload eX5_add_22 rfl ?_
  refine tr_iconst eX5_add_24 (nI 1) ci_1 ?_
  refine tr_iadd eX5_add_25 ?_
  refine tr_iload_n eX5_add_26 rfl ?_
  refine tr_iast eX5_add_27 rfl (by first | with_reducible assumption | with_reducible exact in_slot (by with_reducible assumption) (by with_reducible assumption) | with_reducible exact in_row _ (by decide) (by with_reducible assumption) | with_reducible exact in_row0 (by with_reducible assumption) | with_reducible exact in_slot0 (by with_reducible assumption) | (simp (disch := decide) only [up_k, up_s, up_f] <;> with_reducible assumption)) ?_
  refine tr_aload_n eX5_add_28 rfl ?_
  refine tr_getR eX5_add_29 fk_X5_9 rfl rfl ?_
  refine tr_iload eX5_add_32 rfl ?_
  refine tr_iconst eX5_add_34 (nI 2) ci_2 ?_
  refine tr_iadd eX5_add_35 ?_
  refine tr_iload_n eX5_add_36 rfl ?_
  refine tr_iast eX5_add_37 rfl (by first | with_reducible assumption | with_reducible exact in_slot (by with_reducible assumption) (by with_reducible assumption) | with_reducible exact in_row _ (by decide) (by with_reducible assumption) | with_reducible exact in_row0 (by with_reducible assumption) | with_reducible exact in_slot0 (by with_reducible assumption) | (simp (disch := decide) only [up_k, up_s, up_f] <;> with_reducible assumption)) ?_
  refine tr_aload_n eX5_add_38 rfl ?_
  refine tr_getR eX5_add_39 fk_X5_9 rfl rfl ?_
  refine tr_iload eX5_add_42 rfl ?_
  refine tr_iconst eX5_add_44 (nI 3) ci_3 ?_
  refine tr_iadd eX5_add_45 ?_
  refine tr_iload eX5_add_46 rfl ?_
  refine tr_iast eX5_add_48 rfl (by first | with_reducible assumption | with_reducible exact in_slot (by with_reducible assumption) (by with_reducible assumption) | with_reducible exact in_row _ (by decide) (by with_reducible assumption) | with_reducible exact in_row0 (by with_reducible assumption) | with_reducible exact in_slot0 (by with_reducible assumption) | (simp (disch := decide) only [up_k, up_s, up_f] <;> with_reducible assumption)) ?_
  refine tr_aload_n eX5_add_49 rfl ?_
  refine tr_getR eX5_add_50 fk_X5_9 rfl rfl ?_
  refine tr_iload eX5_add_53 rfl ?_
  refine tr_iconst eX5_add_55 (nI 4) ci_4 ?_
  refine tr_iadd eX5_add_56 ?_
  refine tr_iload eX5_add_57 rfl ?_
  refine tr_iast eX5_add_59 rfl (by first | with_reducible assumption | with_reducible exact in_slot (by with_reducible assumption) (by with_reducible assumption) | with_reducible exact in_row _ (by decide) (by with_reducible assumption) | with_reducible exact in_row0 (by with_reducible assumption) | with_reducible exact in_slot0 (by with_reducible assumption) | (simp (disch := decide) only [up_k, up_s, up_f] <;> with_reducible assumption)) ?_
  refine tr_aload_n eX5_add_60 rfl ?_
  refine tr_getR eX5_add_61 fk_X5_15 rfl rfl ?_
  refine tr_aload_n eX5_add_64 rfl ?_
  refine tr_getI eX5_add_65 fk_X5_30 rfl rfl ?_
  try simp (disch := decide) only [up_k, up_s, up_f]
  refine tr_iconst eX5_add_68 (nI 5) ci_5 ?_
  refine tr_iast eX5_add_69 rfl (by first | with_reducible assumption | with_reducible exact in_slot (by with_reducible assumption) (by with_reducible assumption) | with_reducible exact in_row _ (by decide) (by with_reducible assumption) | with_reducible exact in_row0 (by with_reducible assumption) | with_reducible exact in_slot0 (by with_reducible assumption) | (simp (disch := decide) only [up_k, up_s, up_f] <;> with_reducible assumption)) ?_
  refine tr_aload_n eX5_add_70 rfl ?_
  refine tr_dup eX5_add_71 rfl ?_
  refine tr_getI eX5_add_72 fk_X5_30 rfl rfl ?_
  try simp (disch := decide) only [up_k, up_s, up_f]
  refine tr_iconst eX5_add_75 (nI 1) ci_1 ?_
  refine tr_iadd eX5_add_76 ?_
  refine tr_put eX5_add_77 fp_X5_30 rfl rfl ?_
  refine tr_aload_n eX5_add_80 rfl ?_
  refine tr_getI eX5_add_81 fk_X5_30 rfl rfl ?_
  try simp (disch := decide) only [up_k, up_s, up_f]
  refine tr_iconst eX5_add_84 (nI 1) ci_1 ?_
  refine tr_isub eX5_add_85 ?_
  refine tr_ret eX5_add_86 rfl rfl ?_
  first | with_reducible exact ⟨rfl, rfl⟩ | (refine ⟨congrArg some ?_, rfl⟩; unfold bi; split <;> first | with_reducible rfl | (exfalso; simp_all; done) | (exfalso; simp only [Int32.lt_iff_toInt_lt, Int32.le_iff_toInt_le] at *; omega)) | exact ⟨rfl, rfl⟩

theorem k_X5_takeOff {σ : tSt} {v : Int32} (hv : vp_in v 40) : CT mX5_takeOff [.ref 18, .int v] σ (PE none (up σ 12 v (nI 0))) := by
  refine CT.of2 0 (by decide) rfl rfl ?_
  refine tr_aload_n eX5_takeOff_0 rfl ?_
  refine tr_getR eX5_takeOff_1 fk_X5_18 rfl rfl ?_
  refine tr_iload_n eX5_takeOff_4 rfl ?_
  refine tr_iconst eX5_takeOff_5 (nI 0) ci_0 ?_
  refine tr_iast eX5_takeOff_6 rfl (by first | with_reducible assumption | with_reducible exact in_slot (by with_reducible assumption) (by with_reducible assumption) | with_reducible exact in_row _ (by decide) (by with_reducible assumption) | with_reducible exact in_row0 (by with_reducible assumption) | with_reducible exact in_slot0 (by with_reducible assumption) | (simp (disch := decide) only [up_k, up_s, up_f] <;> with_reducible assumption)) ?_
  refine tr_vret eX5_takeOff_7 rfl ?_
  first | with_reducible exact ⟨rfl, rfl⟩ | (refine ⟨congrArg some ?_, rfl⟩; unfold bi; split <;> first | with_reducible rfl | (exfalso; simp_all; done) | (exfalso; simp only [Int32.lt_iff_toInt_lt, Int32.le_iff_toInt_le] at *; omega)) | exact ⟨rfl, rfl⟩

theorem k_X5_moveFirstStay {σ : tSt} {v s : Int32} (hv : vp_in (v * nI 8) 320) : CT mX5_moveFirstStay [.ref 18, .int v, .int s] σ (PE none (up σ 13 (v * nI 8) s)) := by
  refine CT.of2 0 (by decide) rfl rfl ?_
  refine tr_aload_n eX5_moveFirstStay_0 rfl ?_
  refine tr_getR eX5_moveFirstStay_1 fk_X5_21 rfl rfl ?_
  refine tr_iload_n eX5_moveFirstStay_4 rfl ?_
  refine tr_bipush eX5_moveFirstStay_5 (nI 8) (by decide) ?_
  refine tr_imul eX5_moveFirstStay_7 ?_
  refine tr_iload_n eX5_moveFirstStay_8 rfl ?_
  refine tr_iast eX5_moveFirstStay_9 rfl (by first | with_reducible assumption | with_reducible exact in_slot (by with_reducible assumption) (by with_reducible assumption) | with_reducible exact in_row _ (by decide) (by with_reducible assumption) | with_reducible exact in_row0 (by with_reducible assumption) | with_reducible exact in_slot0 (by with_reducible assumption) | (simp (disch := decide) only [up_k, up_s, up_f] <;> with_reducible assumption)) ?_
  refine tr_vret eX5_moveFirstStay_10 rfl ?_
  first | with_reducible exact ⟨rfl, rfl⟩ | (refine ⟨congrArg some ?_, rfl⟩; unfold bi; split <;> first | with_reducible rfl | (exfalso; simp_all; done) | (exfalso; simp only [Int32.lt_iff_toInt_lt, Int32.le_iff_toInt_le] at *; omega)) | exact ⟨rfl, rfl⟩

theorem k_X5_endLastStay {σ : tSt} {v t : Int32} (hv : vp_in v 40) (hk : vp_in (v * nI 8 + σ 12 v - nI 1) 320) : CT mX5_endLastStay [.ref 18, .int v, .int t] σ (PE none (up σ 15 (v * nI 8 + σ 12 v - nI 1) t)) := by
  refine CT.of2 0 (by decide) rfl rfl ?_
  refine tr_aload_n eX5_endLastStay_0 rfl ?_
  refine tr_getR eX5_endLastStay_1 fk_X5_27 rfl rfl ?_
  refine tr_iload_n eX5_endLastStay_4 rfl ?_
  refine tr_bipush eX5_endLastStay_5 (nI 8) (by decide) ?_
  refine tr_imul eX5_endLastStay_7 ?_
  refine tr_aload_n eX5_endLastStay_8 rfl ?_
  refine tr_getR eX5_endLastStay_9 fk_X5_18 rfl rfl ?_
  refine tr_iload_n eX5_endLastStay_12 rfl ?_
  refine tr_iald eX5_endLastStay_13 rfl (by first | with_reducible assumption | with_reducible exact in_slot (by with_reducible assumption) (by with_reducible assumption) | with_reducible exact in_row _ (by decide) (by with_reducible assumption) | with_reducible exact in_row0 (by with_reducible assumption) | with_reducible exact in_slot0 (by with_reducible assumption) | (simp (disch := decide) only [up_k, up_s, up_f] <;> with_reducible assumption)) ?_
  refine tr_iadd eX5_endLastStay_14 ?_
  refine tr_iconst eX5_endLastStay_15 (nI 1) ci_1 ?_
  refine tr_isub eX5_endLastStay_16 ?_
  refine tr_iload_n eX5_endLastStay_17 rfl ?_
  refine tr_iast eX5_endLastStay_18 rfl (by first | with_reducible assumption | with_reducible exact in_slot (by with_reducible assumption) (by with_reducible assumption) | with_reducible exact in_row _ (by decide) (by with_reducible assumption) | with_reducible exact in_row0 (by with_reducible assumption) | with_reducible exact in_slot0 (by with_reducible assumption) | (simp (disch := decide) only [up_k, up_s, up_f] <;> with_reducible assumption)) ?_
  refine tr_vret eX5_endLastStay_19 rfl ?_
  first | with_reducible exact ⟨rfl, rfl⟩ | (refine ⟨congrArg some ?_, rfl⟩; unfold bi; split <;> first | with_reducible rfl | (exfalso; simp_all; done) | (exfalso; simp only [Int32.lt_iff_toInt_lt, Int32.le_iff_toInt_le] at *; omega)) | exact ⟨rfl, rfl⟩

theorem k_X5_makeLate {σ : tSt} {v t : Int32} (hv : vp_in v 40) (hk : vp_in (v * nI 8 + σ 12 v - nI 1) 320) : CT mX5_makeLate [.ref 18, .int v, .int t] σ (PE none (up (up σ 10 (v * nI 5 + nI 3) t) 15 (v * nI 8 + σ 12 v - nI 1) t)) := by
  refine CT.of2 0 (by decide) rfl rfl ?_
  refine tr_aload_n eX5_makeLate_0 rfl ?_
  refine tr_getR eX5_makeLate_1 fk_X5_9 rfl rfl ?_
  refine tr_iload_n eX5_makeLate_4 rfl ?_
  refine tr_iconst eX5_makeLate_5 (nI 5) ci_5 ?_
  refine tr_imul eX5_makeLate_6 ?_
  refine tr_iconst eX5_makeLate_7 (nI 3) ci_3 ?_
  refine tr_iadd eX5_makeLate_8 ?_
  refine tr_iload_n eX5_makeLate_9 rfl ?_
  refine tr_iast eX5_makeLate_10 rfl (by first | with_reducible assumption | with_reducible exact in_slot (by with_reducible assumption) (by with_reducible assumption) | with_reducible exact in_row _ (by decide) (by with_reducible assumption) | with_reducible exact in_row0 (by with_reducible assumption) | with_reducible exact in_slot0 (by with_reducible assumption) | (simp (disch := decide) only [up_k, up_s, up_f] <;> with_reducible assumption)) ?_
  refine tr_aload_n eX5_makeLate_11 rfl ?_
  refine tr_iload_n eX5_makeLate_12 rfl ?_
  refine tr_iload_n eX5_makeLate_13 rfl ?_
  refine tr_ce2 eX5_makeLate_14 zv_X5_endLastStay zi_X5_endLastStay lk_X5_62 ⟨rfl, by decide, by decide⟩ rfl rfl rfl (k_X5_endLastStay (by first | with_reducible assumption | with_reducible exact in_slot (by with_reducible assumption) (by with_reducible assumption) | with_reducible exact in_row _ (by decide) (by with_reducible assumption) | with_reducible exact in_row0 (by with_reducible assumption) | with_reducible exact in_slot0 (by with_reducible assumption) | (simp (disch := decide) only [up_k, up_s, up_f] <;> with_reducible assumption)) (by first | with_reducible assumption | with_reducible exact in_slot (by with_reducible assumption) (by with_reducible assumption) | with_reducible exact in_row _ (by decide) (by with_reducible assumption) | with_reducible exact in_row0 (by with_reducible assumption) | with_reducible exact in_slot0 (by with_reducible assumption) | (simp (disch := decide) only [up_k, up_s, up_f] <;> with_reducible assumption))) ?_
  try simp (disch := decide) only [up_k, up_s, up_f]
  refine tr_vret eX5_makeLate_17 rfl ?_
  first | with_reducible exact ⟨rfl, rfl⟩ | (refine ⟨congrArg some ?_, rfl⟩; unfold bi; split <;> first | with_reducible rfl | (exfalso; simp_all; done) | (exfalso; simp only [Int32.lt_iff_toInt_lt, Int32.le_iff_toInt_le] at *; omega)) | exact ⟨rfl, rfl⟩

theorem k_X5_addStay {σ : tSt} {v s a : Int32} (hv : vp_in v 40) (hk : vp_in (σ 12 v) 8) : CT mX5_addStay [.ref 18, .int v, .int s, .int a] σ (PE none (up (up (up (up σ 13 (v * nI 8 + σ 12 v) s) 14 (v * nI 8 + σ 12 v) a) 15 (v * nI 8 + σ 12 v) (s_out σ v)) 12 v (σ 12 v + nI 1))) := by
  refine CT.of2 1 (by decide) rfl rfl ?_
  refine tr_iload_n eX5_addStay_0 rfl ?_
  refine tr_bipush eX5_addStay_1 (nI 8) (by decide) ?_
  refine tr_imul eX5_addStay_3 ?_
  refine tr_aload_n eX5_addStay_4 rfl ?_
  refine tr_getR eX5_addStay_5 fk_X5_18 rfl rfl ?_
  refine tr_iload_n eX5_addStay_8 rfl ?_
  refine tr_iald eX5_addStay_9 rfl (by first | with_reducible assumption | with_reducible exact in_slot (by with_reducible assumption) (by with_reducible assumption) | with_reducible exact in_row _ (by decide) (by with_reducible assumption) | with_reducible exact in_row0 (by with_reducible assumption) | with_reducible exact in_slot0 (by with_reducible assumption) | (simp (disch := decide) only [up_k, up_s, up_f] <;> with_reducible assumption)) ?_
  refine tr_iadd eX5_addStay_10 ?_
  refine tr_istore eX5_addStay_11 (by decide) rfl ?_
  refine tr_aload_n eX5_addStay_13 rfl ?_
  refine tr_getR eX5_addStay_14 fk_X5_21 rfl rfl ?_
  refine tr_iload eX5_addStay_17 rfl ?_
  refine tr_iload_n eX5_addStay_19 rfl ?_
  refine tr_iast eX5_addStay_20 rfl (by first | with_reducible assumption | with_reducible exact in_slot (by with_reducible assumption) (by with_reducible assumption) | with_reducible exact in_row _ (by decide) (by with_reducible assumption) | with_reducible exact in_row0 (by with_reducible assumption) | with_reducible exact in_slot0 (by with_reducible assumption) | (simp (disch := decide) only [up_k, up_s, up_f] <;> with_reducible assumption)) ?_
  refine tr_aload_n eX5_addStay_21 rfl ?_
  refine tr_getR eX5_addStay_22 fk_X5_24 rfl rfl ?_
  refine tr_iload eX5_addStay_25 rfl ?_
  refine tr_iload_n eX5_addStay_27 rfl ?_
  refine tr_iast eX5_addStay_28 rfl (by first | with_reducible assumption | with_reducible exact in_slot (by with_reducible assumption) (by with_reducible assumption) | with_reducible exact in_row _ (by decide) (by with_reducible assumption) | with_reducible exact in_row0 (by with_reducible assumption) | with_reducible exact in_slot0 (by with_reducible assumption) | (simp (disch := decide) only [up_k, up_s, up_f] <;> with_reducible assumption)) ?_
  refine tr_aload_n eX5_addStay_29 rfl ?_
  refine tr_getR eX5_addStay_30 fk_X5_27 rfl rfl ?_
  refine tr_iload eX5_addStay_33 rfl ?_
  refine tr_aload_n eX5_addStay_35 rfl ?_
  refine tr_iload_n eX5_addStay_36 rfl ?_
  refine tr_ce1 eX5_addStay_37 zv_X5_outOf zi_X5_outOf lk_X5_51 ⟨rfl, by decide, by decide⟩ rfl rfl rfl (k_X5_outOf (by first | with_reducible assumption | with_reducible exact in_slot (by with_reducible assumption) (by with_reducible assumption) | with_reducible exact in_row _ (by decide) (by with_reducible assumption) | with_reducible exact in_row0 (by with_reducible assumption) | with_reducible exact in_slot0 (by with_reducible assumption) | (simp (disch := decide) only [up_k, up_s, up_f] <;> with_reducible assumption))) ?_
  try simp (disch := decide) only [up_k, up_s, up_f]
  refine tr_iast eX5_addStay_40 rfl (by first | with_reducible assumption | with_reducible exact in_slot (by with_reducible assumption) (by with_reducible assumption) | with_reducible exact in_row _ (by decide) (by with_reducible assumption) | with_reducible exact in_row0 (by with_reducible assumption) | with_reducible exact in_slot0 (by with_reducible assumption) | (simp (disch := decide) only [up_k, up_s, up_f] <;> with_reducible assumption)) ?_
  refine tr_aload_n eX5_addStay_41 rfl ?_
  refine tr_getR eX5_addStay_42 fk_X5_18 rfl rfl ?_
  refine tr_iload_n eX5_addStay_45 rfl ?_
  refine tr_dup2 eX5_addStay_46 rfl rfl ?_
  refine tr_iald eX5_addStay_47 rfl (by first | with_reducible assumption | with_reducible exact in_slot (by with_reducible assumption) (by with_reducible assumption) | with_reducible exact in_row _ (by decide) (by with_reducible assumption) | with_reducible exact in_row0 (by with_reducible assumption) | with_reducible exact in_slot0 (by with_reducible assumption) | (simp (disch := decide) only [up_k, up_s, up_f] <;> with_reducible assumption)) ?_
  try simp (disch := decide) only [up_k, up_s, up_f]
  refine tr_iconst eX5_addStay_48 (nI 1) ci_1 ?_
  refine tr_iadd eX5_addStay_49 ?_
  refine tr_iast eX5_addStay_50 rfl (by first | with_reducible assumption | with_reducible exact in_slot (by with_reducible assumption) (by with_reducible assumption) | with_reducible exact in_row _ (by decide) (by with_reducible assumption) | with_reducible exact in_row0 (by with_reducible assumption) | with_reducible exact in_slot0 (by with_reducible assumption) | (simp (disch := decide) only [up_k, up_s, up_f] <;> with_reducible assumption)) ?_
  refine tr_vret eX5_addStay_51 rfl ?_
  first | with_reducible exact ⟨rfl, rfl⟩ | (refine ⟨congrArg some ?_, rfl⟩; unfold bi; split <;> first | with_reducible rfl | (exfalso; simp_all; done) | (exfalso; simp only [Int32.lt_iff_toInt_lt, Int32.le_iff_toInt_le] at *; omega)) | exact ⟨rfl, rfl⟩

/-- v gets one stay, at s from a to b -/
def s_set (σ : tSt) (v s a b : Int32) : tSt := up (up (up (up σ 12 v (nI 1)) 13 (v * nI 8) s) 14 (v * nI 8) a) 15 (v * nI 8) b
theorem k_X3_x : True := trivial
