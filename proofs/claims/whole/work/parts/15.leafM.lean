theorem k_X7_isStand {σ : tSt} {v : Int32} : CT mX7_isStand [.ref 0, .int v] σ (PE (some (bi (¬ v < 0 ∧ ¬ σ 0 (nI 3) ≤ v))) σ) := by
  refine CT.of2 0 (by decide) rfl rfl ?_
  refine tr_iload_n eX7_isStand_0 rfl ?_
  refine tr_if_lt eX7_isStand_1 (fun h1 => ?_) (fun h1 => ?_)
  · skip
    refine tr_iconst eX7_isStand_16 (nI 0) ci_0 ?_
    refine tr_ret eX7_isStand_17 rfl (by first | rfl | exact nar_bi _) ?_
    first | with_reducible exact ⟨rfl, rfl⟩ | (refine ⟨congrArg some ?_, rfl⟩; unfold bi; split <;> first | with_reducible rfl | (exfalso; simp_all; done) | (exfalso; simp only [Int32.lt_iff_toInt_lt, Int32.le_iff_toInt_le] at *; omega)) | exact ⟨rfl, rfl⟩
  · skip
    refine tr_iload_n eX7_isStand_4 rfl ?_
    refine tr_aload_n eX7_isStand_5 rfl ?_
    refine tr_getI eX7_isStand_6 fk_X7_86 rfl rfl ?_
    refine tr_icmp_ge eX7_isStand_9 (fun h9 => ?_) (fun h9 => ?_)
    · skip
      refine tr_iconst eX7_isStand_16 (nI 0) ci_0 ?_
      refine tr_ret eX7_isStand_17 rfl (by first | rfl | exact nar_bi _) ?_
      first | with_reducible exact ⟨rfl, rfl⟩ | (refine ⟨congrArg some ?_, rfl⟩; unfold bi; split <;> first | with_reducible rfl | (exfalso; simp_all; done) | (exfalso; simp only [Int32.lt_iff_toInt_lt, Int32.le_iff_toInt_le] at *; omega)) | exact ⟨rfl, rfl⟩
    · skip
      refine tr_iconst eX7_isStand_12 (nI 1) ci_1 ?_
      refine tr_goto eX7_isStand_13 ?_
      refine tr_ret eX7_isStand_17 rfl (by first | rfl | exact nar_bi _) ?_
      first | with_reducible exact ⟨rfl, rfl⟩ | (refine ⟨congrArg some ?_, rfl⟩; unfold bi; split <;> first | with_reducible rfl | (exfalso; simp_all; done) | (exfalso; simp only [Int32.lt_iff_toInt_lt, Int32.le_iff_toInt_le] at *; omega)) | exact ⟨rfl, rfl⟩

theorem k_X7_isVisit {σ : tSt} {v : Int32} : CT mX7_isVisit [.ref 0, .int v] σ (PE (some (bi (¬ v < 0 ∧ ¬ σ 0 (nI 6) ≤ v))) σ) := by
  refine CT.of2 0 (by decide) rfl rfl ?_
  refine tr_iload_n eX7_isVisit_0 rfl ?_
  refine tr_if_lt eX7_isVisit_1 (fun h1 => ?_) (fun h1 => ?_)
  · skip
    refine tr_iconst eX7_isVisit_16 (nI 0) ci_0 ?_
    refine tr_ret eX7_isVisit_17 rfl (by first | rfl | exact nar_bi _) ?_
    first | with_reducible exact ⟨rfl, rfl⟩ | (refine ⟨congrArg some ?_, rfl⟩; unfold bi; split <;> first | with_reducible rfl | (exfalso; simp_all; done) | (exfalso; simp only [Int32.lt_iff_toInt_lt, Int32.le_iff_toInt_le] at *; omega)) | exact ⟨rfl, rfl⟩
  · skip
    refine tr_iload_n eX7_isVisit_4 rfl ?_
    refine tr_aload_n eX7_isVisit_5 rfl ?_
    refine tr_getI eX7_isVisit_6 fk_X7_89 rfl rfl ?_
    refine tr_icmp_ge eX7_isVisit_9 (fun h9 => ?_) (fun h9 => ?_)
    · skip
      refine tr_iconst eX7_isVisit_16 (nI 0) ci_0 ?_
      refine tr_ret eX7_isVisit_17 rfl (by first | rfl | exact nar_bi _) ?_
      first | with_reducible exact ⟨rfl, rfl⟩ | (refine ⟨congrArg some ?_, rfl⟩; unfold bi; split <;> first | with_reducible rfl | (exfalso; simp_all; done) | (exfalso; simp only [Int32.lt_iff_toInt_lt, Int32.le_iff_toInt_le] at *; omega)) | exact ⟨rfl, rfl⟩
    · skip
      refine tr_iconst eX7_isVisit_12 (nI 1) ci_1 ?_
      refine tr_goto eX7_isVisit_13 ?_
      refine tr_ret eX7_isVisit_17 rfl (by first | rfl | exact nar_bi _) ?_
      first | with_reducible exact ⟨rfl, rfl⟩ | (refine ⟨congrArg some ?_, rfl⟩; unfold bi; split <;> first | with_reducible rfl | (exfalso; simp_all; done) | (exfalso; simp only [Int32.lt_iff_toInt_lt, Int32.le_iff_toInt_le] at *; omega)) | exact ⟨rfl, rfl⟩

theorem k_X7_refuse {σ : tSt} {x : Int32} : CT mX7_refuse [.ref 0, .int x] σ (PE (some (-1)) (up σ 0 (nI 0) x)) := by
  refine CT.of2 0 (by decide) rfl rfl ?_
  refine tr_aload_n eX7_refuse_0 rfl ?_
  refine tr_iload_n eX7_refuse_1 rfl ?_
  refine tr_put eX7_refuse_2 fp_X7_80 rfl rfl ?_
  refine tr_iconst eX7_refuse_5 (-1) ci_m1 ?_
  refine tr_ret eX7_refuse_6 rfl rfl ?_
  first | with_reducible exact ⟨rfl, rfl⟩ | (refine ⟨congrArg some ?_, rfl⟩; unfold bi; split <;> first | with_reducible rfl | (exfalso; simp_all; done) | (exfalso; simp only [Int32.lt_iff_toInt_lt, Int32.le_iff_toInt_le] at *; omega)) | exact ⟨rfl, rfl⟩

theorem k_X7_gives {σ : tSt} {x : Int32} : CT mX7_gives [.ref 0, .int x] σ (PE (some x) (up σ 0 (nI 0) (nI 0))) := by
  refine CT.of2 0 (by decide) rfl rfl ?_
  refine tr_aload_n eX7_gives_0 rfl ?_
  refine tr_iconst eX7_gives_1 (nI 0) ci_0 ?_
  refine tr_put eX7_gives_2 fp_X7_80 rfl rfl ?_
  refine tr_iload_n eX7_gives_5 rfl ?_
  refine tr_ret eX7_gives_6 rfl rfl ?_
  first | with_reducible exact ⟨rfl, rfl⟩ | (refine ⟨congrArg some ?_, rfl⟩; unfold bi; split <;> first | with_reducible rfl | (exfalso; simp_all; done) | (exfalso; simp only [Int32.lt_iff_toInt_lt, Int32.le_iff_toInt_le] at *; omega)) | exact ⟨rfl, rfl⟩

theorem k_X7_isSpan {σ : tSt} {a b : Int32} : CT mX7_isSpan [.int a, .int b] σ (PE (some (bi (¬ a < 0 ∧ ¬ b ≤ a ∧ ¬ nI 2880 < b))) σ) := by
  refine CT.of2 0 (by decide) rfl rfl ?_
  refine tr_iload_n eX7_isSpan_0 rfl ?_
  refine tr_if_lt eX7_isSpan_1 (fun h1 => ?_) (fun h1 => ?_)
  · skip
    refine tr_iconst eX7_isSpan_27 (nI 0) ci_0 ?_
    refine tr_ret eX7_isSpan_28 rfl (by first | rfl | exact nar_bi _) ?_
    refine ⟨congrArg some ?_, rfl⟩
    first | (refine bi_t ?_; simp_all; done) | (refine bi_f ?_; simp_all; done) | (refine bi_f ?_; rintro ⟨q1, q2, q3⟩; simp only [Int32.lt_iff_toInt_lt, Int32.le_iff_toInt_le] at *; omega)
  · skip
    refine tr_iload_n eX7_isSpan_4 rfl ?_
    refine tr_sipush eX7_isSpan_5 (nI 2880) (by decide) ?_
    refine tr_icmp_ge eX7_isSpan_8 (fun h8 => ?_) (fun h8 => ?_)
    · skip
      refine tr_iconst eX7_isSpan_27 (nI 0) ci_0 ?_
      refine tr_ret eX7_isSpan_28 rfl (by first | rfl | exact nar_bi _) ?_
      refine ⟨congrArg some ?_, rfl⟩
      first | (refine bi_t ?_; simp_all; done) | (refine bi_f ?_; simp_all; done) | (refine bi_f ?_; rintro ⟨q1, q2, q3⟩; simp only [Int32.lt_iff_toInt_lt, Int32.le_iff_toInt_le] at *; omega)
    · skip
      refine tr_iload_n eX7_isSpan_11 rfl ?_
      refine tr_iload_n eX7_isSpan_12 rfl ?_
      refine tr_icmp_le eX7_isSpan_13 (fun h13 => ?_) (fun h13 => ?_)
      · skip
        refine tr_iconst eX7_isSpan_27 (nI 0) ci_0 ?_
        refine tr_ret eX7_isSpan_28 rfl (by first | rfl | exact nar_bi _) ?_
        refine ⟨congrArg some ?_, rfl⟩
        first | (refine bi_t ?_; simp_all; done) | (refine bi_f ?_; simp_all; done) | (refine bi_f ?_; rintro ⟨q1, q2, q3⟩; simp only [Int32.lt_iff_toInt_lt, Int32.le_iff_toInt_le] at *; omega)
      · skip
        refine tr_iload_n eX7_isSpan_16 rfl ?_
        refine tr_sipush eX7_isSpan_17 (nI 2880) (by decide) ?_
        refine tr_icmp_gt eX7_isSpan_20 (fun h20 => ?_) (fun h20 => ?_)
        · skip
          refine tr_iconst eX7_isSpan_27 (nI 0) ci_0 ?_
          refine tr_ret eX7_isSpan_28 rfl (by first | rfl | exact nar_bi _) ?_
          refine ⟨congrArg some ?_, rfl⟩
          first | (refine bi_t ?_; simp_all; done) | (refine bi_f ?_; simp_all; done) | (refine bi_f ?_; rintro ⟨q1, q2, q3⟩; simp only [Int32.lt_iff_toInt_lt, Int32.le_iff_toInt_le] at *; omega)
        · skip
          refine tr_iconst eX7_isSpan_23 (nI 1) ci_1 ?_
          refine tr_goto eX7_isSpan_24 ?_
          refine tr_ret eX7_isSpan_28 rfl (by first | rfl | exact nar_bi _) ?_
          refine ⟨congrArg some ?_, rfl⟩
          first | (refine bi_t ?_; simp_all; done) | (refine bi_f ?_; simp_all; done) | (refine bi_f ?_; rintro ⟨q1, q2, q3⟩; simp only [Int32.lt_iff_toInt_lt, Int32.le_iff_toInt_le] at *; omega)

theorem k_X7_kindOf {σ : tSt} {v : Int32} (hv : vp_in v 40) : CT mX7_kindOf [.ref 0, .int v] σ (PE (some (s_kind σ v)) σ) := by
  refine CT.of2 0 (by decide) rfl rfl ?_
  refine tr_aload_n eX7_kindOf_0 rfl ?_
  refine tr_getR eX7_kindOf_1 fk_X7_47 rfl rfl ?_
  refine tr_iconst eX7_kindOf_4 (nI 5) ci_5 ?_
  refine tr_iload_n eX7_kindOf_5 rfl ?_
  refine tr_imulC eX7_kindOf_6 ?_
  refine tr_iald eX7_kindOf_7 rfl (by first | with_reducible assumption | with_reducible exact in_slot (by with_reducible assumption) (by with_reducible assumption) | with_reducible exact in_row _ (by decide) (by with_reducible assumption) | with_reducible exact in_row0 (by with_reducible assumption) | with_reducible exact in_slot0 (by with_reducible assumption) | (simp (disch := decide) only [up_k, up_s, up_f] <;> with_reducible assumption)) ?_
  refine tr_ret eX7_kindOf_8 rfl rfl ?_
  first | with_reducible exact ⟨rfl, rfl⟩ | (refine ⟨congrArg some ?_, rfl⟩; unfold bi; split <;> first | with_reducible rfl | (exfalso; simp_all [s_wait, s_come]; done) | (exfalso; simp_all [s_kind, s_wing, s_in, s_out, s_need, s_unk, s_put, s_beg, s_come, s_wait, s_sa, add_n0]; done) | (exfalso; simp_all [s_kind, s_wing, s_in, s_out, s_need, s_unk, s_put, s_beg, s_come, s_wait, s_sa, add_n0]; simp only [Int32.lt_iff_toInt_lt, Int32.le_iff_toInt_le] at *; omega)) | (refine ⟨congrArg some ?_, rfl⟩; (first | unfold s_out | unfold s_need); split <;> first | with_reducible rfl | contradiction) | (exact ⟨by simp [s_kind, s_wing, s_in, s_out, s_need, s_unk, s_put, s_beg, s_come, s_wait, s_sa, add_n0], rfl⟩) | exact ⟨rfl, rfl⟩

theorem k_X7_wingOf {σ : tSt} {v : Int32} (hv : vp_in v 40) : CT mX7_wingOf [.ref 0, .int v] σ (PE (some (s_wing σ v)) σ) := by
  refine CT.of2 0 (by decide) rfl rfl ?_
  refine tr_aload_n eX7_wingOf_0 rfl ?_
  refine tr_getR eX7_wingOf_1 fk_X7_47 rfl rfl ?_
  refine tr_iconst eX7_wingOf_4 (nI 5) ci_5 ?_
  refine tr_iload_n eX7_wingOf_5 rfl ?_
  refine tr_imulC eX7_wingOf_6 ?_
  refine tr_iconst eX7_wingOf_7 (nI 1) ci_1 ?_
  refine tr_iadd eX7_wingOf_8 ?_
  refine tr_iald eX7_wingOf_9 rfl (by first | with_reducible assumption | with_reducible exact in_slot (by with_reducible assumption) (by with_reducible assumption) | with_reducible exact in_row _ (by decide) (by with_reducible assumption) | with_reducible exact in_row0 (by with_reducible assumption) | with_reducible exact in_slot0 (by with_reducible assumption) | (simp (disch := decide) only [up_k, up_s, up_f] <;> with_reducible assumption)) ?_
  refine tr_ret eX7_wingOf_10 rfl rfl ?_
  first | with_reducible exact ⟨rfl, rfl⟩ | (refine ⟨congrArg some ?_, rfl⟩; unfold bi; split <;> first | with_reducible rfl | (exfalso; simp_all [s_wait, s_come]; done) | (exfalso; simp_all [s_kind, s_wing, s_in, s_out, s_need, s_unk, s_put, s_beg, s_come, s_wait, s_sa, add_n0]; done) | (exfalso; simp_all [s_kind, s_wing, s_in, s_out, s_need, s_unk, s_put, s_beg, s_come, s_wait, s_sa, add_n0]; simp only [Int32.lt_iff_toInt_lt, Int32.le_iff_toInt_le] at *; omega)) | (refine ⟨congrArg some ?_, rfl⟩; (first | unfold s_out | unfold s_need); split <;> first | with_reducible rfl | contradiction) | (exact ⟨by simp [s_kind, s_wing, s_in, s_out, s_need, s_unk, s_put, s_beg, s_come, s_wait, s_sa, add_n0], rfl⟩) | exact ⟨rfl, rfl⟩

theorem k_X7_inOf {σ : tSt} {v : Int32} (hv : vp_in v 40) : CT mX7_inOf [.ref 0, .int v] σ (PE (some (s_in σ v)) σ) := by
  refine CT.of2 0 (by decide) rfl rfl ?_
  refine tr_aload_n eX7_inOf_0 rfl ?_
  refine tr_getR eX7_inOf_1 fk_X7_47 rfl rfl ?_
  refine tr_iconst eX7_inOf_4 (nI 5) ci_5 ?_
  refine tr_iload_n eX7_inOf_5 rfl ?_
  refine tr_imulC eX7_inOf_6 ?_
  refine tr_iconst eX7_inOf_7 (nI 2) ci_2 ?_
  refine tr_iadd eX7_inOf_8 ?_
  refine tr_iald eX7_inOf_9 rfl (by first | with_reducible assumption | with_reducible exact in_slot (by with_reducible assumption) (by with_reducible assumption) | with_reducible exact in_row _ (by decide) (by with_reducible assumption) | with_reducible exact in_row0 (by with_reducible assumption) | with_reducible exact in_slot0 (by with_reducible assumption) | (simp (disch := decide) only [up_k, up_s, up_f] <;> with_reducible assumption)) ?_
  refine tr_ret eX7_inOf_10 rfl rfl ?_
  first | with_reducible exact ⟨rfl, rfl⟩ | (refine ⟨congrArg some ?_, rfl⟩; unfold bi; split <;> first | with_reducible rfl | (exfalso; simp_all [s_wait, s_come]; done) | (exfalso; simp_all [s_kind, s_wing, s_in, s_out, s_need, s_unk, s_put, s_beg, s_come, s_wait, s_sa, add_n0]; done) | (exfalso; simp_all [s_kind, s_wing, s_in, s_out, s_need, s_unk, s_put, s_beg, s_come, s_wait, s_sa, add_n0]; simp only [Int32.lt_iff_toInt_lt, Int32.le_iff_toInt_le] at *; omega)) | (refine ⟨congrArg some ?_, rfl⟩; (first | unfold s_out | unfold s_need); split <;> first | with_reducible rfl | contradiction) | (exact ⟨by simp [s_kind, s_wing, s_in, s_out, s_need, s_unk, s_put, s_beg, s_come, s_wait, s_sa, add_n0], rfl⟩) | exact ⟨rfl, rfl⟩

theorem k_X7_outOf {σ : tSt} {v : Int32} (hv : vp_in v 40) : CT mX7_outOf [.ref 0, .int v] σ (PE (some (s_out σ v)) σ) := by
  refine CT.of2 0 (by decide) rfl rfl ?_
  refine tr_aload_n eX7_outOf_0 rfl ?_
  refine tr_getR eX7_outOf_1 fk_X7_44 rfl rfl ?_
  refine tr_iload_n eX7_outOf_4 rfl ?_
  refine tr_iald eX7_outOf_5 rfl (by first | with_reducible assumption | with_reducible exact in_slot (by with_reducible assumption) (by with_reducible assumption) | with_reducible exact in_row _ (by decide) (by with_reducible assumption) | with_reducible exact in_row0 (by with_reducible assumption) | with_reducible exact in_slot0 (by with_reducible assumption) | (simp (disch := decide) only [up_k, up_s, up_f] <;> with_reducible assumption)) ?_
  refine tr_iconst eX7_outOf_6 (nI 3) ci_3 ?_
  refine tr_icmp_le eX7_outOf_7 (fun h7 => ?_) (fun h7 => ?_)
  · skip
    refine tr_sipush eX7_outOf_23 (nI 2880) (by decide) ?_
    refine tr_ret eX7_outOf_26 rfl rfl ?_
    first | with_reducible exact ⟨rfl, rfl⟩ | (refine ⟨congrArg some ?_, rfl⟩; unfold bi; split <;> first | with_reducible rfl | (exfalso; simp_all [s_wait, s_come]; done) | (exfalso; simp_all [s_kind, s_wing, s_in, s_out, s_need, s_unk, s_put, s_beg, s_come, s_wait, s_sa, add_n0]; done) | (exfalso; simp_all [s_kind, s_wing, s_in, s_out, s_need, s_unk, s_put, s_beg, s_come, s_wait, s_sa, add_n0]; simp only [Int32.lt_iff_toInt_lt, Int32.le_iff_toInt_le] at *; omega)) | (refine ⟨congrArg some ?_, rfl⟩; (first | unfold s_out | unfold s_need); split <;> first | with_reducible rfl | contradiction) | (exact ⟨by simp [s_kind, s_wing, s_in, s_out, s_need, s_unk, s_put, s_beg, s_come, s_wait, s_sa, add_n0], rfl⟩) | exact ⟨rfl, rfl⟩
  · skip
    refine tr_aload_n eX7_outOf_10 rfl ?_
    refine tr_getR eX7_outOf_11 fk_X7_47 rfl rfl ?_
    refine tr_iconst eX7_outOf_14 (nI 5) ci_5 ?_
    refine tr_iload_n eX7_outOf_15 rfl ?_
    refine tr_imulC eX7_outOf_16 ?_
    refine tr_iconst eX7_outOf_17 (nI 3) ci_3 ?_
    refine tr_iadd eX7_outOf_18 ?_
    refine tr_iald eX7_outOf_19 rfl (by first | with_reducible assumption | with_reducible exact in_slot (by with_reducible assumption) (by with_reducible assumption) | with_reducible exact in_row _ (by decide) (by with_reducible assumption) | with_reducible exact in_row0 (by with_reducible assumption) | with_reducible exact in_slot0 (by with_reducible assumption) | (simp (disch := decide) only [up_k, up_s, up_f] <;> with_reducible assumption)) ?_
    refine tr_goto eX7_outOf_20 ?_
    refine tr_ret eX7_outOf_26 rfl rfl ?_
    first | with_reducible exact ⟨rfl, rfl⟩ | (refine ⟨congrArg some ?_, rfl⟩; unfold bi; split <;> first | with_reducible rfl | (exfalso; simp_all [s_wait, s_come]; done) | (exfalso; simp_all [s_kind, s_wing, s_in, s_out, s_need, s_unk, s_put, s_beg, s_come, s_wait, s_sa, add_n0]; done) | (exfalso; simp_all [s_kind, s_wing, s_in, s_out, s_need, s_unk, s_put, s_beg, s_come, s_wait, s_sa, add_n0]; simp only [Int32.lt_iff_toInt_lt, Int32.le_iff_toInt_le] at *; omega)) | (refine ⟨congrArg some ?_, rfl⟩; (first | unfold s_out | unfold s_need); split <;> first | with_reducible rfl | contradiction) | (exact ⟨by simp [s_kind, s_wing, s_in, s_out, s_need, s_unk, s_put, s_beg, s_come, s_wait, s_sa, add_n0], rfl⟩) | exact ⟨rfl, rfl⟩

theorem k_X7_needOf {σ : tSt} {v : Int32} (hv : vp_in v 40) : CT mX7_needOf [.ref 0, .int v] σ (PE (some (s_need σ v)) σ) := by
  refine CT.of2 0 (by decide) rfl rfl ?_
  refine tr_aload_n eX7_needOf_0 rfl ?_
  refine tr_getR eX7_needOf_1 fk_X7_44 rfl rfl ?_
  refine tr_iload_n eX7_needOf_4 rfl ?_
  refine tr_iald eX7_needOf_5 rfl (by first | with_reducible assumption | with_reducible exact in_slot (by with_reducible assumption) (by with_reducible assumption) | with_reducible exact in_row _ (by decide) (by with_reducible assumption) | with_reducible exact in_row0 (by with_reducible assumption) | with_reducible exact in_slot0 (by with_reducible assumption) | (simp (disch := decide) only [up_k, up_s, up_f] <;> with_reducible assumption)) ?_
  refine tr_iconst eX7_needOf_6 (nI 4) ci_4 ?_
  refine tr_icmp_le eX7_needOf_7 (fun h7 => ?_) (fun h7 => ?_)
  · skip
    refine tr_iconst eX7_needOf_23 (nI 0) ci_0 ?_
    refine tr_ret eX7_needOf_24 rfl rfl ?_
    first | with_reducible exact ⟨rfl, rfl⟩ | (refine ⟨congrArg some ?_, rfl⟩; unfold bi; split <;> first | with_reducible rfl | (exfalso; simp_all [s_wait, s_come]; done) | (exfalso; simp_all [s_kind, s_wing, s_in, s_out, s_need, s_unk, s_put, s_beg, s_come, s_wait, s_sa, add_n0]; done) | (exfalso; simp_all [s_kind, s_wing, s_in, s_out, s_need, s_unk, s_put, s_beg, s_come, s_wait, s_sa, add_n0]; simp only [Int32.lt_iff_toInt_lt, Int32.le_iff_toInt_le] at *; omega)) | (refine ⟨congrArg some ?_, rfl⟩; (first | unfold s_out | unfold s_need); split <;> first | with_reducible rfl | contradiction) | (exact ⟨by simp [s_kind, s_wing, s_in, s_out, s_need, s_unk, s_put, s_beg, s_come, s_wait, s_sa, add_n0], rfl⟩) | exact ⟨rfl, rfl⟩
  · skip
    refine tr_aload_n eX7_needOf_10 rfl ?_
    refine tr_getR eX7_needOf_11 fk_X7_47 rfl rfl ?_
    refine tr_iconst eX7_needOf_14 (nI 5) ci_5 ?_
    refine tr_iload_n eX7_needOf_15 rfl ?_
    refine tr_imulC eX7_needOf_16 ?_
    refine tr_iconst eX7_needOf_17 (nI 4) ci_4 ?_
    refine tr_iadd eX7_needOf_18 ?_
    refine tr_iald eX7_needOf_19 rfl (by first | with_reducible assumption | with_reducible exact in_slot (by with_reducible assumption) (by with_reducible assumption) | with_reducible exact in_row _ (by decide) (by with_reducible assumption) | with_reducible exact in_row0 (by with_reducible assumption) | with_reducible exact in_slot0 (by with_reducible assumption) | (simp (disch := decide) only [up_k, up_s, up_f] <;> with_reducible assumption)) ?_
    refine tr_goto eX7_needOf_20 ?_
    refine tr_ret eX7_needOf_24 rfl rfl ?_
    first | with_reducible exact ⟨rfl, rfl⟩ | (refine ⟨congrArg some ?_, rfl⟩; unfold bi; split <;> first | with_reducible rfl | (exfalso; simp_all [s_wait, s_come]; done) | (exfalso; simp_all [s_kind, s_wing, s_in, s_out, s_need, s_unk, s_put, s_beg, s_come, s_wait, s_sa, add_n0]; done) | (exfalso; simp_all [s_kind, s_wing, s_in, s_out, s_need, s_unk, s_put, s_beg, s_come, s_wait, s_sa, add_n0]; simp only [Int32.lt_iff_toInt_lt, Int32.le_iff_toInt_le] at *; omega)) | (refine ⟨congrArg some ?_, rfl⟩; (first | unfold s_out | unfold s_need); split <;> first | with_reducible rfl | contradiction) | (exact ⟨by simp [s_kind, s_wing, s_in, s_out, s_need, s_unk, s_put, s_beg, s_come, s_wait, s_sa, add_n0], rfl⟩) | exact ⟨rfl, rfl⟩

theorem lt3_iff (x : Int32) : x < nI 3 ↔ ¬ nI 2 < x := by
  simp only [Int32.lt_iff_toInt_lt]
  have h2 : (nI 2).toInt = 2 := by decide
  have h3 : (nI 3).toInt = 3 := by decide
  omega
theorem k_X7_isUnknown {σ : tSt} {v : Int32} (hv : vp_in v 40) : CT mX7_isUnknown [.ref 0, .int v] σ (PE (some (bi (s_unk σ v = true))) σ) := by
  refine CT.of2 0 (by decide) rfl rfl ?_
  refine tr_aload_n eX7_isUnknown_0 rfl ?_
  refine tr_getR eX7_isUnknown_1 fk_X7_44 rfl rfl ?_
  refine tr_iload_n eX7_isUnknown_4 rfl ?_
  refine tr_iald eX7_isUnknown_5 rfl (by first | with_reducible assumption | with_reducible exact in_slot (by with_reducible assumption) (by with_reducible assumption) | with_reducible exact in_row _ (by decide) (by with_reducible assumption) | with_reducible exact in_row0 (by with_reducible assumption) | with_reducible exact in_slot0 (by with_reducible assumption) | (simp (disch := decide) only [up_k, up_s, up_f] <;> with_reducible assumption)) ?_
  refine tr_iconst eX7_isUnknown_6 (nI 3) ci_3 ?_
  refine tr_icmp_ge eX7_isUnknown_7 (fun h7 => ?_) (fun h7 => ?_)
  · skip
    refine tr_iconst eX7_isUnknown_14 (nI 0) ci_0 ?_
    refine tr_ret eX7_isUnknown_15 rfl (by first | rfl | exact nar_bi _) ?_
    refine ⟨congrArg some ?_, rfl⟩
    first | (refine bi_t ?_; have := (lt3_iff _).mp (Int32.not_le.mp h7); simp_all [s_unk]; done) | (refine bi_f ?_; intro q; simp only [s_unk, decide_eq_true_eq] at q; exact absurd h7 (Int32.not_le.mpr ((lt3_iff _).mpr q)))
  · skip
    refine tr_iconst eX7_isUnknown_10 (nI 1) ci_1 ?_
    refine tr_goto eX7_isUnknown_11 ?_
    refine tr_ret eX7_isUnknown_15 rfl (by first | rfl | exact nar_bi _) ?_
    refine ⟨congrArg some ?_, rfl⟩
    first | (refine bi_t ?_; have := (lt3_iff _).mp (Int32.not_le.mp h7); simp_all [s_unk]; done) | (refine bi_f ?_; intro q; simp only [s_unk, decide_eq_true_eq] at q; exact absurd h7 (Int32.not_le.mpr ((lt3_iff _).mpr q)))

theorem k_X7_isPut {σ : tSt} {v : Int32} (hv : vp_in v 40) : CT mX7_isPut [.ref 0, .int v] σ (PE (some (bi (s_put σ v = true))) σ) := by
  refine CT.of2 0 (by decide) rfl rfl ?_
  refine tr_aload_n eX7_isPut_0 rfl ?_
  refine tr_getR eX7_isPut_1 fk_X7_50 rfl rfl ?_
  refine tr_iload_n eX7_isPut_4 rfl ?_
  refine tr_iald eX7_isPut_5 rfl (by first | with_reducible assumption | with_reducible exact in_slot (by with_reducible assumption) (by with_reducible assumption) | with_reducible exact in_row _ (by decide) (by with_reducible assumption) | with_reducible exact in_row0 (by with_reducible assumption) | with_reducible exact in_slot0 (by with_reducible assumption) | (simp (disch := decide) only [up_k, up_s, up_f] <;> with_reducible assumption)) ?_
  refine tr_if_le eX7_isPut_6 (fun h6 => ?_) (fun h6 => ?_)
  · skip
    refine tr_iconst eX7_isPut_13 (nI 0) ci_0 ?_
    refine tr_ret eX7_isPut_14 rfl (by first | rfl | exact nar_bi _) ?_
    first | with_reducible exact ⟨rfl, rfl⟩ | (refine ⟨congrArg some ?_, rfl⟩; unfold bi; split <;> first | with_reducible rfl | (exfalso; simp_all [s_wait, s_come]; done) | (exfalso; simp_all [s_kind, s_wing, s_in, s_out, s_need, s_unk, s_put, s_beg, s_come, s_wait, s_sa, add_n0]; done) | (exfalso; simp_all [s_kind, s_wing, s_in, s_out, s_need, s_unk, s_put, s_beg, s_come, s_wait, s_sa, add_n0]; simp only [Int32.lt_iff_toInt_lt, Int32.le_iff_toInt_le] at *; omega)) | (refine ⟨congrArg some ?_, rfl⟩; (first | unfold s_out | unfold s_need); split <;> first | with_reducible rfl | contradiction) | (exact ⟨by simp [s_kind, s_wing, s_in, s_out, s_need, s_unk, s_put, s_beg, s_come, s_wait, s_sa, add_n0], rfl⟩) | exact ⟨rfl, rfl⟩
  · skip
    refine tr_iconst eX7_isPut_9 (nI 1) ci_1 ?_
    refine tr_goto eX7_isPut_10 ?_
    refine tr_ret eX7_isPut_14 rfl (by first | rfl | exact nar_bi _) ?_
    first | with_reducible exact ⟨rfl, rfl⟩ | (refine ⟨congrArg some ?_, rfl⟩; unfold bi; split <;> first | with_reducible rfl | (exfalso; simp_all [s_wait, s_come]; done) | (exfalso; simp_all [s_kind, s_wing, s_in, s_out, s_need, s_unk, s_put, s_beg, s_come, s_wait, s_sa, add_n0]; done) | (exfalso; simp_all [s_kind, s_wing, s_in, s_out, s_need, s_unk, s_put, s_beg, s_come, s_wait, s_sa, add_n0]; simp only [Int32.lt_iff_toInt_lt, Int32.le_iff_toInt_le] at *; omega)) | (refine ⟨congrArg some ?_, rfl⟩; (first | unfold s_out | unfold s_need); split <;> first | with_reducible rfl | contradiction) | (exact ⟨by simp [s_kind, s_wing, s_in, s_out, s_need, s_unk, s_put, s_beg, s_come, s_wait, s_sa, add_n0], rfl⟩) | exact ⟨rfl, rfl⟩

theorem k_X7_hasBegun {σ : tSt} {v : Int32} (hv : vp_in v 40) : CT mX7_hasBegun [.ref 0, .int v] σ (PE (some (bi (¬ σ 0 (nI 8) < s_in σ v))) σ) := by
  refine CT.of2 0 (by decide) rfl rfl ?_
  refine tr_aload_n eX7_hasBegun_0 rfl ?_
  refine tr_iload_n eX7_hasBegun_1 rfl ?_
  refine tr_ce1 eX7_hasBegun_2 zv_X7_inOf zi_X7_inOf lk_X7_119 ⟨rfl, by decide, by decide⟩ rfl rfl rfl (k_X7_inOf (by first | with_reducible assumption | with_reducible exact in_slot (by with_reducible assumption) (by with_reducible assumption) | with_reducible exact in_row _ (by decide) (by with_reducible assumption) | with_reducible exact in_row0 (by with_reducible assumption) | with_reducible exact in_slot0 (by with_reducible assumption) | (simp (disch := decide) only [up_k, up_s, up_f] <;> with_reducible assumption))) ?_
  refine tr_aload_n eX7_hasBegun_5 rfl ?_
  refine tr_getI eX7_hasBegun_6 fk_X7_122 rfl rfl ?_
  refine tr_icmp_gt eX7_hasBegun_9 (fun h9 => ?_) (fun h9 => ?_)
  · skip
    refine tr_iconst eX7_hasBegun_16 (nI 0) ci_0 ?_
    refine tr_ret eX7_hasBegun_17 rfl (by first | rfl | exact nar_bi _) ?_
    first | with_reducible exact ⟨rfl, rfl⟩ | (refine ⟨congrArg some ?_, rfl⟩; unfold bi; split <;> first | with_reducible rfl | (exfalso; simp_all [s_wait, s_come]; done) | (exfalso; simp_all [s_kind, s_wing, s_in, s_out, s_need, s_unk, s_put, s_beg, s_come, s_wait, s_sa, add_n0]; done) | (exfalso; simp_all [s_kind, s_wing, s_in, s_out, s_need, s_unk, s_put, s_beg, s_come, s_wait, s_sa, add_n0]; simp only [Int32.lt_iff_toInt_lt, Int32.le_iff_toInt_le] at *; omega)) | (refine ⟨congrArg some ?_, rfl⟩; (first | unfold s_out | unfold s_need); split <;> first | with_reducible rfl | contradiction) | (exact ⟨by simp [s_kind, s_wing, s_in, s_out, s_need, s_unk, s_put, s_beg, s_come, s_wait, s_sa, add_n0], rfl⟩) | exact ⟨rfl, rfl⟩
  · skip
    refine tr_iconst eX7_hasBegun_12 (nI 1) ci_1 ?_
    refine tr_goto eX7_hasBegun_13 ?_
    refine tr_ret eX7_hasBegun_17 rfl (by first | rfl | exact nar_bi _) ?_
    first | with_reducible exact ⟨rfl, rfl⟩ | (refine ⟨congrArg some ?_, rfl⟩; unfold bi; split <;> first | with_reducible rfl | (exfalso; simp_all [s_wait, s_come]; done) | (exfalso; simp_all [s_kind, s_wing, s_in, s_out, s_need, s_unk, s_put, s_beg, s_come, s_wait, s_sa, add_n0]; done) | (exfalso; simp_all [s_kind, s_wing, s_in, s_out, s_need, s_unk, s_put, s_beg, s_come, s_wait, s_sa, add_n0]; simp only [Int32.lt_iff_toInt_lt, Int32.le_iff_toInt_le] at *; omega)) | (refine ⟨congrArg some ?_, rfl⟩; (first | unfold s_out | unfold s_need); split <;> first | with_reducible rfl | contradiction) | (exact ⟨by simp [s_kind, s_wing, s_in, s_out, s_need, s_unk, s_put, s_beg, s_come, s_wait, s_sa, add_n0], rfl⟩) | exact ⟨rfl, rfl⟩

theorem k_X7_isPlanned {σ : tSt} {v : Int32} (hv : vp_in v 40) : CT mX7_isPlanned [.ref 0, .int v] σ (PE (some (bi (s_come σ (σ 0 (nI 8)) v = true))) σ) := by
  refine CT.of2 0 (by decide) rfl rfl ?_
  refine tr_aload_n eX7_isPlanned_0 rfl ?_
  refine tr_iload_n eX7_isPlanned_1 rfl ?_
  refine tr_ce1 eX7_isPlanned_2 zv_X7_isPut zi_X7_isPut lk_X7_116 ⟨rfl, by decide, by decide⟩ rfl rfl rfl (k_X7_isPut (by first | with_reducible assumption | with_reducible exact in_slot (by with_reducible assumption) (by with_reducible assumption) | with_reducible exact in_row _ (by decide) (by with_reducible assumption) | with_reducible exact in_row0 (by with_reducible assumption) | with_reducible exact in_slot0 (by with_reducible assumption) | (simp (disch := decide) only [up_k, up_s, up_f] <;> with_reducible assumption))) ?_
  refine tr_if_ne eX7_isPlanned_5 (fun h5 => ?_) (fun h5 => ?_)
  · skip
    try first | replace h5 := bi_0 h5 | replace h5 := bi_n h5
    refine tr_iconst eX7_isPlanned_28 (nI 0) ci_0 ?_
    refine tr_ret eX7_isPlanned_29 rfl (by first | rfl | exact nar_bi _) ?_
    refine ⟨congrArg some ?_, rfl⟩
    first | (refine bi_t ?_; simp_all [s_come, s_beg]; done) | (refine bi_f ?_; simp_all [s_come, s_beg]; done) | (refine bi_f ?_; simp_all [s_come, s_beg]; simp only [Int32.lt_iff_toInt_lt, Int32.le_iff_toInt_le] at *; omega)
  · skip
    try first | replace h5 := bi_0 h5 | replace h5 := bi_n h5
    refine tr_aload_n eX7_isPlanned_8 rfl ?_
    refine tr_iload_n eX7_isPlanned_9 rfl ?_
    refine tr_ce1 eX7_isPlanned_10 zv_X7_isUnknown zi_X7_isUnknown lk_X7_172 ⟨rfl, by decide, by decide⟩ rfl rfl rfl (k_X7_isUnknown (by first | with_reducible assumption | with_reducible exact in_slot (by with_reducible assumption) (by with_reducible assumption) | with_reducible exact in_row _ (by decide) (by with_reducible assumption) | with_reducible exact in_row0 (by with_reducible assumption) | with_reducible exact in_slot0 (by with_reducible assumption) | (simp (disch := decide) only [up_k, up_s, up_f] <;> with_reducible assumption))) ?_
    refine tr_if_ne eX7_isPlanned_13 (fun h13 => ?_) (fun h13 => ?_)
    · skip
      try first | replace h13 := bi_0 h13 | replace h13 := bi_n h13
      refine tr_iconst eX7_isPlanned_28 (nI 0) ci_0 ?_
      refine tr_ret eX7_isPlanned_29 rfl (by first | rfl | exact nar_bi _) ?_
      refine ⟨congrArg some ?_, rfl⟩
      first | (refine bi_t ?_; simp_all [s_come, s_beg]; done) | (refine bi_f ?_; simp_all [s_come, s_beg]; done) | (refine bi_f ?_; simp_all [s_come, s_beg]; simp only [Int32.lt_iff_toInt_lt, Int32.le_iff_toInt_le] at *; omega)
    · skip
      try first | replace h13 := bi_0 h13 | replace h13 := bi_n h13
      refine tr_aload_n eX7_isPlanned_16 rfl ?_
      refine tr_iload_n eX7_isPlanned_17 rfl ?_
      refine tr_ce1 eX7_isPlanned_18 zv_X7_hasBegun zi_X7_hasBegun lk_X7_175 ⟨rfl, by decide, by decide⟩ rfl rfl rfl (k_X7_hasBegun (by first | with_reducible assumption | with_reducible exact in_slot (by with_reducible assumption) (by with_reducible assumption) | with_reducible exact in_row _ (by decide) (by with_reducible assumption) | with_reducible exact in_row0 (by with_reducible assumption) | with_reducible exact in_slot0 (by with_reducible assumption) | (simp (disch := decide) only [up_k, up_s, up_f] <;> with_reducible assumption))) ?_
      refine tr_if_ne eX7_isPlanned_21 (fun h21 => ?_) (fun h21 => ?_)
      · skip
        try first | replace h21 := bi_0 h21 | replace h21 := bi_n h21
        refine tr_iconst eX7_isPlanned_28 (nI 0) ci_0 ?_
        refine tr_ret eX7_isPlanned_29 rfl (by first | rfl | exact nar_bi _) ?_
        refine ⟨congrArg some ?_, rfl⟩
        first | (refine bi_t ?_; simp_all [s_come, s_beg]; done) | (refine bi_f ?_; simp_all [s_come, s_beg]; done) | (refine bi_f ?_; simp_all [s_come, s_beg]; simp only [Int32.lt_iff_toInt_lt, Int32.le_iff_toInt_le] at *; omega)
      · skip
        try first | replace h21 := bi_0 h21 | replace h21 := bi_n h21
        refine tr_iconst eX7_isPlanned_24 (nI 1) ci_1 ?_
        refine tr_goto eX7_isPlanned_25 ?_
        refine tr_ret eX7_isPlanned_29 rfl (by first | rfl | exact nar_bi _) ?_
        refine ⟨congrArg some ?_, rfl⟩
        first | (refine bi_t ?_; simp_all [s_come, s_beg]; done) | (refine bi_f ?_; simp_all [s_come, s_beg]; done) | (refine bi_f ?_; simp_all [s_come, s_beg]; simp only [Int32.lt_iff_toInt_lt, Int32.le_iff_toInt_le] at *; omega)

theorem k_X7_isWaiting {σ : tSt} {v : Int32} (hv : vp_in v 40) : CT mX7_isWaiting [.ref 0, .int v] σ (PE (some (bi (s_wait σ (σ 0 (nI 8)) v = true))) σ) := by
  refine CT.of2 0 (by decide) rfl rfl ?_
  refine tr_aload_n eX7_isWaiting_0 rfl ?_
  refine tr_iload_n eX7_isWaiting_1 rfl ?_
  refine tr_ce1 eX7_isWaiting_2 zv_X7_isPut zi_X7_isPut lk_X7_116 ⟨rfl, by decide, by decide⟩ rfl rfl rfl (k_X7_isPut (by first | with_reducible assumption | with_reducible exact in_slot (by with_reducible assumption) (by with_reducible assumption) | with_reducible exact in_row _ (by decide) (by with_reducible assumption) | with_reducible exact in_row0 (by with_reducible assumption) | with_reducible exact in_slot0 (by with_reducible assumption) | (simp (disch := decide) only [up_k, up_s, up_f] <;> with_reducible assumption))) ?_
  refine tr_if_ne eX7_isWaiting_5 (fun h5 => ?_) (fun h5 => ?_)
  · skip
    try first | replace h5 := bi_0 h5 | replace h5 := bi_n h5
    refine tr_iconst eX7_isWaiting_40 (nI 0) ci_0 ?_
    refine tr_ret eX7_isWaiting_41 rfl (by first | rfl | exact nar_bi _) ?_
    refine ⟨congrArg some ?_, rfl⟩
    first | (refine bi_t ?_; simp_all [s_wait, s_beg]; done) | (refine bi_f ?_; simp_all [s_wait, s_beg]; done) | (refine bi_f ?_; simp_all [s_wait, s_beg]; simp only [Int32.lt_iff_toInt_lt, Int32.le_iff_toInt_le] at *; omega)
  · skip
    try first | replace h5 := bi_0 h5 | replace h5 := bi_n h5
    refine tr_aload_n eX7_isWaiting_8 rfl ?_
    refine tr_iload_n eX7_isWaiting_9 rfl ?_
    refine tr_ce1 eX7_isWaiting_10 zv_X7_isUnknown zi_X7_isUnknown lk_X7_172 ⟨rfl, by decide, by decide⟩ rfl rfl rfl (k_X7_isUnknown (by first | with_reducible assumption | with_reducible exact in_slot (by with_reducible assumption) (by with_reducible assumption) | with_reducible exact in_row _ (by decide) (by with_reducible assumption) | with_reducible exact in_row0 (by with_reducible assumption) | with_reducible exact in_slot0 (by with_reducible assumption) | (simp (disch := decide) only [up_k, up_s, up_f] <;> with_reducible assumption))) ?_
    refine tr_if_ne eX7_isWaiting_13 (fun h13 => ?_) (fun h13 => ?_)
    · skip
      try first | replace h13 := bi_0 h13 | replace h13 := bi_n h13
      refine tr_iconst eX7_isWaiting_40 (nI 0) ci_0 ?_
      refine tr_ret eX7_isWaiting_41 rfl (by first | rfl | exact nar_bi _) ?_
      refine ⟨congrArg some ?_, rfl⟩
      first | (refine bi_t ?_; simp_all [s_wait, s_beg]; done) | (refine bi_f ?_; simp_all [s_wait, s_beg]; done) | (refine bi_f ?_; simp_all [s_wait, s_beg]; simp only [Int32.lt_iff_toInt_lt, Int32.le_iff_toInt_le] at *; omega)
    · skip
      try first | replace h13 := bi_0 h13 | replace h13 := bi_n h13
      refine tr_aload_n eX7_isWaiting_16 rfl ?_
      refine tr_iload_n eX7_isWaiting_17 rfl ?_
      refine tr_ce1 eX7_isWaiting_18 zv_X7_hasBegun zi_X7_hasBegun lk_X7_175 ⟨rfl, by decide, by decide⟩ rfl rfl rfl (k_X7_hasBegun (by first | with_reducible assumption | with_reducible exact in_slot (by with_reducible assumption) (by with_reducible assumption) | with_reducible exact in_row _ (by decide) (by with_reducible assumption) | with_reducible exact in_row0 (by with_reducible assumption) | with_reducible exact in_slot0 (by with_reducible assumption) | (simp (disch := decide) only [up_k, up_s, up_f] <;> with_reducible assumption))) ?_
      refine tr_if_eq eX7_isWaiting_21 (fun h21 => ?_) (fun h21 => ?_)
      · skip
        try first | replace h21 := bi_0 h21 | replace h21 := bi_n h21
        refine tr_iconst eX7_isWaiting_40 (nI 0) ci_0 ?_
        refine tr_ret eX7_isWaiting_41 rfl (by first | rfl | exact nar_bi _) ?_
        refine ⟨congrArg some ?_, rfl⟩
        first | (refine bi_t ?_; simp_all [s_wait, s_beg]; done) | (refine bi_f ?_; simp_all [s_wait, s_beg]; done) | (refine bi_f ?_; simp_all [s_wait, s_beg]; simp only [Int32.lt_iff_toInt_lt, Int32.le_iff_toInt_le] at *; omega)
      · skip
        try first | replace h21 := bi_0 h21 | replace h21 := bi_n h21
        refine tr_aload_n eX7_isWaiting_24 rfl ?_
        refine tr_iload_n eX7_isWaiting_25 rfl ?_
        refine tr_ce1 eX7_isWaiting_26 zv_X7_outOf zi_X7_outOf lk_X7_178 ⟨rfl, by decide, by decide⟩ rfl rfl rfl (k_X7_outOf (by first | with_reducible assumption | with_reducible exact in_slot (by with_reducible assumption) (by with_reducible assumption) | with_reducible exact in_row _ (by decide) (by with_reducible assumption) | with_reducible exact in_row0 (by with_reducible assumption) | with_reducible exact in_slot0 (by with_reducible assumption) | (simp (disch := decide) only [up_k, up_s, up_f] <;> with_reducible assumption))) ?_
        refine tr_aload_n eX7_isWaiting_29 rfl ?_
        refine tr_getI eX7_isWaiting_30 fk_X7_122 rfl rfl ?_
        refine tr_icmp_le eX7_isWaiting_33 (fun h33 => ?_) (fun h33 => ?_)
        · skip
          refine tr_iconst eX7_isWaiting_40 (nI 0) ci_0 ?_
          refine tr_ret eX7_isWaiting_41 rfl (by first | rfl | exact nar_bi _) ?_
          refine ⟨congrArg some ?_, rfl⟩
          first | (refine bi_t ?_; simp_all [s_wait, s_beg]; done) | (refine bi_f ?_; simp_all [s_wait, s_beg]; done) | (refine bi_f ?_; simp_all [s_wait, s_beg]; simp only [Int32.lt_iff_toInt_lt, Int32.le_iff_toInt_le] at *; omega)
        · skip
          refine tr_iconst eX7_isWaiting_36 (nI 1) ci_1 ?_
          refine tr_goto eX7_isWaiting_37 ?_
          refine tr_ret eX7_isWaiting_41 rfl (by first | rfl | exact nar_bi _) ?_
          refine ⟨congrArg some ?_, rfl⟩
          first | (refine bi_t ?_; simp_all [s_wait, s_beg]; done) | (refine bi_f ?_; simp_all [s_wait, s_beg]; done) | (refine bi_f ?_; simp_all [s_wait, s_beg]; simp only [Int32.lt_iff_toInt_lt, Int32.le_iff_toInt_le] at *; omega)

theorem hc_iff {a b c d : Int32} (h1 : a < b) (h2 : c < d) : (if a < c then c else a) < (if d < b then d else b) ↔ s_hc a b c d = true := by
  simp only [s_hc, Bool.and_eq_true, decide_eq_true_eq, Int32.lt_iff_toInt_lt] at *
  split <;> split <;> simp_all <;> omega
theorem k_X7_haveCommon {σ : tSt} {a b c d : Int32} (h1 : a < b) (h2 : c < d) : CT mX7_haveCommon [.int a, .int b, .int c, .int d] σ (PE (some (bi (s_hc a b c d = true))) σ) := by
  refine CT.of2 0 (by decide) rfl rfl ?_
  refine tr_iload_n eX7_haveCommon_0 rfl ?_
  refine tr_iload_n eX7_haveCommon_1 rfl ?_
  refine tr_max eX7_haveCommon_2 lm_X7_125 wm_max_s wm_i wm_max_c (by decide) (Nat.le_of_ble_eq_true rfl) ?_
  refine tr_iload_n eX7_haveCommon_5 rfl ?_
  refine tr_iload_n eX7_haveCommon_6 rfl ?_
  refine tr_min eX7_haveCommon_7 lm_X7_131 wm_min_s wm_i wm_min_c (by decide) (Nat.le_of_ble_eq_true rfl) ?_
  refine tr_icmp_ge eX7_haveCommon_10 (fun h10 => ?_) (fun h10 => ?_)
  · skip
    refine tr_iconst eX7_haveCommon_17 (nI 0) ci_0 ?_
    refine tr_ret eX7_haveCommon_18 rfl (by first | rfl | exact nar_bi _) ?_
    refine ⟨congrArg some ?_, rfl⟩
    first | exact bi_f (fun q => absurd h10 (Int32.not_le.mpr ((hc_iff h1 h2).mpr q))) | exact bi_t ((hc_iff h1 h2).mp (Int32.not_le.mp h10))
  · skip
    refine tr_iconst eX7_haveCommon_13 (nI 1) ci_1 ?_
    refine tr_goto eX7_haveCommon_14 ?_
    refine tr_ret eX7_haveCommon_18 rfl (by first | rfl | exact nar_bi _) ?_
    refine ⟨congrArg some ?_, rfl⟩
    first | exact bi_f (fun q => absurd h10 (Int32.not_le.mpr ((hc_iff h1 h2).mpr q))) | exact bi_t ((hc_iff h1 h2).mp (Int32.not_le.mp h10))

theorem k_X7_isAgainst {σ : tSt} {w : Int32} : CT mX7_isAgainst [.ref 0, .int w] σ (PE (some (bi (¬ w = 0))) (if w = 0 then σ else up (up σ 0 (nI 1) w) 0 (nI 2) (σ 0 (nI 24)))) := by
  refine CT.of2 0 (by decide) rfl rfl ?_
  refine tr_iload_n eX7_isAgainst_0 rfl ?_
  refine tr_if_ne eX7_isAgainst_1 (fun h1 => ?_) (fun h1 => ?_)
  · skip
    refine tr_aload_n eX7_isAgainst_6 rfl ?_
    refine tr_iload_n eX7_isAgainst_7 rfl ?_
    refine tr_put eX7_isAgainst_8 fp_X7_83 rfl rfl ?_
    refine tr_aload_n eX7_isAgainst_11 rfl ?_
    refine tr_aload_n eX7_isAgainst_12 rfl ?_
    refine tr_getI eX7_isAgainst_13 fk_X7_134 rfl rfl ?_
    try simp (disch := decide) only [up_k, up_s, up_f]
    refine tr_put eX7_isAgainst_16 fp_X7_9 rfl rfl ?_
    refine tr_iconst eX7_isAgainst_19 (nI 1) ci_1 ?_
    refine tr_ret eX7_isAgainst_20 rfl (by first | rfl | exact nar_bi _) ?_
    exact ⟨congrArg some (bi_t h1), by rw [if_neg h1]⟩
  · skip
    refine tr_iconst eX7_isAgainst_4 (nI 0) ci_0 ?_
    refine tr_ret eX7_isAgainst_5 rfl (by first | rfl | exact nar_bi _) ?_
    exact ⟨congrArg some (bi_f (fun q => q h1)), by rw [if_pos h1]⟩

theorem k_X7_sets {σ : tSt} {v s a b : Int32} (hv : vp_in v 40) : CT mX7_sets [.ref 0, .int v, .int s, .int a, .int b] σ (PE none (s_set σ v s a b)) := by
  refine CT.of2 0 (by decide) rfl rfl ?_
  refine tr_aload_n eX7_sets_0 rfl ?_
  refine tr_getR eX7_sets_1 fk_X7_50 rfl rfl ?_
  refine tr_iload_n eX7_sets_4 rfl ?_
  refine tr_iconst eX7_sets_5 (nI 1) ci_1 ?_
  refine tr_iast eX7_sets_6 rfl (by first | with_reducible assumption | with_reducible exact in_slot (by with_reducible assumption) (by with_reducible assumption) | with_reducible exact in_row _ (by decide) (by with_reducible assumption) | with_reducible exact in_row0 (by with_reducible assumption) | with_reducible exact in_slot0 (by with_reducible assumption) | (simp (disch := decide) only [up_k, up_s, up_f] <;> with_reducible assumption)) ?_
  refine tr_aload_n eX7_sets_7 rfl ?_
  refine tr_getR eX7_sets_8 fk_X7_53 rfl rfl ?_
  refine tr_bipush eX7_sets_11 (nI 8) (by decide) ?_
  refine tr_iload_n eX7_sets_13 rfl ?_
  refine tr_imulC eX7_sets_14 ?_
  refine tr_iload_n eX7_sets_15 rfl ?_
  refine tr_iast eX7_sets_16 rfl (by first | with_reducible assumption | with_reducible exact in_slot (by with_reducible assumption) (by with_reducible assumption) | with_reducible exact in_row _ (by decide) (by with_reducible assumption) | with_reducible exact in_row0 (by with_reducible assumption) | with_reducible exact in_slot0 (by with_reducible assumption) | (simp (disch := decide) only [up_k, up_s, up_f] <;> with_reducible assumption)) ?_
  refine tr_aload_n eX7_sets_17 rfl ?_
  refine tr_getR eX7_sets_18 fk_X7_56 rfl rfl ?_
  refine tr_bipush eX7_sets_21 (nI 8) (by decide) ?_
  refine tr_iload_n eX7_sets_23 rfl ?_
  refine tr_imulC eX7_sets_24 ?_
  refine tr_iload_n eX7_sets_25 rfl ?_
  refine tr_iast eX7_sets_26 rfl (by first | with_reducible assumption | with_reducible exact in_slot (by with_reducible assumption) (by with_reducible assumption) | with_reducible exact in_row _ (by decide) (by with_reducible assumption) | with_reducible exact in_row0 (by with_reducible assumption) | with_reducible exact in_slot0 (by with_reducible assumption) | (simp (disch := decide) only [up_k, up_s, up_f] <;> with_reducible assumption)) ?_
  refine tr_aload_n eX7_sets_27 rfl ?_
  refine tr_getR eX7_sets_28 fk_X7_59 rfl rfl ?_
  refine tr_bipush eX7_sets_31 (nI 8) (by decide) ?_
  refine tr_iload_n eX7_sets_33 rfl ?_
  refine tr_imulC eX7_sets_34 ?_
  refine tr_iload eX7_sets_35 rfl ?_
  refine tr_iast eX7_sets_37 rfl (by first | with_reducible assumption | with_reducible exact in_slot (by with_reducible assumption) (by with_reducible assumption) | with_reducible exact in_row _ (by decide) (by with_reducible assumption) | with_reducible exact in_row0 (by with_reducible assumption) | with_reducible exact in_slot0 (by with_reducible assumption) | (simp (disch := decide) only [up_k, up_s, up_f] <;> with_reducible assumption)) ?_
  refine tr_vret eX7_sets_38 rfl ?_
  first | with_reducible exact ⟨rfl, rfl⟩ | (refine ⟨congrArg some ?_, rfl⟩; unfold bi; split <;> first | with_reducible rfl | (exfalso; simp_all; done) | (exfalso; simp only [Int32.lt_iff_toInt_lt, Int32.le_iff_toInt_le] at *; omega)) | exact ⟨rfl, rfl⟩

def sOK (σ : tSt) : Prop := ∀ u k : Nat, u < 40 → nI k < σ 12 (nI u) → k < 8 → σ 14 (nI u * nI 8 + nI k) < σ 15 (nI u * nI 8 + nI k)
def pOK (σ : tSt) (n : Nat) : Prop := ∀ p : Nat, p < n → ¬ σ 3 (nI p) = σ 4 (nI p)
def s_ne (v : Int32) : Int32 → Bool := fun u => decide (¬ u = v)
theorem lp_X7_isNeighbour_53 {σ : tSt} {w s a b : Int32} {n uu cc : Nat} (hab : a < b) (huu : uu < 40) (hc : σ 12 (nI uu) = nI cc) (hc8 : cc ≤ 8) (hs : sOK σ) (hn : σ 0 (nI 4) = nI n) (hb : n ≤ 40) (hp : pOK σ n) {Q : Option Int32 → tSt → Prop} {kk : Nat} (hk : kk < 8) {q : Int32} (hq : σ 13 (nI uu * nI 8 + nI kk) = q) :
    ∀ f i : Nat, i + f = n → (an (fun p => (decide (σ 3 p = s) && decide (σ 4 p = q) && (decide (σ 5 p < w) || decide (σ 6 p < s_wing σ (nI uu)))) || (decide (σ 3 p = q) && decide (σ 4 p = s) && (decide (σ 6 p < w) || decide (σ 5 p < s_wing σ (nI uu))))) f i = true → Q (some (nI 1)) σ) → (an (fun p => (decide (σ 3 p = s) && decide (σ 4 p = q) && (decide (σ 5 p < w) || decide (σ 6 p < s_wing σ (nI uu)))) || (decide (σ 3 p = q) && decide (σ 4 p = s) && (decide (σ 6 p < w) || decide (σ 5 p < s_wing σ (nI uu))))) f i = false → TT mX7_isNeighbour 217 [.ref 0, .int (nI uu), .int w, .int s, .int a, .int b, .int (nI kk), .null, .null, .null, .null, .null, .null] [] σ Q) → TT mX7_isNeighbour 53 [.ref 0, .int (nI uu), .int w, .int s, .int a, .int b, .int (nI kk), .int (nI uu * nI 8 + nI kk), .int (nI i), .null, .null, .null, .null] [] σ Q := by
  have hu : vp_in (nI uu) 40 := vp_in_nI huu (by decide)
  have hk8 : vp_in (nI kk) 8 := vp_in_nI hk (by decide)
  intro f
  induction f with
  | zero =>
    intro i hi kT kF
    refine tr_iload eX7_isNeighbour_53 rfl ?_
    refine tr_aload_n eX7_isNeighbour_55 rfl ?_
    refine tr_getI eX7_isNeighbour_56 fk_X7_103 rfl rfl ?_
    refine tr_icmp_ge eX7_isNeighbour_59 (fun h59 => ?_) (fun h59 => ?_)
    · skip
      exact TT.fg [7, 8] (kF rfl)
    · skip
      exact absurd (lt_of hn (by omega) (by omega) h59) (by omega)
  | succ f ih =>
    intro i hi kT kF
    refine tr_iload eX7_isNeighbour_53 rfl ?_
    refine tr_aload_n eX7_isNeighbour_55 rfl ?_
    refine tr_getI eX7_isNeighbour_56 fk_X7_103 rfl rfl ?_
    refine tr_icmp_ge eX7_isNeighbour_59 (fun h59 => ?_) (fun h59 => ?_)
    · skip
      exact absurd (ge_of hn (by omega) (by omega) h59) (by omega)
    · skip
      have g59 := lt_of hn (by omega) (by omega) h59
      have hpv : vp_in (nI i) 40 := vp_in_nI (by omega) (by decide)
      have hpd := hp i g59
      refine tr_aload_n eX7_isNeighbour_62 rfl ?_
      refine tr_getR eX7_isNeighbour_63 fk_X7_23 rfl rfl ?_
      refine tr_iload eX7_isNeighbour_66 rfl ?_
      refine tr_iald eX7_isNeighbour_68 rfl (by first | with_reducible assumption | with_reducible exact in_slot (by with_reducible assumption) (by with_reducible assumption)) ?_
      refine tr_iload_n eX7_isNeighbour_69 rfl ?_
      refine tr_icmp_ne eX7_isNeighbour_70 (fun h70 => ?_) (fun h70 => ?_)
      · skip
        refine tr_iconst eX7_isNeighbour_94 (nI 0) ci_0 ?_
        refine tr_istore eX7_isNeighbour_95 (by decide) rfl ?_
        refine tr_aload_n eX7_isNeighbour_97 rfl ?_
        refine tr_getR eX7_isNeighbour_98 fk_X7_26 rfl rfl ?_
        refine tr_iload eX7_isNeighbour_101 rfl ?_
        refine tr_iald eX7_isNeighbour_103 rfl (by first | with_reducible assumption | with_reducible exact in_slot (by with_reducible assumption) (by with_reducible assumption)) ?_
        refine tr_iload_n eX7_isNeighbour_104 rfl ?_
        refine tr_icmp_ne eX7_isNeighbour_105 (fun h105 => ?_) (fun h105 => ?_)
        · skip
          refine tr_iconst eX7_isNeighbour_129 (nI 0) ci_0 ?_
          refine tr_istore eX7_isNeighbour_130 (by decide) rfl ?_
          refine tr_iload eX7_isNeighbour_132 rfl ?_
          refine tr_if_ne eX7_isNeighbour_134 (fun h134 => absurd h134 (by decide)) (fun _ => ?_)
          refine tr_iload eX7_isNeighbour_137 rfl ?_
          refine tr_if_ne eX7_isNeighbour_139 (fun h139 => absurd h139 (by decide)) (fun _ => ?_)
          refine tr_goto eX7_isNeighbour_142 ?_
          refine tr_iinc eX7_isNeighbour_211 _ (by first | exact inc_n _ | rfl) rfl (by decide) rfl ?_
          refine tr_goto eX7_isNeighbour_214 ?_
          refine TT.fg [9, 10, 11, 12] ?_
          first | exact ih (i + 1) (by omega) (fun h => kT (by simp_all [an])) (fun h => kF (by simp_all [an])) | (exfalso; simp_all; done)
        · skip
          refine tr_aload_n eX7_isNeighbour_108 rfl ?_
          refine tr_getR eX7_isNeighbour_109 fk_X7_23 rfl rfl ?_
          refine tr_iload eX7_isNeighbour_112 rfl ?_
          refine tr_iald eX7_isNeighbour_114 rfl (by first | with_reducible assumption | with_reducible exact in_slot (by with_reducible assumption) (by with_reducible assumption)) ?_
          refine tr_aload_n eX7_isNeighbour_115 rfl ?_
          refine tr_getR eX7_isNeighbour_116 fk_X7_53 rfl rfl ?_
          refine tr_iload eX7_isNeighbour_119 rfl ?_
          refine tr_iald eX7_isNeighbour_121 rfl (by first | with_reducible assumption | with_reducible exact in_slot (by with_reducible assumption) (by with_reducible assumption)) ?_
          refine tr_icmp_ne eX7_isNeighbour_122 (fun h122 => ?_) (fun h122 => ?_)
          · skip
            rw [hq] at h122
            refine tr_iconst eX7_isNeighbour_129 (nI 0) ci_0 ?_
            refine tr_istore eX7_isNeighbour_130 (by decide) rfl ?_
            refine tr_iload eX7_isNeighbour_132 rfl ?_
            refine tr_if_ne eX7_isNeighbour_134 (fun h134 => absurd h134 (by decide)) (fun _ => ?_)
            refine tr_iload eX7_isNeighbour_137 rfl ?_
            refine tr_if_ne eX7_isNeighbour_139 (fun h139 => absurd h139 (by decide)) (fun _ => ?_)
            refine tr_goto eX7_isNeighbour_142 ?_
            refine tr_iinc eX7_isNeighbour_211 _ (by first | exact inc_n _ | rfl) rfl (by decide) rfl ?_
            refine tr_goto eX7_isNeighbour_214 ?_
            refine TT.fg [9, 10, 11, 12] ?_
            first | exact ih (i + 1) (by omega) (fun h => kT (by simp_all [an])) (fun h => kF (by simp_all [an])) | (exfalso; simp_all; done)
          · skip
            rw [hq] at h122
            refine tr_iconst eX7_isNeighbour_125 (nI 1) ci_1 ?_
            refine tr_goto eX7_isNeighbour_126 ?_
            refine tr_istore eX7_isNeighbour_130 (by decide) rfl ?_
            refine tr_iload eX7_isNeighbour_132 rfl ?_
            refine tr_if_ne eX7_isNeighbour_134 (fun h134 => absurd h134 (by decide)) (fun _ => ?_)
            refine tr_iload eX7_isNeighbour_137 rfl ?_
            refine tr_if_ne eX7_isNeighbour_139 (fun _ => ?_) (fun h139 => absurd h139 (by decide))
            refine tr_iload eX7_isNeighbour_145 rfl ?_
            refine tr_if_eq eX7_isNeighbour_147 (fun _ => ?_) (fun h147 => absurd h147 (by decide))
            refine tr_aload_n eX7_isNeighbour_160 rfl ?_
            refine tr_getR eX7_isNeighbour_161 fk_X7_32 rfl rfl ?_
            refine tr_iload eX7_isNeighbour_164 rfl ?_
            refine tr_iald eX7_isNeighbour_166 rfl (by first | with_reducible assumption | with_reducible exact in_slot (by with_reducible assumption) (by with_reducible assumption)) ?_
            refine tr_istore eX7_isNeighbour_167 (by decide) rfl ?_
            refine tr_iload eX7_isNeighbour_169 rfl ?_
            refine tr_if_eq eX7_isNeighbour_171 (fun _ => ?_) (fun h171 => absurd h171 (by decide))
            refine tr_aload_n eX7_isNeighbour_184 rfl ?_
            refine tr_getR eX7_isNeighbour_185 fk_X7_29 rfl rfl ?_
            refine tr_iload eX7_isNeighbour_188 rfl ?_
            refine tr_iald eX7_isNeighbour_190 rfl (by first | with_reducible assumption | with_reducible exact in_slot (by with_reducible assumption) (by with_reducible assumption)) ?_
            refine tr_istore eX7_isNeighbour_191 (by decide) rfl ?_
            refine tr_iload_n eX7_isNeighbour_193 rfl ?_
            refine tr_iload eX7_isNeighbour_194 rfl ?_
            refine tr_icmp_gt eX7_isNeighbour_196 (fun h196 => ?_) (fun h196 => ?_)
            · skip
              refine tr_iconst eX7_isNeighbour_209 (nI 1) ci_1 ?_
              refine tr_ret eX7_isNeighbour_210 rfl (by first | rfl | exact nar_bi _) ?_
              first | exact kT (by simp_all [an]) | (exfalso; simp_all; done)
            · skip
              refine tr_aload_n eX7_isNeighbour_199 rfl ?_
              refine tr_iload_n eX7_isNeighbour_200 rfl ?_
              refine tr_ce1 eX7_isNeighbour_201 zv_X7_wingOf zi_X7_wingOf lk_X7_149 ⟨rfl, by decide, by decide⟩ rfl rfl rfl (k_X7_wingOf (by first | with_reducible assumption | with_reducible exact in_slot (by with_reducible assumption) (by with_reducible assumption))) ?_
              refine tr_iload eX7_isNeighbour_204 rfl ?_
              refine tr_icmp_le eX7_isNeighbour_206 (fun h206 => ?_) (fun h206 => ?_)
              · skip
                refine tr_iinc eX7_isNeighbour_211 _ (by first | exact inc_n _ | rfl) rfl (by decide) rfl ?_
                refine tr_goto eX7_isNeighbour_214 ?_
                refine TT.fg [9, 10, 11, 12] ?_
                first | exact ih (i + 1) (by omega) (fun h => kT (by simp_all [an])) (fun h => kF (by simp_all [an])) | (exfalso; simp_all; done)
              · skip
                refine tr_iconst eX7_isNeighbour_209 (nI 1) ci_1 ?_
                refine tr_ret eX7_isNeighbour_210 rfl (by first | rfl | exact nar_bi _) ?_
                first | exact kT (by simp_all [an]) | (exfalso; simp_all; done)
      · skip
        refine tr_aload_n eX7_isNeighbour_73 rfl ?_
        refine tr_getR eX7_isNeighbour_74 fk_X7_26 rfl rfl ?_
        refine tr_iload eX7_isNeighbour_77 rfl ?_
        refine tr_iald eX7_isNeighbour_79 rfl (by first | with_reducible assumption | with_reducible exact in_slot (by with_reducible assumption) (by with_reducible assumption)) ?_
        refine tr_aload_n eX7_isNeighbour_80 rfl ?_
        refine tr_getR eX7_isNeighbour_81 fk_X7_53 rfl rfl ?_
        refine tr_iload eX7_isNeighbour_84 rfl ?_
        refine tr_iald eX7_isNeighbour_86 rfl (by first | with_reducible assumption | with_reducible exact in_slot (by with_reducible assumption) (by with_reducible assumption)) ?_
        refine tr_icmp_ne eX7_isNeighbour_87 (fun h87 => ?_) (fun h87 => ?_)
        · skip
          rw [hq] at h87
          refine tr_iconst eX7_isNeighbour_94 (nI 0) ci_0 ?_
          refine tr_istore eX7_isNeighbour_95 (by decide) rfl ?_
          refine tr_aload_n eX7_isNeighbour_97 rfl ?_
          refine tr_getR eX7_isNeighbour_98 fk_X7_26 rfl rfl ?_
          refine tr_iload eX7_isNeighbour_101 rfl ?_
          refine tr_iald eX7_isNeighbour_103 rfl (by first | with_reducible assumption | with_reducible exact in_slot (by with_reducible assumption) (by with_reducible assumption)) ?_
          refine tr_iload_n eX7_isNeighbour_104 rfl ?_
          refine tr_icmp_ne eX7_isNeighbour_105 (fun h105 => ?_) (fun h105 => ?_)
          · skip
            refine tr_iconst eX7_isNeighbour_129 (nI 0) ci_0 ?_
            refine tr_istore eX7_isNeighbour_130 (by decide) rfl ?_
            refine tr_iload eX7_isNeighbour_132 rfl ?_
            refine tr_if_ne eX7_isNeighbour_134 (fun h134 => absurd h134 (by decide)) (fun _ => ?_)
            refine tr_iload eX7_isNeighbour_137 rfl ?_
            refine tr_if_ne eX7_isNeighbour_139 (fun h139 => absurd h139 (by decide)) (fun _ => ?_)
            refine tr_goto eX7_isNeighbour_142 ?_
            refine tr_iinc eX7_isNeighbour_211 _ (by first | exact inc_n _ | rfl) rfl (by decide) rfl ?_
            refine tr_goto eX7_isNeighbour_214 ?_
            refine TT.fg [9, 10, 11, 12] ?_
            first | exact ih (i + 1) (by omega) (fun h => kT (by simp_all [an])) (fun h => kF (by simp_all [an])) | (exfalso; simp_all; done)
          · skip
            refine tr_aload_n eX7_isNeighbour_108 rfl ?_
            refine tr_getR eX7_isNeighbour_109 fk_X7_23 rfl rfl ?_
            refine tr_iload eX7_isNeighbour_112 rfl ?_
            refine tr_iald eX7_isNeighbour_114 rfl (by first | with_reducible assumption | with_reducible exact in_slot (by with_reducible assumption) (by with_reducible assumption)) ?_
            refine tr_aload_n eX7_isNeighbour_115 rfl ?_
            refine tr_getR eX7_isNeighbour_116 fk_X7_53 rfl rfl ?_
            refine tr_iload eX7_isNeighbour_119 rfl ?_
            refine tr_iald eX7_isNeighbour_121 rfl (by first | with_reducible assumption | with_reducible exact in_slot (by with_reducible assumption) (by with_reducible assumption)) ?_
            refine tr_icmp_ne eX7_isNeighbour_122 (fun h122 => ?_) (fun h122 => ?_)
            · skip
              rw [hq] at h122
              refine tr_iconst eX7_isNeighbour_129 (nI 0) ci_0 ?_
              refine tr_istore eX7_isNeighbour_130 (by decide) rfl ?_
              refine tr_iload eX7_isNeighbour_132 rfl ?_
              refine tr_if_ne eX7_isNeighbour_134 (fun h134 => absurd h134 (by decide)) (fun _ => ?_)
              refine tr_iload eX7_isNeighbour_137 rfl ?_
              refine tr_if_ne eX7_isNeighbour_139 (fun h139 => absurd h139 (by decide)) (fun _ => ?_)
              refine tr_goto eX7_isNeighbour_142 ?_
              refine tr_iinc eX7_isNeighbour_211 _ (by first | exact inc_n _ | rfl) rfl (by decide) rfl ?_
              refine tr_goto eX7_isNeighbour_214 ?_
              refine TT.fg [9, 10, 11, 12] ?_
              first | exact ih (i + 1) (by omega) (fun h => kT (by simp_all [an])) (fun h => kF (by simp_all [an])) | (exfalso; simp_all; done)
            · skip
              rw [hq] at h122
              refine tr_iconst eX7_isNeighbour_125 (nI 1) ci_1 ?_
              refine tr_goto eX7_isNeighbour_126 ?_
              refine tr_istore eX7_isNeighbour_130 (by decide) rfl ?_
              refine tr_iload eX7_isNeighbour_132 rfl ?_
              refine tr_if_ne eX7_isNeighbour_134 (fun h134 => absurd h134 (by decide)) (fun _ => ?_)
              refine tr_iload eX7_isNeighbour_137 rfl ?_
              refine tr_if_ne eX7_isNeighbour_139 (fun _ => ?_) (fun h139 => absurd h139 (by decide))
              refine tr_iload eX7_isNeighbour_145 rfl ?_
              refine tr_if_eq eX7_isNeighbour_147 (fun _ => ?_) (fun h147 => absurd h147 (by decide))
              refine tr_aload_n eX7_isNeighbour_160 rfl ?_
              refine tr_getR eX7_isNeighbour_161 fk_X7_32 rfl rfl ?_
              refine tr_iload eX7_isNeighbour_164 rfl ?_
              refine tr_iald eX7_isNeighbour_166 rfl (by first | with_reducible assumption | with_reducible exact in_slot (by with_reducible assumption) (by with_reducible assumption)) ?_
              refine tr_istore eX7_isNeighbour_167 (by decide) rfl ?_
              refine tr_iload eX7_isNeighbour_169 rfl ?_
              refine tr_if_eq eX7_isNeighbour_171 (fun _ => ?_) (fun h171 => absurd h171 (by decide))
              refine tr_aload_n eX7_isNeighbour_184 rfl ?_
              refine tr_getR eX7_isNeighbour_185 fk_X7_29 rfl rfl ?_
              refine tr_iload eX7_isNeighbour_188 rfl ?_
              refine tr_iald eX7_isNeighbour_190 rfl (by first | with_reducible assumption | with_reducible exact in_slot (by with_reducible assumption) (by with_reducible assumption)) ?_
              refine tr_istore eX7_isNeighbour_191 (by decide) rfl ?_
              refine tr_iload_n eX7_isNeighbour_193 rfl ?_
              refine tr_iload eX7_isNeighbour_194 rfl ?_
              refine tr_icmp_gt eX7_isNeighbour_196 (fun h196 => ?_) (fun h196 => ?_)
              · skip
                refine tr_iconst eX7_isNeighbour_209 (nI 1) ci_1 ?_
                refine tr_ret eX7_isNeighbour_210 rfl (by first | rfl | exact nar_bi _) ?_
                first | exact kT (by simp_all [an]) | (exfalso; simp_all; done)
              · skip
                refine tr_aload_n eX7_isNeighbour_199 rfl ?_
                refine tr_iload_n eX7_isNeighbour_200 rfl ?_
                refine tr_ce1 eX7_isNeighbour_201 zv_X7_wingOf zi_X7_wingOf lk_X7_149 ⟨rfl, by decide, by decide⟩ rfl rfl rfl (k_X7_wingOf (by first | with_reducible assumption | with_reducible exact in_slot (by with_reducible assumption) (by with_reducible assumption))) ?_
                refine tr_iload eX7_isNeighbour_204 rfl ?_
                refine tr_icmp_le eX7_isNeighbour_206 (fun h206 => ?_) (fun h206 => ?_)
                · skip
                  refine tr_iinc eX7_isNeighbour_211 _ (by first | exact inc_n _ | rfl) rfl (by decide) rfl ?_
                  refine tr_goto eX7_isNeighbour_214 ?_
                  refine TT.fg [9, 10, 11, 12] ?_
                  first | exact ih (i + 1) (by omega) (fun h => kT (by simp_all [an])) (fun h => kF (by simp_all [an])) | (exfalso; simp_all; done)
                · skip
                  refine tr_iconst eX7_isNeighbour_209 (nI 1) ci_1 ?_
                  refine tr_ret eX7_isNeighbour_210 rfl (by first | rfl | exact nar_bi _) ?_
                  first | exact kT (by simp_all [an]) | (exfalso; simp_all; done)
        · skip
          rw [hq] at h87
          refine tr_iconst eX7_isNeighbour_90 (nI 1) ci_1 ?_
          refine tr_goto eX7_isNeighbour_91 ?_
          refine tr_istore eX7_isNeighbour_95 (by decide) rfl ?_
          refine tr_aload_n eX7_isNeighbour_97 rfl ?_
          refine tr_getR eX7_isNeighbour_98 fk_X7_26 rfl rfl ?_
          refine tr_iload eX7_isNeighbour_101 rfl ?_
          refine tr_iald eX7_isNeighbour_103 rfl (by first | with_reducible assumption | with_reducible exact in_slot (by with_reducible assumption) (by with_reducible assumption)) ?_
          refine tr_iload_n eX7_isNeighbour_104 rfl ?_
          refine tr_icmp_ne eX7_isNeighbour_105 (fun h105 => ?_) (fun h105 => ?_)
          · skip
            refine tr_iconst eX7_isNeighbour_129 (nI 0) ci_0 ?_
            refine tr_istore eX7_isNeighbour_130 (by decide) rfl ?_
            refine tr_iload eX7_isNeighbour_132 rfl ?_
            refine tr_if_ne eX7_isNeighbour_134 (fun _ => ?_) (fun h134 => absurd h134 (by decide))
            refine tr_iload eX7_isNeighbour_145 rfl ?_
            refine tr_if_eq eX7_isNeighbour_147 (fun h147 => absurd h147 (by decide)) (fun _ => ?_)
            refine tr_aload_n eX7_isNeighbour_150 rfl ?_
            refine tr_getR eX7_isNeighbour_151 fk_X7_29 rfl rfl ?_
            refine tr_iload eX7_isNeighbour_154 rfl ?_
            refine tr_iald eX7_isNeighbour_156 rfl (by first | with_reducible assumption | with_reducible exact in_slot (by with_reducible assumption) (by with_reducible assumption)) ?_
            refine tr_goto eX7_isNeighbour_157 ?_
            refine tr_istore eX7_isNeighbour_167 (by decide) rfl ?_
            refine tr_iload eX7_isNeighbour_169 rfl ?_
            refine tr_if_eq eX7_isNeighbour_171 (fun h171 => absurd h171 (by decide)) (fun _ => ?_)
            refine tr_aload_n eX7_isNeighbour_174 rfl ?_
            refine tr_getR eX7_isNeighbour_175 fk_X7_32 rfl rfl ?_
            refine tr_iload eX7_isNeighbour_178 rfl ?_
            refine tr_iald eX7_isNeighbour_180 rfl (by first | with_reducible assumption | with_reducible exact in_slot (by with_reducible assumption) (by with_reducible assumption)) ?_
            refine tr_goto eX7_isNeighbour_181 ?_
            refine tr_istore eX7_isNeighbour_191 (by decide) rfl ?_
            refine tr_iload_n eX7_isNeighbour_193 rfl ?_
            refine tr_iload eX7_isNeighbour_194 rfl ?_
            refine tr_icmp_gt eX7_isNeighbour_196 (fun h196 => ?_) (fun h196 => ?_)
            · skip
              refine tr_iconst eX7_isNeighbour_209 (nI 1) ci_1 ?_
              refine tr_ret eX7_isNeighbour_210 rfl (by first | rfl | exact nar_bi _) ?_
              first | exact kT (by simp_all [an]) | (exfalso; simp_all; done)
            · skip
              refine tr_aload_n eX7_isNeighbour_199 rfl ?_
              refine tr_iload_n eX7_isNeighbour_200 rfl ?_
              refine tr_ce1 eX7_isNeighbour_201 zv_X7_wingOf zi_X7_wingOf lk_X7_149 ⟨rfl, by decide, by decide⟩ rfl rfl rfl (k_X7_wingOf (by first | with_reducible assumption | with_reducible exact in_slot (by with_reducible assumption) (by with_reducible assumption))) ?_
              refine tr_iload eX7_isNeighbour_204 rfl ?_
              refine tr_icmp_le eX7_isNeighbour_206 (fun h206 => ?_) (fun h206 => ?_)
              · skip
                refine tr_iinc eX7_isNeighbour_211 _ (by first | exact inc_n _ | rfl) rfl (by decide) rfl ?_
                refine tr_goto eX7_isNeighbour_214 ?_
                refine TT.fg [9, 10, 11, 12] ?_
                first | exact ih (i + 1) (by omega) (fun h => kT (by simp_all [an])) (fun h => kF (by simp_all [an])) | (exfalso; simp_all; done)
              · skip
                refine tr_iconst eX7_isNeighbour_209 (nI 1) ci_1 ?_
                refine tr_ret eX7_isNeighbour_210 rfl (by first | rfl | exact nar_bi _) ?_
                first | exact kT (by simp_all [an]) | (exfalso; simp_all; done)
          · skip
            refine tr_aload_n eX7_isNeighbour_108 rfl ?_
            refine tr_getR eX7_isNeighbour_109 fk_X7_23 rfl rfl ?_
            refine tr_iload eX7_isNeighbour_112 rfl ?_
            refine tr_iald eX7_isNeighbour_114 rfl (by first | with_reducible assumption | with_reducible exact in_slot (by with_reducible assumption) (by with_reducible assumption)) ?_
            refine tr_aload_n eX7_isNeighbour_115 rfl ?_
            refine tr_getR eX7_isNeighbour_116 fk_X7_53 rfl rfl ?_
            refine tr_iload eX7_isNeighbour_119 rfl ?_
            refine tr_iald eX7_isNeighbour_121 rfl (by first | with_reducible assumption | with_reducible exact in_slot (by with_reducible assumption) (by with_reducible assumption)) ?_
            refine tr_icmp_ne eX7_isNeighbour_122 (fun h122 => ?_) (fun h122 => ?_)
            · skip
              rw [hq] at h122
              refine tr_iconst eX7_isNeighbour_129 (nI 0) ci_0 ?_
              refine tr_istore eX7_isNeighbour_130 (by decide) rfl ?_
              refine tr_iload eX7_isNeighbour_132 rfl ?_
              refine tr_if_ne eX7_isNeighbour_134 (fun _ => ?_) (fun h134 => absurd h134 (by decide))
              refine tr_iload eX7_isNeighbour_145 rfl ?_
              refine tr_if_eq eX7_isNeighbour_147 (fun h147 => absurd h147 (by decide)) (fun _ => ?_)
              refine tr_aload_n eX7_isNeighbour_150 rfl ?_
              refine tr_getR eX7_isNeighbour_151 fk_X7_29 rfl rfl ?_
              refine tr_iload eX7_isNeighbour_154 rfl ?_
              refine tr_iald eX7_isNeighbour_156 rfl (by first | with_reducible assumption | with_reducible exact in_slot (by with_reducible assumption) (by with_reducible assumption)) ?_
              refine tr_goto eX7_isNeighbour_157 ?_
              refine tr_istore eX7_isNeighbour_167 (by decide) rfl ?_
              refine tr_iload eX7_isNeighbour_169 rfl ?_
              refine tr_if_eq eX7_isNeighbour_171 (fun h171 => absurd h171 (by decide)) (fun _ => ?_)
              refine tr_aload_n eX7_isNeighbour_174 rfl ?_
              refine tr_getR eX7_isNeighbour_175 fk_X7_32 rfl rfl ?_
              refine tr_iload eX7_isNeighbour_178 rfl ?_
              refine tr_iald eX7_isNeighbour_180 rfl (by first | with_reducible assumption | with_reducible exact in_slot (by with_reducible assumption) (by with_reducible assumption)) ?_
              refine tr_goto eX7_isNeighbour_181 ?_
              refine tr_istore eX7_isNeighbour_191 (by decide) rfl ?_
              refine tr_iload_n eX7_isNeighbour_193 rfl ?_
              refine tr_iload eX7_isNeighbour_194 rfl ?_
              refine tr_icmp_gt eX7_isNeighbour_196 (fun h196 => ?_) (fun h196 => ?_)
              · skip
                refine tr_iconst eX7_isNeighbour_209 (nI 1) ci_1 ?_
                refine tr_ret eX7_isNeighbour_210 rfl (by first | rfl | exact nar_bi _) ?_
                first | exact kT (by simp_all [an]) | (exfalso; simp_all; done)
              · skip
                refine tr_aload_n eX7_isNeighbour_199 rfl ?_
                refine tr_iload_n eX7_isNeighbour_200 rfl ?_
                refine tr_ce1 eX7_isNeighbour_201 zv_X7_wingOf zi_X7_wingOf lk_X7_149 ⟨rfl, by decide, by decide⟩ rfl rfl rfl (k_X7_wingOf (by first | with_reducible assumption | with_reducible exact in_slot (by with_reducible assumption) (by with_reducible assumption))) ?_
                refine tr_iload eX7_isNeighbour_204 rfl ?_
                refine tr_icmp_le eX7_isNeighbour_206 (fun h206 => ?_) (fun h206 => ?_)
                · skip
                  refine tr_iinc eX7_isNeighbour_211 _ (by first | exact inc_n _ | rfl) rfl (by decide) rfl ?_
                  refine tr_goto eX7_isNeighbour_214 ?_
                  refine TT.fg [9, 10, 11, 12] ?_
                  first | exact ih (i + 1) (by omega) (fun h => kT (by simp_all [an])) (fun h => kF (by simp_all [an])) | (exfalso; simp_all; done)
                · skip
                  refine tr_iconst eX7_isNeighbour_209 (nI 1) ci_1 ?_
                  refine tr_ret eX7_isNeighbour_210 rfl (by first | rfl | exact nar_bi _) ?_
                  first | exact kT (by simp_all [an]) | (exfalso; simp_all; done)
            · skip
              rw [hq] at h122
              refine tr_iconst eX7_isNeighbour_125 (nI 1) ci_1 ?_
              refine tr_goto eX7_isNeighbour_126 ?_
              refine tr_istore eX7_isNeighbour_130 (by decide) rfl ?_
              refine tr_iload eX7_isNeighbour_132 rfl ?_
              refine tr_if_ne eX7_isNeighbour_134 (fun _ => ?_) (fun h134 => absurd h134 (by decide))
              refine tr_iload eX7_isNeighbour_145 rfl ?_
              refine tr_if_eq eX7_isNeighbour_147 (fun h147 => absurd h147 (by decide)) (fun _ => ?_)
              refine tr_aload_n eX7_isNeighbour_150 rfl ?_
              refine tr_getR eX7_isNeighbour_151 fk_X7_29 rfl rfl ?_
              refine tr_iload eX7_isNeighbour_154 rfl ?_
              refine tr_iald eX7_isNeighbour_156 rfl (by first | with_reducible assumption | with_reducible exact in_slot (by with_reducible assumption) (by with_reducible assumption)) ?_
              refine tr_goto eX7_isNeighbour_157 ?_
              refine tr_istore eX7_isNeighbour_167 (by decide) rfl ?_
              refine tr_iload eX7_isNeighbour_169 rfl ?_
              refine tr_if_eq eX7_isNeighbour_171 (fun h171 => absurd h171 (by decide)) (fun _ => ?_)
              refine tr_aload_n eX7_isNeighbour_174 rfl ?_
              refine tr_getR eX7_isNeighbour_175 fk_X7_32 rfl rfl ?_
              refine tr_iload eX7_isNeighbour_178 rfl ?_
              refine tr_iald eX7_isNeighbour_180 rfl (by first | with_reducible assumption | with_reducible exact in_slot (by with_reducible assumption) (by with_reducible assumption)) ?_
              refine tr_goto eX7_isNeighbour_181 ?_
              refine tr_istore eX7_isNeighbour_191 (by decide) rfl ?_
              refine tr_iload_n eX7_isNeighbour_193 rfl ?_
              refine tr_iload eX7_isNeighbour_194 rfl ?_
              refine tr_icmp_gt eX7_isNeighbour_196 (fun h196 => ?_) (fun h196 => ?_)
              · skip
                refine tr_iconst eX7_isNeighbour_209 (nI 1) ci_1 ?_
                refine tr_ret eX7_isNeighbour_210 rfl (by first | rfl | exact nar_bi _) ?_
                first | exact kT (by simp_all [an]) | (exfalso; simp_all; done)
              · skip
                refine tr_aload_n eX7_isNeighbour_199 rfl ?_
                refine tr_iload_n eX7_isNeighbour_200 rfl ?_
                refine tr_ce1 eX7_isNeighbour_201 zv_X7_wingOf zi_X7_wingOf lk_X7_149 ⟨rfl, by decide, by decide⟩ rfl rfl rfl (k_X7_wingOf (by first | with_reducible assumption | with_reducible exact in_slot (by with_reducible assumption) (by with_reducible assumption))) ?_
                refine tr_iload eX7_isNeighbour_204 rfl ?_
                refine tr_icmp_le eX7_isNeighbour_206 (fun h206 => ?_) (fun h206 => ?_)
                · skip
                  refine tr_iinc eX7_isNeighbour_211 _ (by first | exact inc_n _ | rfl) rfl (by decide) rfl ?_
                  refine tr_goto eX7_isNeighbour_214 ?_
                  refine TT.fg [9, 10, 11, 12] ?_
                  first | exact ih (i + 1) (by omega) (fun h => kT (by simp_all [an])) (fun h => kF (by simp_all [an])) | (exfalso; simp_all; done)
                · skip
                  refine tr_iconst eX7_isNeighbour_209 (nI 1) ci_1 ?_
                  refine tr_ret eX7_isNeighbour_210 rfl (by first | rfl | exact nar_bi _) ?_
                  first | exact kT (by simp_all [an]) | (exfalso; simp_all; done)
theorem lp_X7_isNeighbour_3 {σ : tSt} {w s a b : Int32} {n uu cc : Nat} (hab : a < b) (huu : uu < 40) (hc : σ 12 (nI uu) = nI cc) (hc8 : cc ≤ 8) (hs : sOK σ) (hn : σ 0 (nI 4) = nI n) (hb : n ≤ 40) (hp : pOK σ n) : ∀ f i : Nat, i + f = cc → TT mX7_isNeighbour 3 [.ref 0, .int (nI uu), .int w, .int s, .int a, .int b, .int (nI i), .null, .null, .null, .null, .null, .null] [] σ (PE (some (bi (an (fun k => s_hc a b (σ 14 (nI uu * nI 8 + k)) (σ 15 (nI uu * nI 8 + k)) && s_near σ n s w (σ 13 (nI uu * nI 8 + k)) (s_wing σ (nI uu))) f i = true))) σ) := by
  have hu : vp_in (nI uu) 40 := vp_in_nI huu (by decide)
  intro f
  induction f with
  | zero =>
    intro i hi
    refine tr_iload eX7_isNeighbour_3 rfl ?_
    refine tr_aload_n eX7_isNeighbour_5 rfl ?_
    refine tr_getR eX7_isNeighbour_6 fk_X7_50 rfl rfl ?_
    refine tr_iload_n eX7_isNeighbour_9 rfl ?_
    refine tr_iald eX7_isNeighbour_10 rfl (by first | with_reducible assumption | with_reducible exact in_slot (by with_reducible assumption) (by with_reducible assumption)) ?_
    refine tr_icmp_ge eX7_isNeighbour_11 (fun h11 => ?_) (fun h11 => ?_)
    · skip
      refine tr_iconst eX7_isNeighbour_223 (nI 0) ci_0 ?_
      refine tr_ret eX7_isNeighbour_224 rfl (by first | rfl | exact nar_bi _) ?_
      exact ⟨congrArg some (bi_f (by simp [an])), rfl⟩
    · skip
      exact absurd (lt_of hc (by omega) (by omega) h11) (by omega)
  | succ f ih =>
    intro i hi
    refine tr_iload eX7_isNeighbour_3 rfl ?_
    refine tr_aload_n eX7_isNeighbour_5 rfl ?_
    refine tr_getR eX7_isNeighbour_6 fk_X7_50 rfl rfl ?_
    refine tr_iload_n eX7_isNeighbour_9 rfl ?_
    refine tr_iald eX7_isNeighbour_10 rfl (by first | with_reducible assumption | with_reducible exact in_slot (by with_reducible assumption) (by with_reducible assumption)) ?_
    refine tr_icmp_ge eX7_isNeighbour_11 (fun h11 => ?_) (fun h11 => ?_)
    · skip
      exact absurd (ge_of hc (by omega) (by omega) h11) (by omega)
    · skip
      have g11 := lt_of hc (by omega) (by omega) h11
      have hk8 : i < 8 := by omega
      have hk : vp_in (nI i) 8 := vp_in_nI (by omega) (by decide)
      have hst := hs uu i huu (by rw [hc]; exact (nI_ltI (by omega) (by omega)).mpr g11) hk8
      refine tr_bipush eX7_isNeighbour_14 (nI 8) (by decide) ?_
      refine tr_iload_n eX7_isNeighbour_16 rfl ?_
      refine tr_imulC eX7_isNeighbour_17 ?_
      refine tr_iload eX7_isNeighbour_18 rfl ?_
      refine tr_iadd eX7_isNeighbour_20 ?_
      refine tr_istore eX7_isNeighbour_21 (by decide) rfl ?_
      refine tr_iload eX7_isNeighbour_23 rfl ?_
      refine tr_iload eX7_isNeighbour_25 rfl ?_
      refine tr_aload_n eX7_isNeighbour_27 rfl ?_
      refine tr_getR eX7_isNeighbour_28 fk_X7_56 rfl rfl ?_
      refine tr_iload eX7_isNeighbour_31 rfl ?_
      refine tr_iald eX7_isNeighbour_33 rfl (by first | with_reducible assumption | with_reducible exact in_slot (by with_reducible assumption) (by with_reducible assumption)) ?_
      refine tr_aload_n eX7_isNeighbour_34 rfl ?_
      refine tr_getR eX7_isNeighbour_35 fk_X7_59 rfl rfl ?_
      refine tr_iload eX7_isNeighbour_38 rfl ?_
      refine tr_iald eX7_isNeighbour_40 rfl (by first | with_reducible assumption | with_reducible exact in_slot (by with_reducible assumption) (by with_reducible assumption)) ?_
      refine tr_se4 eX7_isNeighbour_41 zv_X7_haveCommon zs_X7_haveCommon lk_X7_137 ⟨rfl, by decide, by decide⟩ rfl (k_X7_haveCommon (by first | with_reducible assumption | with_reducible exact in_slot (by with_reducible assumption) (by with_reducible assumption)) (by first | with_reducible assumption | with_reducible exact in_slot (by with_reducible assumption) (by with_reducible assumption))) ?_
      refine tr_if_ne eX7_isNeighbour_44 (fun h44 => ?_) (fun h44 => ?_)
      · skip
        try first | replace h44 := bi_0 h44 | replace h44 := bi_n h44
        refine tr_iconst eX7_isNeighbour_50 (nI 0) ci_0 ?_
        refine tr_istore eX7_isNeighbour_51 (by decide) rfl ?_
        refine lp_X7_isNeighbour_53 hab huu hc hc8 hs hn hb hp hk8 rfl n 0 (by omega) (fun h => ?_) (fun h => ?_)
        · exact ⟨congrArg some (bi_t (an_t (by simp only [s_near]; simp_all))), rfl⟩
        · skip
          refine tr_iinc eX7_isNeighbour_217 _ (by first | exact inc_n _ | rfl) rfl (by decide) rfl ?_
          refine tr_goto eX7_isNeighbour_220 ?_
          refine lpA (by simp only [s_near]; simp_all) (ih (i + 1) (by omega))
      · skip
        try first | replace h44 := bi_0 h44 | replace h44 := bi_n h44
        refine tr_goto eX7_isNeighbour_47 ?_
        refine tr_iinc eX7_isNeighbour_217 _ (by first | exact inc_n _ | rfl) rfl (by decide) rfl ?_
        refine tr_goto eX7_isNeighbour_220 ?_
        refine TT.fg [7] ?_
        refine lpA (by simp_all) (ih (i + 1) (by omega))
theorem k_X7_isNeighbour {σ : tSt} {w s a b : Int32} {n uu cc : Nat} (hab : a < b) (huu : uu < 40) (hc : σ 12 (nI uu) = nI cc) (hc8 : cc ≤ 8) (hs : sOK σ) (hn : σ 0 (nI 4) = nI n) (hb : n ≤ 40) (hp : pOK σ n) : CT mX7_isNeighbour [.ref 0, .int (nI uu), .int w, .int s, .int a, .int b] σ (PE (some (bi (s_nbr σ n w (nI uu) s a b = true))) σ) := by
  refine CT.of2 7 (by decide) rfl rfl ?_
  refine tr_iconst eX7_isNeighbour_0 (nI 0) ci_0 ?_
  refine tr_istore eX7_isNeighbour_1 (by decide) rfl ?_
  rw [s_nbr, tn_of hc (by omega)]
  exact lp_X7_isNeighbour_3 hab huu hc hc8 hs hn hb hp cc 0 (by omega)

theorem saF {σ : tSt} {v k s a b : Int32} (h : ¬ (σ 13 (v * nI 8 + k) = s ∧ a < σ 15 (v * nI 8 + k) ∧ σ 14 (v * nI 8 + k) < b)) : s_sa σ v k s a b = false := by
  cases hq : s_sa σ v k s a b with
  | false => rfl
  | true =>
    simp only [s_sa, Bool.and_eq_true, decide_eq_true_eq] at hq
    exact absurd ⟨hq.1.1, hq.2, hq.1.2⟩ h
theorem lp_X7_isThird_15 {σ : tSt} {u v s a b : Int32} {nV : Nat} (hab : a < b) (hV : σ 0 (nI 6) = nI nV) (hV40 : nV ≤ 40) (hcc : cOK σ) (hs : sOK σ) {Q : Option Int32 → tSt → Prop} {xx cc : Nat} (hxx : xx < 40) (hc : σ 12 (nI xx) = nI cc) (hc8 : cc ≤ 8) (hxu : ¬ nI xx = u) (hxv : ¬ nI xx = v) :
    ∀ f j : Nat, j + f = cc → (an (fun j => s_sa σ (nI xx) j s a b) f j = true → Q (some (nI 1)) σ) → (an (fun j => s_sa σ (nI xx) j s a b) f j = false → TT mX7_isThird 100 [.ref 0, .int u, .int v, .int s, .int a, .int b, .int (nI xx), .null] [] σ Q) → TT mX7_isThird 15 [.ref 0, .int u, .int v, .int s, .int a, .int b, .int (nI xx), .int (nI j)] [] σ Q := by
  have hx : vp_in (nI xx) 40 := vp_in_nI hxx (by decide)
  intro f
  induction f with
  | zero =>
    intro j hj kT kF
    refine tr_iload eX7_isThird_15 rfl ?_
    refine tr_aload_n eX7_isThird_17 rfl ?_
    refine tr_getR eX7_isThird_18 fk_X7_50 rfl rfl ?_
    refine tr_iload eX7_isThird_21 rfl ?_
    refine tr_iald eX7_isThird_23 rfl (by first | with_reducible assumption | with_reducible exact in_slot (by with_reducible assumption) (by with_reducible assumption)) ?_
    refine tr_icmp_ge eX7_isThird_24 (fun h24 => ?_) (fun h24 => ?_)
    · skip
      exact TT.fg [7] (kF rfl)
    · skip
      exact absurd (lt_of hc (by omega) (by omega) h24) (by omega)
  | succ f ih =>
    intro j hj kT kF
    refine tr_iload eX7_isThird_15 rfl ?_
    refine tr_aload_n eX7_isThird_17 rfl ?_
    refine tr_getR eX7_isThird_18 fk_X7_50 rfl rfl ?_
    refine tr_iload eX7_isThird_21 rfl ?_
    refine tr_iald eX7_isThird_23 rfl (by first | with_reducible assumption | with_reducible exact in_slot (by with_reducible assumption) (by with_reducible assumption)) ?_
    refine tr_icmp_ge eX7_isThird_24 (fun h24 => ?_) (fun h24 => ?_)
    · skip
      exact absurd (ge_of hc (by omega) (by omega) h24) (by omega)
    · skip
      have g24 := lt_of hc (by omega) (by omega) h24
      have hk : vp_in (nI j) 8 := vp_in_nI (by omega) (by decide)
      have hst := hs xx j hxx (by rw [hc]; exact (nI_ltI (by omega) (by omega)).mpr g24) (by omega)
      refine tr_iload eX7_isThird_27 rfl ?_
      refine tr_iload_n eX7_isThird_29 rfl ?_
      refine tr_icmp_eq eX7_isThird_30 (fun h30 => ?_) (fun h30 => ?_)
      · skip
        exact absurd h30 hxu
      · skip
        refine tr_iload eX7_isThird_33 rfl ?_
        refine tr_iload_n eX7_isThird_35 rfl ?_
        refine tr_icmp_eq eX7_isThird_36 (fun h36 => ?_) (fun h36 => ?_)
        · skip
          exact absurd h36 hxv
        · skip
          refine tr_aload_n eX7_isThird_39 rfl ?_
          refine tr_getR eX7_isThird_40 fk_X7_53 rfl rfl ?_
          refine tr_bipush eX7_isThird_43 (nI 8) (by decide) ?_
          refine tr_iload eX7_isThird_45 rfl ?_
          refine tr_imulC eX7_isThird_47 ?_
          refine tr_iload eX7_isThird_48 rfl ?_
          refine tr_iadd eX7_isThird_50 ?_
          refine tr_iald eX7_isThird_51 rfl (by first | with_reducible assumption | with_reducible exact in_slot (by with_reducible assumption) (by with_reducible assumption)) ?_
          refine tr_iload_n eX7_isThird_52 rfl ?_
          refine tr_icmp_ne eX7_isThird_53 (fun h53 => ?_) (fun h53 => ?_)
          · skip
            refine tr_iinc eX7_isThird_94 _ (by first | exact inc_n _ | rfl) rfl (by decide) rfl ?_
            refine tr_goto eX7_isThird_97 ?_
            exact ih (j + 1) (by omega) (fun h => kT (by simp only [an, Bool.or_eq_true]; exact Or.inr h)) (fun h => kF (by simp only [an, Bool.or_eq_false_iff]; exact ⟨saF (by simp_all), h⟩))
          · skip
            refine tr_iload eX7_isThird_56 rfl ?_
            refine tr_iload eX7_isThird_58 rfl ?_
            refine tr_aload_n eX7_isThird_60 rfl ?_
            refine tr_getR eX7_isThird_61 fk_X7_56 rfl rfl ?_
            refine tr_bipush eX7_isThird_64 (nI 8) (by decide) ?_
            refine tr_iload eX7_isThird_66 rfl ?_
            refine tr_imulC eX7_isThird_68 ?_
            refine tr_iload eX7_isThird_69 rfl ?_
            refine tr_iadd eX7_isThird_71 ?_
            refine tr_iald eX7_isThird_72 rfl (by first | with_reducible assumption | with_reducible exact in_slot (by with_reducible assumption) (by with_reducible assumption)) ?_
            refine tr_aload_n eX7_isThird_73 rfl ?_
            refine tr_getR eX7_isThird_74 fk_X7_59 rfl rfl ?_
            refine tr_bipush eX7_isThird_77 (nI 8) (by decide) ?_
            refine tr_iload eX7_isThird_79 rfl ?_
            refine tr_imulC eX7_isThird_81 ?_
            refine tr_iload eX7_isThird_82 rfl ?_
            refine tr_iadd eX7_isThird_84 ?_
            refine tr_iald eX7_isThird_85 rfl (by first | with_reducible assumption | with_reducible exact in_slot (by with_reducible assumption) (by with_reducible assumption)) ?_
            refine tr_se4 eX7_isThird_86 zv_X7_haveCommon zs_X7_haveCommon lk_X7_137 ⟨rfl, by decide, by decide⟩ rfl (k_X7_haveCommon (by first | with_reducible assumption | with_reducible exact in_slot (by with_reducible assumption) (by with_reducible assumption)) (by first | with_reducible assumption | with_reducible exact in_slot (by with_reducible assumption) (by with_reducible assumption))) ?_
            refine tr_if_eq eX7_isThird_89 (fun h89 => ?_) (fun h89 => ?_)
            · skip
              try first | replace h89 := bi_0 h89 | replace h89 := bi_n h89
              simp only [s_hc, Bool.and_eq_true, decide_eq_true_eq] at h89
              refine tr_iinc eX7_isThird_94 _ (by first | exact inc_n _ | rfl) rfl (by decide) rfl ?_
              refine tr_goto eX7_isThird_97 ?_
              exact ih (j + 1) (by omega) (fun h => kT (by simp only [an, Bool.or_eq_true]; exact Or.inr h)) (fun h => kF (by simp only [an, Bool.or_eq_false_iff]; exact ⟨saF (by simp_all), h⟩))
            · skip
              try first | replace h89 := bi_0 h89 | replace h89 := bi_n h89
              simp only [s_hc, Bool.and_eq_true, decide_eq_true_eq] at h89
              refine tr_iconst eX7_isThird_92 (nI 1) ci_1 ?_
              refine tr_ret eX7_isThird_93 rfl (by first | rfl | exact nar_bi _) ?_
              exact kT (by simp_all [an, s_sa])
theorem lp_X7_isThird_3 {σ : tSt} {u v s a b : Int32} {nV : Nat} (hab : a < b) (hV : σ 0 (nI 6) = nI nV) (hV40 : nV ≤ 40) (hcc : cOK σ) (hs : sOK σ) : ∀ f i : Nat, i + f = nV → TT mX7_isThird 3 [.ref 0, .int u, .int v, .int s, .int a, .int b, .int (nI i), .null] [] σ (PE (some (bi (an (fun x => decide (¬ x = u) && s_ne v x && s_there σ x s a b) f i = true))) σ) := by
  intro f
  induction f with
  | zero =>
    intro i hi
    refine tr_iload eX7_isThird_3 rfl ?_
    refine tr_aload_n eX7_isThird_5 rfl ?_
    refine tr_getI eX7_isThird_6 fk_X7_89 rfl rfl ?_
    refine tr_icmp_ge eX7_isThird_9 (fun h9 => ?_) (fun h9 => ?_)
    · skip
      refine tr_iconst eX7_isThird_106 (nI 0) ci_0 ?_
      refine tr_ret eX7_isThird_107 rfl (by first | rfl | exact nar_bi _) ?_
      exact ⟨congrArg some (bi_f (by simp [an])), rfl⟩
    · skip
      exact absurd (lt_of hV (by omega) (by omega) h9) (by omega)
  | succ f ih =>
    intro i hi
    refine tr_iload eX7_isThird_3 rfl ?_
    refine tr_aload_n eX7_isThird_5 rfl ?_
    refine tr_getI eX7_isThird_6 fk_X7_89 rfl rfl ?_
    refine tr_icmp_ge eX7_isThird_9 (fun h9 => ?_) (fun h9 => ?_)
    · skip
      exact absurd (ge_of hV (by omega) (by omega) h9) (by omega)
    · skip
      have g9 := lt_of hV (by omega) (by omega) h9
      have hu : vp_in (nI i) 40 := vp_in_nI (by omega) (by decide)
      obtain ⟨cc, hc8, hc⟩ := hcc i (by omega)
      refine tr_iconst eX7_isThird_12 (nI 0) ci_0 ?_
      refine tr_istore eX7_isThird_13 (by decide) rfl ?_
      by_cases hxu : nI i = u
      · skip
        refine tr_iload eX7_isThird_15 rfl ?_
        refine tr_aload_n eX7_isThird_17 rfl ?_
        refine tr_getR eX7_isThird_18 fk_X7_50 rfl rfl ?_
        refine tr_iload eX7_isThird_21 rfl ?_
        refine tr_iald eX7_isThird_23 rfl (by first | with_reducible assumption | with_reducible exact in_slot (by with_reducible assumption) (by with_reducible assumption)) ?_
        refine tr_icmp_ge eX7_isThird_24 (fun h24 => ?_) (fun h24 => ?_)
        · skip
          refine tr_iinc eX7_isThird_100 _ (by first | exact inc_n _ | rfl) rfl (by decide) rfl ?_
          refine tr_goto eX7_isThird_103 ?_
          refine TT.fg [7] ?_
          refine lpA (by simp_all) (ih (i + 1) (by omega))
        · skip
          refine tr_iload eX7_isThird_27 rfl ?_
          refine tr_iload_n eX7_isThird_29 rfl ?_
          refine tr_icmp_eq eX7_isThird_30 (fun h30 => ?_) (fun h30 => ?_)
          · skip
            refine tr_iinc eX7_isThird_100 _ (by first | exact inc_n _ | rfl) rfl (by decide) rfl ?_
            refine tr_goto eX7_isThird_103 ?_
            refine TT.fg [7] ?_
            refine lpA (by simp_all) (ih (i + 1) (by omega))
          · skip
            exact absurd hxu h30
      · by_cases hxv : nI i = v
        · skip
          refine tr_iload eX7_isThird_15 rfl ?_
          refine tr_aload_n eX7_isThird_17 rfl ?_
          refine tr_getR eX7_isThird_18 fk_X7_50 rfl rfl ?_
          refine tr_iload eX7_isThird_21 rfl ?_
          refine tr_iald eX7_isThird_23 rfl (by first | with_reducible assumption | with_reducible exact in_slot (by with_reducible assumption) (by with_reducible assumption)) ?_
          refine tr_icmp_ge eX7_isThird_24 (fun h24 => ?_) (fun h24 => ?_)
          · skip
            refine tr_iinc eX7_isThird_100 _ (by first | exact inc_n _ | rfl) rfl (by decide) rfl ?_
            refine tr_goto eX7_isThird_103 ?_
            refine TT.fg [7] ?_
            refine lpA (by simp_all [s_ne]) (ih (i + 1) (by omega))
          · skip
            refine tr_iload eX7_isThird_27 rfl ?_
            refine tr_iload_n eX7_isThird_29 rfl ?_
            refine tr_icmp_eq eX7_isThird_30 (fun h30 => ?_) (fun h30 => ?_)
            · skip
              exact absurd h30 hxu
            · skip
              refine tr_iload eX7_isThird_33 rfl ?_
              refine tr_iload_n eX7_isThird_35 rfl ?_
              refine tr_icmp_eq eX7_isThird_36 (fun h36 => ?_) (fun h36 => ?_)
              · skip
                refine tr_iinc eX7_isThird_100 _ (by first | exact inc_n _ | rfl) rfl (by decide) rfl ?_
                refine tr_goto eX7_isThird_103 ?_
                refine TT.fg [7] ?_
                refine lpA (by simp_all [s_ne]) (ih (i + 1) (by omega))
              · skip
                exact absurd hxv h36
        · refine lp_X7_isThird_15 hab hV hV40 hcc hs (show i < 40 by omega) hc hc8 hxu hxv cc 0 (by omega) (fun h => ?_) (fun h => ?_)
          · have e : s_there σ (nI i) s a b = true := by rw [s_there, tn_of hc (by omega)]; exact h
            exact ⟨congrArg some (bi_t (an_t (by simp_all [s_ne]))), rfl⟩
          · have e : s_there σ (nI i) s a b = false := by rw [s_there, tn_of hc (by omega)]; exact h
            refine tr_iinc eX7_isThird_100 _ (by first | exact inc_n _ | rfl) rfl (by decide) rfl ?_
            refine tr_goto eX7_isThird_103 ?_
            refine lpA (by simp_all) (ih (i + 1) (by omega))
theorem k_X7_isThird {σ : tSt} {u v s a b : Int32} {nV : Nat} (hab : a < b) (hV : σ 0 (nI 6) = nI nV) (hV40 : nV ≤ 40) (hcc : cOK σ) (hs : sOK σ) : CT mX7_isThird [.ref 0, .int u, .int v, .int s, .int a, .int b] σ (PE (some (bi (s_third σ nV (s_ne v) u s a b = true))) σ) := by
  refine CT.of2 2 (by decide) rfl rfl ?_
  refine tr_iconst eX7_isThird_0 (nI 0) ci_0 ?_
  refine tr_istore eX7_isThird_1 (by decide) rfl ?_
  exact lp_X7_isThird_3 hab hV hV40 hcc hs nV 0 (by omega)

theorem mm_lt {a b c d : Int32} (h1 : a < b) (h2 : c < d) (h : s_hc a b c d = true) : s_mx a c < s_mn b d := by
  unfold s_mx s_mn
  exact (hc_iff h1 h2).mpr h
theorem lp_X7_takes_48T {σ : tSt} {v w s a b : Int32} {nV uu cc : Nat} (hab : a < b) (huu : uu < 40) (hc : σ 12 (nI uu) = nI cc) (hc8 : cc ≤ 8) (hss : vp_in s 24) (hV : σ 0 (nI 6) = nI nV) (hV40 : nV ≤ 40) (hcc : cOK σ) (hs : sOK σ) (hsh : s_share σ w (nI uu) s = true) : ∀ f i : Nat, i + f = cc → TT mX7_takes 48 [.ref 0, .int (nI uu), .int v, .int w, .int s, .int a, .int b, .int (σ 2 s / nI 2), .int (nI 1), .int (nI i), .null] [] σ (PE (some (bi (an (fun k => s_tk σ nV (s_ne v) w (nI uu) s a b k) f i = true))) σ) := by
  have hu : vp_in (nI uu) 40 := vp_in_nI huu (by decide)
  intro f
  induction f with
  | zero =>
    intro i hi
    refine tr_iload eX7_takes_48 rfl ?_
    refine tr_aload_n eX7_takes_50 rfl ?_
    refine tr_getR eX7_takes_51 fk_X7_50 rfl rfl ?_
    refine tr_iload_n eX7_takes_54 rfl ?_
    refine tr_iald eX7_takes_55 rfl (by first | with_reducible assumption | with_reducible exact in_slot (by with_reducible assumption) (by with_reducible assumption)) ?_
    refine tr_icmp_ge eX7_takes_56 (fun h56 => ?_) (fun h56 => ?_)
    · skip
      refine tr_iconst eX7_takes_155 (nI 0) ci_0 ?_
      refine tr_ret eX7_takes_156 rfl (by first | rfl | exact nar_bi _) ?_
      exact ⟨congrArg some (bi_f (by simp [an])), rfl⟩
    · skip
      exact absurd (lt_of hc (by omega) (by omega) h56) (by omega)
  | succ f ih =>
    intro i hi
    refine tr_iload eX7_takes_48 rfl ?_
    refine tr_aload_n eX7_takes_50 rfl ?_
    refine tr_getR eX7_takes_51 fk_X7_50 rfl rfl ?_
    refine tr_iload_n eX7_takes_54 rfl ?_
    refine tr_iald eX7_takes_55 rfl (by first | with_reducible assumption | with_reducible exact in_slot (by with_reducible assumption) (by with_reducible assumption)) ?_
    refine tr_icmp_ge eX7_takes_56 (fun h56 => ?_) (fun h56 => ?_)
    · skip
      exact absurd (ge_of hc (by omega) (by omega) h56) (by omega)
    · skip
      have g56 := lt_of hc (by omega) (by omega) h56
      have hk : vp_in (nI i) 8 := vp_in_nI (by omega) (by decide)
      have hst := hs uu i huu (by rw [hc]; exact (nI_ltI (by omega) (by omega)).mpr g56) (by omega)
      refine tr_bipush eX7_takes_59 (nI 8) (by decide) ?_
      refine tr_iload_n eX7_takes_61 rfl ?_
      refine tr_imulC eX7_takes_62 ?_
      refine tr_iload eX7_takes_63 rfl ?_
      refine tr_iadd eX7_takes_65 ?_
      refine tr_istore eX7_takes_66 (by decide) rfl ?_
      refine tr_aload_n eX7_takes_68 rfl ?_
      refine tr_getR eX7_takes_69 fk_X7_53 rfl rfl ?_
      refine tr_iload eX7_takes_72 rfl ?_
      refine tr_iald eX7_takes_74 rfl (by first | with_reducible assumption | with_reducible exact in_slot (by with_reducible assumption) (by with_reducible assumption)) ?_
      refine tr_iload eX7_takes_75 rfl ?_
      refine tr_icmp_ne eX7_takes_77 (fun h77 => ?_) (fun h77 => ?_)
      · skip
        refine tr_iinc eX7_takes_149 _ (by first | exact inc_n _ | rfl) rfl (by decide) rfl ?_
        refine tr_goto eX7_takes_152 ?_
        refine TT.fg [10] ?_
        refine lpA (by rw [s_tk, saF (by simp_all)]; rfl) (ih (i + 1) (by omega))
      · skip
        refine tr_iload eX7_takes_80 rfl ?_
        refine tr_iload eX7_takes_82 rfl ?_
        refine tr_aload_n eX7_takes_84 rfl ?_
        refine tr_getR eX7_takes_85 fk_X7_56 rfl rfl ?_
        refine tr_iload eX7_takes_88 rfl ?_
        refine tr_iald eX7_takes_90 rfl (by first | with_reducible assumption | with_reducible exact in_slot (by with_reducible assumption) (by with_reducible assumption)) ?_
        refine tr_aload_n eX7_takes_91 rfl ?_
        refine tr_getR eX7_takes_92 fk_X7_59 rfl rfl ?_
        refine tr_iload eX7_takes_95 rfl ?_
        refine tr_iald eX7_takes_97 rfl (by first | with_reducible assumption | with_reducible exact in_slot (by with_reducible assumption) (by with_reducible assumption)) ?_
        refine tr_se4 eX7_takes_98 zv_X7_haveCommon zs_X7_haveCommon lk_X7_137 ⟨rfl, by decide, by decide⟩ rfl (k_X7_haveCommon (by first | with_reducible assumption | with_reducible exact in_slot (by with_reducible assumption) (by with_reducible assumption)) (by first | with_reducible assumption | with_reducible exact in_slot (by with_reducible assumption) (by with_reducible assumption))) ?_
        refine tr_if_ne eX7_takes_101 (fun h101 => ?_) (fun h101 => ?_)
        · skip
          try first | replace h101 := bi_0 h101 | replace h101 := bi_n h101
          have h101c := h101
          simp only [s_hc, Bool.and_eq_true, decide_eq_true_eq] at h101c
          refine tr_iload eX7_takes_107 rfl ?_
          refine tr_if_eq eX7_takes_109 (fun h109 => ?_) (fun h109 => ?_)
          · skip
            exact absurd h109 (by decide)
          · skip
            skip
            refine tr_aload_n eX7_takes_112 rfl ?_
            refine tr_iload_n eX7_takes_113 rfl ?_
            refine tr_iload_n eX7_takes_114 rfl ?_
            refine tr_iload eX7_takes_115 rfl ?_
            refine tr_iload eX7_takes_117 rfl ?_
            refine tr_aload_n eX7_takes_119 rfl ?_
            refine tr_getR eX7_takes_120 fk_X7_56 rfl rfl ?_
            refine tr_iload eX7_takes_123 rfl ?_
            refine tr_iald eX7_takes_125 rfl (by first | with_reducible assumption | with_reducible exact in_slot (by with_reducible assumption) (by with_reducible assumption)) ?_
            refine tr_max eX7_takes_126 lm_X7_125 wm_max_s wm_i wm_max_c (by decide) (Nat.le_of_ble_eq_true rfl) ?_
            refine tr_iload eX7_takes_129 rfl ?_
            refine tr_aload_n eX7_takes_131 rfl ?_
            refine tr_getR eX7_takes_132 fk_X7_59 rfl rfl ?_
            refine tr_iload eX7_takes_135 rfl ?_
            refine tr_iald eX7_takes_137 rfl (by first | with_reducible assumption | with_reducible exact in_slot (by with_reducible assumption) (by with_reducible assumption)) ?_
            refine tr_min eX7_takes_138 lm_X7_131 wm_min_s wm_i wm_min_c (by decide) (Nat.le_of_ble_eq_true rfl) ?_
            refine tr_ce5 eX7_takes_141 zv_X7_isThird zi_X7_isThird lk_X7_152 ⟨rfl, by decide, by decide⟩ rfl rfl rfl (k_X7_isThird (mm_lt hab hst h101) hV hV40 hcc hs) ?_
            refine tr_if_eq eX7_takes_144 (fun h144 => ?_) (fun h144 => ?_)
            · skip
              try first | replace h144 := bi_0 h144 | replace h144 := bi_n h144
              refine tr_iinc eX7_takes_149 _ (by first | exact inc_n _ | rfl) rfl (by decide) rfl ?_
              refine tr_goto eX7_takes_152 ?_
              refine TT.fg [10] ?_
              refine lpA (by simp_all [s_tk, s_mx, s_mn]) (ih (i + 1) (by omega))
            · skip
              try first | replace h144 := bi_0 h144 | replace h144 := bi_n h144
              refine tr_iconst eX7_takes_147 (nI 1) ci_1 ?_
              refine tr_ret eX7_takes_148 rfl (by first | rfl | exact nar_bi _) ?_
              exact ⟨congrArg some (bi_t (an_t (by simp_all [s_tk, s_sa, s_mx, s_mn]))), rfl⟩
        · skip
          try first | replace h101 := bi_0 h101 | replace h101 := bi_n h101
          have h101c := h101
          simp only [s_hc, Bool.and_eq_true, decide_eq_true_eq] at h101c
          refine tr_goto eX7_takes_104 ?_
          refine tr_iinc eX7_takes_149 _ (by first | exact inc_n _ | rfl) rfl (by decide) rfl ?_
          refine tr_goto eX7_takes_152 ?_
          refine TT.fg [10] ?_
          refine lpA (by rw [s_tk, saF (by simp_all)]; rfl) (ih (i + 1) (by omega))
theorem lp_X7_takes_48F {σ : tSt} {v w s a b : Int32} {nV uu cc : Nat} (hab : a < b) (huu : uu < 40) (hc : σ 12 (nI uu) = nI cc) (hc8 : cc ≤ 8) (hss : vp_in s 24) (hV : σ 0 (nI 6) = nI nV) (hV40 : nV ≤ 40) (hcc : cOK σ) (hs : sOK σ) (hsh : s_share σ w (nI uu) s = false) : ∀ f i : Nat, i + f = cc → TT mX7_takes 48 [.ref 0, .int (nI uu), .int v, .int w, .int s, .int a, .int b, .int (σ 2 s / nI 2), .int (nI 0), .int (nI i), .null] [] σ (PE (some (bi (an (fun k => s_tk σ nV (s_ne v) w (nI uu) s a b k) f i = true))) σ) := by
  have hu : vp_in (nI uu) 40 := vp_in_nI huu (by decide)
  intro f
  induction f with
  | zero =>
    intro i hi
    refine tr_iload eX7_takes_48 rfl ?_
    refine tr_aload_n eX7_takes_50 rfl ?_
    refine tr_getR eX7_takes_51 fk_X7_50 rfl rfl ?_
    refine tr_iload_n eX7_takes_54 rfl ?_
    refine tr_iald eX7_takes_55 rfl (by first | with_reducible assumption | with_reducible exact in_slot (by with_reducible assumption) (by with_reducible assumption)) ?_
    refine tr_icmp_ge eX7_takes_56 (fun h56 => ?_) (fun h56 => ?_)
    · skip
      refine tr_iconst eX7_takes_155 (nI 0) ci_0 ?_
      refine tr_ret eX7_takes_156 rfl (by first | rfl | exact nar_bi _) ?_
      exact ⟨congrArg some (bi_f (by simp [an])), rfl⟩
    · skip
      exact absurd (lt_of hc (by omega) (by omega) h56) (by omega)
  | succ f ih =>
    intro i hi
    refine tr_iload eX7_takes_48 rfl ?_
    refine tr_aload_n eX7_takes_50 rfl ?_
    refine tr_getR eX7_takes_51 fk_X7_50 rfl rfl ?_
    refine tr_iload_n eX7_takes_54 rfl ?_
    refine tr_iald eX7_takes_55 rfl (by first | with_reducible assumption | with_reducible exact in_slot (by with_reducible assumption) (by with_reducible assumption)) ?_
    refine tr_icmp_ge eX7_takes_56 (fun h56 => ?_) (fun h56 => ?_)
    · skip
      exact absurd (ge_of hc (by omega) (by omega) h56) (by omega)
    · skip
      have g56 := lt_of hc (by omega) (by omega) h56
      have hk : vp_in (nI i) 8 := vp_in_nI (by omega) (by decide)
      have hst := hs uu i huu (by rw [hc]; exact (nI_ltI (by omega) (by omega)).mpr g56) (by omega)
      refine tr_bipush eX7_takes_59 (nI 8) (by decide) ?_
      refine tr_iload_n eX7_takes_61 rfl ?_
      refine tr_imulC eX7_takes_62 ?_
      refine tr_iload eX7_takes_63 rfl ?_
      refine tr_iadd eX7_takes_65 ?_
      refine tr_istore eX7_takes_66 (by decide) rfl ?_
      refine tr_aload_n eX7_takes_68 rfl ?_
      refine tr_getR eX7_takes_69 fk_X7_53 rfl rfl ?_
      refine tr_iload eX7_takes_72 rfl ?_
      refine tr_iald eX7_takes_74 rfl (by first | with_reducible assumption | with_reducible exact in_slot (by with_reducible assumption) (by with_reducible assumption)) ?_
      refine tr_iload eX7_takes_75 rfl ?_
      refine tr_icmp_ne eX7_takes_77 (fun h77 => ?_) (fun h77 => ?_)
      · skip
        refine tr_iinc eX7_takes_149 _ (by first | exact inc_n _ | rfl) rfl (by decide) rfl ?_
        refine tr_goto eX7_takes_152 ?_
        refine TT.fg [10] ?_
        refine lpA (by rw [s_tk, saF (by simp_all)]; rfl) (ih (i + 1) (by omega))
      · skip
        refine tr_iload eX7_takes_80 rfl ?_
        refine tr_iload eX7_takes_82 rfl ?_
        refine tr_aload_n eX7_takes_84 rfl ?_
        refine tr_getR eX7_takes_85 fk_X7_56 rfl rfl ?_
        refine tr_iload eX7_takes_88 rfl ?_
        refine tr_iald eX7_takes_90 rfl (by first | with_reducible assumption | with_reducible exact in_slot (by with_reducible assumption) (by with_reducible assumption)) ?_
        refine tr_aload_n eX7_takes_91 rfl ?_
        refine tr_getR eX7_takes_92 fk_X7_59 rfl rfl ?_
        refine tr_iload eX7_takes_95 rfl ?_
        refine tr_iald eX7_takes_97 rfl (by first | with_reducible assumption | with_reducible exact in_slot (by with_reducible assumption) (by with_reducible assumption)) ?_
        refine tr_se4 eX7_takes_98 zv_X7_haveCommon zs_X7_haveCommon lk_X7_137 ⟨rfl, by decide, by decide⟩ rfl (k_X7_haveCommon (by first | with_reducible assumption | with_reducible exact in_slot (by with_reducible assumption) (by with_reducible assumption)) (by first | with_reducible assumption | with_reducible exact in_slot (by with_reducible assumption) (by with_reducible assumption))) ?_
        refine tr_if_ne eX7_takes_101 (fun h101 => ?_) (fun h101 => ?_)
        · skip
          try first | replace h101 := bi_0 h101 | replace h101 := bi_n h101
          have h101c := h101
          simp only [s_hc, Bool.and_eq_true, decide_eq_true_eq] at h101c
          refine tr_iload eX7_takes_107 rfl ?_
          refine tr_if_eq eX7_takes_109 (fun h109 => ?_) (fun h109 => ?_)
          · skip
            skip
            refine tr_iconst eX7_takes_147 (nI 1) ci_1 ?_
            refine tr_ret eX7_takes_148 rfl (by first | rfl | exact nar_bi _) ?_
            exact ⟨congrArg some (bi_t (an_t (by simp_all [s_tk, s_sa, s_mx, s_mn]))), rfl⟩
          · skip
            exact absurd rfl h109
        · skip
          try first | replace h101 := bi_0 h101 | replace h101 := bi_n h101
          have h101c := h101
          simp only [s_hc, Bool.and_eq_true, decide_eq_true_eq] at h101c
          refine tr_goto eX7_takes_104 ?_
          refine tr_iinc eX7_takes_149 _ (by first | exact inc_n _ | rfl) rfl (by decide) rfl ?_
          refine tr_goto eX7_takes_152 ?_
          refine TT.fg [10] ?_
          refine lpA (by rw [s_tk, saF (by simp_all)]; rfl) (ih (i + 1) (by omega))
theorem k_X7_takes {σ : tSt} {v w s a b : Int32} {nV uu cc : Nat} (hab : a < b) (huu : uu < 40) (hc : σ 12 (nI uu) = nI cc) (hc8 : cc ≤ 8) (hss : vp_in s 24) (hV : σ 0 (nI 6) = nI nV) (hV40 : nV ≤ 40) (hcc : cOK σ) (hs : sOK σ) : CT mX7_takes [.ref 0, .int (nI uu), .int v, .int w, .int s, .int a, .int b] σ (PE (some (bi (s_takes σ nV (s_ne v) w (nI uu) s a b = true))) σ) := by
  have hu : vp_in (nI uu) 40 := vp_in_nI huu (by decide)
  refine CT.of2 4 (by decide) rfl rfl ?_
  refine tr_aload_n eX7_takes_0 rfl ?_
  refine tr_getR eX7_takes_1 fk_X7_20 rfl rfl ?_
  refine tr_iload eX7_takes_4 rfl ?_
  refine tr_iald eX7_takes_6 rfl (by first | with_reducible assumption | with_reducible exact in_slot (by with_reducible assumption) (by with_reducible assumption) | with_reducible exact in_row _ (by decide) (by with_reducible assumption) | with_reducible exact in_row0 (by with_reducible assumption) | with_reducible exact in_slot0 (by with_reducible assumption) | (simp (disch := decide) only [up_k, up_s, up_f] <;> with_reducible assumption)) ?_
  refine tr_iconst eX7_takes_7 (nI 2) ci_2 ?_
  refine tr_idiv eX7_takes_8 (by decide) ?_
  refine tr_istore eX7_takes_9 (by decide) rfl ?_
  refine tr_aload_n eX7_takes_11 rfl ?_
  refine tr_getR eX7_takes_12 fk_X7_16 rfl rfl ?_
  refine tr_iload eX7_takes_15 rfl ?_
  refine tr_iald eX7_takes_17 rfl (by first | with_reducible assumption | with_reducible exact in_slot (by with_reducible assumption) (by with_reducible assumption) | with_reducible exact in_row _ (by decide) (by with_reducible assumption) | with_reducible exact in_row0 (by with_reducible assumption) | with_reducible exact in_slot0 (by with_reducible assumption) | (simp (disch := decide) only [up_k, up_s, up_f] <;> with_reducible assumption)) ?_
  refine tr_iconst eX7_takes_18 (nI 3) ci_3 ?_
  refine tr_icmp_ne eX7_takes_19 (fun h19 => ?_) (fun h19 => ?_)
  · skip
    refine tr_iconst eX7_takes_42 (nI 0) ci_0 ?_
    refine tr_istore eX7_takes_43 (by decide) rfl ?_
    refine tr_iconst eX7_takes_45 (nI 0) ci_0 ?_
    refine tr_istore eX7_takes_46 (by decide) rfl ?_
    have hsh : s_share σ w (nI uu) s = false := by
      cases hq : s_share σ w (nI uu) s with
      | false => rfl
      | true =>
        simp only [s_share, Bool.and_eq_true, decide_eq_true_eq] at hq
        first | exact absurd hq.1.1 h19 | exact absurd h25 hq.1.2 | exact absurd h35 hq.2
    rw [s_takes, tn_of hc (by omega)]
    exact lp_X7_takes_48F hab huu hc hc8 hss hV hV40 hcc hs hsh cc 0 (by omega)
  · skip
    refine tr_iload_n eX7_takes_22 rfl ?_
    refine tr_iload eX7_takes_23 rfl ?_
    refine tr_icmp_gt eX7_takes_25 (fun h25 => ?_) (fun h25 => ?_)
    · skip
      refine tr_iconst eX7_takes_42 (nI 0) ci_0 ?_
      refine tr_istore eX7_takes_43 (by decide) rfl ?_
      refine tr_iconst eX7_takes_45 (nI 0) ci_0 ?_
      refine tr_istore eX7_takes_46 (by decide) rfl ?_
      have hsh : s_share σ w (nI uu) s = false := by
        cases hq : s_share σ w (nI uu) s with
        | false => rfl
        | true =>
          simp only [s_share, Bool.and_eq_true, decide_eq_true_eq] at hq
          first | exact absurd hq.1.1 h19 | exact absurd h25 hq.1.2 | exact absurd h35 hq.2
      rw [s_takes, tn_of hc (by omega)]
      exact lp_X7_takes_48F hab huu hc hc8 hss hV hV40 hcc hs hsh cc 0 (by omega)
    · skip
      refine tr_aload_n eX7_takes_28 rfl ?_
      refine tr_iload_n eX7_takes_29 rfl ?_
      refine tr_ce1 eX7_takes_30 zv_X7_wingOf zi_X7_wingOf lk_X7_149 ⟨rfl, by decide, by decide⟩ rfl rfl rfl (k_X7_wingOf (by first | with_reducible assumption | with_reducible exact in_slot (by with_reducible assumption) (by with_reducible assumption) | with_reducible exact in_row _ (by decide) (by with_reducible assumption) | with_reducible exact in_row0 (by with_reducible assumption) | with_reducible exact in_slot0 (by with_reducible assumption) | (simp (disch := decide) only [up_k, up_s, up_f] <;> with_reducible assumption))) ?_
      refine tr_iload eX7_takes_33 rfl ?_
      refine tr_icmp_gt eX7_takes_35 (fun h35 => ?_) (fun h35 => ?_)
      · skip
        refine tr_iconst eX7_takes_42 (nI 0) ci_0 ?_
        refine tr_istore eX7_takes_43 (by decide) rfl ?_
        refine tr_iconst eX7_takes_45 (nI 0) ci_0 ?_
        refine tr_istore eX7_takes_46 (by decide) rfl ?_
        have hsh : s_share σ w (nI uu) s = false := by
          cases hq : s_share σ w (nI uu) s with
          | false => rfl
          | true =>
            simp only [s_share, Bool.and_eq_true, decide_eq_true_eq] at hq
            first | exact absurd hq.1.1 h19 | exact absurd h25 hq.1.2 | exact absurd h35 hq.2
        rw [s_takes, tn_of hc (by omega)]
        exact lp_X7_takes_48F hab huu hc hc8 hss hV hV40 hcc hs hsh cc 0 (by omega)
      · skip
        refine tr_iconst eX7_takes_38 (nI 1) ci_1 ?_
        refine tr_goto eX7_takes_39 ?_
        refine tr_istore eX7_takes_43 (by decide) rfl ?_
        refine tr_iconst eX7_takes_45 (nI 0) ci_0 ?_
        refine tr_istore eX7_takes_46 (by decide) rfl ?_
        have hsh : s_share σ w (nI uu) s = true := by simp_all [s_share]
        rw [s_takes, tn_of hc (by omega)]
        exact lp_X7_takes_48T hab huu hc hc8 hss hV hV40 hcc hs hsh cc 0 (by omega)

theorem hcN : nI 1320 < nI 1560 := by decide
def kOK (σ : tSt) (nC : Nat) : Prop := ∀ c : Nat, c < nC → σ 8 (nI c) < σ 9 (nI c)
theorem lp_X7_against_237 {σ : tSt} {v kd w nd s a b : Int32} {n nC nV : Nat} (hab : a < b) (hss : vp_in s 24) (hV : σ 0 (nI 6) = nI nV) (hV40 : nV ≤ 40) (hcc : cOK σ) (hs : sOK σ) (hn : σ 0 (nI 4) = nI n) (hb : n ≤ 40) (hp : pOK σ n) (hC : σ 0 (nI 5) = nI nC) (hC20 : nC ≤ 20) (hk : kOK σ nC) {Q : Option Int32 → tSt → Prop} :
    ∀ f i : Nat, i + f = nV → (fi (fun u => s_ne v u && s_takes σ nV (s_ne v) w u s a b) f i ≠ -1 → Q (some (nI 5)) (up (up σ 0 (nI 24) (-1)) 0 (nI 24) (fi (fun u => s_ne v u && s_takes σ nV (s_ne v) w u s a b) f i))) → (fi (fun u => s_ne v u && s_takes σ nV (s_ne v) w u s a b) f i = -1 → TT mX7_against 286 [.ref 0, .int v, .int kd, .int w, .int nd, .int s, .int a, .int b, .null, .null, .null] [] (up σ 0 (nI 24) (-1)) Q) → TT mX7_against 237 [.ref 0, .int v, .int kd, .int w, .int nd, .int s, .int a, .int b, .null, .null, .int (nI i)] [] (up σ 0 (nI 24) (-1)) Q := by
  intro f
  induction f with
  | zero =>
    intro i hi kT kF
    refine tr_iload eX7_against_237 rfl ?_
    refine tr_aload_n eX7_against_239 rfl ?_
    refine tr_getI eX7_against_240 fk_X7_89 rfl rfl ?_
    refine tr_icmp_ge eX7_against_243 (fun h243 => ?_) (fun h243 => ?_)
    · skip
      exact TT.fg [10] (kF rfl)
    · skip
      exact absurd (lt_of hV (by omega) (by omega) h243) (by omega)
  | succ f ih =>
    intro i hi kT kF
    refine tr_iload eX7_against_237 rfl ?_
    refine tr_aload_n eX7_against_239 rfl ?_
    refine tr_getI eX7_against_240 fk_X7_89 rfl rfl ?_
    try simp (disch := decide) only [up_k, up_s, up_f]
    refine tr_icmp_ge eX7_against_243 (fun h243 => ?_) (fun h243 => ?_)
    · skip
      exact absurd (ge_of hV (by omega) (by omega) h243) (by omega)
    · skip
      have g243 := lt_of hV (by omega) (by omega) h243
      have hu : vp_in (nI i) 40 := vp_in_nI (by omega) (by decide)
      obtain ⟨cc, hc8, hc⟩ := hcc i (by omega)
      refine tr_iload eX7_against_246 rfl ?_
      refine tr_iload_n eX7_against_248 rfl ?_
      refine tr_icmp_eq eX7_against_249 (fun h249 => ?_) (fun h249 => ?_)
      · skip
        refine tr_iinc eX7_against_280 _ (by first | exact inc_n _ | rfl) rfl (by decide) rfl ?_
        refine tr_goto eX7_against_283 ?_
        have e : fi (fun u => s_ne v u && s_takes σ nV (s_ne v) w u s a b) (f + 1) i = fi (fun u => s_ne v u && s_takes σ nV (s_ne v) w u s a b) f (i + 1) := by rw [fi, if_neg (by simp_all [s_ne])]
        rw [e] at kT kF
        exact ih (i + 1) (by omega) kT kF
      · skip
        refine tr_aload_n eX7_against_252 rfl ?_
        refine tr_iload eX7_against_253 rfl ?_
        refine tr_iload_n eX7_against_255 rfl ?_
        refine tr_iload_n eX7_against_256 rfl ?_
        refine tr_iload eX7_against_257 rfl ?_
        refine tr_iload eX7_against_259 rfl ?_
        refine tr_iload eX7_against_261 rfl ?_
        refine tr_ce6 eX7_against_263 zv_X7_takes zi_X7_takes lk_X7_145 ⟨rfl, by decide, by decide⟩ rfl rfl rfl (show CT mX7_takes _ _ (PE (some (bi (s_takes σ nV (s_ne v) w (nI i) s a b = true))) _) from k_X7_takes hab (show i < 40 by omega) hc hc8 hss hV hV40 hcc hs) ?_
        try simp (disch := decide) only [up_k, up_s, up_f]
        refine tr_if_ne eX7_against_266 (fun h266 => ?_) (fun h266 => ?_)
        · skip
          try first | replace h266 := bi_0 h266 | replace h266 := bi_n h266
          refine tr_aload_n eX7_against_272 rfl ?_
          refine tr_iload eX7_against_273 rfl ?_
          refine tr_put eX7_against_275 fp_X7_134 rfl rfl ?_
          refine tr_iconst eX7_against_278 (nI 5) ci_5 ?_
          refine tr_ret eX7_against_279 rfl rfl ?_
          have e : fi (fun u => s_ne v u && s_takes σ nV (s_ne v) w u s a b) (f + 1) i = nI i := by rw [fi, if_pos (by simp_all [s_ne])]
          rw [e] at kT
          exact kT (nI_ne_m1 (by omega))
        · skip
          try first | replace h266 := bi_0 h266 | replace h266 := bi_n h266
          refine tr_goto eX7_against_269 ?_
          refine tr_iinc eX7_against_280 _ (by first | exact inc_n _ | rfl) rfl (by decide) rfl ?_
          refine tr_goto eX7_against_283 ?_
          have e : fi (fun u => s_ne v u && s_takes σ nV (s_ne v) w u s a b) (f + 1) i = fi (fun u => s_ne v u && s_takes σ nV (s_ne v) w u s a b) f (i + 1) := by rw [fi, if_neg (by simp_all [s_ne])]
          rw [e] at kT kF
          exact ih (i + 1) (by omega) kT kF
theorem lp_X7_against_172 {σ : tSt} {v kd w nd s a b : Int32} {n nC nV : Nat} (hab : a < b) (hss : vp_in s 24) (hV : σ 0 (nI 6) = nI nV) (hV40 : nV ≤ 40) (hcc : cOK σ) (hs : sOK σ) (hn : σ 0 (nI 4) = nI n) (hb : n ≤ 40) (hp : pOK σ n) (hC : σ 0 (nI 5) = nI nC) (hC20 : nC ≤ 20) (hk : kOK σ nC) {Q : Option Int32 → tSt → Prop} :
    ∀ f i : Nat, i + f = nC → (fi (fun c => decide (σ 7 c = s) && s_hc a b (σ 8 c) (σ 9 c)) f i ≠ -1 → Q (some (nI 4)) (up (up σ 0 (nI 24) (-1)) 0 (nI 24) (fi (fun c => decide (σ 7 c = s) && s_hc a b (σ 8 c) (σ 9 c)) f i))) → (fi (fun c => decide (σ 7 c = s) && s_hc a b (σ 8 c) (σ 9 c)) f i = -1 → TT mX7_against 234 [.ref 0, .int v, .int kd, .int w, .int nd, .int s, .int a, .int b, .null, .null, .null] [] (up σ 0 (nI 24) (-1)) Q) → TT mX7_against 172 [.ref 0, .int v, .int kd, .int w, .int nd, .int s, .int a, .int b, .null, .null, .int (nI i)] [] (up σ 0 (nI 24) (-1)) Q := by
  intro f
  induction f with
  | zero =>
    intro i hi kT kF
    refine tr_iload eX7_against_172 rfl ?_
    refine tr_aload_n eX7_against_174 rfl ?_
    refine tr_getI eX7_against_175 fk_X7_110 rfl rfl ?_
    refine tr_icmp_ge eX7_against_178 (fun h178 => ?_) (fun h178 => ?_)
    · skip
      exact TT.fg [10] (kF rfl)
    · skip
      exact absurd (lt_of hC (by omega) (by omega) h178) (by omega)
  | succ f ih =>
    intro i hi kT kF
    refine tr_iload eX7_against_172 rfl ?_
    refine tr_aload_n eX7_against_174 rfl ?_
    refine tr_getI eX7_against_175 fk_X7_110 rfl rfl ?_
    try simp (disch := decide) only [up_k, up_s, up_f]
    refine tr_icmp_ge eX7_against_178 (fun h178 => ?_) (fun h178 => ?_)
    · skip
      exact absurd (ge_of hC (by omega) (by omega) h178) (by omega)
    · skip
      have g178 := lt_of hC (by omega) (by omega) h178
      have hcv : vp_in (nI i) 20 := vp_in_nI (by omega) (by decide)
      have hkc := hk i (by omega)
      refine tr_aload_n eX7_against_181 rfl ?_
      refine tr_getR eX7_against_182 fk_X7_35 rfl rfl ?_
      refine tr_iload eX7_against_185 rfl ?_
      refine tr_iald eX7_against_187 rfl (by first | with_reducible assumption | with_reducible exact in_slot (by with_reducible assumption) (by with_reducible assumption) | with_reducible exact in_row _ (by decide) (by with_reducible assumption) | with_reducible exact in_row0 (by with_reducible assumption) | with_reducible exact in_slot0 (by with_reducible assumption) | (simp (disch := decide) only [up_k, up_s, up_f] <;> with_reducible assumption)) ?_
      try simp (disch := decide) only [up_k, up_s, up_f]
      refine tr_iload eX7_against_188 rfl ?_
      refine tr_icmp_ne eX7_against_190 (fun h190 => ?_) (fun h190 => ?_)
      · skip
        refine tr_iinc eX7_against_228 _ (by first | exact inc_n _ | rfl) rfl (by decide) rfl ?_
        refine tr_goto eX7_against_231 ?_
        have e : fi (fun c => decide (σ 7 c = s) && s_hc a b (σ 8 c) (σ 9 c)) (f + 1) i = fi (fun c => decide (σ 7 c = s) && s_hc a b (σ 8 c) (σ 9 c)) f (i + 1) := by rw [fi, if_neg (by simp_all [s_ne])]
        rw [e] at kT kF
        exact ih (i + 1) (by omega) kT kF
      · skip
        refine tr_iload eX7_against_193 rfl ?_
        refine tr_iload eX7_against_195 rfl ?_
        refine tr_aload_n eX7_against_197 rfl ?_
        refine tr_getR eX7_against_198 fk_X7_38 rfl rfl ?_
        refine tr_iload eX7_against_201 rfl ?_
        refine tr_iald eX7_against_203 rfl (by first | with_reducible assumption | with_reducible exact in_slot (by with_reducible assumption) (by with_reducible assumption) | with_reducible exact in_row _ (by decide) (by with_reducible assumption) | with_reducible exact in_row0 (by with_reducible assumption) | with_reducible exact in_slot0 (by with_reducible assumption) | (simp (disch := decide) only [up_k, up_s, up_f] <;> with_reducible assumption)) ?_
        try simp (disch := decide) only [up_k, up_s, up_f]
        refine tr_aload_n eX7_against_204 rfl ?_
        refine tr_getR eX7_against_205 fk_X7_41 rfl rfl ?_
        refine tr_iload eX7_against_208 rfl ?_
        refine tr_iald eX7_against_210 rfl (by first | with_reducible assumption | with_reducible exact in_slot (by with_reducible assumption) (by with_reducible assumption) | with_reducible exact in_row _ (by decide) (by with_reducible assumption) | with_reducible exact in_row0 (by with_reducible assumption) | with_reducible exact in_slot0 (by with_reducible assumption) | (simp (disch := decide) only [up_k, up_s, up_f] <;> with_reducible assumption)) ?_
        try simp (disch := decide) only [up_k, up_s, up_f]
        refine tr_se4 eX7_against_211 zv_X7_haveCommon zs_X7_haveCommon lk_X7_137 ⟨rfl, by decide, by decide⟩ rfl (k_X7_haveCommon hab hkc) ?_
        refine tr_if_ne eX7_against_214 (fun h214 => ?_) (fun h214 => ?_)
        · skip
          try first | replace h214 := bi_0 h214 | replace h214 := bi_n h214
          refine tr_aload_n eX7_against_220 rfl ?_
          refine tr_iload eX7_against_221 rfl ?_
          refine tr_put eX7_against_223 fp_X7_134 rfl rfl ?_
          refine tr_iconst eX7_against_226 (nI 4) ci_4 ?_
          refine tr_ret eX7_against_227 rfl rfl ?_
          have e : fi (fun c => decide (σ 7 c = s) && s_hc a b (σ 8 c) (σ 9 c)) (f + 1) i = nI i := by rw [fi, if_pos (by simp_all [s_ne])]
          rw [e] at kT
          exact kT (nI_ne_m1 (by omega))
        · skip
          try first | replace h214 := bi_0 h214 | replace h214 := bi_n h214
          refine tr_goto eX7_against_217 ?_
          refine tr_iinc eX7_against_228 _ (by first | exact inc_n _ | rfl) rfl (by decide) rfl ?_
          refine tr_goto eX7_against_231 ?_
          have e : fi (fun c => decide (σ 7 c = s) && s_hc a b (σ 8 c) (σ 9 c)) (f + 1) i = fi (fun c => decide (σ 7 c = s) && s_hc a b (σ 8 c) (σ 9 c)) f (i + 1) := by rw [fi, if_neg (by simp_all [s_ne])]
          rw [e] at kT kF
          exact ih (i + 1) (by omega) kT kF
theorem lp_X7_against_121 {σ : tSt} {v kd w nd s a b : Int32} {n nC nV : Nat} (hab : a < b) (hss : vp_in s 24) (hV : σ 0 (nI 6) = nI nV) (hV40 : nV ≤ 40) (hcc : cOK σ) (hs : sOK σ) (hn : σ 0 (nI 4) = nI n) (hb : n ≤ 40) (hp : pOK σ n) (hC : σ 0 (nI 5) = nI nC) (hC20 : nC ≤ 20) (hk : kOK σ nC) {Q : Option Int32 → tSt → Prop} :
    ∀ f i : Nat, i + f = nV → (fi (fun u => s_ne v u && s_nbr σ n w u s a b) f i ≠ -1 → Q (some (nI 3)) (up (up σ 0 (nI 24) (-1)) 0 (nI 24) (fi (fun u => s_ne v u && s_nbr σ n w u s a b) f i))) → (fi (fun u => s_ne v u && s_nbr σ n w u s a b) f i = -1 → TT mX7_against 169 [.ref 0, .int v, .int kd, .int w, .int nd, .int s, .int a, .int b, .null, .null, .null] [] (up σ 0 (nI 24) (-1)) Q) → TT mX7_against 121 [.ref 0, .int v, .int kd, .int w, .int nd, .int s, .int a, .int b, .null, .null, .int (nI i)] [] (up σ 0 (nI 24) (-1)) Q := by
  intro f
  induction f with
  | zero =>
    intro i hi kT kF
    refine tr_iload eX7_against_121 rfl ?_
    refine tr_aload_n eX7_against_123 rfl ?_
    refine tr_getI eX7_against_124 fk_X7_89 rfl rfl ?_
    refine tr_icmp_ge eX7_against_127 (fun h127 => ?_) (fun h127 => ?_)
    · skip
      exact TT.fg [10] (kF rfl)
    · skip
      exact absurd (lt_of hV (by omega) (by omega) h127) (by omega)
  | succ f ih =>
    intro i hi kT kF
    refine tr_iload eX7_against_121 rfl ?_
    refine tr_aload_n eX7_against_123 rfl ?_
    refine tr_getI eX7_against_124 fk_X7_89 rfl rfl ?_
    try simp (disch := decide) only [up_k, up_s, up_f]
    refine tr_icmp_ge eX7_against_127 (fun h127 => ?_) (fun h127 => ?_)
    · skip
      exact absurd (ge_of hV (by omega) (by omega) h127) (by omega)
    · skip
      have g127 := lt_of hV (by omega) (by omega) h127
      have hu : vp_in (nI i) 40 := vp_in_nI (by omega) (by decide)
      obtain ⟨cc, hc8, hc⟩ := hcc i (by omega)
      refine tr_iload eX7_against_130 rfl ?_
      refine tr_iload_n eX7_against_132 rfl ?_
      refine tr_icmp_eq eX7_against_133 (fun h133 => ?_) (fun h133 => ?_)
      · skip
        refine tr_iinc eX7_against_163 _ (by first | exact inc_n _ | rfl) rfl (by decide) rfl ?_
        refine tr_goto eX7_against_166 ?_
        have e : fi (fun u => s_ne v u && s_nbr σ n w u s a b) (f + 1) i = fi (fun u => s_ne v u && s_nbr σ n w u s a b) f (i + 1) := by rw [fi, if_neg (by simp_all [s_ne])]
        rw [e] at kT kF
        exact ih (i + 1) (by omega) kT kF
      · skip
        refine tr_aload_n eX7_against_136 rfl ?_
        refine tr_iload eX7_against_137 rfl ?_
        refine tr_iload_n eX7_against_139 rfl ?_
        refine tr_iload eX7_against_140 rfl ?_
        refine tr_iload eX7_against_142 rfl ?_
        refine tr_iload eX7_against_144 rfl ?_
        refine tr_ce5 eX7_against_146 zv_X7_isNeighbour zi_X7_isNeighbour lk_X7_141 ⟨rfl, by decide, by decide⟩ rfl rfl rfl (show CT mX7_isNeighbour _ _ (PE (some (bi (s_nbr σ n w (nI i) s a b = true))) _) from k_X7_isNeighbour hab (show i < 40 by omega) hc hc8 hs hn hb hp) ?_
        try simp (disch := decide) only [up_k, up_s, up_f]
        refine tr_if_ne eX7_against_149 (fun h149 => ?_) (fun h149 => ?_)
        · skip
          try first | replace h149 := bi_0 h149 | replace h149 := bi_n h149
          refine tr_aload_n eX7_against_155 rfl ?_
          refine tr_iload eX7_against_156 rfl ?_
          refine tr_put eX7_against_158 fp_X7_134 rfl rfl ?_
          refine tr_iconst eX7_against_161 (nI 3) ci_3 ?_
          refine tr_ret eX7_against_162 rfl rfl ?_
          have e : fi (fun u => s_ne v u && s_nbr σ n w u s a b) (f + 1) i = nI i := by rw [fi, if_pos (by simp_all [s_ne])]
          rw [e] at kT
          exact kT (nI_ne_m1 (by omega))
        · skip
          try first | replace h149 := bi_0 h149 | replace h149 := bi_n h149
          refine tr_goto eX7_against_152 ?_
          refine tr_iinc eX7_against_163 _ (by first | exact inc_n _ | rfl) rfl (by decide) rfl ?_
          refine tr_goto eX7_against_166 ?_
          have e : fi (fun u => s_ne v u && s_nbr σ n w u s a b) (f + 1) i = fi (fun u => s_ne v u && s_nbr σ n w u s a b) f (i + 1) := by rw [fi, if_neg (by simp_all [s_ne])]
          rw [e] at kT kF
          exact ih (i + 1) (by omega) kT kF
theorem lp_X7_against_118 {σ : tSt} {v kd w nd s a b : Int32} {n nC nV : Nat} (hab : a < b) (hss : vp_in s 24) (hV : σ 0 (nI 6) = nI nV) (hV40 : nV ≤ 40) (hcc : cOK σ) (hs : sOK σ) (hn : σ 0 (nI 4) = nI n) (hb : n ≤ 40) (hp : pOK σ n) (hC : σ 0 (nI 5) = nI nC) (hC20 : nC ≤ 20) (hk : kOK σ nC) (g18 : ¬ σ 2 s < w) (g30 : ¬ s_unf σ kd nd s a b = true) : TT mX7_against 118 [.ref 0, .int v, .int kd, .int w, .int nd, .int s, .int a, .int b, .null, .null, .null] [] (up σ 0 (nI 24) (-1)) (PE (some (s_ag σ n nC nV (s_ne v) kd w nd s a b).1) (up σ 0 (nI 24) (s_ag σ n nC nV (s_ne v) kd w nd s a b).2)) := by
  refine tr_iconst eX7_against_118 (nI 0) ci_0 ?_
  refine tr_istore eX7_against_119 (by decide) rfl ?_
  refine lp_X7_against_121 hab hss hV hV40 hcc hs hn hb hp hC hC20 hk nV 0 (by omega) (fun h1 => ?_) (fun h1 => ?_)
  · have e : s_ag σ n nC nV (s_ne v) kd w nd s a b = (nI 3, s_fn σ n nV (s_ne v) w s a b) := by rw [s_ag, if_neg g18, if_neg g30, if_pos (show s_fn σ n nV (s_ne v) w s a b ≠ -1 from h1)]
    exact ⟨by rw [e], by rw [e, up_up]; rfl⟩
  · skip
    refine tr_iconst eX7_against_169 (nI 0) ci_0 ?_
    refine tr_istore eX7_against_170 (by decide) rfl ?_
    refine lp_X7_against_172 hab hss hV hV40 hcc hs hn hb hp hC hC20 hk nC 0 (by omega) (fun h2 => ?_) (fun h2 => ?_)
    · have e : s_ag σ n nC nV (s_ne v) kd w nd s a b = (nI 4, s_fc σ nC s a b) := by rw [s_ag, if_neg g18, if_neg g30, if_neg (fun q => q h1), if_pos (show s_fc σ nC s a b ≠ -1 from h2)]
      exact ⟨by rw [e], by rw [e, up_up]; rfl⟩
    · skip
      refine tr_iconst eX7_against_234 (nI 0) ci_0 ?_
      refine tr_istore eX7_against_235 (by decide) rfl ?_
      refine lp_X7_against_237 hab hss hV hV40 hcc hs hn hb hp hC hC20 hk nV 0 (by omega) (fun h3 => ?_) (fun h3 => ?_)
      · have e : s_ag σ n nC nV (s_ne v) kd w nd s a b = (nI 5, s_ft σ nV (s_ne v) w s a b) := by rw [s_ag, if_neg g18, if_neg g30, if_neg (fun q => q h1), if_neg (fun q => q h2), if_pos (show s_ft σ nV (s_ne v) w s a b ≠ -1 from h3)]
        exact ⟨by rw [e], by rw [e, up_up]; rfl⟩
      · skip
        refine tr_iconst eX7_against_286 (nI 0) ci_0 ?_
        refine tr_ret eX7_against_287 rfl rfl ?_
        have e : s_ag σ n nC nV (s_ne v) kd w nd s a b = (nI 0, -1) := by rw [s_ag, if_neg g18, if_neg g30, if_neg (fun q => q h1), if_neg (fun q => q h2), if_neg (fun q => q h3)]
        exact ⟨by rw [e], by rw [e]⟩
theorem k_X7_against {σ : tSt} {v kd w nd s a b : Int32} {n nC nV : Nat} (hab : a < b) (hss : vp_in s 24) (hV : σ 0 (nI 6) = nI nV) (hV40 : nV ≤ 40) (hcc : cOK σ) (hs : sOK σ) (hn : σ 0 (nI 4) = nI n) (hb : n ≤ 40) (hp : pOK σ n) (hC : σ 0 (nI 5) = nI nC) (hC20 : nC ≤ 20) (hk : kOK σ nC) : CT mX7_against [.ref 0, .int v, .int kd, .int w, .int nd, .int s, .int a, .int b] σ (PE (some (s_ag σ n nC nV (s_ne v) kd w nd s a b).1) (up σ 0 (nI 24) (s_ag σ n nC nV (s_ne v) kd w nd s a b).2)) := by
  refine CT.of2 3 (by decide) rfl rfl ?_
  refine tr_aload_n eX7_against_0 rfl ?_
  refine tr_iconst eX7_against_1 (-1) ci_m1 ?_
  refine tr_put eX7_against_2 fp_X7_134 rfl rfl ?_
  refine tr_iload_n eX7_against_5 rfl ?_
  refine tr_aload_n eX7_against_6 rfl ?_
  refine tr_getR eX7_against_7 fk_X7_20 rfl rfl ?_
  refine tr_iload eX7_against_10 rfl ?_
  refine tr_iald eX7_against_12 rfl hss ?_
  try simp (disch := decide) only [up_k, up_s, up_f]
  refine tr_icmp_le eX7_against_13 (fun h13 => ?_) (fun h13 => ?_)
  · skip
    refine tr_aload_n eX7_against_18 rfl ?_
    refine tr_getR eX7_against_19 fk_X7_16 rfl rfl ?_
    refine tr_iload eX7_against_22 rfl ?_
    refine tr_iald eX7_against_24 rfl hss ?_
    try simp (disch := decide) only [up_k, up_s, up_f]
    refine tr_istore eX7_against_25 (by decide) rfl ?_
    refine tr_iload eX7_against_27 rfl ?_
    refine tr_iconst eX7_against_29 (nI 2) ci_2 ?_
    refine tr_icmp_eq eX7_against_30 (fun h30 => ?_) (fun h30 => ?_)
    · skip
      refine tr_iconst eX7_against_39 (nI 1) ci_1 ?_
      refine tr_goto eX7_against_40 ?_
      refine tr_istore eX7_against_44 (by decide) rfl ?_
      refine tr_iload eX7_against_46 rfl ?_
      refine tr_iconst eX7_against_48 (nI 1) ci_1 ?_
      refine tr_icmp_ne eX7_against_49 (fun h49 => ?_) (fun h49 => ?_)
      · skip
        refine tr_iload eX7_against_57 rfl ?_
        refine tr_iconst eX7_against_59 (nI 2) ci_2 ?_
        refine tr_icmp_ne eX7_against_60 (fun h60 => ?_) (fun h60 => ?_)
        · skip
          refine tr_iload_n eX7_against_69 rfl ?_
          refine tr_iconst eX7_against_70 (nI 3) ci_3 ?_
          refine tr_icmp_ne eX7_against_71 (fun h71 => ?_) (fun h71 => ?_)
          · skip
            refine tr_iload_n eX7_against_79 rfl ?_
            refine tr_iconst eX7_against_80 (nI 2) ci_2 ?_
            refine tr_icmp_ne eX7_against_81 (fun h81 => ?_) (fun h81 => ?_)
            · skip
              refine tr_iload_n eX7_against_90 rfl ?_
              refine tr_iconst eX7_against_91 (nI 4) ci_4 ?_
              refine tr_icmp_ne eX7_against_92 (fun h92 => ?_) (fun h92 => ?_)
              · skip
                refine TT.fg [8, 9] (lp_X7_against_118 hab hss hV hV40 hcc hs hn hb hp hC hC20 hk (Int32.not_lt.mpr h13) (by simp_all [s_unf, s_gate]))
              · skip
                refine tr_iload eX7_against_95 rfl ?_
                refine tr_if_eq eX7_against_97 (fun h97 => absurd h97 (by decide)) (fun _ => ?_)
                refine tr_iload eX7_against_100 rfl ?_
                refine tr_iload eX7_against_102 rfl ?_
                refine tr_sipush eX7_against_104 (nI 1320) (by decide) ?_
                refine tr_sipush eX7_against_107 (nI 1560) (by decide) ?_
                refine tr_se4 eX7_against_110 zv_X7_haveCommon zs_X7_haveCommon lk_X7_137 ⟨rfl, by decide, by decide⟩ rfl (k_X7_haveCommon hab hcN) ?_
                refine tr_if_eq eX7_against_113 (fun h113 => ?_) (fun h113 => ?_)
                · skip
                  try first | replace h113 := bi_0 h113 | replace h113 := bi_n h113
                  refine TT.fg [8, 9] (lp_X7_against_118 hab hss hV hV40 hcc hs hn hb hp hC hC20 hk (Int32.not_lt.mpr h13) (by simp_all [s_unf, s_gate]))
                · skip
                  try first | replace h113 := bi_0 h113 | replace h113 := bi_n h113
                  refine tr_iconst eX7_against_116 (nI 2) ci_2 ?_
                  refine tr_ret eX7_against_117 rfl rfl ?_
                  have g18 : ¬ σ 2 s < w := Int32.not_lt.mpr h13
                  have g30 : s_unf σ kd nd s a b = true := by simp_all [s_unf, s_gate]
                  have e : s_ag σ n nC nV (s_ne v) kd w nd s a b = (nI 2, -1) := by rw [s_ag, if_neg g18, if_pos g30]
                  exact ⟨by rw [e], by rw [e]⟩
            · skip
              refine tr_iload eX7_against_84 rfl ?_
              refine tr_iconst eX7_against_86 (nI 5) ci_5 ?_
              refine tr_icmp_eq eX7_against_87 (fun h87 => ?_) (fun h87 => ?_)
              · skip
                refine tr_iconst eX7_against_116 (nI 2) ci_2 ?_
                refine tr_ret eX7_against_117 rfl rfl ?_
                have g18 : ¬ σ 2 s < w := Int32.not_lt.mpr h13
                have g30 : s_unf σ kd nd s a b = true := by simp_all [s_unf, s_gate]
                have e : s_ag σ n nC nV (s_ne v) kd w nd s a b = (nI 2, -1) := by rw [s_ag, if_neg g18, if_pos g30]
                exact ⟨by rw [e], by rw [e]⟩
              · skip
                refine tr_iload_n eX7_against_90 rfl ?_
                refine tr_iconst eX7_against_91 (nI 4) ci_4 ?_
                refine tr_icmp_ne eX7_against_92 (fun h92 => ?_) (fun h92 => ?_)
                · skip
                  refine TT.fg [8, 9] (lp_X7_against_118 hab hss hV hV40 hcc hs hn hb hp hC hC20 hk (Int32.not_lt.mpr h13) (by simp_all [s_unf, s_gate]))
                · skip
                  refine tr_iload eX7_against_95 rfl ?_
                  refine tr_if_eq eX7_against_97 (fun h97 => absurd h97 (by decide)) (fun _ => ?_)
                  refine tr_iload eX7_against_100 rfl ?_
                  refine tr_iload eX7_against_102 rfl ?_
                  refine tr_sipush eX7_against_104 (nI 1320) (by decide) ?_
                  refine tr_sipush eX7_against_107 (nI 1560) (by decide) ?_
                  refine tr_se4 eX7_against_110 zv_X7_haveCommon zs_X7_haveCommon lk_X7_137 ⟨rfl, by decide, by decide⟩ rfl (k_X7_haveCommon hab hcN) ?_
                  refine tr_if_eq eX7_against_113 (fun h113 => ?_) (fun h113 => ?_)
                  · skip
                    try first | replace h113 := bi_0 h113 | replace h113 := bi_n h113
                    refine TT.fg [8, 9] (lp_X7_against_118 hab hss hV hV40 hcc hs hn hb hp hC hC20 hk (Int32.not_lt.mpr h13) (by simp_all [s_unf, s_gate]))
                  · skip
                    try first | replace h113 := bi_0 h113 | replace h113 := bi_n h113
                    refine tr_iconst eX7_against_116 (nI 2) ci_2 ?_
                    refine tr_ret eX7_against_117 rfl rfl ?_
                    have g18 : ¬ σ 2 s < w := Int32.not_lt.mpr h13
                    have g30 : s_unf σ kd nd s a b = true := by simp_all [s_unf, s_gate]
                    have e : s_ag σ n nC nV (s_ne v) kd w nd s a b = (nI 2, -1) := by rw [s_ag, if_neg g18, if_pos g30]
                    exact ⟨by rw [e], by rw [e]⟩
          · skip
            refine tr_iload eX7_against_74 rfl ?_
            refine tr_if_ne eX7_against_76 (fun _ => ?_) (fun h76 => absurd h76 (by decide))
            refine tr_iconst eX7_against_116 (nI 2) ci_2 ?_
            refine tr_ret eX7_against_117 rfl rfl ?_
            have g18 : ¬ σ 2 s < w := Int32.not_lt.mpr h13
            have g30 : s_unf σ kd nd s a b = true := by simp_all [s_unf, s_gate]
            have e : s_ag σ n nC nV (s_ne v) kd w nd s a b = (nI 2, -1) := by rw [s_ag, if_neg g18, if_pos g30]
            exact ⟨by rw [e], by rw [e]⟩
        · skip
          refine tr_iload eX7_against_63 rfl ?_
          refine tr_iconst eX7_against_65 (nI 5) ci_5 ?_
          refine tr_icmp_ne eX7_against_66 (fun h66 => ?_) (fun h66 => ?_)
          · skip
            refine tr_iconst eX7_against_116 (nI 2) ci_2 ?_
            refine tr_ret eX7_against_117 rfl rfl ?_
            have g18 : ¬ σ 2 s < w := Int32.not_lt.mpr h13
            have g30 : s_unf σ kd nd s a b = true := by simp_all [s_unf, s_gate]
            have e : s_ag σ n nC nV (s_ne v) kd w nd s a b = (nI 2, -1) := by rw [s_ag, if_neg g18, if_pos g30]
            exact ⟨by rw [e], by rw [e]⟩
          · skip
            refine tr_iload_n eX7_against_69 rfl ?_
            refine tr_iconst eX7_against_70 (nI 3) ci_3 ?_
            refine tr_icmp_ne eX7_against_71 (fun h71 => ?_) (fun h71 => ?_)
            · skip
              refine tr_iload_n eX7_against_79 rfl ?_
              refine tr_iconst eX7_against_80 (nI 2) ci_2 ?_
              refine tr_icmp_ne eX7_against_81 (fun h81 => ?_) (fun h81 => ?_)
              · skip
                refine tr_iload_n eX7_against_90 rfl ?_
                refine tr_iconst eX7_against_91 (nI 4) ci_4 ?_
                refine tr_icmp_ne eX7_against_92 (fun h92 => ?_) (fun h92 => ?_)
                · skip
                  refine TT.fg [8, 9] (lp_X7_against_118 hab hss hV hV40 hcc hs hn hb hp hC hC20 hk (Int32.not_lt.mpr h13) (by simp_all [s_unf, s_gate]))
                · skip
                  refine tr_iload eX7_against_95 rfl ?_
                  refine tr_if_eq eX7_against_97 (fun h97 => absurd h97 (by decide)) (fun _ => ?_)
                  refine tr_iload eX7_against_100 rfl ?_
                  refine tr_iload eX7_against_102 rfl ?_
                  refine tr_sipush eX7_against_104 (nI 1320) (by decide) ?_
                  refine tr_sipush eX7_against_107 (nI 1560) (by decide) ?_
                  refine tr_se4 eX7_against_110 zv_X7_haveCommon zs_X7_haveCommon lk_X7_137 ⟨rfl, by decide, by decide⟩ rfl (k_X7_haveCommon hab hcN) ?_
                  refine tr_if_eq eX7_against_113 (fun h113 => ?_) (fun h113 => ?_)
                  · skip
                    try first | replace h113 := bi_0 h113 | replace h113 := bi_n h113
                    refine TT.fg [8, 9] (lp_X7_against_118 hab hss hV hV40 hcc hs hn hb hp hC hC20 hk (Int32.not_lt.mpr h13) (by simp_all [s_unf, s_gate]))
                  · skip
                    try first | replace h113 := bi_0 h113 | replace h113 := bi_n h113
                    refine tr_iconst eX7_against_116 (nI 2) ci_2 ?_
                    refine tr_ret eX7_against_117 rfl rfl ?_
                    have g18 : ¬ σ 2 s < w := Int32.not_lt.mpr h13
                    have g30 : s_unf σ kd nd s a b = true := by simp_all [s_unf, s_gate]
                    have e : s_ag σ n nC nV (s_ne v) kd w nd s a b = (nI 2, -1) := by rw [s_ag, if_neg g18, if_pos g30]
                    exact ⟨by rw [e], by rw [e]⟩
              · skip
                refine tr_iload eX7_against_84 rfl ?_
                refine tr_iconst eX7_against_86 (nI 5) ci_5 ?_
                refine tr_icmp_eq eX7_against_87 (fun h87 => ?_) (fun h87 => ?_)
                · skip
                  refine tr_iconst eX7_against_116 (nI 2) ci_2 ?_
                  refine tr_ret eX7_against_117 rfl rfl ?_
                  have g18 : ¬ σ 2 s < w := Int32.not_lt.mpr h13
                  have g30 : s_unf σ kd nd s a b = true := by simp_all [s_unf, s_gate]
                  have e : s_ag σ n nC nV (s_ne v) kd w nd s a b = (nI 2, -1) := by rw [s_ag, if_neg g18, if_pos g30]
                  exact ⟨by rw [e], by rw [e]⟩
                · skip
                  refine tr_iload_n eX7_against_90 rfl ?_
                  refine tr_iconst eX7_against_91 (nI 4) ci_4 ?_
                  refine tr_icmp_ne eX7_against_92 (fun h92 => ?_) (fun h92 => ?_)
                  · skip
                    refine TT.fg [8, 9] (lp_X7_against_118 hab hss hV hV40 hcc hs hn hb hp hC hC20 hk (Int32.not_lt.mpr h13) (by simp_all [s_unf, s_gate]))
                  · skip
                    refine tr_iload eX7_against_95 rfl ?_
                    refine tr_if_eq eX7_against_97 (fun h97 => absurd h97 (by decide)) (fun _ => ?_)
                    refine tr_iload eX7_against_100 rfl ?_
                    refine tr_iload eX7_against_102 rfl ?_
                    refine tr_sipush eX7_against_104 (nI 1320) (by decide) ?_
                    refine tr_sipush eX7_against_107 (nI 1560) (by decide) ?_
                    refine tr_se4 eX7_against_110 zv_X7_haveCommon zs_X7_haveCommon lk_X7_137 ⟨rfl, by decide, by decide⟩ rfl (k_X7_haveCommon hab hcN) ?_
                    refine tr_if_eq eX7_against_113 (fun h113 => ?_) (fun h113 => ?_)
                    · skip
                      try first | replace h113 := bi_0 h113 | replace h113 := bi_n h113
                      refine TT.fg [8, 9] (lp_X7_against_118 hab hss hV hV40 hcc hs hn hb hp hC hC20 hk (Int32.not_lt.mpr h13) (by simp_all [s_unf, s_gate]))
                    · skip
                      try first | replace h113 := bi_0 h113 | replace h113 := bi_n h113
                      refine tr_iconst eX7_against_116 (nI 2) ci_2 ?_
                      refine tr_ret eX7_against_117 rfl rfl ?_
                      have g18 : ¬ σ 2 s < w := Int32.not_lt.mpr h13
                      have g30 : s_unf σ kd nd s a b = true := by simp_all [s_unf, s_gate]
                      have e : s_ag σ n nC nV (s_ne v) kd w nd s a b = (nI 2, -1) := by rw [s_ag, if_neg g18, if_pos g30]
                      exact ⟨by rw [e], by rw [e]⟩
            · skip
              refine tr_iload eX7_against_74 rfl ?_
              refine tr_if_ne eX7_against_76 (fun _ => ?_) (fun h76 => absurd h76 (by decide))
              refine tr_iconst eX7_against_116 (nI 2) ci_2 ?_
              refine tr_ret eX7_against_117 rfl rfl ?_
              have g18 : ¬ σ 2 s < w := Int32.not_lt.mpr h13
              have g30 : s_unf σ kd nd s a b = true := by simp_all [s_unf, s_gate]
              have e : s_ag σ n nC nV (s_ne v) kd w nd s a b = (nI 2, -1) := by rw [s_ag, if_neg g18, if_pos g30]
              exact ⟨by rw [e], by rw [e]⟩
      · skip
        refine tr_iload eX7_against_52 rfl ?_
        refine tr_if_eq eX7_against_54 (fun h54 => absurd h54 (by decide)) (fun _ => ?_)
        refine tr_iload eX7_against_57 rfl ?_
        refine tr_iconst eX7_against_59 (nI 2) ci_2 ?_
        refine tr_icmp_ne eX7_against_60 (fun h60 => ?_) (fun h60 => ?_)
        · skip
          refine tr_iload_n eX7_against_69 rfl ?_
          refine tr_iconst eX7_against_70 (nI 3) ci_3 ?_
          refine tr_icmp_ne eX7_against_71 (fun h71 => ?_) (fun h71 => ?_)
          · skip
            refine tr_iload_n eX7_against_79 rfl ?_
            refine tr_iconst eX7_against_80 (nI 2) ci_2 ?_
            refine tr_icmp_ne eX7_against_81 (fun h81 => ?_) (fun h81 => ?_)
            · skip
              refine tr_iload_n eX7_against_90 rfl ?_
              refine tr_iconst eX7_against_91 (nI 4) ci_4 ?_
              refine tr_icmp_ne eX7_against_92 (fun h92 => ?_) (fun h92 => ?_)
              · skip
                refine TT.fg [8, 9] (lp_X7_against_118 hab hss hV hV40 hcc hs hn hb hp hC hC20 hk (Int32.not_lt.mpr h13) (by simp_all [s_unf, s_gate]))
              · skip
                refine tr_iload eX7_against_95 rfl ?_
                refine tr_if_eq eX7_against_97 (fun h97 => absurd h97 (by decide)) (fun _ => ?_)
                refine tr_iload eX7_against_100 rfl ?_
                refine tr_iload eX7_against_102 rfl ?_
                refine tr_sipush eX7_against_104 (nI 1320) (by decide) ?_
                refine tr_sipush eX7_against_107 (nI 1560) (by decide) ?_
                refine tr_se4 eX7_against_110 zv_X7_haveCommon zs_X7_haveCommon lk_X7_137 ⟨rfl, by decide, by decide⟩ rfl (k_X7_haveCommon hab hcN) ?_
                refine tr_if_eq eX7_against_113 (fun h113 => ?_) (fun h113 => ?_)
                · skip
                  try first | replace h113 := bi_0 h113 | replace h113 := bi_n h113
                  refine TT.fg [8, 9] (lp_X7_against_118 hab hss hV hV40 hcc hs hn hb hp hC hC20 hk (Int32.not_lt.mpr h13) (by simp_all [s_unf, s_gate]))
                · skip
                  try first | replace h113 := bi_0 h113 | replace h113 := bi_n h113
                  refine tr_iconst eX7_against_116 (nI 2) ci_2 ?_
                  refine tr_ret eX7_against_117 rfl rfl ?_
                  have g18 : ¬ σ 2 s < w := Int32.not_lt.mpr h13
                  have g30 : s_unf σ kd nd s a b = true := by simp_all [s_unf, s_gate]
                  have e : s_ag σ n nC nV (s_ne v) kd w nd s a b = (nI 2, -1) := by rw [s_ag, if_neg g18, if_pos g30]
                  exact ⟨by rw [e], by rw [e]⟩
            · skip
              refine tr_iload eX7_against_84 rfl ?_
              refine tr_iconst eX7_against_86 (nI 5) ci_5 ?_
              refine tr_icmp_eq eX7_against_87 (fun h87 => ?_) (fun h87 => ?_)
              · skip
                refine tr_iconst eX7_against_116 (nI 2) ci_2 ?_
                refine tr_ret eX7_against_117 rfl rfl ?_
                have g18 : ¬ σ 2 s < w := Int32.not_lt.mpr h13
                have g30 : s_unf σ kd nd s a b = true := by simp_all [s_unf, s_gate]
                have e : s_ag σ n nC nV (s_ne v) kd w nd s a b = (nI 2, -1) := by rw [s_ag, if_neg g18, if_pos g30]
                exact ⟨by rw [e], by rw [e]⟩
              · skip
                refine tr_iload_n eX7_against_90 rfl ?_
                refine tr_iconst eX7_against_91 (nI 4) ci_4 ?_
                refine tr_icmp_ne eX7_against_92 (fun h92 => ?_) (fun h92 => ?_)
                · skip
                  refine TT.fg [8, 9] (lp_X7_against_118 hab hss hV hV40 hcc hs hn hb hp hC hC20 hk (Int32.not_lt.mpr h13) (by simp_all [s_unf, s_gate]))
                · skip
                  refine tr_iload eX7_against_95 rfl ?_
                  refine tr_if_eq eX7_against_97 (fun h97 => absurd h97 (by decide)) (fun _ => ?_)
                  refine tr_iload eX7_against_100 rfl ?_
                  refine tr_iload eX7_against_102 rfl ?_
                  refine tr_sipush eX7_against_104 (nI 1320) (by decide) ?_
                  refine tr_sipush eX7_against_107 (nI 1560) (by decide) ?_
                  refine tr_se4 eX7_against_110 zv_X7_haveCommon zs_X7_haveCommon lk_X7_137 ⟨rfl, by decide, by decide⟩ rfl (k_X7_haveCommon hab hcN) ?_
                  refine tr_if_eq eX7_against_113 (fun h113 => ?_) (fun h113 => ?_)
                  · skip
                    try first | replace h113 := bi_0 h113 | replace h113 := bi_n h113
                    refine TT.fg [8, 9] (lp_X7_against_118 hab hss hV hV40 hcc hs hn hb hp hC hC20 hk (Int32.not_lt.mpr h13) (by simp_all [s_unf, s_gate]))
                  · skip
                    try first | replace h113 := bi_0 h113 | replace h113 := bi_n h113
                    refine tr_iconst eX7_against_116 (nI 2) ci_2 ?_
                    refine tr_ret eX7_against_117 rfl rfl ?_
                    have g18 : ¬ σ 2 s < w := Int32.not_lt.mpr h13
                    have g30 : s_unf σ kd nd s a b = true := by simp_all [s_unf, s_gate]
                    have e : s_ag σ n nC nV (s_ne v) kd w nd s a b = (nI 2, -1) := by rw [s_ag, if_neg g18, if_pos g30]
                    exact ⟨by rw [e], by rw [e]⟩
          · skip
            refine tr_iload eX7_against_74 rfl ?_
            refine tr_if_ne eX7_against_76 (fun _ => ?_) (fun h76 => absurd h76 (by decide))
            refine tr_iconst eX7_against_116 (nI 2) ci_2 ?_
            refine tr_ret eX7_against_117 rfl rfl ?_
            have g18 : ¬ σ 2 s < w := Int32.not_lt.mpr h13
            have g30 : s_unf σ kd nd s a b = true := by simp_all [s_unf, s_gate]
            have e : s_ag σ n nC nV (s_ne v) kd w nd s a b = (nI 2, -1) := by rw [s_ag, if_neg g18, if_pos g30]
            exact ⟨by rw [e], by rw [e]⟩
        · skip
          refine tr_iload eX7_against_63 rfl ?_
          refine tr_iconst eX7_against_65 (nI 5) ci_5 ?_
          refine tr_icmp_ne eX7_against_66 (fun h66 => ?_) (fun h66 => ?_)
          · skip
            refine tr_iconst eX7_against_116 (nI 2) ci_2 ?_
            refine tr_ret eX7_against_117 rfl rfl ?_
            have g18 : ¬ σ 2 s < w := Int32.not_lt.mpr h13
            have g30 : s_unf σ kd nd s a b = true := by simp_all [s_unf, s_gate]
            have e : s_ag σ n nC nV (s_ne v) kd w nd s a b = (nI 2, -1) := by rw [s_ag, if_neg g18, if_pos g30]
            exact ⟨by rw [e], by rw [e]⟩
          · skip
            refine tr_iload_n eX7_against_69 rfl ?_
            refine tr_iconst eX7_against_70 (nI 3) ci_3 ?_
            refine tr_icmp_ne eX7_against_71 (fun h71 => ?_) (fun h71 => ?_)
            · skip
              refine tr_iload_n eX7_against_79 rfl ?_
              refine tr_iconst eX7_against_80 (nI 2) ci_2 ?_
              refine tr_icmp_ne eX7_against_81 (fun h81 => ?_) (fun h81 => ?_)
              · skip
                refine tr_iload_n eX7_against_90 rfl ?_
                refine tr_iconst eX7_against_91 (nI 4) ci_4 ?_
                refine tr_icmp_ne eX7_against_92 (fun h92 => ?_) (fun h92 => ?_)
                · skip
                  refine TT.fg [8, 9] (lp_X7_against_118 hab hss hV hV40 hcc hs hn hb hp hC hC20 hk (Int32.not_lt.mpr h13) (by simp_all [s_unf, s_gate]))
                · skip
                  refine tr_iload eX7_against_95 rfl ?_
                  refine tr_if_eq eX7_against_97 (fun h97 => absurd h97 (by decide)) (fun _ => ?_)
                  refine tr_iload eX7_against_100 rfl ?_
                  refine tr_iload eX7_against_102 rfl ?_
                  refine tr_sipush eX7_against_104 (nI 1320) (by decide) ?_
                  refine tr_sipush eX7_against_107 (nI 1560) (by decide) ?_
                  refine tr_se4 eX7_against_110 zv_X7_haveCommon zs_X7_haveCommon lk_X7_137 ⟨rfl, by decide, by decide⟩ rfl (k_X7_haveCommon hab hcN) ?_
                  refine tr_if_eq eX7_against_113 (fun h113 => ?_) (fun h113 => ?_)
                  · skip
                    try first | replace h113 := bi_0 h113 | replace h113 := bi_n h113
                    refine TT.fg [8, 9] (lp_X7_against_118 hab hss hV hV40 hcc hs hn hb hp hC hC20 hk (Int32.not_lt.mpr h13) (by simp_all [s_unf, s_gate]))
                  · skip
                    try first | replace h113 := bi_0 h113 | replace h113 := bi_n h113
                    refine tr_iconst eX7_against_116 (nI 2) ci_2 ?_
                    refine tr_ret eX7_against_117 rfl rfl ?_
                    have g18 : ¬ σ 2 s < w := Int32.not_lt.mpr h13
                    have g30 : s_unf σ kd nd s a b = true := by simp_all [s_unf, s_gate]
                    have e : s_ag σ n nC nV (s_ne v) kd w nd s a b = (nI 2, -1) := by rw [s_ag, if_neg g18, if_pos g30]
                    exact ⟨by rw [e], by rw [e]⟩
              · skip
                refine tr_iload eX7_against_84 rfl ?_
                refine tr_iconst eX7_against_86 (nI 5) ci_5 ?_
                refine tr_icmp_eq eX7_against_87 (fun h87 => ?_) (fun h87 => ?_)
                · skip
                  refine tr_iconst eX7_against_116 (nI 2) ci_2 ?_
                  refine tr_ret eX7_against_117 rfl rfl ?_
                  have g18 : ¬ σ 2 s < w := Int32.not_lt.mpr h13
                  have g30 : s_unf σ kd nd s a b = true := by simp_all [s_unf, s_gate]
                  have e : s_ag σ n nC nV (s_ne v) kd w nd s a b = (nI 2, -1) := by rw [s_ag, if_neg g18, if_pos g30]
                  exact ⟨by rw [e], by rw [e]⟩
                · skip
                  refine tr_iload_n eX7_against_90 rfl ?_
                  refine tr_iconst eX7_against_91 (nI 4) ci_4 ?_
                  refine tr_icmp_ne eX7_against_92 (fun h92 => ?_) (fun h92 => ?_)
                  · skip
                    refine TT.fg [8, 9] (lp_X7_against_118 hab hss hV hV40 hcc hs hn hb hp hC hC20 hk (Int32.not_lt.mpr h13) (by simp_all [s_unf, s_gate]))
                  · skip
                    refine tr_iload eX7_against_95 rfl ?_
                    refine tr_if_eq eX7_against_97 (fun h97 => absurd h97 (by decide)) (fun _ => ?_)
                    refine tr_iload eX7_against_100 rfl ?_
                    refine tr_iload eX7_against_102 rfl ?_
                    refine tr_sipush eX7_against_104 (nI 1320) (by decide) ?_
                    refine tr_sipush eX7_against_107 (nI 1560) (by decide) ?_
                    refine tr_se4 eX7_against_110 zv_X7_haveCommon zs_X7_haveCommon lk_X7_137 ⟨rfl, by decide, by decide⟩ rfl (k_X7_haveCommon hab hcN) ?_
                    refine tr_if_eq eX7_against_113 (fun h113 => ?_) (fun h113 => ?_)
                    · skip
                      try first | replace h113 := bi_0 h113 | replace h113 := bi_n h113
                      refine TT.fg [8, 9] (lp_X7_against_118 hab hss hV hV40 hcc hs hn hb hp hC hC20 hk (Int32.not_lt.mpr h13) (by simp_all [s_unf, s_gate]))
                    · skip
                      try first | replace h113 := bi_0 h113 | replace h113 := bi_n h113
                      refine tr_iconst eX7_against_116 (nI 2) ci_2 ?_
                      refine tr_ret eX7_against_117 rfl rfl ?_
                      have g18 : ¬ σ 2 s < w := Int32.not_lt.mpr h13
                      have g30 : s_unf σ kd nd s a b = true := by simp_all [s_unf, s_gate]
                      have e : s_ag σ n nC nV (s_ne v) kd w nd s a b = (nI 2, -1) := by rw [s_ag, if_neg g18, if_pos g30]
                      exact ⟨by rw [e], by rw [e]⟩
            · skip
              refine tr_iload eX7_against_74 rfl ?_
              refine tr_if_ne eX7_against_76 (fun _ => ?_) (fun h76 => absurd h76 (by decide))
              refine tr_iconst eX7_against_116 (nI 2) ci_2 ?_
              refine tr_ret eX7_against_117 rfl rfl ?_
              have g18 : ¬ σ 2 s < w := Int32.not_lt.mpr h13
              have g30 : s_unf σ kd nd s a b = true := by simp_all [s_unf, s_gate]
              have e : s_ag σ n nC nV (s_ne v) kd w nd s a b = (nI 2, -1) := by rw [s_ag, if_neg g18, if_pos g30]
              exact ⟨by rw [e], by rw [e]⟩
    · skip
      refine tr_iload eX7_against_33 rfl ?_
      refine tr_iconst eX7_against_35 (nI 3) ci_3 ?_
      refine tr_icmp_ne eX7_against_36 (fun h36 => ?_) (fun h36 => ?_)
      · skip
        refine tr_iconst eX7_against_43 (nI 0) ci_0 ?_
        refine tr_istore eX7_against_44 (by decide) rfl ?_
        refine tr_iload eX7_against_46 rfl ?_
        refine tr_iconst eX7_against_48 (nI 1) ci_1 ?_
        refine tr_icmp_ne eX7_against_49 (fun h49 => ?_) (fun h49 => ?_)
        · skip
          refine tr_iload eX7_against_57 rfl ?_
          refine tr_iconst eX7_against_59 (nI 2) ci_2 ?_
          refine tr_icmp_ne eX7_against_60 (fun h60 => ?_) (fun h60 => ?_)
          · skip
            refine tr_iload_n eX7_against_69 rfl ?_
            refine tr_iconst eX7_against_70 (nI 3) ci_3 ?_
            refine tr_icmp_ne eX7_against_71 (fun h71 => ?_) (fun h71 => ?_)
            · skip
              refine tr_iload_n eX7_against_79 rfl ?_
              refine tr_iconst eX7_against_80 (nI 2) ci_2 ?_
              refine tr_icmp_ne eX7_against_81 (fun h81 => ?_) (fun h81 => ?_)
              · skip
                refine tr_iload_n eX7_against_90 rfl ?_
                refine tr_iconst eX7_against_91 (nI 4) ci_4 ?_
                refine tr_icmp_ne eX7_against_92 (fun h92 => ?_) (fun h92 => ?_)
                · skip
                  refine TT.fg [8, 9] (lp_X7_against_118 hab hss hV hV40 hcc hs hn hb hp hC hC20 hk (Int32.not_lt.mpr h13) (by simp_all [s_unf, s_gate]))
                · skip
                  refine tr_iload eX7_against_95 rfl ?_
                  refine tr_if_eq eX7_against_97 (fun _ => ?_) (fun h97 => absurd h97 (by decide))
                  refine TT.fg [8, 9] (lp_X7_against_118 hab hss hV hV40 hcc hs hn hb hp hC hC20 hk (Int32.not_lt.mpr h13) (by simp_all [s_unf, s_gate]))
              · skip
                refine tr_iload eX7_against_84 rfl ?_
                refine tr_iconst eX7_against_86 (nI 5) ci_5 ?_
                refine tr_icmp_eq eX7_against_87 (fun h87 => ?_) (fun h87 => ?_)
                · skip
                  refine tr_iconst eX7_against_116 (nI 2) ci_2 ?_
                  refine tr_ret eX7_against_117 rfl rfl ?_
                  have g18 : ¬ σ 2 s < w := Int32.not_lt.mpr h13
                  have g30 : s_unf σ kd nd s a b = true := by simp_all [s_unf, s_gate]
                  have e : s_ag σ n nC nV (s_ne v) kd w nd s a b = (nI 2, -1) := by rw [s_ag, if_neg g18, if_pos g30]
                  exact ⟨by rw [e], by rw [e]⟩
                · skip
                  refine tr_iload_n eX7_against_90 rfl ?_
                  refine tr_iconst eX7_against_91 (nI 4) ci_4 ?_
                  refine tr_icmp_ne eX7_against_92 (fun h92 => ?_) (fun h92 => ?_)
                  · skip
                    refine TT.fg [8, 9] (lp_X7_against_118 hab hss hV hV40 hcc hs hn hb hp hC hC20 hk (Int32.not_lt.mpr h13) (by simp_all [s_unf, s_gate]))
                  · skip
                    refine tr_iload eX7_against_95 rfl ?_
                    refine tr_if_eq eX7_against_97 (fun _ => ?_) (fun h97 => absurd h97 (by decide))
                    refine TT.fg [8, 9] (lp_X7_against_118 hab hss hV hV40 hcc hs hn hb hp hC hC20 hk (Int32.not_lt.mpr h13) (by simp_all [s_unf, s_gate]))
            · skip
              refine tr_iload eX7_against_74 rfl ?_
              refine tr_if_ne eX7_against_76 (fun h76 => absurd h76 (by decide)) (fun _ => ?_)
              refine tr_iload_n eX7_against_79 rfl ?_
              refine tr_iconst eX7_against_80 (nI 2) ci_2 ?_
              refine tr_icmp_ne eX7_against_81 (fun h81 => ?_) (fun h81 => ?_)
              · skip
                refine tr_iload_n eX7_against_90 rfl ?_
                refine tr_iconst eX7_against_91 (nI 4) ci_4 ?_
                refine tr_icmp_ne eX7_against_92 (fun h92 => ?_) (fun h92 => ?_)
                · skip
                  refine TT.fg [8, 9] (lp_X7_against_118 hab hss hV hV40 hcc hs hn hb hp hC hC20 hk (Int32.not_lt.mpr h13) (by simp_all [s_unf, s_gate]))
                · skip
                  refine tr_iload eX7_against_95 rfl ?_
                  refine tr_if_eq eX7_against_97 (fun _ => ?_) (fun h97 => absurd h97 (by decide))
                  refine TT.fg [8, 9] (lp_X7_against_118 hab hss hV hV40 hcc hs hn hb hp hC hC20 hk (Int32.not_lt.mpr h13) (by simp_all [s_unf, s_gate]))
              · skip
                refine tr_iload eX7_against_84 rfl ?_
                refine tr_iconst eX7_against_86 (nI 5) ci_5 ?_
                refine tr_icmp_eq eX7_against_87 (fun h87 => ?_) (fun h87 => ?_)
                · skip
                  refine tr_iconst eX7_against_116 (nI 2) ci_2 ?_
                  refine tr_ret eX7_against_117 rfl rfl ?_
                  have g18 : ¬ σ 2 s < w := Int32.not_lt.mpr h13
                  have g30 : s_unf σ kd nd s a b = true := by simp_all [s_unf, s_gate]
                  have e : s_ag σ n nC nV (s_ne v) kd w nd s a b = (nI 2, -1) := by rw [s_ag, if_neg g18, if_pos g30]
                  exact ⟨by rw [e], by rw [e]⟩
                · skip
                  refine tr_iload_n eX7_against_90 rfl ?_
                  refine tr_iconst eX7_against_91 (nI 4) ci_4 ?_
                  refine tr_icmp_ne eX7_against_92 (fun h92 => ?_) (fun h92 => ?_)
                  · skip
                    refine TT.fg [8, 9] (lp_X7_against_118 hab hss hV hV40 hcc hs hn hb hp hC hC20 hk (Int32.not_lt.mpr h13) (by simp_all [s_unf, s_gate]))
                  · skip
                    refine tr_iload eX7_against_95 rfl ?_
                    refine tr_if_eq eX7_against_97 (fun _ => ?_) (fun h97 => absurd h97 (by decide))
                    refine TT.fg [8, 9] (lp_X7_against_118 hab hss hV hV40 hcc hs hn hb hp hC hC20 hk (Int32.not_lt.mpr h13) (by simp_all [s_unf, s_gate]))
          · skip
            refine tr_iload eX7_against_63 rfl ?_
            refine tr_iconst eX7_against_65 (nI 5) ci_5 ?_
            refine tr_icmp_ne eX7_against_66 (fun h66 => ?_) (fun h66 => ?_)
            · skip
              refine tr_iconst eX7_against_116 (nI 2) ci_2 ?_
              refine tr_ret eX7_against_117 rfl rfl ?_
              have g18 : ¬ σ 2 s < w := Int32.not_lt.mpr h13
              have g30 : s_unf σ kd nd s a b = true := by simp_all [s_unf, s_gate]
              have e : s_ag σ n nC nV (s_ne v) kd w nd s a b = (nI 2, -1) := by rw [s_ag, if_neg g18, if_pos g30]
              exact ⟨by rw [e], by rw [e]⟩
            · skip
              refine tr_iload_n eX7_against_69 rfl ?_
              refine tr_iconst eX7_against_70 (nI 3) ci_3 ?_
              refine tr_icmp_ne eX7_against_71 (fun h71 => ?_) (fun h71 => ?_)
              · skip
                refine tr_iload_n eX7_against_79 rfl ?_
                refine tr_iconst eX7_against_80 (nI 2) ci_2 ?_
                refine tr_icmp_ne eX7_against_81 (fun h81 => ?_) (fun h81 => ?_)
                · skip
                  refine tr_iload_n eX7_against_90 rfl ?_
                  refine tr_iconst eX7_against_91 (nI 4) ci_4 ?_
                  refine tr_icmp_ne eX7_against_92 (fun h92 => ?_) (fun h92 => ?_)
                  · skip
                    refine TT.fg [8, 9] (lp_X7_against_118 hab hss hV hV40 hcc hs hn hb hp hC hC20 hk (Int32.not_lt.mpr h13) (by simp_all [s_unf, s_gate]))
                  · skip
                    refine tr_iload eX7_against_95 rfl ?_
                    refine tr_if_eq eX7_against_97 (fun _ => ?_) (fun h97 => absurd h97 (by decide))
                    refine TT.fg [8, 9] (lp_X7_against_118 hab hss hV hV40 hcc hs hn hb hp hC hC20 hk (Int32.not_lt.mpr h13) (by simp_all [s_unf, s_gate]))
                · skip
                  refine tr_iload eX7_against_84 rfl ?_
                  refine tr_iconst eX7_against_86 (nI 5) ci_5 ?_
                  refine tr_icmp_eq eX7_against_87 (fun h87 => ?_) (fun h87 => ?_)
                  · skip
                    refine tr_iconst eX7_against_116 (nI 2) ci_2 ?_
                    refine tr_ret eX7_against_117 rfl rfl ?_
                    have g18 : ¬ σ 2 s < w := Int32.not_lt.mpr h13
                    have g30 : s_unf σ kd nd s a b = true := by simp_all [s_unf, s_gate]
                    have e : s_ag σ n nC nV (s_ne v) kd w nd s a b = (nI 2, -1) := by rw [s_ag, if_neg g18, if_pos g30]
                    exact ⟨by rw [e], by rw [e]⟩
                  · skip
                    refine tr_iload_n eX7_against_90 rfl ?_
                    refine tr_iconst eX7_against_91 (nI 4) ci_4 ?_
                    refine tr_icmp_ne eX7_against_92 (fun h92 => ?_) (fun h92 => ?_)
                    · skip
                      refine TT.fg [8, 9] (lp_X7_against_118 hab hss hV hV40 hcc hs hn hb hp hC hC20 hk (Int32.not_lt.mpr h13) (by simp_all [s_unf, s_gate]))
                    · skip
                      refine tr_iload eX7_against_95 rfl ?_
                      refine tr_if_eq eX7_against_97 (fun _ => ?_) (fun h97 => absurd h97 (by decide))
                      refine TT.fg [8, 9] (lp_X7_against_118 hab hss hV hV40 hcc hs hn hb hp hC hC20 hk (Int32.not_lt.mpr h13) (by simp_all [s_unf, s_gate]))
              · skip
                refine tr_iload eX7_against_74 rfl ?_
                refine tr_if_ne eX7_against_76 (fun h76 => absurd h76 (by decide)) (fun _ => ?_)
                refine tr_iload_n eX7_against_79 rfl ?_
                refine tr_iconst eX7_against_80 (nI 2) ci_2 ?_
                refine tr_icmp_ne eX7_against_81 (fun h81 => ?_) (fun h81 => ?_)
                · skip
                  refine tr_iload_n eX7_against_90 rfl ?_
                  refine tr_iconst eX7_against_91 (nI 4) ci_4 ?_
                  refine tr_icmp_ne eX7_against_92 (fun h92 => ?_) (fun h92 => ?_)
                  · skip
                    refine TT.fg [8, 9] (lp_X7_against_118 hab hss hV hV40 hcc hs hn hb hp hC hC20 hk (Int32.not_lt.mpr h13) (by simp_all [s_unf, s_gate]))
                  · skip
                    refine tr_iload eX7_against_95 rfl ?_
                    refine tr_if_eq eX7_against_97 (fun _ => ?_) (fun h97 => absurd h97 (by decide))
                    refine TT.fg [8, 9] (lp_X7_against_118 hab hss hV hV40 hcc hs hn hb hp hC hC20 hk (Int32.not_lt.mpr h13) (by simp_all [s_unf, s_gate]))
                · skip
                  refine tr_iload eX7_against_84 rfl ?_
                  refine tr_iconst eX7_against_86 (nI 5) ci_5 ?_
                  refine tr_icmp_eq eX7_against_87 (fun h87 => ?_) (fun h87 => ?_)
                  · skip
                    refine tr_iconst eX7_against_116 (nI 2) ci_2 ?_
                    refine tr_ret eX7_against_117 rfl rfl ?_
                    have g18 : ¬ σ 2 s < w := Int32.not_lt.mpr h13
                    have g30 : s_unf σ kd nd s a b = true := by simp_all [s_unf, s_gate]
                    have e : s_ag σ n nC nV (s_ne v) kd w nd s a b = (nI 2, -1) := by rw [s_ag, if_neg g18, if_pos g30]
                    exact ⟨by rw [e], by rw [e]⟩
                  · skip
                    refine tr_iload_n eX7_against_90 rfl ?_
                    refine tr_iconst eX7_against_91 (nI 4) ci_4 ?_
                    refine tr_icmp_ne eX7_against_92 (fun h92 => ?_) (fun h92 => ?_)
                    · skip
                      refine TT.fg [8, 9] (lp_X7_against_118 hab hss hV hV40 hcc hs hn hb hp hC hC20 hk (Int32.not_lt.mpr h13) (by simp_all [s_unf, s_gate]))
                    · skip
                      refine tr_iload eX7_against_95 rfl ?_
                      refine tr_if_eq eX7_against_97 (fun _ => ?_) (fun h97 => absurd h97 (by decide))
                      refine TT.fg [8, 9] (lp_X7_against_118 hab hss hV hV40 hcc hs hn hb hp hC hC20 hk (Int32.not_lt.mpr h13) (by simp_all [s_unf, s_gate]))
        · skip
          refine tr_iload eX7_against_52 rfl ?_
          refine tr_if_eq eX7_against_54 (fun _ => ?_) (fun h54 => absurd h54 (by decide))
          refine tr_iconst eX7_against_116 (nI 2) ci_2 ?_
          refine tr_ret eX7_against_117 rfl rfl ?_
          have g18 : ¬ σ 2 s < w := Int32.not_lt.mpr h13
          have g30 : s_unf σ kd nd s a b = true := by simp_all [s_unf, s_gate]
          have e : s_ag σ n nC nV (s_ne v) kd w nd s a b = (nI 2, -1) := by rw [s_ag, if_neg g18, if_pos g30]
          exact ⟨by rw [e], by rw [e]⟩
      · skip
        refine tr_iconst eX7_against_39 (nI 1) ci_1 ?_
        refine tr_goto eX7_against_40 ?_
        refine tr_istore eX7_against_44 (by decide) rfl ?_
        refine tr_iload eX7_against_46 rfl ?_
        refine tr_iconst eX7_against_48 (nI 1) ci_1 ?_
        refine tr_icmp_ne eX7_against_49 (fun h49 => ?_) (fun h49 => ?_)
        · skip
          refine tr_iload eX7_against_57 rfl ?_
          refine tr_iconst eX7_against_59 (nI 2) ci_2 ?_
          refine tr_icmp_ne eX7_against_60 (fun h60 => ?_) (fun h60 => ?_)
          · skip
            refine tr_iload_n eX7_against_69 rfl ?_
            refine tr_iconst eX7_against_70 (nI 3) ci_3 ?_
            refine tr_icmp_ne eX7_against_71 (fun h71 => ?_) (fun h71 => ?_)
            · skip
              refine tr_iload_n eX7_against_79 rfl ?_
              refine tr_iconst eX7_against_80 (nI 2) ci_2 ?_
              refine tr_icmp_ne eX7_against_81 (fun h81 => ?_) (fun h81 => ?_)
              · skip
                refine tr_iload_n eX7_against_90 rfl ?_
                refine tr_iconst eX7_against_91 (nI 4) ci_4 ?_
                refine tr_icmp_ne eX7_against_92 (fun h92 => ?_) (fun h92 => ?_)
                · skip
                  refine TT.fg [8, 9] (lp_X7_against_118 hab hss hV hV40 hcc hs hn hb hp hC hC20 hk (Int32.not_lt.mpr h13) (by simp_all [s_unf, s_gate]))
                · skip
                  refine tr_iload eX7_against_95 rfl ?_
                  refine tr_if_eq eX7_against_97 (fun h97 => absurd h97 (by decide)) (fun _ => ?_)
                  refine tr_iload eX7_against_100 rfl ?_
                  refine tr_iload eX7_against_102 rfl ?_
                  refine tr_sipush eX7_against_104 (nI 1320) (by decide) ?_
                  refine tr_sipush eX7_against_107 (nI 1560) (by decide) ?_
                  refine tr_se4 eX7_against_110 zv_X7_haveCommon zs_X7_haveCommon lk_X7_137 ⟨rfl, by decide, by decide⟩ rfl (k_X7_haveCommon hab hcN) ?_
                  refine tr_if_eq eX7_against_113 (fun h113 => ?_) (fun h113 => ?_)
                  · skip
                    try first | replace h113 := bi_0 h113 | replace h113 := bi_n h113
                    refine TT.fg [8, 9] (lp_X7_against_118 hab hss hV hV40 hcc hs hn hb hp hC hC20 hk (Int32.not_lt.mpr h13) (by simp_all [s_unf, s_gate]))
                  · skip
                    try first | replace h113 := bi_0 h113 | replace h113 := bi_n h113
                    refine tr_iconst eX7_against_116 (nI 2) ci_2 ?_
                    refine tr_ret eX7_against_117 rfl rfl ?_
                    have g18 : ¬ σ 2 s < w := Int32.not_lt.mpr h13
                    have g30 : s_unf σ kd nd s a b = true := by simp_all [s_unf, s_gate]
                    have e : s_ag σ n nC nV (s_ne v) kd w nd s a b = (nI 2, -1) := by rw [s_ag, if_neg g18, if_pos g30]
                    exact ⟨by rw [e], by rw [e]⟩
              · skip
                refine tr_iload eX7_against_84 rfl ?_
                refine tr_iconst eX7_against_86 (nI 5) ci_5 ?_
                refine tr_icmp_eq eX7_against_87 (fun h87 => ?_) (fun h87 => ?_)
                · skip
                  refine tr_iconst eX7_against_116 (nI 2) ci_2 ?_
                  refine tr_ret eX7_against_117 rfl rfl ?_
                  have g18 : ¬ σ 2 s < w := Int32.not_lt.mpr h13
                  have g30 : s_unf σ kd nd s a b = true := by simp_all [s_unf, s_gate]
                  have e : s_ag σ n nC nV (s_ne v) kd w nd s a b = (nI 2, -1) := by rw [s_ag, if_neg g18, if_pos g30]
                  exact ⟨by rw [e], by rw [e]⟩
                · skip
                  refine tr_iload_n eX7_against_90 rfl ?_
                  refine tr_iconst eX7_against_91 (nI 4) ci_4 ?_
                  refine tr_icmp_ne eX7_against_92 (fun h92 => ?_) (fun h92 => ?_)
                  · skip
                    refine TT.fg [8, 9] (lp_X7_against_118 hab hss hV hV40 hcc hs hn hb hp hC hC20 hk (Int32.not_lt.mpr h13) (by simp_all [s_unf, s_gate]))
                  · skip
                    refine tr_iload eX7_against_95 rfl ?_
                    refine tr_if_eq eX7_against_97 (fun h97 => absurd h97 (by decide)) (fun _ => ?_)
                    refine tr_iload eX7_against_100 rfl ?_
                    refine tr_iload eX7_against_102 rfl ?_
                    refine tr_sipush eX7_against_104 (nI 1320) (by decide) ?_
                    refine tr_sipush eX7_against_107 (nI 1560) (by decide) ?_
                    refine tr_se4 eX7_against_110 zv_X7_haveCommon zs_X7_haveCommon lk_X7_137 ⟨rfl, by decide, by decide⟩ rfl (k_X7_haveCommon hab hcN) ?_
                    refine tr_if_eq eX7_against_113 (fun h113 => ?_) (fun h113 => ?_)
                    · skip
                      try first | replace h113 := bi_0 h113 | replace h113 := bi_n h113
                      refine TT.fg [8, 9] (lp_X7_against_118 hab hss hV hV40 hcc hs hn hb hp hC hC20 hk (Int32.not_lt.mpr h13) (by simp_all [s_unf, s_gate]))
                    · skip
                      try first | replace h113 := bi_0 h113 | replace h113 := bi_n h113
                      refine tr_iconst eX7_against_116 (nI 2) ci_2 ?_
                      refine tr_ret eX7_against_117 rfl rfl ?_
                      have g18 : ¬ σ 2 s < w := Int32.not_lt.mpr h13
                      have g30 : s_unf σ kd nd s a b = true := by simp_all [s_unf, s_gate]
                      have e : s_ag σ n nC nV (s_ne v) kd w nd s a b = (nI 2, -1) := by rw [s_ag, if_neg g18, if_pos g30]
                      exact ⟨by rw [e], by rw [e]⟩
            · skip
              refine tr_iload eX7_against_74 rfl ?_
              refine tr_if_ne eX7_against_76 (fun _ => ?_) (fun h76 => absurd h76 (by decide))
              refine tr_iconst eX7_against_116 (nI 2) ci_2 ?_
              refine tr_ret eX7_against_117 rfl rfl ?_
              have g18 : ¬ σ 2 s < w := Int32.not_lt.mpr h13
              have g30 : s_unf σ kd nd s a b = true := by simp_all [s_unf, s_gate]
              have e : s_ag σ n nC nV (s_ne v) kd w nd s a b = (nI 2, -1) := by rw [s_ag, if_neg g18, if_pos g30]
              exact ⟨by rw [e], by rw [e]⟩
          · skip
            refine tr_iload eX7_against_63 rfl ?_
            refine tr_iconst eX7_against_65 (nI 5) ci_5 ?_
            refine tr_icmp_ne eX7_against_66 (fun h66 => ?_) (fun h66 => ?_)
            · skip
              refine tr_iconst eX7_against_116 (nI 2) ci_2 ?_
              refine tr_ret eX7_against_117 rfl rfl ?_
              have g18 : ¬ σ 2 s < w := Int32.not_lt.mpr h13
              have g30 : s_unf σ kd nd s a b = true := by simp_all [s_unf, s_gate]
              have e : s_ag σ n nC nV (s_ne v) kd w nd s a b = (nI 2, -1) := by rw [s_ag, if_neg g18, if_pos g30]
              exact ⟨by rw [e], by rw [e]⟩
            · skip
              refine tr_iload_n eX7_against_69 rfl ?_
              refine tr_iconst eX7_against_70 (nI 3) ci_3 ?_
              refine tr_icmp_ne eX7_against_71 (fun h71 => ?_) (fun h71 => ?_)
              · skip
                refine tr_iload_n eX7_against_79 rfl ?_
                refine tr_iconst eX7_against_80 (nI 2) ci_2 ?_
                refine tr_icmp_ne eX7_against_81 (fun h81 => ?_) (fun h81 => ?_)
                · skip
                  refine tr_iload_n eX7_against_90 rfl ?_
                  refine tr_iconst eX7_against_91 (nI 4) ci_4 ?_
                  refine tr_icmp_ne eX7_against_92 (fun h92 => ?_) (fun h92 => ?_)
                  · skip
                    refine TT.fg [8, 9] (lp_X7_against_118 hab hss hV hV40 hcc hs hn hb hp hC hC20 hk (Int32.not_lt.mpr h13) (by simp_all [s_unf, s_gate]))
                  · skip
                    refine tr_iload eX7_against_95 rfl ?_
                    refine tr_if_eq eX7_against_97 (fun h97 => absurd h97 (by decide)) (fun _ => ?_)
                    refine tr_iload eX7_against_100 rfl ?_
                    refine tr_iload eX7_against_102 rfl ?_
                    refine tr_sipush eX7_against_104 (nI 1320) (by decide) ?_
                    refine tr_sipush eX7_against_107 (nI 1560) (by decide) ?_
                    refine tr_se4 eX7_against_110 zv_X7_haveCommon zs_X7_haveCommon lk_X7_137 ⟨rfl, by decide, by decide⟩ rfl (k_X7_haveCommon hab hcN) ?_
                    refine tr_if_eq eX7_against_113 (fun h113 => ?_) (fun h113 => ?_)
                    · skip
                      try first | replace h113 := bi_0 h113 | replace h113 := bi_n h113
                      refine TT.fg [8, 9] (lp_X7_against_118 hab hss hV hV40 hcc hs hn hb hp hC hC20 hk (Int32.not_lt.mpr h13) (by simp_all [s_unf, s_gate]))
                    · skip
                      try first | replace h113 := bi_0 h113 | replace h113 := bi_n h113
                      refine tr_iconst eX7_against_116 (nI 2) ci_2 ?_
                      refine tr_ret eX7_against_117 rfl rfl ?_
                      have g18 : ¬ σ 2 s < w := Int32.not_lt.mpr h13
                      have g30 : s_unf σ kd nd s a b = true := by simp_all [s_unf, s_gate]
                      have e : s_ag σ n nC nV (s_ne v) kd w nd s a b = (nI 2, -1) := by rw [s_ag, if_neg g18, if_pos g30]
                      exact ⟨by rw [e], by rw [e]⟩
                · skip
                  refine tr_iload eX7_against_84 rfl ?_
                  refine tr_iconst eX7_against_86 (nI 5) ci_5 ?_
                  refine tr_icmp_eq eX7_against_87 (fun h87 => ?_) (fun h87 => ?_)
                  · skip
                    refine tr_iconst eX7_against_116 (nI 2) ci_2 ?_
                    refine tr_ret eX7_against_117 rfl rfl ?_
                    have g18 : ¬ σ 2 s < w := Int32.not_lt.mpr h13
                    have g30 : s_unf σ kd nd s a b = true := by simp_all [s_unf, s_gate]
                    have e : s_ag σ n nC nV (s_ne v) kd w nd s a b = (nI 2, -1) := by rw [s_ag, if_neg g18, if_pos g30]
                    exact ⟨by rw [e], by rw [e]⟩
                  · skip
                    refine tr_iload_n eX7_against_90 rfl ?_
                    refine tr_iconst eX7_against_91 (nI 4) ci_4 ?_
                    refine tr_icmp_ne eX7_against_92 (fun h92 => ?_) (fun h92 => ?_)
                    · skip
                      refine TT.fg [8, 9] (lp_X7_against_118 hab hss hV hV40 hcc hs hn hb hp hC hC20 hk (Int32.not_lt.mpr h13) (by simp_all [s_unf, s_gate]))
                    · skip
                      refine tr_iload eX7_against_95 rfl ?_
                      refine tr_if_eq eX7_against_97 (fun h97 => absurd h97 (by decide)) (fun _ => ?_)
                      refine tr_iload eX7_against_100 rfl ?_
                      refine tr_iload eX7_against_102 rfl ?_
                      refine tr_sipush eX7_against_104 (nI 1320) (by decide) ?_
                      refine tr_sipush eX7_against_107 (nI 1560) (by decide) ?_
                      refine tr_se4 eX7_against_110 zv_X7_haveCommon zs_X7_haveCommon lk_X7_137 ⟨rfl, by decide, by decide⟩ rfl (k_X7_haveCommon hab hcN) ?_
                      refine tr_if_eq eX7_against_113 (fun h113 => ?_) (fun h113 => ?_)
                      · skip
                        try first | replace h113 := bi_0 h113 | replace h113 := bi_n h113
                        refine TT.fg [8, 9] (lp_X7_against_118 hab hss hV hV40 hcc hs hn hb hp hC hC20 hk (Int32.not_lt.mpr h13) (by simp_all [s_unf, s_gate]))
                      · skip
                        try first | replace h113 := bi_0 h113 | replace h113 := bi_n h113
                        refine tr_iconst eX7_against_116 (nI 2) ci_2 ?_
                        refine tr_ret eX7_against_117 rfl rfl ?_
                        have g18 : ¬ σ 2 s < w := Int32.not_lt.mpr h13
                        have g30 : s_unf σ kd nd s a b = true := by simp_all [s_unf, s_gate]
                        have e : s_ag σ n nC nV (s_ne v) kd w nd s a b = (nI 2, -1) := by rw [s_ag, if_neg g18, if_pos g30]
                        exact ⟨by rw [e], by rw [e]⟩
              · skip
                refine tr_iload eX7_against_74 rfl ?_
                refine tr_if_ne eX7_against_76 (fun _ => ?_) (fun h76 => absurd h76 (by decide))
                refine tr_iconst eX7_against_116 (nI 2) ci_2 ?_
                refine tr_ret eX7_against_117 rfl rfl ?_
                have g18 : ¬ σ 2 s < w := Int32.not_lt.mpr h13
                have g30 : s_unf σ kd nd s a b = true := by simp_all [s_unf, s_gate]
                have e : s_ag σ n nC nV (s_ne v) kd w nd s a b = (nI 2, -1) := by rw [s_ag, if_neg g18, if_pos g30]
                exact ⟨by rw [e], by rw [e]⟩
        · skip
          refine tr_iload eX7_against_52 rfl ?_
          refine tr_if_eq eX7_against_54 (fun h54 => absurd h54 (by decide)) (fun _ => ?_)
          refine tr_iload eX7_against_57 rfl ?_
          refine tr_iconst eX7_against_59 (nI 2) ci_2 ?_
          refine tr_icmp_ne eX7_against_60 (fun h60 => ?_) (fun h60 => ?_)
          · skip
            refine tr_iload_n eX7_against_69 rfl ?_
            refine tr_iconst eX7_against_70 (nI 3) ci_3 ?_
            refine tr_icmp_ne eX7_against_71 (fun h71 => ?_) (fun h71 => ?_)
            · skip
              refine tr_iload_n eX7_against_79 rfl ?_
              refine tr_iconst eX7_against_80 (nI 2) ci_2 ?_
              refine tr_icmp_ne eX7_against_81 (fun h81 => ?_) (fun h81 => ?_)
              · skip
                refine tr_iload_n eX7_against_90 rfl ?_
                refine tr_iconst eX7_against_91 (nI 4) ci_4 ?_
                refine tr_icmp_ne eX7_against_92 (fun h92 => ?_) (fun h92 => ?_)
                · skip
                  refine TT.fg [8, 9] (lp_X7_against_118 hab hss hV hV40 hcc hs hn hb hp hC hC20 hk (Int32.not_lt.mpr h13) (by simp_all [s_unf, s_gate]))
                · skip
                  refine tr_iload eX7_against_95 rfl ?_
                  refine tr_if_eq eX7_against_97 (fun h97 => absurd h97 (by decide)) (fun _ => ?_)
                  refine tr_iload eX7_against_100 rfl ?_
                  refine tr_iload eX7_against_102 rfl ?_
                  refine tr_sipush eX7_against_104 (nI 1320) (by decide) ?_
                  refine tr_sipush eX7_against_107 (nI 1560) (by decide) ?_
                  refine tr_se4 eX7_against_110 zv_X7_haveCommon zs_X7_haveCommon lk_X7_137 ⟨rfl, by decide, by decide⟩ rfl (k_X7_haveCommon hab hcN) ?_
                  refine tr_if_eq eX7_against_113 (fun h113 => ?_) (fun h113 => ?_)
                  · skip
                    try first | replace h113 := bi_0 h113 | replace h113 := bi_n h113
                    refine TT.fg [8, 9] (lp_X7_against_118 hab hss hV hV40 hcc hs hn hb hp hC hC20 hk (Int32.not_lt.mpr h13) (by simp_all [s_unf, s_gate]))
                  · skip
                    try first | replace h113 := bi_0 h113 | replace h113 := bi_n h113
                    refine tr_iconst eX7_against_116 (nI 2) ci_2 ?_
                    refine tr_ret eX7_against_117 rfl rfl ?_
                    have g18 : ¬ σ 2 s < w := Int32.not_lt.mpr h13
                    have g30 : s_unf σ kd nd s a b = true := by simp_all [s_unf, s_gate]
                    have e : s_ag σ n nC nV (s_ne v) kd w nd s a b = (nI 2, -1) := by rw [s_ag, if_neg g18, if_pos g30]
                    exact ⟨by rw [e], by rw [e]⟩
              · skip
                refine tr_iload eX7_against_84 rfl ?_
                refine tr_iconst eX7_against_86 (nI 5) ci_5 ?_
                refine tr_icmp_eq eX7_against_87 (fun h87 => ?_) (fun h87 => ?_)
                · skip
                  refine tr_iconst eX7_against_116 (nI 2) ci_2 ?_
                  refine tr_ret eX7_against_117 rfl rfl ?_
                  have g18 : ¬ σ 2 s < w := Int32.not_lt.mpr h13
                  have g30 : s_unf σ kd nd s a b = true := by simp_all [s_unf, s_gate]
                  have e : s_ag σ n nC nV (s_ne v) kd w nd s a b = (nI 2, -1) := by rw [s_ag, if_neg g18, if_pos g30]
                  exact ⟨by rw [e], by rw [e]⟩
                · skip
                  refine tr_iload_n eX7_against_90 rfl ?_
                  refine tr_iconst eX7_against_91 (nI 4) ci_4 ?_
                  refine tr_icmp_ne eX7_against_92 (fun h92 => ?_) (fun h92 => ?_)
                  · skip
                    refine TT.fg [8, 9] (lp_X7_against_118 hab hss hV hV40 hcc hs hn hb hp hC hC20 hk (Int32.not_lt.mpr h13) (by simp_all [s_unf, s_gate]))
                  · skip
                    refine tr_iload eX7_against_95 rfl ?_
                    refine tr_if_eq eX7_against_97 (fun h97 => absurd h97 (by decide)) (fun _ => ?_)
                    refine tr_iload eX7_against_100 rfl ?_
                    refine tr_iload eX7_against_102 rfl ?_
                    refine tr_sipush eX7_against_104 (nI 1320) (by decide) ?_
                    refine tr_sipush eX7_against_107 (nI 1560) (by decide) ?_
                    refine tr_se4 eX7_against_110 zv_X7_haveCommon zs_X7_haveCommon lk_X7_137 ⟨rfl, by decide, by decide⟩ rfl (k_X7_haveCommon hab hcN) ?_
                    refine tr_if_eq eX7_against_113 (fun h113 => ?_) (fun h113 => ?_)
                    · skip
                      try first | replace h113 := bi_0 h113 | replace h113 := bi_n h113
                      refine TT.fg [8, 9] (lp_X7_against_118 hab hss hV hV40 hcc hs hn hb hp hC hC20 hk (Int32.not_lt.mpr h13) (by simp_all [s_unf, s_gate]))
                    · skip
                      try first | replace h113 := bi_0 h113 | replace h113 := bi_n h113
                      refine tr_iconst eX7_against_116 (nI 2) ci_2 ?_
                      refine tr_ret eX7_against_117 rfl rfl ?_
                      have g18 : ¬ σ 2 s < w := Int32.not_lt.mpr h13
                      have g30 : s_unf σ kd nd s a b = true := by simp_all [s_unf, s_gate]
                      have e : s_ag σ n nC nV (s_ne v) kd w nd s a b = (nI 2, -1) := by rw [s_ag, if_neg g18, if_pos g30]
                      exact ⟨by rw [e], by rw [e]⟩
            · skip
              refine tr_iload eX7_against_74 rfl ?_
              refine tr_if_ne eX7_against_76 (fun _ => ?_) (fun h76 => absurd h76 (by decide))
              refine tr_iconst eX7_against_116 (nI 2) ci_2 ?_
              refine tr_ret eX7_against_117 rfl rfl ?_
              have g18 : ¬ σ 2 s < w := Int32.not_lt.mpr h13
              have g30 : s_unf σ kd nd s a b = true := by simp_all [s_unf, s_gate]
              have e : s_ag σ n nC nV (s_ne v) kd w nd s a b = (nI 2, -1) := by rw [s_ag, if_neg g18, if_pos g30]
              exact ⟨by rw [e], by rw [e]⟩
          · skip
            refine tr_iload eX7_against_63 rfl ?_
            refine tr_iconst eX7_against_65 (nI 5) ci_5 ?_
            refine tr_icmp_ne eX7_against_66 (fun h66 => ?_) (fun h66 => ?_)
            · skip
              refine tr_iconst eX7_against_116 (nI 2) ci_2 ?_
              refine tr_ret eX7_against_117 rfl rfl ?_
              have g18 : ¬ σ 2 s < w := Int32.not_lt.mpr h13
              have g30 : s_unf σ kd nd s a b = true := by simp_all [s_unf, s_gate]
              have e : s_ag σ n nC nV (s_ne v) kd w nd s a b = (nI 2, -1) := by rw [s_ag, if_neg g18, if_pos g30]
              exact ⟨by rw [e], by rw [e]⟩
            · skip
              refine tr_iload_n eX7_against_69 rfl ?_
              refine tr_iconst eX7_against_70 (nI 3) ci_3 ?_
              refine tr_icmp_ne eX7_against_71 (fun h71 => ?_) (fun h71 => ?_)
              · skip
                refine tr_iload_n eX7_against_79 rfl ?_
                refine tr_iconst eX7_against_80 (nI 2) ci_2 ?_
                refine tr_icmp_ne eX7_against_81 (fun h81 => ?_) (fun h81 => ?_)
                · skip
                  refine tr_iload_n eX7_against_90 rfl ?_
                  refine tr_iconst eX7_against_91 (nI 4) ci_4 ?_
                  refine tr_icmp_ne eX7_against_92 (fun h92 => ?_) (fun h92 => ?_)
                  · skip
                    refine TT.fg [8, 9] (lp_X7_against_118 hab hss hV hV40 hcc hs hn hb hp hC hC20 hk (Int32.not_lt.mpr h13) (by simp_all [s_unf, s_gate]))
                  · skip
                    refine tr_iload eX7_against_95 rfl ?_
                    refine tr_if_eq eX7_against_97 (fun h97 => absurd h97 (by decide)) (fun _ => ?_)
                    refine tr_iload eX7_against_100 rfl ?_
                    refine tr_iload eX7_against_102 rfl ?_
                    refine tr_sipush eX7_against_104 (nI 1320) (by decide) ?_
                    refine tr_sipush eX7_against_107 (nI 1560) (by decide) ?_
                    refine tr_se4 eX7_against_110 zv_X7_haveCommon zs_X7_haveCommon lk_X7_137 ⟨rfl, by decide, by decide⟩ rfl (k_X7_haveCommon hab hcN) ?_
                    refine tr_if_eq eX7_against_113 (fun h113 => ?_) (fun h113 => ?_)
                    · skip
                      try first | replace h113 := bi_0 h113 | replace h113 := bi_n h113
                      refine TT.fg [8, 9] (lp_X7_against_118 hab hss hV hV40 hcc hs hn hb hp hC hC20 hk (Int32.not_lt.mpr h13) (by simp_all [s_unf, s_gate]))
                    · skip
                      try first | replace h113 := bi_0 h113 | replace h113 := bi_n h113
                      refine tr_iconst eX7_against_116 (nI 2) ci_2 ?_
                      refine tr_ret eX7_against_117 rfl rfl ?_
                      have g18 : ¬ σ 2 s < w := Int32.not_lt.mpr h13
                      have g30 : s_unf σ kd nd s a b = true := by simp_all [s_unf, s_gate]
                      have e : s_ag σ n nC nV (s_ne v) kd w nd s a b = (nI 2, -1) := by rw [s_ag, if_neg g18, if_pos g30]
                      exact ⟨by rw [e], by rw [e]⟩
                · skip
                  refine tr_iload eX7_against_84 rfl ?_
                  refine tr_iconst eX7_against_86 (nI 5) ci_5 ?_
                  refine tr_icmp_eq eX7_against_87 (fun h87 => ?_) (fun h87 => ?_)
                  · skip
                    refine tr_iconst eX7_against_116 (nI 2) ci_2 ?_
                    refine tr_ret eX7_against_117 rfl rfl ?_
                    have g18 : ¬ σ 2 s < w := Int32.not_lt.mpr h13
                    have g30 : s_unf σ kd nd s a b = true := by simp_all [s_unf, s_gate]
                    have e : s_ag σ n nC nV (s_ne v) kd w nd s a b = (nI 2, -1) := by rw [s_ag, if_neg g18, if_pos g30]
                    exact ⟨by rw [e], by rw [e]⟩
                  · skip
                    refine tr_iload_n eX7_against_90 rfl ?_
                    refine tr_iconst eX7_against_91 (nI 4) ci_4 ?_
                    refine tr_icmp_ne eX7_against_92 (fun h92 => ?_) (fun h92 => ?_)
                    · skip
                      refine TT.fg [8, 9] (lp_X7_against_118 hab hss hV hV40 hcc hs hn hb hp hC hC20 hk (Int32.not_lt.mpr h13) (by simp_all [s_unf, s_gate]))
                    · skip
                      refine tr_iload eX7_against_95 rfl ?_
                      refine tr_if_eq eX7_against_97 (fun h97 => absurd h97 (by decide)) (fun _ => ?_)
                      refine tr_iload eX7_against_100 rfl ?_
                      refine tr_iload eX7_against_102 rfl ?_
                      refine tr_sipush eX7_against_104 (nI 1320) (by decide) ?_
                      refine tr_sipush eX7_against_107 (nI 1560) (by decide) ?_
                      refine tr_se4 eX7_against_110 zv_X7_haveCommon zs_X7_haveCommon lk_X7_137 ⟨rfl, by decide, by decide⟩ rfl (k_X7_haveCommon hab hcN) ?_
                      refine tr_if_eq eX7_against_113 (fun h113 => ?_) (fun h113 => ?_)
                      · skip
                        try first | replace h113 := bi_0 h113 | replace h113 := bi_n h113
                        refine TT.fg [8, 9] (lp_X7_against_118 hab hss hV hV40 hcc hs hn hb hp hC hC20 hk (Int32.not_lt.mpr h13) (by simp_all [s_unf, s_gate]))
                      · skip
                        try first | replace h113 := bi_0 h113 | replace h113 := bi_n h113
                        refine tr_iconst eX7_against_116 (nI 2) ci_2 ?_
                        refine tr_ret eX7_against_117 rfl rfl ?_
                        have g18 : ¬ σ 2 s < w := Int32.not_lt.mpr h13
                        have g30 : s_unf σ kd nd s a b = true := by simp_all [s_unf, s_gate]
                        have e : s_ag σ n nC nV (s_ne v) kd w nd s a b = (nI 2, -1) := by rw [s_ag, if_neg g18, if_pos g30]
                        exact ⟨by rw [e], by rw [e]⟩
              · skip
                refine tr_iload eX7_against_74 rfl ?_
                refine tr_if_ne eX7_against_76 (fun _ => ?_) (fun h76 => absurd h76 (by decide))
                refine tr_iconst eX7_against_116 (nI 2) ci_2 ?_
                refine tr_ret eX7_against_117 rfl rfl ?_
                have g18 : ¬ σ 2 s < w := Int32.not_lt.mpr h13
                have g30 : s_unf σ kd nd s a b = true := by simp_all [s_unf, s_gate]
                have e : s_ag σ n nC nV (s_ne v) kd w nd s a b = (nI 2, -1) := by rw [s_ag, if_neg g18, if_pos g30]
                exact ⟨by rw [e], by rw [e]⟩
  · skip
    refine tr_iconst eX7_against_16 (nI 1) ci_1 ?_
    refine tr_ret eX7_against_17 rfl rfl ?_
    have e : s_ag σ n nC nV (s_ne v) kd w nd s a b = (nI 1, -1) := by rw [s_ag, if_pos (Int32.not_le.mp h13)]
    exact ⟨by rw [e], by rw [e]⟩

theorem k_X7_againstOf {σ : tSt} {v s a b : Int32} {n nC nV : Nat} (hv : vp_in v 40) (hab : a < b) (hss : vp_in s 24) (hV : σ 0 (nI 6) = nI nV) (hV40 : nV ≤ 40) (hcc : cOK σ) (hs : sOK σ) (hn : σ 0 (nI 4) = nI n) (hb : n ≤ 40) (hp : pOK σ n) (hC : σ 0 (nI 5) = nI nC) (hC20 : nC ≤ 20) (hk : kOK σ nC) : CT mX7_againstOf [.ref 0, .int v, .int s, .int a, .int b] σ (PE (some (s_ag σ n nC nV (s_ne v) (s_kind σ v) (s_wing σ v) (s_need σ v) s a b).1) (up σ 0 (nI 24) (s_ag σ n nC nV (s_ne v) (s_kind σ v) (s_wing σ v) (s_need σ v) s a b).2)) := by
  refine CT.of2 0 (by decide) rfl rfl ?_
  refine tr_aload_n eX7_againstOf_0 rfl ?_
  refine tr_iload_n eX7_againstOf_1 rfl ?_
  refine tr_aload_n eX7_againstOf_2 rfl ?_
  refine tr_iload_n eX7_againstOf_3 rfl ?_
  refine tr_ce1 eX7_againstOf_4 zv_X7_kindOf zi_X7_kindOf lk_X7_155 ⟨rfl, by decide, by decide⟩ rfl rfl rfl (k_X7_kindOf (by first | with_reducible assumption | with_reducible exact in_slot (by with_reducible assumption) (by with_reducible assumption) | with_reducible exact in_row _ (by decide) (by with_reducible assumption) | with_reducible exact in_row0 (by with_reducible assumption) | with_reducible exact in_slot0 (by with_reducible assumption) | (simp (disch := decide) only [up_k, up_s, up_f] <;> with_reducible assumption))) ?_
  refine tr_aload_n eX7_againstOf_7 rfl ?_
  refine tr_iload_n eX7_againstOf_8 rfl ?_
  refine tr_ce1 eX7_againstOf_9 zv_X7_wingOf zi_X7_wingOf lk_X7_149 ⟨rfl, by decide, by decide⟩ rfl rfl rfl (k_X7_wingOf (by first | with_reducible assumption | with_reducible exact in_slot (by with_reducible assumption) (by with_reducible assumption) | with_reducible exact in_row _ (by decide) (by with_reducible assumption) | with_reducible exact in_row0 (by with_reducible assumption) | with_reducible exact in_slot0 (by with_reducible assumption) | (simp (disch := decide) only [up_k, up_s, up_f] <;> with_reducible assumption))) ?_
  refine tr_aload_n eX7_againstOf_12 rfl ?_
  refine tr_iload_n eX7_againstOf_13 rfl ?_
  refine tr_ce1 eX7_againstOf_14 zv_X7_needOf zi_X7_needOf lk_X7_158 ⟨rfl, by decide, by decide⟩ rfl rfl rfl (k_X7_needOf (by first | with_reducible assumption | with_reducible exact in_slot (by with_reducible assumption) (by with_reducible assumption) | with_reducible exact in_row _ (by decide) (by with_reducible assumption) | with_reducible exact in_row0 (by with_reducible assumption) | with_reducible exact in_slot0 (by with_reducible assumption) | (simp (disch := decide) only [up_k, up_s, up_f] <;> with_reducible assumption))) ?_
  refine tr_iload_n eX7_againstOf_17 rfl ?_
  refine tr_iload_n eX7_againstOf_18 rfl ?_
  refine tr_iload eX7_againstOf_19 rfl ?_
  refine tr_ce7 eX7_againstOf_21 zv_X7_against zi_X7_against lk_X7_161 ⟨rfl, by decide, by decide⟩ rfl rfl rfl (k_X7_against hab hss hV hV40 hcc hs hn hb hp hC hC20 hk) ?_
  try simp (disch := decide) only [up_k, up_s, up_f]
  refine tr_ret eX7_againstOf_24 rfl rfl ?_
  exact ⟨rfl, rfl⟩

def s_rank (kd at_ : Int32) : Int32 := if kd = nI 3 then (if at_ = nI 4 then nI 0 else if at_ = nI 1 then nI 1 else if at_ = nI 5 then nI 2 else nI 9) else (if at_ = nI 2 then nI 0 else if at_ = nI 3 then nI 1 else if at_ = nI 1 then nI 2 else if at_ = nI 4 then nI 3 else nI 4)
theorem k_X7_rank {σ : tSt} {k c : Int32} : CT mX7_rank [.ref 0, .int k, .int c] σ (PE (some (s_rank k c)) σ) := by
  refine CT.of2 0 (by decide) rfl rfl ?_
  refine tr_iload_n eX7_rank_0 rfl ?_
  refine tr_iconst eX7_rank_1 (nI 3) ci_3 ?_
  refine tr_icmp_ne eX7_rank_2 (fun h2 => ?_) (fun h2 => ?_)
  · skip
    refine tr_iload_n eX7_rank_35 rfl ?_
    refine tr_iconst eX7_rank_36 (nI 2) ci_2 ?_
    refine tr_icmp_ne eX7_rank_37 (fun h37 => ?_) (fun h37 => ?_)
    · skip
      refine tr_iload_n eX7_rank_44 rfl ?_
      refine tr_iconst eX7_rank_45 (nI 3) ci_3 ?_
      refine tr_icmp_ne eX7_rank_46 (fun h46 => ?_) (fun h46 => ?_)
      · skip
        refine tr_iload_n eX7_rank_53 rfl ?_
        refine tr_iconst eX7_rank_54 (nI 1) ci_1 ?_
        refine tr_icmp_ne eX7_rank_55 (fun h55 => ?_) (fun h55 => ?_)
        · skip
          refine tr_iload_n eX7_rank_62 rfl ?_
          refine tr_iconst eX7_rank_63 (nI 4) ci_4 ?_
          refine tr_icmp_ne eX7_rank_64 (fun h64 => ?_) (fun h64 => ?_)
          · skip
            refine tr_iconst eX7_rank_71 (nI 4) ci_4 ?_
            refine tr_ret eX7_rank_72 rfl rfl ?_
            refine ⟨congrArg some ?_, rfl⟩
            simp_all [s_rank]
          · skip
            refine tr_iconst eX7_rank_67 (nI 3) ci_3 ?_
            refine tr_goto eX7_rank_68 ?_
            refine tr_ret eX7_rank_72 rfl rfl ?_
            refine ⟨congrArg some ?_, rfl⟩
            simp_all [s_rank]
        · skip
          refine tr_iconst eX7_rank_58 (nI 2) ci_2 ?_
          refine tr_goto eX7_rank_59 ?_
          refine tr_ret eX7_rank_72 rfl rfl ?_
          refine ⟨congrArg some ?_, rfl⟩
          simp_all [s_rank]
      · skip
        refine tr_iconst eX7_rank_49 (nI 1) ci_1 ?_
        refine tr_goto eX7_rank_50 ?_
        refine tr_ret eX7_rank_72 rfl rfl ?_
        refine ⟨congrArg some ?_, rfl⟩
        simp_all [s_rank]
    · skip
      refine tr_iconst eX7_rank_40 (nI 0) ci_0 ?_
      refine tr_goto eX7_rank_41 ?_
      refine tr_ret eX7_rank_72 rfl rfl ?_
      refine ⟨congrArg some ?_, rfl⟩
      simp_all [s_rank]
  · skip
    refine tr_iload_n eX7_rank_5 rfl ?_
    refine tr_iconst eX7_rank_6 (nI 4) ci_4 ?_
    refine tr_icmp_ne eX7_rank_7 (fun h7 => ?_) (fun h7 => ?_)
    · skip
      refine tr_iload_n eX7_rank_14 rfl ?_
      refine tr_iconst eX7_rank_15 (nI 1) ci_1 ?_
      refine tr_icmp_ne eX7_rank_16 (fun h16 => ?_) (fun h16 => ?_)
      · skip
        refine tr_iload_n eX7_rank_23 rfl ?_
        refine tr_iconst eX7_rank_24 (nI 5) ci_5 ?_
        refine tr_icmp_ne eX7_rank_25 (fun h25 => ?_) (fun h25 => ?_)
        · skip
          refine tr_bipush eX7_rank_32 (nI 9) (by decide) ?_
          refine tr_ret eX7_rank_34 rfl rfl ?_
          refine ⟨congrArg some ?_, rfl⟩
          simp_all [s_rank]
        · skip
          refine tr_iconst eX7_rank_28 (nI 2) ci_2 ?_
          refine tr_goto eX7_rank_29 ?_
          refine tr_ret eX7_rank_34 rfl rfl ?_
          refine ⟨congrArg some ?_, rfl⟩
          simp_all [s_rank]
      · skip
        refine tr_iconst eX7_rank_19 (nI 1) ci_1 ?_
        refine tr_goto eX7_rank_20 ?_
        refine tr_ret eX7_rank_34 rfl rfl ?_
        refine ⟨congrArg some ?_, rfl⟩
        simp_all [s_rank]
    · skip
      refine tr_iconst eX7_rank_10 (nI 0) ci_0 ?_
      refine tr_goto eX7_rank_11 ?_
      refine tr_ret eX7_rank_34 rfl rfl ?_
      refine ⟨congrArg some ?_, rfl⟩
      simp_all [s_rank]

/-- the model's choice: rank, then size, then number -/
def s_bm (g1 g2 : Int32 → Int32) (fr : Int32 → Bool) (kd : Int32) : Nat → Nat → Int32 → Int32
  | 0, _, best => best
  | f + 1, i, best => s_bm g1 g2 fr kd f (i + 1) (if fr (nI i) = true ∧ (best = -1 ∨ s_rank kd (g1 (nI i)) < s_rank kd (g1 best) ∨ (s_rank kd (g1 (nI i)) = s_rank kd (g1 best) ∧ g2 (nI i) < g2 best)) then nI i else best)
abbrev s_agM (σ : tSt) (n nC nV : Nat) (v s a b : Int32) : Int32 × Int32 := s_ag σ n nC nV (s_ne v) (s_kind σ v) (s_wing σ v) (s_need σ v) s a b
def s_frM (σ : tSt) (n nC nV : Nat) (v a b : Int32) : Int32 → Bool := fun s => decide ((s_agM σ n nC nV v s a b).1 = 0)
theorem s_ag_pos (σ : tSt) (n nC nV : Nat) (o : Int32 → Bool) (kd w nd s a b : Int32) : (s_ag σ n nC nV o kd w nd s a b).1 ≤ 0 ↔ (s_ag σ n nC nV o kd w nd s a b).1 = 0 := by
  unfold s_ag
  repeat' split
  all_goals (dsimp only; decide)
theorem k_X7_againstOfU {σ : tSt} {v s a b x : Int32} {n nC nV : Nat} (hv : vp_in v 40) (hab : a < b) (hss : vp_in s 24) (hV : σ 0 (nI 6) = nI nV) (hV40 : nV ≤ 40) (hcc : cOK σ) (hs : sOK σ) (hn : σ 0 (nI 4) = nI n) (hb : n ≤ 40) (hp : pOK σ n) (hC : σ 0 (nI 5) = nI nC) (hC20 : nC ≤ 20) (hk : kOK σ nC) : CT mX7_againstOf [.ref 0, .int v, .int s, .int a, .int b] (up σ 0 (nI 24) x) (PE (some (s_agM σ n nC nV v s a b).1) (up σ 0 (nI 24) (s_agM σ n nC nV v s a b).2)) := by
  have h := k_X7_againstOf (σ := up σ 0 (nI 24) x) hv hab hss hV hV40 hcc hs hn hb hp hC hC20 hk
  rw [up_up] at h
  exact h
theorem TT.post {y : tMS} {pc : Nat} {L st : List Value} {σ : tSt} {Q Q' : Option Int32 → tSt → Prop} (h : TT y pc L st σ Q) (hq : ∀ r τ, Q r τ → Q' r τ) : TT y pc L st σ Q' := by
  intro l D ad cA cZ p e s m args below meth c H locs ls hC hP hS hL T0 hT X
  obtain ⟨t, a1, o, b1, b2, ⟨⟨r, σ', c1, c2, c3⟩, c4⟩, b4⟩ := h l D ad cA cZ p e s m args below meth c H locs ls hC hP hS hL T0 hT X
  exact ⟨t, a1, o, b1, b2, ⟨⟨r, σ', c1, hq r σ' c2, c3⟩, c4⟩, b4⟩
theorem lp_X7_bestOf_6 {σ : tSt} {v a b : Int32} {nS n nC nV : Nat} (hv : vp_in v 40) (hS : σ 0 (nI 3) = nI nS) (hS24 : nS ≤ 24) (hab : a < b) (hV : σ 0 (nI 6) = nI nV) (hV40 : nV ≤ 40) (hcc : cOK σ) (hs : sOK σ) (hn : σ 0 (nI 4) = nI n) (hb : n ≤ 40) (hp : pOK σ n) (hC : σ 0 (nI 5) = nI nC) (hC20 : nC ≤ 20) (hk : kOK σ nC) : ∀ (f i : Nat) (best x : Int32), i + f = nS → (best = -1 ∨ vp_in best 24) → TT mX7_bestOf 6 [.ref 0, .int v, .int a, .int b, .int best, .int (nI i), .null, .null] [] (up σ 0 (nI 24) x) (fun r τ => r = some (s_bm (σ 1) (σ 2) (s_frM σ n nC nV v a b) (s_kind σ v) f i best) ∧ ∃ z, τ = up σ 0 (nI 24) z) := by
  intro f
  induction f with
  | zero =>
    intro i best x hi hbest
    refine tr_iload eX7_bestOf_6 rfl ?_
    refine tr_aload_n eX7_bestOf_8 rfl ?_
    refine tr_getI eX7_bestOf_9 fk_X7_86 rfl rfl ?_
    try simp (disch := decide) only [up_k, up_s, up_f]
    refine tr_icmp_ge eX7_bestOf_12 (fun h12 => ?_) (fun h12 => ?_)
    · skip
      refine tr_iload eX7_bestOf_124 rfl ?_
      refine tr_ret eX7_bestOf_126 rfl rfl ?_
      exact ⟨rfl, x, rfl⟩
    · skip
      exact absurd (lt_of hS (by omega) (by omega) h12) (by omega)
  | succ f ih =>
    intro i best x hi hbest
    refine tr_iload eX7_bestOf_6 rfl ?_
    refine tr_aload_n eX7_bestOf_8 rfl ?_
    refine tr_getI eX7_bestOf_9 fk_X7_86 rfl rfl ?_
    try simp (disch := decide) only [up_k, up_s, up_f]
    refine tr_icmp_ge eX7_bestOf_12 (fun h12 => ?_) (fun h12 => ?_)
    · skip
      exact absurd (ge_of hS (by omega) (by omega) h12) (by omega)
    · skip
      have g12 := lt_of hS (by omega) (by omega) h12
      have hsv : vp_in (nI i) 24 := vp_in_nI (by omega) (by decide)
      refine tr_aload_n eX7_bestOf_15 rfl ?_
      refine tr_iload_n eX7_bestOf_16 rfl ?_
      refine tr_iload eX7_bestOf_17 rfl ?_
      refine tr_iload_n eX7_bestOf_19 rfl ?_
      refine tr_iload_n eX7_bestOf_20 rfl ?_
      refine tr_ce4 eX7_bestOf_21 zv_X7_againstOf zi_X7_againstOf lk_X7_165 ⟨rfl, by decide, by decide⟩ rfl rfl rfl (k_X7_againstOfU hv hab hsv hV hV40 hcc hs hn hb hp hC hC20 hk) ?_
      try simp (disch := decide) only [up_k, up_s, up_f]
      refine tr_if_le eX7_bestOf_24 (fun h24 => ?_) (fun h24 => ?_)
      · skip
        refine tr_aload_n eX7_bestOf_30 rfl ?_
        refine tr_aload_n eX7_bestOf_31 rfl ?_
        refine tr_iload_n eX7_bestOf_32 rfl ?_
        refine tr_ce1 eX7_bestOf_33 zv_X7_kindOf zi_X7_kindOf lk_X7_155 ⟨rfl, by decide, by decide⟩ rfl rfl rfl (show CT mX7_kindOf _ _ (PE (some (s_kind σ v)) _) from k_X7_kindOf hv) ?_
        try simp (disch := decide) only [up_k, up_s, up_f]
        refine tr_aload_n eX7_bestOf_36 rfl ?_
        refine tr_getR eX7_bestOf_37 fk_X7_16 rfl rfl ?_
        refine tr_iload eX7_bestOf_40 rfl ?_
        refine tr_iald eX7_bestOf_42 rfl hsv ?_
        try simp (disch := decide) only [up_k, up_s, up_f]
        refine tr_ce2 eX7_bestOf_43 zv_X7_rank zi_X7_rank lk_X7_169 ⟨rfl, by decide, by decide⟩ rfl rfl rfl k_X7_rank ?_
        try simp (disch := decide) only [up_k, up_s, up_f]
        refine tr_istore eX7_bestOf_46 (by decide) rfl ?_
        refine tr_iload eX7_bestOf_48 rfl ?_
        refine tr_iconst eX7_bestOf_50 (-1) ci_m1 ?_
        refine tr_icmp_ne eX7_bestOf_51 (fun h51 => ?_) (fun h51 => ?_)
        · skip
          refine tr_aload_n eX7_bestOf_59 rfl ?_
          refine tr_aload_n eX7_bestOf_60 rfl ?_
          refine tr_iload_n eX7_bestOf_61 rfl ?_
          refine tr_ce1 eX7_bestOf_62 zv_X7_kindOf zi_X7_kindOf lk_X7_155 ⟨rfl, by decide, by decide⟩ rfl rfl rfl (show CT mX7_kindOf _ _ (PE (some (s_kind σ v)) _) from k_X7_kindOf hv) ?_
          try simp (disch := decide) only [up_k, up_s, up_f]
          refine tr_aload_n eX7_bestOf_65 rfl ?_
          refine tr_getR eX7_bestOf_66 fk_X7_16 rfl rfl ?_
          refine tr_iload eX7_bestOf_69 rfl ?_
          refine tr_iald eX7_bestOf_71 rfl (by first | with_reducible assumption | (rcases hbest with h | h; exact absurd h h51; exact h)) ?_
          try simp (disch := decide) only [up_k, up_s, up_f]
          refine tr_ce2 eX7_bestOf_72 zv_X7_rank zi_X7_rank lk_X7_169 ⟨rfl, by decide, by decide⟩ rfl rfl rfl k_X7_rank ?_
          try simp (disch := decide) only [up_k, up_s, up_f]
          refine tr_istore eX7_bestOf_75 (by decide) rfl ?_
          refine tr_iload eX7_bestOf_77 rfl ?_
          refine tr_iconst eX7_bestOf_79 (-1) ci_m1 ?_
          refine tr_icmp_eq eX7_bestOf_80 (fun h80 => ?_) (fun h80 => ?_)
          · skip
            exact absurd h80 h51
          · skip
            skip
            refine tr_iload eX7_bestOf_83 rfl ?_
            refine tr_iload eX7_bestOf_85 rfl ?_
            refine tr_icmp_lt eX7_bestOf_87 (fun h87 => ?_) (fun h87 => ?_)
            · skip
              refine tr_iload eX7_bestOf_114 rfl ?_
              refine tr_istore eX7_bestOf_116 (by decide) rfl ?_
              refine tr_iinc eX7_bestOf_118 _ (by first | exact inc_n _ | rfl) rfl (by decide) rfl ?_
              refine tr_goto eX7_bestOf_121 ?_
              refine TT.fg [6, 7] (TT.post (ih (i + 1) _ _ (by omega) (Or.inr hsv)) (fun r τ h => ?_))
              simp only [s_bm]
              rw [if_pos ⟨by simp only [s_frM, decide_eq_true_eq]; exact (s_ag_pos ..).mp h24, by first | exact Or.inl h51 | exact Or.inr (Or.inl h87) | exact Or.inr (Or.inr ⟨h94, Int32.not_le.mp h111⟩)⟩]
              exact h
            · skip
              refine tr_iload eX7_bestOf_90 rfl ?_
              refine tr_iload eX7_bestOf_92 rfl ?_
              refine tr_icmp_ne eX7_bestOf_94 (fun h94 => ?_) (fun h94 => ?_)
              · skip
                refine tr_iinc eX7_bestOf_118 _ (by first | exact inc_n _ | rfl) rfl (by decide) rfl ?_
                refine tr_goto eX7_bestOf_121 ?_
                refine TT.fg [6, 7] (TT.post (ih (i + 1) _ _ (by omega) hbest) (fun r τ h => ?_))
                simp only [s_bm]
                rw [if_neg (fun q => ?_)]
                · exact h
                · obtain ⟨q1, q2⟩ := q
                  first | (simp only [s_frM, decide_eq_true_eq] at q1; exact absurd ((s_ag_pos ..).mpr q1) h24) | (rcases q2 with q2 | q2 | q2; exact absurd q2 h51; exact absurd q2 h87; exact absurd q2.1 h94) | (rcases q2 with q2 | q2 | q2; exact absurd q2 h51; exact absurd q2 h87; exact absurd q2.2 (Int32.not_lt.mpr h111))
              · skip
                refine tr_aload_n eX7_bestOf_97 rfl ?_
                refine tr_getR eX7_bestOf_98 fk_X7_20 rfl rfl ?_
                refine tr_iload eX7_bestOf_101 rfl ?_
                refine tr_iald eX7_bestOf_103 rfl hsv ?_
                try simp (disch := decide) only [up_k, up_s, up_f]
                refine tr_aload_n eX7_bestOf_104 rfl ?_
                refine tr_getR eX7_bestOf_105 fk_X7_20 rfl rfl ?_
                refine tr_iload eX7_bestOf_108 rfl ?_
                refine tr_iald eX7_bestOf_110 rfl (by first | with_reducible assumption | (rcases hbest with h | h; exact absurd h h51; exact h)) ?_
                try simp (disch := decide) only [up_k, up_s, up_f]
                refine tr_icmp_ge eX7_bestOf_111 (fun h111 => ?_) (fun h111 => ?_)
                · skip
                  refine tr_iinc eX7_bestOf_118 _ (by first | exact inc_n _ | rfl) rfl (by decide) rfl ?_
                  refine tr_goto eX7_bestOf_121 ?_
                  refine TT.fg [6, 7] (TT.post (ih (i + 1) _ _ (by omega) hbest) (fun r τ h => ?_))
                  simp only [s_bm]
                  rw [if_neg (fun q => ?_)]
                  · exact h
                  · obtain ⟨q1, q2⟩ := q
                    first | (simp only [s_frM, decide_eq_true_eq] at q1; exact absurd ((s_ag_pos ..).mpr q1) h24) | (rcases q2 with q2 | q2 | q2; exact absurd q2 h51; exact absurd q2 h87; exact absurd q2.1 h94) | (rcases q2 with q2 | q2 | q2; exact absurd q2 h51; exact absurd q2 h87; exact absurd q2.2 (Int32.not_lt.mpr h111))
                · skip
                  refine tr_iload eX7_bestOf_114 rfl ?_
                  refine tr_istore eX7_bestOf_116 (by decide) rfl ?_
                  refine tr_iinc eX7_bestOf_118 _ (by first | exact inc_n _ | rfl) rfl (by decide) rfl ?_
                  refine tr_goto eX7_bestOf_121 ?_
                  refine TT.fg [6, 7] (TT.post (ih (i + 1) _ _ (by omega) (Or.inr hsv)) (fun r τ h => ?_))
                  simp only [s_bm]
                  rw [if_pos ⟨by simp only [s_frM, decide_eq_true_eq]; exact (s_ag_pos ..).mp h24, by first | exact Or.inl h51 | exact Or.inr (Or.inl h87) | exact Or.inr (Or.inr ⟨h94, Int32.not_le.mp h111⟩)⟩]
                  exact h
        · skip
          refine tr_bipush eX7_bestOf_54 (nI 99) (by decide) ?_
          refine tr_goto eX7_bestOf_56 ?_
          refine tr_istore eX7_bestOf_75 (by decide) rfl ?_
          refine tr_iload eX7_bestOf_77 rfl ?_
          refine tr_iconst eX7_bestOf_79 (-1) ci_m1 ?_
          refine tr_icmp_eq eX7_bestOf_80 (fun h80 => ?_) (fun h80 => ?_)
          · skip
            skip
            refine tr_iload eX7_bestOf_114 rfl ?_
            refine tr_istore eX7_bestOf_116 (by decide) rfl ?_
            refine tr_iinc eX7_bestOf_118 _ (by first | exact inc_n _ | rfl) rfl (by decide) rfl ?_
            refine tr_goto eX7_bestOf_121 ?_
            refine TT.fg [6, 7] (TT.post (ih (i + 1) _ _ (by omega) (Or.inr hsv)) (fun r τ h => ?_))
            simp only [s_bm]
            rw [if_pos ⟨by simp only [s_frM, decide_eq_true_eq]; exact (s_ag_pos ..).mp h24, by first | exact Or.inl h51 | exact Or.inr (Or.inl h87) | exact Or.inr (Or.inr ⟨h94, Int32.not_le.mp h111⟩)⟩]
            exact h
          · skip
            exact absurd h51 h80
      · skip
        refine tr_goto eX7_bestOf_27 ?_
        refine tr_iinc eX7_bestOf_118 _ (by first | exact inc_n _ | rfl) rfl (by decide) rfl ?_
        refine tr_goto eX7_bestOf_121 ?_
        refine TT.fg [6, 7] (TT.post (ih (i + 1) _ _ (by omega) hbest) (fun r τ h => ?_))
        simp only [s_bm]
        rw [if_neg (fun q => ?_)]
        · exact h
        · obtain ⟨q1, q2⟩ := q
          first | (simp only [s_frM, decide_eq_true_eq] at q1; exact absurd ((s_ag_pos ..).mpr q1) h24) | (rcases q2 with q2 | q2 | q2; exact absurd q2 h51; exact absurd q2 h87; exact absurd q2.1 h94) | (rcases q2 with q2 | q2 | q2; exact absurd q2 h51; exact absurd q2 h87; exact absurd q2.2 (Int32.not_lt.mpr h111))
theorem up_self (σ : tSt) (k : Nat) (i : Int32) : up σ k i (σ k i) = σ := by
  funext k' i'
  simp only [up]
  by_cases hk : k' = k
  · subst hk
    by_cases hi : i' = i <;> simp [hi]
  · simp [hk]
def s_bestM (σ : tSt) (nS n nC nV : Nat) (v a b : Int32) : Int32 := s_bm (σ 1) (σ 2) (s_frM σ n nC nV v a b) (s_kind σ v) nS 0 (-1)
theorem k_X7_bestOf {σ : tSt} {v a b : Int32} {nS n nC nV : Nat} (hv : vp_in v 40) (hS : σ 0 (nI 3) = nI nS) (hS24 : nS ≤ 24) (hab : a < b) (hV : σ 0 (nI 6) = nI nV) (hV40 : nV ≤ 40) (hcc : cOK σ) (hs : sOK σ) (hn : σ 0 (nI 4) = nI n) (hb : n ≤ 40) (hp : pOK σ n) (hC : σ 0 (nI 5) = nI nC) (hC20 : nC ≤ 20) (hk : kOK σ nC) : CT mX7_bestOf [.ref 0, .int v, .int a, .int b] σ (fun r τ => r = some (s_bestM σ nS n nC nV v a b) ∧ ∃ z, τ = up σ 0 (nI 24) z) := by
  refine CT.of2 4 (by decide) rfl rfl ?_
  refine tr_iconst eX7_bestOf_0 (-1) ci_m1 ?_
  refine tr_istore eX7_bestOf_1 (by decide) rfl ?_
  refine tr_iconst eX7_bestOf_3 (nI 0) ci_0 ?_
  refine tr_istore eX7_bestOf_4 (by decide) rfl ?_
  have h := lp_X7_bestOf_6 hv hS hS24 hab hV hV40 hcc hs hn hb hp hC hC20 hk nS 0 (-1) (σ 0 (nI 24)) (by omega) (Or.inl rfl)
  rw [up_self] at h
  exact h

