theorem s_set_0 (σ : tSt) (v s a b : Int32) : s_set σ v s a b 0 = σ 0 := rfl
def s_rs (μ : tSt) (A : Int32 × Int32) : tSt := up (up μ 0 (nI 7) A.1) 0 (nI 8) A.2
def s_putp (μ : tSt) (v s : Int32) : Int32 × tSt := if ¬ f_put μ v s = 0 then s_dn μ (f_put μ v s) else if (s_A μ v s (s_in μ v) (s_out μ v)).1 = 0 then s_al (s_set μ v s (s_in μ v) (s_out μ v)) else s_dn (s_rs μ (s_A μ v s (s_in μ v) (s_out μ v))) (nI 8)
def s_whyp (μ : tSt) (v s : Int32) : Int32 × tSt := if ¬ f_look μ v s = 0 then s_rf μ (f_look μ v s) else if (s_A μ v s (s_in μ v) (s_out μ v)).1 = 0 then s_gr μ (nI 0) else s_gr (s_rs μ (s_A μ v s (s_in μ v) (s_out μ v))) (s_A μ v s (s_in μ v) (s_out μ v)).1
theorem ne_m1 {s : Int32} (h : ¬ s < 0) : ¬ s = -1 := fun q => by subst q; exact absurd (by decide) h
theorem aX_set (σ : tSt) (v s a b : Int32) : aX (s_set σ v s a b) = s_set (aX σ) v s a b := by simp (disch := decide) only [s_set, aX_u]
theorem aM_set (σ : tSt) (v s a b : Int32) : aM (s_set σ v s a b) = s_set (aM σ) v s a b := by simp (disch := decide) only [s_set, aM_u]
theorem s_set_6 (μ : tSt) (x v s a b : Int32) : s_set (up μ 0 (nI 6) x) v s a b = up (s_set μ v s a b) 0 (nI 6) x := by simp (disch := decide) only [s_set, up_c0]
theorem aX_reg (σ : tSt) (v : Int32) : aX (s_reg σ v) = aX σ := by simp (disch := decide) only [s_reg, aX_s]
theorem k_X6_put {σ : tSt} {nS nP nC nV : Nat} {v s : Int32} (hI : iA (aX σ) nS nP nC nV) (hz : aw0 σ) : CT mX6_put [.ref 0, .int v, .int s] σ (QX σ (s_putp (aX σ) v s)) := by
  have hI0 := hI.1
  have hS := hI0.1.1
  rw [aX_0] at hS
  have hP := hI0.2.1.1
  rw [aX_1] at hP
  have hC := hI0.2.2.1.1
  rw [aX_2] at hC
  have hV := hI0.2.2.2.1
  rw [aX_3] at hV
  have hS24 := hI0.1.2
  have hP40 := hI0.2.1.2
  have hC20 := hI0.2.2.1.2
  have hV40 := hI0.2.2.2.2
  refine CT.of2 2 (by decide) rfl rfl ?_
  refine tr_aload_n eX6_put_0 rfl ?_
  refine tr_iload_n eX6_put_1 rfl ?_
  refine tr_iload_n eX6_put_2 rfl ?_
  refine tr_ce2 eX6_put_3 zv_X6_faultOfPutting zi_X6_faultOfPutting lk_X6_143 ⟨rfl, by decide, by decide⟩ rfl rfl rfl (k_X6_faultOfPutting hI.1) ?_
  try simp (disch := decide) only [up_k, up_s, up_f, s_set_0]
  refine tr_istore_n eX6_put_6 (by decide) rfl ?_
  refine tr_iload_n eX6_put_7 rfl ?_
  refine tr_if_eq eX6_put_8 (fun h8 => ?_) (fun h8 => ?_)
  · skip
    obtain ⟨q1, q2, q3, q4, q5⟩ := f_put0 h8
    have hv : vp_in v 40 := by rw [s_nvi, aX_3] at q2; exact in_has hV hV40 (by decide) (n_not q2)
    have hs : vp_in s 24 := by rw [s_nst, aX_0] at q1; exact in_has hS hS24 (by decide) (n_not q1)
    have hsm : ¬ s = -1 := by rw [s_nst, aX_0] at q1; exact ne_m1 (n_not q1).1
    refine tr_aload_n eX6_put_17 rfl ?_
    refine tr_getR eX6_put_18 fk_X6_19 rfl rfl ?_
    refine tr_iload_n eX6_put_21 rfl ?_
    refine tr_ce1 eX6_put_22 zv_X5_inOf zi_X5_inOf lk_X6_146 ⟨rfl, by decide, by decide⟩ rfl rfl rfl (k_X5_inOf (by first | with_reducible assumption | with_reducible exact in_slot (by with_reducible assumption) (by with_reducible assumption) | with_reducible exact in_row _ (by decide) (by with_reducible assumption) | with_reducible exact in_row0 (by with_reducible assumption) | with_reducible exact in_slot0 (by with_reducible assumption) | (simp (disch := decide) only [up_k, up_s, up_f] <;> with_reducible assumption))) ?_
    try simp (disch := decide) only [up_k, up_s, up_f, s_set_0]
    refine tr_istore eX6_put_25 (by decide) rfl ?_
    refine tr_aload_n eX6_put_27 rfl ?_
    refine tr_iload_n eX6_put_28 rfl ?_
    refine tr_iload_n eX6_put_29 rfl ?_
    refine tr_iload eX6_put_30 rfl ?_
    refine tr_aload_n eX6_put_32 rfl ?_
    refine tr_getR eX6_put_33 fk_X6_19 rfl rfl ?_
    refine tr_iload_n eX6_put_36 rfl ?_
    refine tr_ce1 eX6_put_37 zv_X5_outOf zi_X5_outOf lk_X6_149 ⟨rfl, by decide, by decide⟩ rfl rfl rfl (k_X5_outOf (by first | with_reducible assumption | with_reducible exact in_slot (by with_reducible assumption) (by with_reducible assumption) | with_reducible exact in_row _ (by decide) (by with_reducible assumption) | with_reducible exact in_row0 (by with_reducible assumption) | with_reducible exact in_slot0 (by with_reducible assumption) | (simp (disch := decide) only [up_k, up_s, up_f] <;> with_reducible assumption))) ?_
    try simp (disch := decide) only [up_k, up_s, up_f, s_set_0]
    refine tr_ce4 eX6_put_40 zv_X6_isHindered zi_X6_isHindered lk_X6_152 ⟨rfl, by decide, by decide⟩ rfl rfl rfl (k_X6_isHinderedA hI hz hv hs) ?_
    try simp (disch := decide) only [up_k, up_s, up_f, s_set_0]
    refine tr_if_eq eX6_put_43 (fun h43 => ?_) (fun h43 => ?_)
    · skip
      try first | replace h43 := bi_0 h43 | replace h43 := bi_n h43
      have g43 := n_not h43
      rw [s_hin_t g43]
      refine tr_aload_n eX6_put_53 rfl ?_
      refine tr_getR eX6_put_54 fk_X6_19 rfl rfl ?_
      refine tr_iload_n eX6_put_57 rfl ?_
      refine tr_iload_n eX6_put_58 rfl ?_
      refine tr_iload eX6_put_59 rfl ?_
      refine tr_ce3 eX6_put_61 zv_X5_place zi_X5_place lk_X6_156 ⟨rfl, by decide, by decide⟩ rfl rfl rfl (show CT mX5_place _ _ (PE (some (bi (s ≠ -1))) (s_set (up (s_reg σ v) 19 (nI 7) (s_A (aX σ) v s (s_in σ v) (s_out σ v)).2) v s (s_in σ v) (s_out σ v))) from by have h := k_X5_place (σ := (up (s_reg σ v) 19 (nI 7) (s_A (aX σ) v s (s_in σ v) (s_out σ v)).2)) (s := s) (a := s_in σ v) hv; rw [if_neg hsm] at h; exact h) ?_
      try simp (disch := decide) only [up_k, up_s, up_f, s_set_0]
      refine tr_pop eX6_put_64 rfl ?_
      refine tr_aload_n eX6_put_65 rfl ?_
      refine tr_ce0 eX6_put_66 zv_X6_allow zi_X6_allow lk_X6_120 ⟨rfl, by decide, by decide⟩ rfl rfl rfl k_X6_allow ?_
      try simp (disch := decide) only [up_k, up_s, up_f, s_set_0]
      refine tr_ret eX6_put_69 rfl (by first | rfl | exact nar_bi _) ?_
      have e : s_putp (aX σ) v s = s_al (s_set (aX σ) v s (s_in σ v) (s_out σ v)) := by rw [s_putp, if_neg (fun q => q h8), s_in_aX, s_out_aX, if_pos g43]
      rw [e]
      exact ⟨rfl, by simp (disch := decide) only [s_al, aX_f0_7, aX_set, aX_s, aX_reg], rfl⟩
    · skip
      try first | replace h43 := bi_0 h43 | replace h43 := bi_n h43
      rw [s_hin_f h43]
      refine tr_aload_n eX6_put_46 rfl ?_
      refine tr_bipush eX6_put_47 (nI 8) (by decide) ?_
      refine tr_ce1 eX6_put_49 zv_X6_deny zi_X6_deny lk_X6_117 ⟨rfl, by decide, by decide⟩ rfl rfl rfl k_X6_deny ?_
      try simp (disch := decide) only [up_k, up_s, up_f, s_set_0]
      refine tr_ret eX6_put_52 rfl (by first | rfl | exact nar_bi _) ?_
      have e : s_putp (aX σ) v s = s_dn (s_rs (aX σ) (s_A (aX σ) v s (s_in σ v) (s_out σ v))) (nI 8) := by rw [s_putp, if_neg (fun q => q h8), s_in_aX, s_out_aX, if_neg h43]
      rw [e]
      exact ⟨rfl, by simp (disch := decide) only [s_dn, s_rs, aX_f0_7, aX_f0_8, aX_f0_9, aX_s, aX_reg], rfl⟩
  · skip
    refine tr_aload_n eX6_put_11 rfl ?_
    refine tr_iload_n eX6_put_12 rfl ?_
    refine tr_ce1 eX6_put_13 zv_X6_deny zi_X6_deny lk_X6_117 ⟨rfl, by decide, by decide⟩ rfl rfl rfl k_X6_deny ?_
    try simp (disch := decide) only [up_k, up_s, up_f, s_set_0]
    refine tr_ret eX6_put_16 rfl (by first | rfl | exact nar_bi _) ?_
    have e : s_putp (aX σ) v s = s_dn (aX σ) (f_put (aX σ) v s) := by rw [s_putp, if_pos h8]
    rw [e]
    exact ⟨rfl, by rw [aX_f0_7]; rfl, rfl⟩

theorem k_X6_why {σ : tSt} {nS nP nC nV : Nat} {v s : Int32} (hI : iA (aX σ) nS nP nC nV) (hz : aw0 σ) : CT mX6_why [.ref 0, .int v, .int s] σ (QX σ (s_whyp (aX σ) v s)) := by
  have hI0 := hI.1
  have hS := hI0.1.1
  rw [aX_0] at hS
  have hP := hI0.2.1.1
  rw [aX_1] at hP
  have hC := hI0.2.2.1.1
  rw [aX_2] at hC
  have hV := hI0.2.2.2.1
  rw [aX_3] at hV
  have hS24 := hI0.1.2
  have hP40 := hI0.2.1.2
  have hC20 := hI0.2.2.1.2
  have hV40 := hI0.2.2.2.2
  refine CT.of2 1 (by decide) rfl rfl ?_
  refine tr_aload_n eX6_why_0 rfl ?_
  refine tr_iload_n eX6_why_1 rfl ?_
  refine tr_iload_n eX6_why_2 rfl ?_
  refine tr_ce2 eX6_why_3 zv_X6_faultOfLooking zi_X6_faultOfLooking lk_X6_159 ⟨rfl, by decide, by decide⟩ rfl rfl rfl (k_X6_faultOfLooking hI.1) ?_
  try simp (disch := decide) only [up_k, up_s, up_f, s_set_0]
  refine tr_istore_n eX6_why_6 (by decide) rfl ?_
  refine tr_iload_n eX6_why_7 rfl ?_
  refine tr_if_eq eX6_why_8 (fun h8 => ?_) (fun h8 => ?_)
  · skip
    obtain ⟨q1, q2, q3⟩ := f_look0 h8
    have hv : vp_in v 40 := by rw [s_nvi, aX_3] at q2; exact in_has hV hV40 (by decide) (n_not q2)
    have hs : vp_in s 24 := by rw [s_nst, aX_0] at q1; exact in_has hS hS24 (by decide) (n_not q1)
    have hsm : ¬ s = -1 := by rw [s_nst, aX_0] at q1; exact ne_m1 (n_not q1).1
    refine tr_aload_n eX6_why_17 rfl ?_
    refine tr_iload_n eX6_why_18 rfl ?_
    refine tr_iload_n eX6_why_19 rfl ?_
    refine tr_aload_n eX6_why_20 rfl ?_
    refine tr_getR eX6_why_21 fk_X6_19 rfl rfl ?_
    refine tr_iload_n eX6_why_24 rfl ?_
    refine tr_ce1 eX6_why_25 zv_X5_inOf zi_X5_inOf lk_X6_146 ⟨rfl, by decide, by decide⟩ rfl rfl rfl (k_X5_inOf (by first | with_reducible assumption | with_reducible exact in_slot (by with_reducible assumption) (by with_reducible assumption) | with_reducible exact in_row _ (by decide) (by with_reducible assumption) | with_reducible exact in_row0 (by with_reducible assumption) | with_reducible exact in_slot0 (by with_reducible assumption) | (simp (disch := decide) only [up_k, up_s, up_f] <;> with_reducible assumption))) ?_
    try simp (disch := decide) only [up_k, up_s, up_f, s_set_0]
    refine tr_aload_n eX6_why_28 rfl ?_
    refine tr_getR eX6_why_29 fk_X6_19 rfl rfl ?_
    refine tr_iload_n eX6_why_32 rfl ?_
    refine tr_ce1 eX6_why_33 zv_X5_outOf zi_X5_outOf lk_X6_149 ⟨rfl, by decide, by decide⟩ rfl rfl rfl (k_X5_outOf (by first | with_reducible assumption | with_reducible exact in_slot (by with_reducible assumption) (by with_reducible assumption) | with_reducible exact in_row _ (by decide) (by with_reducible assumption) | with_reducible exact in_row0 (by with_reducible assumption) | with_reducible exact in_slot0 (by with_reducible assumption) | (simp (disch := decide) only [up_k, up_s, up_f] <;> with_reducible assumption))) ?_
    try simp (disch := decide) only [up_k, up_s, up_f, s_set_0]
    refine tr_ce4 eX6_why_36 zv_X6_isHindered zi_X6_isHindered lk_X6_152 ⟨rfl, by decide, by decide⟩ rfl rfl rfl (k_X6_isHinderedA hI hz hv hs) ?_
    try simp (disch := decide) only [up_k, up_s, up_f, s_set_0]
    refine tr_if_eq eX6_why_39 (fun h39 => ?_) (fun h39 => ?_)
    · skip
      try first | replace h39 := bi_0 h39 | replace h39 := bi_n h39
      have g39 := n_not h39
      rw [s_hin_t g39]
      refine tr_aload_n eX6_why_51 rfl ?_
      refine tr_iconst eX6_why_52 (nI 0) ci_0 ?_
      refine tr_ce1 eX6_why_53 zv_X6_grant zi_X6_grant lk_X6_85 ⟨rfl, by decide, by decide⟩ rfl rfl rfl k_X6_grant ?_
      try simp (disch := decide) only [up_k, up_s, up_f, s_set_0]
      refine tr_ret eX6_why_56 rfl rfl ?_
      have e : s_whyp (aX σ) v s = s_gr (aX σ) (nI 0) := by rw [s_whyp, if_neg (fun q => q h8), s_in_aX, s_out_aX, if_pos g39]
      rw [e]
      exact ⟨rfl, by simp (disch := decide) only [s_gr, aX_f0_7, aX_s, aX_reg], rfl⟩
    · skip
      try first | replace h39 := bi_0 h39 | replace h39 := bi_n h39
      rw [s_hin_f h39]
      refine tr_aload_n eX6_why_42 rfl ?_
      refine tr_aload_n eX6_why_43 rfl ?_
      refine tr_getI eX6_why_44 fk_X6_64 rfl rfl ?_
      try simp (disch := decide) only [up_k, up_s, up_f, s_set_0]
      refine tr_ce1 eX6_why_47 zv_X6_grant zi_X6_grant lk_X6_85 ⟨rfl, by decide, by decide⟩ rfl rfl rfl k_X6_grant ?_
      try simp (disch := decide) only [up_k, up_s, up_f, s_set_0]
      refine tr_ret eX6_why_50 rfl rfl ?_
      have e : s_whyp (aX σ) v s = s_gr (s_rs (aX σ) (s_A (aX σ) v s (s_in σ v) (s_out σ v))) (s_A (aX σ) v s (s_in σ v) (s_out σ v)).1 := by rw [s_whyp, if_neg (fun q => q h8), s_in_aX, s_out_aX, if_neg h39]
      rw [e]
      exact ⟨rfl, by simp (disch := decide) only [s_gr, s_rs, aX_f0_7, aX_f0_8, aX_f0_9, aX_s, aX_reg], rfl⟩
  · skip
    refine tr_aload_n eX6_why_11 rfl ?_
    refine tr_iload_n eX6_why_12 rfl ?_
    refine tr_ce1 eX6_why_13 zv_X6_refuse zi_X6_refuse lk_X6_74 ⟨rfl, by decide, by decide⟩ rfl rfl rfl k_X6_refuse ?_
    try simp (disch := decide) only [up_k, up_s, up_f, s_set_0]
    refine tr_ret eX6_why_16 rfl rfl ?_
    have e : s_whyp (aX σ) v s = s_rf (aX σ) (f_look (aX σ) v s) := by rw [s_whyp, if_pos h8]
    rw [e]
    exact ⟨rfl, by rw [aX_f0_7]; rfl, rfl⟩

theorem up_ci6 {σ : tSt} {x y : Int32} : up (up σ 0 (nI 6) x) 0 (nI 7) y = up (up σ 0 (nI 7) y) 0 (nI 6) x := up_ci (by decide)
theorem up_ci67 {σ : tSt} {x y : Int32} : up (up σ 0 (nI 6) x) 0 (nI 8) y = up (up σ 0 (nI 8) y) 0 (nI 6) x := up_ci (by decide)
theorem k_X7_put {τ : tSt} {nS nP nC nV : Nat} {v s : Int32} (hI : iA (aM τ) nS nP nC nV) : CT mX7_put [.ref 0, .int v, .int s] τ (QM (s_putp (aM τ) v s)) := by
  have hI0 := hI.1
  have hS := hI0.1.1
  rw [aM_0] at hS
  have hP := hI0.2.1.1
  rw [aM_1] at hP
  have hC := hI0.2.2.1.1
  rw [aM_2] at hC
  have hV := hI0.2.2.2.1
  rw [aM_3] at hV
  have hS24 := hI0.1.2
  have hP40 := hI0.2.1.2
  have hC20 := hI0.2.2.1.2
  have hV40 := hI0.2.2.2.2
  refine CT.of2 0 (by decide) rfl rfl ?_
  refine tr_aload_n eX7_put_0 rfl ?_
  refine tr_aload_n eX7_put_1 rfl ?_
  refine tr_iload_n eX7_put_2 rfl ?_
  refine tr_ce1 eX7_put_3 zv_X7_isStand zi_X7_isStand lk_X7_99 ⟨rfl, by decide, by decide⟩ rfl rfl rfl k_X7_isStand ?_
  refine tr_if_ne eX7_put_6 (fun h6 => ?_) (fun h6 => ?_)
  · skip
    try first | replace h6 := bi_0 h6 | replace h6 := bi_n h6
    refine tr_aload_n eX7_put_13 rfl ?_
    refine tr_iload_n eX7_put_14 rfl ?_
    refine tr_ce1 eX7_put_15 zv_X7_isVisit zi_X7_isVisit lk_X7_113 ⟨rfl, by decide, by decide⟩ rfl rfl rfl k_X7_isVisit ?_
    refine tr_if_ne eX7_put_18 (fun h18 => ?_) (fun h18 => ?_)
    · skip
      try first | replace h18 := bi_0 h18 | replace h18 := bi_n h18
      have hv : vp_in v 40 := in_has hV hV40 (by decide) h18
      refine tr_aload_n eX7_put_25 rfl ?_
      refine tr_iload_n eX7_put_26 rfl ?_
      refine tr_ce1 eX7_put_27 zv_X7_isUnknown zi_X7_isUnknown lk_X7_172 ⟨rfl, by decide, by decide⟩ rfl rfl rfl (k_X7_isUnknown (by first | with_reducible assumption | with_reducible exact in_slot (by with_reducible assumption) (by with_reducible assumption) | with_reducible exact in_row _ (by decide) (by with_reducible assumption) | with_reducible exact in_row0 (by with_reducible assumption) | with_reducible exact in_slot0 (by with_reducible assumption) | (simp (disch := decide) only [up_k, up_s, up_f] <;> with_reducible assumption))) ?_
      refine tr_if_eq eX7_put_30 (fun h30 => ?_) (fun h30 => ?_)
      · skip
        try first | replace h30 := bi_0 h30 | replace h30 := bi_n h30
        refine tr_aload_n eX7_put_37 rfl ?_
        refine tr_iload_n eX7_put_38 rfl ?_
        refine tr_ce1 eX7_put_39 zv_X7_isPut zi_X7_isPut lk_X7_116 ⟨rfl, by decide, by decide⟩ rfl rfl rfl (k_X7_isPut (by first | with_reducible assumption | with_reducible exact in_slot (by with_reducible assumption) (by with_reducible assumption) | with_reducible exact in_row _ (by decide) (by with_reducible assumption) | with_reducible exact in_row0 (by with_reducible assumption) | with_reducible exact in_slot0 (by with_reducible assumption) | (simp (disch := decide) only [up_k, up_s, up_f] <;> with_reducible assumption))) ?_
        refine tr_if_eq eX7_put_42 (fun h42 => ?_) (fun h42 => ?_)
        · skip
          try first | replace h42 := bi_0 h42 | replace h42 := bi_n h42
          refine tr_aload_n eX7_put_50 rfl ?_
          refine tr_iload_n eX7_put_51 rfl ?_
          refine tr_ce1 eX7_put_52 zv_X7_hasBegun zi_X7_hasBegun lk_X7_175 ⟨rfl, by decide, by decide⟩ rfl rfl rfl (k_X7_hasBegun (by first | with_reducible assumption | with_reducible exact in_slot (by with_reducible assumption) (by with_reducible assumption) | with_reducible exact in_row _ (by decide) (by with_reducible assumption) | with_reducible exact in_row0 (by with_reducible assumption) | with_reducible exact in_slot0 (by with_reducible assumption) | (simp (disch := decide) only [up_k, up_s, up_f] <;> with_reducible assumption))) ?_
          refine tr_if_eq eX7_put_55 (fun h55 => ?_) (fun h55 => ?_)
          · skip
            try first | replace h55 := bi_0 h55 | replace h55 := bi_n h55
            have hf : f_put (aM τ) v s = 0 := by simp (disch := decide) only [f_put, up_c0, up_65, s_nst, s_nvi, s_kind_aM, s_wing_aM, s_in_aM, s_out_aM, s_need_aM, s_unk_aM, s_put_aM, aM_0, aM_1, aM_2, aM_3, aM_4, aM_5, aM_6, aM_7, aM_8, aM_9, aM_f0_3, aM_f0_4, aM_f0_5, aM_f0_6, aM_f0_8, aM_f0_7, aM_f0_0, aM_f0_1, aM_f0_2, aM_f0_34, aM_f0_24, aM_f0_26, aM_f0_29, aM_f0_30, aM_k]; simp_all [n0, le_nlt, -Int32.not_lt, -Int32.not_le]
            have hv : vp_in v 40 := in_has hV hV40 (by decide) h18
            have hs : vp_in s 24 := in_has hS hS24 (by decide) h6
            have hab : s_in τ v < s_out τ v := by have := hI.2.2.1.1.lt hV40 h18.1 (by rw [← hV]; exact h18.2); rw [s_in_aM, s_out_aM] at this; exact this
            refine tr_iconst eX7_put_63 (nI 0) ci_0 ?_
            refine tr_put eX7_put_64 fp_X7_80 rfl rfl ?_
            refine tr_aload_n eX7_put_67 rfl ?_
            refine tr_getI eX7_put_68 fk_X7_80 rfl rfl ?_
            try simp (disch := decide) only [up_k, up_s, up_f, s_set_0]
            refine tr_if_le eX7_put_71 (fun _ => ?_) (fun h71 => absurd h71 (by decide))
            refine tr_aload_n eX7_put_76 rfl ?_
            refine tr_aload_n eX7_put_77 rfl ?_
            refine tr_iload_n eX7_put_78 rfl ?_
            refine tr_iload_n eX7_put_79 rfl ?_
            refine tr_aload_n eX7_put_80 rfl ?_
            refine tr_iload_n eX7_put_81 rfl ?_
            refine tr_ce1 eX7_put_82 zv_X7_inOf zi_X7_inOf lk_X7_119 ⟨rfl, by decide, by decide⟩ rfl rfl rfl (show CT mX7_inOf _ _ (PE (some (s_in τ v)) _) from k_X7_inOf hv) ?_
            try simp (disch := decide) only [up_k, up_s, up_f, s_set_0]
            refine tr_aload_n eX7_put_85 rfl ?_
            refine tr_iload_n eX7_put_86 rfl ?_
            refine tr_ce1 eX7_put_87 zv_X7_outOf zi_X7_outOf lk_X7_178 ⟨rfl, by decide, by decide⟩ rfl rfl rfl (show CT mX7_outOf _ _ (PE (some (s_out τ v)) _) from k_X7_outOf hv) ?_
            try simp (disch := decide) only [up_k, up_s, up_f, s_set_0]
            refine tr_ce4 eX7_put_90 zv_X7_againstOf zi_X7_againstOf lk_X7_165 ⟨rfl, by decide, by decide⟩ rfl rfl rfl (k_X7_againstOfA hI hv hs hab) ?_
            try simp (disch := decide) only [up_k, up_s, up_f, s_set_0]
            refine tr_ce1 eX7_put_93 zv_X7_isAgainst zi_X7_isAgainst lk_X7_181 ⟨rfl, by decide, by decide⟩ rfl rfl rfl k_X7_isAgainst ?_
            try simp (disch := decide) only [up_k, up_s, up_f, s_set_0]
            refine tr_if_eq eX7_put_96 (fun h96 => ?_) (fun h96 => ?_)
            · skip
              replace h96 := bi_0 h96
              have g96 := n_not h96
              rw [if_pos g96]
              refine tr_aload_n eX7_put_108 rfl ?_
              refine tr_iload_n eX7_put_109 rfl ?_
              refine tr_iload_n eX7_put_110 rfl ?_
              refine tr_aload_n eX7_put_111 rfl ?_
              refine tr_iload_n eX7_put_112 rfl ?_
              refine tr_ce1 eX7_put_113 zv_X7_inOf zi_X7_inOf lk_X7_119 ⟨rfl, by decide, by decide⟩ rfl rfl rfl (show CT mX7_inOf _ _ (PE (some (s_in τ v)) _) from k_X7_inOf hv) ?_
              try simp (disch := decide) only [up_k, up_s, up_f, s_set_0]
              refine tr_aload_n eX7_put_116 rfl ?_
              refine tr_iload_n eX7_put_117 rfl ?_
              refine tr_ce1 eX7_put_118 zv_X7_outOf zi_X7_outOf lk_X7_178 ⟨rfl, by decide, by decide⟩ rfl rfl rfl (show CT mX7_outOf _ _ (PE (some (s_out τ v)) _) from k_X7_outOf hv) ?_
              try simp (disch := decide) only [up_k, up_s, up_f, s_set_0]
              refine tr_ce4 eX7_put_121 zv_X7_sets zi_X7_sets lk_X7_184 ⟨rfl, by decide, by decide⟩ rfl rfl rfl (k_X7_sets (by first | with_reducible assumption | with_reducible exact in_slot (by with_reducible assumption) (by with_reducible assumption) | with_reducible exact in_row _ (by decide) (by with_reducible assumption) | with_reducible exact in_row0 (by with_reducible assumption) | with_reducible exact in_slot0 (by with_reducible assumption) | (simp (disch := decide) only [up_k, up_s, up_f] <;> with_reducible assumption))) ?_
              try simp (disch := decide) only [up_k, up_s, up_f, s_set_0]
              refine tr_aload_n eX7_put_124 rfl ?_
              refine tr_getI eX7_put_125 fk_X7_80 rfl rfl ?_
              try simp (disch := decide) only [up_k, up_s, up_f, s_set_0]
              refine tr_if_ne eX7_put_128 (fun h128 => absurd h128 (by decide)) (fun _ => ?_)
              refine tr_iconst eX7_put_131 (nI 1) ci_1 ?_
              refine tr_goto eX7_put_132 ?_
              refine tr_ret eX7_put_136 rfl (by first | rfl | exact nar_bi _) ?_
              have e : s_putp (aM τ) v s = s_al (s_set (aM τ) v s (s_in τ v) (s_out τ v)) := by rw [s_putp, if_neg (fun q => q hf), s_in_aM, s_out_aM, if_pos g96]
              rw [e]
              exact ⟨rfl, by simp (disch := decide) only [s_al, aM_f0_0, aM_f0_24, aM_set, s_set_6, up_up]⟩
            · skip
              replace h96 := bi_n h96
              rw [if_neg h96]
              try simp (disch := decide) only [up_k, up_s, up_f]
              refine tr_aload_n eX7_put_99 rfl ?_
              refine tr_bipush eX7_put_100 (nI 8) (by decide) ?_
              refine tr_put eX7_put_102 fp_X7_80 rfl rfl ?_
              refine tr_goto eX7_put_105 ?_
              refine tr_aload_n eX7_put_124 rfl ?_
              refine tr_getI eX7_put_125 fk_X7_80 rfl rfl ?_
              try simp (disch := decide) only [up_k, up_s, up_f, s_set_0]
              refine tr_if_ne eX7_put_128 (fun _ => ?_) (fun h128 => absurd h128 (by decide))
              refine tr_iconst eX7_put_135 (nI 0) ci_0 ?_
              refine tr_ret eX7_put_136 rfl (by first | rfl | exact nar_bi _) ?_
              have e : s_putp (aM τ) v s = s_dn (s_rs (aM τ) (s_A (aM τ) v s (s_in τ v) (s_out τ v))) (nI 8) := by rw [s_putp, if_neg (fun q => q hf), s_in_aM, s_out_aM, if_neg h96]
              rw [e]
              exact ⟨rfl, by simp (disch := decide) only [s_dn, s_rs, aM_f0_0, aM_f0_1, aM_f0_2, aM_f0_24, up_ci6, up_ci67, up_up]⟩
          · skip
            try first | replace h55 := bi_0 h55 | replace h55 := bi_n h55
            refine tr_bipush eX7_put_58 (nI 7) (by decide) ?_
            refine tr_goto eX7_put_60 ?_
            refine tr_put eX7_put_64 fp_X7_80 rfl rfl ?_
            refine tr_aload_n eX7_put_67 rfl ?_
            refine tr_getI eX7_put_68 fk_X7_80 rfl rfl ?_
            try simp (disch := decide) only [up_k, up_s, up_f, s_set_0]
            refine tr_if_le eX7_put_71 (fun h71 => absurd h71 (by decide)) (fun _ => ?_)
            refine tr_iconst eX7_put_74 (nI 0) ci_0 ?_
            refine tr_ret eX7_put_75 rfl (by first | rfl | exact nar_bi _) ?_
            have hf : f_put (aM τ) v s = nI 7 := by simp (disch := decide) only [f_put, up_c0, up_65, s_nst, s_nvi, s_kind_aM, s_wing_aM, s_in_aM, s_out_aM, s_need_aM, s_unk_aM, s_put_aM, aM_0, aM_1, aM_2, aM_3, aM_4, aM_5, aM_6, aM_7, aM_8, aM_9, aM_f0_3, aM_f0_4, aM_f0_5, aM_f0_6, aM_f0_8, aM_f0_7, aM_f0_0, aM_f0_1, aM_f0_2, aM_f0_34, aM_f0_24, aM_f0_26, aM_f0_29, aM_f0_30, aM_k]; simp_all [n0, le_nlt, -Int32.not_lt, -Int32.not_le]
            have e : s_putp (aM τ) v s = s_dn (aM τ) (nI 7) := by rw [s_putp, if_pos (by rw [hf]; decide), hf]
            rw [e]
            exact ⟨rfl, by simp only [aM_f0_0, s_dn, up_up]⟩
        · skip
          try first | replace h42 := bi_0 h42 | replace h42 := bi_n h42
          refine tr_bipush eX7_put_45 (nI 6) (by decide) ?_
          refine tr_goto eX7_put_47 ?_
          refine tr_put eX7_put_64 fp_X7_80 rfl rfl ?_
          refine tr_aload_n eX7_put_67 rfl ?_
          refine tr_getI eX7_put_68 fk_X7_80 rfl rfl ?_
          try simp (disch := decide) only [up_k, up_s, up_f, s_set_0]
          refine tr_if_le eX7_put_71 (fun h71 => absurd h71 (by decide)) (fun _ => ?_)
          refine tr_iconst eX7_put_74 (nI 0) ci_0 ?_
          refine tr_ret eX7_put_75 rfl (by first | rfl | exact nar_bi _) ?_
          have hf : f_put (aM τ) v s = nI 6 := by simp (disch := decide) only [f_put, up_c0, up_65, s_nst, s_nvi, s_kind_aM, s_wing_aM, s_in_aM, s_out_aM, s_need_aM, s_unk_aM, s_put_aM, aM_0, aM_1, aM_2, aM_3, aM_4, aM_5, aM_6, aM_7, aM_8, aM_9, aM_f0_3, aM_f0_4, aM_f0_5, aM_f0_6, aM_f0_8, aM_f0_7, aM_f0_0, aM_f0_1, aM_f0_2, aM_f0_34, aM_f0_24, aM_f0_26, aM_f0_29, aM_f0_30, aM_k]; simp_all [n0, le_nlt, -Int32.not_lt, -Int32.not_le]
          have e : s_putp (aM τ) v s = s_dn (aM τ) (nI 6) := by rw [s_putp, if_pos (by rw [hf]; decide), hf]
          rw [e]
          exact ⟨rfl, by simp only [aM_f0_0, s_dn, up_up]⟩
      · skip
        try first | replace h30 := bi_0 h30 | replace h30 := bi_n h30
        refine tr_iconst eX7_put_33 (nI 5) ci_5 ?_
        refine tr_goto eX7_put_34 ?_
        refine tr_put eX7_put_64 fp_X7_80 rfl rfl ?_
        refine tr_aload_n eX7_put_67 rfl ?_
        refine tr_getI eX7_put_68 fk_X7_80 rfl rfl ?_
        try simp (disch := decide) only [up_k, up_s, up_f, s_set_0]
        refine tr_if_le eX7_put_71 (fun h71 => absurd h71 (by decide)) (fun _ => ?_)
        refine tr_iconst eX7_put_74 (nI 0) ci_0 ?_
        refine tr_ret eX7_put_75 rfl (by first | rfl | exact nar_bi _) ?_
        have hf : f_put (aM τ) v s = nI 5 := by simp (disch := decide) only [f_put, up_c0, up_65, s_nst, s_nvi, s_kind_aM, s_wing_aM, s_in_aM, s_out_aM, s_need_aM, s_unk_aM, s_put_aM, aM_0, aM_1, aM_2, aM_3, aM_4, aM_5, aM_6, aM_7, aM_8, aM_9, aM_f0_3, aM_f0_4, aM_f0_5, aM_f0_6, aM_f0_8, aM_f0_7, aM_f0_0, aM_f0_1, aM_f0_2, aM_f0_34, aM_f0_24, aM_f0_26, aM_f0_29, aM_f0_30, aM_k]; simp_all [n0, le_nlt, -Int32.not_lt, -Int32.not_le]
        have e : s_putp (aM τ) v s = s_dn (aM τ) (nI 5) := by rw [s_putp, if_pos (by rw [hf]; decide), hf]
        rw [e]
        exact ⟨rfl, by simp only [aM_f0_0, s_dn, up_up]⟩
    · skip
      try first | replace h18 := bi_0 h18 | replace h18 := bi_n h18
      refine tr_iconst eX7_put_21 (nI 2) ci_2 ?_
      refine tr_goto eX7_put_22 ?_
      refine tr_put eX7_put_64 fp_X7_80 rfl rfl ?_
      refine tr_aload_n eX7_put_67 rfl ?_
      refine tr_getI eX7_put_68 fk_X7_80 rfl rfl ?_
      try simp (disch := decide) only [up_k, up_s, up_f, s_set_0]
      refine tr_if_le eX7_put_71 (fun h71 => absurd h71 (by decide)) (fun _ => ?_)
      refine tr_iconst eX7_put_74 (nI 0) ci_0 ?_
      refine tr_ret eX7_put_75 rfl (by first | rfl | exact nar_bi _) ?_
      have hf : f_put (aM τ) v s = nI 2 := by simp (disch := decide) only [f_put, up_c0, up_65, s_nst, s_nvi, s_kind_aM, s_wing_aM, s_in_aM, s_out_aM, s_need_aM, s_unk_aM, s_put_aM, aM_0, aM_1, aM_2, aM_3, aM_4, aM_5, aM_6, aM_7, aM_8, aM_9, aM_f0_3, aM_f0_4, aM_f0_5, aM_f0_6, aM_f0_8, aM_f0_7, aM_f0_0, aM_f0_1, aM_f0_2, aM_f0_34, aM_f0_24, aM_f0_26, aM_f0_29, aM_f0_30, aM_k]; simp_all [n0, le_nlt, -Int32.not_lt, -Int32.not_le]
      have e : s_putp (aM τ) v s = s_dn (aM τ) (nI 2) := by rw [s_putp, if_pos (by rw [hf]; decide), hf]
      rw [e]
      exact ⟨rfl, by simp only [aM_f0_0, s_dn, up_up]⟩
  · skip
    try first | replace h6 := bi_0 h6 | replace h6 := bi_n h6
    refine tr_iconst eX7_put_9 (nI 1) ci_1 ?_
    refine tr_goto eX7_put_10 ?_
    refine tr_put eX7_put_64 fp_X7_80 rfl rfl ?_
    refine tr_aload_n eX7_put_67 rfl ?_
    refine tr_getI eX7_put_68 fk_X7_80 rfl rfl ?_
    try simp (disch := decide) only [up_k, up_s, up_f, s_set_0]
    refine tr_if_le eX7_put_71 (fun h71 => absurd h71 (by decide)) (fun _ => ?_)
    refine tr_iconst eX7_put_74 (nI 0) ci_0 ?_
    refine tr_ret eX7_put_75 rfl (by first | rfl | exact nar_bi _) ?_
    have hf : f_put (aM τ) v s = nI 1 := by simp (disch := decide) only [f_put, up_c0, up_65, s_nst, s_nvi, s_kind_aM, s_wing_aM, s_in_aM, s_out_aM, s_need_aM, s_unk_aM, s_put_aM, aM_0, aM_1, aM_2, aM_3, aM_4, aM_5, aM_6, aM_7, aM_8, aM_9, aM_f0_3, aM_f0_4, aM_f0_5, aM_f0_6, aM_f0_8, aM_f0_7, aM_f0_0, aM_f0_1, aM_f0_2, aM_f0_34, aM_f0_24, aM_f0_26, aM_f0_29, aM_f0_30, aM_k]; simp_all [n0, le_nlt, -Int32.not_lt, -Int32.not_le]
    have e : s_putp (aM τ) v s = s_dn (aM τ) (nI 1) := by rw [s_putp, if_pos (by rw [hf]; decide), hf]
    rw [e]
    exact ⟨rfl, by simp only [aM_f0_0, s_dn, up_up]⟩

theorem k_X7_why {τ : tSt} {nS nP nC nV : Nat} {v s : Int32} (hI : iA (aM τ) nS nP nC nV) : CT mX7_why [.ref 0, .int v, .int s] τ (QM (s_whyp (aM τ) v s)) := by
  have hI0 := hI.1
  have hS := hI0.1.1
  rw [aM_0] at hS
  have hP := hI0.2.1.1
  rw [aM_1] at hP
  have hC := hI0.2.2.1.1
  rw [aM_2] at hC
  have hV := hI0.2.2.2.1
  rw [aM_3] at hV
  have hS24 := hI0.1.2
  have hP40 := hI0.2.1.2
  have hC20 := hI0.2.2.1.2
  have hV40 := hI0.2.2.2.2
  refine CT.of2 2 (by decide) rfl rfl ?_
  refine tr_aload_n eX7_why_0 rfl ?_
  refine tr_aload_n eX7_why_1 rfl ?_
  refine tr_iload_n eX7_why_2 rfl ?_
  refine tr_ce1 eX7_why_3 zv_X7_isStand zi_X7_isStand lk_X7_99 ⟨rfl, by decide, by decide⟩ rfl rfl rfl k_X7_isStand ?_
  refine tr_if_ne eX7_why_6 (fun h6 => ?_) (fun h6 => ?_)
  · skip
    try first | replace h6 := bi_0 h6 | replace h6 := bi_n h6
    refine tr_aload_n eX7_why_13 rfl ?_
    refine tr_iload_n eX7_why_14 rfl ?_
    refine tr_ce1 eX7_why_15 zv_X7_isVisit zi_X7_isVisit lk_X7_113 ⟨rfl, by decide, by decide⟩ rfl rfl rfl k_X7_isVisit ?_
    refine tr_if_ne eX7_why_18 (fun h18 => ?_) (fun h18 => ?_)
    · skip
      try first | replace h18 := bi_0 h18 | replace h18 := bi_n h18
      have hv : vp_in v 40 := in_has hV hV40 (by decide) h18
      refine tr_aload_n eX7_why_25 rfl ?_
      refine tr_iload_n eX7_why_26 rfl ?_
      refine tr_ce1 eX7_why_27 zv_X7_isUnknown zi_X7_isUnknown lk_X7_172 ⟨rfl, by decide, by decide⟩ rfl rfl rfl (k_X7_isUnknown (by first | with_reducible assumption | with_reducible exact in_slot (by with_reducible assumption) (by with_reducible assumption) | with_reducible exact in_row _ (by decide) (by with_reducible assumption) | with_reducible exact in_row0 (by with_reducible assumption) | with_reducible exact in_slot0 (by with_reducible assumption) | (simp (disch := decide) only [up_k, up_s, up_f] <;> with_reducible assumption))) ?_
      refine tr_if_eq eX7_why_30 (fun h30 => ?_) (fun h30 => ?_)
      · skip
        try first | replace h30 := bi_0 h30 | replace h30 := bi_n h30
        have hf : f_look (aM τ) v s = 0 := by simp (disch := decide) only [f_look, up_c0, up_65, s_nst, s_nvi, s_kind_aM, s_wing_aM, s_in_aM, s_out_aM, s_need_aM, s_unk_aM, s_put_aM, aM_0, aM_1, aM_2, aM_3, aM_4, aM_5, aM_6, aM_7, aM_8, aM_9, aM_f0_3, aM_f0_4, aM_f0_5, aM_f0_6, aM_f0_8, aM_f0_7, aM_f0_0, aM_f0_1, aM_f0_2, aM_f0_34, aM_f0_24, aM_f0_26, aM_f0_29, aM_f0_30, aM_k]; simp_all [n0, le_nlt, -Int32.not_lt, -Int32.not_le]
        have hv : vp_in v 40 := in_has hV hV40 (by decide) h18
        have hs : vp_in s 24 := in_has hS hS24 (by decide) h6
        have hab : s_in τ v < s_out τ v := by have := hI.2.2.1.1.lt hV40 h18.1 (by rw [← hV]; exact h18.2); rw [s_in_aM, s_out_aM] at this; exact this
        refine tr_iconst eX7_why_37 (nI 0) ci_0 ?_
        refine tr_put eX7_why_38 fp_X7_80 rfl rfl ?_
        refine tr_aload_n eX7_why_41 rfl ?_
        refine tr_getI eX7_why_42 fk_X7_80 rfl rfl ?_
        try simp (disch := decide) only [up_k, up_s, up_f, s_set_0]
        refine tr_if_le eX7_why_45 (fun _ => ?_) (fun h45 => absurd h45 (by decide))
        refine tr_aload_n eX7_why_50 rfl ?_
        refine tr_iload_n eX7_why_51 rfl ?_
        refine tr_iload_n eX7_why_52 rfl ?_
        refine tr_aload_n eX7_why_53 rfl ?_
        refine tr_iload_n eX7_why_54 rfl ?_
        refine tr_ce1 eX7_why_55 zv_X7_inOf zi_X7_inOf lk_X7_119 ⟨rfl, by decide, by decide⟩ rfl rfl rfl (show CT mX7_inOf _ _ (PE (some (s_in τ v)) _) from k_X7_inOf hv) ?_
        try simp (disch := decide) only [up_k, up_s, up_f, s_set_0]
        refine tr_aload_n eX7_why_58 rfl ?_
        refine tr_iload_n eX7_why_59 rfl ?_
        refine tr_ce1 eX7_why_60 zv_X7_outOf zi_X7_outOf lk_X7_178 ⟨rfl, by decide, by decide⟩ rfl rfl rfl (show CT mX7_outOf _ _ (PE (some (s_out τ v)) _) from k_X7_outOf hv) ?_
        try simp (disch := decide) only [up_k, up_s, up_f, s_set_0]
        refine tr_ce4 eX7_why_63 zv_X7_againstOf zi_X7_againstOf lk_X7_165 ⟨rfl, by decide, by decide⟩ rfl rfl rfl (k_X7_againstOfA hI hv hs hab) ?_
        try simp (disch := decide) only [up_k, up_s, up_f, s_set_0]
        refine tr_istore_n eX7_why_66 (by decide) rfl ?_
        refine tr_aload_n eX7_why_67 rfl ?_
        refine tr_iload_n eX7_why_68 rfl ?_
        refine tr_ce1 eX7_why_69 zv_X7_isAgainst zi_X7_isAgainst lk_X7_181 ⟨rfl, by decide, by decide⟩ rfl rfl rfl k_X7_isAgainst ?_
        try simp (disch := decide) only [up_k, up_s, up_f, s_set_0]
        refine tr_istore eX7_why_72 (by decide) rfl ?_
        refine tr_iload_n eX7_why_74 rfl ?_
        refine tr_ret eX7_why_75 rfl rfl ?_
        by_cases g : (s_A (aM τ) v s (s_in τ v) (s_out τ v)).1 = 0
        · have e : s_whyp (aM τ) v s = s_gr (aM τ) (nI 0) := by rw [s_whyp, if_neg (fun q => q hf), s_in_aM, s_out_aM, if_pos g]
          rw [e, if_pos g, g]
          exact ⟨rfl, by simp (disch := decide) only [s_gr, aM_f0_0, aM_f0_24]⟩
        · have e : s_whyp (aM τ) v s = s_gr (s_rs (aM τ) (s_A (aM τ) v s (s_in τ v) (s_out τ v))) (s_A (aM τ) v s (s_in τ v) (s_out τ v)).1 := by rw [s_whyp, if_neg (fun q => q hf), s_in_aM, s_out_aM, if_neg g]
          rw [e, if_neg g]
          exact ⟨rfl, by simp (disch := decide) only [s_gr, s_rs, up_s, aM_f0_0, aM_f0_1, aM_f0_2, aM_f0_24, up_ci6, up_ci67, up_up]⟩
      · skip
        try first | replace h30 := bi_0 h30 | replace h30 := bi_n h30
        refine tr_iconst eX7_why_33 (nI 5) ci_5 ?_
        refine tr_goto eX7_why_34 ?_
        refine tr_put eX7_why_38 fp_X7_80 rfl rfl ?_
        refine tr_aload_n eX7_why_41 rfl ?_
        refine tr_getI eX7_why_42 fk_X7_80 rfl rfl ?_
        try simp (disch := decide) only [up_k, up_s, up_f, s_set_0]
        refine tr_if_le eX7_why_45 (fun h45 => absurd h45 (by decide)) (fun _ => ?_)
        refine tr_iconst eX7_why_48 (-1) ci_m1 ?_
        refine tr_ret eX7_why_49 rfl rfl ?_
        have hf : f_look (aM τ) v s = nI 5 := by simp (disch := decide) only [f_look, up_c0, up_65, s_nst, s_nvi, s_kind_aM, s_wing_aM, s_in_aM, s_out_aM, s_need_aM, s_unk_aM, s_put_aM, aM_0, aM_1, aM_2, aM_3, aM_4, aM_5, aM_6, aM_7, aM_8, aM_9, aM_f0_3, aM_f0_4, aM_f0_5, aM_f0_6, aM_f0_8, aM_f0_7, aM_f0_0, aM_f0_1, aM_f0_2, aM_f0_34, aM_f0_24, aM_f0_26, aM_f0_29, aM_f0_30, aM_k]; simp_all [n0, le_nlt, -Int32.not_lt, -Int32.not_le]
        have e : s_whyp (aM τ) v s = s_rf (aM τ) (nI 5) := by rw [s_whyp, if_pos (by rw [hf]; decide), hf]
        rw [e]
        exact ⟨rfl, by simp only [aM_f0_0, s_rf, up_up]⟩
    · skip
      try first | replace h18 := bi_0 h18 | replace h18 := bi_n h18
      refine tr_iconst eX7_why_21 (nI 2) ci_2 ?_
      refine tr_goto eX7_why_22 ?_
      refine tr_put eX7_why_38 fp_X7_80 rfl rfl ?_
      refine tr_aload_n eX7_why_41 rfl ?_
      refine tr_getI eX7_why_42 fk_X7_80 rfl rfl ?_
      try simp (disch := decide) only [up_k, up_s, up_f, s_set_0]
      refine tr_if_le eX7_why_45 (fun h45 => absurd h45 (by decide)) (fun _ => ?_)
      refine tr_iconst eX7_why_48 (-1) ci_m1 ?_
      refine tr_ret eX7_why_49 rfl rfl ?_
      have hf : f_look (aM τ) v s = nI 2 := by simp (disch := decide) only [f_look, up_c0, up_65, s_nst, s_nvi, s_kind_aM, s_wing_aM, s_in_aM, s_out_aM, s_need_aM, s_unk_aM, s_put_aM, aM_0, aM_1, aM_2, aM_3, aM_4, aM_5, aM_6, aM_7, aM_8, aM_9, aM_f0_3, aM_f0_4, aM_f0_5, aM_f0_6, aM_f0_8, aM_f0_7, aM_f0_0, aM_f0_1, aM_f0_2, aM_f0_34, aM_f0_24, aM_f0_26, aM_f0_29, aM_f0_30, aM_k]; simp_all [n0, le_nlt, -Int32.not_lt, -Int32.not_le]
      have e : s_whyp (aM τ) v s = s_rf (aM τ) (nI 2) := by rw [s_whyp, if_pos (by rw [hf]; decide), hf]
      rw [e]
      exact ⟨rfl, by simp only [aM_f0_0, s_rf, up_up]⟩
  · skip
    try first | replace h6 := bi_0 h6 | replace h6 := bi_n h6
    refine tr_iconst eX7_why_9 (nI 1) ci_1 ?_
    refine tr_goto eX7_why_10 ?_
    refine tr_put eX7_why_38 fp_X7_80 rfl rfl ?_
    refine tr_aload_n eX7_why_41 rfl ?_
    refine tr_getI eX7_why_42 fk_X7_80 rfl rfl ?_
    try simp (disch := decide) only [up_k, up_s, up_f, s_set_0]
    refine tr_if_le eX7_why_45 (fun h45 => absurd h45 (by decide)) (fun _ => ?_)
    refine tr_iconst eX7_why_48 (-1) ci_m1 ?_
    refine tr_ret eX7_why_49 rfl rfl ?_
    have hf : f_look (aM τ) v s = nI 1 := by simp (disch := decide) only [f_look, up_c0, up_65, s_nst, s_nvi, s_kind_aM, s_wing_aM, s_in_aM, s_out_aM, s_need_aM, s_unk_aM, s_put_aM, aM_0, aM_1, aM_2, aM_3, aM_4, aM_5, aM_6, aM_7, aM_8, aM_9, aM_f0_3, aM_f0_4, aM_f0_5, aM_f0_6, aM_f0_8, aM_f0_7, aM_f0_0, aM_f0_1, aM_f0_2, aM_f0_34, aM_f0_24, aM_f0_26, aM_f0_29, aM_f0_30, aM_k]; simp_all [n0, le_nlt, -Int32.not_lt, -Int32.not_le]
    have e : s_whyp (aM τ) v s = s_rf (aM τ) (nI 1) := by rw [s_whyp, if_pos (by rw [hf]; decide), hf]
    rw [e]
    exact ⟨rfl, by simp only [aM_f0_0, s_rf, up_up]⟩

theorem asub (a b c : Int32) : a + (b - c) = a + b - c := by rw [Int32.sub_eq_add_neg, Int32.sub_eq_add_neg, Int32.add_assoc]
theorem sub1add1 (x : Int32) : x - nI 1 + nI 1 = x := by rw [Int32.sub_eq_add_neg, Int32.add_assoc, show -nI 1 + nI 1 = 0 from by decide, Int32.add_zero]
def s_li (μ : tSt) (v : Int32) : Int32 := v * nI 8 + μ 12 v - nI 1
def f_tow (μ : tSt) (v m s : Int32) : Int32 := if s_nst μ s then nI 1 else if s_nvi μ v then nI 2 else if ¬ s_put μ v = true then nI 6 else if μ 13 (s_li μ v) = s then nI 3 else if ¬ μ 14 (s_li μ v) < m then nI 3 else if ¬ μ 0 (nI 4) < m then nI 3 else if ¬ m < s_out μ v - μ 0 (nI 5) then nI 3 else if ¬ μ 12 v < nI 8 then nI 4 else nI 0
def s_tw (μ : tSt) (v m s : Int32) : tSt := up (up (up (up (up μ 15 (s_li μ v) (m + μ 0 (nI 5))) 13 (v * nI 8 + μ 12 v) s) 14 (v * nI 8 + μ 12 v) m) 15 (v * nI 8 + μ 12 v) (s_out μ v)) 12 v (μ 12 v + nI 1)
def s_towp (μ : tSt) (v m s : Int32) : Int32 × tSt := if ¬ f_tow μ v m s = 0 then s_dn μ (f_tow μ v m s) else if (s_A μ v s m (s_out μ v)).1 = 0 then s_al (s_tw μ v m s) else s_dn (s_rs μ (s_A μ v s m (s_out μ v))) (nI 8)
theorem f_tow0 {μ : tSt} {v m s : Int32} (h : f_tow μ v m s = 0) : ¬ s_nst μ s ∧ ¬ s_nvi μ v ∧ s_put μ v = true ∧ ¬ μ 13 (s_li μ v) = s ∧ μ 14 (s_li μ v) < m ∧ μ 0 (nI 4) < m ∧ m < s_out μ v - μ 0 (nI 5) ∧ μ 12 v < nI 8 := by
  unfold f_tow at h
  split at h
  · exact absurd h (by decide)
  split at h
  · exact absurd h (by decide)
  split at h
  · exact absurd h (by decide)
  split at h
  · exact absurd h (by decide)
  split at h
  · exact absurd h (by decide)
  split at h
  · exact absurd h (by decide)
  split at h
  · exact absurd h (by decide)
  split at h
  · exact absurd h (by decide)
  rename_i a1 a2 a3 a4 a5 a6 a7 a8
  exact ⟨a1, a2, n_not a3, a4, n_not a5, n_not a6, n_not a7, n_not a8⟩
theorem putC {μ : tSt} (hc : cOK μ) {v : Int32} (hv : vp_in v 40) (hp : s_put μ v = true) : ∃ u c : Nat, v = nI u ∧ u < 40 ∧ 1 ≤ c ∧ c ≤ 8 ∧ μ 12 v = nI c := by
  obtain ⟨u, hu, rfl⟩ := vp_in_of hv (by decide)
  obtain ⟨c, hc8, e⟩ := hc u hu
  refine ⟨u, c, rfl, hu, ?_, hc8, e⟩
  simp only [s_put, decide_eq_true_eq, e] at hp
  rcases Nat.eq_zero_or_pos c with q | q
  · subst q; exact absurd (show nI 0 ≤ 0 by decide) hp
  · exact q
theorem in_li {μ : tSt} (hc : cOK μ) {v : Int32} (hv : vp_in v 40) (hp : s_put μ v = true) : vp_in (s_li μ v) 320 ∧ vp_in (μ 12 v - nI 1) 8 := by
  obtain ⟨u, c, rfl, hu, h1, h8, e⟩ := putC hc hv hp
  rw [s_li, e, pk_mul, nI_add, pk_sub (by omega), pk_sub (by omega)]
  exact ⟨vp_in_nI (by omega) (by decide), vp_in_nI (by omega) (by decide)⟩
theorem in_c8 {μ : tSt} (hc : cOK μ) {v : Int32} (hv : vp_in v 40) (h8 : μ 12 v < nI 8) : vp_in (μ 12 v) 8 := by
  obtain ⟨u, hu, rfl⟩ := vp_in_of hv (by decide)
  obtain ⟨c, hc8, e⟩ := hc u hu
  rw [e] at h8 ⊢
  exact vp_in_nI ((nI_ltI (by omega) (by decide)).mp h8) (by decide)
theorem lt_tow {m o t : Int32} {b k : Nat} (hb : o = nI b) (hb2 : b ≤ 2880) (hk : t = nI k) (hk1 : 1 ≤ k) (hk2 : k ≤ 60) (h : m < o - t) : m < o := by
  subst hb; subst hk
  have h1 := Int32.lt_iff_toInt_lt.mp h
  rw [pk_sub_toInt (by omega) (by omega)] at h1
  rw [Int32.lt_iff_toInt_lt, nI_toInt (by omega)]
  omega
theorem k_X6_faultOfTowing {σ : tSt} {nS nP nC nV : Nat} {v m s : Int32} (hI : iN (aX σ) nS nP nC nV) (hcc : cOK σ) : CT mX6_faultOfTowing [.ref 0, .int v, .int m, .int s] σ (PE (some (f_tow (aX σ) v m s)) σ) := by
  have hS := hI.1.1
  rw [aX_0] at hS
  have hP := hI.2.1.1
  rw [aX_1] at hP
  have hC := hI.2.2.1.1
  rw [aX_2] at hC
  have hV := hI.2.2.2.1
  rw [aX_3] at hV
  have hS24 := hI.1.2
  have hP40 := hI.2.1.2
  have hC20 := hI.2.2.1.2
  have hV40 := hI.2.2.2.2
  refine CT.of2 1 (by decide) rfl rfl ?_
  refine tr_aload_n eX6_faultOfTowing_0 rfl ?_
  refine tr_getR eX6_faultOfTowing_1 fk_X6_10 rfl rfl ?_
  refine tr_iload_n eX6_faultOfTowing_4 rfl ?_
  refine tr_ce1 eX6_faultOfTowing_5 zv_X1_hasStand zi_X1_hasStand lk_X6_88 ⟨rfl, by decide, by decide⟩ rfl rfl rfl k_X1_hasStand ?_
  refine tr_if_ne eX6_faultOfTowing_8 (fun h8 => ?_) (fun h8 => ?_)
  · skip
    try first | replace h8 := bi_0 h8 | replace h8 := bi_n h8
    refine tr_aload_n eX6_faultOfTowing_13 rfl ?_
    refine tr_getR eX6_faultOfTowing_14 fk_X6_19 rfl rfl ?_
    refine tr_iload_n eX6_faultOfTowing_17 rfl ?_
    refine tr_ce1 eX6_faultOfTowing_18 zv_X5_has zi_X5_has lk_X6_131 ⟨rfl, by decide, by decide⟩ rfl rfl rfl k_X5_has ?_
    refine tr_if_ne eX6_faultOfTowing_21 (fun h21 => ?_) (fun h21 => ?_)
    · skip
      try first | replace h21 := bi_0 h21 | replace h21 := bi_n h21
      have hv : vp_in v 40 := in_has hV hV40 (by decide) h21
      refine tr_aload_n eX6_faultOfTowing_26 rfl ?_
      refine tr_getR eX6_faultOfTowing_27 fk_X6_19 rfl rfl ?_
      refine tr_iload_n eX6_faultOfTowing_30 rfl ?_
      refine tr_ce1 eX6_faultOfTowing_31 zv_X5_isPut zi_X5_isPut lk_X6_137 ⟨rfl, by decide, by decide⟩ rfl rfl rfl (k_X5_isPut (by first | with_reducible assumption | with_reducible exact in_slot (by with_reducible assumption) (by with_reducible assumption) | with_reducible exact in_row _ (by decide) (by with_reducible assumption) | with_reducible exact in_row0 (by with_reducible assumption) | with_reducible exact in_slot0 (by with_reducible assumption) | (simp (disch := decide) only [up_k, up_s, up_f] <;> with_reducible assumption))) ?_
      refine tr_if_ne eX6_faultOfTowing_34 (fun h34 => ?_) (fun h34 => ?_)
      · skip
        try first | replace h34 := bi_0 h34 | replace h34 := bi_n h34
        refine tr_aload_n eX6_faultOfTowing_40 rfl ?_
        refine tr_getR eX6_faultOfTowing_41 fk_X6_19 rfl rfl ?_
        refine tr_getR eX6_faultOfTowing_44 fk_X6_251 rfl rfl ?_
        refine tr_iload_n eX6_faultOfTowing_47 rfl ?_
        refine tr_iald eX6_faultOfTowing_48 rfl (by first | with_reducible assumption | with_reducible exact in_slot (by with_reducible assumption) (by with_reducible assumption) | with_reducible exact in_row _ (by decide) (by with_reducible assumption) | with_reducible exact in_row0 (by with_reducible assumption) | with_reducible exact in_slot0 (by with_reducible assumption) | (simp (disch := decide) only [up_k, up_s, up_f] <;> with_reducible assumption)) ?_
        refine tr_iconst eX6_faultOfTowing_49 (nI 1) ci_1 ?_
        refine tr_isub eX6_faultOfTowing_50 ?_
        refine tr_istore eX6_faultOfTowing_51 (by decide) rfl ?_
        refine tr_aload_n eX6_faultOfTowing_53 rfl ?_
        refine tr_getR eX6_faultOfTowing_54 fk_X6_19 rfl rfl ?_
        refine tr_iload_n eX6_faultOfTowing_57 rfl ?_
        refine tr_iload eX6_faultOfTowing_58 rfl ?_
        refine tr_ce2 eX6_faultOfTowing_60 zv_X5_standOf zi_X5_standOf lk_X6_233 ⟨rfl, by decide, by decide⟩ rfl rfl rfl (k_X5_standOf hv (in_li hcc hv h34).2) ?_
        refine tr_iload_n eX6_faultOfTowing_63 rfl ?_
        refine tr_icmp_eq eX6_faultOfTowing_64 (fun h64 => ?_) (fun h64 => ?_)
        · skip
          refine tr_iconst eX6_faultOfTowing_81 (nI 3) ci_3 ?_
          refine tr_ret eX6_faultOfTowing_82 rfl rfl ?_
          refine ⟨congrArg some ?_, rfl⟩
          clear hcc
          simp (disch := decide) only [f_tow, s_li, s_nst, s_nvi, s_kind_aX, s_wing_aX, s_in_aX, s_out_aX, s_need_aX, s_unk_aX, s_put_aX, aX_0, aX_1, aX_2, aX_3, aX_4, aX_5, aX_6, aX_7, aX_8, aX_9, aX_f17_9, aX_f17_10, aX_f17_11, aX_f18_6, aX_f18_7, aX_f0_6, aX_f0_7, aX_f0_8, aX_f0_9, aX_f25_1, aX_k] <;> simp_all [n0, le_nlt, asub, -Int32.not_lt, -Int32.not_le]
        · skip
          refine tr_aload_n eX6_faultOfTowing_67 rfl ?_
          refine tr_getR eX6_faultOfTowing_68 fk_X6_19 rfl rfl ?_
          refine tr_iload_n eX6_faultOfTowing_71 rfl ?_
          refine tr_iload eX6_faultOfTowing_72 rfl ?_
          refine tr_ce2 eX6_faultOfTowing_74 zv_X5_fromOf zi_X5_fromOf lk_X6_239 ⟨rfl, by decide, by decide⟩ rfl rfl rfl (k_X5_fromOf hv (in_li hcc hv h34).2) ?_
          refine tr_iload_n eX6_faultOfTowing_77 rfl ?_
          refine tr_icmp_lt eX6_faultOfTowing_78 (fun h78 => ?_) (fun h78 => ?_)
          · skip
            refine tr_iload_n eX6_faultOfTowing_83 rfl ?_
            refine tr_aload_n eX6_faultOfTowing_84 rfl ?_
            refine tr_getR eX6_faultOfTowing_85 fk_X6_19 rfl rfl ?_
            refine tr_getI eX6_faultOfTowing_88 fk_X6_224 rfl rfl ?_
            refine tr_icmp_le eX6_faultOfTowing_91 (fun h91 => ?_) (fun h91 => ?_)
            · skip
              refine tr_iconst eX6_faultOfTowing_111 (nI 3) ci_3 ?_
              refine tr_ret eX6_faultOfTowing_112 rfl rfl ?_
              refine ⟨congrArg some ?_, rfl⟩
              clear hcc
              simp (disch := decide) only [f_tow, s_li, s_nst, s_nvi, s_kind_aX, s_wing_aX, s_in_aX, s_out_aX, s_need_aX, s_unk_aX, s_put_aX, aX_0, aX_1, aX_2, aX_3, aX_4, aX_5, aX_6, aX_7, aX_8, aX_9, aX_f17_9, aX_f17_10, aX_f17_11, aX_f18_6, aX_f18_7, aX_f0_6, aX_f0_7, aX_f0_8, aX_f0_9, aX_f25_1, aX_k] <;> simp_all [n0, le_nlt, asub, -Int32.not_lt, -Int32.not_le]
            · skip
              refine tr_iload_n eX6_faultOfTowing_94 rfl ?_
              refine tr_aload_n eX6_faultOfTowing_95 rfl ?_
              refine tr_getR eX6_faultOfTowing_96 fk_X6_19 rfl rfl ?_
              refine tr_iload_n eX6_faultOfTowing_99 rfl ?_
              refine tr_ce1 eX6_faultOfTowing_100 zv_X5_outOf zi_X5_outOf lk_X6_149 ⟨rfl, by decide, by decide⟩ rfl rfl rfl (k_X5_outOf (by first | with_reducible assumption | with_reducible exact in_slot (by with_reducible assumption) (by with_reducible assumption) | with_reducible exact in_row _ (by decide) (by with_reducible assumption) | with_reducible exact in_row0 (by with_reducible assumption) | with_reducible exact in_slot0 (by with_reducible assumption) | (simp (disch := decide) only [up_k, up_s, up_f] <;> with_reducible assumption))) ?_
              refine tr_aload_n eX6_faultOfTowing_103 rfl ?_
              refine tr_getI eX6_faultOfTowing_104 fk_X6_57 rfl rfl ?_
              refine tr_isub eX6_faultOfTowing_107 ?_
              refine tr_icmp_lt eX6_faultOfTowing_108 (fun h108 => ?_) (fun h108 => ?_)
              · skip
                refine tr_aload_n eX6_faultOfTowing_113 rfl ?_
                refine tr_getR eX6_faultOfTowing_114 fk_X6_19 rfl rfl ?_
                refine tr_getR eX6_faultOfTowing_117 fk_X6_251 rfl rfl ?_
                refine tr_iload_n eX6_faultOfTowing_120 rfl ?_
                refine tr_iald eX6_faultOfTowing_121 rfl (by first | with_reducible assumption | with_reducible exact in_slot (by with_reducible assumption) (by with_reducible assumption) | with_reducible exact in_row _ (by decide) (by with_reducible assumption) | with_reducible exact in_row0 (by with_reducible assumption) | with_reducible exact in_slot0 (by with_reducible assumption) | (simp (disch := decide) only [up_k, up_s, up_f] <;> with_reducible assumption)) ?_
                refine tr_bipush eX6_faultOfTowing_122 (nI 8) (by decide) ?_
                refine tr_icmp_lt eX6_faultOfTowing_124 (fun h124 => ?_) (fun h124 => ?_)
                · skip
                  refine tr_iconst eX6_faultOfTowing_131 (nI 0) ci_0 ?_
                  refine tr_ret eX6_faultOfTowing_132 rfl rfl ?_
                  refine ⟨congrArg some ?_, rfl⟩
                  clear hcc
                  simp (disch := decide) only [f_tow, s_li, s_nst, s_nvi, s_kind_aX, s_wing_aX, s_in_aX, s_out_aX, s_need_aX, s_unk_aX, s_put_aX, aX_0, aX_1, aX_2, aX_3, aX_4, aX_5, aX_6, aX_7, aX_8, aX_9, aX_f17_9, aX_f17_10, aX_f17_11, aX_f18_6, aX_f18_7, aX_f0_6, aX_f0_7, aX_f0_8, aX_f0_9, aX_f25_1, aX_k] <;> simp_all [n0, le_nlt, asub, -Int32.not_lt, -Int32.not_le]
                · skip
                  refine tr_iconst eX6_faultOfTowing_127 (nI 4) ci_4 ?_
                  refine tr_goto eX6_faultOfTowing_128 ?_
                  refine tr_ret eX6_faultOfTowing_132 rfl rfl ?_
                  refine ⟨congrArg some ?_, rfl⟩
                  clear hcc
                  simp (disch := decide) only [f_tow, s_li, s_nst, s_nvi, s_kind_aX, s_wing_aX, s_in_aX, s_out_aX, s_need_aX, s_unk_aX, s_put_aX, aX_0, aX_1, aX_2, aX_3, aX_4, aX_5, aX_6, aX_7, aX_8, aX_9, aX_f17_9, aX_f17_10, aX_f17_11, aX_f18_6, aX_f18_7, aX_f0_6, aX_f0_7, aX_f0_8, aX_f0_9, aX_f25_1, aX_k] <;> simp_all [n0, le_nlt, asub, -Int32.not_lt, -Int32.not_le]
              · skip
                refine tr_iconst eX6_faultOfTowing_111 (nI 3) ci_3 ?_
                refine tr_ret eX6_faultOfTowing_112 rfl rfl ?_
                refine ⟨congrArg some ?_, rfl⟩
                clear hcc
                simp (disch := decide) only [f_tow, s_li, s_nst, s_nvi, s_kind_aX, s_wing_aX, s_in_aX, s_out_aX, s_need_aX, s_unk_aX, s_put_aX, aX_0, aX_1, aX_2, aX_3, aX_4, aX_5, aX_6, aX_7, aX_8, aX_9, aX_f17_9, aX_f17_10, aX_f17_11, aX_f18_6, aX_f18_7, aX_f0_6, aX_f0_7, aX_f0_8, aX_f0_9, aX_f25_1, aX_k] <;> simp_all [n0, le_nlt, asub, -Int32.not_lt, -Int32.not_le]
          · skip
            refine tr_iconst eX6_faultOfTowing_81 (nI 3) ci_3 ?_
            refine tr_ret eX6_faultOfTowing_82 rfl rfl ?_
            refine ⟨congrArg some ?_, rfl⟩
            clear hcc
            simp (disch := decide) only [f_tow, s_li, s_nst, s_nvi, s_kind_aX, s_wing_aX, s_in_aX, s_out_aX, s_need_aX, s_unk_aX, s_put_aX, aX_0, aX_1, aX_2, aX_3, aX_4, aX_5, aX_6, aX_7, aX_8, aX_9, aX_f17_9, aX_f17_10, aX_f17_11, aX_f18_6, aX_f18_7, aX_f0_6, aX_f0_7, aX_f0_8, aX_f0_9, aX_f25_1, aX_k] <;> simp_all [n0, le_nlt, asub, -Int32.not_lt, -Int32.not_le]
      · skip
        try first | replace h34 := bi_0 h34 | replace h34 := bi_n h34
        refine tr_bipush eX6_faultOfTowing_37 (nI 6) (by decide) ?_
        refine tr_ret eX6_faultOfTowing_39 rfl rfl ?_
        refine ⟨congrArg some ?_, rfl⟩
        clear hcc
        simp (disch := decide) only [f_tow, s_li, s_nst, s_nvi, s_kind_aX, s_wing_aX, s_in_aX, s_out_aX, s_need_aX, s_unk_aX, s_put_aX, aX_0, aX_1, aX_2, aX_3, aX_4, aX_5, aX_6, aX_7, aX_8, aX_9, aX_f17_9, aX_f17_10, aX_f17_11, aX_f18_6, aX_f18_7, aX_f0_6, aX_f0_7, aX_f0_8, aX_f0_9, aX_f25_1, aX_k] <;> simp_all [n0, le_nlt, asub, -Int32.not_lt, -Int32.not_le]
    · skip
      try first | replace h21 := bi_0 h21 | replace h21 := bi_n h21
      refine tr_iconst eX6_faultOfTowing_24 (nI 2) ci_2 ?_
      refine tr_ret eX6_faultOfTowing_25 rfl rfl ?_
      refine ⟨congrArg some ?_, rfl⟩
      clear hcc
      simp (disch := decide) only [f_tow, s_li, s_nst, s_nvi, s_kind_aX, s_wing_aX, s_in_aX, s_out_aX, s_need_aX, s_unk_aX, s_put_aX, aX_0, aX_1, aX_2, aX_3, aX_4, aX_5, aX_6, aX_7, aX_8, aX_9, aX_f17_9, aX_f17_10, aX_f17_11, aX_f18_6, aX_f18_7, aX_f0_6, aX_f0_7, aX_f0_8, aX_f0_9, aX_f25_1, aX_k] <;> simp_all [n0, le_nlt, asub, -Int32.not_lt, -Int32.not_le]
  · skip
    try first | replace h8 := bi_0 h8 | replace h8 := bi_n h8
    refine tr_iconst eX6_faultOfTowing_11 (nI 1) ci_1 ?_
    refine tr_ret eX6_faultOfTowing_12 rfl rfl ?_
    refine ⟨congrArg some ?_, rfl⟩
    clear hcc
    simp (disch := decide) only [f_tow, s_li, s_nst, s_nvi, s_kind_aX, s_wing_aX, s_in_aX, s_out_aX, s_need_aX, s_unk_aX, s_put_aX, aX_0, aX_1, aX_2, aX_3, aX_4, aX_5, aX_6, aX_7, aX_8, aX_9, aX_f17_9, aX_f17_10, aX_f17_11, aX_f18_6, aX_f18_7, aX_f0_6, aX_f0_7, aX_f0_8, aX_f0_9, aX_f25_1, aX_k] <;> simp_all [n0, le_nlt, asub, -Int32.not_lt, -Int32.not_le]

theorem k_X6_tow {σ : tSt} {nS nP nC nV : Nat} {v m s : Int32} (hI : iA (aX σ) nS nP nC nV) (hz : aw0 σ) : CT mX6_tow [.ref 0, .int v, .int m, .int s] σ (QX σ (s_towp (aX σ) v m s)) := by
  have hI0 := hI.1
  have hS := hI0.1.1
  rw [aX_0] at hS
  have hP := hI0.2.1.1
  rw [aX_1] at hP
  have hC := hI0.2.2.1.1
  rw [aX_2] at hC
  have hV := hI0.2.2.2.1
  rw [aX_3] at hV
  have hS24 := hI0.1.2
  have hP40 := hI0.2.1.2
  have hC20 := hI0.2.2.1.2
  have hV40 := hI0.2.2.2.2
  have hcc := cOK_aX hI.2.1.1
  refine CT.of2 1 (by decide) rfl rfl ?_
  refine tr_aload_n eX6_tow_0 rfl ?_
  refine tr_iload_n eX6_tow_1 rfl ?_
  refine tr_iload_n eX6_tow_2 rfl ?_
  refine tr_iload_n eX6_tow_3 rfl ?_
  refine tr_ce3 eX6_tow_4 zv_X6_faultOfTowing zi_X6_faultOfTowing lk_X6_169 ⟨rfl, by decide, by decide⟩ rfl rfl rfl (k_X6_faultOfTowing hI.1 hcc) ?_
  try simp (disch := decide) only [up_k, up_s, up_f, s_set_0]
  refine tr_istore eX6_tow_7 (by decide) rfl ?_
  refine tr_iload eX6_tow_9 rfl ?_
  refine tr_if_eq eX6_tow_11 (fun h11 => ?_) (fun h11 => ?_)
  · skip
    obtain ⟨q1, q2, q3, q4, q5, q6, q7, q8⟩ := f_tow0 h11
    have hv : vp_in v 40 := by rw [s_nvi, aX_3] at q2; exact in_has hV hV40 (by decide) (n_not q2)
    have hs : vp_in s 24 := by rw [s_nst, aX_0] at q1; exact in_has hS hS24 (by decide) (n_not q1)
    have hsm : ¬ s = -1 := by rw [s_nst, aX_0] at q1; exact ne_m1 (n_not q1).1
    rw [s_put_aX] at q3
    rw [aX_k σ (by decide)] at q8
    refine tr_aload_n eX6_tow_21 rfl ?_
    refine tr_iload_n eX6_tow_22 rfl ?_
    refine tr_iload_n eX6_tow_23 rfl ?_
    refine tr_iload_n eX6_tow_24 rfl ?_
    refine tr_aload_n eX6_tow_25 rfl ?_
    refine tr_getR eX6_tow_26 fk_X6_19 rfl rfl ?_
    refine tr_iload_n eX6_tow_29 rfl ?_
    refine tr_ce1 eX6_tow_30 zv_X5_outOf zi_X5_outOf lk_X6_149 ⟨rfl, by decide, by decide⟩ rfl rfl rfl (k_X5_outOf (by first | with_reducible assumption | with_reducible exact in_slot (by with_reducible assumption) (by with_reducible assumption) | with_reducible exact in_row _ (by decide) (by with_reducible assumption) | with_reducible exact in_row0 (by with_reducible assumption) | with_reducible exact in_slot0 (by with_reducible assumption) | (simp (disch := decide) only [up_k, up_s, up_f] <;> with_reducible assumption))) ?_
    try simp (disch := decide) only [up_k, up_s, up_f, s_set_0]
    refine tr_ce4 eX6_tow_33 zv_X6_isHindered zi_X6_isHindered lk_X6_152 ⟨rfl, by decide, by decide⟩ rfl rfl rfl (k_X6_isHinderedA hI hz hv hs) ?_
    try simp (disch := decide) only [up_k, up_s, up_f, s_set_0]
    refine tr_if_eq eX6_tow_36 (fun h36 => ?_) (fun h36 => ?_)
    · skip
      try first | replace h36 := bi_0 h36 | replace h36 := bi_n h36
      have g36 := n_not h36
      rw [s_hin_t g36]
      refine tr_aload_n eX6_tow_46 rfl ?_
      refine tr_getR eX6_tow_47 fk_X6_19 rfl rfl ?_
      refine tr_iload_n eX6_tow_50 rfl ?_
      refine tr_iload_n eX6_tow_51 rfl ?_
      refine tr_aload_n eX6_tow_52 rfl ?_
      refine tr_getI eX6_tow_53 fk_X6_57 rfl rfl ?_
      try simp (disch := decide) only [up_k, up_s, up_f, s_set_0]
      refine tr_iadd eX6_tow_56 ?_
      refine tr_ce2 eX6_tow_57 zv_X5_endLastStay zi_X5_endLastStay lk_X6_172 ⟨rfl, by decide, by decide⟩ rfl rfl rfl (show CT mX5_endLastStay _ _ (PE none (up (up (s_reg σ v) 19 (nI 7) (s_A (aX σ) v s m (s_out σ v)).2) 15 (s_li σ v) (m + σ 0 (nI 6)))) from k_X5_endLastStay (σ := (up (s_reg σ v) 19 (nI 7) (s_A (aX σ) v s m (s_out σ v)).2)) hv (in_li hcc hv q3).1) ?_
      try simp (disch := decide) only [up_k, up_s, up_f, s_set_0]
      refine tr_aload_n eX6_tow_60 rfl ?_
      refine tr_getR eX6_tow_61 fk_X6_19 rfl rfl ?_
      refine tr_iload_n eX6_tow_64 rfl ?_
      refine tr_iload_n eX6_tow_65 rfl ?_
      refine tr_iload_n eX6_tow_66 rfl ?_
      refine tr_ce3 eX6_tow_67 zv_X5_addStay zi_X5_addStay lk_X6_176 ⟨rfl, by decide, by decide⟩ rfl rfl rfl (show CT mX5_addStay _ _ (PE none (up (up (up (up (up (up (s_reg σ v) 19 (nI 7) (s_A (aX σ) v s m (s_out σ v)).2) 15 (s_li σ v) (m + σ 0 (nI 6))) 13 (v * nI 8 + σ 12 v) s) 14 (v * nI 8 + σ 12 v) m) 15 (v * nI 8 + σ 12 v) (s_out σ v)) 12 v (σ 12 v + nI 1))) from k_X5_addStay (σ := up (up (s_reg σ v) 19 (nI 7) (s_A (aX σ) v s m (s_out σ v)).2) 15 (s_li σ v) (m + σ 0 (nI 6))) hv (in_c8 hcc hv q8)) ?_
      try simp (disch := decide) only [up_k, up_s, up_f, s_set_0]
      refine tr_aload_n eX6_tow_70 rfl ?_
      refine tr_ce0 eX6_tow_71 zv_X6_allow zi_X6_allow lk_X6_120 ⟨rfl, by decide, by decide⟩ rfl rfl rfl k_X6_allow ?_
      try simp (disch := decide) only [up_k, up_s, up_f, s_set_0]
      refine tr_ret eX6_tow_74 rfl (by first | rfl | exact nar_bi _) ?_
      have e : s_towp (aX σ) v m s = s_al (s_tw (aX σ) v m s) := by rw [s_towp, if_neg (fun q => q h11), s_out_aX, if_pos g36]
      rw [e]
      exact ⟨rfl, by simp (disch := decide) only [s_al, s_tw, s_li, s_out_aX, aX_5, aX_k, aX_u, aX_f0_7, aX_s, aX_reg], rfl⟩
    · skip
      try first | replace h36 := bi_0 h36 | replace h36 := bi_n h36
      rw [s_hin_f h36]
      refine tr_aload_n eX6_tow_39 rfl ?_
      refine tr_bipush eX6_tow_40 (nI 8) (by decide) ?_
      refine tr_ce1 eX6_tow_42 zv_X6_deny zi_X6_deny lk_X6_117 ⟨rfl, by decide, by decide⟩ rfl rfl rfl k_X6_deny ?_
      try simp (disch := decide) only [up_k, up_s, up_f, s_set_0]
      refine tr_ret eX6_tow_45 rfl (by first | rfl | exact nar_bi _) ?_
      have e : s_towp (aX σ) v m s = s_dn (s_rs (aX σ) (s_A (aX σ) v s m (s_out σ v))) (nI 8) := by rw [s_towp, if_neg (fun q => q h11), s_out_aX, if_neg h36]
      rw [e]
      exact ⟨rfl, by simp (disch := decide) only [s_dn, s_rs, aX_f0_7, aX_f0_8, aX_f0_9, aX_s, aX_reg], rfl⟩
  · skip
    refine tr_aload_n eX6_tow_14 rfl ?_
    refine tr_iload eX6_tow_15 rfl ?_
    refine tr_ce1 eX6_tow_17 zv_X6_deny zi_X6_deny lk_X6_117 ⟨rfl, by decide, by decide⟩ rfl rfl rfl k_X6_deny ?_
    try simp (disch := decide) only [up_k, up_s, up_f, s_set_0]
    refine tr_ret eX6_tow_20 rfl (by first | rfl | exact nar_bi _) ?_
    have e : s_towp (aX σ) v m s = s_dn (aX σ) (f_tow (aX σ) v m s) := by rw [s_towp, if_pos h11]
    rw [e]
    exact ⟨rfl, by rw [aX_f0_7]; rfl, rfl⟩

