theorem iA_ltm {μ : tSt} {nS nP nC nV n c a b d m : Nat} (h : iA μ nS nP nC nV) (hn : n < nV) (hc : μ 12 (nI n) = nI c) (hc1 : 1 ≤ c) (hc8 : c ≤ 8) (ha : μ 14 (nI n * nI 8 + nI (c - 1)) = nI a) (hd : μ 10 (nI n * nI 5 + nI 2) = nI d) (hab : a < b) (hdb : d < b) (hbm : b < m) (hm : m ≤ 2880) : iA (ltm μ (nI n) (nI m)) nS nP nC nV := by
  have hV40 := h.1.2.2.2.2
  unfold ltm
  rw [li_eq hc hc1]
  obtain ⟨a0, ⟨b1, b2, b3, b4⟩, ⟨c1, c2, c3, c4⟩, d0, e0, f0⟩ := h
  refine ⟨a0, ⟨b1, ?_, b3, b4⟩, ⟨?_, c2, c3, c4⟩, d0, e0, f0⟩
  · intro u k hu hk h8
    have hk' : nI k < μ 12 (nI u) := hk
    obtain ⟨x, y, ex, ey, hxy, hy⟩ := b2 u k hu hk' h8
    by_cases q : u = n ∧ k = c - 1
    · obtain ⟨rfl, rfl⟩ := q
      exact ⟨a, m, ha, up_s, by omega, hm⟩
    · refine ⟨x, y, ex, ?_, hxy, hy⟩
      rw [up_n (sl_ne hu (by omega) h8 (by omega) q)]
      exact ey
  · intro u hu
    obtain ⟨x, y, ex, ey, hxy, hy⟩ := c1 u hu
    have e2 : up (up μ 10 (nI n * nI 5 + nI 3) (nI m)) 15 (nI n * nI 8 + nI (c - 1)) (nI m) 10 (nI u * nI 5 + nI 2) = μ 10 (nI u * nI 5 + nI 2) := by
      rw [up_k (by decide), up_n (rw_ne (by omega) (by omega) (by omega) (by omega) (by omega))]
    by_cases q : u = n
    · subst q
      exact ⟨d, m, by rw [e2]; exact hd, by rw [up_k (by decide), up_s], by omega, hm⟩
    · exact ⟨x, y, by rw [e2]; exact ex, by rw [up_k (by decide), up_n (rw_ne (by omega) (by omega) (by omega) (by omega) (fun w => q w.1))]; exact ey, hxy, hy⟩
theorem s_A_ltm {μ : tSt} {nS nP nC nV n c : Nat} (h : iA μ nS nP nC nV) (hn : n < nV) (hc : μ 12 (nI n) = nI c) (hc1 : 1 ≤ c) (hc8 : c ≤ 8) (g : Int32 → Bool) (t s a b : Int32) : s_A (vd g (ltm μ (nI n) t)) (nI n) s a b = s_A (vd g μ) (nI n) s a b := by
  have hV40 := h.1.2.2.2.2
  have hl : ltm μ (nI n) t = up (up μ 10 (nI n * nI 5 + nI 3) t) 15 (nI n * nI 8 + nI (c - 1)) t := by unfold ltm; rw [li_eq hc hc1]
  rw [hl]
  have k1 : s_kind (vd g (up (up μ 10 (nI n * nI 5 + nI 3) t) 15 (nI n * nI 8 + nI (c - 1)) t)) (nI n) = s_kind (vd g μ) (nI n) := by
    unfold s_kind; rw [vd_k (by decide), vd_k (by decide), up_k (by decide), up_n (rw_ne0 (by omega) (by omega) (by omega) (by omega))]
  have k2 : ∀ u : Nat, u < 40 → s_wing (vd g (up (up μ 10 (nI n * nI 5 + nI 3) t) 15 (nI n * nI 8 + nI (c - 1)) t)) (nI u) = s_wing (vd g μ) (nI u) := fun u hu => by
    unfold s_wing; rw [vd_k (by decide), vd_k (by decide), up_k (by decide), up_n (rw_ne (by omega) (by omega) (by omega) (by omega) (by omega))]
  have k3 : s_need (vd g (up (up μ 10 (nI n * nI 5 + nI 3) t) 15 (nI n * nI 8 + nI (c - 1)) t)) (nI n) = s_need (vd g μ) (nI n) := by
    unfold s_need; rw [vd_k (by decide), vd_k (by decide), vd_k (by decide), vd_k (by decide), up_k (by decide), up_k (by decide), up_k (by decide), up_n (rw_ne (by omega) (by omega) (by omega) (by omega) (by omega))]
  have h0 : vd g (up (up μ 10 (nI n * nI 5 + nI 3) t) 15 (nI n * nI 8 + nI (c - 1)) t) 0 = vd g μ 0 := by rw [vd_k (by decide), vd_k (by decide)]; rfl
  unfold s_A
  rw [k1, k2 n (by omega), k3, h0]
  refine s_ag_gen (fun k a1 a2 => ?_) (fun u hu => ?_) _ _ _ _ _ _
  · rw [vd_k (by omega), vd_k (by omega), up_k (by omega), up_k (by omega)]
  · have hV : tn (vd g μ 0 (nI 3)) = nV := by rw [vd_k (by decide)]; exact tn_of h.1.2.2.2.1 (by omega)
    rw [hV] at hu
    by_cases q : u = n
    · subst q
      have hf : s_ne (nI u) (nI u) = false := by unfold s_ne; simp
      exact Or.inr ⟨Or.inl hf, Or.inl hf⟩
    · refine Or.inl ⟨rfl, rfl, k2 u (by omega), fun j hj => ⟨rfl, rfl, ?_⟩⟩
      have hj8 : j < 8 := by
        have hj' : j < tn (vd g μ 12 (nI u)) := hj
        obtain ⟨x, hx, ex⟩ := (iA_vd h g).2.1.1 u (by omega)
        rw [ex, tn_of rfl (by omega)] at hj'
        omega
      rw [vd_k (by decide), vd_k (by decide), up_n (sl_ne (by omega) (by omega) hj8 (by omega) (fun w => q w.1)), up_k (by decide)]
/-- the gone ones are visits -/
def gIn (nV : Nat) (v : Int32) (g : Int32 → Bool) : Prop := ∀ j, g j = true → ∃ u, u < nV ∧ j = nI u ∧ ¬ nI u = v
theorem gIn_step {μ : tSt} {nS nP nC nV : Nat} (h : iA μ nS nP nC nV) {g : Int32 → Bool} {v s a b : Int32} (hg : gIn nV v g) (hc : can μ (s_A (vd g μ) v s a b) = true) : gIn nV v (fun j => decide (j = (s_A (vd g μ) v s a b).2) || g j) ∧ ∃ u, u < nV ∧ (s_A (vd g μ) v s a b).2 = nI u ∧ ¬ nI u = v ∧ ¬ g (nI u) = true ∧ ¬ μ 12 (nI u) = nI 0 := by
  have hc1 : (s_A (vd g μ) v s a b).1 = nI 3 ∨ (s_A (vd g μ) v s a b).1 = nI 5 := by
    simp only [can, Bool.and_eq_true, Bool.or_eq_true, decide_eq_true_eq] at hc
    exact hc.1
  obtain ⟨u, hu, e, hne, hz⟩ := s_A_by (iA_vd h g).1 hc1
  have hgu : ¬ g (nI u) = true := fun q => hz (by rw [vd_t q]; decide)
  rw [vd_f hgu] at hz
  refine ⟨fun j hj => ?_, u, hu, e, hne, hgu, fun q => hz (by rw [q]; decide)⟩
  rw [Bool.or_eq_true] at hj
  rcases hj with q | q
  · exact ⟨u, hu, (of_decide_eq_true q).trans e, hne⟩
  · exact hg j q
theorem ltG_in {μ : tSt} {nS nP nC nV : Nat} (h : iA μ nS nP nC nV) {v s a t : Int32} : ∀ (f : Nat) (g : Int32 → Bool), gIn nV v g → gIn nV v (ltG μ v s a t f g).2
  | 0, _, hg => hg
  | f + 1, g, hg => by
    rw [ltG]
    split
    · rename_i hc
      exact ltG_in h f _ (gIn_step h hg hc).1
    · exact hg
theorem s_A_XG {σ : tSt} {nS nP nC nV : Nat} (h : iA (aX σ) nS nP nC nV) {g : Int32 → Bool} {v : Int32} (hg : ∀ u : Nat, u < 40 → σ 26 (nI u) = bi (g (nI u) = true)) (e3 : σ 19 (nI 3) = v) (e4 : σ 19 (nI 4) = s_kind σ v) (e5 : σ 19 (nI 5) = s_wing σ v) (e6 : σ 19 (nI 6) = s_need σ v) (s a b : Int32) : s_agX σ nP nC nV s a b = s_A (vd g (aX σ)) v s a b := by
  have hN := iA_vd h g
  have hV40 := h.1.2.2.2.2
  have k1 : s_kind (vd g (aX σ)) v = s_kind σ v := by unfold s_kind; rw [vd_k (by decide), aX_k _ (by decide)]
  have k2 : s_wing (vd g (aX σ)) v = s_wing σ v := by unfold s_wing; rw [vd_k (by decide), aX_k _ (by decide)]
  have k3 : s_need (vd g (aX σ)) v = s_need σ v := by unfold s_need; rw [vd_k (by decide), vd_k (by decide), aX_k _ (by decide), aX_k _ (by decide)]
  rw [s_A_of hN.1, k1, k2, k3, s_agX, e4, e5, e6]
  refine s_ag_void (fun k h1 h2 h3 => ?_) (fun u hu => ?_) ..
  · rw [vd_k h3, aX_k σ ⟨h1, by omega⟩]
  · by_cases q : g (nI u) = true
    · refine Or.inr ⟨Or.inl ?_, Or.inr (by rw [vd_t q]; decide)⟩
      rw [s_oth, hg u (by omega), bi, if_pos q, Bool.and_eq_false_iff]
      exact Or.inr (by decide)
    · refine Or.inl ⟨?_, by rw [vd_f q, aX_k _ (by decide)]⟩
      rw [s_oth, hg u (by omega), bi, if_neg q, e3, s_ne]
      simp [n0]
theorem k_X2_sendAwayN {σ : tSt} {u nV : Nat} (hV : σ 18 (nI 6) = nI nV) (hu : u < nV) (hV40 : nV ≤ 40) : CT mX2_sendAway [.ref 19, .int (nI u)] σ (PE none (up σ 26 (nI u) (nI 1))) := by
  refine CT.of2 0 (by decide) rfl rfl ?_
  refine tr_aload_n eX2_sendAway_0 rfl ?_
  refine tr_getR eX2_sendAway_1 fk_X2_19 rfl rfl ?_
  refine tr_iload_n eX2_sendAway_4 rfl ?_
  refine tr_ce1 eX2_sendAway_5 zv_X5_has zi_X5_has lk_X2_27 ⟨rfl, by decide, by decide⟩ rfl rfl rfl k_X5_has ?_
  refine tr_if_eq eX2_sendAway_8 (fun h8 => ?_) (fun h8 => ?_)
  · skip
    try first | replace h8 := bi_0 h8 | replace h8 := bi_n h8
    exact absurd ⟨fun q => absurd (nI_pos' (by omega)) (Int32.not_le.mpr q), fun q => by rw [hV] at q; exact absurd ((nI_leI (by omega) (by omega)).mp q) (by omega)⟩ h8
  · skip
    try first | replace h8 := bi_0 h8 | replace h8 := bi_n h8
    refine tr_aload_n eX2_sendAway_11 rfl ?_
    refine tr_getR eX2_sendAway_12 fk_X2_9 rfl rfl ?_
    refine tr_iload_n eX2_sendAway_15 rfl ?_
    refine tr_iconst eX2_sendAway_16 (nI 1) ci_1 ?_
    refine tr_zast eX2_sendAway_17 rfl (vp_in_nI (by omega) (by decide)) (by decide) ?_
    refine tr_vret eX2_sendAway_18 rfl ?_
    exact ⟨rfl, rfl⟩

theorem s_begX (σ : tSt) (v : Int32) : s_beg (aX σ) (aX σ 0 (nI 4)) v = s_beg σ (σ 18 (nI 7)) v := by
  unfold s_beg s_unk
  rw [aX_4, s_in_aX, aX_k _ (by decide)]
theorem k_X0_canGo {σ : tSt} {x : Int32} (hb : x = nI 3 ∨ x = nI 5 → vp_in (σ 19 (nI 7)) 40) : CT mX0_canGo [.ref 21, .int x] σ (PE (some (bi (can (aX σ) (x, σ 19 (nI 7)) = true))) σ) := by
  refine CT.of2 1 (by decide) rfl rfl ?_
  refine tr_iload_n eX0_canGo_0 rfl ?_
  refine tr_iconst eX0_canGo_1 (nI 3) ci_3 ?_
  refine tr_icmp_eq eX0_canGo_2 (fun h2 => ?_) (fun h2 => ?_)
  · skip
    have hx : x = nI 3 ∨ x = nI 5 := Or.inl h2
    refine tr_iconst eX0_canGo_10 (nI 1) ci_1 ?_
    refine tr_goto eX0_canGo_11 ?_
    refine tr_istore_n eX0_canGo_15 (by decide) rfl ?_
    refine tr_iload_n eX0_canGo_16 rfl ?_
    refine tr_if_eq eX0_canGo_17 (fun h17 => absurd h17 (by decide)) (fun _ => ?_)
    refine tr_aload_n eX0_canGo_20 rfl ?_
    refine tr_getR eX0_canGo_21 fk_X0_25 rfl rfl ?_
    refine tr_aload_n eX0_canGo_24 rfl ?_
    refine tr_getR eX0_canGo_25 fk_X0_29 rfl rfl ?_
    refine tr_getI eX0_canGo_28 fk_X0_59 rfl rfl ?_
    refine tr_ce1 eX0_canGo_31 zv_X5_hasBegun zi_X5_hasBegun lk_X0_69 ⟨rfl, by decide, by decide⟩ rfl rfl rfl (k_X5_hasBegun (hb hx)) ?_
    refine tr_if_ne eX0_canGo_34 (fun h34 => ?_) (fun h34 => ?_)
    · skip
      try first | replace h34 := bi_0 h34 | replace h34 := bi_n h34
      refine tr_iconst eX0_canGo_41 (nI 0) ci_0 ?_
      refine tr_ret eX0_canGo_42 rfl (by first | rfl | exact nar_bi _) ?_
      refine ⟨congrArg some ?_, rfl⟩
      refine bi_f ?_
      simp only [can]
      rw [s_begX, h34]
      simp
    · skip
      try first | replace h34 := bi_0 h34 | replace h34 := bi_n h34
      refine tr_iconst eX0_canGo_37 (nI 1) ci_1 ?_
      refine tr_goto eX0_canGo_38 ?_
      refine tr_ret eX0_canGo_42 rfl (by first | rfl | exact nar_bi _) ?_
      refine ⟨congrArg some ?_, rfl⟩
      refine bi_t ?_
      simp only [can]
      rw [s_begX, Bool.and_eq_true, Bool.or_eq_true, decide_eq_true_eq, decide_eq_true_eq, Bool.not_eq_true']
      exact ⟨hx, Bool.not_eq_true _ ▸ h34⟩
  · skip
    refine tr_iload_n eX0_canGo_5 rfl ?_
    refine tr_iconst eX0_canGo_6 (nI 5) ci_5 ?_
    refine tr_icmp_ne eX0_canGo_7 (fun h7 => ?_) (fun h7 => ?_)
    · skip
      refine tr_iconst eX0_canGo_14 (nI 0) ci_0 ?_
      refine tr_istore_n eX0_canGo_15 (by decide) rfl ?_
      refine tr_iload_n eX0_canGo_16 rfl ?_
      refine tr_if_eq eX0_canGo_17 (fun _ => ?_) (fun h17 => absurd h17 (by decide))
      refine tr_iconst eX0_canGo_41 (nI 0) ci_0 ?_
      refine tr_ret eX0_canGo_42 rfl (by first | rfl | exact nar_bi _) ?_
      refine ⟨congrArg some ?_, rfl⟩
      refine bi_f ?_
      simp only [can]
      rw [Bool.and_eq_true, Bool.or_eq_true, decide_eq_true_eq, decide_eq_true_eq]
      exact fun q => q.1.elim h2 h7
    · skip
      have hx : x = nI 3 ∨ x = nI 5 := Or.inr h7
      refine tr_iconst eX0_canGo_10 (nI 1) ci_1 ?_
      refine tr_goto eX0_canGo_11 ?_
      refine tr_istore_n eX0_canGo_15 (by decide) rfl ?_
      refine tr_iload_n eX0_canGo_16 rfl ?_
      refine tr_if_eq eX0_canGo_17 (fun h17 => absurd h17 (by decide)) (fun _ => ?_)
      refine tr_aload_n eX0_canGo_20 rfl ?_
      refine tr_getR eX0_canGo_21 fk_X0_25 rfl rfl ?_
      refine tr_aload_n eX0_canGo_24 rfl ?_
      refine tr_getR eX0_canGo_25 fk_X0_29 rfl rfl ?_
      refine tr_getI eX0_canGo_28 fk_X0_59 rfl rfl ?_
      refine tr_ce1 eX0_canGo_31 zv_X5_hasBegun zi_X5_hasBegun lk_X0_69 ⟨rfl, by decide, by decide⟩ rfl rfl rfl (k_X5_hasBegun (hb hx)) ?_
      refine tr_if_ne eX0_canGo_34 (fun h34 => ?_) (fun h34 => ?_)
      · skip
        try first | replace h34 := bi_0 h34 | replace h34 := bi_n h34
        refine tr_iconst eX0_canGo_41 (nI 0) ci_0 ?_
        refine tr_ret eX0_canGo_42 rfl (by first | rfl | exact nar_bi _) ?_
        refine ⟨congrArg some ?_, rfl⟩
        refine bi_f ?_
        simp only [can]
        rw [s_begX, h34]
        simp
      · skip
        try first | replace h34 := bi_0 h34 | replace h34 := bi_n h34
        refine tr_iconst eX0_canGo_37 (nI 1) ci_1 ?_
        refine tr_goto eX0_canGo_38 ?_
        refine tr_ret eX0_canGo_42 rfl (by first | rfl | exact nar_bi _) ?_
        refine ⟨congrArg some ?_, rfl⟩
        refine bi_t ?_
        simp only [can]
        rw [s_begX, Bool.and_eq_true, Bool.or_eq_true, decide_eq_true_eq, decide_eq_true_eq, Bool.not_eq_true']
        exact ⟨hx, Bool.not_eq_true _ ▸ h34⟩

