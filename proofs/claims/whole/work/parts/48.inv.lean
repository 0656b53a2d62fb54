theorem k_X6_offN {σ : tSt} {nS nP nC nV : Nat} {v : Int32} (hI : iN (aX σ) nS nP nC nV) (hPU : ∀ u : Nat, u < 40 → s_put σ (nI u) = true → s_unk σ (nI u) = false) : CT mX6_off [.ref 0, .int v] σ (QX σ (s_offp (aX σ) v)) := by
  have hS := hI.1.1
  rw [aX_0] at hS
  have hP := hI.2.1.1
  rw [aX_1] at hP
  have hC := hI.2.2.1.1
  rw [aX_2] at hC
  have hV := hI.2.2.2.1
  rw [aX_3] at hV
  have hS24 := hI.1.2
  have hP40 := hI.2.1.2
  have hC20 := hI.2.2.1.2
  have hV40 := hI.2.2.2.2
  refine CT.of2 0 (by decide) rfl rfl ?_
  refine tr_aload_n eX6_off_0 rfl ?_
  refine tr_getR eX6_off_1 fk_X6_19 rfl rfl ?_
  refine tr_iload_n eX6_off_4 rfl ?_
  refine tr_ce1 eX6_off_5 zv_X5_has zi_X5_has lk_X6_131 ⟨rfl, by decide, by decide⟩ rfl rfl rfl k_X5_has ?_
  refine tr_if_ne eX6_off_8 (fun h8 => ?_) (fun h8 => ?_)
  · skip
    try first | replace h8 := bi_0 h8 | replace h8 := bi_n h8
    have hin := in_has hV hV40 (by decide) h8
    refine tr_aload_n eX6_off_17 rfl ?_
    refine tr_getR eX6_off_18 fk_X6_19 rfl rfl ?_
    refine tr_iload_n eX6_off_21 rfl ?_
    refine tr_ce1 eX6_off_22 zv_X5_isPut zi_X5_isPut lk_X6_137 ⟨rfl, by decide, by decide⟩ rfl rfl rfl (k_X5_isPut (by first | with_reducible assumption | with_reducible exact in_slot (by with_reducible assumption) (by with_reducible assumption) | with_reducible exact in_row _ (by decide) (by with_reducible assumption) | with_reducible exact in_row0 (by with_reducible assumption) | with_reducible exact in_slot0 (by with_reducible assumption) | (simp (disch := decide) only [up_k, up_s, up_f] <;> with_reducible assumption))) ?_
    refine tr_if_ne eX6_off_25 (fun h25 => ?_) (fun h25 => ?_)
    · skip
      try first | replace h25 := bi_0 h25 | replace h25 := bi_n h25
      have hpu : s_unk σ v = false := by
        have e := vp_in_eq hin (by decide)
        have h := hPU _ e.1
        rw [e.2] at h
        exact h h25
      clear hPU
      refine tr_aload_n eX6_off_35 rfl ?_
      refine tr_getR eX6_off_36 fk_X6_19 rfl rfl ?_
      refine tr_iload_n eX6_off_39 rfl ?_
      refine tr_ce1 eX6_off_40 zv_X5_hasBegun zi_X5_hasBegun lk_X6_162 ⟨rfl, by decide, by decide⟩ rfl rfl rfl (k_X5_hasBegun (by first | with_reducible assumption | with_reducible exact in_slot (by with_reducible assumption) (by with_reducible assumption) | with_reducible exact in_row _ (by decide) (by with_reducible assumption) | with_reducible exact in_row0 (by with_reducible assumption) | with_reducible exact in_slot0 (by with_reducible assumption) | (simp (disch := decide) only [up_k, up_s, up_f] <;> with_reducible assumption))) ?_
      refine tr_if_eq eX6_off_43 (fun h43 => ?_) (fun h43 => ?_)
      · skip
        try first | replace h43 := bi_0 h43 | replace h43 := bi_n h43
        refine tr_aload_n eX6_off_53 rfl ?_
        refine tr_getR eX6_off_54 fk_X6_19 rfl rfl ?_
        refine tr_iload_n eX6_off_57 rfl ?_
        refine tr_ce1 eX6_off_58 zv_X5_takeOff zi_X5_takeOff lk_X6_165 ⟨rfl, by decide, by decide⟩ rfl rfl rfl (k_X5_takeOff (by first | with_reducible assumption | with_reducible exact in_slot (by with_reducible assumption) (by with_reducible assumption) | with_reducible exact in_row _ (by decide) (by with_reducible assumption) | with_reducible exact in_row0 (by with_reducible assumption) | with_reducible exact in_slot0 (by with_reducible assumption) | (simp (disch := decide) only [up_k, up_s, up_f] <;> with_reducible assumption))) ?_
        try simp (disch := decide) only [up_k, up_s, up_f, s_set_0]
        refine tr_aload_n eX6_off_61 rfl ?_
        refine tr_ce0 eX6_off_62 zv_X6_allow zi_X6_allow lk_X6_120 ⟨rfl, by decide, by decide⟩ rfl rfl rfl k_X6_allow ?_
        try simp (disch := decide) only [up_k, up_s, up_f, s_set_0]
        refine tr_ret eX6_off_65 rfl (by first | rfl | exact nar_bi _) ?_
        refine ⟨?_, ?_, rfl⟩ <;> simp (disch := decide) only [s_offp, PE, psh, s_nst, s_nvi, s_kind_aX, s_wing_aX, s_in_aX, s_out_aX, s_need_aX, s_unk_aX, s_put_aX, aX_0, aX_1, aX_2, aX_3, aX_4, aX_5, aX_6, aX_7, aX_8, aX_9, aX_f17_9, aX_f17_10, aX_f17_11, aX_f18_6, aX_f18_7, aX_f0_6, aX_f0_7, aX_f0_8, aX_f0_9, aX_f25_1, aX_u, aX_k, aX_s] <;> simp_all [s_rf, s_gr, s_dn, s_al, n0, le_nlt, -Int32.not_lt, -Int32.not_le, s_beg]
      · skip
        try first | replace h43 := bi_0 h43 | replace h43 := bi_n h43
        refine tr_aload_n eX6_off_46 rfl ?_
        refine tr_bipush eX6_off_47 (nI 7) (by decide) ?_
        refine tr_ce1 eX6_off_49 zv_X6_deny zi_X6_deny lk_X6_117 ⟨rfl, by decide, by decide⟩ rfl rfl rfl k_X6_deny ?_
        try simp (disch := decide) only [up_k, up_s, up_f, s_set_0]
        refine tr_ret eX6_off_52 rfl (by first | rfl | exact nar_bi _) ?_
        refine ⟨?_, ?_, rfl⟩ <;> simp (disch := decide) only [s_offp, PE, psh, s_nst, s_nvi, s_kind_aX, s_wing_aX, s_in_aX, s_out_aX, s_need_aX, s_unk_aX, s_put_aX, aX_0, aX_1, aX_2, aX_3, aX_4, aX_5, aX_6, aX_7, aX_8, aX_9, aX_f17_9, aX_f17_10, aX_f17_11, aX_f18_6, aX_f18_7, aX_f0_6, aX_f0_7, aX_f0_8, aX_f0_9, aX_f25_1, aX_u, aX_k, aX_s] <;> simp_all [s_rf, s_gr, s_dn, s_al, n0, le_nlt, -Int32.not_lt, -Int32.not_le, s_beg]
    · skip
      try first | replace h25 := bi_0 h25 | replace h25 := bi_n h25
      refine tr_aload_n eX6_off_28 rfl ?_
      refine tr_bipush eX6_off_29 (nI 6) (by decide) ?_
      refine tr_ce1 eX6_off_31 zv_X6_deny zi_X6_deny lk_X6_117 ⟨rfl, by decide, by decide⟩ rfl rfl rfl k_X6_deny ?_
      try simp (disch := decide) only [up_k, up_s, up_f, s_set_0]
      refine tr_ret eX6_off_34 rfl (by first | rfl | exact nar_bi _) ?_
      refine ⟨?_, ?_, rfl⟩ <;> simp (disch := decide) only [s_offp, PE, psh, s_nst, s_nvi, s_kind_aX, s_wing_aX, s_in_aX, s_out_aX, s_need_aX, s_unk_aX, s_put_aX, aX_0, aX_1, aX_2, aX_3, aX_4, aX_5, aX_6, aX_7, aX_8, aX_9, aX_f17_9, aX_f17_10, aX_f17_11, aX_f18_6, aX_f18_7, aX_f0_6, aX_f0_7, aX_f0_8, aX_f0_9, aX_f25_1, aX_u, aX_k, aX_s] <;> simp_all [s_rf, s_gr, s_dn, s_al, n0, le_nlt, -Int32.not_lt, -Int32.not_le, s_beg]
  · skip
    try first | replace h8 := bi_0 h8 | replace h8 := bi_n h8
    refine tr_aload_n eX6_off_11 rfl ?_
    refine tr_iconst eX6_off_12 (nI 2) ci_2 ?_
    refine tr_ce1 eX6_off_13 zv_X6_deny zi_X6_deny lk_X6_117 ⟨rfl, by decide, by decide⟩ rfl rfl rfl k_X6_deny ?_
    try simp (disch := decide) only [up_k, up_s, up_f, s_set_0]
    refine tr_ret eX6_off_16 rfl (by first | rfl | exact nar_bi _) ?_
    refine ⟨?_, ?_, rfl⟩ <;> simp (disch := decide) only [s_offp, PE, psh, s_nst, s_nvi, s_kind_aX, s_wing_aX, s_in_aX, s_out_aX, s_need_aX, s_unk_aX, s_put_aX, aX_0, aX_1, aX_2, aX_3, aX_4, aX_5, aX_6, aX_7, aX_8, aX_9, aX_f17_9, aX_f17_10, aX_f17_11, aX_f18_6, aX_f18_7, aX_f0_6, aX_f0_7, aX_f0_8, aX_f0_9, aX_f25_1, aX_u, aX_k, aX_s] <;> simp_all [s_rf, s_gr, s_dn, s_al, n0, le_nlt, -Int32.not_lt, -Int32.not_le, s_beg]

/-! THE INVARIANT IS KEPT -/
def inv (μ : tSt) : Prop := ∃ nS nP nC nV, iA μ nS nP nC nV ∧ oOK μ
theorem inv_st {μ : tSt} (h : inv μ) (i x : Int32) (hi : i = nI 6 ∨ i = nI 7 ∨ i = nI 8) : inv (up μ 0 i x) := by
  obtain ⟨a, b, c, d, h1, h2⟩ := h
  exact ⟨a, b, c, d, iA_st h1 i x hi, h2⟩
theorem inv_rf {μ : tSt} (h : inv μ) (c : Int32) : inv (s_rf μ c).2 := inv_st h _ _ (Or.inl rfl)
theorem inv_gr {μ : tSt} (h : inv μ) (c : Int32) : inv (s_gr μ c).2 := inv_st h _ _ (Or.inl rfl)
theorem inv_dn {μ : tSt} (h : inv μ) (c : Int32) : inv (s_dn μ c).2 := inv_st h _ _ (Or.inl rfl)
theorem inv_al {μ : tSt} (h : inv μ) : inv (s_al μ).2 := inv_st h _ _ (Or.inl rfl)
theorem inv_rs {μ : tSt} (h : inv μ) (A : Int32 × Int32) : inv (s_rs μ A) := inv_st (inv_st h _ _ (Or.inr (Or.inl rfl))) _ _ (Or.inr (Or.inr rfl))
theorem oOK_cnt {μ ρ : tSt} (h : oOK μ) (hk : ∀ k, k ≠ 12 → ρ k = μ k) (h12 : ∀ u : Nat, u < 40 → ρ 12 (nI u) = μ 12 (nI u) ∨ ρ 12 (nI u) = nI 0) : oOK ρ := fun u k hu q q8 => by
  rw [hk 14 (by decide), out_eq (hk 10 (by decide)) (hk 11 (by decide))]
  rcases h12 u hu with z | z
  · rw [z] at q; exact h u k hu q q8
  · rw [z] at q; exact absurd q (by rw [n0]; exact nI_pos (by omega))
theorem oOK_off {μ : tSt} (h : oOK μ) (v : Int32) : oOK (up μ 12 v (nI 0)) := oOK_cnt h (fun k hk => up_k hk) (fun u _ => by
  rw [up_at]
  by_cases q : nI u = v
  · exact Or.inr (if_pos q)
  · exact Or.inl (if_neg q))
theorem oOK_vd {μ : tSt} (h : oOK μ) (g : Int32 → Bool) : oOK (vd g μ) := oOK_cnt h (fun k hk => vd_k hk) (fun u _ => by
  by_cases q : g (nI u) = true
  · exact Or.inr (vd_t q)
  · exact Or.inl (vd_f q))
theorem oOK_set {μ : tSt} {v : Nat} {s a b : Int32} (h : oOK μ) (hv : v < 40) (ha : a < s_out μ (nI v)) : oOK (s_set μ (nI v) s a b) := by
  intro u k hu hk h8
  show s_set μ (nI v) s a b 14 (nI u * nI 8 + nI k) < s_out μ (nI u)
  by_cases q : u = v
  · subst q
    have e1 : s_set μ (nI u) s a b 12 (nI u) = nI 1 := by simp only [s_set]; rw [up_k (by decide), up_k (by decide), up_k (by decide), up_s]
    rw [e1] at hk
    have : k = 0 := by have := (nI_ltI (by omega) (by decide)).mp hk; omega
    subst this
    rw [add_n0]
    simp only [s_set]; rw [up_k (by decide), up_s]; exact ha
  · have hne := sl_ne0 (v := v) hu hv h8 (fun w => q w.1)
    have e1 : s_set μ (nI v) s a b 12 (nI u) = μ 12 (nI u) := by simp only [s_set]; rw [up_k (by decide), up_k (by decide), up_k (by decide), up_n (nI_ne (by omega) (by omega) q)]
    rw [e1] at hk
    simp only [s_set]; rw [up_k (by decide), up_n hne, up_k (by decide), up_k (by decide)]
    exact h u k hu hk h8
theorem nvi_of {μ : tSt} {nS nP nC nV : Nat} (h : iA μ nS nP nC nV) {v : Int32} (q : ¬ s_nvi μ v) : ∃ n, n < nV ∧ v = nI n := by
  have hV40 := h.1.2.2.2.2
  have q := n_not q
  obtain ⟨n, hn, rfl⟩ := nI_of q.1
  refine ⟨n, ?_, rfl⟩
  have := q.2
  rw [h.1.2.2.2.1] at this
  exact Nat.not_le.mp fun z => this ((nI_leI (by omega) (by omega)).mpr z)
theorem nst_of {μ : tSt} {nS nP nC nV : Nat} (h : iA μ nS nP nC nV) {v : Int32} (q : ¬ s_nst μ v) : ∃ n, n < nS ∧ v = nI n := by
  have hV40 := h.1.1.2
  have q := n_not q
  obtain ⟨n, hn, rfl⟩ := nI_of q.1
  refine ⟨n, ?_, rfl⟩
  have := q.2
  rw [h.1.1.1] at this
  exact Nat.not_le.mp fun z => this ((nI_leI (by omega) (by omega)).mpr z)
theorem wi_of {x : Int32} {a b : Nat} (h : s_wi x (nI a) (nI b)) (ha : a < 2 ^ 31) (hb : b < 2 ^ 31) : ∃ n, x = nI n ∧ a ≤ n ∧ n ≤ b := by
  have h0 : ¬ x < 0 := fun q => h.1 (i32_trans_le q (nI_pos' (by omega)))
  obtain ⟨n, hn, rfl⟩ := nI_of h0
  exact ⟨n, rfl, Nat.not_lt.mp fun z => h.1 ((nI_ltI hn (by omega)).mpr z), Nat.not_lt.mp fun z => h.2 ((nI_ltI (by omega) hn).mpr z)⟩
theorem sp_of {a b : Int32} (h : s_sp a b) : ∃ x y : Nat, a = nI x ∧ b = nI y ∧ x < y ∧ y ≤ 2880 := by
  obtain ⟨x, hx, rfl⟩ := nI_of h.1
  have hb : ¬ b < 0 := fun q => h.2.1 (Int32.le_of_lt (i32_trans_le q (nI_pos' (by omega))))
  obtain ⟨y, hy, rfl⟩ := nI_of hb
  exact ⟨x, y, rfl, rfl, Nat.not_le.mp fun z => h.2.1 ((nI_leI (by omega) (by omega)).mpr z), Nat.not_lt.mp fun z => h.2.2 ((nI_ltI (by omega) (by omega)).mpr z)⟩
theorem inv_stand {μ : tSt} (h : inv μ) (k z : Int32) : inv (s_stand μ k z).2 := by
  unfold s_stand
  split
  · exact inv_rf h _
  · rename_i q1
    split
    · exact inv_rf h _
    · split
      · exact inv_rf h _
      · rename_i q3
        refine inv_gr ?_ _
        obtain ⟨nS, nP, nC, nV, hI, ho⟩ := h
        obtain ⟨kk, rfl, hk1, hk5⟩ := wi_of (n_not q1) (by decide) (by decide)
        have eS := hI.1.1.1
        have hS24 := hI.1.1.2
        rw [eS] at q3 ⊢
        have hlt : nS < 24 := Nat.lt_of_le_of_ne hS24 fun z => q3 (by rw [z])
        rw [nI_add]
        refine ⟨nS + 1, nP, nC, nV, ?_, ho⟩
        obtain ⟨⟨a1, a2, a3, a4⟩, b, c, d, ⟨e1, e2, e3⟩, f⟩ := hI
        refine ⟨⟨⟨up_s, by omega⟩, ?_, ?_, ?_⟩, b, c, ?_, ⟨?_, ?_, ?_⟩, ?_⟩
        · rw [up_f (by decide)]; exact a2
        · rw [up_f (by decide)]; exact a3
        · rw [up_f (by decide)]; exact a4
        · intro u k hu hk h8
          obtain ⟨s, hs, es⟩ := d u k hu hk h8
          exact ⟨s, by omega, es⟩
        · rw [up_f (by decide)]; exact e1
        · rw [up_f (by decide)]; exact e2
        · rw [up_f (by decide)]; exact e3
        · intro s hs
          rw [up_k (by decide), up_k (by decide)]
          by_cases q : s = nS
          · subst q; exact ⟨kk, hk1, hk5, up_s⟩
          · rw [up_n (nI_ne (by omega) (by omega) q)]; exact f s (by omega)
theorem inv_near {μ : tSt} (h : inv μ) (a b c d : Int32) : inv (s_nearp μ a b c d).2 := by
  unfold s_nearp
  split
  · exact inv_rf h _
  · split
    · exact inv_rf h _
    · split
      · exact inv_rf h _
      · rename_i qab
        split
        · exact inv_rf h _
        · split
          · exact inv_rf h _
          · split
            · exact inv_rf h _
            · rename_i q3
              refine inv_gr ?_ _
              obtain ⟨nS, nP, nC, nV, hI, ho⟩ := h
              have eS := hI.1.2.1.1
              have hS24 := hI.1.2.1.2
              rw [eS] at q3 ⊢
              have hlt : nP < 40 := Nat.lt_of_le_of_ne hS24 fun z => q3 (by rw [z])
              rw [nI_add]
              refine ⟨nS, nP + 1, nC, nV, ?_, ho⟩
              obtain ⟨⟨a1, a2, a3, a4⟩, ⟨b1, b2, b3, b4⟩, c, d, ⟨e1, e2, e3⟩, f⟩ := hI
              refine ⟨⟨?_, ⟨up_s, by omega⟩, ?_, ?_⟩, ⟨b1, b2, ?_, b4⟩, c, d, ⟨?_, ?_, ?_⟩, f⟩
              · rw [up_f (by decide)]; exact a1
              · rw [up_f (by decide)]; exact a3
              · rw [up_f (by decide)]; exact a4
              · intro p hp
                rw [up_k (by decide), up_k (by decide), up_k (by decide), up_k (by decide), up_k (k' := 4) (k := 0) (by decide), up_k (k' := 4) (k := 6) (by decide), up_k (k' := 4) (k := 5) (by decide)]
                by_cases q : p = nP
                · subst q; rw [up_s, up_s]; exact qab
                · have hne := nI_ne (a := p) (b := nP) (by omega) (by omega) q
                  rw [up_n hne, up_n hne, up_k (by decide)]; exact b3 p (by omega)
              · rw [up_f (by decide)]; exact e1
              · rw [up_f (by decide)]; exact e2
              · rw [up_f (by decide)]; exact e3
theorem inv_cone {μ : tSt} (h : inv μ) (s a b : Int32) : inv (s_cone μ s a b).2 := by
  unfold s_cone
  split
  · exact inv_rf h _
  · split
    · exact inv_rf h _
    · rename_i qsp
      split
      · exact inv_rf h _
      · rename_i q3
        refine inv_gr ?_ _
        obtain ⟨nS, nP, nC, nV, hI, ho⟩ := h
        obtain ⟨x, y, rfl, rfl, hxy, hy⟩ := sp_of (n_not qsp)
        have eS := hI.1.2.2.1.1
        have hS24 := hI.1.2.2.1.2
        rw [eS] at q3 ⊢
        have hlt : nC < 20 := Nat.lt_of_le_of_ne hS24 fun z => q3 (by rw [z])
        rw [nI_add]
        refine ⟨nS, nP, nC + 1, nV, ?_, ho⟩
        obtain ⟨⟨a1, a2, a3, a4⟩, ⟨b1, b2, b3, b4⟩, c, d, ⟨e1, e2, e3⟩, f⟩ := hI
        refine ⟨⟨?_, ?_, ⟨up_s, by omega⟩, ?_⟩, ⟨b1, b2, b3, ?_⟩, c, d, ⟨?_, ?_, ?_⟩, f⟩
        · rw [up_f (by decide)]; exact a1
        · rw [up_f (by decide)]; exact a2
        · rw [up_f (by decide)]; exact a4
        · intro p hp
          rw [up_k (by decide), up_k (by decide), up_k (k' := 9) (k := 0) (by decide)]
          by_cases q : p = nC
          · subst q; rw [up_s, up_s]; exact (nI_ltI (by omega) (by omega)).mpr hxy
          · have hne := nI_ne (a := p) (b := nC) (by omega) (by omega) q
            simp only [up_n hne]; exact b4 p (by omega)
        · rw [up_f (by decide)]; exact e1
        · rw [up_f (by decide)]; exact e2
        · rw [up_f (by decide)]; exact e3
theorem inv_towtime {μ : tSt} (h : inv μ) (x : Int32) : inv (s_towtime μ x).2 := by
  unfold s_towtime
  split
  · exact inv_dn h _
  · rename_i q
    refine inv_al ?_
    obtain ⟨nS, nP, nC, nV, hI, ho⟩ := h
    obtain ⟨k, rfl, h1, h2⟩ := wi_of (n_not q) (by decide) (by decide)
    refine ⟨nS, nP, nC, nV, ?_, ho⟩
    obtain ⟨⟨a1, a2, a3, a4⟩, b, c, d, ⟨e1, e2, e3⟩, f⟩ := hI
    refine ⟨⟨?_, ?_, ?_, ?_⟩, b, c, d, ⟨?_, ⟨k, h1, h2, up_s⟩, ?_⟩, f⟩
    · rw [up_f (by decide)]; exact a1
    · rw [up_f (by decide)]; exact a2
    · rw [up_f (by decide)]; exact a3
    · rw [up_f (by decide)]; exact a4
    · rw [up_f (by decide)]; exact e1
    · rw [up_f (by decide)]; exact e3
theorem inv_visit {μ : tSt} (h : inv μ) (k w a b d : Int32) : inv (s_visit μ k w a b d).2 := by
  unfold s_visit
  split
  · exact inv_rf h _
  · split
    · exact inv_rf h _
    · split
      · exact inv_rf h _
      · rename_i qsp
        split
        · exact inv_rf h _
        · split
          · exact inv_rf h _
          · rename_i q3
            refine inv_gr ?_ _
            obtain ⟨nS, nP, nC, nV, hI, ho⟩ := h
            obtain ⟨x, y, rfl, rfl, hxy, hy⟩ := sp_of (n_not qsp)
            have eS := hI.1.2.2.2.1
            have hS24 := hI.1.2.2.2.2
            rw [eS] at q3 ⊢
            have hlt : nV < 40 := Nat.lt_of_le_of_ne hS24 fun z => q3 (by rw [z])
            rw [nI_add]
            obtain ⟨⟨a1, a2, a3, a4⟩, b0, ⟨c1, c2, c3, c4⟩, d0, ⟨e1, e2, e3⟩, f⟩ := hI
            refine ⟨nS, nP, nC, nV + 1, ⟨⟨?_, ?_, ?_, up_s, by omega⟩, b0, ⟨?_, ?_, ?_, ?_⟩, d0, ⟨?_, ?_, ?_⟩, f⟩, ?_⟩
            · rw [up_f (by decide)]; exact a1
            · rw [up_f (by decide)]; exact a2
            · rw [up_f (by decide)]; exact a3
            · intro u hu
              by_cases q : u = nV
              · subst q
                refine ⟨x, y, ?_, ?_, hxy, hy⟩
                · rw [up_k (by decide), up_k (by decide), up_n (rw_ne (by omega) (by omega) (by omega) (by omega) (by omega)), up_n (rw_ne (by omega) (by omega) (by omega) (by omega) (by omega)), up_s]
                · rw [up_k (by decide), up_k (by decide), up_n (rw_ne (by omega) (by omega) (by omega) (by omega) (by omega)), up_s]
              · obtain ⟨x', y', ex, ey, h1, h2⟩ := c1 u (by omega)
                have hn2 : ∀ i j : Nat, i < 5 → j < 5 → nI u * nI 5 + nI i ≠ nI nV * nI 5 + nI j := fun i j hi hj => rw_ne (by omega) (by omega) hi hj (fun z => q z.1)
                have hn0 : ∀ i : Nat, i < 5 → nI u * nI 5 + nI i ≠ nI nV * nI 5 := fun i hi => (rw_ne0 (u := nV) (v := u) (by omega) (by omega) hi (fun z => q z.1.symm)).symm
                refine ⟨x', y', ?_, ?_, h1, h2⟩
                · rw [up_k (by decide), up_k (by decide), up_n (hn2 2 4 (by omega) (by omega)), up_n (hn2 2 3 (by omega) (by omega)), up_n (hn2 2 2 (by omega) (by omega)), up_n (hn2 2 1 (by omega) (by omega)), up_n (hn0 2 (by omega))]; exact ex
                · rw [up_k (by decide), up_k (by decide), up_n (hn2 3 4 (by omega) (by omega)), up_n (hn2 3 3 (by omega) (by omega)), up_n (hn2 3 2 (by omega) (by omega)), up_n (hn2 3 1 (by omega) (by omega)), up_n (hn0 3 (by omega))]; exact ey
            · intro u hu hu2; exact c2 u (by omega) hu2
            · intro u hu
              rw [up_k (by decide), up_at]
              by_cases q : nI u = nI nV
              · rw [if_pos q]; exact ⟨5, by decide, rfl⟩
              · rw [if_neg q]; exact c3 u hu
            · intro u hu hne
              rw [up_k (by decide), up_at]
              by_cases q : nI u = nI nV
              · rw [if_pos q]; decide
              · rw [if_neg q]; exact c4 u hu hne
            · rw [up_f (by decide)]; exact e1
            · rw [up_f (by decide)]; exact e2
            · rw [up_f (by decide)]; exact e3
            · intro u k hu hk h8
              have hk' : nI k < μ 12 (nI u) := hk
              have hun : u ≠ nV := fun z => by
                rw [z, c2 nV (Nat.le_refl _) hlt] at hk'
                exact absurd hk' (by rw [n0]; exact nI_pos (by omega))
              have hn2 : ∀ i j : Nat, i < 5 → j < 5 → nI u * nI 5 + nI i ≠ nI nV * nI 5 + nI j := fun i j hi hj => rw_ne (by omega) (by omega) hi hj (fun z => hun z.1)
              have hn0 : ∀ i : Nat, i < 5 → nI u * nI 5 + nI i ≠ nI nV * nI 5 := fun i hi => (rw_ne0 (u := nV) (v := u) (by omega) (by omega) hi (fun z => hun z.1.symm)).symm
              have := ho u k hu hk' h8
              refine (show μ 14 (nI u * nI 8 + nI k) < s_out _ (nI u) from ?_)
              unfold s_out at this ⊢
              rw [up_k (k' := 11) (by decide), up_n (nI_ne (by omega) (by omega) hun), up_k (k' := 11) (by decide), up_k (k' := 11) (by decide), up_k (k' := 11) (by decide), up_k (k' := 11) (by decide), up_k (k' := 11) (by decide), up_k (k' := 10) (k := 0) (by decide), up_k (k' := 10) (k := 11) (by decide), up_n (hn2 3 4 (by omega) (by omega)), up_n (hn2 3 3 (by omega) (by omega)), up_n (hn2 3 2 (by omega) (by omega)), up_n (hn2 3 1 (by omega) (by omega)), up_n (hn0 3 (by omega))]
              exact this
theorem inv_tear {μ : tSt} (h : inv μ) (v k : Int32) : inv (s_tear μ v k).2 := by
  unfold s_tear
  split
  · exact inv_dn h _
  · rename_i qv
    split
    · exact inv_dn h _
    · rename_i qk
      split
      · exact inv_dn h _
      · rename_i qp
        refine inv_al ?_
        obtain ⟨nS, nP, nC, nV, hI, ho⟩ := h
        have hV40 := hI.1.2.2.2.2
        obtain ⟨n, hn, rfl⟩ := nvi_of hI qv
        obtain ⟨c, hc, ec⟩ := hI.2.2.1.2.2.1 n (by omega)
        rw [ec] at qk
        obtain ⟨k, rfl, _, hk⟩ := wi_of (n_not qk) (by decide) (by omega)
        have h0 : μ 12 (nI n) = nI 0 := by
          obtain ⟨x, hx, ex⟩ := hI.2.1.1 n (by omega)
          rw [s_put, decide_eq_true_eq, ex] at qp
          have : nI x ≤ nI 0 := n_not qp
          rw [ex, show x = 0 by have := (nI_leI (by omega) (by omega)).mp this; omega]
        obtain ⟨a0, b0, ⟨c1, c2, c3, c4⟩, d0, e0, f⟩ := hI
        refine ⟨nS, nP, nC, nV, ⟨a0, b0, ⟨c1, c2, ?_, ?_⟩, d0, e0, f⟩, ?_⟩
        · intro u hu
          rw [up_at]
          by_cases q : nI u = nI n
          · rw [if_pos q]; exact ⟨k, by omega, rfl⟩
          · rw [if_neg q]; exact c3 u hu
        · intro u hu hne
          rw [up_at]
          by_cases q : nI u = nI n
          · exact absurd (show μ 12 (nI u) = nI 0 by rw [q]; exact h0) hne
          · rw [if_neg q]; exact c4 u hu hne
        · intro u j hu hj h8
          have hj' : nI j < μ 12 (nI u) := hj
          have hun : nI u ≠ nI n := fun z => by
            rw [z, h0] at hj'
            exact absurd hj' (by rw [n0]; exact nI_pos (by omega))
          have := ho u j hu hj' h8
          unfold s_out at this ⊢
          rw [up_n hun, up_k (by decide), up_k (by decide)]
          exact this
theorem inv_off {μ : tSt} (h : inv μ) (v : Int32) : inv (s_offp μ v).2 := by
  unfold s_offp
  split
  · exact inv_dn h _
  · rename_i qv
    split
    · exact inv_dn h _
    · split
      · exact inv_dn h _
      · refine inv_al ?_
        obtain ⟨nS, nP, nC, nV, hI, ho⟩ := h
        obtain ⟨n, hn, rfl⟩ := nvi_of hI qv
        exact ⟨nS, nP, nC, nV, iA_off hI hn, oOK_off ho _⟩
theorem unk_of {μ : tSt} {v : Int32} (h : ¬ s_unk μ v = true) : nI 2 < μ 11 v := by
  rw [s_unk, decide_eq_true_eq] at h
  exact n_not h
theorem inv_put {μ : tSt} (h : inv μ) (v s : Int32) : inv (s_putp μ v s).2 := by
  unfold s_putp
  split
  · exact inv_dn h _
  · rename_i q
    obtain ⟨q1, q2, q3, _, _⟩ := f_put0 (n_not q)
    split
    · refine inv_al ?_
      obtain ⟨nS, nP, nC, nV, hI, ho⟩ := h
      have hV40 := hI.1.2.2.2.2
      obtain ⟨n, hn, rfl⟩ := nvi_of hI q2
      obtain ⟨st, hst, rfl⟩ := nst_of hI q1
      obtain ⟨a, b, e1, e2, h3, h4⟩ := hI.2.2.1.1.io hn
      refine ⟨nS, nP, nC, nV, ?_, oOK_set ho (by omega) (by rw [e1, e2]; exact (nI_ltI (by omega) (by omega)).mpr h3)⟩
      rw [e1, e2]
      exact iA_set hI hn (unk_of q3) hst h3 h4
    · exact inv_dn (inv_rs h _) _
theorem inv_why {μ : tSt} (h : inv μ) (v s : Int32) : inv (s_whyp μ v s).2 := by
  unfold s_whyp
  split
  · exact inv_rf h _
  · split
    · exact inv_gr h _
    · exact inv_gr (inv_rs h _) _
theorem inv_ground {μ : tSt} (h : inv μ) (s w : Int32) : inv (s_ground μ s w).2 := by
  unfold s_ground
  split
  · exact inv_rf h _
  · split
    · exact inv_gr h _
    · split
      · exact inv_gr h _
      · exact inv_rf h _
theorem inv_told {μ : tSt} (h : inv μ) (v k : Int32) : inv (s_told μ v k).2 := by
  unfold s_told
  split
  · exact inv_rf h _
  · split
    · split
      · exact inv_gr h _
      · exact inv_rf h _
    · exact inv_rf h _
theorem inv_stays {μ : tSt} (h : inv μ) (v : Int32) : inv (s_stays μ v).2 := by
  unfold s_stays
  split
  · exact inv_rf h _
  · exact inv_gr h _
theorem inv_stay {μ : tSt} (h : inv μ) (v k w : Int32) : inv (s_stay μ v k w).2 := by
  unfold s_stay
  split
  · exact inv_rf h _
  · split
    · split
      · split
        · exact inv_gr h _
        · split
          · exact inv_gr h _
          · split
            · exact inv_gr h _
            · exact inv_rf h _
      · exact inv_rf h _
    · exact inv_rf h _
