/-! LATE of the class: to bend -/
def gi (g : Int32 → Bool) (i : Nat) : Int32 → Bool := fun j => g j && decide (j < nI i)
theorem gi_end {nV : Nat} {v : Int32} {g : Int32 → Bool} (h : gIn nV v g) (hV : nV ≤ 40) : gi g nV = g := by
  funext j
  unfold gi
  cases hg : g j with
  | false => rfl
  | true =>
    obtain ⟨u, hu, e, _⟩ := h j hg
    rw [e, decide_eq_true ((nI_ltI (by omega) (by omega)).mpr hu)]; rfl
theorem gi_0 {nV : Nat} {v : Int32} {g : Int32 → Bool} (h : gIn nV v g) (hV : nV ≤ 40) : gi g 0 = fun _ => false := by
  funext j
  unfold gi
  cases hg : g j with
  | false => rfl
  | true =>
    obtain ⟨u, hu, e, _⟩ := h j hg
    rw [e, decide_eq_false (fun q => by have := (nI_ltI (by omega) (by omega)).mp q; omega)]; rfl
theorem gi_lt {nV : Nat} {v : Int32} {g : Int32 → Bool} (h : gIn nV v g) (hV : nV ≤ 40) {i : Nat} (hi : i < 40) (j : Int32) : gi g (i + 1) j = (gi g i j || (decide (j = nI i) && g j)) := by
  unfold gi
  cases hg : g j with
  | false => simp
  | true =>
    obtain ⟨u, hu, rfl, _⟩ := h j hg
    simp only [Bool.true_and, Bool.and_true]
    rw [Bool.eq_iff_iff, Bool.or_eq_true, decide_eq_true_eq, decide_eq_true_eq, decide_eq_true_eq, nI_ltI (by omega) (by omega), nI_ltI (by omega) (by omega), nI_eq (by omega) (by omega)]
    omega
theorem vd_skip {μ : tSt} {nV : Nat} {v : Int32} {g : Int32 → Bool} (h : gIn nV v g) (hV : nV ≤ 40) {i : Nat} (hi : i < 40) (hg : ¬ g (nI i) = true) : vd (gi g (i + 1)) μ = vd (gi g i) μ := by
  have : gi g (i + 1) = gi g i := by
    funext j
    rw [gi_lt h hV hi]
    by_cases q : j = nI i
    · rw [q, Bool.eq_false_iff.mpr hg]; simp
    · rw [decide_eq_false q]; simp
  rw [this]
theorem vd_one {μ : tSt} {nV : Nat} {v : Int32} {g : Int32 → Bool} (h : gIn nV v g) (hV : nV ≤ 40) {i : Nat} (hi : i < 40) (hg : g (nI i) = true) : vd (gi g (i + 1)) μ = up (vd (gi g i) μ) 12 (nI i) (nI 0) := by
  funext k j
  by_cases hk : k = 12
  · subst hk
    rw [up_at]
    by_cases q : j = nI i
    · rw [if_pos q, vd_t (by rw [gi_lt h hV hi, q, hg]; simp)]
    · rw [if_neg q]
      have e : gi g (i + 1) j = gi g i j := by rw [gi_lt h hV hi, decide_eq_false q]; simp
      unfold vd
      rw [e]
  · rw [vd_k hk, up_k hk, vd_k hk]
/-- the movers off up to i -/
def tmR (σ ρ : tSt) (g : Int32 → Bool) (i : Nat) : Prop := (∀ k, k ≠ 32 → k ≠ 24 → k ≠ 29 → k ≠ 12 → ρ k = σ k) ∧ aX ρ = vd (gi g i) (aX σ) ∧ ∃ l, LNS (ρ 32) l ∧ SR (aX σ) l ∧ ρ 24 (nI 1) = nI l.length ∧ (∀ x, x ∈ l ↔ x < i ∧ g (nI x) = true) ∧ ∀ x ∈ l, ρ 29 (nI x) = σ 13 (nI x * nI 8)
theorem tmR_skip {σ ρ : tSt} {nV i : Nat} {v : Int32} {g : Int32 → Bool} (hg : gIn nV v g) (hV : nV ≤ 40) (hi : i < 40) (h : tmR σ ρ g i) (hp : ¬ g (nI i) = true) : tmR σ ρ g (i + 1) := by
  obtain ⟨h1, h2, l, h3, h4, h5, h6, h7⟩ := h
  refine ⟨h1, by rw [vd_skip hg hV hi hp]; exact h2, l, h3, h4, h5, fun x => ?_, h7⟩
  rw [h6]
  constructor
  · rintro ⟨a, b⟩; exact ⟨by omega, b⟩
  · rintro ⟨a, b⟩
    refine ⟨?_, b⟩
    rcases Nat.lt_or_ge x i with q | q
    · exact q
    · rw [show x = i by omega] at b; exact absurd b hp
theorem tmR_n {σ ρ : tSt} {g : Int32 → Bool} {i : Nat} (h : tmR σ ρ g i) (hi : i ≤ 40) : ∃ n, n ≤ i ∧ ρ 24 (nI 1) = nI n ∧ ∀ q, q < n → vp_in (ρ 32 (nI q)) 40 := by
  obtain ⟨_, _, l, a2, a3, a4, a5, _⟩ := h
  have hlu : ∀ x ∈ l, x < i := fun x hx => ((a5 x).mp hx).1
  exact ⟨l.length, SR_len a3 hlu, a4, LNS_v a2 (fun x hx => by have := hlu x hx; omega) (by decide)⟩
theorem aX_24 {σ ρ : tSt} (h : ∀ c, c ≠ 32 → c ≠ 24 → ρ c = σ c) : aX ρ = aX σ := aX_offG (fun k hk => h k (by omega) (by omega))
theorem tmR_join {σ ρ τ : tSt} {nV i n : Nat} {v : Int32} {g : Int32 → Bool} (hg : gIn nV v g) (hV : nV ≤ 40) (hi : i < nV) (h : tmR σ ρ g i) (hr : rOK (aX σ) nV) (hp : g (nI i) = true) (hn : ρ 24 (nI 1) = nI n) (hn40 : n < 40) (h1 : ∀ c, c ≠ 32 → c ≠ 24 → τ c = ρ c) (h2 : τ 24 (nI 1) = nI (n + 1))
    (h3 : ∃ p, p ≤ n ∧ (∀ q, q < p → τ 32 (nI q) = ρ 32 (nI q)) ∧ τ 32 (nI p) = nI i ∧ (∀ q, p < q → q ≤ n → τ 32 (nI q) = ρ 32 (nI (q - 1))) ∧ (∀ q, p ≤ q → q < n → s_in ρ (nI i) < s_in ρ (ρ 32 (nI q))) ∧ (0 < p → ¬ s_in ρ (nI i) < s_in ρ (ρ 32 (nI (p - 1))))) : tmR σ (up (up τ 29 (nI i) (σ 13 (nI i * nI 8))) 12 (nI i) (nI 0)) g (i + 1) := by
  obtain ⟨a1, a0, l, a2, a3, a4, a5, a6⟩ := h
  have hlu : ∀ x ∈ l, x < i := fun x hx => ((a5 x).mp hx).1
  have hlen := SR_len a3 hlu
  have en : n = l.length := nI_inj (by omega) (by omega) (hn.symm.trans a4)
  subst en
  have hin : ∀ x, s_in ρ x = s_in (aX σ) x := fun x => by rw [s_in_aX, s_in, a1 10 (by decide) (by decide) (by decide) (by decide)]; rfl
  simp only [hin] at h3
  obtain ⟨l', b1, b2, b3, b4⟩ := join_list hr hV hi a2 a3 hlu h3
  refine ⟨fun k x y z w => by rw [up_k w, up_k z, h1 k x y]; exact a1 k x y z w, ?_, l', ?_, b2, ?_, fun x => ?_, fun x hx => ?_⟩
  · rw [aX_u _ (by decide), aX_s _ (by decide), aX_24 h1, a0, vd_one hg hV (by omega) hp]
  · rw [up_k (by decide), up_k (by decide)]; exact b1
  · rw [up_k (by decide), up_k (by decide), h2, b3]
  · rw [b4, a5]
    constructor
    · rintro (rfl | ⟨x1, x2⟩)
      · exact ⟨by omega, hp⟩
      · exact ⟨by omega, x2⟩
    · rintro ⟨x1, x2⟩
      by_cases hx : x = i
      · exact Or.inl hx
      · exact Or.inr ⟨by omega, x2⟩
  · rw [up_k (by decide), up_at]
    rcases (b4 x).mp hx with e | e
    · subst e; rw [if_pos rfl]
    · have := hlu x e
      rw [if_neg (nI_ne (by omega) (by omega) (by omega)), h1 29 (by decide) (by decide)]
      exact a6 x e
theorem lp_X0_tmo_9 {σ : tSt} {nV : Nat} {v : Int32} {g : Int32 → Bool} (hgI : gIn nV v g) (hg : ∀ u : Nat, u < 40 → σ 26 (nI u) = bi (g (nI u) = true)) (hr : rOK (aX σ) nV) (hV : σ 18 (nI 6) = nI nV) (hV40 : nV ≤ 40) {Q : Option Int32 → tSt → Prop} (kk : ∀ ρ, tmR σ ρ g nV → TT mX0_takeMoversOff 73 [.ref 21, .null] [] ρ Q) : ∀ (f i : Nat) (ρ : tSt), i + f = nV → tmR σ ρ g i → TT mX0_takeMoversOff 9 [.ref 21, .int (nI i)] [] ρ Q := by
  intro f
  induction f with
  | zero =>
    intro i ρ hi hL
    have hVρ : ρ 18 (nI 6) = nI nV := by rw [hL.1 18 (by decide) (by decide) (by decide) (by decide)]; exact hV
    have ei : i = nV := by omega
    subst ei
    refine tr_iload_n eX0_takeMoversOff_9 rfl ?_
    refine tr_aload_n eX0_takeMoversOff_10 rfl ?_
    refine tr_getR eX0_takeMoversOff_11 fk_X0_25 rfl rfl ?_
    refine tr_getI eX0_takeMoversOff_14 fk_X0_102 rfl rfl ?_
    refine tr_icmp_ge eX0_takeMoversOff_17 (fun h17 => ?_) (fun h17 => ?_)
    · skip
      exact TT.fg [1] (kk ρ hL)
    · skip
      exact absurd (lt_of hVρ (by omega) (by omega) h17) (by omega)
  | succ f ih =>
    intro i ρ hi hL
    have hVρ : ρ 18 (nI 6) = nI nV := by rw [hL.1 18 (by decide) (by decide) (by decide) (by decide)]; exact hV
    have hin : vp_in (nI i) 40 := vp_in_nI (by omega) (by decide)
    obtain ⟨n, hni, hn, hmem⟩ := tmR_n hL (by omega)
    have h26 : ρ 26 (nI i) = bi (g (nI i) = true) := by rw [hL.1 26 (by decide) (by decide) (by decide) (by decide)]; exact hg i (by omega)
    have h00 : vp_in (nI 0) 8 := vp_in_nI (by decide) (by decide)
    refine tr_iload_n eX0_takeMoversOff_9 rfl ?_
    refine tr_aload_n eX0_takeMoversOff_10 rfl ?_
    refine tr_getR eX0_takeMoversOff_11 fk_X0_25 rfl rfl ?_
    refine tr_getI eX0_takeMoversOff_14 fk_X0_102 rfl rfl ?_
    refine tr_icmp_ge eX0_takeMoversOff_17 (fun h17 => ?_) (fun h17 => ?_)
    · skip
      exact absurd (ge_of hVρ (by omega) (by omega) h17) (by omega)
    · skip
      refine tr_aload_n eX0_takeMoversOff_20 rfl ?_
      refine tr_getR eX0_takeMoversOff_21 fk_X0_29 rfl rfl ?_
      refine tr_getR eX0_takeMoversOff_24 fk_X0_105 rfl rfl ?_
      refine tr_iload_n eX0_takeMoversOff_27 rfl ?_
      refine tr_zald eX0_takeMoversOff_28 rfl (by first | with_reducible assumption | with_reducible exact in_slot (by with_reducible assumption) (by with_reducible assumption) | with_reducible exact in_row _ (by decide) (by with_reducible assumption) | with_reducible exact in_row0 (by with_reducible assumption) | with_reducible exact in_slot0 (by with_reducible assumption) | (simp (disch := decide) only [up_k, up_s, up_f] <;> with_reducible assumption)) ?_
      rw [h26]
      refine tr_if_eq eX0_takeMoversOff_29 (fun h29 => ?_) (fun h29 => ?_)
      · skip
        try first | replace h29 := bi_0 h29 | replace h29 := bi_n h29
        refine tr_iinc eX0_takeMoversOff_67 _ (by first | with_reducible exact inc_n _ | with_reducible exact ix_s _ _ | with_reducible rfl) rfl (by decide) rfl ?_
        refine tr_goto eX0_takeMoversOff_70 ?_
        exact ih (i + 1) ρ (by omega) (tmR_skip hgI hV40 (by omega) hL h29)
      · skip
        try first | replace h29 := bi_0 h29 | replace h29 := bi_n h29
        refine tr_aload_n eX0_takeMoversOff_32 rfl ?_
        refine tr_getR eX0_takeMoversOff_33 fk_X0_12 rfl rfl ?_
        refine tr_iload_n eX0_takeMoversOff_36 rfl ?_
        refine tr_aload_n eX0_takeMoversOff_37 rfl ?_
        refine tr_getR eX0_takeMoversOff_38 fk_X0_25 rfl rfl ?_
        refine tr_cv2 (r0 := none) (σ1 := fun _ _ => 0) eX0_takeMoversOff_41 zv_X3_joinByIn zi_X3_joinByIn lk_X0_109 ⟨rfl, by decide, by decide⟩ rfl rfl rfl (k_X3_joinByIn (j := 32) (by decide) (by decide) (by decide) rfl rfl hin hn (by omega) hmem) (fun r' τ hq => ?_)
        try simp (disch := decide) only [up_k, up_s, up_f, s_set_0]
        obtain ⟨rfl, c1, c2, c3, c4⟩ := hq
        have e13 : τ 13 (nI i * nI 8 + nI 0) = σ 13 (nI i * nI 8) := by rw [add_n0, c1 13 (by decide) (by decide), hL.1 13 (by decide) (by decide) (by decide) (by decide)]
        refine tr_aload_n eX0_takeMoversOff_44 rfl ?_
        refine tr_getR eX0_takeMoversOff_45 fk_X0_21 rfl rfl ?_
        refine tr_iload_n eX0_takeMoversOff_48 rfl ?_
        refine tr_aload_n eX0_takeMoversOff_49 rfl ?_
        refine tr_getR eX0_takeMoversOff_50 fk_X0_25 rfl rfl ?_
        refine tr_iload_n eX0_takeMoversOff_53 rfl ?_
        refine tr_iconst eX0_takeMoversOff_54 (nI 0) ci_0 ?_
        refine tr_ce2 eX0_takeMoversOff_55 zv_X5_standOf zi_X5_standOf lk_X0_38 ⟨rfl, by decide, by decide⟩ rfl rfl rfl (k_X5_standOf hin h00) ?_
        try simp (disch := decide) only [up_k, up_s, up_f, s_set_0]
        rw [e13]
        refine tr_iast eX0_takeMoversOff_58 rfl (by first | with_reducible assumption | with_reducible exact in_slot (by with_reducible assumption) (by with_reducible assumption) | with_reducible exact in_row _ (by decide) (by with_reducible assumption) | with_reducible exact in_row0 (by with_reducible assumption) | with_reducible exact in_slot0 (by with_reducible assumption) | (simp (disch := decide) only [up_k, up_s, up_f] <;> with_reducible assumption)) ?_
        refine tr_aload_n eX0_takeMoversOff_59 rfl ?_
        refine tr_getR eX0_takeMoversOff_60 fk_X0_25 rfl rfl ?_
        refine tr_iload_n eX0_takeMoversOff_63 rfl ?_
        refine tr_ce1 eX0_takeMoversOff_64 zv_X5_takeOff zi_X5_takeOff lk_X0_113 ⟨rfl, by decide, by decide⟩ rfl rfl rfl (k_X5_takeOff hin) ?_
        try simp (disch := decide) only [up_k, up_s, up_f, s_set_0]
        refine tr_iinc eX0_takeMoversOff_67 _ (by first | with_reducible exact inc_n _ | with_reducible exact ix_s _ _ | with_reducible rfl) rfl (by decide) rfl ?_
        refine tr_goto eX0_takeMoversOff_70 ?_
        exact ih (i + 1) _ (by omega) (tmR_join hgI hV40 (by omega) hL hr h29 hn (by omega) c1 c3 c4)
theorem k_X0_takeMoversOff {σ : tSt} {nV : Nat} {v : Int32} {g : Int32 → Bool} (hgI : gIn nV v g) (hg : ∀ u : Nat, u < 40 → σ 26 (nI u) = bi (g (nI u) = true)) (hr : rOK (aX σ) nV) (hV : σ 18 (nI 6) = nI nV) (hV40 : nV ≤ 40) : CT mX0_takeMoversOff [.ref 21] σ (fun r ρ => r = none ∧ aX ρ = vd g (aX σ) ∧ aw0 ρ ∧ LNS (ρ 32) (sl (aX σ) g nV) ∧ ρ 24 (nI 1) = nI (sl (aX σ) g nV).length ∧ ∀ x ∈ sl (aX σ) g nV, ρ 29 (nI x) = σ 13 (nI x * nI 8)) := by
  refine CT.of2 1 (by decide) rfl rfl ?_
  refine tr_aload_n eX0_takeMoversOff_0 rfl ?_
  refine tr_getR eX0_takeMoversOff_1 fk_X0_12 rfl rfl ?_
  refine tr_ce0 eX0_takeMoversOff_4 zv_X3_empty zi_X3_empty lk_X0_79 ⟨rfl, by decide, by decide⟩ rfl rfl rfl (k_X3_empty (j := 32) rfl) ?_
  try simp (disch := decide) only [up_k, up_s, up_f, s_set_0]
  refine tr_iconst eX0_takeMoversOff_7 (nI 0) ci_0 ?_
  refine tr_istore_n eX0_takeMoversOff_8 (by decide) rfl ?_
  refine lp_X0_tmo_9 (σ := σ) hgI hg hr hV hV40 (fun ρ hL => ?_) nV 0 _ (by omega) ⟨fun k a b c d => up_k b, by rw [aX_s _ (by decide), gi_0 hgI hV40, vd_0], [], fun q hq => absurd hq (by simp), by simp [SR], by rw [up_s]; rfl, fun x => by simp, fun x hx => absurd hx (by simp)⟩
  obtain ⟨a1, a0, l, a2, a3, a4, a5, a6⟩ := hL
  have e := sl_of hV40 a3 a5
  subst e
  rw [gi_end hgI hV40] at a0
  refine tr_aload_n eX0_takeMoversOff_73 rfl ?_
  refine tr_getR eX0_takeMoversOff_74 fk_X0_29 rfl rfl ?_
  refine tr_cv0 (r0 := none) (σ1 := fun _ _ => 0) eX0_takeMoversOff_77 zv_X2_callAllBack zi_X2_callAllBack lk_X0_66 ⟨rfl, by decide, by decide⟩ rfl rfl rfl k_X2_callAllBack (fun r' ω hq => ?_)
  try simp (disch := decide) only [up_k, up_s, up_f, s_set_0]
  obtain ⟨rfl, b1, b2⟩ := hq
  refine tr_vret eX0_takeMoversOff_80 rfl ?_
  refine ⟨rfl, ?_, b2, by rw [b1 32 (by decide)]; exact a2, by rw [b1 24 (by decide)]; exact a4, fun x hx => by rw [b1 29 (by decide)]; exact a6 x hx⟩
  rw [← a0]
  exact aX_offG (fun k hk => b1 k (by omega))

