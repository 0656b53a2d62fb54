theorem put_eq {σ ρ : tSt} (h : ρ 12 = σ 12) (v : Int32) : s_put ρ v = s_put σ v := by unfold s_put; rw [h]
theorem unk_eq {σ ρ : tSt} (h : ρ 11 = σ 11) (v : Int32) : s_unk ρ v = s_unk σ v := by unfold s_unk; rw [h]
theorem in_eq {σ ρ : tSt} (h : ρ 10 = σ 10) (v : Int32) : s_in ρ v = s_in σ v := by unfold s_in; rw [h]
theorem out_eq {σ ρ : tSt} (h : ρ 10 = σ 10) (h2 : ρ 11 = σ 11) (v : Int32) : s_out ρ v = s_out σ v := by unfold s_out; rw [h, h2]
theorem come_eq {σ ρ : tSt} (h : ρ 10 = σ 10) (h2 : ρ 11 = σ 11) (h3 : ρ 12 = σ 12) (n v : Int32) : s_come ρ n v = s_come σ n v := by simp only [s_come, s_beg, put_eq h3, unk_eq h2, in_eq h]
theorem wait_eq {σ ρ : tSt} (h : ρ 10 = σ 10) (h2 : ρ 11 = σ 11) (h3 : ρ 12 = σ 12) (n v : Int32) : s_wait ρ n v = s_wait σ n v := by simp only [s_wait, s_beg, put_eq h3, unk_eq h2, in_eq h, out_eq h h2]
theorem rOK_in {μ : tSt} {nV u : Nat} (h : rOK μ nV) (hu : u < nV) : ∃ a : Nat, s_in μ (nI u) = nI a ∧ a ≤ 2880 := by
  obtain ⟨a, b, e1, _, h3, h4⟩ := h.io hu
  exact ⟨a, e1, by omega⟩
theorem join_list {μ : tSt} {g g' : Int32 → Int32} {l : List Nat} {u nV : Nat} (hr : rOK μ nV) (hV40 : nV ≤ 40) (hu : u < nV) (hl : LNS g l) (hS : SR μ l) (hlu : ∀ x ∈ l, x < u)
    (h : ∃ p, p ≤ l.length ∧ (∀ q, q < p → g' (nI q) = g (nI q)) ∧ g' (nI p) = nI u ∧ (∀ q, p < q → q ≤ l.length → g' (nI q) = g (nI (q - 1))) ∧ (∀ q, p ≤ q → q < l.length → s_in μ (nI u) < s_in μ (g (nI q))) ∧ (0 < p → ¬ s_in μ (nI u) < s_in μ (g (nI (p - 1))))) :
    ∃ l', LNS g' l' ∧ SR μ l' ∧ l'.length = l.length + 1 ∧ ∀ x, x ∈ l' ↔ x = u ∨ x ∈ l := by
  obtain ⟨p, hp, h1, h2, h3, h4, h5⟩ := h
  have hlen : l.length ≤ u := SR_len hS hlu
  obtain ⟨b, eb, hb⟩ := rOK_in hr hu
  refine line_step hl hS (by omega) (fun q => absurd (hlu u q) (by omega)) hp h1 h2 h3 (fun q hq hpq => ?_) (fun h0 hq => ?_) (fun x hx e => kx_inj (by have := hlu x hx; omega) (by omega) e)
  · have hx := hlu _ (List.getElem_mem hq)
    obtain ⟨a, ea, ha⟩ := rOK_in hr (u := l[q]) (by omega)
    have := h4 q hpq hq
    rw [hl q hq] at this
    exact (kx_lt ea eb ha hb (by omega) (by omega)).mpr (Or.inl this)
  · have hx := hlu _ (List.getElem_mem hq)
    obtain ⟨a, ea, ha⟩ := rOK_in hr (u := l[p - 1]) (by omega)
    have := h5 h0
    rw [hl (p - 1) hq] at this
    intro q
    rcases (kx_lt ea eb ha hb (by omega) (by omega)).mp q with q | ⟨_, q⟩
    · exact this q
    · have := (nI_ltI (by omega) (by omega)).mp q
      omega
theorem lines_list {μ : tSt} {g g' : Int32 → Int32} {l : List Nat} {u nV : Nat} (hr : rOK μ nV) (hV40 : nV ≤ 40) (hu : u < nV) (hl : LNS g l) (hS : SR μ l) (hlV : ∀ x ∈ l, x < nV) (hul : u ∉ l) (hlen : l.length < 40)
    (h : ∃ p, p ≤ l.length ∧ (∀ q, q < p → g' (nI q) = g (nI q)) ∧ g' (nI p) = nI u ∧ (∀ q, p < q → q ≤ l.length → g' (nI q) = g (nI (q - 1))) ∧ (∀ q, p ≤ q → q < l.length → (s_in μ (nI u) < s_in μ (g (nI q)) ∨ (s_in μ (g (nI q)) = s_in μ (nI u) ∧ nI u < g (nI q)))) ∧ (0 < p → ¬ (s_in μ (nI u) < s_in μ (g (nI (p - 1))) ∨ (s_in μ (g (nI (p - 1))) = s_in μ (nI u) ∧ nI u < g (nI (p - 1)))))) :
    ∃ l', LNS g' l' ∧ SR μ l' ∧ l'.length = l.length + 1 ∧ ∀ x, x ∈ l' ↔ x = u ∨ x ∈ l := by
  obtain ⟨p, hp, h1, h2, h3, h4, h5⟩ := h
  obtain ⟨b, eb, hb⟩ := rOK_in hr hu
  refine line_step hl hS hlen hul hp h1 h2 h3 (fun q hq hpq => ?_) (fun h0 hq => ?_) (fun x hx e => kx_inj (by have := hlV x hx; omega) (by omega) e)
  · have hx := hlV _ (List.getElem_mem hq)
    obtain ⟨a, ea, ha⟩ := rOK_in hr (u := l[q]) (by omega)
    have := h4 q hpq hq
    rw [hl q hq] at this
    exact (kx_lt ea eb ha hb (by omega) (by omega)).mpr this
  · have hx := hlV _ (List.getElem_mem hq)
    obtain ⟨a, ea, ha⟩ := rOK_in hr (u := l[p - 1]) (by omega)
    have := h5 h0
    rw [hl (p - 1) hq] at this
    exact fun q => this ((kx_lt ea eb ha hb (by omega) (by omega)).mp q)
theorem aX_off2 {σ ρ : tSt} (h : ∀ k, k ≠ 30 → k ≠ 22 → ρ k = σ k) : aX ρ = aX σ := by
  funext k i
  simp only [aX]
  rw [h 17 (by decide) (by decide), h 18 (by decide) (by decide), h 0 (by decide) (by decide), h 25 (by decide) (by decide)]
  by_cases hk : k = 0
  · rw [if_pos hk, if_pos hk]
  · rw [if_neg hk, if_neg hk]
    by_cases h16 : k ≤ 16
    · rw [if_pos h16, if_pos h16, h k (by omega) (by omega)]
    · rw [if_neg h16, if_neg h16]
def lSt (σ ρ : tSt) (P : Int32 → Bool) (i : Nat) : Prop := (∀ k, k ≠ 30 → k ≠ 22 → ρ k = σ k) ∧ ∃ l, LNS (ρ 30) l ∧ SR (aX σ) l ∧ ρ 22 (nI 1) = nI l.length ∧ ∀ x, x ∈ l ↔ x < i ∧ P (nI x) = true
theorem lSt_skip {σ ρ : tSt} {P : Int32 → Bool} {i : Nat} (h : lSt σ ρ P i) (hp : ¬ P (nI i) = true) : lSt σ ρ P (i + 1) := by
  obtain ⟨h1, l, h2, h3, h4, h5⟩ := h
  refine ⟨h1, l, h2, h3, h4, fun x => ?_⟩
  rw [h5]
  constructor
  · rintro ⟨a, b⟩; exact ⟨by omega, b⟩
  · rintro ⟨a, b⟩
    refine ⟨?_, b⟩
    rcases Nat.lt_or_ge x i with q | q
    · exact q
    · rw [show x = i by omega] at b; exact absurd b hp
theorem lSt_join {σ ρ τ : tSt} {P : Int32 → Bool} {i nV n : Nat} (h : lSt σ ρ P i) (hr : rOK (aX σ) nV) (hV40 : nV ≤ 40) (hi : i < nV) (hp : P (nI i) = true) (hn : ρ 22 (nI 1) = nI n) (hn40 : n < 40) (h1 : ∀ c, c ≠ 30 → c ≠ 22 → τ c = ρ c) (h2 : τ 22 (nI 1) = nI (n + 1))
    (h3 : ∃ p, p ≤ n ∧ (∀ q, q < p → τ 30 (nI q) = ρ 30 (nI q)) ∧ τ 30 (nI p) = nI i ∧ (∀ q, p < q → q ≤ n → τ 30 (nI q) = ρ 30 (nI (q - 1))) ∧ (∀ q, p ≤ q → q < n → s_in ρ (nI i) < s_in ρ (ρ 30 (nI q))) ∧ (0 < p → ¬ s_in ρ (nI i) < s_in ρ (ρ 30 (nI (p - 1))))) : lSt σ τ P (i + 1) := by
  obtain ⟨a1, l, a2, a3, a4, a5⟩ := h
  have hlu : ∀ x ∈ l, x < i := fun x hx => ((a5 x).mp hx).1
  have hlen := SR_len a3 hlu
  have en : n = l.length := nI_inj (by omega) (by omega) (hn.symm.trans a4)
  subst en
  have hin : ∀ x, s_in ρ x = s_in (aX σ) x := fun x => by rw [s_in_aX, s_in, a1 10 (by decide) (by decide)]; rfl
  simp only [hin] at h3
  obtain ⟨l', b1, b2, b3, b4⟩ := join_list hr hV40 hi a2 a3 hlu h3
  refine ⟨fun k x y => by rw [h1 k x y]; exact a1 k x y, l', b1, b2, by rw [h2, b3], fun x => ?_⟩
  rw [b4, a5]
  constructor
  · rintro (rfl | ⟨x1, x2⟩)
    · exact ⟨by omega, hp⟩
    · exact ⟨by omega, x2⟩
  · rintro ⟨x1, x2⟩
    by_cases hx : x = i
    · exact Or.inl hx
    · exact Or.inr ⟨by omega, x2⟩
theorem lSt_n {σ ρ : tSt} {P : Int32 → Bool} {i : Nat} (h : lSt σ ρ P i) (hi : i ≤ 40) : ∃ n, n ≤ i ∧ ρ 22 (nI 1) = nI n ∧ ∀ q, q < n → vp_in (ρ 30 (nI q)) 40 := by
  obtain ⟨a1, l, a2, a3, a4, a5⟩ := h
  have hlu : ∀ x ∈ l, x < i := fun x hx => ((a5 x).mp hx).1
  exact ⟨l.length, SR_len a3 hlu, a4, LNS_v a2 (fun x hx => by have := hlu x hx; omega) (by decide)⟩
theorem lp_X6_plan_9 {σ : tSt} {nV : Nat} (hr : rOK (aX σ) nV) (hV : σ 18 (nI 6) = nI nV) (hV40 : nV ≤ 40) {Q : Option Int32 → tSt → Prop} (kk : ∀ ρ, lSt σ ρ (fun v => s_come σ (σ 18 (nI 7)) v) nV → TT mX6_plan 49 [.ref 0, .null] [] ρ Q) : ∀ (f i : Nat) (ρ : tSt), i + f = nV → lSt σ ρ (fun v => s_come σ (σ 18 (nI 7)) v) i → TT mX6_plan 9 [.ref 0, .int (nI i)] [] ρ Q := by
  intro f
  induction f with
  | zero =>
    intro i ρ hi hL
    have hVρ : ρ 18 (nI 6) = nI nV := by rw [hL.1 18 (by decide) (by decide)]; exact hV
    have ei : i = nV := by omega
    subst ei
    refine tr_iload_n eX6_plan_9 rfl ?_
    refine tr_aload_n eX6_plan_10 rfl ?_
    refine tr_getR eX6_plan_11 fk_X6_19 rfl rfl ?_
    refine tr_getI eX6_plan_14 fk_X6_124 rfl rfl ?_
    refine tr_icmp_ge eX6_plan_17 (fun h17 => ?_) (fun h17 => ?_)
    · skip
      exact TT.fg [1] (kk ρ hL)
    · skip
      exact absurd (lt_of hVρ (by omega) (by omega) h17) (by omega)
  | succ f ih =>
    intro i ρ hi hL
    have hVρ : ρ 18 (nI 6) = nI nV := by rw [hL.1 18 (by decide) (by decide)]; exact hV
    have hin : vp_in (nI i) 40 := vp_in_nI (by omega) (by decide)
    obtain ⟨n, hni, hn, hmem⟩ := lSt_n hL (by omega)
    have e18 : ρ 18 = σ 18 := hL.1 18 (by decide) (by decide)
    have hPi : s_come ρ (ρ 18 (nI 7)) (nI i) = (fun v => s_come σ (σ 18 (nI 7)) v) (nI i) := by
      show _ = s_come σ (σ 18 (nI 7)) (nI i)
      rw [e18]
      exact come_eq (hL.1 10 (by decide) (by decide)) (hL.1 11 (by decide) (by decide)) (hL.1 12 (by decide) (by decide)) _ _
    refine tr_iload_n eX6_plan_9 rfl ?_
    refine tr_aload_n eX6_plan_10 rfl ?_
    refine tr_getR eX6_plan_11 fk_X6_19 rfl rfl ?_
    refine tr_getI eX6_plan_14 fk_X6_124 rfl rfl ?_
    refine tr_icmp_ge eX6_plan_17 (fun h17 => ?_) (fun h17 => ?_)
    · skip
      exact absurd (ge_of hVρ (by omega) (by omega) h17) (by omega)
    · skip
      refine tr_aload_n eX6_plan_20 rfl ?_
      refine tr_getR eX6_plan_21 fk_X6_19 rfl rfl ?_
      refine tr_iload_n eX6_plan_24 rfl ?_
      refine tr_ce1 eX6_plan_25 zv_X5_isToCome zi_X5_isToCome lk_X6_183 ⟨rfl, by decide, by decide⟩ rfl rfl rfl (k_X5_isToCome (by first | with_reducible assumption | with_reducible exact in_slot (by with_reducible assumption) (by with_reducible assumption) | with_reducible exact in_row _ (by decide) (by with_reducible assumption) | with_reducible exact in_row0 (by with_reducible assumption) | with_reducible exact in_slot0 (by with_reducible assumption) | (simp (disch := decide) only [up_k, up_s, up_f] <;> with_reducible assumption))) ?_
      refine tr_if_eq eX6_plan_28 (fun h28 => ?_) (fun h28 => ?_)
      · skip
        try first | replace h28 := bi_0 h28 | replace h28 := bi_n h28
        rw [hPi] at h28
        refine tr_iinc eX6_plan_43 _ (by first | with_reducible exact inc_n _ | with_reducible exact ix_s _ _ | with_reducible rfl) rfl (by decide) rfl ?_
        refine tr_goto eX6_plan_46 ?_
        exact ih (i + 1) ρ (by omega) (lSt_skip hL h28)
      · skip
        try first | replace h28 := bi_0 h28 | replace h28 := bi_n h28
        rw [hPi] at h28
        refine tr_aload_n eX6_plan_31 rfl ?_
        refine tr_getR eX6_plan_32 fk_X6_53 rfl rfl ?_
        refine tr_iload_n eX6_plan_35 rfl ?_
        refine tr_aload_n eX6_plan_36 rfl ?_
        refine tr_getR eX6_plan_37 fk_X6_19 rfl rfl ?_
        refine tr_cv2 (r0 := none) (σ1 := fun _ _ => 0) eX6_plan_40 zv_X3_joinByIn zi_X3_joinByIn lk_X6_186 ⟨rfl, by decide, by decide⟩ rfl rfl rfl (k_X3_joinByIn (j := 30) (by decide) (by decide) (by decide) rfl rfl hin hn (by omega) hmem) (fun r' τ hq => ?_)
        try simp (disch := decide) only [up_k, up_s, up_f, s_set_0]
        obtain ⟨rfl, c1, c2, c3, c4⟩ := hq
        refine tr_iinc eX6_plan_43 _ (by first | with_reducible exact inc_n _ | with_reducible exact ix_s _ _ | with_reducible rfl) rfl (by decide) rfl ?_
        refine tr_goto eX6_plan_46 ?_
        exact ih (i + 1) τ (by omega) (lSt_join hL hr hV40 (by omega) h28 hn (by omega) c1 c3 c4)
theorem lp_X6_now_40 {σ : tSt} {nV : Nat} {m : Int32} (hr : rOK (aX σ) nV) (hV : σ 18 (nI 6) = nI nV) (hV40 : nV ≤ 40) {Q : Option Int32 → tSt → Prop} (kk : ∀ ρ, lSt σ ρ (fun v => s_wait σ (σ 18 (nI 7)) v) nV → TT mX6_now 80 [.ref 0, .int m, .null] [] ρ Q) : ∀ (f i : Nat) (ρ : tSt), i + f = nV → lSt σ ρ (fun v => s_wait σ (σ 18 (nI 7)) v) i → TT mX6_now 40 [.ref 0, .int m, .int (nI i)] [] ρ Q := by
  intro f
  induction f with
  | zero =>
    intro i ρ hi hL
    have hVρ : ρ 18 (nI 6) = nI nV := by rw [hL.1 18 (by decide) (by decide)]; exact hV
    have ei : i = nV := by omega
    subst ei
    refine tr_iload_n eX6_now_40 rfl ?_
    refine tr_aload_n eX6_now_41 rfl ?_
    refine tr_getR eX6_now_42 fk_X6_19 rfl rfl ?_
    refine tr_getI eX6_now_45 fk_X6_124 rfl rfl ?_
    refine tr_icmp_ge eX6_now_48 (fun h48 => ?_) (fun h48 => ?_)
    · skip
      exact TT.fg [2] (kk ρ hL)
    · skip
      exact absurd (lt_of hVρ (by omega) (by omega) h48) (by omega)
  | succ f ih =>
    intro i ρ hi hL
    have hVρ : ρ 18 (nI 6) = nI nV := by rw [hL.1 18 (by decide) (by decide)]; exact hV
    have hin : vp_in (nI i) 40 := vp_in_nI (by omega) (by decide)
    obtain ⟨n, hni, hn, hmem⟩ := lSt_n hL (by omega)
    have e18 : ρ 18 = σ 18 := hL.1 18 (by decide) (by decide)
    have hPi : s_wait ρ (ρ 18 (nI 7)) (nI i) = (fun v => s_wait σ (σ 18 (nI 7)) v) (nI i) := by
      show _ = s_wait σ (σ 18 (nI 7)) (nI i)
      rw [e18]
      exact wait_eq (hL.1 10 (by decide) (by decide)) (hL.1 11 (by decide) (by decide)) (hL.1 12 (by decide) (by decide)) _ _
    refine tr_iload_n eX6_now_40 rfl ?_
    refine tr_aload_n eX6_now_41 rfl ?_
    refine tr_getR eX6_now_42 fk_X6_19 rfl rfl ?_
    refine tr_getI eX6_now_45 fk_X6_124 rfl rfl ?_
    refine tr_icmp_ge eX6_now_48 (fun h48 => ?_) (fun h48 => ?_)
    · skip
      exact absurd (ge_of hVρ (by omega) (by omega) h48) (by omega)
    · skip
      refine tr_aload_n eX6_now_51 rfl ?_
      refine tr_getR eX6_now_52 fk_X6_19 rfl rfl ?_
      refine tr_iload_n eX6_now_55 rfl ?_
      refine tr_ce1 eX6_now_56 zv_X5_isWaiting zi_X5_isWaiting lk_X6_227 ⟨rfl, by decide, by decide⟩ rfl rfl rfl (k_X5_isWaiting (by first | with_reducible assumption | with_reducible exact in_slot (by with_reducible assumption) (by with_reducible assumption) | with_reducible exact in_row _ (by decide) (by with_reducible assumption) | with_reducible exact in_row0 (by with_reducible assumption) | with_reducible exact in_slot0 (by with_reducible assumption) | (simp (disch := decide) only [up_k, up_s, up_f] <;> with_reducible assumption))) ?_
      refine tr_if_eq eX6_now_59 (fun h59 => ?_) (fun h59 => ?_)
      · skip
        try first | replace h59 := bi_0 h59 | replace h59 := bi_n h59
        rw [hPi] at h59
        refine tr_iinc eX6_now_74 _ (by first | with_reducible exact inc_n _ | with_reducible exact ix_s _ _ | with_reducible rfl) rfl (by decide) rfl ?_
        refine tr_goto eX6_now_77 ?_
        exact ih (i + 1) ρ (by omega) (lSt_skip hL h59)
      · skip
        try first | replace h59 := bi_0 h59 | replace h59 := bi_n h59
        rw [hPi] at h59
        refine tr_aload_n eX6_now_62 rfl ?_
        refine tr_getR eX6_now_63 fk_X6_53 rfl rfl ?_
        refine tr_iload_n eX6_now_66 rfl ?_
        refine tr_aload_n eX6_now_67 rfl ?_
        refine tr_getR eX6_now_68 fk_X6_19 rfl rfl ?_
        refine tr_cv2 (r0 := none) (σ1 := fun _ _ => 0) eX6_now_71 zv_X3_joinByIn zi_X3_joinByIn lk_X6_186 ⟨rfl, by decide, by decide⟩ rfl rfl rfl (k_X3_joinByIn (j := 30) (by decide) (by decide) (by decide) rfl rfl hin hn (by omega) hmem) (fun r' τ hq => ?_)
        try simp (disch := decide) only [up_k, up_s, up_f, s_set_0]
        obtain ⟨rfl, c1, c2, c3, c4⟩ := hq
        refine tr_iinc eX6_now_74 _ (by first | with_reducible exact inc_n _ | with_reducible exact ix_s _ _ | with_reducible rfl) rfl (by decide) rfl ?_
        refine tr_goto eX6_now_77 ?_
        exact ih (i + 1) τ (by omega) (lSt_join hL hr hV40 (by omega) h59 hn (by omega) c1 c3 c4)
def l_plan (μ : tSt) : List Nat := sl μ (fun v => s_come μ (μ 0 (nI 4)) v) (tn (μ 0 (nI 3)))
def l_wait (μ : tSt) : List Nat := sl μ (fun v => s_wait μ (μ 0 (nI 4)) v) (tn (μ 0 (nI 3)))
def s_planp (μ : tSt) : Int32 × tSt := s_gr (s_srv (μ 0 (nI 4)) (l_plan μ) μ).2 (nI ((l_plan μ).length - (s_srv (μ 0 (nI 4)) (l_plan μ) μ).1))
def s_nowp (μ : tSt) (m : Int32) : Int32 × tSt := if ¬ s_wi m (μ 0 (nI 4)) (nI 2879) then s_rf μ (nI 3) else s_gr (s_srv m (l_wait (up μ 0 (nI 4) m)) (up μ 0 (nI 4) m)).2 (nI (s_srv m (l_wait (up μ 0 (nI 4) m)) (up μ 0 (nI 4) m)).1)
theorem cand_come {μ : tSt} {nS nP nC nV v : Nat} (h : iA μ nS nP nC nV) (hv : v < nV) (hc : s_come μ (μ 0 (nI 4)) (nI v) = true) : cand μ (μ 0 (nI 4)) nV v ∧ s_mx (s_in μ (nI v)) (μ 0 (nI 4)) = s_in μ (nI v) := by
  obtain ⟨a, b, e1, e2, h3, h4⟩ := h.2.2.1.1.io hv
  simp only [s_come, s_beg, s_unk, Bool.and_eq_true, Bool.not_eq_true', Bool.and_eq_false_iff, decide_eq_false_iff_not, Bool.not_eq_false', decide_eq_true_eq] at hc
  have hu : nI 2 < μ 11 (nI v) := n_not hc.1.2
  have hin : μ 0 (nI 4) < s_in μ (nI v) := by
    rcases hc.2 with q | q
    · exact absurd hu q
    · exact n_not q
  have em : s_mx (s_in μ (nI v)) (μ 0 (nI 4)) = s_in μ (nI v) := by rw [s_mx, if_neg (i32_asymm hin)]
  exact ⟨⟨hv, hu, a, b, by rw [em, e1], e2, h3, h4⟩, em⟩
theorem cand_wait {μ : tSt} {nS nP nC nV v : Nat} (h : iA μ nS nP nC nV) (hv : v < nV) (hc : s_wait μ (μ 0 (nI 4)) (nI v) = true) : cand μ (μ 0 (nI 4)) nV v ∧ s_mx (s_in μ (nI v)) (μ 0 (nI 4)) = μ 0 (nI 4) := by
  obtain ⟨a, b, e1, e2, h3, h4⟩ := h.2.2.1.1.io hv
  obtain ⟨t, ht, et⟩ := h.2.2.2.2.1.1
  simp only [s_wait, s_beg, s_unk, Bool.and_eq_true, Bool.not_eq_true', decide_eq_false_iff_not, decide_eq_true_eq] at hc
  have hu : nI 2 < μ 11 (nI v) := n_not hc.1.2.1
  have em : s_mx (s_in μ (nI v)) (μ 0 (nI 4)) = μ 0 (nI 4) := by
    rw [s_mx]
    split
    · rfl
    · rename_i q
      rcases i32_tri (s_in μ (nI v)) (μ 0 (nI 4)) with w | w | w
      · exact absurd w q
      · exact w
      · exact absurd w hc.1.2.2
  refine ⟨⟨hv, hu, t, b, by rw [em, et], e2, ?_, h4⟩, em⟩
  have := hc.2
  rw [e2, et] at this
  exact Nat.not_le.mp fun q => this ((nI_leI (by omega) (by omega)).mpr q)
theorem lSt_0 {σ ρ : tSt} {P : Int32 → Bool} (h : ∀ k, k ≠ 30 → k ≠ 22 → ρ k = σ k) (h22 : ρ 22 (nI 1) = nI 0) : lSt σ ρ P 0 := ⟨h, [], fun q hq => absurd hq (by simp), by simp [SR], by rw [h22]; rfl, fun x => by simp⟩
theorem lSt_end {σ ρ : tSt} {P : Int32 → Bool} {n : Nat} (h : lSt σ ρ P n) (hn : n ≤ 40) : LNS (ρ 30) (sl (aX σ) P n) ∧ ρ 22 (nI 1) = nI (sl (aX σ) P n).length ∧ (sl (aX σ) P n).length ≤ 40 := by
  obtain ⟨a1, l, a2, a3, a4, a5⟩ := h
  have e := sl_of hn a3 a5
  subst e
  exact ⟨a2, a4, Nat.le_trans (SR_len a3 (fun x hx => ((a5 x).mp hx).1)) hn⟩
theorem sl_congr {μ : tSt} {P R : Int32 → Bool} (h : ∀ v, P v = R v) (n : Nat) : sl μ P n = sl μ R n := by rw [show P = R from funext h]
theorem k_X6_plan {σ : tSt} {nS nP nC nV : Nat} (hI : iA (aX σ) nS nP nC nV) (hz : aw0 σ) : CT mX6_plan [.ref 0] σ (QY (s_planp (aX σ))) := by
  have hI0 := hI.1
  have hS := hI0.1.1
  rw [aX_0] at hS
  have hP := hI0.2.1.1
  rw [aX_1] at hP
  have hC := hI0.2.2.1.1
  rw [aX_2] at hC
  have hV := hI0.2.2.2.1
  rw [aX_3] at hV
  have hS24 := hI0.1.2
  have hP40 := hI0.2.1.2
  have hC20 := hI0.2.2.1.2
  have hV40 := hI0.2.2.2.2
  refine CT.of2 1 (by decide) rfl rfl ?_
  refine tr_aload_n eX6_plan_0 rfl ?_
  refine tr_getR eX6_plan_1 fk_X6_53 rfl rfl ?_
  refine tr_ce0 eX6_plan_4 zv_X3_empty zi_X3_empty lk_X6_180 ⟨rfl, by decide, by decide⟩ rfl rfl rfl (k_X3_empty (j := 30) rfl) ?_
  try simp (disch := decide) only [up_k, up_s, up_f, s_set_0]
  refine tr_iconst eX6_plan_7 (nI 0) ci_0 ?_
  refine tr_istore_n eX6_plan_8 (by decide) rfl ?_
  refine lp_X6_plan_9 (σ := σ) hI.2.2.1.1 hV hV40 (fun ρ hL => ?_) nV 0 _ (by omega) (lSt_0 (fun k a b => up_k b) up_s)
  have el : sl (aX σ) (fun v => s_come σ (σ 18 (nI 7)) v) nV = l_plan (aX σ) := by
    rw [l_plan, tn_of hI0.2.2.2.1 (by omega)]
    exact sl_congr (fun v => by rw [s_come_aX, aX_4]) nV
  have haρ : aX ρ = aX σ := aX_off2 hL.1
  obtain ⟨e1, e2, e3⟩ := lSt_end hL hV40
  rw [el] at e1 e2 e3
  have hzρ : aw0 ρ := fun u hu => by rw [hL.1 26 (by decide) (by decide)]; exact hz u hu
  have hcd : ∀ v ∈ l_plan (aX σ), cand (aX ρ) (aX ρ 0 (nI 4)) nV v := fun v hv => by
    rw [haρ]
    rw [l_plan, tn_of hI0.2.2.2.1 (by omega)] at hv
    obtain ⟨a, b⟩ := mem_sl.mp hv
    exact (cand_come hI a b).1
  have hsv := k_X6_serveLine (by rw [haρ]; exact hI) hzρ e3 e2 e1 hcd
  rw [haρ] at hsv
  refine tr_aload_n eX6_plan_49 rfl ?_
  refine tr_aload_n eX6_plan_50 rfl ?_
  refine tr_getR eX6_plan_51 fk_X6_53 rfl rfl ?_
  refine tr_getI eX6_plan_54 fk_X6_190 rfl rfl ?_
  refine tr_aload_n eX6_plan_57 rfl ?_
  refine tr_cv0 (r0 := none) (σ1 := fun _ _ => 0) eX6_plan_58 zv_X6_serveLine zi_X6_serveLine lk_X6_193 ⟨rfl, by decide, by decide⟩ rfl rfl rfl hsv (fun r' τ hq => ?_)
  try simp (disch := decide) only [up_k, up_s, up_f, s_set_0]
  obtain ⟨rfl, d1, d2, d3⟩ := hq
  rw [e2]
  refine tr_isub eX6_plan_61 ?_
  rw [pk_sub (s_srv_le _ _ _)]
  refine tr_ce1 eX6_plan_62 zv_X6_grant zi_X6_grant lk_X6_85 ⟨rfl, by decide, by decide⟩ rfl rfl rfl k_X6_grant ?_
  try simp (disch := decide) only [up_k, up_s, up_f, s_set_0]
  refine tr_ret eX6_plan_65 rfl rfl ?_
  exact ⟨rfl, by rw [aX_f0_7, d1]; rfl, fun u hu => by rw [up_k (by decide)]; exact d2 u hu⟩

theorem i32_trans_le {a b c : Int32} (h : a < b) (h2 : b ≤ c) : a < c := by
  rw [Int32.lt_iff_toInt_lt] at *
  rw [Int32.le_iff_toInt_le] at h2
  omega
theorem iA_now {μ : tSt} {nS nP nC nV : Nat} {m : Int32} (h : iA μ nS nP nC nV) (hm : s_wi m (μ 0 (nI 4)) (nI 2879)) : iA (up μ 0 (nI 4) m) nS nP nC nV := by
  obtain ⟨t, ht, et⟩ := h.2.2.2.2.1.1
  have h0 : ¬ m < 0 := fun q => hm.1 (by rw [et]; exact i32_trans_le q (nI_pos' (by omega)))
  obtain ⟨j, hj, rfl⟩ := nI_of h0
  have hj2 : j ≤ 2879 := Nat.not_lt.mp fun q => hm.2 ((nI_ltI (by decide) hj).mpr q)
  obtain ⟨⟨a1, a2, a3, a4⟩, b, c, d, ⟨e1, e2, e3⟩, f⟩ := h
  refine ⟨⟨?_, ?_, ?_, ?_⟩, b, c, d, ⟨⟨j, by omega, up_s⟩, ?_, ?_⟩, f⟩
  · rw [up_f (by decide)]; exact a1
  · rw [up_f (by decide)]; exact a2
  · rw [up_f (by decide)]; exact a3
  · rw [up_f (by decide)]; exact a4
  · rw [up_f (by decide)]; exact e2
  · rw [up_f (by decide)]; exact e3
theorem k_X6_now {σ : tSt} {nS nP nC nV : Nat} {m : Int32} (hI : iA (aX σ) nS nP nC nV) (hz : aw0 σ) : CT mX6_now [.ref 0, .int m] σ (QY (s_nowp (aX σ) m)) := by
  have hI0 := hI.1
  have hS := hI0.1.1
  rw [aX_0] at hS
  have hP := hI0.2.1.1
  rw [aX_1] at hP
  have hC := hI0.2.2.1.1
  rw [aX_2] at hC
  have hV := hI0.2.2.2.1
  rw [aX_3] at hV
  have hS24 := hI0.1.2
  have hP40 := hI0.2.1.2
  have hC20 := hI0.2.2.1.2
  have hV40 := hI0.2.2.2.2
  refine CT.of2 1 (by decide) rfl rfl ?_
  refine tr_iload_n eX6_now_0 rfl ?_
  refine tr_aload_n eX6_now_1 rfl ?_
  refine tr_getR eX6_now_2 fk_X6_19 rfl rfl ?_
  refine tr_getI eX6_now_5 fk_X6_224 rfl rfl ?_
  refine tr_sipush eX6_now_8 (nI 2879) (by decide) ?_
  refine tr_se3 eX6_now_11 zv_X6_isWithin zs_X6_isWithin lk_X6_70 ⟨rfl, by decide, by decide⟩ rfl k_X6_isWithin ?_
  refine tr_if_ne eX6_now_14 (fun h14 => ?_) (fun h14 => ?_)
  · skip
    try first | replace h14 := bi_0 h14 | replace h14 := bi_n h14
    refine tr_aload_n eX6_now_23 rfl ?_
    refine tr_getR eX6_now_24 fk_X6_19 rfl rfl ?_
    refine tr_iload_n eX6_now_27 rfl ?_
    refine tr_put eX6_now_28 fp_X6_224 rfl rfl ?_
    refine tr_aload_n eX6_now_31 rfl ?_
    refine tr_getR eX6_now_32 fk_X6_53 rfl rfl ?_
    refine tr_ce0 eX6_now_35 zv_X3_empty zi_X3_empty lk_X6_180 ⟨rfl, by decide, by decide⟩ rfl rfl rfl (k_X3_empty (j := 30) rfl) ?_
    try simp (disch := decide) only [up_k, up_s, up_f, s_set_0]
    refine tr_iconst eX6_now_38 (nI 0) ci_0 ?_
    refine tr_istore_n eX6_now_39 (by decide) rfl ?_
    have ea : aX (up σ 18 (nI 7) m) = up (aX σ) 0 (nI 4) m := aX_f18_7 σ m
    have hI2 : iA (aX (up σ 18 (nI 7) m)) nS nP nC nV := by rw [ea]; exact iA_now hI (by rw [aX_4]; exact h14)
    refine lp_X6_now_40 (σ := (up σ 18 (nI 7) m)) hI2.2.2.1.1 hV hV40 (fun ρ hL => ?_) nV 0 _ (by omega) (lSt_0 (fun k a b => up_k b) up_s)
    have en : aX (up σ 18 (nI 7) m) 0 (nI 4) = m := by rw [ea, up_s]
    have el : sl (aX (up σ 18 (nI 7) m)) (fun v => s_wait (up σ 18 (nI 7) m) ((up σ 18 (nI 7) m) 18 (nI 7)) v) nV = l_wait (up (aX σ) 0 (nI 4) m) := by
      rw [← ea, l_wait, tn_of hI2.1.2.2.2.1 (by omega)]
      exact sl_congr (fun v => by rw [s_wait_aX, aX_4]) nV
    have haρ : aX ρ = up (aX σ) 0 (nI 4) m := (aX_off2 hL.1).trans ea
    obtain ⟨e1, e2, e3⟩ := lSt_end hL hV40
    rw [el] at e1 e2 e3
    have hzρ : aw0 ρ := fun u hu => by rw [hL.1 26 (by decide) (by decide)]; exact hz u hu
    have hcd : ∀ v ∈ l_wait (up (aX σ) 0 (nI 4) m), cand (aX ρ) (aX ρ 0 (nI 4)) nV v := fun v hv => by
      rw [haρ]
      rw [← ea, l_wait, tn_of hI2.1.2.2.2.1 (by omega)] at hv
      obtain ⟨a, b⟩ := mem_sl.mp hv
      rw [← ea]
      exact (cand_wait hI2 a b).1
    have hsv := k_X6_serveLine (by rw [haρ, ← ea]; exact hI2) hzρ e3 e2 e1 hcd
    rw [haρ, up_s] at hsv
    refine tr_aload_n eX6_now_80 rfl ?_
    refine tr_aload_n eX6_now_81 rfl ?_
    refine tr_cv0 (r0 := none) (σ1 := fun _ _ => 0) eX6_now_82 zv_X6_serveLine zi_X6_serveLine lk_X6_193 ⟨rfl, by decide, by decide⟩ rfl rfl rfl hsv (fun r' τ hq => ?_)
    try simp (disch := decide) only [up_k, up_s, up_f, s_set_0]
    obtain ⟨rfl, d1, d2, d3⟩ := hq
    refine tr_ce1 eX6_now_85 zv_X6_grant zi_X6_grant lk_X6_85 ⟨rfl, by decide, by decide⟩ rfl rfl rfl k_X6_grant ?_
    try simp (disch := decide) only [up_k, up_s, up_f, s_set_0]
    refine tr_ret eX6_now_88 rfl rfl ?_
    refine ⟨?_, ?_, fun u hu => by rw [up_k (by decide)]; exact d2 u hu⟩
    · rw [s_nowp, if_neg (by rw [aX_4]; exact fun q => q h14)]; rfl
    · rw [s_nowp, if_neg (by rw [aX_4]; exact fun q => q h14), aX_f0_7, d1]; rfl
  · skip
    try first | replace h14 := bi_0 h14 | replace h14 := bi_n h14
    refine tr_aload_n eX6_now_17 rfl ?_
    refine tr_iconst eX6_now_18 (nI 3) ci_3 ?_
    refine tr_ce1 eX6_now_19 zv_X6_refuse zi_X6_refuse lk_X6_74 ⟨rfl, by decide, by decide⟩ rfl rfl rfl k_X6_refuse ?_
    try simp (disch := decide) only [up_k, up_s, up_f, s_set_0]
    refine tr_ret eX6_now_22 rfl rfl ?_
    refine ⟨?_, ?_, fun u hu => by rw [up_k (by decide)]; exact hz u hu⟩
    · rw [s_nowp, if_pos (by rw [aX_4]; exact h14)]; rfl
    · rw [s_nowp, if_pos (by rw [aX_4]; exact h14), aX_f0_7]; rfl

