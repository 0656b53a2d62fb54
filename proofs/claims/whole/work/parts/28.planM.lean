theorem aM_off {τ ρ : tSt} (h : ∀ k, k ≠ 17 → k ≠ 0 → ρ k = τ k) (h0 : ∀ i, i ≠ nI 26 → ρ 0 i = τ 0 i) : aM ρ = aM τ := by
  funext k i
  simp only [aM]
  rw [h0 (nI 3) (by decide), h0 (nI 4) (by decide), h0 (nI 5) (by decide), h0 (nI 6) (by decide), h0 (nI 8) (by decide), h0 (nI 7) (by decide), h0 (nI 0) (by decide), h0 (nI 1) (by decide), h0 (nI 2) (by decide), h0 (nI 34) (by decide)]
  by_cases hk : k = 0
  · rw [if_pos hk, if_pos hk]
  · rw [if_neg hk, if_neg hk]
    by_cases h16 : k ≤ 16
    · rw [if_pos h16, if_pos h16, h k (by omega) hk]
    · rw [if_neg h16, if_neg h16]
def mSt (τ ρ : tSt) (P : Int32 → Bool) (i : Nat) : Prop := (∀ k, k ≠ 17 → k ≠ 0 → ρ k = τ k) ∧ (∀ i, i ≠ nI 26 → ρ 0 i = τ 0 i) ∧ ∃ l, LNS (ρ 17) l ∧ SR (aM τ) l ∧ ρ 0 (nI 26) = nI l.length ∧ ∀ x, x ∈ l ↔ x < i ∧ P (nI x) = true
theorem mSt_skip {σ ρ : tSt} {P : Int32 → Bool} {i : Nat} (h : mSt σ ρ P i) (hp : ¬ P (nI i) = true) : mSt σ ρ P (i + 1) := by
  obtain ⟨h1, h1', l, h2, h3, h4, h5⟩ := h
  refine ⟨h1, h1', l, h2, h3, h4, fun x => ?_⟩
  rw [h5]
  constructor
  · rintro ⟨a, b⟩; exact ⟨by omega, b⟩
  · rintro ⟨a, b⟩
    refine ⟨?_, b⟩
    rcases Nat.lt_or_ge x i with q | q
    · exact q
    · rw [show x = i by omega] at b; exact absurd b hp
theorem mSt_join {σ ρ τ : tSt} {P : Int32 → Bool} {i nV n : Nat} (h : mSt σ ρ P i) (hr : rOK (aM σ) nV) (hV40 : nV ≤ 40) (hi : i < nV) (hp : P (nI i) = true) (hn : ρ 0 (nI 26) = nI n) (hn40 : n < 40) (h1 : ∀ c, c ≠ 17 → c ≠ 0 → τ c = ρ c) (h1' : ∀ i, i ≠ nI 26 → τ 0 i = ρ 0 i) (h2 : τ 0 (nI 26) = nI (n + 1))
    (h3 : ∃ p, p ≤ n ∧ (∀ q, q < p → τ 17 (nI q) = ρ 17 (nI q)) ∧ τ 17 (nI p) = nI i ∧ (∀ q, p < q → q ≤ n → τ 17 (nI q) = ρ 17 (nI (q - 1))) ∧ (∀ q, p ≤ q → q < n → (s_in ρ (nI i) < s_in ρ (ρ 17 (nI q)) ∨ (s_in ρ (ρ 17 (nI q)) = s_in ρ (nI i) ∧ nI i < ρ 17 (nI q)))) ∧ (0 < p → ¬ (s_in ρ (nI i) < s_in ρ (ρ 17 (nI (p - 1))) ∨ (s_in ρ (ρ 17 (nI (p - 1))) = s_in ρ (nI i) ∧ nI i < ρ 17 (nI (p - 1)))))) : mSt σ τ P (i + 1) := by
  obtain ⟨a1, a1', l, a2, a3, a4, a5⟩ := h
  have hlu : ∀ x ∈ l, x < i := fun x hx => ((a5 x).mp hx).1
  have hlen := SR_len a3 hlu
  have en : n = l.length := nI_inj (by omega) (by omega) (hn.symm.trans a4)
  subst en
  have hin : ∀ x, s_in ρ x = s_in (aM σ) x := fun x => by rw [s_in_aM, s_in, a1 10 (by decide) (by decide)]; rfl
  simp only [hin] at h3
  obtain ⟨l', b1, b2, b3, b4⟩ := lines_list hr hV40 hi a2 a3 (fun x hx => by have := hlu x hx; omega) (fun q => absurd (hlu i q) (by omega)) (by omega) h3
  refine ⟨fun k x y => by rw [h1 k x y]; exact a1 k x y, fun j hj => by rw [h1' j hj]; exact a1' j hj, l', b1, b2, by rw [h2, b3], fun x => ?_⟩
  rw [b4, a5]
  constructor
  · rintro (rfl | ⟨x1, x2⟩)
    · exact ⟨by omega, hp⟩
    · exact ⟨by omega, x2⟩
  · rintro ⟨x1, x2⟩
    by_cases hx : x = i
    · exact Or.inl hx
    · exact Or.inr ⟨by omega, x2⟩
theorem mSt_n {σ ρ : tSt} {P : Int32 → Bool} {i : Nat} (h : mSt σ ρ P i) (hi : i ≤ 40) : ∃ n, n ≤ i ∧ ρ 0 (nI 26) = nI n ∧ ∀ q, q < n → vp_in (ρ 17 (nI q)) 40 := by
  obtain ⟨a1, a1', l, a2, a3, a4, a5⟩ := h
  have hlu : ∀ x ∈ l, x < i := fun x hx => ((a5 x).mp hx).1
  exact ⟨l.length, SR_len a3 hlu, a4, LNS_v a2 (fun x hx => by have := hlu x hx; omega) (by decide)⟩
theorem mSt_0 {σ ρ : tSt} {P : Int32 → Bool} (h : ∀ k, k ≠ 17 → k ≠ 0 → ρ k = σ k) (h' : ∀ i, i ≠ nI 26 → ρ 0 i = σ 0 i) (h22 : ρ 0 (nI 26) = nI 0) : mSt σ ρ P 0 := ⟨h, h', [], fun q hq => absurd hq (by simp), by simp [SR], by rw [h22]; rfl, fun x => by simp⟩
theorem mSt_end {σ ρ : tSt} {P : Int32 → Bool} {n : Nat} (h : mSt σ ρ P n) (hn : n ≤ 40) : LNS (ρ 17) (sl (aM σ) P n) ∧ ρ 0 (nI 26) = nI (sl (aM σ) P n).length ∧ (sl (aM σ) P n).length ≤ 40 := by
  obtain ⟨a1, a1', l, a2, a3, a4, a5⟩ := h
  have e := sl_of hn a3 a5
  subst e
  exact ⟨a2, a4, Nat.le_trans (SR_len a3 (fun x hx => ((a5 x).mp hx).1)) hn⟩
theorem lp_X7_plan_7 {τ : tSt} {nV : Nat} (hr : rOK (aM τ) nV) (hV : τ 0 (nI 6) = nI nV) (hV40 : nV ≤ 40) {Q : Option Int32 → tSt → Prop} (kk : ∀ ρ, mSt τ ρ (fun v => s_come τ (τ 0 (nI 8)) v) nV → TT mX7_plan 34 [.ref 0, .null, .null, .null, .null] [] ρ Q) : ∀ (f i : Nat) (ρ : tSt), i + f = nV → mSt τ ρ (fun v => s_come τ (τ 0 (nI 8)) v) i → TT mX7_plan 7 [.ref 0, .int (nI i), .null, .null, .null] [] ρ Q := by
  intro f
  induction f with
  | zero =>
    intro i ρ hi hL
    have hVρ : ρ 0 (nI 6) = nI nV := by rw [hL.2.1 _ (by decide)]; exact hV
    have ei : i = nV := by omega
    subst ei
    refine tr_iload_n eX7_plan_7 rfl ?_
    refine tr_aload_n eX7_plan_8 rfl ?_
    refine tr_getI eX7_plan_9 fk_X7_89 rfl rfl ?_
    refine tr_icmp_ge eX7_plan_12 (fun h12 => ?_) (fun h12 => ?_)
    · skip
      exact TT.fg [1] (kk ρ hL)
    · skip
      exact absurd (lt_of hVρ (by omega) (by omega) h12) (by omega)
  | succ f ih =>
    intro i ρ hi hL
    have hVρ : ρ 0 (nI 6) = nI nV := by rw [hL.2.1 _ (by decide)]; exact hV
    have hin : vp_in (nI i) 40 := vp_in_nI (by omega) (by decide)
    obtain ⟨n, hni, hn, hmem⟩ := mSt_n hL (by omega)
    have hPi : s_come ρ (ρ 0 (nI 8)) (nI i) = (fun v => s_come τ (τ 0 (nI 8)) v) (nI i) := by
      show _ = s_come τ (τ 0 (nI 8)) (nI i)
      rw [hL.2.1 _ (by decide)]
      exact come_eq (hL.1 10 (by decide) (by decide)) (hL.1 11 (by decide) (by decide)) (hL.1 12 (by decide) (by decide)) _ _
    refine tr_iload_n eX7_plan_7 rfl ?_
    refine tr_aload_n eX7_plan_8 rfl ?_
    refine tr_getI eX7_plan_9 fk_X7_89 rfl rfl ?_
    refine tr_icmp_ge eX7_plan_12 (fun h12 => ?_) (fun h12 => ?_)
    · skip
      exact absurd (ge_of hVρ (by omega) (by omega) h12) (by omega)
    · skip
      refine tr_aload_n eX7_plan_15 rfl ?_
      refine tr_iload_n eX7_plan_16 rfl ?_
      refine tr_ce1 eX7_plan_17 zv_X7_isPlanned zi_X7_isPlanned lk_X7_191 ⟨rfl, by decide, by decide⟩ rfl rfl rfl (k_X7_isPlanned (by first | with_reducible assumption | with_reducible exact in_slot (by with_reducible assumption) (by with_reducible assumption) | with_reducible exact in_row _ (by decide) (by with_reducible assumption) | with_reducible exact in_row0 (by with_reducible assumption) | with_reducible exact in_slot0 (by with_reducible assumption) | (simp (disch := decide) only [up_k, up_s, up_f] <;> with_reducible assumption))) ?_
      refine tr_if_eq eX7_plan_20 (fun h20 => ?_) (fun h20 => ?_)
      · skip
        try first | replace h20 := bi_0 h20 | replace h20 := bi_n h20
        rw [hPi] at h20
        refine tr_iinc eX7_plan_28 _ (by first | with_reducible exact inc_n _ | with_reducible exact ix_s _ _ | with_reducible rfl) rfl (by decide) rfl ?_
        refine tr_goto eX7_plan_31 ?_
        exact ih (i + 1) ρ (by omega) (mSt_skip hL h20)
      · skip
        try first | replace h20 := bi_0 h20 | replace h20 := bi_n h20
        rw [hPi] at h20
        refine tr_aload_n eX7_plan_23 rfl ?_
        refine tr_iload_n eX7_plan_24 rfl ?_
        refine tr_cv1 (r0 := none) (σ1 := fun _ _ => 0) eX7_plan_25 zv_X7_lines zi_X7_lines lk_X7_194 ⟨rfl, by decide, by decide⟩ rfl rfl rfl (k_X7_lines hin hn (by omega) hmem) (fun r' ω hq => ?_)
        try simp (disch := decide) only [up_k, up_s, up_f, s_set_0]
        obtain ⟨rfl, c1, c2, c3, c4⟩ := hq
        refine tr_iinc eX7_plan_28 _ (by first | with_reducible exact inc_n _ | with_reducible exact ix_s _ _ | with_reducible rfl) rfl (by decide) rfl ?_
        refine tr_goto eX7_plan_31 ?_
        exact ih (i + 1) ω (by omega) (mSt_join hL hr hV40 (by omega) h20 hn (by omega) c1 c2 c3 c4)
theorem lp_X7_now_33 {τ : tSt} {nV : Nat} {m : Int32} (hr : rOK (aM τ) nV) (hV : τ 0 (nI 6) = nI nV) (hV40 : nV ≤ 40) {Q : Option Int32 → tSt → Prop} (kk : ∀ ρ, mSt τ ρ (fun v => s_wait τ (τ 0 (nI 8)) v) nV → TT mX7_now 60 [.ref 0, .int m, .null, .null, .null] [] ρ Q) : ∀ (f i : Nat) (ρ : tSt), i + f = nV → mSt τ ρ (fun v => s_wait τ (τ 0 (nI 8)) v) i → TT mX7_now 33 [.ref 0, .int m, .int (nI i), .null, .null] [] ρ Q := by
  intro f
  induction f with
  | zero =>
    intro i ρ hi hL
    have hVρ : ρ 0 (nI 6) = nI nV := by rw [hL.2.1 _ (by decide)]; exact hV
    have ei : i = nV := by omega
    subst ei
    refine tr_iload_n eX7_now_33 rfl ?_
    refine tr_aload_n eX7_now_34 rfl ?_
    refine tr_getI eX7_now_35 fk_X7_89 rfl rfl ?_
    refine tr_icmp_ge eX7_now_38 (fun h38 => ?_) (fun h38 => ?_)
    · skip
      exact TT.fg [2] (kk ρ hL)
    · skip
      exact absurd (lt_of hVρ (by omega) (by omega) h38) (by omega)
  | succ f ih =>
    intro i ρ hi hL
    have hVρ : ρ 0 (nI 6) = nI nV := by rw [hL.2.1 _ (by decide)]; exact hV
    have hin : vp_in (nI i) 40 := vp_in_nI (by omega) (by decide)
    obtain ⟨n, hni, hn, hmem⟩ := mSt_n hL (by omega)
    have hPi : s_wait ρ (ρ 0 (nI 8)) (nI i) = (fun v => s_wait τ (τ 0 (nI 8)) v) (nI i) := by
      show _ = s_wait τ (τ 0 (nI 8)) (nI i)
      rw [hL.2.1 _ (by decide)]
      exact wait_eq (hL.1 10 (by decide) (by decide)) (hL.1 11 (by decide) (by decide)) (hL.1 12 (by decide) (by decide)) _ _
    refine tr_iload_n eX7_now_33 rfl ?_
    refine tr_aload_n eX7_now_34 rfl ?_
    refine tr_getI eX7_now_35 fk_X7_89 rfl rfl ?_
    refine tr_icmp_ge eX7_now_38 (fun h38 => ?_) (fun h38 => ?_)
    · skip
      exact absurd (ge_of hVρ (by omega) (by omega) h38) (by omega)
    · skip
      refine tr_aload_n eX7_now_41 rfl ?_
      refine tr_iload_n eX7_now_42 rfl ?_
      refine tr_ce1 eX7_now_43 zv_X7_isWaiting zi_X7_isWaiting lk_X7_222 ⟨rfl, by decide, by decide⟩ rfl rfl rfl (k_X7_isWaiting (by first | with_reducible assumption | with_reducible exact in_slot (by with_reducible assumption) (by with_reducible assumption) | with_reducible exact in_row _ (by decide) (by with_reducible assumption) | with_reducible exact in_row0 (by with_reducible assumption) | with_reducible exact in_slot0 (by with_reducible assumption) | (simp (disch := decide) only [up_k, up_s, up_f] <;> with_reducible assumption))) ?_
      refine tr_if_eq eX7_now_46 (fun h46 => ?_) (fun h46 => ?_)
      · skip
        try first | replace h46 := bi_0 h46 | replace h46 := bi_n h46
        rw [hPi] at h46
        refine tr_iinc eX7_now_54 _ (by first | with_reducible exact inc_n _ | with_reducible exact ix_s _ _ | with_reducible rfl) rfl (by decide) rfl ?_
        refine tr_goto eX7_now_57 ?_
        exact ih (i + 1) ρ (by omega) (mSt_skip hL h46)
      · skip
        try first | replace h46 := bi_0 h46 | replace h46 := bi_n h46
        rw [hPi] at h46
        refine tr_aload_n eX7_now_49 rfl ?_
        refine tr_iload_n eX7_now_50 rfl ?_
        refine tr_cv1 (r0 := none) (σ1 := fun _ _ => 0) eX7_now_51 zv_X7_lines zi_X7_lines lk_X7_194 ⟨rfl, by decide, by decide⟩ rfl rfl rfl (k_X7_lines hin hn (by omega) hmem) (fun r' ω hq => ?_)
        try simp (disch := decide) only [up_k, up_s, up_f, s_set_0]
        obtain ⟨rfl, c1, c2, c3, c4⟩ := hq
        refine tr_iinc eX7_now_54 _ (by first | with_reducible exact inc_n _ | with_reducible exact ix_s _ _ | with_reducible rfl) rfl (by decide) rfl ?_
        refine tr_goto eX7_now_57 ?_
        exact ih (i + 1) ω (by omega) (mSt_join hL hr hV40 (by omega) h46 hn (by omega) c1 c2 c3 c4)
theorem lp_X7_plan_38 {nS nP nC nV : Nat} {now : Int32} {l : List Nat} (hl40 : l.length ≤ 40) : ∀ (f i c : Nat) (τ : tSt), i + f = l.length → iA (aM τ) nS nP nC nV → τ 0 (nI 26) = nI l.length → LNS (τ 17) l → τ 0 (nI 8) = now → (∀ v ∈ l.drop i, cand (aM τ) now nV v ∧ s_mx (s_in (aM τ) (nI v)) now = s_in (aM τ) (nI v)) → TT mX7_plan 38 [.ref 0, .int (nI c), .int (nI i), .null, .null] [] τ (fun r ρ => r = some (nI (c + ((l.drop i).length - (s_srv now (l.drop i) (aM τ)).1))) ∧ aM ρ = up (s_srv now (l.drop i) (aM τ)).2 0 (nI 6) (nI 0)) := by
  intro f
  induction f with
  | zero =>
    intro i c τ hi hI hn hls hnow hcd
    refine tr_iload_n eX7_plan_38 rfl ?_
    refine tr_aload_n eX7_plan_39 rfl ?_
    refine tr_getI eX7_plan_40 fk_X7_188 rfl rfl ?_
    refine tr_icmp_ge eX7_plan_43 (fun h43 => ?_) (fun h43 => ?_)
    · skip
      refine tr_aload_n eX7_plan_105 rfl ?_
      refine tr_iload_n eX7_plan_106 rfl ?_
      refine tr_ce1 eX7_plan_107 zv_X7_gives zi_X7_gives lk_X7_96 ⟨rfl, by decide, by decide⟩ rfl rfl rfl k_X7_gives ?_
      try simp (disch := decide) only [up_k, up_s, up_f, s_set_0]
      refine tr_ret eX7_plan_110 rfl rfl ?_
      rw [List.drop_of_length_le (by omega)]
      exact ⟨rfl, by rw [aM_f0_0]; rfl⟩
    · skip
      exact absurd (lt_of hn (by omega) (by omega) h43) (by omega)
  | succ f ih =>
    intro i c τ hi hI hn hls hnow hcd
    have hil : i < l.length := by omega
    have hmi : τ 17 (nI i) = nI l[i] := hls i hil
    obtain ⟨hcv, hfr⟩ := hcd l[i] (by rw [drop_cons hil]; exact List.mem_cons_self)
    have hcd' : ∀ v ∈ l.drop (i + 1), cand (aM τ) now nV v ∧ s_mx (s_in (aM τ) (nI v)) now = s_in (aM τ) (nI v) := fun v hv => hcd v (by rw [drop_cons hil]; exact List.mem_cons_of_mem _ hv)
    have hV40 : nV ≤ 40 := hI.1.2.2.2.2
    have hi40 : vp_in (nI i) 40 := vp_in_nI (by omega) (by decide)
    have hv : vp_in (nI l[i]) 40 := vp_in_nI (by have := hcv.1; omega) (by decide)
    obtain ⟨a0, b0, ea0, eb0, hab0, hb0⟩ := hcv.2.2
    have hab : s_mx (s_in (aM τ) (nI l[i])) now < s_out τ (nI l[i]) := by rw [← s_out_aM, ea0, eb0]; exact (nI_ltI (by omega) (by omega)).mpr hab0
    have hbest := k_X7_bestOfA hI hv hab
    refine tr_iload_n eX7_plan_38 rfl ?_
    refine tr_aload_n eX7_plan_39 rfl ?_
    refine tr_getI eX7_plan_40 fk_X7_188 rfl rfl ?_
    refine tr_icmp_ge eX7_plan_43 (fun h43 => ?_) (fun h43 => ?_)
    · skip
      exact absurd (ge_of hn (by omega) (by omega) h43) (by omega)
    · skip
      refine tr_aload_n eX7_plan_46 rfl ?_
      refine tr_getR eX7_plan_47 fk_X7_62 rfl rfl ?_
      refine tr_iload_n eX7_plan_50 rfl ?_
      refine tr_iald eX7_plan_51 rfl (by first | with_reducible assumption | with_reducible exact in_slot (by with_reducible assumption) (by with_reducible assumption) | with_reducible exact in_row _ (by decide) (by with_reducible assumption) | with_reducible exact in_row0 (by with_reducible assumption) | with_reducible exact in_slot0 (by with_reducible assumption) | (simp (disch := decide) only [up_k, up_s, up_f] <;> with_reducible assumption)) ?_
      rw [hmi]
      refine tr_istore_n eX7_plan_52 (by decide) rfl ?_
      refine tr_aload_n eX7_plan_53 rfl ?_
      refine tr_iload_n eX7_plan_54 rfl ?_
      refine tr_aload_n eX7_plan_55 rfl ?_
      refine tr_iload_n eX7_plan_56 rfl ?_
      refine tr_ce1 eX7_plan_57 zv_X7_inOf zi_X7_inOf lk_X7_119 ⟨rfl, by decide, by decide⟩ rfl rfl rfl (show CT mX7_inOf _ _ (PE (some (s_mx (s_in (aM τ) (nI l[i])) now)) _) from by rw [hfr, s_in_aM]; exact k_X7_inOf hv) ?_
      refine tr_aload_n eX7_plan_60 rfl ?_
      refine tr_iload_n eX7_plan_61 rfl ?_
      refine tr_ce1 eX7_plan_62 zv_X7_outOf zi_X7_outOf lk_X7_178 ⟨rfl, by decide, by decide⟩ rfl rfl rfl (k_X7_outOf hv) ?_
      refine tr_cv3 (r0 := none) (σ1 := fun _ _ => 0) eX7_plan_65 zv_X7_bestOf zi_X7_bestOf lk_X7_198 ⟨rfl, by decide, by decide⟩ rfl rfl rfl hbest (fun r' ρ' hq => ?_)
      try simp (disch := decide) only [up_k, up_s, up_f, s_set_0]
      obtain ⟨rfl, z, rfl⟩ := hq
      obtain ⟨ρ, hρe⟩ : ∃ ρ, ρ = up τ 0 (nI 24) z := ⟨_, rfl⟩
      rw [← hρe]
      have haρ : aM ρ = aM τ := by rw [hρe, aM_f0_24]
      have e0 : ∀ j : Int32, j ≠ nI 24 → ρ 0 j = τ 0 j := fun j hj => by rw [hρe, up_n hj]
      have ek : ∀ k, k ≠ 0 → ρ k = τ k := fun k hk => by rw [hρe, up_k hk]
      refine tr_istore eX7_plan_68 (by decide) rfl ?_
      refine tr_iload eX7_plan_70 rfl ?_
      refine tr_iconst eX7_plan_72 (-1) ci_m1 ?_
      refine tr_icmp_ne eX7_plan_73 (fun h73 => ?_) (fun h73 => ?_)
      · skip
        refine tr_aload_n eX7_plan_82 rfl ?_
        refine tr_iload_n eX7_plan_83 rfl ?_
        refine tr_iload eX7_plan_84 rfl ?_
        refine tr_aload_n eX7_plan_86 rfl ?_
        refine tr_iload_n eX7_plan_87 rfl ?_
        refine tr_ce1 eX7_plan_88 zv_X7_inOf zi_X7_inOf lk_X7_119 ⟨rfl, by decide, by decide⟩ rfl rfl rfl (show CT mX7_inOf _ _ (PE (some (s_mx (s_in (aM τ) (nI l[i])) now)) _) from by have h := k_X7_inOf (σ := ρ) hv; rw [in_eq (ek 10 (by decide))] at h; rw [hfr, s_in_aM]; exact h) ?_
        try simp (disch := decide) only [up_k, up_s, up_f, s_set_0]
        refine tr_aload_n eX7_plan_91 rfl ?_
        refine tr_iload_n eX7_plan_92 rfl ?_
        refine tr_ce1 eX7_plan_93 zv_X7_outOf zi_X7_outOf lk_X7_178 ⟨rfl, by decide, by decide⟩ rfl rfl rfl (show CT mX7_outOf _ _ (PE (some (s_out τ (nI l[i]))) _) from by have h := k_X7_outOf (σ := ρ) hv; rw [out_eq (ek 10 (by decide)) (ek 11 (by decide))] at h; exact h) ?_
        try simp (disch := decide) only [up_k, up_s, up_f, s_set_0]
        refine tr_ce4 eX7_plan_96 zv_X7_sets zi_X7_sets lk_X7_184 ⟨rfl, by decide, by decide⟩ rfl rfl rfl (show CT mX7_sets _ _ (PE none (s_set ρ (nI l[i]) (s_B (aM τ) (nI l[i]) (s_mx (s_in (aM τ) (nI l[i])) now)) (s_mx (s_in (aM τ) (nI l[i])) now) (s_out τ (nI l[i])))) from k_X7_sets hv) ?_
        try simp (disch := decide) only [up_k, up_s, up_f, s_set_0]
        refine tr_iinc eX7_plan_99 _ (by first | with_reducible exact inc_n _ | with_reducible exact ix_s _ _ | with_reducible rfl) rfl (by decide) rfl ?_
        refine tr_goto eX7_plan_102 ?_
        have e2 : aM (s_set ρ (nI l[i]) (s_B (aM τ) (nI l[i]) (s_mx (s_in (aM τ) (nI l[i])) now)) (s_mx (s_in (aM τ) (nI l[i])) now) (s_out τ (nI l[i]))) = s_set (aM τ) (nI l[i]) (s_B (aM τ) (nI l[i]) (s_mx (s_in (aM τ) (nI l[i])) now)) (s_mx (s_in (aM τ) (nI l[i])) now) (s_out (aM τ) (nI l[i])) := by rw [aM_set, haρ, s_out_aM]
        refine TT.fg [3, 4] (TT.post (ih (i + 1) (c) (s_set ρ (nI l[i]) (s_B (aM τ) (nI l[i]) (s_mx (s_in (aM τ) (nI l[i])) now)) (s_mx (s_in (aM τ) (nI l[i])) now) (s_out τ (nI l[i]))) (by omega) (by rw [e2]; exact iA_serve hI hcv h73) (by rw [s_set_0, e0 _ (by decide)]; exact hn) (by rw [← ek 17 (by decide)] at hls; exact hls) (by rw [s_set_0, e0 _ (by decide)]; exact hnow) (by rw [e2]; exact fun u hu => ⟨cand_set (hcd' u hu).1 .., (hcd' u hu).2⟩)) (fun r ω h => ?_))
        rw [e2] at h
        rw [drop_cons (by omega)]
        simp only [s_srv, List.length_cons]
        skip
        rw [if_neg h73]
        refine ⟨?_, h.2⟩
        rw [h.1]
        congr 2
        omega
      · skip
        refine tr_iinc eX7_plan_76 _ (by first | with_reducible exact inc_n _ | with_reducible exact ix_s _ _ | with_reducible rfl) rfl (by decide) rfl ?_
        refine tr_goto eX7_plan_79 ?_
        refine tr_iinc eX7_plan_99 _ (by first | with_reducible exact inc_n _ | with_reducible exact ix_s _ _ | with_reducible rfl) rfl (by decide) rfl ?_
        refine tr_goto eX7_plan_102 ?_
        refine TT.fg [3, 4] (TT.post (ih (i + 1) (c + 1) ρ (by omega) (by rw [haρ]; exact hI) (by rw [e0 _ (by decide)]; exact hn) (by rw [ek 17 (by decide)]; exact hls) (by rw [e0 _ (by decide)]; exact hnow) (by rw [haρ]; exact hcd')) (fun r ω h => ?_))
        rw [haρ] at h
        rw [drop_cons (by omega)]
        simp only [s_srv, List.length_cons]
        skip
        rw [if_pos h73]
        refine ⟨?_, h.2⟩
        rw [h.1]
        have := s_srv_le now (l.drop (i + 1)) (aM τ)
        congr 2
        omega
theorem lp_X7_now_64 {nS nP nC nV : Nat} {m : Int32} {now : Int32} {l : List Nat} (hl40 : l.length ≤ 40) : ∀ (f i c : Nat) (τ : tSt), i + f = l.length → iA (aM τ) nS nP nC nV → τ 0 (nI 26) = nI l.length → LNS (τ 17) l → τ 0 (nI 8) = now → (∀ v ∈ l.drop i, cand (aM τ) now nV v ∧ s_mx (s_in (aM τ) (nI v)) now = now) → TT mX7_now 64 [.ref 0, .int m, .int (nI c), .int (nI i), .null] [] τ (fun r ρ => r = some (nI (c + (s_srv now (l.drop i) (aM τ)).1)) ∧ aM ρ = up (s_srv now (l.drop i) (aM τ)).2 0 (nI 6) (nI 0)) := by
  intro f
  induction f with
  | zero =>
    intro i c τ hi hI hn hls hnow hcd
    refine tr_iload_n eX7_now_64 rfl ?_
    refine tr_aload_n eX7_now_65 rfl ?_
    refine tr_getI eX7_now_66 fk_X7_188 rfl rfl ?_
    refine tr_icmp_ge eX7_now_69 (fun h69 => ?_) (fun h69 => ?_)
    · skip
      refine tr_aload_n eX7_now_142 rfl ?_
      refine tr_iload_n eX7_now_143 rfl ?_
      refine tr_ce1 eX7_now_144 zv_X7_gives zi_X7_gives lk_X7_96 ⟨rfl, by decide, by decide⟩ rfl rfl rfl k_X7_gives ?_
      try simp (disch := decide) only [up_k, up_s, up_f, s_set_0]
      refine tr_ret eX7_now_147 rfl rfl ?_
      rw [List.drop_of_length_le (by omega)]
      exact ⟨rfl, by rw [aM_f0_0]; rfl⟩
    · skip
      exact absurd (lt_of hn (by omega) (by omega) h69) (by omega)
  | succ f ih =>
    intro i c τ hi hI hn hls hnow hcd
    have hil : i < l.length := by omega
    have hmi : τ 17 (nI i) = nI l[i] := hls i hil
    obtain ⟨hcv, hfr⟩ := hcd l[i] (by rw [drop_cons hil]; exact List.mem_cons_self)
    have hcd' : ∀ v ∈ l.drop (i + 1), cand (aM τ) now nV v ∧ s_mx (s_in (aM τ) (nI v)) now = now := fun v hv => hcd v (by rw [drop_cons hil]; exact List.mem_cons_of_mem _ hv)
    have hV40 : nV ≤ 40 := hI.1.2.2.2.2
    have hi40 : vp_in (nI i) 40 := vp_in_nI (by omega) (by decide)
    have hv : vp_in (nI l[i]) 40 := vp_in_nI (by have := hcv.1; omega) (by decide)
    obtain ⟨a0, b0, ea0, eb0, hab0, hb0⟩ := hcv.2.2
    have hab : s_mx (s_in (aM τ) (nI l[i])) now < s_out τ (nI l[i]) := by rw [← s_out_aM, ea0, eb0]; exact (nI_ltI (by omega) (by omega)).mpr hab0
    have hbest := k_X7_bestOfA hI hv hab
    rw [hfr] at hbest
    refine tr_iload_n eX7_now_64 rfl ?_
    refine tr_aload_n eX7_now_65 rfl ?_
    refine tr_getI eX7_now_66 fk_X7_188 rfl rfl ?_
    refine tr_icmp_ge eX7_now_69 (fun h69 => ?_) (fun h69 => ?_)
    · skip
      exact absurd (ge_of hn (by omega) (by omega) h69) (by omega)
    · skip
      refine tr_aload_n eX7_now_72 rfl ?_
      refine tr_aload_n eX7_now_73 rfl ?_
      refine tr_getR eX7_now_74 fk_X7_62 rfl rfl ?_
      refine tr_iload_n eX7_now_77 rfl ?_
      refine tr_iald eX7_now_78 rfl (by first | with_reducible assumption | with_reducible exact in_slot (by with_reducible assumption) (by with_reducible assumption) | with_reducible exact in_row _ (by decide) (by with_reducible assumption) | with_reducible exact in_row0 (by with_reducible assumption) | with_reducible exact in_slot0 (by with_reducible assumption) | (simp (disch := decide) only [up_k, up_s, up_f] <;> with_reducible assumption)) ?_
      rw [hmi]
      refine tr_aload_n eX7_now_79 rfl ?_
      refine tr_getI eX7_now_80 fk_X7_122 rfl rfl ?_
      rw [hnow]
      refine tr_aload_n eX7_now_83 rfl ?_
      refine tr_aload_n eX7_now_84 rfl ?_
      refine tr_getR eX7_now_85 fk_X7_62 rfl rfl ?_
      refine tr_iload_n eX7_now_88 rfl ?_
      refine tr_iald eX7_now_89 rfl (by first | with_reducible assumption | with_reducible exact in_slot (by with_reducible assumption) (by with_reducible assumption) | with_reducible exact in_row _ (by decide) (by with_reducible assumption) | with_reducible exact in_row0 (by with_reducible assumption) | with_reducible exact in_slot0 (by with_reducible assumption) | (simp (disch := decide) only [up_k, up_s, up_f] <;> with_reducible assumption)) ?_
      rw [hmi]
      refine tr_ce1 eX7_now_90 zv_X7_outOf zi_X7_outOf lk_X7_178 ⟨rfl, by decide, by decide⟩ rfl rfl rfl (k_X7_outOf hv) ?_
      refine tr_cv3 (r0 := none) (σ1 := fun _ _ => 0) eX7_now_93 zv_X7_bestOf zi_X7_bestOf lk_X7_198 ⟨rfl, by decide, by decide⟩ rfl rfl rfl hbest (fun r' ρ' hq => ?_)
      try simp (disch := decide) only [up_k, up_s, up_f, s_set_0]
      obtain ⟨rfl, z, rfl⟩ := hq
      obtain ⟨ρ, hρe⟩ : ∃ ρ, ρ = up τ 0 (nI 24) z := ⟨_, rfl⟩
      rw [← hρe]
      have haρ : aM ρ = aM τ := by rw [hρe, aM_f0_24]
      have e0 : ∀ j : Int32, j ≠ nI 24 → ρ 0 j = τ 0 j := fun j hj => by rw [hρe, up_n hj]
      have ek : ∀ k, k ≠ 0 → ρ k = τ k := fun k hk => by rw [hρe, up_k hk]
      refine tr_istore eX7_now_96 (by decide) rfl ?_
      refine tr_iload eX7_now_98 rfl ?_
      refine tr_iconst eX7_now_100 (-1) ci_m1 ?_
      refine tr_icmp_ne eX7_now_101 (fun h101 => ?_) (fun h101 => ?_)
      · skip
        refine tr_aload_n eX7_now_107 rfl ?_
        refine tr_aload_n eX7_now_108 rfl ?_
        refine tr_getR eX7_now_109 fk_X7_62 rfl rfl ?_
        refine tr_iload_n eX7_now_112 rfl ?_
        refine tr_iald eX7_now_113 rfl (by first | with_reducible assumption | with_reducible exact in_slot (by with_reducible assumption) (by with_reducible assumption) | with_reducible exact in_row _ (by decide) (by with_reducible assumption) | with_reducible exact in_row0 (by with_reducible assumption) | with_reducible exact in_slot0 (by with_reducible assumption) | (simp (disch := decide) only [up_k, up_s, up_f] <;> with_reducible assumption)) ?_
        try simp (disch := decide) only [up_k, up_s, up_f, s_set_0]
        rw [ek 17 (by decide), hmi]
        refine tr_iload eX7_now_114 rfl ?_
        refine tr_aload_n eX7_now_116 rfl ?_
        refine tr_getI eX7_now_117 fk_X7_122 rfl rfl ?_
        try simp (disch := decide) only [up_k, up_s, up_f, s_set_0]
        rw [e0 _ (by decide), hnow]
        refine tr_aload_n eX7_now_120 rfl ?_
        refine tr_aload_n eX7_now_121 rfl ?_
        refine tr_getR eX7_now_122 fk_X7_62 rfl rfl ?_
        refine tr_iload_n eX7_now_125 rfl ?_
        refine tr_iald eX7_now_126 rfl (by first | with_reducible assumption | with_reducible exact in_slot (by with_reducible assumption) (by with_reducible assumption) | with_reducible exact in_row _ (by decide) (by with_reducible assumption) | with_reducible exact in_row0 (by with_reducible assumption) | with_reducible exact in_slot0 (by with_reducible assumption) | (simp (disch := decide) only [up_k, up_s, up_f] <;> with_reducible assumption)) ?_
        try simp (disch := decide) only [up_k, up_s, up_f, s_set_0]
        rw [ek 17 (by decide), hmi]
        refine tr_ce1 eX7_now_127 zv_X7_outOf zi_X7_outOf lk_X7_178 ⟨rfl, by decide, by decide⟩ rfl rfl rfl (show CT mX7_outOf _ _ (PE (some (s_out τ (nI l[i]))) _) from by have h := k_X7_outOf (σ := ρ) hv; rw [out_eq (ek 10 (by decide)) (ek 11 (by decide))] at h; exact h) ?_
        try simp (disch := decide) only [up_k, up_s, up_f, s_set_0]
        refine tr_ce4 eX7_now_130 zv_X7_sets zi_X7_sets lk_X7_184 ⟨rfl, by decide, by decide⟩ rfl rfl rfl (show CT mX7_sets _ _ (PE none (s_set ρ (nI l[i]) (s_B (aM τ) (nI l[i]) now) now (s_out τ (nI l[i])))) from k_X7_sets hv) ?_
        try simp (disch := decide) only [up_k, up_s, up_f, s_set_0]
        refine tr_iinc eX7_now_133 _ (by first | with_reducible exact inc_n _ | with_reducible exact ix_s _ _ | with_reducible rfl) rfl (by decide) rfl ?_
        refine tr_iinc eX7_now_136 _ (by first | with_reducible exact inc_n _ | with_reducible exact ix_s _ _ | with_reducible rfl) rfl (by decide) rfl ?_
        refine tr_goto eX7_now_139 ?_
        have e2 : aM (s_set ρ (nI l[i]) (s_B (aM τ) (nI l[i]) now) now (s_out τ (nI l[i]))) = s_set (aM τ) (nI l[i]) (s_B (aM τ) (nI l[i]) now) now (s_out (aM τ) (nI l[i])) := by rw [aM_set, haρ, s_out_aM]
        refine TT.fg [4] (TT.post (ih (i + 1) (c + 1) (s_set ρ (nI l[i]) (s_B (aM τ) (nI l[i]) now) now (s_out τ (nI l[i]))) (by omega) (by rw [e2]; exact (by have w := iA_serve hI hcv (by rw [hfr]; exact h101); rw [hfr] at w; exact w)) (by rw [s_set_0, e0 _ (by decide)]; exact hn) (by rw [← ek 17 (by decide)] at hls; exact hls) (by rw [s_set_0, e0 _ (by decide)]; exact hnow) (by rw [e2]; exact fun u hu => ⟨cand_set (hcd' u hu).1 .., (hcd' u hu).2⟩)) (fun r ω h => ?_))
        rw [e2] at h
        rw [drop_cons (by omega)]
        simp only [s_srv, List.length_cons]
        rw [hfr]
        rw [if_neg h101]
        refine ⟨?_, h.2⟩
        rw [h.1]
        congr 2
        omega
      · skip
        refine tr_goto eX7_now_104 ?_
        refine tr_iinc eX7_now_136 _ (by first | with_reducible exact inc_n _ | with_reducible exact ix_s _ _ | with_reducible rfl) rfl (by decide) rfl ?_
        refine tr_goto eX7_now_139 ?_
        refine TT.fg [4] (TT.post (ih (i + 1) (c) ρ (by omega) (by rw [haρ]; exact hI) (by rw [e0 _ (by decide)]; exact hn) (by rw [ek 17 (by decide)]; exact hls) (by rw [e0 _ (by decide)]; exact hnow) (by rw [haρ]; exact hcd')) (fun r ω h => ?_))
        rw [haρ] at h
        rw [drop_cons (by omega)]
        simp only [s_srv, List.length_cons]
        rw [hfr]
        rw [if_pos h101]
        refine ⟨?_, h.2⟩
        rw [h.1]
        
theorem k_X7_plan {τ : tSt} {nS nP nC nV : Nat} (hI : iA (aM τ) nS nP nC nV) : CT mX7_plan [.ref 0] τ (QM (s_planp (aM τ))) := by
  have hI0 := hI.1
  have hS := hI0.1.1
  rw [aM_0] at hS
  have hP := hI0.2.1.1
  rw [aM_1] at hP
  have hC := hI0.2.2.1.1
  rw [aM_2] at hC
  have hV := hI0.2.2.2.1
  rw [aM_3] at hV
  have hS24 := hI0.1.2
  have hP40 := hI0.2.1.2
  have hC20 := hI0.2.2.1.2
  have hV40 := hI0.2.2.2.2
  refine CT.of2 4 (by decide) rfl rfl ?_
  refine tr_aload_n eX7_plan_0 rfl ?_
  refine tr_iconst eX7_plan_1 (nI 0) ci_0 ?_
  refine tr_put eX7_plan_2 fp_X7_188 rfl rfl ?_
  refine tr_iconst eX7_plan_5 (nI 0) ci_0 ?_
  refine tr_istore_n eX7_plan_6 (by decide) rfl ?_
  refine lp_X7_plan_7 (τ := τ) hI.2.2.1.1 hV hV40 (fun ρ hL => ?_) nV 0 _ (by omega) (mSt_0 (fun k a b => up_k b) (fun i hi => up_n hi) up_s)
  have el : sl (aM τ) (fun v => s_come τ (τ 0 (nI 8)) v) nV = l_plan (aM τ) := by
    rw [l_plan, tn_of hI0.2.2.2.1 (by omega)]
    exact sl_congr (fun v => by rw [s_come_aM, aM_4]) nV
  have haρ : aM ρ = aM τ := aM_off hL.1 hL.2.1
  obtain ⟨e1, e2, e3⟩ := mSt_end hL hV40
  rw [el] at e1 e2 e3
  have hcd : ∀ v ∈ (l_plan (aM τ)).drop 0, cand (aM ρ) (aM τ 0 (nI 4)) nV v ∧ s_mx (s_in (aM ρ) (nI v)) (aM τ 0 (nI 4)) = s_in (aM ρ) (nI v) := fun v hv => by
    rw [List.drop_zero] at hv
    rw [haρ]
    rw [l_plan, tn_of hI0.2.2.2.1 (by omega)] at hv
    obtain ⟨a, b⟩ := mem_sl.mp hv
    exact cand_come hI a b
  have hnow : ρ 0 (nI 8) = aM τ 0 (nI 4) := by rw [aM_4, hL.2.1 _ (by decide)]
  refine tr_iconst eX7_plan_34 (nI 0) ci_0 ?_
  refine tr_istore_n eX7_plan_35 (by decide) rfl ?_
  refine tr_iconst eX7_plan_36 (nI 0) ci_0 ?_
  refine tr_istore_n eX7_plan_37 (by decide) rfl ?_
  refine TT.post (lp_X7_plan_38 (now := aM τ 0 (nI 4)) e3 _ 0 0 ρ (Nat.zero_add _) (by rw [haρ]; exact hI) e2 e1 hnow hcd) (fun r ω h => ?_)
  rw [List.drop_zero, Nat.zero_add, haρ] at h
  exact h

theorem lt_2880 {m : Int32} (h : ¬ m < nI 2880) : nI 2879 < m := by
  rw [Int32.lt_iff_toInt_lt] at *
  have h1 : (nI 2880).toInt = 2880 := by decide
  have h2 : (nI 2879).toInt = 2879 := by decide
  omega
theorem lt_2880' {m : Int32} (h : nI 2879 < m) : ¬ m < nI 2880 := by
  rw [Int32.lt_iff_toInt_lt] at *
  have h1 : (nI 2880).toInt = 2880 := by decide
  have h2 : (nI 2879).toInt = 2879 := by decide
  omega
theorem k_X7_now {τ : tSt} {nS nP nC nV : Nat} {m : Int32} (hI : iA (aM τ) nS nP nC nV) : CT mX7_now [.ref 0, .int m] τ (QM (s_nowp (aM τ) m)) := by
  have hI0 := hI.1
  have hS := hI0.1.1
  rw [aM_0] at hS
  have hP := hI0.2.1.1
  rw [aM_1] at hP
  have hC := hI0.2.2.1.1
  rw [aM_2] at hC
  have hV := hI0.2.2.2.1
  rw [aM_3] at hV
  have hS24 := hI0.1.2
  have hP40 := hI0.2.1.2
  have hC20 := hI0.2.2.1.2
  have hV40 := hI0.2.2.2.2
  obtain ⟨tN, htN, etN⟩ := hI.2.2.2.2.1.1
  rw [aM_4] at etN
  refine CT.of2 3 (by decide) rfl rfl ?_
  refine tr_iload_n eX7_now_0 rfl ?_
  refine tr_aload_n eX7_now_1 rfl ?_
  refine tr_getI eX7_now_2 fk_X7_122 rfl rfl ?_
  refine tr_icmp_lt eX7_now_5 (fun h5 => ?_) (fun h5 => ?_)
  · skip
    refine tr_aload_n eX7_now_15 rfl ?_
    refine tr_iconst eX7_now_16 (nI 3) ci_3 ?_
    refine tr_ce1 eX7_now_17 zv_X7_refuse zi_X7_refuse lk_X7_92 ⟨rfl, by decide, by decide⟩ rfl rfl rfl k_X7_refuse ?_
    try simp (disch := decide) only [up_k, up_s, up_f, s_set_0]
    refine tr_ret eX7_now_20 rfl rfl ?_
    have hw : ¬ s_wi m (aM τ 0 (nI 4)) (nI 2879) := by rw [aM_4]; exact fun q => q.1 h5
    exact ⟨by rw [s_nowp, if_pos hw]; rfl, by rw [s_nowp, if_pos hw, aM_f0_0]; rfl⟩
  · skip
    refine tr_iload_n eX7_now_8 rfl ?_
    refine tr_sipush eX7_now_9 (nI 2880) (by decide) ?_
    refine tr_icmp_lt eX7_now_12 (fun h12 => ?_) (fun h12 => ?_)
    · skip
      refine tr_aload_n eX7_now_21 rfl ?_
      refine tr_iload_n eX7_now_22 rfl ?_
      refine tr_put eX7_now_23 fp_X7_122 rfl rfl ?_
      refine tr_aload_n eX7_now_26 rfl ?_
      refine tr_iconst eX7_now_27 (nI 0) ci_0 ?_
      refine tr_put eX7_now_28 fp_X7_188 rfl rfl ?_
      refine tr_iconst eX7_now_31 (nI 0) ci_0 ?_
      refine tr_istore_n eX7_now_32 (by decide) rfl ?_
      have hw : s_wi m (aM τ 0 (nI 4)) (nI 2879) := by rw [aM_4]; exact ⟨h5, fun q => absurd (lt_2880' q) (by intro w; exact absurd h12 w)⟩
      have ea : aM (up τ 0 (nI 8) m) = up (aM τ) 0 (nI 4) m := aM_f0_8 τ m
      have hI2 : iA (aM (up τ 0 (nI 8) m)) nS nP nC nV := by rw [ea]; exact iA_now hI hw
      have hV2 : (up τ 0 (nI 8) m) 0 (nI 6) = nI nV := by rw [up_f (by decide)]; exact hV
      refine lp_X7_now_33 (τ := (up τ 0 (nI 8) m)) hI2.2.2.1.1 hV2 hV40 (fun ρ hL => ?_) nV 0 _ (by omega) (mSt_0 (fun k a b => up_k b) (fun i hi => up_n hi) up_s)
      have el : sl (aM (up τ 0 (nI 8) m)) (fun v => s_wait (up τ 0 (nI 8) m) ((up τ 0 (nI 8) m) 0 (nI 8)) v) nV = l_wait (up (aM τ) 0 (nI 4) m) := by
        rw [← ea, l_wait, tn_of hI2.1.2.2.2.1 (by omega)]
        exact sl_congr (fun v => by rw [s_wait_aM, aM_4]) nV
      have haρ : aM ρ = up (aM τ) 0 (nI 4) m := (aM_off hL.1 hL.2.1).trans ea
      obtain ⟨e1, e2, e3⟩ := mSt_end hL hV40
      rw [el] at e1 e2 e3
      have hcd : ∀ v ∈ (l_wait (up (aM τ) 0 (nI 4) m)).drop 0, cand (aM ρ) m nV v ∧ s_mx (s_in (aM ρ) (nI v)) m = m := fun v hv => by
        rw [List.drop_zero] at hv
        rw [haρ]
        rw [← ea, l_wait, tn_of hI2.1.2.2.2.1 (by omega)] at hv
        obtain ⟨a, b⟩ := mem_sl.mp hv
        have w := cand_wait hI2 a b
        rw [ea, up_s] at w
        exact w
      have hnow : ρ 0 (nI 8) = m := by rw [hL.2.1 _ (by decide), up_s]
      refine tr_iconst eX7_now_60 (nI 0) ci_0 ?_
      refine tr_istore_n eX7_now_61 (by decide) rfl ?_
      refine tr_iconst eX7_now_62 (nI 0) ci_0 ?_
      refine tr_istore_n eX7_now_63 (by decide) rfl ?_
      refine TT.post (lp_X7_now_64 (now := m) e3 _ 0 0 ρ (Nat.zero_add _) (by rw [haρ, ← ea]; exact hI2) e2 e1 hnow hcd) (fun r ω h => ?_)
      rw [List.drop_zero, Nat.zero_add, haρ] at h
      refine ⟨?_, ?_⟩
      · rw [h.1, s_nowp, if_neg (fun q => q hw)]; rfl
      · rw [h.2, s_nowp, if_neg (fun q => q hw)]; rfl
    · skip
      refine tr_aload_n eX7_now_15 rfl ?_
      refine tr_iconst eX7_now_16 (nI 3) ci_3 ?_
      refine tr_ce1 eX7_now_17 zv_X7_refuse zi_X7_refuse lk_X7_92 ⟨rfl, by decide, by decide⟩ rfl rfl rfl k_X7_refuse ?_
      try simp (disch := decide) only [up_k, up_s, up_f, s_set_0]
      refine tr_ret eX7_now_20 rfl rfl ?_
      have hw : ¬ s_wi m (aM τ 0 (nI 4)) (nI 2879) := by rw [aM_4]; exact fun q => q.2 (lt_2880 h12)
      exact ⟨by rw [s_nowp, if_pos hw]; rfl, by rw [s_nowp, if_pos hw, aM_f0_0]; rfl⟩

