/-! SEARCH of the class, its ends -/
def s_0 (σ : tSt) : tSS := (1, upA (σ 27) (nI 0) (-1), 0, aX σ)
theorem s_R_ok' {σ : tSt} {nS nP nC nV : Nat} (h : iA (aX σ) nS nP nC nV) : (l_srch (aX σ)).length ≤ 40 ∧ ND (l_srch (aX σ)) ∧ (0 < (l_srch (aX σ)).length → sOKs (l_srch (aX σ)) nS nP nC nV (s_0 σ)) ∧ PL (l_srch (aX σ)) (s_0 σ) 0 := s_R_ok h _ upA_s
theorem srch_40 {μ : tSt} {nS nP nC nV : Nat} (h : iA μ nS nP nC nV) : ∀ v ∈ l_srch μ, v < 40 := fun v hv => by
  have eV := tn_of h.1.2.2.2.1 (by have := h.1.2.2.2.2; omega)
  have := (mem_sl0.mp hv).1
  rw [eV] at this
  have h2 := h.1.2.2.2.2
  omega
theorem len0 {n : Nat} (hn : n ≤ 40) (h : nI n = 0) : n = 0 := nI_inj (by omega) (by decide) (h.trans n0.symm)
theorem len1 {n : Nat} (h : ¬ nI n = 0) : 0 < n := Nat.pos_of_ne_zero fun q => h (by rw [q]; rfl)
def qTF (σ : tSt) (nS : Nat) (r : Option Int32) (ρ : tSt) : Prop := aw0 ρ ∧ ((l_srch (aX σ)).length = 0 → r = some (nI 0) ∧ aX ρ = aX σ ∧ ρ 20 (nI 7) = nI 0) ∧ (0 < (l_srch (aX σ)).length → r = some (run1 (l_srch (aX σ)) nS 15001 (s_0 σ)).1 ∧ aX ρ = (if (run1 (l_srch (aX σ)) nS 15001 (s_0 σ)).1 = nI 0 then (run1 (l_srch (aX σ)) nS 15001 (s_0 σ)).2.2.2.2 else offA (l_srch (aX σ)) (run1 (l_srch (aX σ)) nS 15001 (s_0 σ)).2.2.2.2) ∧ ρ 20 (nI 7) = nI (run1 (l_srch (aX σ)) nS 15001 (s_0 σ)).2.2.2.1)
theorem k_X4_takeFirst {σ : tSt} {nS nP nC nV : Nat} (hI : iA (aX σ) nS nP nC nV) (hz : aw0 σ) : CT mX4_takeFirst [.ref 20] σ (qTF σ nS) := by
  obtain ⟨h40, hND, hok, hpl⟩ := s_R_ok' hI
  have hv40 := srch_40 hI
  refine CT.of2 1 (by decide) rfl rfl ?_
  refine tr_aload_n eX4_takeFirst_0 rfl ?_
  refine tr_cv0 (r0 := none) (σ1 := fun _ _ => 0) eX4_takeFirst_1 zv_X4_begin zi_X4_begin lk_X4_37 ⟨rfl, by decide, by decide⟩ rfl rfl rfl (k_X4_begin hI hz) (fun r' ρ hq => ?_)
  try simp (disch := decide) only [up_k, up_s, up_f, s_set_0]
  obtain ⟨rfl, hR⟩ := hq
  refine tr_aload_n eX4_takeFirst_4 rfl ?_
  refine tr_getR eX4_takeFirst_5 fk_X4_12 rfl rfl ?_
  refine tr_getI eX4_takeFirst_8 fk_X4_40 rfl rfl ?_
  try simp (disch := decide) only [up_k, up_s, up_f, s_set_0]
  rw [hR.2.2.2.2.2.1]
  refine tr_if_ne eX4_takeFirst_11 (fun h11 => ?_) (fun h11 => ?_)
  · skip
    refine tr_aload_n eX4_takeFirst_18 rfl ?_
    refine tr_cv0 (r0 := none) (σ1 := fun _ _ => 0) eX4_takeFirst_19 zv_X4_goToNextWhole zi_X4_goToNextWhole lk_X4_44 ⟨rfl, by decide, by decide⟩ rfl rfl rfl (k_X4_goToNextWhole h40 hR (hok (len1 h11))) (fun r' ρ2 hq => ?_)
    try simp (disch := decide) only [up_k, up_s, up_f, s_set_0]
    obtain ⟨rfl, hR2⟩ := hq
    refine tr_istore_n eX4_takeFirst_22 (by decide) rfl ?_
    refine tr_iload_n eX4_takeFirst_23 rfl ?_
    refine tr_if_eq eX4_takeFirst_24 (fun h24 => ?_) (fun h24 => ?_)
    · skip
      refine tr_iload_n eX4_takeFirst_31 rfl ?_
      refine tr_ret eX4_takeFirst_32 rfl rfl ?_
      refine ⟨hR2.2.2.2.2.1, fun q => absurd (len1 h11) (by omega), fun _ => ⟨rfl, ?_, hR2.2.2.1⟩⟩
      rw [if_pos (show (run1 (l_srch (aX σ)) nS 15001 (s_0 σ)).1 = nI 0 from h24)]; exact hR2.1
    · skip
      refine tr_aload_n eX4_takeFirst_27 rfl ?_
      refine tr_cv0 (r0 := none) (σ1 := fun _ _ => 0) eX4_takeFirst_28 zv_X4_takeAllOff zi_X4_takeAllOff lk_X4_48 ⟨rfl, by decide, by decide⟩ rfl rfl rfl (k_X4_takeAllOff h40 hv40 hR2.2.2.2.2.2.1 hR2.2.2.2.2.2.2.1) (fun r' ρ3 hq => ?_)
      try simp (disch := decide) only [up_k, up_s, up_f, s_set_0]
      obtain ⟨rfl, o1, o2⟩ := hq
      refine tr_iload_n eX4_takeFirst_31 rfl ?_
      refine tr_ret eX4_takeFirst_32 rfl rfl ?_
      refine ⟨fun u hu => by rw [o2 26 (by decide)]; exact hR2.2.2.2.2.1 u hu, fun q => absurd (len1 h11) (by omega), fun _ => ⟨rfl, ?_, by rw [o2 20 (by decide)]; exact hR2.2.2.1⟩⟩
      rw [if_neg (show ¬ (run1 (l_srch (aX σ)) nS 15001 (s_0 σ)).1 = nI 0 from h24), o1, hR2.1]; rfl
  · skip
    refine tr_iconst eX4_takeFirst_14 (nI 0) ci_0 ?_
    refine tr_goto eX4_takeFirst_15 ?_
    refine tr_istore_n eX4_takeFirst_22 (by decide) rfl ?_
    refine tr_iload_n eX4_takeFirst_23 rfl ?_
    refine tr_if_eq eX4_takeFirst_24 (fun _ => ?_) (fun h24 => absurd h24 (by decide))
    refine tr_iload_n eX4_takeFirst_31 rfl ?_
    refine tr_ret eX4_takeFirst_32 rfl rfl ?_
    refine ⟨hR.2.2.2.2.1, fun _ => ⟨rfl, hR.1, hR.2.2.1⟩, fun q => absurd (len0 h40 h11) (by omega)⟩

theorem kp_bs {σ : tSt} {n : Nat} {s : tSS} (hn : n ≤ 40) (h1 : aX σ = s.2.2.2) (h2 : σ 27 = s.2.1) : ct (fun i => s_gate σ (σ 27 i)) n 0 = cnG n s := by
  unfold cnG
  refine ct_congr (fun j _ _ => ?_)
  rw [← h1, ← h2]
  unfold s_gate
  rw [aX_k _ (by decide)]
def s_kp (σ : tSt) (n : Nat) : tSt := if σ 20 (nI 8) < nI (ct (fun i => s_gate σ (σ 27 i)) n 0) then cpS (up σ 20 (nI 8) (nI (ct (fun i => s_gate σ (σ 27 i)) n 0))) 27 28 n else σ
theorem s_kp_R {l : List Nat} {σ : tSt} {s : tSS} (h40 : l.length ≤ 40) (hR : RSx l σ σ s) : RSx l (s_kp σ l.length) (s_kp σ l.length) s ∧ (s_kp σ l.length 20 (nI 8), s_kp σ l.length 28) = kpA l.length s (σ 20 (nI 8), σ 28) := by
  obtain ⟨r1, r2, r3, r4, r5, r6, r7, r8, r9⟩ := hR
  have ec := kp_bs h40 r1 r2
  unfold s_kp kpA
  rw [ec]
  by_cases h : σ 20 (nI 8) < nI (cnG l.length s)
  · rw [if_pos h, if_pos h]
    refine ⟨⟨?_, ?_, ?_, ?_, ?_, ?_, ?_, rfl, rfl⟩, ?_⟩
    · rw [← r1]
      exact aX_offG (fun k hk => by rw [cpS_k (by omega), up_k (by omega)])
    · rw [cpS_k (by decide), up_k (by decide)]; exact r2
    · rw [cpS_k (by decide), up_f (by decide)]; exact r3
    · rw [cpS_k (by decide), up_f (by decide)]; exact r4
    · intro u hu; rw [cpS_k (by decide), up_k (by decide)]; exact r5 u hu
    · rw [cpS_k (by decide), up_k (by decide)]; exact r6
    · rw [cpS_k (by decide), up_k (by decide)]; exact r7
    · rw [cpS_k (by decide), up_s, cpS_s, up_k (by decide), up_k (by decide), r2]
  · rw [if_neg h, if_neg h]
    exact ⟨⟨r1, r2, r3, r4, r5, r6, r7, rfl, rfl⟩, rfl⟩
def s_T (l : List Nat) (nS : Nat) (c : Int32) (s : tSS) (b : tBB) : Int32 × tSS × tBB := if c = nI 0 then runA true l nS 15001 s (kpA l.length s b) else (c, s, b)
theorem s_T_run {l : List Nat} {nS nP nC nV : Nat} (hl : l.length ≤ 40) {s : tSS} {b : tBB} (hs : sOKs l nS nP nC nV s) : s_T l nS (run1 l nS 15001 s).1 (run1 l nS 15001 s).2 b = runA true l nS 15001 s b := by
  have hm : msr s < 15001 := by have := hs.1; unfold msr; omega
  rw [runA_run1 hl 15001 s b hs hm, s_T, if_pos rfl]
theorem s_T_z {l : List Nat} {nS : Nat} {c : Int32} {s : tSS} {b : tBB} (h : ¬ c = nI 0) : s_T l nS c s b = (c, s, b) := by rw [s_T, if_neg h]
theorem in_wh {l : List Nat} {nS nP nC nV : Nat} {s : tSS} (hs : sOKs l nS nP nC nV s) (hw : WHo l nS s) {g : Int32 → Int32} (hg : g = s.2.1) : ∀ p, p < l.length → vp_in (g (nI p)) 24 := fun p hp => by
  obtain ⟨c, hc, e⟩ := hw.2 p hp
  rw [hg, e]
  exact vp_in_nI (by have := hs.2.2.1.1.1.2; omega) (by decide)
theorem RSx_self {l : List Nat} {σ0 σ : tSt} {s : tSS} (h : RSx l σ0 σ s) : RSx l σ σ s := ⟨h.1, h.2.1, h.2.2.1, h.2.2.2.1, h.2.2.2.2.1, h.2.2.2.2.2.1, h.2.2.2.2.2.2.1, rfl, rfl⟩
theorem lp_X4_takeBest_33 {l : List Nat} {nS nP nC nV : Nat} (hl : l.length ≤ 40) {R : Int32 × tSS × tBB} {Q : Option Int32 → tSt → Prop} (kk : ∀ (c : Int32) (σ : tSt) (s : tSS), RSx l σ σ s → sOKs l nS nP nC nV s → c = nI 10 ∨ c = nI 11 → R = (c, s, (σ 20 (nI 8), σ 28)) → TT mX4_takeBest 59 [.ref 20, .int c, .null] [] σ Q) : ∀ (f i : Nat) (c : Int32) (σ : tSt) (s : tSS), i + f = 5000 → RSx l σ σ s → sOKs l nS nP nC nV s → (c = nI 0 ∨ c = nI 10 ∨ c = nI 11) → (c = nI 0 → i < s.2.2.1 ∧ WHo l nS s) → R = s_T l nS c s (σ 20 (nI 8), σ 28) → TT mX4_takeBest 33 [.ref 20, .int c, .int (nI i)] [] σ Q := by
  intro f
  induction f with
  | zero =>
    intro i c σ s hi hR hs hc h0 hT
    have ei : i = 5000 := by omega
    have hcn : ¬ c = nI 0 := fun q => by have := (h0 q).1; have := hs.2.1; omega
    rw [s_T_z hcn] at hT
    refine tr_iload_n eX4_takeBest_33 rfl ?_
    refine tr_sipush eX4_takeBest_34 (nI 5000) (by decide) ?_
    refine tr_icmp_ge eX4_takeBest_37 (fun h37 => ?_) (fun h37 => ?_)
    · skip
      exact TT.fg [2] (kk c σ s hR hs (hc.resolve_left hcn) hT)
    · skip
      exact absurd (by rw [ei]; exact Int32.le_refl _) h37
  | succ f ih =>
    intro i c σ s hi hR hs hc h0 hT
    refine tr_iload_n eX4_takeBest_33 rfl ?_
    refine tr_sipush eX4_takeBest_34 (nI 5000) (by decide) ?_
    refine tr_icmp_ge eX4_takeBest_37 (fun h37 => ?_) (fun h37 => ?_)
    · skip
      exact absurd ((nI_leI (by decide) (by omega)).mp h37) (by omega)
    · skip
      refine tr_iload_n eX4_takeBest_40 rfl ?_
      refine tr_if_ne eX4_takeBest_41 (fun h41 => ?_) (fun h41 => ?_)
      · skip
        rw [s_T_z h41] at hT
        exact TT.fg [2] (kk c σ s hR hs (hc.resolve_left h41) hT)
      · skip
        obtain ⟨hti, hwh⟩ := h0 h41
        have hkc : CT mX4_keepIfBetter [.ref 20] σ (PE none (s_kp σ l.length)) := k_X4_keepIfBetter hl hR.2.2.2.2.2.1 (in_wh hs hwh hR.2.1)
        obtain ⟨hR1, hB1⟩ := s_kp_R hl hR
        refine tr_aload_n eX4_takeBest_44 rfl ?_
        refine tr_ce0 eX4_takeBest_45 zv_X4_keepIfBetter zi_X4_keepIfBetter lk_X4_54 ⟨rfl, by decide, by decide⟩ rfl rfl rfl hkc ?_
        try simp (disch := decide) only [up_k, up_s, up_f, s_set_0]
        refine tr_aload_n eX4_takeBest_48 rfl ?_
        refine tr_cv0 (r0 := none) (σ1 := fun _ _ => 0) eX4_takeBest_49 zv_X4_goToNextWhole zi_X4_goToNextWhole lk_X4_44 ⟨rfl, by decide, by decide⟩ rfl rfl rfl (k_X4_goToNextWhole hl hR1 hs) (fun r' ρ hq => ?_)
        try simp (disch := decide) only [up_k, up_s, up_f, s_set_0]
        obtain ⟨rfl, hR2⟩ := hq
        refine tr_istore_n eX4_takeBest_52 (by decide) rfl ?_
        refine tr_iinc eX4_takeBest_53 _ (by first | with_reducible exact inc_n _ | with_reducible exact ix_s _ _ | with_reducible rfl) rfl (by decide) rfl ?_
        refine tr_goto eX4_takeBest_56 ?_
        refine ih (i + 1) _ ρ (run1 l nS 15001 s).2 (by omega) (RSx_self hR2) (run1_ok hl _ _ hs) (run1_code l nS 15001 s) (fun q => ⟨by have := (run1_tr (l := l) (nS := nS) 15001 s).2 q; omega, run1_wh hl _ _ hs q⟩) ?_
        rw [hR2.2.2.2.2.2.2.2.1, hR2.2.2.2.2.2.2.2.2, hB1, s_T_run hl hs, hT, s_T, if_pos (show c = nI 0 from h41)]
def s_RX (σ : tSt) (nS : Nat) : Int32 × tSS × tBB := runA true (l_srch (aX σ)) nS 15001 (s_0 σ) (-1, σ 28)
def qTB (σ : tSt) (nS : Nat) (r : Option Int32) (ρ : tSt) : Prop := aw0 ρ ∧ ((l_srch (aX σ)).length = 0 → r = some (nI 0) ∧ aX ρ = aX σ ∧ ρ 20 (nI 8) = nI 0) ∧ (0 < (l_srch (aX σ)).length → ((s_RX σ nS).1 = nI 10 ∧ r = some (nI 10) ∧ aX ρ = offA (l_srch (aX σ)) (s_RX σ nS).2.1.2.2.2)
  ∨ ((s_RX σ nS).1 = nI 11 ∧ (s_RX σ nS).2.2.1 = -1 ∧ r = some (nI 11) ∧ aX ρ = offA (l_srch (aX σ)) (s_RX σ nS).2.1.2.2.2)
  ∨ ((s_RX σ nS).1 = nI 11 ∧ ¬ (s_RX σ nS).2.2.1 = -1 ∧ r = some (nI 0) ∧ aX ρ = setA (s_RX σ nS).2.2.2 0 (l_srch (aX σ)) (offA (l_srch (aX σ)) (s_RX σ nS).2.1.2.2.2) ∧ ρ 20 (nI 8) = (s_RX σ nS).2.2.1))
theorem BOK_ne {n nS : Nat} {b : tBB} (h : BOK n nS b) (hS : nS ≤ 24) (h1 : ¬ b.1 = -1) : ∀ p, p < n → ¬ b.2 (nI p) = -1 := fun p hp => by
  obtain ⟨c, hc, e⟩ := (h.resolve_left h1).2 p hp
  rw [e]
  exact nI_ne_m1 (by omega)
theorem k_X4_takeBest {σ : tSt} {nS nP nC nV : Nat} (hI : iA (aX σ) nS nP nC nV) (hz : aw0 σ) : CT mX4_takeBest [.ref 20] σ (qTB σ nS) := by
  obtain ⟨h40, hND, hok, hpl⟩ := s_R_ok' hI
  have hv40 := srch_40 hI
  refine CT.of2 2 (by decide) rfl rfl ?_
  refine tr_aload_n eX4_takeBest_0 rfl ?_
  refine tr_cv0 (r0 := none) (σ1 := fun _ _ => 0) eX4_takeBest_1 zv_X4_begin zi_X4_begin lk_X4_37 ⟨rfl, by decide, by decide⟩ rfl rfl rfl (k_X4_begin hI hz) (fun r' ρ hq => ?_)
  try simp (disch := decide) only [up_k, up_s, up_f, s_set_0]
  obtain ⟨rfl, hR⟩ := hq
  refine tr_aload_n eX4_takeBest_4 rfl ?_
  refine tr_getR eX4_takeBest_5 fk_X4_12 rfl rfl ?_
  refine tr_getI eX4_takeBest_8 fk_X4_40 rfl rfl ?_
  try simp (disch := decide) only [up_k, up_s, up_f, s_set_0]
  rw [hR.2.2.2.2.2.1]
  refine tr_if_ne eX4_takeBest_11 (fun h11 => ?_) (fun h11 => ?_)
  · skip
    refine tr_aload_n eX4_takeBest_21 rfl ?_
    refine tr_iconst eX4_takeBest_22 (-1) ci_m1 ?_
    refine tr_put eX4_takeBest_23 fp_X4_51 rfl rfl ?_
    have hRb : RSx (l_srch (aX σ)) (up ρ 20 (nI 8) (-1)) (up ρ 20 (nI 8) (-1)) (s_0 σ) := ⟨by rw [aX_s _ (by decide)]; exact hR.1, by rw [up_k (by decide)]; exact hR.2.1, by rw [up_f (by decide)]; exact hR.2.2.1, by rw [up_f (by decide)]; exact hR.2.2.2.1, fun u hu => by rw [up_k (by decide)]; exact hR.2.2.2.2.1 u hu, by rw [up_k (by decide)]; exact hR.2.2.2.2.2.1, by rw [up_k (by decide)]; exact hR.2.2.2.2.2.2.1, rfl, rfl⟩
    refine tr_aload_n eX4_takeBest_26 rfl ?_
    refine tr_cv0 (r0 := none) (σ1 := fun _ _ => 0) eX4_takeBest_27 zv_X4_goToNextWhole zi_X4_goToNextWhole lk_X4_44 ⟨rfl, by decide, by decide⟩ rfl rfl rfl (k_X4_goToNextWhole h40 hRb (hok (len1 h11))) (fun r' ρ2 hq => ?_)
    try simp (disch := decide) only [up_k, up_s, up_f, s_set_0]
    obtain ⟨rfl, hR2⟩ := hq
    refine tr_istore_n eX4_takeBest_30 (by decide) rfl ?_
    refine tr_iconst eX4_takeBest_31 (nI 0) ci_0 ?_
    refine tr_istore_n eX4_takeBest_32 (by decide) rfl ?_
    have hs0 := hok (len1 h11)
    refine lp_X4_takeBest_33 (R := s_RX σ nS) (nP := nP) (nC := nC) (nV := nV) h40 (fun c σ3 s hR3 hs3 hc hT => ?_) 5000 0 _ ρ2 (run1 (l_srch (aX σ)) nS 15001 (s_0 σ)).2 (by omega) (RSx_self hR2) (run1_ok h40 _ _ hs0) (run1_code _ _ _ _) (fun q => ⟨by have := (run1_tr (l := l_srch (aX σ)) (nS := nS) 15001 (s_0 σ)).2 q; omega, run1_wh h40 _ _ hs0 q⟩) ?_
    · have hbk : BOK (l_srch (aX σ)).length nS (s_RX σ nS).2.2 := runA_b h40 15001 _ _ hs0 (Or.inl rfl)
      refine tr_aload_n eX4_takeBest_59 rfl ?_
      refine tr_cv0 (r0 := none) (σ1 := fun _ _ => 0) eX4_takeBest_60 zv_X4_takeAllOff zi_X4_takeAllOff lk_X4_48 ⟨rfl, by decide, by decide⟩ rfl rfl rfl (k_X4_takeAllOff h40 hv40 hR3.2.2.2.2.2.1 hR3.2.2.2.2.2.2.1) (fun r' ρ4 hq => ?_)
      try simp (disch := decide) only [up_k, up_s, up_f, s_set_0]
      obtain ⟨rfl, o1, o2⟩ := hq
      refine tr_iload_n eX4_takeBest_63 rfl ?_
      refine tr_bipush eX4_takeBest_64 (nI 11) (by decide) ?_
      refine tr_icmp_ne eX4_takeBest_66 (fun h66 => ?_) (fun h66 => ?_)
      · skip
        refine tr_iload_n eX4_takeBest_83 rfl ?_
        refine tr_ret eX4_takeBest_84 rfl rfl ?_
        refine ⟨fun u hu => by rw [o2 26 (by decide)]; exact hR3.2.2.2.2.1 u hu, fun q => absurd (len1 h11) (by omega), fun _ => ?_⟩
        have ec : c = nI 10 := hc.resolve_right h66
        refine Or.inl ?_
        rw [hT]
        exact ⟨ec, by rw [ec], by rw [o1, hR3.1]⟩
      · skip
        refine tr_aload_n eX4_takeBest_69 rfl ?_
        refine tr_getI eX4_takeBest_70 fk_X4_51 rfl rfl ?_
        try simp (disch := decide) only [up_k, up_s, up_f, s_set_0]
        refine tr_iconst eX4_takeBest_73 (-1) ci_m1 ?_
        refine tr_icmp_eq eX4_takeBest_74 (fun h74 => ?_) (fun h74 => ?_)
        · skip
          refine tr_iload_n eX4_takeBest_83 rfl ?_
          refine tr_ret eX4_takeBest_84 rfl rfl ?_
          refine ⟨fun u hu => by rw [o2 26 (by decide)]; exact hR3.2.2.2.2.1 u hu, fun q => absurd (len1 h11) (by omega), fun _ => ?_⟩
          refine Or.inr (Or.inl ?_)
          rw [hT]
          exact ⟨h66, by rw [← o2 20 (by decide)]; exact h74, by rw [h66], by rw [o1, hR3.1]⟩
        · skip
          have hbs : ¬ σ3 20 (nI 8) = -1 := by rw [← o2 20 (by decide)]; exact h74
          have hg : ∀ p, p < (l_srch (aX σ)).length → ¬ ρ4 28 (nI p) = -1 := by
            rw [o2 28 (by decide)]
            rw [hT] at hbk
            exact BOK_ne hbk hI.1.1.2 hbs
          refine tr_aload_n eX4_takeBest_77 rfl ?_
          refine tr_cv0 (r0 := none) (σ1 := fun _ _ => 0) eX4_takeBest_78 zv_X4_putBest zi_X4_putBest lk_X4_57 ⟨rfl, by decide, by decide⟩ rfl rfl rfl (k_X4_putBest h40 hv40 hg (by rw [o2 23 (by decide)]; exact hR3.2.2.2.2.2.1) (by rw [o2 31 (by decide)]; exact hR3.2.2.2.2.2.2.1)) (fun r' ρ5 hq => ?_)
          try simp (disch := decide) only [up_k, up_s, up_f, s_set_0]
          obtain ⟨rfl, p1, p2⟩ := hq
          refine tr_iconst eX4_takeBest_81 (nI 0) ci_0 ?_
          refine tr_ret eX4_takeBest_82 rfl rfl ?_
          refine ⟨fun u hu => by rw [p2 26 (by decide) (by decide) (by decide) (by decide), o2 26 (by decide)]; exact hR3.2.2.2.2.1 u hu, fun q => absurd (len1 h11) (by omega), fun _ => Or.inr (Or.inr ?_)⟩
          rw [hT]
          refine ⟨h66, hbs, rfl, ?_, by rw [p2 20 (by decide) (by decide) (by decide) (by decide), o2 20 (by decide)]⟩
          rw [p1, o1, o2 28 (by decide), hR3.1]
    · rw [hR2.2.2.2.2.2.2.2.1, hR2.2.2.2.2.2.2.2.2, up_s, up_k (by decide), hR.2.2.2.2.2.2.2.1, s_T_run h40 hs0]; rfl
  · skip
    refine tr_aload_n eX4_takeBest_14 rfl ?_
    refine tr_iconst eX4_takeBest_15 (nI 0) ci_0 ?_
    refine tr_put eX4_takeBest_16 fp_X4_51 rfl rfl ?_
    refine tr_iconst eX4_takeBest_19 (nI 0) ci_0 ?_
    refine tr_ret eX4_takeBest_20 rfl rfl ?_
    refine ⟨fun u hu => by rw [up_k (by decide)]; exact hR.2.2.2.2.1 u hu, fun _ => ⟨rfl, by rw [aX_s _ (by decide)]; exact hR.1, up_s⟩, fun q => absurd (len0 h40 h11) (by omega)⟩

theorem s_RX_R {μ : tSt} {nS nP nC nV : Nat} {all : Bool} (h : iA μ nS nP nC nV) (hp : 0 < (l_srch μ).length) {tr b : Int32 → Int32} (h0 : tr (nI 0) = -1) : (runA all (l_srch μ) nS 15001 (1, tr, 0, μ) (-1, b)).1 = (s_R all μ).1 ∧ EQs (runA all (l_srch μ) nS 15001 (1, tr, 0, μ) (-1, b)).2.1 (s_R all μ).2.1 ∧ BEq (l_srch μ).length (runA all (l_srch μ) nS 15001 (1, tr, 0, μ) (-1, b)).2.2 (s_R all μ).2.2 := by
  obtain ⟨h40, hND, hok, hpl⟩ := s_R_ok h tr h0
  unfold s_R
  rw [tn_of h.1.1.1 (by have := h.1.1.2; omega)]
  refine runA_cg h40 15001 _ _ _ _ (hok hp) ⟨rfl, rfl, fun p q => ?_⟩ ⟨rfl, fun q => absurd (show (-1 : Int32) < 0 by decide) q⟩
  have e : p = 0 := by have : p < 1 := q; omega
  subst e
  exact h0
theorem k_X6_most {σ : tSt} {nS nP nC nV : Nat} (hI : iA (aX σ) nS nP nC nV) (hz : aw0 σ) : CT mX6_most [.ref 0] σ (QY (s_srchp true (aX σ))) := by
  refine CT.of2 1 (by decide) rfl rfl ?_
  refine tr_aload_n eX6_most_0 rfl ?_
  refine tr_getR eX6_most_1 fk_X6_37 rfl rfl ?_
  refine tr_cv0 (r0 := none) (σ1 := fun _ _ => 0) eX6_most_4 zv_X4_takeBest zi_X4_takeBest lk_X6_203 ⟨rfl, by decide, by decide⟩ rfl rfl rfl (k_X4_takeBest hI hz) (fun r' ρ hq => ?_)
  try simp (disch := decide) only [up_k, up_s, up_f, s_set_0]
  obtain ⟨ee, er, hu, hcase⟩ : ∃ x, r' = some x ∧ aw0 ρ ∧ ((¬ x = nI 0 ∧ s_srchp true (aX σ) = s_rf (aX ρ) x) ∨ (x = nI 0 ∧ s_srchp true (aX σ) = s_gr (aX ρ) (ρ 20 (nI 8)))) := by
    obtain ⟨q1, q2, q3⟩ := hq
    by_cases hl0 : (l_srch (aX σ)).length = 0
    · obtain ⟨a1, a2, a3⟩ := q2 hl0
      exact ⟨_, a1, q1, Or.inr ⟨rfl, by rw [s_srchp, if_pos hl0, a2, a3]⟩⟩
    · obtain ⟨c1, c2, c3⟩ := s_RX_R (all := true) (tr := upA (σ 27) (nI 0) (-1)) (b := σ 28) hI (by omega) upA_s
      have c1 : (s_RX σ nS).1 = (s_R true (aX σ)).1 := c1
      have c2 : (s_RX σ nS).2.1.2.2 = (s_R true (aX σ)).2.1.2.2 := c2.2.1
      have c3 : BEq (l_srch (aX σ)).length (s_RX σ nS).2.2 (s_R true (aX σ)).2.2 := c3
      have hbk : BOK (l_srch (aX σ)).length nS (s_RX σ nS).2.2 := runA_b (s_R_ok' hI).1 15001 _ _ ((s_R_ok' hI).2.2.1 (by omega)) (Or.inl rfl)
      rcases q3 (by omega) with ⟨a1, a2, a3⟩ | ⟨a1, a2, a3, a4⟩ | ⟨a1, a2, a3, a4, a5⟩
      · exact ⟨_, a2, q1, Or.inl ⟨by decide, by rw [s_srchp, if_neg hl0, if_pos (c1.symm.trans a1), a3, c2]⟩⟩
      · exact ⟨_, a3, q1, Or.inl ⟨by decide, by rw [s_srchp, if_neg hl0, if_neg (by rw [← c1, a1]; decide), if_pos (by rw [← c3.1, a2]; decide), a4, c2]⟩⟩
      · have hb0 := (hbk.resolve_left a2).1
        refine ⟨_, a3, q1, Or.inr ⟨rfl, ?_⟩⟩
        rw [s_srchp, if_neg hl0, if_neg (by rw [← c1, a1]; decide), if_neg (by rw [← c3.1]; exact hb0), if_pos rfl, a4, a5, c2, ← c3.1]
        rw [setA_cg _ 0 _ (fun p _ hp => c3.2 hb0 p (by omega))]
  subst er
  refine tr_istore_n eX6_most_7 (by decide) rfl ?_
  refine tr_iload_n eX6_most_8 rfl ?_
  refine tr_if_ne eX6_most_9 (fun h9 => ?_) (fun h9 => ?_)
  · skip
    refine tr_aload_n eX6_most_26 rfl ?_
    refine tr_iload_n eX6_most_27 rfl ?_
    refine tr_ce1 eX6_most_28 zv_X6_refuse zi_X6_refuse lk_X6_74 ⟨rfl, by decide, by decide⟩ rfl rfl rfl k_X6_refuse ?_
    try simp (disch := decide) only [up_k, up_s, up_f, s_set_0]
    refine tr_ret eX6_most_31 rfl rfl ?_
    rcases hcase with ⟨h1, h2⟩ | ⟨h1, h2⟩
    · refine ⟨?_, ?_, fun u hv => by rw [up_k (by decide)]; exact hu u hv⟩
      · rw [h2]; rfl
      · rw [h2, aX_f0_7]; rfl
    · exact absurd h1 h9
  · skip
    refine tr_aload_n eX6_most_12 rfl ?_
    refine tr_aload_n eX6_most_13 rfl ?_
    refine tr_getR eX6_most_14 fk_X6_37 rfl rfl ?_
    refine tr_getI eX6_most_17 fk_X6_206 rfl rfl ?_
    try simp (disch := decide) only [up_k, up_s, up_f, s_set_0]
    refine tr_ce1 eX6_most_20 zv_X6_grant zi_X6_grant lk_X6_85 ⟨rfl, by decide, by decide⟩ rfl rfl rfl k_X6_grant ?_
    try simp (disch := decide) only [up_k, up_s, up_f, s_set_0]
    refine tr_goto eX6_most_23 ?_
    refine tr_ret eX6_most_31 rfl rfl ?_
    rcases hcase with ⟨h1, h2⟩ | ⟨h1, h2⟩
    · exact absurd h9 h1
    · refine ⟨?_, ?_, fun u hv => by rw [up_k (by decide)]; exact hu u hv⟩
      · rw [h2]; rfl
      · rw [h2, aX_f0_7]; rfl

theorem k_X6_search {σ : tSt} {nS nP nC nV : Nat} (hI : iA (aX σ) nS nP nC nV) (hz : aw0 σ) : CT mX6_search [.ref 0] σ (QY (s_srchp false (aX σ))) := by
  refine CT.of2 1 (by decide) rfl rfl ?_
  refine tr_aload_n eX6_search_0 rfl ?_
  refine tr_getR eX6_search_1 fk_X6_37 rfl rfl ?_
  refine tr_cv0 (r0 := none) (σ1 := fun _ _ => 0) eX6_search_4 zv_X4_takeFirst zi_X4_takeFirst lk_X6_197 ⟨rfl, by decide, by decide⟩ rfl rfl rfl (k_X4_takeFirst hI hz) (fun r' ρ hq => ?_)
  try simp (disch := decide) only [up_k, up_s, up_f, s_set_0]
  obtain ⟨ee, er, hu, hcase⟩ : ∃ x, r' = some x ∧ aw0 ρ ∧ ((¬ x = nI 0 ∧ s_srchp false (aX σ) = s_rf (aX ρ) x) ∨ (x = nI 0 ∧ s_srchp false (aX σ) = s_gr (aX ρ) (ρ 20 (nI 7)))) := by
    obtain ⟨q1, q2, q3⟩ := hq
    obtain ⟨h40, hND, hok, hpl⟩ := s_R_ok' hI
    by_cases hl0 : (l_srch (aX σ)).length = 0
    · obtain ⟨a1, a2, a3⟩ := q2 hl0
      exact ⟨_, a1, q1, Or.inr ⟨rfl, by rw [s_srchp, if_pos hl0, a2, a3]⟩⟩
    · have hs0 := hok (by omega)
      obtain ⟨c1, c2, c3⟩ := s_RX_R (all := false) (tr := upA (σ 27) (nI 0) (-1)) (b := fun _ => 0) hI (by omega) upA_s
      have hm : msr (s_0 σ) < 15001 := by have := hs0.1; unfold msr; omega
      have hrun := runA_run1 (all := false) h40 15001 (s_0 σ) (-1, fun _ => 0) hs0 hm
      have c1 : (runA false (l_srch (aX σ)) nS 15001 (s_0 σ) (-1, fun _ => 0)).1 = (s_R false (aX σ)).1 := c1
      have c2 : (runA false (l_srch (aX σ)) nS 15001 (s_0 σ) (-1, fun _ => 0)).2.1.2.2 = (s_R false (aX σ)).2.1.2.2 := c2.2.1
      have c3 : BEq (l_srch (aX σ)).length (runA false (l_srch (aX σ)) nS 15001 (s_0 σ) (-1, fun _ => 0)).2.2 (s_R false (aX σ)).2.2 := c3
      obtain ⟨a1, a2, a3⟩ := q3 (by omega)
      rw [hrun] at c1 c2 c3
      by_cases hz0 : (run1 (l_srch (aX σ)) nS 15001 (s_0 σ)).1 = nI 0
      · rw [if_pos hz0, if_neg (by decide)] at c1 c2 c3
        rw [if_pos hz0] at a2
        have hkp := kpA_ok (b := (-1, fun _ => 0)) h40 (run1_wh h40 15001 _ hs0 hz0) (Or.inl rfl)
        refine ⟨_, a1, q1, Or.inr ⟨hz0, ?_⟩⟩
        have c2' : (run1 (l_srch (aX σ)) nS 15001 (s_0 σ)).2.2.2 = (s_R false (aX σ)).2.1.2.2 := c2
        rw [s_srchp, if_neg hl0, if_neg (by rw [← c1]; exact n0_10), if_neg (by rw [← c3.1]; exact hkp.2), if_neg (by decide), ← c2', a2, a3]
        have hc0 : ∀ p, p < (l_srch (aX σ)).length → ¬ nI p < 0 ∧ nI p < nI (l_srch (aX σ)).length := fun p hp => ⟨fun q => absurd (nI_pos' (by omega)) (Int32.not_le.mpr q), (nI_ltI (by omega) (by omega)).mpr hp⟩
        rw [set_off h40 (run1_pl h40 hND 15001 _ hs0 hpl hz0) (fun p hp => ?_)]
        rw [← c3.2 hkp.2 p hp]
        have hlt : (-1 : Int32) < nI (cnG (l_srch (aX σ)).length (run1 (l_srch (aX σ)) nS 15001 (s_0 σ)).2) := i32_trans_le (show (-1 : Int32) < 0 by decide) (nI_pos' (by have : cnG (l_srch (aX σ)).length (run1 (l_srch (aX σ)) nS 15001 (s_0 σ)).2 ≤ _ := ct_le _ _ _; omega))
        show (kpA (l_srch (aX σ)).length (run1 (l_srch (aX σ)) nS 15001 (s_0 σ)).2 (-1, fun _ => 0)).2 (nI p) = _
        rw [kpA, if_pos hlt]
        show cpA _ _ _ (nI p) = _
        rw [cpA, if_pos (hc0 p hp)]
      · rw [if_neg hz0] at c1 c2 c3
        rw [if_neg hz0] at a2
        refine ⟨_, a1, q1, Or.inl ⟨hz0, ?_⟩⟩
        have c1' : (run1 (l_srch (aX σ)) nS 15001 (s_0 σ)).1 = (s_R false (aX σ)).1 := c1
        have c2' : (run1 (l_srch (aX σ)) nS 15001 (s_0 σ)).2.2.2 = (s_R false (aX σ)).2.1.2.2 := c2
        rcases (run1_code (l_srch (aX σ)) nS 15001 (s_0 σ)).resolve_left hz0 with e | e
        · rw [s_srchp, if_neg hl0, if_pos (c1'.symm.trans e), a2, c2', e]
        · rw [s_srchp, if_neg hl0, if_neg (by rw [← c1', e]; decide), if_pos (by rw [← c3.1]; exact (show (-1 : Int32) < 0 by decide)), a2, c2', e]
  subst er
  refine tr_istore_n eX6_search_7 (by decide) rfl ?_
  refine tr_iload_n eX6_search_8 rfl ?_
  refine tr_if_ne eX6_search_9 (fun h9 => ?_) (fun h9 => ?_)
  · skip
    refine tr_aload_n eX6_search_26 rfl ?_
    refine tr_iload_n eX6_search_27 rfl ?_
    refine tr_ce1 eX6_search_28 zv_X6_refuse zi_X6_refuse lk_X6_74 ⟨rfl, by decide, by decide⟩ rfl rfl rfl k_X6_refuse ?_
    try simp (disch := decide) only [up_k, up_s, up_f, s_set_0]
    refine tr_ret eX6_search_31 rfl rfl ?_
    rcases hcase with ⟨h1, h2⟩ | ⟨h1, h2⟩
    · refine ⟨?_, ?_, fun u hv => by rw [up_k (by decide)]; exact hu u hv⟩
      · rw [h2]; rfl
      · rw [h2, aX_f0_7]; rfl
    · exact absurd h1 h9
  · skip
    refine tr_aload_n eX6_search_12 rfl ?_
    refine tr_aload_n eX6_search_13 rfl ?_
    refine tr_getR eX6_search_14 fk_X6_37 rfl rfl ?_
    refine tr_getI eX6_search_17 fk_X6_200 rfl rfl ?_
    try simp (disch := decide) only [up_k, up_s, up_f, s_set_0]
    refine tr_ce1 eX6_search_20 zv_X6_grant zi_X6_grant lk_X6_85 ⟨rfl, by decide, by decide⟩ rfl rfl rfl k_X6_grant ?_
    try simp (disch := decide) only [up_k, up_s, up_f, s_set_0]
    refine tr_goto eX6_search_23 ?_
    refine tr_ret eX6_search_31 rfl rfl ?_
    rcases hcase with ⟨h1, h2⟩ | ⟨h1, h2⟩
    · exact absurd h9 h1
    · refine ⟨?_, ?_, fun u hv => by rw [up_k (by decide)]; exact hu u hv⟩
      · rw [h2]; rfl
      · rw [h2, aX_f0_7]; rfl

