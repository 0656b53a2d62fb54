/-! LATE of the class: to make room -/
def mkR (σ ρ : tSt) (v : Int32) (g : Int32 → Bool) : Prop := (∀ k, k ≠ 19 → k ≠ 26 → ρ k = σ k) ∧ ρ 19 (nI 3) = v ∧ ρ 19 (nI 4) = s_kind σ v ∧ ρ 19 (nI 5) = s_wing σ v ∧ ρ 19 (nI 6) = s_need σ v ∧ ∀ u : Nat, u < 40 → ρ 26 (nI u) = bi (g (nI u) = true)
theorem mkR_ax {σ ρ : tSt} {v : Int32} {g : Int32 → Bool} (h : mkR σ ρ v g) : aX ρ = aX σ := aX_offG (fun k hk => h.1 k (by omega) (by omega))
theorem mkR_A {σ ρ : tSt} {nS nP nC nV : Nat} {v : Int32} {g : Int32 → Bool} (hI : iA (aX σ) nS nP nC nV) (h : mkR σ ρ v g) {s a b : Int32} (hs : vp_in s 24) : CT mX2_against [.ref 19, .int s, .int a, .int b] ρ (PE (some (s_A (vd g (aX σ)) v s a b).1) (up ρ 19 (nI 7) (s_A (vd g (aX σ)) v s a b).2)) := by
  have ea := mkR_ax h
  have hI2 : iA (aX ρ) nS nP nC nV := by rw [ea]; exact hI
  have hP := hI2.1.2.1.1
  rw [aX_1] at hP
  have hC := hI2.1.2.2.1.1
  rw [aX_2] at hC
  have hV := hI2.1.2.2.2.1
  rw [aX_3] at hV
  have e := s_A_XG hI2 h.2.2.2.2.2 h.2.1 (by rw [h.2.2.1]; unfold s_kind; rw [h.1 10 (by decide) (by decide)]) (by rw [h.2.2.2.1]; unfold s_wing; rw [h.1 10 (by decide) (by decide)]) (by rw [h.2.2.2.2.1]; unfold s_need; rw [h.1 10 (by decide) (by decide), h.1 11 (by decide) (by decide)]) s a b
  have hag := k_X2_against (σ := ρ) (s := s) (a := a) (b := b) hs hV hI2.1.2.2.2.2 (cOK_aX hI2.2.1.1) hP hI2.1.2.1.2 hC hI2.1.2.2.1.2
  rw [e, ea] at hag
  exact hag
theorem mkR_7 {σ ρ : tSt} {v x : Int32} {g : Int32 → Bool} (h : mkR σ ρ v g) : mkR σ (up ρ 19 (nI 7) x) v g := ⟨fun k a b => by rw [up_k a]; exact h.1 k a b, by rw [up_f (by decide)]; exact h.2.1, by rw [up_f (by decide)]; exact h.2.2.1, by rw [up_f (by decide)]; exact h.2.2.2.1, by rw [up_f (by decide)]; exact h.2.2.2.2.1, fun u hu => by rw [up_k (by decide)]; exact h.2.2.2.2.2 u hu⟩
theorem mkR_26 {σ ρ : tSt} {v : Int32} {g : Int32 → Bool} {w : Nat} {y : Int32} (hw : w < 40) (ey : y = nI w) (h : mkR σ ρ v g) : mkR σ (up ρ 26 (nI w) (nI 1)) v (fun j => decide (j = y) || g j) := ⟨fun k a b => by rw [up_k b]; exact h.1 k a b, by rw [up_k (by decide)]; exact h.2.1, by rw [up_k (by decide)]; exact h.2.2.1, by rw [up_k (by decide)]; exact h.2.2.2.1, by rw [up_k (by decide)]; exact h.2.2.2.2.1, fun u hu => by
  by_cases q : u = w
  · subst q
    rw [up_s, bi, if_pos (by rw [ey]; simp)]
  · have hne := nI_ne (a := u) (b := w) (by omega) (by omega) q
    rw [up_n hne, h.2.2.2.2.2 u hu]
    exact bi_iff (by rw [ey]; simp [hne])⟩
def qMR (σ : tSt) (v : Int32) (G : (Int32 × Int32) × (Int32 → Bool)) (r : Option Int32) (ω : tSt) : Prop := r = some G.1.1 ∧ (∀ k, k ≠ 19 → k ≠ 26 → ω k = σ k) ∧ ω 19 (nI 7) = G.1.2 ∧ (G.1.1 = 0 → ∀ u : Nat, u < 40 → ω 26 (nI u) = bi (G.2 (nI u) = true)) ∧ (¬ G.1.1 = 0 → aw0 ω)
theorem ex_X0_makeRoom {σ ρ : tSt} {v t S A : Int32} {G : (Int32 × Int32) × (Int32 → Bool)} (h : mkR σ ρ v G.2) (h7 : ρ 19 (nI 7) = G.1.2) : TT mX0_makeRoom 114 [.ref 21, .int v, .int t, .null, .int S, .int A, .int G.1.1, .null] [] ρ (qMR σ v G) := by
  refine tr_iload eX0_makeRoom_114 rfl ?_
  refine tr_if_eq eX0_makeRoom_116 (fun h116 => ?_) (fun h116 => ?_)
  · skip
    refine tr_iload eX0_makeRoom_126 rfl ?_
    refine tr_ret eX0_makeRoom_128 rfl rfl ?_
    exact ⟨rfl, h.1, h7, fun _ => h.2.2.2.2.2, fun q => absurd h116 q⟩
  · skip
    refine tr_aload_n eX0_makeRoom_119 rfl ?_
    refine tr_getR eX0_makeRoom_120 fk_X0_29 rfl rfl ?_
    refine tr_cv0 (r0 := none) (σ1 := fun _ _ => 0) eX0_makeRoom_123 zv_X2_callAllBack zi_X2_callAllBack lk_X0_66 ⟨rfl, by decide, by decide⟩ rfl rfl rfl k_X2_callAllBack (fun r' ω hq => ?_)
    try simp (disch := decide) only [up_k, up_s, up_f, s_set_0]
    obtain ⟨rfl, b1, b2⟩ := hq
    refine tr_iload eX0_makeRoom_126 rfl ?_
    refine tr_ret eX0_makeRoom_128 rfl rfl ?_
    exact ⟨rfl, fun k a b => by rw [b1 k b]; exact h.1 k a b, by rw [b1 19 (by decide)]; exact h7, fun q => absurd q h116, fun _ => b2⟩
theorem lp_X0_makeRoom_59 {σ : tSt} {v t S A : Int32} {nS nP nC nV : Nat} (hI : iA (aX σ) nS nP nC nV) (hS : vp_in S 24) : ∀ (f i : Nat) (g : Int32 → Bool) (ρ : tSt), i + f = 40 → gIn nV v g → mkR σ ρ v g → ρ 19 (nI 7) = (s_A (vd g (aX σ)) v S A t).2 → TT mX0_makeRoom 59 [.ref 21, .int v, .int t, .null, .int S, .int A, .int (s_A (vd g (aX σ)) v S A t).1, .int (nI i)] [] ρ (qMR σ v (ltG (aX σ) v S A t f g)) := by
  intro f
  induction f with
  | zero =>
    intro i g ρ hi hg h h7
    have ei : i = 40 := by omega
    subst ei
    refine tr_iload eX0_makeRoom_59 rfl ?_
    refine tr_bipush eX0_makeRoom_61 (nI 40) (by decide) ?_
    refine tr_icmp_ge eX0_makeRoom_63 (fun h63 => ?_) (fun h63 => ?_)
    · skip
      exact TT.fg [7] (ex_X0_makeRoom (G := (_, g)) h h7)
    · skip
      exact absurd (Int32.le_refl _) h63
  | succ f ih =>
    intro i g ρ hi hg h h7
    have ea := mkR_ax h
    have hV40 := hI.1.2.2.2.2
    have hcan : can (aX ρ) ((s_A (vd g (aX σ)) v S A t).1, ρ 19 (nI 7)) = can (aX σ) (s_A (vd g (aX σ)) v S A t) := by rw [ea, h7]
    have hby : (s_A (vd g (aX σ)) v S A t).1 = nI 3 ∨ (s_A (vd g (aX σ)) v S A t).1 = nI 5 → vp_in (ρ 19 (nI 7)) 40 := fun q => by
      obtain ⟨u, hu, e, _⟩ := s_A_by (iA_vd hI g).1 q
      rw [h7, e]
      exact vp_in_nI (by omega) (by decide)
    have hVρ : ρ 18 (nI 6) = nI nV := by
      have := hI.1.2.2.2.1
      rw [aX_3] at this
      rw [h.1 18 (by decide) (by decide)]; exact this
    refine tr_iload eX0_makeRoom_59 rfl ?_
    refine tr_bipush eX0_makeRoom_61 (nI 40) (by decide) ?_
    refine tr_icmp_ge eX0_makeRoom_63 (fun h63 => ?_) (fun h63 => ?_)
    · skip
      exact absurd ((nI_leI (by decide) (by omega)).mp h63) (by omega)
    · skip
      refine tr_iload eX0_makeRoom_66 rfl ?_
      refine tr_if_eq eX0_makeRoom_68 (fun h68 => ?_) (fun h68 => ?_)
      · skip
        have hn : ¬ can (aX σ) (s_A (vd g (aX σ)) v S A t) = true := by
          simp only [can, Bool.and_eq_true, Bool.or_eq_true, decide_eq_true_eq]
          rw [h68]
          exact fun q => absurd q.1 (show ¬ ((0 : Int32) = nI 3 ∨ (0 : Int32) = nI 5) by decide)
        rw [ltG, if_neg hn]
        exact TT.fg [7] (ex_X0_makeRoom (G := (_, g)) h h7)
      · skip
        refine tr_aload_n eX0_makeRoom_71 rfl ?_
        refine tr_iload eX0_makeRoom_72 rfl ?_
        refine tr_ce1 eX0_makeRoom_74 zv_X0_canGo zi_X0_canGo lk_X0_55 ⟨rfl, by decide, by decide⟩ rfl rfl rfl (k_X0_canGo hby) ?_
        try simp (disch := decide) only [up_k, up_s, up_f, s_set_0]
        refine tr_if_eq eX0_makeRoom_77 (fun h77 => ?_) (fun h77 => ?_)
        · skip
          try first | replace h77 := bi_0 h77 | replace h77 := bi_n h77
          rw [hcan] at h77
          rw [ltG, if_neg h77]
          exact TT.fg [7] (ex_X0_makeRoom (G := (_, g)) h h7)
        · skip
          try first | replace h77 := bi_0 h77 | replace h77 := bi_n h77
          rw [hcan] at h77
          obtain ⟨hg2, w, hw, ew, hwv, hgw, hw0⟩ := gIn_step hI hg h77
          have h2 := mkR_26 (by omega) ew h
          refine tr_aload_n eX0_makeRoom_80 rfl ?_
          refine tr_getR eX0_makeRoom_81 fk_X0_29 rfl rfl ?_
          refine tr_aload_n eX0_makeRoom_84 rfl ?_
          refine tr_getR eX0_makeRoom_85 fk_X0_29 rfl rfl ?_
          refine tr_getI eX0_makeRoom_88 fk_X0_59 rfl rfl ?_
          try simp (disch := decide) only [up_k, up_s, up_f, s_set_0]
          rw [h7, ew]
          refine tr_ce1 eX0_makeRoom_91 zv_X2_sendAway zi_X2_sendAway lk_X0_63 ⟨rfl, by decide, by decide⟩ rfl rfl rfl (k_X2_sendAwayN hVρ hw hV40) ?_
          try simp (disch := decide) only [up_k, up_s, up_f, s_set_0]
          refine tr_aload_n eX0_makeRoom_94 rfl ?_
          refine tr_getR eX0_makeRoom_95 fk_X0_29 rfl rfl ?_
          refine tr_iload eX0_makeRoom_98 rfl ?_
          refine tr_iload eX0_makeRoom_100 rfl ?_
          refine tr_iload_n eX0_makeRoom_102 rfl ?_
          refine tr_ce3 eX0_makeRoom_103 zv_X2_against zi_X2_against lk_X0_51 ⟨rfl, by decide, by decide⟩ rfl rfl rfl (mkR_A hI h2 hS) ?_
          try simp (disch := decide) only [up_k, up_s, up_f, s_set_0]
          refine tr_istore eX0_makeRoom_106 (by decide) rfl ?_
          refine tr_iinc eX0_makeRoom_108 _ (by first | with_reducible exact inc_n _ | with_reducible exact ix_s _ _ | with_reducible rfl) rfl (by decide) rfl ?_
          refine tr_goto eX0_makeRoom_111 ?_
          rw [ltG, if_pos h77]
          exact ih (i + 1) _ _ (by omega) hg2 (mkR_7 h2) up_s
theorem k_X0_makeRoom {σ : tSt} {t : Int32} {n c : Nat} {nS nP nC nV : Nat} (hI : iA (aX σ) nS nP nC nV) (hz : aw0 σ) (hn : n < nV) (hc : σ 12 (nI n) = nI c) (hc1 : 1 ≤ c) (hc8 : c ≤ 8) (hS : vp_in (σ 13 (nI n * nI 8 + nI (c - 1))) 24) : CT mX0_makeRoom [.ref 21, .int (nI n), .int t] σ (qMR σ (nI n) (s_G (aX σ) (nI n) t)) := by
  have hV40 := hI.1.2.2.2.2
  have hv : vp_in (nI n) 40 := vp_in_nI (by omega) (by decide)
  have hck : vp_in (nI (c - 1)) 8 := vp_in_nI (by omega) (by decide)
  have hreg : mkR σ (s_reg σ (nI n)) (nI n) (fun _ => false) := by
    refine ⟨fun k a b => ?_, ?_, ?_, ?_, ?_, fun u hu => ?_⟩
    · simp only [s_reg]; rw [up_k a, up_k a, up_k a, up_k a]
    · simp (disch := decide) only [s_reg, up_s, up_f]
    · simp (disch := decide) only [s_reg, up_s, up_f]
    · simp (disch := decide) only [s_reg, up_s, up_f]
    · simp (disch := decide) only [s_reg, up_s, up_f]
    · rw [s_reg_26]; exact hz u hu
  have eG : s_G (aX σ) (nI n) t = ltG (aX σ) (nI n) (σ 13 (nI n * nI 8 + nI (c - 1))) (σ 14 (nI n * nI 8 + nI (c - 1))) t 40 (fun _ => false) := by
    have hc' : aX σ 12 (nI n) = nI c := by rw [aX_k _ (by decide)]; exact hc
    rw [s_G, li_eq hc' hc1, aX_k _ (by decide), aX_k _ (by decide)]
  refine CT.of2 5 (by decide) rfl rfl ?_
  refine tr_aload_n eX0_makeRoom_0 rfl ?_
  refine tr_getR eX0_makeRoom_1 fk_X0_25 rfl rfl ?_
  refine tr_getR eX0_makeRoom_4 fk_X0_33 rfl rfl ?_
  refine tr_iload_n eX0_makeRoom_7 rfl ?_
  refine tr_iald eX0_makeRoom_8 rfl hv ?_
  rw [hc]
  refine tr_iconst eX0_makeRoom_9 (nI 1) ci_1 ?_
  refine tr_isub eX0_makeRoom_10 ?_
  rw [pk_sub hc1]
  refine tr_istore_n eX0_makeRoom_11 (by decide) rfl ?_
  refine tr_aload_n eX0_makeRoom_12 rfl ?_
  refine tr_getR eX0_makeRoom_13 fk_X0_25 rfl rfl ?_
  refine tr_iload_n eX0_makeRoom_16 rfl ?_
  refine tr_iload_n eX0_makeRoom_17 rfl ?_
  refine tr_ce2 eX0_makeRoom_18 zv_X5_standOf zi_X5_standOf lk_X0_38 ⟨rfl, by decide, by decide⟩ rfl rfl rfl (k_X5_standOf hv hck) ?_
  refine tr_istore eX0_makeRoom_21 (by decide) rfl ?_
  refine tr_aload_n eX0_makeRoom_23 rfl ?_
  refine tr_getR eX0_makeRoom_24 fk_X0_25 rfl rfl ?_
  refine tr_iload_n eX0_makeRoom_27 rfl ?_
  refine tr_iload_n eX0_makeRoom_28 rfl ?_
  refine tr_ce2 eX0_makeRoom_29 zv_X5_fromOf zi_X5_fromOf lk_X0_42 ⟨rfl, by decide, by decide⟩ rfl rfl rfl (k_X5_fromOf hv hck) ?_
  refine tr_istore eX0_makeRoom_32 (by decide) rfl ?_
  refine tr_aload_n eX0_makeRoom_34 rfl ?_
  refine tr_getR eX0_makeRoom_35 fk_X0_29 rfl rfl ?_
  refine tr_iload_n eX0_makeRoom_38 rfl ?_
  refine tr_ce1 eX0_makeRoom_39 zv_X2_regard zi_X2_regard lk_X0_45 ⟨rfl, by decide, by decide⟩ rfl rfl rfl (k_X2_regard hv) ?_
  try simp (disch := decide) only [up_k, up_s, up_f, s_set_0]
  refine tr_aload_n eX0_makeRoom_42 rfl ?_
  refine tr_getR eX0_makeRoom_43 fk_X0_29 rfl rfl ?_
  refine tr_iload eX0_makeRoom_46 rfl ?_
  refine tr_iload eX0_makeRoom_48 rfl ?_
  refine tr_iload_n eX0_makeRoom_50 rfl ?_
  refine tr_ce3 eX0_makeRoom_51 zv_X2_against zi_X2_against lk_X0_51 ⟨rfl, by decide, by decide⟩ rfl rfl rfl (mkR_A hI hreg hS) ?_
  try simp (disch := decide) only [up_k, up_s, up_f, s_set_0]
  refine tr_istore eX0_makeRoom_54 (by decide) rfl ?_
  refine tr_iconst eX0_makeRoom_56 (nI 0) ci_0 ?_
  refine tr_istore eX0_makeRoom_57 (by decide) rfl ?_
  rw [eG]
  exact TT.fg [3] (lp_X0_makeRoom_59 hI hS 40 0 _ _ (by omega) (fun j q => absurd q Bool.false_ne_true) (mkR_7 hreg) up_s)

