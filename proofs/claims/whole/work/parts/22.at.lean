/-- the l-th of f ints from i on for which P, else z -/
def kt (P : Int32 → Bool) (z : Int32) : Nat → Nat → Int32 → Int32
  | 0, _, _ => z
  | f + 1, i, l => if P (nI i) = true then (if l = 0 then nI i else kt P z f (i + 1) (l + Int32.ofInt (-1))) else kt P z f (i + 1) l
theorem kt_congr {P R : Int32 → Bool} {z : Int32} : ∀ {f i : Nat} {l : Int32}, (∀ j, i ≤ j → j < i + f → P (nI j) = R (nI j)) → kt P z f i l = kt R z f i l
  | 0, _, _, _ => rfl
  | f + 1, i, l, h => by
    simp only [kt]
    rw [h i (Nat.le_refl _) (by omega), kt_congr (f := f) (i := i + 1) (fun j h1 h2 => h j (by omega) (by omega)), kt_congr (f := f) (i := i + 1) (l := l) (fun j h1 h2 => h j (by omega) (by omega))]
def s_ca (μ : tSt) (n : Nat) (s m : Int32) : Int32 := if s_fc μ n s m (m + nI 1) = -1 then -1 else -2
def s_atp (μ : tSt) (s m k : Int32) : Int32 × tSt := (if s_nst μ s then -1 else if ¬ s_wi m (nI 0) (nI 2879) then -1 else if ¬ 0 ≤ k then -1 else kt (fun v => s_there μ v s m (m + nI 1)) (s_ca μ (tn (μ 0 (nI 2))) s m) (tn (μ 0 (nI 3))) 0 k, μ)
def s_agP (μ : tSt) (n nC nV : Nat) (m w s : Int32) : Int32 × Int32 := s_ag μ n nC nV (s_ne (-1)) (nI 1) w (nI 0) s m (m + nI 1)
def s_crowdp (μ : tSt) (m w k : Int32) : Int32 × tSt := (if ¬ s_wi m (nI 0) (nI 2879) then -1 else if ¬ s_wi w (nI 10) (nI 200) then -1 else if ¬ 0 ≤ k then -1 else kt (fun s => decide ((s_agP μ (tn (μ 0 (nI 1))) (tn (μ 0 (nI 2))) (tn (μ 0 (nI 3))) m w s).1 = 0)) (-1) (tn (μ 0 (nI 0))) 0 k, μ)
theorem dec1 (l : Int32) : l - nI 1 = l + Int32.ofInt (-1) := by rw [Int32.sub_eq_add_neg]; rfl
theorem sub0 (l : Int32) : l - nI 0 = l := by rw [Int32.sub_eq_add_neg, show -nI 0 = 0 from by decide, Int32.add_zero]
theorem m_nat {m : Int32} (h : s_wi m (nI 0) (nI 2879)) : ∃ j : Nat, j ≤ 2879 ∧ m = nI j := by
  obtain ⟨j, hj, rfl⟩ := nI_of h.1
  exact ⟨j, Nat.not_lt.mp fun q => h.2 ((nI_ltI (by decide) hj).mpr q), rfl⟩
theorem lt_m1 {m x : Int32} (h : s_wi m (nI 0) (nI 2879)) : x < m + nI 1 ↔ ¬ m < x := by
  obtain ⟨j, hj, rfl⟩ := m_nat h
  rw [nI_add, Int32.lt_iff_toInt_lt, Int32.lt_iff_toInt_lt, nI_toInt (by omega), nI_toInt (by omega)]
  omega
theorem m_lt {m : Int32} (h : s_wi m (nI 0) (nI 2879)) : m < m + nI 1 := (lt_m1 h).mpr (Int32.lt_irrefl)
theorem m_2880 {m : Int32} (h0 : ¬ m < 0) (h1 : ¬ nI 2880 ≤ m) : s_wi m (nI 0) (nI 2879) := by
  refine ⟨h0, fun q => h1 ?_⟩
  obtain ⟨j, hj, rfl⟩ := nI_of h0
  exact (nI_leI (by decide) hj).mpr (by have := (nI_ltI (by decide) hj).mp q; omega)
theorem m_2880' {m : Int32} (h1 : nI 2880 ≤ m) : ¬ s_wi m (nI 0) (nI 2879) := fun q => by
  obtain ⟨j, hj, rfl⟩ := m_nat q
  have := (nI_leI (by decide) (by omega)).mp h1
  omega
theorem ix_s (x : Int32) (j : Nat) : x + nI j + Int32.ofInt 1 = x + nI (j + 1) := by rw [Int32.add_assoc]; exact congrArg (x + ·) (inc_n j)
theorem lp_X6_at_34 {σ : tSt} {s m k : Int32} {nC nV : Nat} (hV : σ 18 (nI 6) = nI nV) (hV40 : nV ≤ 40) (hcc : cOK σ) (hC : σ 17 (nI 11) = nI nC) (hC20 : nC ≤ 20) : ∀ (f i : Nat) (l : Int32), i + f = nV → TT mX6_at 34 [.ref 0, .int s, .int m, .int k, .int l, .int (nI i)] [] σ (PE (some (kt (fun v => s_there σ v s m (m + nI 1)) (s_ca σ nC s m) f i l)) σ) := by
  intro f
  induction f with
  | zero =>
    intro i l hi
    refine tr_iload eX6_at_34 rfl ?_
    refine tr_aload_n eX6_at_36 rfl ?_
    refine tr_getR eX6_at_37 fk_X6_19 rfl rfl ?_
    refine tr_getI eX6_at_40 fk_X6_124 rfl rfl ?_
    refine tr_icmp_ge eX6_at_43 (fun h43 => ?_) (fun h43 => ?_)
    · skip
      refine tr_aload_n eX6_at_80 rfl ?_
      refine tr_getR eX6_at_81 fk_X6_10 rfl rfl ?_
      refine tr_iload_n eX6_at_84 rfl ?_
      refine tr_iload_n eX6_at_85 rfl ?_
      refine tr_iload_n eX6_at_86 rfl ?_
      refine tr_iconst eX6_at_87 (nI 1) ci_1 ?_
      refine tr_iadd eX6_at_88 ?_
      refine tr_ce3 eX6_at_89 zv_X1_firstCone zi_X1_firstCone lk_X6_257 ⟨rfl, by decide, by decide⟩ rfl rfl rfl (k_X1_firstCone hC hC20) ?_
      refine tr_iconst eX6_at_92 (-1) ci_m1 ?_
      refine tr_icmp_ne eX6_at_93 (fun h93 => ?_) (fun h93 => ?_)
      · skip
        refine tr_bipush eX6_at_100 (-2) (by decide) ?_
        refine tr_ret eX6_at_102 rfl rfl ?_
        exact ⟨congrArg some (by simp only [kt, s_ca]; rw [if_neg h93]), rfl⟩
      · skip
        refine tr_iconst eX6_at_96 (-1) ci_m1 ?_
        refine tr_goto eX6_at_97 ?_
        refine tr_ret eX6_at_102 rfl rfl ?_
        exact ⟨congrArg some (by simp only [kt, s_ca]; rw [if_pos h93]), rfl⟩
    · skip
      exact absurd (lt_of hV (by omega) (by omega) h43) (by omega)
  | succ f ih =>
    intro i l hi
    refine tr_iload eX6_at_34 rfl ?_
    refine tr_aload_n eX6_at_36 rfl ?_
    refine tr_getR eX6_at_37 fk_X6_19 rfl rfl ?_
    refine tr_getI eX6_at_40 fk_X6_124 rfl rfl ?_
    refine tr_icmp_ge eX6_at_43 (fun h43 => ?_) (fun h43 => ?_)
    · skip
      exact absurd (ge_of hV (by omega) (by omega) h43) (by omega)
    · skip
      have hin : vp_in (nI i) 40 := vp_in_nI (by omega) (by decide)
      obtain ⟨cc, hc8, hc⟩ := hcc i (by omega)
      refine tr_aload_n eX6_at_46 rfl ?_
      refine tr_getR eX6_at_47 fk_X6_19 rfl rfl ?_
      refine tr_iload eX6_at_50 rfl ?_
      refine tr_iload_n eX6_at_52 rfl ?_
      refine tr_iload_n eX6_at_53 rfl ?_
      refine tr_iload_n eX6_at_54 rfl ?_
      refine tr_iconst eX6_at_55 (nI 1) ci_1 ?_
      refine tr_iadd eX6_at_56 ?_
      refine tr_ce4 eX6_at_57 zv_X5_isThere zi_X5_isThere lk_X6_254 ⟨rfl, by decide, by decide⟩ rfl rfl rfl (k_X5_isThere hin hc hc8) ?_
      refine tr_if_eq eX6_at_60 (fun h60 => ?_) (fun h60 => ?_)
      · skip
        try first | replace h60 := bi_0 h60 | replace h60 := bi_n h60
        refine tr_iinc eX6_at_74 _ (by first | with_reducible exact inc_n _ | with_reducible exact ix_s _ _ | with_reducible rfl) rfl (by decide) rfl ?_
        refine tr_goto eX6_at_77 ?_
        refine TT.post (ih (i + 1) _ (by omega)) (fun r ρ h => ?_)
        simp only [kt]
        rw [if_neg h60]
        exact h
      · skip
        try first | replace h60 := bi_0 h60 | replace h60 := bi_n h60
        refine tr_iload eX6_at_63 rfl ?_
        refine tr_if_ne eX6_at_65 (fun h65 => ?_) (fun h65 => ?_)
        · skip
          refine tr_iinc eX6_at_71 _ (by first | with_reducible exact inc_n _ | with_reducible exact ix_s _ _ | with_reducible rfl) rfl (by decide) rfl ?_
          refine tr_iinc eX6_at_74 _ (by first | with_reducible exact inc_n _ | with_reducible exact ix_s _ _ | with_reducible rfl) rfl (by decide) rfl ?_
          refine tr_goto eX6_at_77 ?_
          refine TT.post (ih (i + 1) _ (by omega)) (fun r ρ h => ?_)
          simp only [kt]
          rw [if_pos h60, if_neg h65]
          exact h
        · skip
          refine tr_iload eX6_at_68 rfl ?_
          refine tr_ret eX6_at_70 rfl rfl ?_
          exact ⟨congrArg some (by simp only [kt]; rw [if_pos h60, if_pos h65]), rfl⟩
theorem s_there_aX (σ : tSt) (v s a b : Int32) : s_there (aX σ) v s a b = s_there σ v s a b := by simp (disch := decide) only [s_there, s_sa, aX_k]
theorem s_there_aM (σ : tSt) (v s a b : Int32) : s_there (aM σ) v s a b = s_there σ v s a b := by simp (disch := decide) only [s_there, s_sa, aM_k]
theorem s_ca_aX (σ : tSt) (n : Nat) (s m : Int32) : s_ca (aX σ) n s m = s_ca σ n s m := by
  unfold s_ca s_fc
  rw [aX_k σ (k := 7) (by decide), aX_k σ (k := 8) (by decide), aX_k σ (k := 9) (by decide)]
theorem s_ca_aM (σ : tSt) (n : Nat) (s m : Int32) : s_ca (aM σ) n s m = s_ca σ n s m := by
  unfold s_ca s_fc
  rw [aM_k σ (k := 7) (by decide), aM_k σ (k := 8) (by decide), aM_k σ (k := 9) (by decide)]
theorem ge0 {k : Int32} (h : k < 0) : ¬ 0 ≤ k := Int32.not_le.mpr h
theorem k_X6_at {σ : tSt} {nS nP nC nV : Nat} {s m k : Int32} (hI : iA (aX σ) nS nP nC nV) : CT mX6_at [.ref 0, .int s, .int m, .int k] σ (QX σ (s_atp (aX σ) s m k)) := by
  have hI0 := hI.1
  have hS := hI0.1.1
  rw [aX_0] at hS
  have hP := hI0.2.1.1
  rw [aX_1] at hP
  have hC := hI0.2.2.1.1
  rw [aX_2] at hC
  have hV := hI0.2.2.2.1
  rw [aX_3] at hV
  have hS24 := hI0.1.2
  have hP40 := hI0.2.1.2
  have hC20 := hI0.2.2.1.2
  have hV40 := hI0.2.2.2.2
  have hcc := cOK_aX hI.2.1.1
  refine CT.of2 2 (by decide) rfl rfl ?_
  refine tr_aload_n eX6_at_0 rfl ?_
  refine tr_getR eX6_at_1 fk_X6_10 rfl rfl ?_
  refine tr_iload_n eX6_at_4 rfl ?_
  refine tr_ce1 eX6_at_5 zv_X1_hasStand zi_X1_hasStand lk_X6_88 ⟨rfl, by decide, by decide⟩ rfl rfl rfl k_X1_hasStand ?_
  refine tr_if_eq eX6_at_8 (fun h8 => ?_) (fun h8 => ?_)
  · skip
    try first | replace h8 := bi_0 h8 | replace h8 := bi_n h8
    refine tr_iconst eX6_at_26 (-1) ci_m1 ?_
    refine tr_ret eX6_at_27 rfl rfl ?_
    refine ⟨congrArg some ?_, rfl, rfl⟩
    simp only [s_atp]
    rw [if_pos (by rw [s_nst, aX_0]; exact h8)]
  · skip
    try first | replace h8 := bi_0 h8 | replace h8 := bi_n h8
    refine tr_iload_n eX6_at_11 rfl ?_
    refine tr_iconst eX6_at_12 (nI 0) ci_0 ?_
    refine tr_sipush eX6_at_13 (nI 2879) (by decide) ?_
    refine tr_se3 eX6_at_16 zv_X6_isWithin zs_X6_isWithin lk_X6_70 ⟨rfl, by decide, by decide⟩ rfl k_X6_isWithin ?_
    refine tr_if_eq eX6_at_19 (fun h19 => ?_) (fun h19 => ?_)
    · skip
      try first | replace h19 := bi_0 h19 | replace h19 := bi_n h19
      refine tr_iconst eX6_at_26 (-1) ci_m1 ?_
      refine tr_ret eX6_at_27 rfl rfl ?_
      refine ⟨congrArg some ?_, rfl, rfl⟩
      simp only [s_atp]
      rw [if_neg (by rw [s_nst, aX_0]; exact fun q => q h8), if_pos h19]
    · skip
      try first | replace h19 := bi_0 h19 | replace h19 := bi_n h19
      refine tr_iload_n eX6_at_22 rfl ?_
      refine tr_if_ge eX6_at_23 (fun h23 => ?_) (fun h23 => ?_)
      · skip
        refine tr_iload_n eX6_at_28 rfl ?_
        refine tr_istore eX6_at_29 (by decide) rfl ?_
        refine tr_iconst eX6_at_31 (nI 0) ci_0 ?_
        refine tr_istore eX6_at_32 (by decide) rfl ?_
        refine TT.post (lp_X6_at_34 hV hV40 hcc hC hC20 nV 0 k (by omega)) (fun r ρ h => ?_)
        obtain ⟨rfl, rfl⟩ := h
        refine ⟨congrArg some ?_, rfl, rfl⟩
        simp only [s_atp]
        rw [if_neg (by rw [s_nst, aX_0]; exact fun q => q h8), if_neg (fun q => q h19), if_neg (fun q => q h23), tn_of (hI.1.2.2.1.1) (show nC < 2 ^ 31 by omega), tn_of (hI.1.2.2.2.1) (show nV < 2 ^ 31 by omega)]
        simp only [s_there_aX, s_ca_aX]
      · skip
        refine tr_iconst eX6_at_26 (-1) ci_m1 ?_
        refine tr_ret eX6_at_27 rfl rfl ?_
        refine ⟨congrArg some ?_, rfl, rfl⟩
        simp only [s_atp]
        rw [if_neg (by rw [s_nst, aX_0]; exact fun q => q h8), if_neg (fun q => q h19), if_pos h23]

theorem ix_n {i j : Nat} : nI i * nI 8 + nI j = nI (i * 8 + j) := by rw [pk_mul, nI_add]
theorem ix_0 {i : Nat} : nI i * nI 8 = nI i * nI 8 + nI 0 := (add_n0 _).symm
theorem saT {σ : tSt} {v k s m : Int32} (hm : s_wi m (nI 0) (nI 2879)) : s_sa σ v k s m (m + nI 1) = true ↔ σ 13 (v * nI 8 + k) = s ∧ ¬ m < σ 14 (v * nI 8 + k) ∧ ¬ σ 15 (v * nI 8 + k) ≤ m := by
  simp only [s_sa, Bool.and_eq_true, decide_eq_true_eq]
  rw [lt_m1 hm, Int32.not_le, and_assoc]
theorem lp_X7_at_50 {τ : tSt} {s m k : Int32} {nC nV : Nat} (hm : s_wi m (nI 0) (nI 2879)) (hV : τ 0 (nI 6) = nI nV) (hV40 : nV ≤ 40) (hcc : cOK τ) (hC : τ 0 (nI 5) = nI nC) (hC20 : nC ≤ 20) {Q : Option Int32 → tSt → Prop} {i cc : Nat} {l : Int32} (hi : i < 40) (hc : τ 12 (nI i) = nI cc) (hc8 : cc ≤ 8) :
    ∀ (f j : Nat) (b : Bool), j + f = cc → (∀ b' : Bool, b' = (b || an (fun j => s_sa τ (nI i) j s m (m + nI 1)) f j) → TT mX7_at 119 [.ref 0, .int s, .int m, .int k, .int l, .int (nI i), .int (bi (b' = true)), .null] [] τ Q) → TT mX7_at 50 [.ref 0, .int s, .int m, .int k, .int l, .int (nI i), .int (bi (b = true)), .int (nI i * nI 8 + nI j)] [] τ Q := by
  have hin : vp_in (nI i) 40 := vp_in_nI hi (by decide)
  intro f
  induction f with
  | zero =>
    intro j b hj kk
    refine tr_iload eX7_at_50 rfl ?_
    refine tr_bipush eX7_at_52 (nI 8) (by decide) ?_
    refine tr_iload eX7_at_54 rfl ?_
    refine tr_imulC eX7_at_56 ?_
    refine tr_aload_n eX7_at_57 rfl ?_
    refine tr_getR eX7_at_58 fk_X7_50 rfl rfl ?_
    refine tr_iload eX7_at_61 rfl ?_
    refine tr_iald eX7_at_63 rfl (by first | with_reducible assumption | with_reducible exact in_slot (by with_reducible assumption) (by with_reducible assumption) | with_reducible exact in_row _ (by decide) (by with_reducible assumption) | with_reducible exact in_row0 (by with_reducible assumption) | with_reducible exact in_slot0 (by with_reducible assumption) | (simp (disch := decide) only [up_k, up_s, up_f] <;> with_reducible assumption)) ?_
    rw [hc]
    refine tr_iadd eX7_at_64 ?_
    refine tr_icmp_ge eX7_at_65 (fun h65 => ?_) (fun h65 => ?_)
    · skip
      exact TT.fg [7] (kk b (by rw [an_0, Bool.or_false]))
    · skip
      exact absurd (by rw [ix_n, ix_n]; exact nI_le (by omega) (by omega)) h65
  | succ f ih =>
    intro j b hj kk
    refine tr_iload eX7_at_50 rfl ?_
    refine tr_bipush eX7_at_52 (nI 8) (by decide) ?_
    refine tr_iload eX7_at_54 rfl ?_
    refine tr_imulC eX7_at_56 ?_
    refine tr_aload_n eX7_at_57 rfl ?_
    refine tr_getR eX7_at_58 fk_X7_50 rfl rfl ?_
    refine tr_iload eX7_at_61 rfl ?_
    refine tr_iald eX7_at_63 rfl (by first | with_reducible assumption | with_reducible exact in_slot (by with_reducible assumption) (by with_reducible assumption) | with_reducible exact in_row _ (by decide) (by with_reducible assumption) | with_reducible exact in_row0 (by with_reducible assumption) | with_reducible exact in_slot0 (by with_reducible assumption) | (simp (disch := decide) only [up_k, up_s, up_f] <;> with_reducible assumption)) ?_
    rw [hc]
    refine tr_iadd eX7_at_64 ?_
    refine tr_icmp_ge eX7_at_65 (fun h65 => ?_) (fun h65 => ?_)
    · skip
      exact absurd h65 (by rw [ix_n, ix_n]; exact nI_ge (by omega) (by omega))
    · skip
      have hk : vp_in (nI j) 8 := vp_in_nI (by omega) (by decide)
      refine tr_iload eX7_at_68 rfl ?_
      refine tr_if_ne eX7_at_70 (fun h70 => ?_) (fun h70 => ?_)
      · skip
        try first | replace h70 := bi_0 h70 | replace h70 := bi_n h70
        refine tr_iconst eX7_at_106 (nI 1) ci_1 ?_
        refine tr_goto eX7_at_107 ?_
        refine tr_istore eX7_at_111 (by decide) rfl ?_
        refine tr_iinc eX7_at_113 _ (by first | with_reducible exact inc_n _ | with_reducible exact ix_s _ _ | with_reducible rfl) rfl (by decide) rfl ?_
        refine tr_goto eX7_at_116 ?_
        refine ih (j + 1) true (by omega) (fun b' hb => kk b' ?_)
        rw [hb, Bool.true_or]
        simp only [an]
        rw [h70, Bool.true_or]
      · skip
        try first | replace h70 := bi_0 h70 | replace h70 := bi_n h70
        refine tr_aload_n eX7_at_73 rfl ?_
        refine tr_getR eX7_at_74 fk_X7_53 rfl rfl ?_
        refine tr_iload eX7_at_77 rfl ?_
        refine tr_iald eX7_at_79 rfl (by first | with_reducible assumption | with_reducible exact in_slot (by with_reducible assumption) (by with_reducible assumption) | with_reducible exact in_row _ (by decide) (by with_reducible assumption) | with_reducible exact in_row0 (by with_reducible assumption) | with_reducible exact in_slot0 (by with_reducible assumption) | (simp (disch := decide) only [up_k, up_s, up_f] <;> with_reducible assumption)) ?_
        refine tr_iload_n eX7_at_80 rfl ?_
        refine tr_icmp_ne eX7_at_81 (fun h81 => ?_) (fun h81 => ?_)
        · skip
          refine tr_iconst eX7_at_110 (nI 0) ci_0 ?_
          refine tr_istore eX7_at_111 (by decide) rfl ?_
          refine tr_iinc eX7_at_113 _ (by first | with_reducible exact inc_n _ | with_reducible exact ix_s _ _ | with_reducible rfl) rfl (by decide) rfl ?_
          refine tr_goto eX7_at_116 ?_
          refine ih (j + 1) false (by omega) (fun b' hb => kk b' ?_)
          rw [hb]
          simp only [an]
          rw [show b = false from by simpa using h70, show s_sa τ (nI i) (nI j) s m (m + nI 1) = false from by
            cases hq : s_sa τ (nI i) (nI j) s m (m + nI 1) with
            | false => rfl
            | true =>
              obtain ⟨g1, g2, g3⟩ := (saT hm).mp hq
              first | exact absurd g1 h81 | exact absurd h92 g2 | exact absurd h103 g3, Bool.false_or, Bool.false_or]
        · skip
          refine tr_aload_n eX7_at_84 rfl ?_
          refine tr_getR eX7_at_85 fk_X7_56 rfl rfl ?_
          refine tr_iload eX7_at_88 rfl ?_
          refine tr_iald eX7_at_90 rfl (by first | with_reducible assumption | with_reducible exact in_slot (by with_reducible assumption) (by with_reducible assumption) | with_reducible exact in_row _ (by decide) (by with_reducible assumption) | with_reducible exact in_row0 (by with_reducible assumption) | with_reducible exact in_slot0 (by with_reducible assumption) | (simp (disch := decide) only [up_k, up_s, up_f] <;> with_reducible assumption)) ?_
          refine tr_iload_n eX7_at_91 rfl ?_
          refine tr_icmp_gt eX7_at_92 (fun h92 => ?_) (fun h92 => ?_)
          · skip
            refine tr_iconst eX7_at_110 (nI 0) ci_0 ?_
            refine tr_istore eX7_at_111 (by decide) rfl ?_
            refine tr_iinc eX7_at_113 _ (by first | with_reducible exact inc_n _ | with_reducible exact ix_s _ _ | with_reducible rfl) rfl (by decide) rfl ?_
            refine tr_goto eX7_at_116 ?_
            refine ih (j + 1) false (by omega) (fun b' hb => kk b' ?_)
            rw [hb]
            simp only [an]
            rw [show b = false from by simpa using h70, show s_sa τ (nI i) (nI j) s m (m + nI 1) = false from by
              cases hq : s_sa τ (nI i) (nI j) s m (m + nI 1) with
              | false => rfl
              | true =>
                obtain ⟨g1, g2, g3⟩ := (saT hm).mp hq
                first | exact absurd g1 h81 | exact absurd h92 g2 | exact absurd h103 g3, Bool.false_or, Bool.false_or]
          · skip
            refine tr_aload_n eX7_at_95 rfl ?_
            refine tr_getR eX7_at_96 fk_X7_59 rfl rfl ?_
            refine tr_iload eX7_at_99 rfl ?_
            refine tr_iald eX7_at_101 rfl (by first | with_reducible assumption | with_reducible exact in_slot (by with_reducible assumption) (by with_reducible assumption) | with_reducible exact in_row _ (by decide) (by with_reducible assumption) | with_reducible exact in_row0 (by with_reducible assumption) | with_reducible exact in_slot0 (by with_reducible assumption) | (simp (disch := decide) only [up_k, up_s, up_f] <;> with_reducible assumption)) ?_
            refine tr_iload_n eX7_at_102 rfl ?_
            refine tr_icmp_le eX7_at_103 (fun h103 => ?_) (fun h103 => ?_)
            · skip
              refine tr_iconst eX7_at_110 (nI 0) ci_0 ?_
              refine tr_istore eX7_at_111 (by decide) rfl ?_
              refine tr_iinc eX7_at_113 _ (by first | with_reducible exact inc_n _ | with_reducible exact ix_s _ _ | with_reducible rfl) rfl (by decide) rfl ?_
              refine tr_goto eX7_at_116 ?_
              refine ih (j + 1) false (by omega) (fun b' hb => kk b' ?_)
              rw [hb]
              simp only [an]
              rw [show b = false from by simpa using h70, show s_sa τ (nI i) (nI j) s m (m + nI 1) = false from by
                cases hq : s_sa τ (nI i) (nI j) s m (m + nI 1) with
                | false => rfl
                | true =>
                  obtain ⟨g1, g2, g3⟩ := (saT hm).mp hq
                  first | exact absurd g1 h81 | exact absurd h92 g2 | exact absurd h103 g3, Bool.false_or, Bool.false_or]
            · skip
              refine tr_iconst eX7_at_106 (nI 1) ci_1 ?_
              refine tr_goto eX7_at_107 ?_
              refine tr_istore eX7_at_111 (by decide) rfl ?_
              refine tr_iinc eX7_at_113 _ (by first | with_reducible exact inc_n _ | with_reducible exact ix_s _ _ | with_reducible rfl) rfl (by decide) rfl ?_
              refine tr_goto eX7_at_116 ?_
              refine ih (j + 1) true (by omega) (fun b' hb => kk b' ?_)
              rw [hb, Bool.true_or]
              simp only [an]
              rw [(saT hm).mpr ⟨h81, h92, h103⟩, Bool.true_or, Bool.or_true]
theorem lp_X7_at_156 {τ : tSt} {s m k : Int32} {nC nV : Nat} (hm : s_wi m (nI 0) (nI 2879)) (hV : τ 0 (nI 6) = nI nV) (hV40 : nV ≤ 40) (hcc : cOK τ) (hC : τ 0 (nI 5) = nI nC) (hC20 : nC ≤ 20) : ∀ f i : Nat, i + f = nC → TT mX7_at 156 [.ref 0, .int s, .int m, .int k, .null, .int (nI i), .null, .null] [] τ (PE (some (if fi (fun c => decide (τ 7 c = s) && s_hc m (m + nI 1) (τ 8 c) (τ 9 c)) f i = -1 then -1 else -2)) τ) := by
  intro f
  induction f with
  | zero =>
    intro i hi
    refine tr_iload eX7_at_156 rfl ?_
    refine tr_aload_n eX7_at_158 rfl ?_
    refine tr_getI eX7_at_159 fk_X7_110 rfl rfl ?_
    refine tr_icmp_ge eX7_at_162 (fun h162 => ?_) (fun h162 => ?_)
    · skip
      refine tr_iconst eX7_at_207 (-1) ci_m1 ?_
      refine tr_ret eX7_at_208 rfl rfl ?_
      exact ⟨rfl, rfl⟩
    · skip
      exact absurd (lt_of hC (by omega) (by omega) h162) (by omega)
  | succ f ih =>
    intro i hi
    refine tr_iload eX7_at_156 rfl ?_
    refine tr_aload_n eX7_at_158 rfl ?_
    refine tr_getI eX7_at_159 fk_X7_110 rfl rfl ?_
    refine tr_icmp_ge eX7_at_162 (fun h162 => ?_) (fun h162 => ?_)
    · skip
      exact absurd (ge_of hC (by omega) (by omega) h162) (by omega)
    · skip
      have hin : vp_in (nI i) 20 := vp_in_nI (by omega) (by decide)
      refine tr_aload_n eX7_at_165 rfl ?_
      refine tr_getR eX7_at_166 fk_X7_35 rfl rfl ?_
      refine tr_iload eX7_at_169 rfl ?_
      refine tr_iald eX7_at_171 rfl (by first | with_reducible assumption | with_reducible exact in_slot (by with_reducible assumption) (by with_reducible assumption) | with_reducible exact in_row _ (by decide) (by with_reducible assumption) | with_reducible exact in_row0 (by with_reducible assumption) | with_reducible exact in_slot0 (by with_reducible assumption) | (simp (disch := decide) only [up_k, up_s, up_f] <;> with_reducible assumption)) ?_
      refine tr_iload_n eX7_at_172 rfl ?_
      refine tr_icmp_ne eX7_at_173 (fun h173 => ?_) (fun h173 => ?_)
      · skip
        refine tr_iinc eX7_at_201 _ (by first | with_reducible exact inc_n _ | with_reducible exact ix_s _ _ | with_reducible rfl) rfl (by decide) rfl ?_
        refine tr_goto eX7_at_204 ?_
        refine TT.post (ih (i + 1) (by omega)) (fun r ρ h => ?_)
        have e : fi (fun c => decide (τ 7 c = s) && s_hc m (m + nI 1) (τ 8 c) (τ 9 c)) (f + 1) i = fi (fun c => decide (τ 7 c = s) && s_hc m (m + nI 1) (τ 8 c) (τ 9 c)) f (i + 1) := by
          rw [fi, if_neg (fun q => ?_)]
          simp only [s_hc, Bool.and_eq_true, decide_eq_true_eq] at q
          first | exact absurd q.1 h173 | exact absurd h184 ((lt_m1 hm).mp q.2.2) | exact absurd h195 (Int32.not_le.mpr q.2.1)
        rw [e]
        exact h
      · skip
        refine tr_aload_n eX7_at_176 rfl ?_
        refine tr_getR eX7_at_177 fk_X7_38 rfl rfl ?_
        refine tr_iload eX7_at_180 rfl ?_
        refine tr_iald eX7_at_182 rfl (by first | with_reducible assumption | with_reducible exact in_slot (by with_reducible assumption) (by with_reducible assumption) | with_reducible exact in_row _ (by decide) (by with_reducible assumption) | with_reducible exact in_row0 (by with_reducible assumption) | with_reducible exact in_slot0 (by with_reducible assumption) | (simp (disch := decide) only [up_k, up_s, up_f] <;> with_reducible assumption)) ?_
        refine tr_iload_n eX7_at_183 rfl ?_
        refine tr_icmp_gt eX7_at_184 (fun h184 => ?_) (fun h184 => ?_)
        · skip
          refine tr_iinc eX7_at_201 _ (by first | with_reducible exact inc_n _ | with_reducible exact ix_s _ _ | with_reducible rfl) rfl (by decide) rfl ?_
          refine tr_goto eX7_at_204 ?_
          refine TT.post (ih (i + 1) (by omega)) (fun r ρ h => ?_)
          have e : fi (fun c => decide (τ 7 c = s) && s_hc m (m + nI 1) (τ 8 c) (τ 9 c)) (f + 1) i = fi (fun c => decide (τ 7 c = s) && s_hc m (m + nI 1) (τ 8 c) (τ 9 c)) f (i + 1) := by
            rw [fi, if_neg (fun q => ?_)]
            simp only [s_hc, Bool.and_eq_true, decide_eq_true_eq] at q
            first | exact absurd q.1 h173 | exact absurd h184 ((lt_m1 hm).mp q.2.2) | exact absurd h195 (Int32.not_le.mpr q.2.1)
          rw [e]
          exact h
        · skip
          refine tr_aload_n eX7_at_187 rfl ?_
          refine tr_getR eX7_at_188 fk_X7_41 rfl rfl ?_
          refine tr_iload eX7_at_191 rfl ?_
          refine tr_iald eX7_at_193 rfl (by first | with_reducible assumption | with_reducible exact in_slot (by with_reducible assumption) (by with_reducible assumption) | with_reducible exact in_row _ (by decide) (by with_reducible assumption) | with_reducible exact in_row0 (by with_reducible assumption) | with_reducible exact in_slot0 (by with_reducible assumption) | (simp (disch := decide) only [up_k, up_s, up_f] <;> with_reducible assumption)) ?_
          refine tr_iload_n eX7_at_194 rfl ?_
          refine tr_icmp_le eX7_at_195 (fun h195 => ?_) (fun h195 => ?_)
          · skip
            refine tr_iinc eX7_at_201 _ (by first | with_reducible exact inc_n _ | with_reducible exact ix_s _ _ | with_reducible rfl) rfl (by decide) rfl ?_
            refine tr_goto eX7_at_204 ?_
            refine TT.post (ih (i + 1) (by omega)) (fun r ρ h => ?_)
            have e : fi (fun c => decide (τ 7 c = s) && s_hc m (m + nI 1) (τ 8 c) (τ 9 c)) (f + 1) i = fi (fun c => decide (τ 7 c = s) && s_hc m (m + nI 1) (τ 8 c) (τ 9 c)) f (i + 1) := by
              rw [fi, if_neg (fun q => ?_)]
              simp only [s_hc, Bool.and_eq_true, decide_eq_true_eq] at q
              first | exact absurd q.1 h173 | exact absurd h184 ((lt_m1 hm).mp q.2.2) | exact absurd h195 (Int32.not_le.mpr q.2.1)
            rw [e]
            exact h
          · skip
            refine tr_bipush eX7_at_198 (-2) (by decide) ?_
            refine tr_ret eX7_at_200 rfl rfl ?_
            refine ⟨congrArg some ?_, rfl⟩
            rw [← fi_t (P := fun c => decide (τ 7 c = s) && s_hc m (m + nI 1) (τ 8 c) (τ 9 c)) (by simp only [s_hc, Bool.and_eq_true, decide_eq_true_eq]; exact ⟨h173, Int32.not_le.mp h195, (lt_m1 hm).mpr h184⟩), if_neg (nI_ne_m1 (by omega))]
theorem lp_X7_at_31 {τ : tSt} {s m k : Int32} {nC nV : Nat} (hm : s_wi m (nI 0) (nI 2879)) (hV : τ 0 (nI 6) = nI nV) (hV40 : nV ≤ 40) (hcc : cOK τ) (hC : τ 0 (nI 5) = nI nC) (hC20 : nC ≤ 20) : ∀ (f i : Nat) (l : Int32), i + f = nV → TT mX7_at 31 [.ref 0, .int s, .int m, .int k, .int l, .int (nI i), .null, .null] [] τ (PE (some (kt (fun v => s_there τ v s m (m + nI 1)) (s_ca τ nC s m) f i l)) τ) := by
  intro f
  induction f with
  | zero =>
    intro i l hi
    refine tr_iload eX7_at_31 rfl ?_
    refine tr_aload_n eX7_at_33 rfl ?_
    refine tr_getI eX7_at_34 fk_X7_89 rfl rfl ?_
    refine tr_icmp_ge eX7_at_37 (fun h37 => ?_) (fun h37 => ?_)
    · skip
      refine tr_iconst eX7_at_153 (nI 0) ci_0 ?_
      refine tr_istore eX7_at_154 (by decide) rfl ?_
      exact TT.fg [4] (lp_X7_at_156 hm hV hV40 hcc hC hC20 nC 0 (by omega))
    · skip
      exact absurd (lt_of hV (by omega) (by omega) h37) (by omega)
  | succ f ih =>
    intro i l hi
    refine tr_iload eX7_at_31 rfl ?_
    refine tr_aload_n eX7_at_33 rfl ?_
    refine tr_getI eX7_at_34 fk_X7_89 rfl rfl ?_
    refine tr_icmp_ge eX7_at_37 (fun h37 => ?_) (fun h37 => ?_)
    · skip
      exact absurd (ge_of hV (by omega) (by omega) h37) (by omega)
    · skip
      have hin : vp_in (nI i) 40 := vp_in_nI (by omega) (by decide)
      obtain ⟨cc, hc8, hc⟩ := hcc i (by omega)
      refine tr_iconst eX7_at_40 (nI 0) ci_0 ?_
      refine tr_istore eX7_at_41 (by decide) rfl ?_
      refine tr_bipush eX7_at_43 (nI 8) (by decide) ?_
      refine tr_iload eX7_at_45 rfl ?_
      refine tr_imulC eX7_at_47 ?_
      refine tr_istore eX7_at_48 (by decide) rfl ?_
      rw [ix_0]
      refine lp_X7_at_50 hm hV hV40 hcc hC hC20 (show i < 40 by omega) hc hc8 cc 0 false (by omega) (fun b' hb => ?_)
      have hth : s_there τ (nI i) s m (m + nI 1) = b' := by rw [s_there, tn_of hc (by omega), hb, Bool.false_or]
      refine tr_iload eX7_at_119 rfl ?_
      refine tr_if_eq eX7_at_121 (fun h121 => ?_) (fun h121 => ?_)
      · skip
        try first | replace h121 := bi_0 h121 | replace h121 := bi_n h121
        refine tr_iload eX7_at_132 rfl ?_
        refine tr_iload eX7_at_134 rfl ?_
        refine tr_if_eq eX7_at_136 (fun h136 => ?_) (fun h136 => ?_)
        · skip
          try first | replace h136 := bi_0 h136 | replace h136 := bi_n h136
          skip
          refine tr_iconst eX7_at_143 (nI 0) ci_0 ?_
          refine tr_isub eX7_at_144 ?_
          rw [sub0]
          refine tr_istore eX7_at_145 (by decide) rfl ?_
          refine tr_iinc eX7_at_147 _ (by first | with_reducible exact inc_n _ | with_reducible exact ix_s _ _ | with_reducible rfl) rfl (by decide) rfl ?_
          refine tr_goto eX7_at_150 ?_
          refine TT.fg [6] (TT.post (ih (i + 1) _ (by omega)) (fun r ρ h => ?_))
          simp only [kt]
          rw [if_neg (by rw [hth]; exact h121)]
          exact h
        · skip
          try first | replace h136 := bi_0 h136 | replace h136 := bi_n h136
          exact absurd h136 h121
      · skip
        try first | replace h121 := bi_0 h121 | replace h121 := bi_n h121
        refine tr_iload eX7_at_124 rfl ?_
        refine tr_if_ne eX7_at_126 (fun h126 => ?_) (fun h126 => ?_)
        · skip
          refine tr_iload eX7_at_132 rfl ?_
          refine tr_iload eX7_at_134 rfl ?_
          refine tr_if_eq eX7_at_136 (fun h136 => ?_) (fun h136 => ?_)
          · skip
            try first | replace h136 := bi_0 h136 | replace h136 := bi_n h136
            exact absurd h121 h136
          · skip
            try first | replace h136 := bi_0 h136 | replace h136 := bi_n h136
            skip
            refine tr_iconst eX7_at_139 (nI 1) ci_1 ?_
            refine tr_goto eX7_at_140 ?_
            refine tr_isub eX7_at_144 ?_
            rw [dec1]
            refine tr_istore eX7_at_145 (by decide) rfl ?_
            refine tr_iinc eX7_at_147 _ (by first | with_reducible exact inc_n _ | with_reducible exact ix_s _ _ | with_reducible rfl) rfl (by decide) rfl ?_
            refine tr_goto eX7_at_150 ?_
            refine TT.fg [6] (TT.post (ih (i + 1) _ (by omega)) (fun r ρ h => ?_))
            simp only [kt]
            rw [if_pos (by rw [hth]; exact h121), if_neg h126]
            exact h
        · skip
          refine tr_iload eX7_at_129 rfl ?_
          refine tr_ret eX7_at_131 rfl rfl ?_
          refine ⟨congrArg some ?_, rfl⟩
          simp only [kt]
          rw [if_pos (by rw [hth]; exact h121), if_pos h126]
theorem k_X7_at {τ : tSt} {nS nP nC nV : Nat} {s m k : Int32} (hI : iA (aM τ) nS nP nC nV) : CT mX7_at [.ref 0, .int s, .int m, .int k] τ (QM (s_atp (aM τ) s m k)) := by
  have hI0 := hI.1
  have hS := hI0.1.1
  rw [aM_0] at hS
  have hP := hI0.2.1.1
  rw [aM_1] at hP
  have hC := hI0.2.2.1.1
  rw [aM_2] at hC
  have hV := hI0.2.2.2.1
  rw [aM_3] at hV
  have hS24 := hI0.1.2
  have hP40 := hI0.2.1.2
  have hC20 := hI0.2.2.1.2
  have hV40 := hI0.2.2.2.2
  have hcc := cOK_aM hI.2.1.1
  refine CT.of2 4 (by decide) rfl rfl ?_
  refine tr_aload_n eX7_at_0 rfl ?_
  refine tr_iload_n eX7_at_1 rfl ?_
  refine tr_ce1 eX7_at_2 zv_X7_isStand zi_X7_isStand lk_X7_99 ⟨rfl, by decide, by decide⟩ rfl rfl rfl k_X7_isStand ?_
  refine tr_if_eq eX7_at_5 (fun h5 => ?_) (fun h5 => ?_)
  · skip
    try first | replace h5 := bi_0 h5 | replace h5 := bi_n h5
    refine tr_iconst eX7_at_23 (-1) ci_m1 ?_
    refine tr_ret eX7_at_24 rfl rfl ?_
    refine ⟨congrArg some ?_, rfl⟩
    simp only [s_atp]
    rw [if_pos (by rw [s_nst, aM_0]; exact h5)]
  · skip
    try first | replace h5 := bi_0 h5 | replace h5 := bi_n h5
    refine tr_iload_n eX7_at_8 rfl ?_
    refine tr_if_lt eX7_at_9 (fun h9 => ?_) (fun h9 => ?_)
    · skip
      refine tr_iconst eX7_at_23 (-1) ci_m1 ?_
      refine tr_ret eX7_at_24 rfl rfl ?_
      refine ⟨congrArg some ?_, rfl⟩
      simp only [s_atp]
      rw [if_neg (by rw [s_nst, aM_0]; exact fun q => q h5), if_pos (fun q => q.1 h9)]
    · skip
      refine tr_iload_n eX7_at_12 rfl ?_
      refine tr_sipush eX7_at_13 (nI 2880) (by decide) ?_
      refine tr_icmp_ge eX7_at_16 (fun h16 => ?_) (fun h16 => ?_)
      · skip
        refine tr_iconst eX7_at_23 (-1) ci_m1 ?_
        refine tr_ret eX7_at_24 rfl rfl ?_
        refine ⟨congrArg some ?_, rfl⟩
        simp only [s_atp]
        rw [if_neg (by rw [s_nst, aM_0]; exact fun q => q h5), if_pos (m_2880' h16)]
      · skip
        refine tr_iload_n eX7_at_19 rfl ?_
        refine tr_if_ge eX7_at_20 (fun h20 => ?_) (fun h20 => ?_)
        · skip
          refine tr_iload_n eX7_at_25 rfl ?_
          refine tr_istore eX7_at_26 (by decide) rfl ?_
          refine tr_iconst eX7_at_28 (nI 0) ci_0 ?_
          refine tr_istore eX7_at_29 (by decide) rfl ?_
          refine TT.post (lp_X7_at_31 (m_2880 h9 h16) hV hV40 hcc hC hC20 nV 0 k (by omega)) (fun r ρ h => ?_)
          obtain ⟨rfl, rfl⟩ := h
          refine ⟨congrArg some ?_, rfl⟩
          simp only [s_atp]
          rw [if_neg (by rw [s_nst, aM_0]; exact fun q => q h5), if_neg (fun q => q (m_2880 h9 h16)), if_neg (fun q => q h20), tn_of (hI.1.2.2.1.1) (show nC < 2 ^ 31 by omega), tn_of (hI.1.2.2.2.1) (show nV < 2 ^ 31 by omega)]
          simp only [s_there_aM, s_ca_aM]
        · skip
          refine tr_iconst eX7_at_23 (-1) ci_m1 ?_
          refine tr_ret eX7_at_24 rfl rfl ?_
          refine ⟨congrArg some ?_, rfl⟩
          simp only [s_atp]
          rw [if_neg (by rw [s_nst, aM_0]; exact fun q => q h5), if_neg (fun q => q (m_2880 h9 h16)), if_pos h20]

def s_rpl (σ : tSt) (w : Int32) : tSt := up (up (up (up σ 19 (nI 3) (-1)) 19 (nI 4) (nI 1)) 19 (nI 5) w) 19 (nI 6) (nI 0)
theorem s_agP_X {σ : tSt} {nP nC nV : Nat} (hV40 : nV ≤ 40) (hz : aw0 σ) (m w s : Int32) : s_agX (s_rpl σ w) nP nC nV s m (m + nI 1) = s_agP (aX σ) nP nC nV m w s := by
  rw [s_agX, s_agP]
  have e1 : s_rpl σ w 19 (nI 4) = nI 1 := by simp (disch := decide) only [s_rpl, up_s, up_f]
  have e2 : s_rpl σ w 19 (nI 5) = w := by simp (disch := decide) only [s_rpl, up_s, up_f]
  have e3 : s_rpl σ w 19 (nI 6) = nI 0 := by simp (disch := decide) only [s_rpl, up_s, up_f]
  have e4 : s_rpl σ w 19 (nI 3) = -1 := by simp (disch := decide) only [s_rpl, up_s, up_f]
  have e5 : s_rpl σ w 26 = σ 26 := by simp (disch := decide) only [s_rpl, up_k]
  rw [e1, e2, e3]
  refine s_ag_same (fun k h1 h2 => ?_) (fun u hu => ?_) ..
  · rw [aX_k σ ⟨h1, by omega⟩]
    simp only [s_rpl]
    rw [up_k (by omega), up_k (by omega), up_k (by omega), up_k (by omega)]
  · rw [s_oth, e4, e5, hz u (by omega), s_ne]
    simp [n0]
theorem lp_X6_crowd_43 {σ : tSt} {m w k : Int32} {nS nP nC nV : Nat} (hS : σ 17 (nI 9) = nI nS) (hS24 : nS ≤ 24) (hV : σ 18 (nI 6) = nI nV) (hV40 : nV ≤ 40) (hcc : cOK σ) (hP : σ 17 (nI 10) = nI nP) (hP40 : nP ≤ 40) (hC : σ 17 (nI 11) = nI nC) (hC20 : nC ≤ 20) (hz : aw0 σ) : ∀ (f i : Nat) (l x : Int32), i + f = nS → TT mX6_crowd 43 [.ref 0, .int m, .int w, .int k, .int l, .int (nI i)] [] (up (s_rpl σ w) 19 (nI 7) x) (fun r ρ => r = some (kt (fun s => decide ((s_agP (aX σ) nP nC nV m w s).1 = 0)) (-1) f i l) ∧ ∃ z, ρ = up (s_rpl σ w) 19 (nI 7) z) := by
  intro f
  induction f with
  | zero =>
    intro i l x hi
    refine tr_iload eX6_crowd_43 rfl ?_
    refine tr_aload_n eX6_crowd_45 rfl ?_
    refine tr_getR eX6_crowd_46 fk_X6_10 rfl rfl ?_
    refine tr_getI eX6_crowd_49 fk_X6_78 rfl rfl ?_
    refine tr_icmp_ge eX6_crowd_52 (fun h52 => ?_) (fun h52 => ?_)
    · skip
      refine tr_iconst eX6_crowd_88 (-1) ci_m1 ?_
      refine tr_ret eX6_crowd_89 rfl rfl ?_
      exact ⟨rfl, x, rfl⟩
    · skip
      exact absurd (lt_of hS (by omega) (by omega) h52) (by omega)
  | succ f ih =>
    intro i l x hi
    refine tr_iload eX6_crowd_43 rfl ?_
    refine tr_aload_n eX6_crowd_45 rfl ?_
    refine tr_getR eX6_crowd_46 fk_X6_10 rfl rfl ?_
    refine tr_getI eX6_crowd_49 fk_X6_78 rfl rfl ?_
    refine tr_icmp_ge eX6_crowd_52 (fun h52 => ?_) (fun h52 => ?_)
    · skip
      exact absurd (ge_of hS (by omega) (by omega) h52) (by omega)
    · skip
      have hsv : vp_in (nI i) 24 := vp_in_nI (by have := lt_of hS (by omega) (by omega) h52; omega) (by decide)
      have hag := k_X2_againstU (σ := s_rpl σ w) (x := x) (a := m) (b := m + nI 1) hsv hV hV40 hcc hP hP40 hC hC20
      rw [s_agP_X hV40 hz] at hag
      refine tr_aload_n eX6_crowd_55 rfl ?_
      refine tr_getR eX6_crowd_56 fk_X6_28 rfl rfl ?_
      refine tr_iload eX6_crowd_59 rfl ?_
      refine tr_iload_n eX6_crowd_61 rfl ?_
      refine tr_iload_n eX6_crowd_62 rfl ?_
      refine tr_iconst eX6_crowd_63 (nI 1) ci_1 ?_
      refine tr_iadd eX6_crowd_64 ?_
      refine tr_ce3 eX6_crowd_65 zv_X2_against zi_X2_against lk_X6_263 ⟨rfl, by decide, by decide⟩ rfl rfl rfl hag ?_
      try simp (disch := decide) only [up_k, up_s, up_f, s_set_0]
      refine tr_if_ne eX6_crowd_68 (fun h68 => ?_) (fun h68 => ?_)
      · skip
        refine tr_iinc eX6_crowd_82 _ (by first | with_reducible exact inc_n _ | with_reducible exact ix_s _ _ | with_reducible rfl) rfl (by decide) rfl ?_
        refine tr_goto eX6_crowd_85 ?_
        refine TT.post (ih (i + 1) _ _ (by omega)) (fun r ρ h => ?_)
        simp only [kt]
        rw [if_neg (fun q => h68 (of_decide_eq_true q))]
        exact h
      · skip
        refine tr_iload eX6_crowd_71 rfl ?_
        refine tr_if_ne eX6_crowd_73 (fun h73 => ?_) (fun h73 => ?_)
        · skip
          refine tr_iinc eX6_crowd_79 _ (by first | with_reducible exact inc_n _ | with_reducible exact ix_s _ _ | with_reducible rfl) rfl (by decide) rfl ?_
          refine tr_iinc eX6_crowd_82 _ (by first | with_reducible exact inc_n _ | with_reducible exact ix_s _ _ | with_reducible rfl) rfl (by decide) rfl ?_
          refine tr_goto eX6_crowd_85 ?_
          refine TT.post (ih (i + 1) _ _ (by omega)) (fun r ρ h => ?_)
          simp only [kt]
          rw [if_pos (decide_eq_true h68), if_neg h73]
          exact h
        · skip
          refine tr_iload eX6_crowd_76 rfl ?_
          refine tr_ret eX6_crowd_78 rfl rfl ?_
          exact ⟨congrArg some (by simp only [kt]; rw [if_pos (decide_eq_true h68), if_pos h73]), _, rfl⟩
theorem s_agP_aM {τ : tSt} (n nC nV : Nat) (m w s : Int32) : s_ag τ n nC nV (s_ne (-1)) (nI 1) w (nI 0) s m (m + nI 1) = s_agP (aM τ) n nC nV m w s := by
  rw [s_agP]
  exact s_ag_same (fun k h1 h2 => by rw [aM_k τ ⟨h1, by omega⟩]) (fun _ _ => rfl) ..
theorem aX_rpl (σ : tSt) (w : Int32) : aX (s_rpl σ w) = aX σ := by simp (disch := decide) only [s_rpl, aX_s]
theorem up_rpl (σ : tSt) (w : Int32) : up (s_rpl σ w) 19 (nI 7) (s_rpl σ w 19 (nI 7)) = s_rpl σ w := up_self _ _ _
theorem k_X6_crowd {σ : tSt} {nS nP nC nV : Nat} {m w k : Int32} (hI : iA (aX σ) nS nP nC nV) (hz : aw0 σ) : CT mX6_crowd [.ref 0, .int m, .int w, .int k] σ (QX σ (s_crowdp (aX σ) m w k)) := by
  have hI0 := hI.1
  have hS := hI0.1.1
  rw [aX_0] at hS
  have hP := hI0.2.1.1
  rw [aX_1] at hP
  have hC := hI0.2.2.1.1
  rw [aX_2] at hC
  have hV := hI0.2.2.2.1
  rw [aX_3] at hV
  have hS24 := hI0.1.2
  have hP40 := hI0.2.1.2
  have hC20 := hI0.2.2.1.2
  have hV40 := hI0.2.2.2.2
  have hcc := cOK_aX hI.2.1.1
  refine CT.of2 2 (by decide) rfl rfl ?_
  refine tr_iload_n eX6_crowd_0 rfl ?_
  refine tr_iconst eX6_crowd_1 (nI 0) ci_0 ?_
  refine tr_sipush eX6_crowd_2 (nI 2879) (by decide) ?_
  refine tr_se3 eX6_crowd_5 zv_X6_isWithin zs_X6_isWithin lk_X6_70 ⟨rfl, by decide, by decide⟩ rfl k_X6_isWithin ?_
  refine tr_if_eq eX6_crowd_8 (fun h8 => ?_) (fun h8 => ?_)
  · skip
    try first | replace h8 := bi_0 h8 | replace h8 := bi_n h8
    refine tr_iconst eX6_crowd_27 (-1) ci_m1 ?_
    refine tr_ret eX6_crowd_28 rfl rfl ?_
    refine ⟨congrArg some ?_, rfl, rfl⟩
    simp only [s_crowdp]
    rw [if_pos h8]
  · skip
    try first | replace h8 := bi_0 h8 | replace h8 := bi_n h8
    refine tr_iload_n eX6_crowd_11 rfl ?_
    refine tr_bipush eX6_crowd_12 (nI 10) (by decide) ?_
    refine tr_sipush eX6_crowd_14 (nI 200) (by decide) ?_
    refine tr_se3 eX6_crowd_17 zv_X6_isWithin zs_X6_isWithin lk_X6_70 ⟨rfl, by decide, by decide⟩ rfl k_X6_isWithin ?_
    refine tr_if_eq eX6_crowd_20 (fun h20 => ?_) (fun h20 => ?_)
    · skip
      try first | replace h20 := bi_0 h20 | replace h20 := bi_n h20
      refine tr_iconst eX6_crowd_27 (-1) ci_m1 ?_
      refine tr_ret eX6_crowd_28 rfl rfl ?_
      refine ⟨congrArg some ?_, rfl, rfl⟩
      simp only [s_crowdp]
      rw [if_neg (fun q => q h8), if_pos h20]
    · skip
      try first | replace h20 := bi_0 h20 | replace h20 := bi_n h20
      refine tr_iload_n eX6_crowd_23 rfl ?_
      refine tr_if_ge eX6_crowd_24 (fun h24 => ?_) (fun h24 => ?_)
      · skip
        refine tr_aload_n eX6_crowd_29 rfl ?_
        refine tr_getR eX6_crowd_30 fk_X6_28 rfl rfl ?_
        refine tr_iload_n eX6_crowd_33 rfl ?_
        refine tr_ce1 eX6_crowd_34 zv_X2_regardPlane zi_X2_regardPlane lk_X6_260 ⟨rfl, by decide, by decide⟩ rfl rfl rfl (show CT mX2_regardPlane _ _ (PE none (s_rpl σ w)) from k_X2_regardPlane) ?_
        try simp (disch := decide) only [up_k, up_s, up_f, s_set_0]
        refine tr_iload_n eX6_crowd_37 rfl ?_
        refine tr_istore eX6_crowd_38 (by decide) rfl ?_
        refine tr_iconst eX6_crowd_40 (nI 0) ci_0 ?_
        refine tr_istore eX6_crowd_41 (by decide) rfl ?_
        have hh := lp_X6_crowd_43 (m := m) (w := w) (k := k) hS hS24 hV hV40 hcc hP hP40 hC hC20 hz nS 0 k (s_rpl σ w 19 (nI 7)) (by omega)
        rw [up_rpl] at hh
        refine TT.post hh (fun r ρ h => ?_)
        obtain ⟨rfl, z, rfl⟩ := h
        refine ⟨congrArg some ?_, by rw [aX_s _ (by decide), aX_rpl]; rfl, rfl⟩
        simp only [s_crowdp]
        rw [if_neg (fun q => q h8), if_neg (fun q => q h20), if_neg (fun q => q h24), tn_of (hI.1.1.1) (show nS < 2 ^ 31 by omega), tn_of (hI.1.2.1.1) (show nP < 2 ^ 31 by omega), tn_of (hI.1.2.2.1.1) (show nC < 2 ^ 31 by omega), tn_of (hI.1.2.2.2.1) (show nV < 2 ^ 31 by omega)]
      · skip
        refine tr_iconst eX6_crowd_27 (-1) ci_m1 ?_
        refine tr_ret eX6_crowd_28 rfl rfl ?_
        refine ⟨congrArg some ?_, rfl, rfl⟩
        simp only [s_crowdp]
        rw [if_neg (fun q => q h8), if_neg (fun q => q h20), if_pos h24]

theorem lp_X7_crowd_36 {τ : tSt} {m w k : Int32} {nS nP nC nV : Nat} (hI : iA (aM τ) nS nP nC nV) (hm : s_wi m (nI 0) (nI 2879)) : ∀ (f i : Nat) (l x : Int32), i + f = nS → TT mX7_crowd 36 [.ref 0, .int m, .int w, .int k, .int l, .int (nI i)] [] (up τ 0 (nI 24) x) (fun r ρ => r = some (kt (fun s => decide ((s_agP (aM τ) nP nC nV m w s).1 = 0)) (-1) f i l) ∧ ∃ z, ρ = up τ 0 (nI 24) z) := by
  have hI0 := hI.1
  have hS := hI0.1.1
  rw [aM_0] at hS
  have hP := hI0.2.1.1
  rw [aM_1] at hP
  have hC := hI0.2.2.1.1
  rw [aM_2] at hC
  have hV := hI0.2.2.2.1
  rw [aM_3] at hV
  have hS24 := hI0.1.2
  have hP40 := hI0.2.1.2
  have hC20 := hI0.2.2.1.2
  have hV40 := hI0.2.2.2.2
  intro f
  induction f with
  | zero =>
    intro i l x hi
    refine tr_iload eX7_crowd_36 rfl ?_
    refine tr_aload_n eX7_crowd_38 rfl ?_
    refine tr_getI eX7_crowd_39 fk_X7_86 rfl rfl ?_
    try simp (disch := decide) only [up_k, up_s, up_f, s_set_0]
    refine tr_icmp_ge eX7_crowd_42 (fun h42 => ?_) (fun h42 => ?_)
    · skip
      refine tr_iconst eX7_crowd_82 (-1) ci_m1 ?_
      refine tr_ret eX7_crowd_83 rfl rfl ?_
      exact ⟨rfl, x, rfl⟩
    · skip
      exact absurd (lt_of hS (by omega) (by omega) h42) (by omega)
  | succ f ih =>
    intro i l x hi
    refine tr_iload eX7_crowd_36 rfl ?_
    refine tr_aload_n eX7_crowd_38 rfl ?_
    refine tr_getI eX7_crowd_39 fk_X7_86 rfl rfl ?_
    try simp (disch := decide) only [up_k, up_s, up_f, s_set_0]
    refine tr_icmp_ge eX7_crowd_42 (fun h42 => ?_) (fun h42 => ?_)
    · skip
      exact absurd (ge_of hS (by omega) (by omega) h42) (by omega)
    · skip
      have hsv : vp_in (nI i) 24 := vp_in_nI (by have := lt_of hS (by omega) (by omega) h42; omega) (by decide)
      have hag := k_X7_against (σ := up τ 0 (nI 24) x) (v := -1) (kd := nI 1) (w := w) (nd := nI 0) (m_lt hm) hsv hV hV40 (cOK_aM hI.2.1.1) (sOK_aM hI.2.1.2.1) hP hP40 (pOK_aM hI.2.1.2.2.1) hC hC20 (kOK_aM hI.2.1.2.2.2)
      rw [up_up, show s_ag (up τ 0 (nI 24) x) nP nC nV (s_ne (-1)) (nI 1) w (nI 0) (nI i) m (m + nI 1) = s_agP (aM τ) nP nC nV m w (nI i) from s_agP_aM nP nC nV m w (nI i)] at hag
      refine tr_aload_n eX7_crowd_45 rfl ?_
      refine tr_iconst eX7_crowd_46 (-1) ci_m1 ?_
      refine tr_iconst eX7_crowd_47 (nI 1) ci_1 ?_
      refine tr_iload_n eX7_crowd_48 rfl ?_
      refine tr_iconst eX7_crowd_49 (nI 0) ci_0 ?_
      refine tr_iload eX7_crowd_50 rfl ?_
      refine tr_iload_n eX7_crowd_52 rfl ?_
      refine tr_iload_n eX7_crowd_53 rfl ?_
      refine tr_iconst eX7_crowd_54 (nI 1) ci_1 ?_
      refine tr_iadd eX7_crowd_55 ?_
      refine tr_ce7 eX7_crowd_56 zv_X7_against zi_X7_against lk_X7_161 ⟨rfl, by decide, by decide⟩ rfl rfl rfl hag ?_
      try simp (disch := decide) only [up_k, up_s, up_f, s_set_0]
      refine tr_if_le eX7_crowd_59 (fun h59 => ?_) (fun h59 => ?_)
      · skip
        have g59 : (s_agP (aM τ) nP nC nV m w (nI i)).1 = 0 := (s_ag_pos ..).mp h59
        refine tr_iload eX7_crowd_65 rfl ?_
        refine tr_if_ne eX7_crowd_67 (fun h67 => ?_) (fun h67 => ?_)
        · skip
          refine tr_iinc eX7_crowd_73 _ (by first | with_reducible exact inc_n _ | with_reducible exact ix_s _ _ | with_reducible rfl) rfl (by decide) rfl ?_
          refine tr_iinc eX7_crowd_76 _ (by first | with_reducible exact inc_n _ | with_reducible exact ix_s _ _ | with_reducible rfl) rfl (by decide) rfl ?_
          refine tr_goto eX7_crowd_79 ?_
          refine TT.post (ih (i + 1) _ _ (by omega)) (fun r ρ h => ?_)
          simp only [kt]
          rw [if_pos (decide_eq_true g59), if_neg h67]
          exact h
        · skip
          refine tr_iload eX7_crowd_70 rfl ?_
          refine tr_ret eX7_crowd_72 rfl rfl ?_
          exact ⟨congrArg some (by simp only [kt]; rw [if_pos (decide_eq_true g59), if_pos h67]), _, rfl⟩
      · skip
        have g59 : ¬ (s_agP (aM τ) nP nC nV m w (nI i)).1 = 0 := mt (s_ag_pos ..).mpr h59
        refine tr_goto eX7_crowd_62 ?_
        refine tr_iinc eX7_crowd_76 _ (by first | with_reducible exact inc_n _ | with_reducible exact ix_s _ _ | with_reducible rfl) rfl (by decide) rfl ?_
        refine tr_goto eX7_crowd_79 ?_
        refine TT.post (ih (i + 1) _ _ (by omega)) (fun r ρ h => ?_)
        simp only [kt]
        rw [if_neg (fun q => g59 (of_decide_eq_true q))]
        exact h
theorem k_X7_crowd {τ : tSt} {nS nP nC nV : Nat} {m w k : Int32} (hI : iA (aM τ) nS nP nC nV) : CT mX7_crowd [.ref 0, .int m, .int w, .int k] τ (QM (s_crowdp (aM τ) m w k)) := by
  have hI0 := hI.1
  have hS := hI0.1.1
  rw [aM_0] at hS
  have hP := hI0.2.1.1
  rw [aM_1] at hP
  have hC := hI0.2.2.1.1
  rw [aM_2] at hC
  have hV := hI0.2.2.2.1
  rw [aM_3] at hV
  have hS24 := hI0.1.2
  have hP40 := hI0.2.1.2
  have hC20 := hI0.2.2.1.2
  have hV40 := hI0.2.2.2.2
  refine CT.of2 2 (by decide) rfl rfl ?_
  refine tr_iload_n eX7_crowd_0 rfl ?_
  refine tr_if_lt eX7_crowd_1 (fun h1 => ?_) (fun h1 => ?_)
  · skip
    refine tr_iconst eX7_crowd_28 (-1) ci_m1 ?_
    refine tr_ret eX7_crowd_29 rfl rfl ?_
    refine ⟨congrArg some ?_, rfl⟩
    simp only [s_crowdp]
    rw [if_pos (fun q => q.1 h1)]
  · skip
    refine tr_iload_n eX7_crowd_4 rfl ?_
    refine tr_sipush eX7_crowd_5 (nI 2880) (by decide) ?_
    refine tr_icmp_ge eX7_crowd_8 (fun h8 => ?_) (fun h8 => ?_)
    · skip
      refine tr_iconst eX7_crowd_28 (-1) ci_m1 ?_
      refine tr_ret eX7_crowd_29 rfl rfl ?_
      refine ⟨congrArg some ?_, rfl⟩
      simp only [s_crowdp]
      rw [if_pos (m_2880' h8)]
    · skip
      refine tr_iload_n eX7_crowd_11 rfl ?_
      refine tr_bipush eX7_crowd_12 (nI 10) (by decide) ?_
      refine tr_icmp_lt eX7_crowd_14 (fun h14 => ?_) (fun h14 => ?_)
      · skip
        refine tr_iconst eX7_crowd_28 (-1) ci_m1 ?_
        refine tr_ret eX7_crowd_29 rfl rfl ?_
        refine ⟨congrArg some ?_, rfl⟩
        simp only [s_crowdp]
        rw [if_neg (fun q => q (m_2880 h1 h8)), if_pos (fun q => q.1 h14)]
      · skip
        refine tr_iload_n eX7_crowd_17 rfl ?_
        refine tr_sipush eX7_crowd_18 (nI 200) (by decide) ?_
        refine tr_icmp_gt eX7_crowd_21 (fun h21 => ?_) (fun h21 => ?_)
        · skip
          refine tr_iconst eX7_crowd_28 (-1) ci_m1 ?_
          refine tr_ret eX7_crowd_29 rfl rfl ?_
          refine ⟨congrArg some ?_, rfl⟩
          simp only [s_crowdp]
          rw [if_neg (fun q => q (m_2880 h1 h8)), if_pos (fun q => q.2 h21)]
        · skip
          refine tr_iload_n eX7_crowd_24 rfl ?_
          refine tr_if_ge eX7_crowd_25 (fun h25 => ?_) (fun h25 => ?_)
          · skip
            refine tr_iload_n eX7_crowd_30 rfl ?_
            refine tr_istore eX7_crowd_31 (by decide) rfl ?_
            refine tr_iconst eX7_crowd_33 (nI 0) ci_0 ?_
            refine tr_istore eX7_crowd_34 (by decide) rfl ?_
            have hh := lp_X7_crowd_36 (w := w) (k := k) hI (m_2880 h1 h8) nS 0 k (τ 0 (nI 24)) (by omega)
            rw [up_self] at hh
            refine TT.post hh (fun r ρ h => ?_)
            obtain ⟨rfl, z, rfl⟩ := h
            refine ⟨congrArg some ?_, by rw [aM_f0_24]; rfl⟩
            simp only [s_crowdp]
            rw [if_neg (fun q => q (m_2880 h1 h8)), if_neg (fun q => q ⟨h14, h21⟩), if_neg (fun q => q h25), tn_of (hI.1.1.1) (show nS < 2 ^ 31 by omega), tn_of (hI.1.2.1.1) (show nP < 2 ^ 31 by omega), tn_of (hI.1.2.2.1.1) (show nC < 2 ^ 31 by omega), tn_of (hI.1.2.2.2.1) (show nV < 2 ^ 31 by omega)]
          · skip
            refine tr_iconst eX7_crowd_28 (-1) ci_m1 ?_
            refine tr_ret eX7_crowd_29 rfl rfl ?_
            refine ⟨congrArg some ?_, rfl⟩
            simp only [s_crowdp]
            rw [if_neg (fun q => q (m_2880 h1 h8)), if_neg (fun q => q ⟨h14, h21⟩), if_pos h25]

