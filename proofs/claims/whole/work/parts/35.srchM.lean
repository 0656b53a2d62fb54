/-! SEARCH of the model -/
theorem decr (x : Int32) : x + Int32.ofInt (-1) = x - nI 1 := by rw [Int32.sub_eq_add_neg]; rfl
theorem k_X7_againstOfB {τ : tSt} {v s a b : Int32} {nS nP nC nV : Nat} (hI : iA (aM τ) nS nP nC nV) (hv : vp_in v 40) (hs : vp_in s 24) (hab : a < b) : CT mX7_againstOf [.ref 0, .int v, .int s, .int a, .int b] τ (PE (some (s_A (aM τ) v s a b).1) (up τ 0 (nI 24) (s_A (aM τ) v s a b).2)) := by
  have h := k_X7_againstOfA (x := τ 0 (nI 0)) hI hv hs hab
  rwa [up_id rfl] at h
def eSt (τ ρ : tSt) (P : Int32 → Bool) (i : Nat) : Prop := (∀ k, k ≠ 17 → k ≠ 0 → ρ k = τ k) ∧ (∀ i, i ≠ nI 26 → ρ 0 i = τ 0 i) ∧ LNS (ρ 17) (sl0 P i) ∧ ρ 0 (nI 26) = nI (sl0 P i).length
theorem eSt_skip {τ ρ : tSt} {P : Int32 → Bool} {i : Nat} (h : eSt τ ρ P i) (hp : ¬ P (nI i) = true) : eSt τ ρ P (i + 1) := by
  unfold eSt
  rw [sl0_f hp]
  exact h
theorem eSt_join {τ ρ : tSt} {P : Int32 → Bool} {i : Nat} (h : eSt τ ρ P i) (hi : i < 40) (hp : P (nI i) = true) : eSt τ (up (up ρ 17 (nI (sl0 P i).length) (nI i)) 0 (nI 26) (nI ((sl0 P i).length + 1))) P (i + 1) := by
  have hlen := sl0_len P i
  unfold eSt
  rw [sl0_t hp]
  refine ⟨fun k a b => by rw [up_k b, up_k a]; exact h.1 k a b, fun j hj => by rw [up_n hj, up_k (by decide)]; exact h.2.1 j hj, ?_, ?_⟩
  · rw [up_k (by decide)]
    exact LNS_snoc h.2.2.1 (fun q hq => up_n (nI_ne (by omega) (by omega) (by omega))) up_s
  · rw [up_s, List.length_append]; rfl
def RSm (l : List Nat) (τ : tSt) (s : tSS) (b : tBB) : Prop := aM τ = s.2.2.2 ∧ τ 18 = s.2.1 ∧ τ 0 (nI 29) = nI s.2.2.1 ∧ τ 0 (nI 26) = nI l.length ∧ LNS (τ 17) l ∧ τ 0 (nI 30) = b.1 ∧ τ 19 = b.2
theorem cpS_0 {σ : tSt} {k0 k1 : Nat} : cpS σ k0 k1 0 = σ := by
  funext k j
  unfold cpS cpA
  by_cases h : k = k1
  · rw [if_pos h, if_neg (fun q => q.1 (by have := q.2; rwa [n0] at this)), h]
  · rw [if_neg h]
theorem cpS_1 {σ : tSt} {k0 k1 i : Nat} (h : k0 ≠ k1) (hi : i < 40) : up (cpS σ k0 k1 i) k1 (nI i) (cpS σ k0 k1 i k0 (nI i)) = cpS σ k0 k1 (i + 1) := by
  funext k j
  rw [cpS_k h]
  by_cases hk : k = k1
  · subst hk
    rw [up_at, cpS_s, cpS_s]
    unfold cpA
    by_cases hj : j = nI i
    · subst hj
      rw [if_pos rfl, if_pos ⟨fun q => absurd (nI_pos' (by omega)) (Int32.not_le.mpr q), (nI_ltI (by omega) (by omega)).mpr (by omega)⟩]
    · rw [if_neg hj]
      by_cases h0 : j < 0
      · rw [if_neg (fun q => q.1 h0), if_neg (fun q => q.1 h0)]
      · obtain ⟨m, hm, rfl⟩ := nI_of h0
        have hmi : m ≠ i := fun q => hj (by rw [q])
        by_cases hlt : m < i
        · rw [if_pos ⟨h0, (nI_ltI (by omega) (by omega)).mpr hlt⟩, if_pos ⟨h0, (nI_ltI (by omega) (by omega)).mpr (by omega)⟩]
        · rw [if_neg (fun q => hlt ((nI_ltI (by omega) (by omega)).mp q.2)), if_neg (fun q => by have := (nI_ltI (by omega) (by omega)).mp q.2; omega)]
  · rw [up_k hk, cpS_k hk, cpS_k hk]
theorem lp_X7_search_7 {τ : tSt} {nV : Nat} {a : Int32} (hV : τ 0 (nI 6) = nI nV) (hV40 : nV ≤ 40) {Q : Option Int32 → tSt → Prop} (kk : ∀ ρ, eSt τ ρ (fun v => s_come τ (τ 0 (nI 8)) v) nV → TT mX7_search 52 [.ref 0, .int a, .null, .null, .null] [] ρ Q) : ∀ (f i : Nat) (ρ : tSt), i + f = nV → eSt τ ρ (fun v => s_come τ (τ 0 (nI 8)) v) i → TT mX7_search 7 [.ref 0, .int a, .int (nI i), .null, .null] [] ρ Q := by
  intro f
  induction f with
  | zero =>
    intro i ρ hi hL
    have hVρ : ρ 0 (nI 6) = nI nV := by rw [hL.2.1 _ (by decide)]; exact hV
    have ei : i = nV := by omega
    subst ei
    refine tr_iload_n eX7_search_7 rfl ?_
    refine tr_aload_n eX7_search_8 rfl ?_
    refine tr_getI eX7_search_9 fk_X7_89 rfl rfl ?_
    refine tr_icmp_ge eX7_search_12 (fun h12 => ?_) (fun h12 => ?_)
    · skip
      exact TT.fg [2] (kk ρ hL)
    · skip
      exact absurd (lt_of hVρ (by omega) (by omega) h12) (by omega)
  | succ f ih =>
    intro i ρ hi hL
    have hVρ : ρ 0 (nI 6) = nI nV := by rw [hL.2.1 _ (by decide)]; exact hV
    have hin : vp_in (nI i) 40 := vp_in_nI (by omega) (by decide)
    have hlen := sl0_len (fun v => s_come τ (τ 0 (nI 8)) v) i
    have hl4 : vp_in (nI (sl0 (fun v => s_come τ (τ 0 (nI 8)) v) i).length) 40 := vp_in_nI (by omega) (by decide)
    have e18 : ρ 0 (nI 8) = τ 0 (nI 8) := hL.2.1 _ (by decide)
    have hPi : s_come ρ (ρ 0 (nI 8)) (nI i) = (fun v => s_come τ (τ 0 (nI 8)) v) (nI i) := by
      show _ = s_come τ (τ 0 (nI 8)) (nI i)
      rw [e18]
      exact come_eq (hL.1 10 (by decide) (by decide)) (hL.1 11 (by decide) (by decide)) (hL.1 12 (by decide) (by decide)) _ _
    have hl26 := hL.2.2.2
    refine tr_iload_n eX7_search_7 rfl ?_
    refine tr_aload_n eX7_search_8 rfl ?_
    refine tr_getI eX7_search_9 fk_X7_89 rfl rfl ?_
    refine tr_icmp_ge eX7_search_12 (fun h12 => ?_) (fun h12 => ?_)
    · skip
      exact absurd (ge_of hVρ (by omega) (by omega) h12) (by omega)
    · skip
      refine tr_aload_n eX7_search_15 rfl ?_
      refine tr_iload_n eX7_search_16 rfl ?_
      refine tr_ce1 eX7_search_17 zv_X7_isPlanned zi_X7_isPlanned lk_X7_191 ⟨rfl, by decide, by decide⟩ rfl rfl rfl (k_X7_isPlanned (by first | with_reducible assumption | with_reducible exact in_slot (by with_reducible assumption) (by with_reducible assumption) | with_reducible exact in_row _ (by decide) (by with_reducible assumption) | with_reducible exact in_row0 (by with_reducible assumption) | with_reducible exact in_slot0 (by with_reducible assumption) | (simp (disch := decide) only [up_k, up_s, up_f] <;> with_reducible assumption))) ?_
      refine tr_if_ne eX7_search_20 (fun h20 => ?_) (fun h20 => ?_)
      · skip
        try first | replace h20 := bi_0 h20 | replace h20 := bi_n h20
        rw [hPi] at h20
        refine tr_aload_n eX7_search_26 rfl ?_
        refine tr_getR eX7_search_27 fk_X7_62 rfl rfl ?_
        refine tr_aload_n eX7_search_30 rfl ?_
        refine tr_getI eX7_search_31 fk_X7_188 rfl rfl ?_
        rw [hl26]
        refine tr_iload_n eX7_search_34 rfl ?_
        refine tr_iast eX7_search_35 rfl hl4 ?_
        refine tr_aload_n eX7_search_36 rfl ?_
        refine tr_dup eX7_search_37 rfl ?_
        refine tr_getI eX7_search_38 fk_X7_188 rfl rfl ?_
        try simp (disch := decide) only [up_k, up_s, up_f, s_set_0]
        try rw [hl26]
        try rw [up_k (by decide), hl26]
        refine tr_iconst eX7_search_41 (nI 1) ci_1 ?_
        refine tr_iadd eX7_search_42 ?_
        rw [nI_add]
        refine tr_put eX7_search_43 fp_X7_188 rfl rfl ?_
        refine tr_iinc eX7_search_46 _ (by first | with_reducible exact inc_n _ | with_reducible exact ix_s _ _ | with_reducible rfl) rfl (by decide) rfl ?_
        refine tr_goto eX7_search_49 ?_
        exact ih (i + 1) _ (by omega) (eSt_join hL (by omega) h20)
      · skip
        try first | replace h20 := bi_0 h20 | replace h20 := bi_n h20
        rw [hPi] at h20
        refine tr_goto eX7_search_23 ?_
        refine tr_iinc eX7_search_46 _ (by first | with_reducible exact inc_n _ | with_reducible exact ix_s _ _ | with_reducible rfl) rfl (by decide) rfl ?_
        refine tr_goto eX7_search_49 ?_
        exact ih (i + 1) ρ (by omega) (eSt_skip hL h20)
theorem lp_X7_whole_4 {n : Nat} {τ : tSt} (h40 : n ≤ 40) (hn : τ 0 (nI 26) = nI n) (hc : ∀ p, p < n → vp_in (τ 18 (nI p)) 24) {Q : Option Int32 → tSt → Prop} : ∀ (f i c : Nat), i + f = n → TT mX7_whole 56 [.ref 0, .int (nI (c + ct (fun i => s_gate τ (τ 18 i)) f i)), .null] [] τ Q → TT mX7_whole 4 [.ref 0, .int (nI c), .int (nI i)] [] τ Q := by
  intro f
  induction f with
  | zero =>
    intro i c hi kk
    refine tr_iload_n eX7_whole_4 rfl ?_
    refine tr_aload_n eX7_whole_5 rfl ?_
    refine tr_getI eX7_whole_6 fk_X7_188 rfl rfl ?_
    refine tr_icmp_ge eX7_whole_9 (fun h9 => ?_) (fun h9 => ?_)
    · skip
      exact TT.fg [2] kk
    · skip
      exact absurd (lt_of hn (by omega) (by omega) h9) (by omega)
  | succ f ih =>
    intro i c hi kk
    have hin : vp_in (nI i) 40 := vp_in_nI (by omega) (by decide)
    have hci := hc i (by omega)
    refine tr_iload_n eX7_whole_4 rfl ?_
    refine tr_aload_n eX7_whole_5 rfl ?_
    refine tr_getI eX7_whole_6 fk_X7_188 rfl rfl ?_
    refine tr_icmp_ge eX7_whole_9 (fun h9 => ?_) (fun h9 => ?_)
    · skip
      exact absurd (ge_of hn (by omega) (by omega) h9) (by omega)
    · skip
      refine tr_iload_n eX7_whole_12 rfl ?_
      refine tr_aload_n eX7_whole_13 rfl ?_
      refine tr_getR eX7_whole_14 fk_X7_16 rfl rfl ?_
      refine tr_aload_n eX7_whole_17 rfl ?_
      refine tr_getR eX7_whole_18 fk_X7_65 rfl rfl ?_
      refine tr_iload_n eX7_whole_21 rfl ?_
      refine tr_iald eX7_whole_22 rfl (by first | with_reducible assumption | with_reducible exact in_slot (by with_reducible assumption) (by with_reducible assumption) | with_reducible exact in_row _ (by decide) (by with_reducible assumption) | with_reducible exact in_row0 (by with_reducible assumption) | with_reducible exact in_slot0 (by with_reducible assumption) | (simp (disch := decide) only [up_k, up_s, up_f] <;> with_reducible assumption)) ?_
      refine tr_iald eX7_whole_23 rfl (by first | with_reducible assumption | with_reducible exact in_slot (by with_reducible assumption) (by with_reducible assumption) | with_reducible exact in_row _ (by decide) (by with_reducible assumption) | with_reducible exact in_row0 (by with_reducible assumption) | with_reducible exact in_slot0 (by with_reducible assumption) | (simp (disch := decide) only [up_k, up_s, up_f] <;> with_reducible assumption)) ?_
      refine tr_iconst eX7_whole_24 (nI 2) ci_2 ?_
      refine tr_icmp_eq eX7_whole_25 (fun h25 => ?_) (fun h25 => ?_)
      · skip
        refine tr_iconst eX7_whole_43 (nI 1) ci_1 ?_
        refine tr_goto eX7_whole_44 ?_
        refine tr_iadd eX7_whole_48 ?_
        rw [nI_add]
        refine tr_istore_n eX7_whole_49 (by decide) rfl ?_
        refine tr_iinc eX7_whole_50 _ (by first | with_reducible exact inc_n _ | with_reducible exact ix_s _ _ | with_reducible rfl) rfl (by decide) rfl ?_
        refine tr_goto eX7_whole_53 ?_
        have hg : s_gate τ (τ 18 (nI i)) = true := by unfold s_gate; exact decide_eq_true (Or.inl h25)
        refine ih (i + 1) (c + 1) (by omega) ?_
        rw [ct, if_pos hg] at kk
        rwa [show c + (1 + ct (fun i => s_gate τ (τ 18 i)) f (i + 1)) = c + 1 + ct (fun i => s_gate τ (τ 18 i)) f (i + 1) by omega] at kk
      · skip
        refine tr_aload_n eX7_whole_28 rfl ?_
        refine tr_getR eX7_whole_29 fk_X7_16 rfl rfl ?_
        refine tr_aload_n eX7_whole_32 rfl ?_
        refine tr_getR eX7_whole_33 fk_X7_65 rfl rfl ?_
        refine tr_iload_n eX7_whole_36 rfl ?_
        refine tr_iald eX7_whole_37 rfl (by first | with_reducible assumption | with_reducible exact in_slot (by with_reducible assumption) (by with_reducible assumption) | with_reducible exact in_row _ (by decide) (by with_reducible assumption) | with_reducible exact in_row0 (by with_reducible assumption) | with_reducible exact in_slot0 (by with_reducible assumption) | (simp (disch := decide) only [up_k, up_s, up_f] <;> with_reducible assumption)) ?_
        refine tr_iald eX7_whole_38 rfl (by first | with_reducible assumption | with_reducible exact in_slot (by with_reducible assumption) (by with_reducible assumption) | with_reducible exact in_row _ (by decide) (by with_reducible assumption) | with_reducible exact in_row0 (by with_reducible assumption) | with_reducible exact in_slot0 (by with_reducible assumption) | (simp (disch := decide) only [up_k, up_s, up_f] <;> with_reducible assumption)) ?_
        refine tr_iconst eX7_whole_39 (nI 3) ci_3 ?_
        refine tr_icmp_ne eX7_whole_40 (fun h40 => ?_) (fun h40 => ?_)
        · skip
          refine tr_iconst eX7_whole_47 (nI 0) ci_0 ?_
          refine tr_iadd eX7_whole_48 ?_
          rw [nI_add]
          refine tr_istore_n eX7_whole_49 (by decide) rfl ?_
          refine tr_iinc eX7_whole_50 _ (by first | with_reducible exact inc_n _ | with_reducible exact ix_s _ _ | with_reducible rfl) rfl (by decide) rfl ?_
          refine tr_goto eX7_whole_53 ?_
          have hg : ¬ s_gate τ (τ 18 (nI i)) = true := by unfold s_gate; rw [decide_eq_true_eq]; exact fun q => q.elim h25 h40
          refine ih (i + 1) c (by omega) ?_
          rw [ct, if_neg hg] at kk
          rwa [show c + (0 + ct (fun i => s_gate τ (τ 18 i)) f (i + 1)) = c + ct (fun i => s_gate τ (τ 18 i)) f (i + 1) by omega] at kk
        · skip
          refine tr_iconst eX7_whole_43 (nI 1) ci_1 ?_
          refine tr_goto eX7_whole_44 ?_
          refine tr_iadd eX7_whole_48 ?_
          rw [nI_add]
          refine tr_istore_n eX7_whole_49 (by decide) rfl ?_
          refine tr_iinc eX7_whole_50 _ (by first | with_reducible exact inc_n _ | with_reducible exact ix_s _ _ | with_reducible rfl) rfl (by decide) rfl ?_
          refine tr_goto eX7_whole_53 ?_
          have hg : s_gate τ (τ 18 (nI i)) = true := by unfold s_gate; exact decide_eq_true (Or.inr h40)
          refine ih (i + 1) (c + 1) (by omega) ?_
          rw [ct, if_pos hg] at kk
          rwa [show c + (1 + ct (fun i => s_gate τ (τ 18 i)) f (i + 1)) = c + 1 + ct (fun i => s_gate τ (τ 18 i)) f (i + 1) by omega] at kk
theorem lp_X7_whole_72 {n : Nat} {σ : tSt} {c : Int32} (h40 : n ≤ 40) (hn : σ 0 (nI 26) = nI n) : ∀ (f i : Nat), i + f = n → TT mX7_whole 72 [.ref 0, .int c, .int (nI i)] [] (cpS σ 18 19 i) (PE none (cpS σ 18 19 n)) := by
  intro f
  induction f with
  | zero =>
    intro i hi
    have hn' : cpS σ 18 19 i 0 (nI 26) = nI n := hn
    have ei : i = n := by omega
    subst ei
    refine tr_iload_n eX7_whole_72 rfl ?_
    refine tr_aload_n eX7_whole_73 rfl ?_
    refine tr_getI eX7_whole_74 fk_X7_188 rfl rfl ?_
    refine tr_icmp_ge eX7_whole_77 (fun h77 => ?_) (fun h77 => ?_)
    · skip
      refine tr_vret eX7_whole_98 rfl ?_
      exact ⟨rfl, rfl⟩
    · skip
      exact absurd (lt_of hn' (by omega) (by omega) h77) (by omega)
  | succ f ih =>
    intro i hi
    have hn' : cpS σ 18 19 i 0 (nI 26) = nI n := hn
    have hin : vp_in (nI i) 40 := vp_in_nI (by omega) (by decide)
    refine tr_iload_n eX7_whole_72 rfl ?_
    refine tr_aload_n eX7_whole_73 rfl ?_
    refine tr_getI eX7_whole_74 fk_X7_188 rfl rfl ?_
    refine tr_icmp_ge eX7_whole_77 (fun h77 => ?_) (fun h77 => ?_)
    · skip
      exact absurd (ge_of hn' (by omega) (by omega) h77) (by omega)
    · skip
      refine tr_aload_n eX7_whole_80 rfl ?_
      refine tr_getR eX7_whole_81 fk_X7_68 rfl rfl ?_
      refine tr_iload_n eX7_whole_84 rfl ?_
      refine tr_aload_n eX7_whole_85 rfl ?_
      refine tr_getR eX7_whole_86 fk_X7_65 rfl rfl ?_
      refine tr_iload_n eX7_whole_89 rfl ?_
      refine tr_iald eX7_whole_90 rfl (by first | with_reducible assumption | with_reducible exact in_slot (by with_reducible assumption) (by with_reducible assumption) | with_reducible exact in_row _ (by decide) (by with_reducible assumption) | with_reducible exact in_row0 (by with_reducible assumption) | with_reducible exact in_slot0 (by with_reducible assumption) | (simp (disch := decide) only [up_k, up_s, up_f] <;> with_reducible assumption)) ?_
      refine tr_iast eX7_whole_91 rfl (by first | with_reducible assumption | with_reducible exact in_slot (by with_reducible assumption) (by with_reducible assumption) | with_reducible exact in_row _ (by decide) (by with_reducible assumption) | with_reducible exact in_row0 (by with_reducible assumption) | with_reducible exact in_slot0 (by with_reducible assumption) | (simp (disch := decide) only [up_k, up_s, up_f] <;> with_reducible assumption)) ?_
      refine tr_iinc eX7_whole_92 _ (by first | with_reducible exact inc_n _ | with_reducible exact ix_s _ _ | with_reducible rfl) rfl (by decide) rfl ?_
      refine tr_goto eX7_whole_95 ?_
      rw [cpS_1 (by decide) (by omega)]
      exact ih (i + 1) (by omega)
def m_kp (τ : tSt) (n : Nat) : tSt := if τ 0 (nI 30) < (nI (ct (fun i => s_gate τ (τ 18 i)) n 0)) then cpS (up τ 0 (nI 30) (nI (ct (fun i => s_gate τ (τ 18 i)) n 0))) 18 19 n else τ
theorem k_X7_whole {n : Nat} {τ : tSt} (h40 : n ≤ 40) (hn : τ 0 (nI 26) = nI n) (hc : ∀ p, p < n → vp_in (τ 18 (nI p)) 24) : CT mX7_whole [.ref 0] τ (PE none (m_kp τ n)) := by
  refine CT.of2 2 (by decide) rfl rfl ?_
  refine tr_iconst eX7_whole_0 (nI 0) ci_0 ?_
  refine tr_istore_n eX7_whole_1 (by decide) rfl ?_
  refine tr_iconst eX7_whole_2 (nI 0) ci_0 ?_
  refine tr_istore_n eX7_whole_3 (by decide) rfl ?_
  refine lp_X7_whole_4 h40 hn hc n 0 0 (by omega) ?_
  rw [Nat.zero_add]
  refine tr_iload_n eX7_whole_56 rfl ?_
  refine tr_aload_n eX7_whole_57 rfl ?_
  refine tr_getI eX7_whole_58 fk_X7_205 rfl rfl ?_
  refine tr_icmp_gt eX7_whole_61 (fun h61 => ?_) (fun h61 => ?_)
  · skip
    refine tr_aload_n eX7_whole_65 rfl ?_
    refine tr_iload_n eX7_whole_66 rfl ?_
    refine tr_put eX7_whole_67 fp_X7_205 rfl rfl ?_
    refine tr_iconst eX7_whole_70 (nI 0) ci_0 ?_
    refine tr_istore_n eX7_whole_71 (by decide) rfl ?_
    rw [m_kp, if_pos h61]
    have h := lp_X7_whole_72 (σ := up τ 0 (nI 30) (nI (ct (fun i => s_gate τ (τ 18 i)) n 0))) (c := (nI (ct (fun i => s_gate τ (τ 18 i)) n 0))) h40 (by rw [up_f (by decide)]; exact hn) n 0 (by omega)
    rw [cpS_0] at h
    exact h
  · skip
    refine tr_vret eX7_whole_64 rfl ?_
    exact ⟨rfl, by rw [m_kp, if_neg h61]⟩

theorem kp_bm {τ : tSt} {n : Nat} {s : tSS} (h1 : aM τ = s.2.2.2) (h2 : τ 18 = s.2.1) : ct (fun i => s_gate τ (τ 18 i)) n 0 = cnG n s := by
  unfold cnG
  refine ct_congr (fun j _ _ => ?_)
  rw [← h1, ← h2]
  unfold s_gate
  rw [aM_k _ (by decide)]
theorem m_kp_R {l : List Nat} {τ : tSt} {s : tSS} {b : tBB} (hR : RSm l τ s b) : RSm l (m_kp τ l.length) s (kpA l.length s b) := by
  obtain ⟨r1, r2, r3, r4, r5, r6, r7⟩ := hR
  have ec := kp_bm (n := l.length) r1 r2
  unfold m_kp kpA
  rw [ec, r6]
  by_cases h : b.1 < nI (cnG l.length s)
  · rw [if_pos h, if_pos h]
    refine ⟨?_, ?_, ?_, ?_, ?_, ?_, ?_⟩
    · rw [← r1, ← aM_f0_30 τ (nI (cnG l.length s))]
      funext k j
      unfold aM
      rw [cpS_k (by decide)]
      by_cases hk : k = 0
      · rw [if_pos hk, if_pos hk]
      · rw [if_neg hk, if_neg hk]
        by_cases h16 : k ≤ 16
        · rw [if_pos h16, if_pos h16, cpS_k (by omega)]
        · rw [if_neg h16, if_neg h16]
    · rw [cpS_k (by decide), up_k (by decide)]; exact r2
    · rw [cpS_k (by decide), up_f (by decide)]; exact r3
    · rw [cpS_k (by decide), up_f (by decide)]; exact r4
    · rw [cpS_k (by decide), up_k (by decide)]; exact r5
    · rw [cpS_k (by decide), up_s]
    · rw [cpS_s, up_k (by decide), up_k (by decide), r2, r7]
  · rw [if_neg h, if_neg h]
    exact ⟨r1, r2, r3, r4, r5, r6, r7⟩
