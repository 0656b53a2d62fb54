/-! SEARCH of the class -/
def cpS (σ : tSt) (k0 k1 n : Nat) : tSt := fun k => if k = k1 then cpA n (σ k0) (σ k1) else σ k
theorem cpS_k {σ : tSt} {k0 k1 n k : Nat} (h : k ≠ k1) : cpS σ k0 k1 n k = σ k := by simp [cpS, h]
theorem cpS_s {σ : tSt} {k0 k1 n : Nat} : cpS σ k0 k1 n k1 = cpA n (σ k0) (σ k1) := by simp [cpS]
theorem tput_copy {D : va_G} {cl : List vw_C} {ad : Nat → Nat} {cA cZ : ClassId} {sh : tSh} {σ : tSt} {k k0 : Nat} {N n : Nat} {H : Heap} (hs : sh[k]? = some (.inl (false, N))) (hN : N < 2 ^ 31) (hn : n ≤ N)
    (h : va_P D cl ((tpic ad cA cZ sh σ).set k (ad k, .inl (cA, N, .inl (va_cpy (fun j => σ k0 (nI j)) (fun j => σ k (nI j)) (tn (nI 0)) (tn (nI 0)) (tn (nI n)))))) H) : va_P D cl (tpic ad cA cZ sh (cpS σ k0 k n)) H := by
  have hk : k < (tpic ad cA cZ sh σ).length := (List.getElem?_eq_some_iff.mp (tpic_at hs)).1
  have e0 : tn (nI 0) = 0 := by decide
  have en : tn (nI n) = n := nI_clamp (by omega)
  intro k' q hq
  obtain ⟨q', hq', rfl⟩ := tpic_of hq
  by_cases hkk : k' = k
  · subst hkk
    obtain rfl : q' = .inl (false, N) := Option.some.inj (hq'.symm.trans hs)
    have h1 := h k' _ (List.getElem?_set_self hk)
    show H[ad k']? = some (vp_cell _ _)
    refine Eq.trans h1 (congrArg some (vcell_congr fun j hj => ?_))
    rw [cpS_s, e0, en]
    simp only [va_cpy, cpA]
    have c0 : ¬ nI j < 0 := fun q => absurd (nI_pos' (by omega)) (Int32.not_le.mpr q)
    by_cases hjn : j < n
    · rw [if_pos ⟨Nat.zero_le _, by omega⟩, if_pos ⟨c0, (nI_ltI (by omega) (by omega)).mpr hjn⟩, show 0 + (j - 0) = j by omega]
    · rw [if_neg (fun q => hjn (by omega)), if_neg (fun q => hjn ((nI_ltI (by omega) (by omega)).mp q.2))]
  · have h1 := h k' (ad k', tent ad cA cZ (σ k') q') (by rw [List.getElem?_set_ne (Ne.symm hkk)]; exact tpic_at hq')
    rw [cpS_k hkk]
    exact h1
theorem tr_copy {y : tMS} {pc pc' : Nat} {L st : List Value} {σ : tSt} {Q : Option Int32 → tSt → Prop} {ix k0 k1 n N : Nat} (d : DC y pc (.invokestatic ix) 3 pc') (hl : tWD (.methodLink y.1.cls ix arraycopyName)) (h0 : (shp y.2.2.2.2.2)[k0]? = some (.inl (false, N))) (h1 : (shp y.2.2.2.2.2)[k1]? = some (.inl (false, N))) (hn : n ≤ N) (hR : 1 ≤ y.2.2.2.2.1.frames) (hR2 : (st.map fun v => v.category).sum + (nativeFrameWords "java/lang/System" "arraycopy" 5 + 11) ≤ y.2.2.2.2.1.locals) (kk : TT y pc' L st (cpS σ k0 k1 n) Q) : TT y pc L (.int (nI n) :: .int (nI 0) :: .ref k1 :: .int (nI 0) :: .ref k0 :: st) σ Q := by
  intro l D ad cA cZ p e s m args below meth c H locs ls hC hP hS hL
  obtain ⟨hd, rfl⟩ := d
  have hTB := hC.2.2.2.2.2.2.1
  have e0 : tn (nI 0) = 0 := by decide
  have en : tn (nI n) = n := nI_clamp (by have := shp_n h0; omega)
  exact va_copyi hC.1 hC.2.1 (hC.2.2.1.trans hL.1.symm) hC.2.2.2.2.2.1 (tTB.use hTB hl) (tTB.use hTB wa_n) (tTB.use hTB wa_s) (tTB.use hTB wa_i) hC.2.2.2.2.2.2.2.1 hP (tpic_D hC.2.2.2.2.2.2.2.2.1) hS k0 k1 0 0 (tpic_at h0) (tpic_at h1) rfl rfl rfl (by decide) (by decide) (fun q => absurd (nI_pos' (by have := shp_n h0; omega)) (Int32.not_le.mpr q)) (by show tn (nI 0) + tn (nI n) ≤ N; rw [e0, en]; omega) (by show tn (nI 0) + tn (nI n) ≤ N; rw [e0, en]; omega) (fun _ _ => rfl) hR (by rw [cv_sum]; exact hR2) hd
    (fun H1 locs1 hP1 _ hS1 => kk l D ad cA cZ p e s m args below meth c H1 locs1 ls hC (tput_copy h1 (shp_n h1) hn hP1) hS1 hL)
theorem aX_offG {σ ρ : tSt} (h : ∀ k, k ≤ 18 ∨ k = 25 → ρ k = σ k) : aX ρ = aX σ := by
  funext k i
  simp only [aX]
  rw [h 17 (by decide), h 18 (by decide), h 0 (by decide), h 25 (by decide)]
  by_cases hk : k = 0
  · rw [if_pos hk, if_pos hk]
  · rw [if_neg hk, if_neg hk]
    by_cases h16 : k ≤ 16
    · rw [if_pos h16, if_pos h16, h k (by omega)]
    · rw [if_neg h16, if_neg h16]
def bSt (σ ρ : tSt) (P : Int32 → Bool) (i : Nat) : Prop := (∀ k, k ≠ 31 → k ≠ 23 → ρ k = σ k) ∧ LNS (ρ 31) (sl0 P i) ∧ ρ 23 (nI 1) = nI (sl0 P i).length
theorem bSt_skip {σ ρ : tSt} {P : Int32 → Bool} {i : Nat} (h : bSt σ ρ P i) (hp : ¬ P (nI i) = true) : bSt σ ρ P (i + 1) := by
  unfold bSt
  rw [sl0_f hp]
  exact h
theorem bSt_join {σ ρ : tSt} {P : Int32 → Bool} {i : Nat} (h : bSt σ ρ P i) (hi : i < 40) (hp : P (nI i) = true) : bSt σ (up (up ρ 31 (ρ 23 (nI 1)) (nI i)) 23 (nI 1) (ρ 23 (nI 1) + nI 1)) P (i + 1) := by
  have hlen := sl0_len P i
  unfold bSt
  rw [sl0_t hp]
  refine ⟨fun k a b => by rw [up_k b, up_k a]; exact h.1 k a b, ?_, ?_⟩
  · rw [up_k (by decide), h.2.2]
    exact LNS_snoc h.2.1 (fun q hq => up_n (nI_ne (by omega) (by omega) (by omega))) up_s
  · rw [up_s, h.2.2, nI_add, List.length_append]; rfl
theorem lp_X4_begin_9 {σ : tSt} {nV : Nat} (hV : σ 18 (nI 6) = nI nV) (hV40 : nV ≤ 40) {Q : Option Int32 → tSt → Prop} (kk : ∀ ρ, bSt σ ρ (fun v => s_come σ (σ 18 (nI 7)) v) nV → TT mX4_begin 45 [.ref 20, .null] [] ρ Q) : ∀ (f i : Nat) (ρ : tSt), i + f = nV → bSt σ ρ (fun v => s_come σ (σ 18 (nI 7)) v) i → TT mX4_begin 9 [.ref 20, .int (nI i)] [] ρ Q := by
  intro f
  induction f with
  | zero =>
    intro i ρ hi hL
    have hVρ : ρ 18 (nI 6) = nI nV := by rw [hL.1 18 (by decide) (by decide)]; exact hV
    have ei : i = nV := by omega
    subst ei
    refine tr_iload_n eX4_begin_9 rfl ?_
    refine tr_aload_n eX4_begin_10 rfl ?_
    refine tr_getR eX4_begin_11 fk_X4_29 rfl rfl ?_
    refine tr_getI eX4_begin_14 fk_X4_63 rfl rfl ?_
    refine tr_icmp_ge eX4_begin_17 (fun h17 => ?_) (fun h17 => ?_)
    · skip
      exact TT.fg [1] (kk ρ hL)
    · skip
      exact absurd (lt_of hVρ (by omega) (by omega) h17) (by omega)
  | succ f ih =>
    intro i ρ hi hL
    have hVρ : ρ 18 (nI 6) = nI nV := by rw [hL.1 18 (by decide) (by decide)]; exact hV
    have hin : vp_in (nI i) 40 := vp_in_nI (by omega) (by decide)
    have hlen := sl0_len (fun v => s_come σ (σ 18 (nI 7)) v) i
    have e18 : ρ 18 = σ 18 := hL.1 18 (by decide) (by decide)
    have hPi : s_come ρ (ρ 18 (nI 7)) (nI i) = (fun v => s_come σ (σ 18 (nI 7)) v) (nI i) := by
      show _ = s_come σ (σ 18 (nI 7)) (nI i)
      rw [e18]
      exact come_eq (hL.1 10 (by decide) (by decide)) (hL.1 11 (by decide) (by decide)) (hL.1 12 (by decide) (by decide)) _ _
    refine tr_iload_n eX4_begin_9 rfl ?_
    refine tr_aload_n eX4_begin_10 rfl ?_
    refine tr_getR eX4_begin_11 fk_X4_29 rfl rfl ?_
    refine tr_getI eX4_begin_14 fk_X4_63 rfl rfl ?_
    refine tr_icmp_ge eX4_begin_17 (fun h17 => ?_) (fun h17 => ?_)
    · skip
      exact absurd (ge_of hVρ (by omega) (by omega) h17) (by omega)
    · skip
      refine tr_aload_n eX4_begin_20 rfl ?_
      refine tr_getR eX4_begin_21 fk_X4_29 rfl rfl ?_
      refine tr_iload_n eX4_begin_24 rfl ?_
      refine tr_ce1 eX4_begin_25 zv_X5_isToCome zi_X5_isToCome lk_X4_68 ⟨rfl, by decide, by decide⟩ rfl rfl rfl (k_X5_isToCome (by first | with_reducible assumption | with_reducible exact in_slot (by with_reducible assumption) (by with_reducible assumption) | with_reducible exact in_row _ (by decide) (by with_reducible assumption) | with_reducible exact in_row0 (by with_reducible assumption) | with_reducible exact in_slot0 (by with_reducible assumption) | (simp (disch := decide) only [up_k, up_s, up_f] <;> with_reducible assumption))) ?_
      refine tr_if_eq eX4_begin_28 (fun h28 => ?_) (fun h28 => ?_)
      · skip
        try first | replace h28 := bi_0 h28 | replace h28 := bi_n h28
        rw [hPi] at h28
        refine tr_iinc eX4_begin_39 _ (by first | with_reducible exact inc_n _ | with_reducible exact ix_s _ _ | with_reducible rfl) rfl (by decide) rfl ?_
        refine tr_goto eX4_begin_42 ?_
        exact ih (i + 1) ρ (by omega) (bSt_skip hL h28)
      · skip
        try first | replace h28 := bi_0 h28 | replace h28 := bi_n h28
        rw [hPi] at h28
        refine tr_aload_n eX4_begin_31 rfl ?_
        refine tr_getR eX4_begin_32 fk_X4_12 rfl rfl ?_
        refine tr_iload_n eX4_begin_35 rfl ?_
        refine tr_ce1 eX4_begin_36 zv_X3_join zi_X3_join lk_X4_72 ⟨rfl, by decide, by decide⟩ rfl rfl rfl (k_X3_join (σ := ρ) (j := 31) (by decide) rfl rfl hL.2.2 (by omega)) ?_
        try simp (disch := decide) only [up_k, up_s, up_f, s_set_0]
        refine tr_iinc eX4_begin_39 _ (by first | with_reducible exact inc_n _ | with_reducible exact ix_s _ _ | with_reducible rfl) rfl (by decide) rfl ?_
        refine tr_goto eX4_begin_42 ?_
        exact ih (i + 1) _ (by omega) (bSt_join hL (by omega) h28)
theorem k_X4_begin {σ : tSt} {nS nP nC nV : Nat} (hI : iA (aX σ) nS nP nC nV) (hz : aw0 σ) : CT mX4_begin [.ref 20] σ (fun r ρ => r = none ∧ RSx (l_srch (aX σ)) σ ρ (1, upA (σ 27) (nI 0) (-1), 0, aX σ)) := by
  have hI0 := hI.1
  have hS := hI0.1.1
  rw [aX_0] at hS
  have hP := hI0.2.1.1
  rw [aX_1] at hP
  have hC := hI0.2.2.1.1
  rw [aX_2] at hC
  have hV := hI0.2.2.2.1
  rw [aX_3] at hV
  have hS24 := hI0.1.2
  have hP40 := hI0.2.1.2
  have hC20 := hI0.2.2.1.2
  have hV40 := hI0.2.2.2.2
  refine CT.of2 1 (by decide) rfl rfl ?_
  refine tr_aload_n eX4_begin_0 rfl ?_
  refine tr_getR eX4_begin_1 fk_X4_12 rfl rfl ?_
  refine tr_ce0 eX4_begin_4 zv_X3_empty zi_X3_empty lk_X4_60 ⟨rfl, by decide, by decide⟩ rfl rfl rfl (k_X3_empty (j := 31) rfl) ?_
  try simp (disch := decide) only [up_k, up_s, up_f, s_set_0]
  refine tr_iconst eX4_begin_7 (nI 0) ci_0 ?_
  refine tr_istore_n eX4_begin_8 (by decide) rfl ?_
  refine lp_X4_begin_9 (σ := σ) hV hV40 (fun ρ hL => ?_) nV 0 _ (by omega) ⟨fun k a b => up_k b, fun q hq => absurd hq (by simp [sl0]), by rw [up_s]; rfl⟩
  have el : sl0 (fun v => s_come σ (σ 18 (nI 7)) v) nV = l_srch (aX σ) := by
    rw [l_srch, tn_of hI0.2.2.2.1 (by omega)]
    exact congrArg (fun P => sl0 P nV) (funext fun v => by rw [s_come_aX, aX_4])
  obtain ⟨b1, b2, b3⟩ := hL
  rw [el] at b2 b3
  refine tr_aload_n eX4_begin_45 rfl ?_
  refine tr_iconst eX4_begin_46 (nI 0) ci_0 ?_
  refine tr_put eX4_begin_47 fp_X4_76 rfl rfl ?_
  refine tr_aload_n eX4_begin_50 rfl ?_
  refine tr_iconst eX4_begin_51 (nI 0) ci_0 ?_
  refine tr_put eX4_begin_52 fp_X4_79 rfl rfl ?_
  refine tr_aload_n eX4_begin_55 rfl ?_
  refine tr_getR eX4_begin_56 fk_X4_18 rfl rfl ?_
  refine tr_iconst eX4_begin_59 (nI 0) ci_0 ?_
  refine tr_iconst eX4_begin_60 (-1) ci_m1 ?_
  refine tr_iast eX4_begin_61 rfl (vp_in_nI (by decide) (by decide)) ?_
  refine tr_vret eX4_begin_62 rfl ?_
  refine ⟨rfl, ?_, ?_, ?_, ?_, ?_, ?_, ?_, ?_, ?_⟩
  · rw [aX_s _ (by decide), aX_s _ (by decide), aX_s _ (by decide)]
    exact aX_offG (fun k hk => b1 k (by omega) (by omega))
  · rw [up_upA, up_k (by decide), up_k (by decide), b1 27 (by decide) (by decide)]
  · rw [up_k (by decide), up_f (by decide), up_s]
  · rw [up_k (by decide), up_s]; exact (show nI 0 = nI 1 - nI 1 by decide)
  · intro u hu
    rw [up_k (by decide), up_k (by decide), up_k (by decide), b1 26 (by decide) (by decide)]; exact hz u hu
  · rw [up_k (by decide), up_k (by decide), up_k (by decide)]; exact b3
  · rw [up_k (by decide), up_k (by decide), up_k (by decide)]; exact b2
  · rw [up_k (by decide), up_k (by decide), up_k (by decide)]; exact b1 28 (by decide) (by decide)
  · rw [up_k (by decide), up_f (by decide), up_f (by decide)]; exact congrFun (b1 20 (by decide) (by decide)) _

theorem offA_c (v : Nat) (l : List Nat) (μ : tSt) : offA (v :: l) μ = offA l (up μ 12 (nI v) (nI 0)) := rfl
theorem lns_at {g : Int32 → Int32} {l : List Nat} {i : Nat} (h : LNS g l) (hi : i < l.length) : g (nI i) = nI l[i] := h i hi
theorem lp_X4_takeAllOff_2 {l : List Nat} (h40 : l.length ≤ 40) (hv40 : ∀ v ∈ l, v < 40) : ∀ (f i : Nat) (σ : tSt), i + f = l.length → σ 23 (nI 1) = nI l.length → LNS (σ 31) l → TT mX4_takeAllOff 2 [.ref 20, .int (nI i)] [] σ (fun r ρ => r = none ∧ aX ρ = offA (l.drop i) (aX σ) ∧ ∀ k, k ≠ 12 → ρ k = σ k) := by
  intro f
  induction f with
  | zero =>
    intro i σ hi hn hln
    refine tr_iload_n eX4_takeAllOff_2 rfl ?_
    refine tr_aload_n eX4_takeAllOff_3 rfl ?_
    refine tr_getR eX4_takeAllOff_4 fk_X4_12 rfl rfl ?_
    refine tr_getI eX4_takeAllOff_7 fk_X4_40 rfl rfl ?_
    refine tr_icmp_ge eX4_takeAllOff_10 (fun h10 => ?_) (fun h10 => ?_)
    · skip
      refine tr_vret eX4_takeAllOff_35 rfl ?_
      exact ⟨rfl, by rw [List.drop_eq_nil_of_le (by omega)]; rfl, fun _ _ => rfl⟩
    · skip
      exact absurd (lt_of hn (by omega) (by omega) h10) (by omega)
  | succ f ih =>
    intro i σ hi hn hln
    have hil : i < l.length := by omega
    have hin : vp_in (nI i) 40 := vp_in_nI (by omega) (by decide)
    have em := lns_at hln hil
    have hv : vp_in (nI l[i]) 40 := vp_in_nI (hv40 _ (List.getElem_mem hil)) (by decide)
    refine tr_iload_n eX4_takeAllOff_2 rfl ?_
    refine tr_aload_n eX4_takeAllOff_3 rfl ?_
    refine tr_getR eX4_takeAllOff_4 fk_X4_12 rfl rfl ?_
    refine tr_getI eX4_takeAllOff_7 fk_X4_40 rfl rfl ?_
    refine tr_icmp_ge eX4_takeAllOff_10 (fun h10 => ?_) (fun h10 => ?_)
    · skip
      exact absurd (ge_of hn (by omega) (by omega) h10) (by omega)
    · skip
      refine tr_aload_n eX4_takeAllOff_13 rfl ?_
      refine tr_getR eX4_takeAllOff_14 fk_X4_29 rfl rfl ?_
      refine tr_aload_n eX4_takeAllOff_17 rfl ?_
      refine tr_getR eX4_takeAllOff_18 fk_X4_12 rfl rfl ?_
      refine tr_getR eX4_takeAllOff_21 fk_X4_82 rfl rfl ?_
      refine tr_iload_n eX4_takeAllOff_24 rfl ?_
      refine tr_iald eX4_takeAllOff_25 rfl (by first | with_reducible assumption | with_reducible exact in_slot (by with_reducible assumption) (by with_reducible assumption) | with_reducible exact in_row _ (by decide) (by with_reducible assumption) | with_reducible exact in_row0 (by with_reducible assumption) | with_reducible exact in_slot0 (by with_reducible assumption) | (simp (disch := decide) only [up_k, up_s, up_f] <;> with_reducible assumption)) ?_
      rw [em]
      refine tr_ce1 eX4_takeAllOff_26 zv_X5_takeOff zi_X5_takeOff lk_X4_85 ⟨rfl, by decide, by decide⟩ rfl rfl rfl (k_X5_takeOff hv) ?_
      try simp (disch := decide) only [up_k, up_s, up_f, s_set_0]
      refine tr_iinc eX4_takeAllOff_29 _ (by first | with_reducible exact inc_n _ | with_reducible exact ix_s _ _ | with_reducible rfl) rfl (by decide) rfl ?_
      refine tr_goto eX4_takeAllOff_32 ?_
      refine TT.post (ih (i + 1) _ (by omega) (by rw [up_k (by decide)]; exact hn) (by rw [up_k (by decide)]; exact hln)) (fun r ρ h => ⟨h.1, ?_, fun k hk => by rw [h.2.2 k hk, up_k hk]⟩)
      rw [h.2.1, aX_u _ (by decide), drop_cons hil, offA_c]
theorem k_X4_takeAllOff {l : List Nat} {σ : tSt} (h40 : l.length ≤ 40) (hv40 : ∀ v ∈ l, v < 40) (hn : σ 23 (nI 1) = nI l.length) (hln : LNS (σ 31) l) : CT mX4_takeAllOff [.ref 20] σ (fun r ρ => r = none ∧ aX ρ = offA l (aX σ) ∧ ∀ k, k ≠ 12 → ρ k = σ k) := by
  refine CT.of2 1 (by decide) rfl rfl ?_
  refine tr_iconst eX4_takeAllOff_0 (nI 0) ci_0 ?_
  refine tr_istore_n eX4_takeAllOff_1 (by decide) rfl ?_
  exact lp_X4_takeAllOff_2 h40 hv40 l.length 0 σ (by omega) hn hln

theorem lp_X4_keep_4 {n : Nat} {σ : tSt} (h40 : n ≤ 40) (hn : σ 23 (nI 1) = nI n) (hc : ∀ p, p < n → vp_in (σ 27 (nI p)) 24) {Q : Option Int32 → tSt → Prop} : ∀ (f i c : Nat), i + f = n → TT mX4_keepIfBetter 40 [.ref 20, .int (nI (c + ct (fun i => s_gate σ (σ 27 i)) f i)), .null] [] σ Q → TT mX4_keepIfBetter 4 [.ref 20, .int (nI c), .int (nI i)] [] σ Q := by
  intro f
  induction f with
  | zero =>
    intro i c hi kk
    refine tr_iload_n eX4_keepIfBetter_4 rfl ?_
    refine tr_aload_n eX4_keepIfBetter_5 rfl ?_
    refine tr_getR eX4_keepIfBetter_6 fk_X4_12 rfl rfl ?_
    refine tr_getI eX4_keepIfBetter_9 fk_X4_40 rfl rfl ?_
    refine tr_icmp_ge eX4_keepIfBetter_12 (fun h12 => ?_) (fun h12 => ?_)
    · skip
      exact TT.fg [2] kk
    · skip
      exact absurd (lt_of hn (by omega) (by omega) h12) (by omega)
  | succ f ih =>
    intro i c hi kk
    have hin : vp_in (nI i) 40 := vp_in_nI (by omega) (by decide)
    have hci := hc i (by omega)
    refine tr_iload_n eX4_keepIfBetter_4 rfl ?_
    refine tr_aload_n eX4_keepIfBetter_5 rfl ?_
    refine tr_getR eX4_keepIfBetter_6 fk_X4_12 rfl rfl ?_
    refine tr_getI eX4_keepIfBetter_9 fk_X4_40 rfl rfl ?_
    refine tr_icmp_ge eX4_keepIfBetter_12 (fun h12 => ?_) (fun h12 => ?_)
    · skip
      exact absurd (ge_of hn (by omega) (by omega) h12) (by omega)
    · skip
      refine tr_aload_n eX4_keepIfBetter_15 rfl ?_
      refine tr_getR eX4_keepIfBetter_16 fk_X4_25 rfl rfl ?_
      refine tr_aload_n eX4_keepIfBetter_19 rfl ?_
      refine tr_getR eX4_keepIfBetter_20 fk_X4_18 rfl rfl ?_
      refine tr_iload_n eX4_keepIfBetter_23 rfl ?_
      refine tr_iald eX4_keepIfBetter_24 rfl (by first | with_reducible assumption | with_reducible exact in_slot (by with_reducible assumption) (by with_reducible assumption) | with_reducible exact in_row _ (by decide) (by with_reducible assumption) | with_reducible exact in_row0 (by with_reducible assumption) | with_reducible exact in_slot0 (by with_reducible assumption) | (simp (disch := decide) only [up_k, up_s, up_f] <;> with_reducible assumption)) ?_
      refine tr_ce1 eX4_keepIfBetter_25 zv_X1_hasGate zi_X1_hasGate lk_X4_113 ⟨rfl, by decide, by decide⟩ rfl rfl rfl (k_X1_hasGate hci) ?_
      refine tr_if_eq eX4_keepIfBetter_28 (fun h28 => ?_) (fun h28 => ?_)
      · skip
        try first | replace h28 := bi_0 h28 | replace h28 := bi_n h28
        refine tr_iinc eX4_keepIfBetter_34 _ (by first | with_reducible exact inc_n _ | with_reducible exact ix_s _ _ | with_reducible rfl) rfl (by decide) rfl ?_
        refine tr_goto eX4_keepIfBetter_37 ?_
        refine ih (i + 1) c (by omega) ?_
        rw [ct, if_neg h28] at kk
        rwa [show c + (0 + ct (fun i => s_gate σ (σ 27 i)) f (i + 1)) = c + ct (fun i => s_gate σ (σ 27 i)) f (i + 1) by omega] at kk
      · skip
        try first | replace h28 := bi_0 h28 | replace h28 := bi_n h28
        refine tr_iinc eX4_keepIfBetter_31 _ (by first | with_reducible exact inc_n _ | with_reducible exact ix_s _ _ | with_reducible rfl) rfl (by decide) rfl ?_
        refine tr_iinc eX4_keepIfBetter_34 _ (by first | with_reducible exact inc_n _ | with_reducible exact ix_s _ _ | with_reducible rfl) rfl (by decide) rfl ?_
        refine tr_goto eX4_keepIfBetter_37 ?_
        refine ih (i + 1) (c + 1) (by omega) ?_
        rw [ct, if_pos h28] at kk
        rwa [show c + (1 + ct (fun i => s_gate σ (σ 27 i)) f (i + 1)) = c + 1 + ct (fun i => s_gate σ (σ 27 i)) f (i + 1) by omega] at kk
theorem k_X4_keepIfBetter {n : Nat} {σ : tSt} (h40 : n ≤ 40) (hn : σ 23 (nI 1) = nI n) (hc : ∀ p, p < n → vp_in (σ 27 (nI p)) 24) : CT mX4_keepIfBetter [.ref 20] σ (PE none (if σ 20 (nI 8) < (nI (ct (fun i => s_gate σ (σ 27 i)) n 0)) then cpS (up σ 20 (nI 8) (nI (ct (fun i => s_gate σ (σ 27 i)) n 0))) 27 28 n else σ)) := by
  refine CT.of2 2 (by decide) rfl rfl ?_
  refine tr_iconst eX4_keepIfBetter_0 (nI 0) ci_0 ?_
  refine tr_istore_n eX4_keepIfBetter_1 (by decide) rfl ?_
  refine tr_iconst eX4_keepIfBetter_2 (nI 0) ci_0 ?_
  refine tr_istore_n eX4_keepIfBetter_3 (by decide) rfl ?_
  refine lp_X4_keep_4 h40 hn hc n 0 0 (by omega) ?_
  rw [Nat.zero_add]
  refine tr_iload_n eX4_keepIfBetter_40 rfl ?_
  refine tr_aload_n eX4_keepIfBetter_41 rfl ?_
  refine tr_getI eX4_keepIfBetter_42 fk_X4_51 rfl rfl ?_
  refine tr_icmp_le eX4_keepIfBetter_45 (fun h45 => ?_) (fun h45 => ?_)
  · skip
    refine tr_vret eX4_keepIfBetter_73 rfl ?_
    exact ⟨rfl, by rw [if_neg (by simpa using h45)]⟩
  · skip
    refine tr_aload_n eX4_keepIfBetter_48 rfl ?_
    refine tr_iload_n eX4_keepIfBetter_49 rfl ?_
    refine tr_put eX4_keepIfBetter_50 fp_X4_51 rfl rfl ?_
    refine tr_aload_n eX4_keepIfBetter_53 rfl ?_
    refine tr_getR eX4_keepIfBetter_54 fk_X4_18 rfl rfl ?_
    refine tr_iconst eX4_keepIfBetter_57 (nI 0) ci_0 ?_
    refine tr_aload_n eX4_keepIfBetter_58 rfl ?_
    refine tr_getR eX4_keepIfBetter_59 fk_X4_22 rfl rfl ?_
    refine tr_iconst eX4_keepIfBetter_62 (nI 0) ci_0 ?_
    refine tr_aload_n eX4_keepIfBetter_63 rfl ?_
    refine tr_getR eX4_keepIfBetter_64 fk_X4_12 rfl rfl ?_
    refine tr_getI eX4_keepIfBetter_67 fk_X4_40 rfl rfl ?_
    try simp (disch := decide) only [up_k, up_s, up_f, s_set_0]
    try rw [hn]
    try rw [up_k (by decide), hn]
    refine tr_copy eX4_keepIfBetter_70 la_X4_116 rfl rfl h40 (by decide) (by decide) ?_
    refine tr_vret eX4_keepIfBetter_73 rfl ?_
    exact ⟨rfl, by rw [if_pos (by simpa using h45)]⟩

theorem lp_X4_putBest_2 {l : List Nat} (h40 : l.length ≤ 40) (hv40 : ∀ v ∈ l, v < 40) {g : Int32 → Int32} (hg : ∀ p, p < l.length → ¬ g (nI p) = -1) : ∀ (f i : Nat) (σ : tSt), i + f = l.length → σ 23 (nI 1) = nI l.length → LNS (σ 31) l → σ 28 = g → TT mX4_putBest 2 [.ref 20, .int (nI i), .null] [] σ (fun r ρ => r = none ∧ aX ρ = setA g i (l.drop i) (aX σ) ∧ ∀ k, k ≠ 12 → k ≠ 13 → k ≠ 14 → k ≠ 15 → ρ k = σ k) := by
  intro f
  induction f with
  | zero =>
    intro i σ hi hn hln hg8
    refine tr_iload_n eX4_putBest_2 rfl ?_
    refine tr_aload_n eX4_putBest_3 rfl ?_
    refine tr_getR eX4_putBest_4 fk_X4_12 rfl rfl ?_
    refine tr_getI eX4_putBest_7 fk_X4_40 rfl rfl ?_
    refine tr_icmp_ge eX4_putBest_10 (fun h10 => ?_) (fun h10 => ?_)
    · skip
      refine tr_vret eX4_putBest_52 rfl ?_
      exact ⟨rfl, by rw [List.drop_eq_nil_of_le (by omega)]; rfl, fun _ _ _ _ _ => rfl⟩
    · skip
      exact absurd (lt_of hn (by omega) (by omega) h10) (by omega)
  | succ f ih =>
    intro i σ hi hn hln hg8
    have hil : i < l.length := by omega
    have hin : vp_in (nI i) 40 := vp_in_nI (by omega) (by decide)
    have em := lns_at hln hil
    have hv : vp_in (nI l[i]) 40 := vp_in_nI (hv40 _ (List.getElem_mem hil)) (by decide)
    have hpl : CT mX5_place [.ref 18, .int (nI l[i]), .int (g (nI i)), .int (s_in σ (nI l[i]))] σ (PE (some (bi (g (nI i) ≠ -1))) (s_set σ (nI l[i]) (g (nI i)) (s_in σ (nI l[i])) (s_out σ (nI l[i])))) := by
      have h := k_X5_place (σ := σ) (v := nI l[i]) (s := g (nI i)) (a := s_in σ (nI l[i])) hv
      rwa [if_neg (hg i hil)] at h
    refine tr_iload_n eX4_putBest_2 rfl ?_
    refine tr_aload_n eX4_putBest_3 rfl ?_
    refine tr_getR eX4_putBest_4 fk_X4_12 rfl rfl ?_
    refine tr_getI eX4_putBest_7 fk_X4_40 rfl rfl ?_
    refine tr_icmp_ge eX4_putBest_10 (fun h10 => ?_) (fun h10 => ?_)
    · skip
      exact absurd (ge_of hn (by omega) (by omega) h10) (by omega)
    · skip
      refine tr_aload_n eX4_putBest_13 rfl ?_
      refine tr_getR eX4_putBest_14 fk_X4_12 rfl rfl ?_
      refine tr_getR eX4_putBest_17 fk_X4_82 rfl rfl ?_
      refine tr_iload_n eX4_putBest_20 rfl ?_
      refine tr_iald eX4_putBest_21 rfl (by first | with_reducible assumption | with_reducible exact in_slot (by with_reducible assumption) (by with_reducible assumption) | with_reducible exact in_row _ (by decide) (by with_reducible assumption) | with_reducible exact in_row0 (by with_reducible assumption) | with_reducible exact in_slot0 (by with_reducible assumption) | (simp (disch := decide) only [up_k, up_s, up_f] <;> with_reducible assumption)) ?_
      rw [em]
      refine tr_istore_n eX4_putBest_22 (by decide) rfl ?_
      refine tr_aload_n eX4_putBest_23 rfl ?_
      refine tr_getR eX4_putBest_24 fk_X4_29 rfl rfl ?_
      refine tr_iload_n eX4_putBest_27 rfl ?_
      refine tr_aload_n eX4_putBest_28 rfl ?_
      refine tr_getR eX4_putBest_29 fk_X4_22 rfl rfl ?_
      refine tr_iload_n eX4_putBest_32 rfl ?_
      refine tr_iald eX4_putBest_33 rfl (by first | with_reducible assumption | with_reducible exact in_slot (by with_reducible assumption) (by with_reducible assumption) | with_reducible exact in_row _ (by decide) (by with_reducible assumption) | with_reducible exact in_row0 (by with_reducible assumption) | with_reducible exact in_slot0 (by with_reducible assumption) | (simp (disch := decide) only [up_k, up_s, up_f] <;> with_reducible assumption)) ?_
      rw [hg8]
      refine tr_aload_n eX4_putBest_34 rfl ?_
      refine tr_getR eX4_putBest_35 fk_X4_29 rfl rfl ?_
      refine tr_iload_n eX4_putBest_38 rfl ?_
      refine tr_ce1 eX4_putBest_39 zv_X5_inOf zi_X5_inOf lk_X4_98 ⟨rfl, by decide, by decide⟩ rfl rfl rfl (k_X5_inOf hv) ?_
      refine tr_ce3 eX4_putBest_42 zv_X5_place zi_X5_place lk_X4_109 ⟨rfl, by decide, by decide⟩ rfl rfl rfl hpl ?_
      try simp (disch := decide) only [up_k, up_s, up_f, s_set_0]
      refine tr_pop eX4_putBest_45 rfl ?_
      refine tr_iinc eX4_putBest_46 _ (by first | with_reducible exact inc_n _ | with_reducible exact ix_s _ _ | with_reducible rfl) rfl (by decide) rfl ?_
      refine tr_goto eX4_putBest_49 ?_
      refine TT.fg [2] (TT.post (ih (i + 1) _ (by omega) hn hln hg8) (fun r ρ h => ⟨h.1, ?_, fun k a b c d => by rw [h.2.2 k a b c d, s_set, up_k d, up_k c, up_k b, up_k a]⟩))
      rw [h.2.1, aX_set, drop_cons hil, setA, s_in_aX, s_out_aX]
theorem k_X4_putBest {l : List Nat} {σ : tSt} (h40 : l.length ≤ 40) (hv40 : ∀ v ∈ l, v < 40) (hg : ∀ p, p < l.length → ¬ σ 28 (nI p) = -1) (hn : σ 23 (nI 1) = nI l.length) (hln : LNS (σ 31) l) : CT mX4_putBest [.ref 20] σ (fun r ρ => r = none ∧ aX ρ = setA (σ 28) 0 l (aX σ) ∧ ∀ k, k ≠ 12 → k ≠ 13 → k ≠ 14 → k ≠ 15 → ρ k = σ k) := by
  refine CT.of2 2 (by decide) rfl rfl ?_
  refine tr_iconst eX4_putBest_0 (nI 0) ci_0 ?_
  refine tr_istore_n eX4_putBest_1 (by decide) rfl ?_
  exact TT.fg [2] (lp_X4_putBest_2 h40 hv40 hg l.length 0 σ (by omega) hn hln rfl)

theorem k_X4_goToNextWhole {σ0 σ : tSt} {l : List Nat} {nS nP nC nV : Nat} {s : tSS} (hl : l.length ≤ 40) (hR : RSx l σ0 σ s) (hs : sOKs l nS nP nC nV s) : CT mX4_goToNextWhole [.ref 20] σ (fun r ρ => r = some (run1 l nS 15001 s).1 ∧ RSx l σ0 ρ (run1 l nS 15001 s).2) := by
  refine CT.of2 3 (by decide) rfl rfl ?_
  refine tr_iconst eX4_goToNextWhole_0 (nI 0) ci_0 ?_
  refine tr_istore_n eX4_goToNextWhole_1 (by decide) rfl ?_
  exact lp_X4_goTo_2 (nP := nP) (nC := nC) (nV := nV) hl 15001 0 σ s (by omega) hR hs

