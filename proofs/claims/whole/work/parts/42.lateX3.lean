theorem iA_ltP {μ : tSt} {nS nP nC nV u : Nat} (h : iA μ nS nP nC nV) (hu : u < nV) (hk : nI 2 < μ 11 (nI u)) : iA (ltP μ (nI u)) nS nP nC nV := by
  unfold ltP
  split
  · exact h
  · rename_i q
    obtain ⟨s, hs, es⟩ := s_B_in h q
    obtain ⟨a, b, e1, e2, h3, h4⟩ := h.2.2.1.1.io hu
    rw [es, e1, e2]
    exact iA_set h hu hk hs h3 h4
theorem iA_n9 {μ : tSt} {nS nP nC nV n : Nat} (h : iA μ nS nP nC nV) (hn : n ≤ 40) : iA (up μ 0 (nI 9) (nI n)) nS nP nC nV := by
  obtain ⟨⟨a1, a2, a3, a4⟩, b, c, d, ⟨e1, e2, e3⟩, f⟩ := h
  refine ⟨⟨?_, ?_, ?_, ?_⟩, b, c, d, ⟨?_, ?_, ⟨n, hn, up_s⟩⟩, f⟩
  · rw [up_f (by decide)]; exact a1
  · rw [up_f (by decide)]; exact a2
  · rw [up_f (by decide)]; exact a3
  · rw [up_f (by decide)]; exact a4
  · rw [up_f (by decide)]; exact e1
  · rw [up_f (by decide)]; exact e2
theorem iA_16 {μ : tSt} {nS nP nC nV : Nat} (h : iA μ nS nP nC nV) (i x : Int32) : iA (up μ 16 i x) nS nP nC nV := h
theorem chg_eq {μ : tSt} {n : Nat} (h : μ 0 (nI 9) = nI n) (u : Int32) : chg μ u = up (up μ 16 (nI n) u) 0 (nI 9) (nI (n + 1)) := by rw [chg, h, nI_add]
theorem iA_chg {μ : tSt} {nS nP nC nV n : Nat} (h : iA μ nS nP nC nV) (hn : μ 0 (nI 9) = nI n) (h40 : n < 40) (u : Int32) : iA (chg μ u) nS nP nC nV := by
  rw [chg_eq hn]
  exact iA_n9 (iA_16 h _ _) (by omega)
theorem ltP_0 (μ : tSt) (u : Int32) : ltP μ u 0 = μ 0 := by
  unfold ltP
  split
  · rfl
  · exact s_set_0 ..
theorem ltP_11 (μ : tSt) (u : Int32) : ltP μ u 11 = μ 11 := by
  unfold ltP
  split
  · rfl
  · rfl
theorem ltS_11 (F : Int32 → Int32) (μ : tSt) (u : Int32) : ltS F μ u 11 = μ 11 := by
  unfold ltS
  split
  · exact ltP_11 μ u
  · rw [chg, up_k (by decide), up_k (by decide)]; exact ltP_11 μ u
theorem ltS_ok {F : Int32 → Int32} {μ : tSt} {nS nP nC nV n u : Nat} (h : iA μ nS nP nC nV) (hu : u < nV) (hk : nI 2 < μ 11 (nI u)) (hn : μ 0 (nI 9) = nI n) (h40 : n < 40) : iA (ltS F μ (nI u)) nS nP nC nV ∧ ∃ n', n' ≤ n + 1 ∧ ltS F μ (nI u) 0 (nI 9) = nI n' := by
  unfold ltS
  have hn' : ltP μ (nI u) 0 (nI 9) = nI n := by rw [ltP_0]; exact hn
  split
  · exact ⟨iA_ltP h hu hk, n, by omega, hn'⟩
  · refine ⟨iA_chg (iA_ltP h hu hk) hn' h40 _, n + 1, by omega, ?_⟩
    rw [chg_eq hn', up_s]
theorem placeP {ρ : tSt} {u : Nat} (hv : vp_in (nI u) 40) : CT mX5_place [.ref 18, .int (nI u), .int (s_B (aX ρ) (nI u) (s_in ρ (nI u))), .int (s_in ρ (nI u))] ρ (fun r ω => (∃ x, r = some x) ∧ aX ω = ltP (aX ρ) (nI u) ∧ ∀ k, k ≠ 12 → k ≠ 13 → k ≠ 14 → k ≠ 15 → ω k = ρ k) := by
  refine CT.mono (k_X5_place hv) (fun r ω h => ?_)
  obtain ⟨rfl, rfl⟩ := h
  refine ⟨⟨_, rfl⟩, ?_, fun k a b c d => ?_⟩
  · unfold ltP
    rw [s_in_aX, s_out_aX]
    by_cases q : s_B (aX ρ) (nI u) (s_in ρ (nI u)) = -1
    · rw [if_pos q, if_pos q]
    · rw [if_neg q, if_neg q, aX_set]
  · split
    · rfl
    · rw [s_set, up_k d, up_k c, up_k b, up_k a]
theorem lp_X0_bend_22 {nS nP nC nV : Nat} {l : List Nat} {F : Int32 → Int32} (h40 : l.length ≤ 40) : ∀ (f i n : Nat) (ρ : tSt), i + f = l.length → n ≤ i → iA (aX ρ) nS nP nC nV → aw0 ρ → ρ 24 (nI 1) = nI l.length → LNS (ρ 32) l → (∀ x ∈ l, ρ 29 (nI x) = F (nI x)) → (∀ x ∈ l, x < nV ∧ nI 2 < aX ρ 11 (nI x)) → aX ρ 0 (nI 9) = nI n → TT mX0_bend 22 [.ref 21, .null, .null, .int (nI i), .null, .null, .null] [] ρ (fun r ω => r = some (ltB F (l.drop i) (aX ρ) 0 (nI 9)) ∧ aX ω = ltB F (l.drop i) (aX ρ) ∧ aw0 ω) := by
  intro f
  induction f with
  | zero =>
    intro i n ρ hi hni hI hz hn hln hF hx h9
    rw [List.drop_eq_nil_of_le (by omega)]
    refine tr_iload_n eX0_bend_22 rfl ?_
    refine tr_aload_n eX0_bend_23 rfl ?_
    refine tr_getR eX0_bend_24 fk_X0_12 rfl rfl ?_
    refine tr_getI eX0_bend_27 fk_X0_82 rfl rfl ?_
    refine tr_icmp_ge eX0_bend_30 (fun h30 => ?_) (fun h30 => ?_)
    · skip
      refine tr_aload_n eX0_bend_109 rfl ?_
      refine tr_getR eX0_bend_110 fk_X0_18 rfl rfl ?_
      refine tr_getI eX0_bend_113 fk_X0_82 rfl rfl ?_
      refine tr_ret eX0_bend_116 rfl rfl ?_
      exact ⟨by rw [ltB, aX_9], rfl, hz⟩
    · skip
      exact absurd (lt_of hn (by omega) (by omega) h30) (by omega)
  | succ f ih =>
    intro i n ρ hi hni hI hz hn hln hF hx h9
    have hil : i < l.length := by omega
    have hin : vp_in (nI i) 40 := vp_in_nI (by omega) (by decide)
    have em := lns_at hln hil
    obtain ⟨hxV, hxk⟩ := hx _ (List.getElem_mem hil)
    have hV40 := hI.1.2.2.2.2
    have hv : vp_in (nI l[i]) 40 := vp_in_nI (by omega) (by decide)
    obtain ⟨hI2, n', hn', h9'⟩ := ltS_ok (F := F) hI hxV hxk h9 (by omega)
    refine tr_iload_n eX0_bend_22 rfl ?_
    refine tr_aload_n eX0_bend_23 rfl ?_
    refine tr_getR eX0_bend_24 fk_X0_12 rfl rfl ?_
    refine tr_getI eX0_bend_27 fk_X0_82 rfl rfl ?_
    refine tr_icmp_ge eX0_bend_30 (fun h30 => ?_) (fun h30 => ?_)
    · skip
      exact absurd (ge_of hn (by omega) (by omega) h30) (by omega)
    · skip
      refine tr_aload_n eX0_bend_33 rfl ?_
      refine tr_getR eX0_bend_34 fk_X0_12 rfl rfl ?_
      refine tr_getR eX0_bend_37 fk_X0_85 rfl rfl ?_
      refine tr_iload_n eX0_bend_40 rfl ?_
      refine tr_iald eX0_bend_41 rfl (by first | with_reducible assumption | with_reducible exact in_slot (by with_reducible assumption) (by with_reducible assumption) | with_reducible exact in_row _ (by decide) (by with_reducible assumption) | with_reducible exact in_row0 (by with_reducible assumption) | with_reducible exact in_slot0 (by with_reducible assumption) | (simp (disch := decide) only [up_k, up_s, up_f] <;> with_reducible assumption)) ?_
      rw [em]
      refine tr_istore eX0_bend_42 (by decide) rfl ?_
      refine tr_aload_n eX0_bend_44 rfl ?_
      refine tr_getR eX0_bend_45 fk_X0_25 rfl rfl ?_
      refine tr_iload eX0_bend_48 rfl ?_
      refine tr_ce1 eX0_bend_50 zv_X5_inOf zi_X5_inOf lk_X0_88 ⟨rfl, by decide, by decide⟩ rfl rfl rfl (k_X5_inOf hv) ?_
      refine tr_istore eX0_bend_53 (by decide) rfl ?_
      refine tr_aload_n eX0_bend_55 rfl ?_
      refine tr_getR eX0_bend_56 fk_X0_29 rfl rfl ?_
      refine tr_iload eX0_bend_59 rfl ?_
      refine tr_iload eX0_bend_61 rfl ?_
      refine tr_cv2 (r0 := none) (σ1 := fun _ _ => 0) eX0_bend_63 zv_X2_bestStand zi_X2_bestStand lk_X0_92 ⟨rfl, by decide, by decide⟩ rfl rfl rfl (k_X2_bestStandA hI hz hv) (fun r' ρ1 hq => ?_)
      try simp (disch := decide) only [up_k, up_s, up_f, s_set_0]
      obtain ⟨rfl, b1⟩ := hq
      have ea : aX ρ1 = aX ρ := aX_off19 b1
      have ein : s_in ρ1 (nI l[i]) = s_in ρ (nI l[i]) := in_eq (b1 10 (by decide)) _
      have hpl := placeP (ρ := ρ1) hv
      rw [ea, ein] at hpl
      refine tr_istore eX0_bend_66 (by decide) rfl ?_
      refine tr_aload_n eX0_bend_68 rfl ?_
      refine tr_getR eX0_bend_69 fk_X0_25 rfl rfl ?_
      refine tr_iload eX0_bend_72 rfl ?_
      refine tr_iload eX0_bend_74 rfl ?_
      refine tr_iload eX0_bend_76 rfl ?_
      refine tr_cv3 (r0 := none) (σ1 := fun _ _ => 0) eX0_bend_78 zv_X5_place zi_X5_place lk_X0_95 ⟨rfl, by decide, by decide⟩ rfl rfl rfl hpl (fun r' ρ2 hq => ?_)
      try simp (disch := decide) only [up_k, up_s, up_f, s_set_0]
      obtain ⟨⟨x, rfl⟩, p1, p2⟩ := hq
      have e29 : ρ2 29 (nI l[i]) = F (nI l[i]) := by rw [p2 29 (by decide) (by decide) (by decide) (by decide), b1 29 (by decide)]; exact hF _ (List.getElem_mem hil)
      refine tr_pop eX0_bend_81 rfl ?_
      refine tr_iload eX0_bend_82 rfl ?_
      refine tr_aload_n eX0_bend_84 rfl ?_
      refine tr_getR eX0_bend_85 fk_X0_21 rfl rfl ?_
      refine tr_iload eX0_bend_88 rfl ?_
      refine tr_iald eX0_bend_90 rfl (by first | with_reducible assumption | with_reducible exact in_slot (by with_reducible assumption) (by with_reducible assumption) | with_reducible exact in_row _ (by decide) (by with_reducible assumption) | with_reducible exact in_row0 (by with_reducible assumption) | with_reducible exact in_slot0 (by with_reducible assumption) | (simp (disch := decide) only [up_k, up_s, up_f] <;> with_reducible assumption)) ?_
      try simp (disch := decide) only [up_k, up_s, up_f, s_set_0]
      rw [e29]
      refine tr_icmp_eq eX0_bend_91 (fun h91 => ?_) (fun h91 => ?_)
      · skip
        refine tr_iinc eX0_bend_103 _ (by first | with_reducible exact inc_n _ | with_reducible exact ix_s _ _ | with_reducible rfl) rfl (by decide) rfl ?_
        refine tr_goto eX0_bend_106 ?_
        have eS : ltS F (aX ρ) (nI l[i]) = ltP (aX ρ) (nI l[i]) := by rw [ltS, if_pos (by rw [s_in_aX]; exact h91)]
        have eρ : aX ρ2 = ltS F (aX ρ) (nI l[i]) := p1.trans eS.symm
        rw [drop_cons hil, ltB]
        rw [← eρ] at hI2 h9' ⊢
        refine TT.fg [4, 5, 6] (ih (i + 1) n' ρ2 (by omega) (by omega) hI2 ?_ ?_ ?_ ?_ ?_ h9')
        · exact fun u hu => by rw [p2 26 (by decide) (by decide) (by decide) (by decide), b1 26 (by decide)]; exact hz u hu
        · rw [p2 24 (by decide) (by decide) (by decide) (by decide), b1 24 (by decide)]; exact hn
        · rw [p2 32 (by decide) (by decide) (by decide) (by decide), b1 32 (by decide)]; exact hln
        · exact fun x hx => by rw [p2 29 (by decide) (by decide) (by decide) (by decide), b1 29 (by decide)]; exact hF x hx
        · exact fun x hx2 => ⟨(hx x hx2).1, by rw [eρ, ltS_11]; exact (hx x hx2).2⟩
      · skip
        have h25 : ρ2 25 (nI 1) = nI n := by rw [p2 25 (by decide) (by decide) (by decide) (by decide), b1 25 (by decide), ← aX_9 ρ]; exact h9
        refine tr_aload_n eX0_bend_94 rfl ?_
        refine tr_getR eX0_bend_95 fk_X0_18 rfl rfl ?_
        refine tr_iload eX0_bend_98 rfl ?_
        refine tr_ce1 eX0_bend_100 zv_X3_join zi_X3_join lk_X0_99 ⟨rfl, by decide, by decide⟩ rfl rfl rfl (k_X3_join (σ := ρ2) (k := 25) (j := 16) (n := n) (by decide) rfl rfl h25 (by omega)) ?_
        try simp (disch := decide) only [up_k, up_s, up_f, s_set_0]
        refine tr_iinc eX0_bend_103 _ (by first | with_reducible exact inc_n _ | with_reducible exact ix_s _ _ | with_reducible rfl) rfl (by decide) rfl ?_
        refine tr_goto eX0_bend_106 ?_
        have eS : ltS F (aX ρ) (nI l[i]) = chg (ltP (aX ρ) (nI l[i])) (nI l[i]) := by rw [ltS, if_neg (by rw [s_in_aX]; exact h91)]
        have eρ : aX (up (up ρ2 16 (ρ2 25 (nI 1)) (nI l[i])) 25 (nI 1) (ρ2 25 (nI 1) + nI 1)) = ltS F (aX ρ) (nI l[i]) := by
          rw [eS, aX_f25_1, aX_u _ (by decide), chg, ← p1, aX_9]
        rw [drop_cons hil, ltB]
        rw [← eρ] at hI2 h9' ⊢
        refine TT.fg [4, 5, 6] (ih (i + 1) n' _ (by omega) (by omega) hI2 ?_ ?_ ?_ ?_ ?_ h9')
        · exact fun u hu => by rw [up_k (by decide), up_k (by decide), p2 26 (by decide) (by decide) (by decide) (by decide), b1 26 (by decide)]; exact hz u hu
        · rw [up_k (by decide), up_k (by decide), p2 24 (by decide) (by decide) (by decide) (by decide), b1 24 (by decide)]; exact hn
        · rw [up_k (by decide), up_k (by decide), p2 32 (by decide) (by decide) (by decide) (by decide), b1 32 (by decide)]; exact hln
        · exact fun x hx => by rw [up_k (by decide), up_k (by decide), p2 29 (by decide) (by decide) (by decide) (by decide), b1 29 (by decide)]; exact hF x hx
        · exact fun x hx2 => ⟨(hx x hx2).1, by rw [eρ, ltS_11]; exact (hx x hx2).2⟩
theorem k_X0_bend {σ : tSt} {t : Int32} {n c : Nat} {g : Int32 → Bool} {nS nP nC nV : Nat} (hI : iA (aX σ) nS nP nC nV) (hL : iA (ltm (aX σ) (nI n) t) nS nP nC nV) (hn : n < nV) (hc : σ 12 (nI n) = nI c) (hc1 : 1 ≤ c) (hc8 : c ≤ 8) (hgI : gIn nV (nI n) g) (hg : ∀ u : Nat, u < 40 → σ 26 (nI u) = bi (g (nI u) = true)) (hgu : ∀ u : Nat, u < nV → g (nI u) = true → nI 2 < aX σ 11 (nI u)) : CT mX0_bend [.ref 21, .int (nI n), .int t] σ (fun r ω => r = some (ltB (fun u => aX σ 13 (u * nI 8)) (sl (aX σ) g nV) (up (vd g (ltm (aX σ) (nI n) t)) 0 (nI 9) (nI 0)) 0 (nI 9)) ∧ aX ω = ltB (fun u => aX σ 13 (u * nI 8)) (sl (aX σ) g nV) (up (vd g (ltm (aX σ) (nI n) t)) 0 (nI 9) (nI 0)) ∧ aw0 ω) := by
  have hV40 := hI.1.2.2.2.2
  have hv : vp_in (nI n) 40 := vp_in_nI (by omega) (by decide)
  have hli : nI n * nI 8 + σ 12 (nI n) - nI 1 = nI n * nI 8 + nI (c - 1) := li_eq (μ := σ) hc hc1
  have hck : vp_in (nI n * nI 8 + σ 12 (nI n) - nI 1) 320 := by rw [hli]; exact in_slot hv (vp_in_nI (by omega) (by decide))
  have eL : aX (up (up σ 10 (nI n * nI 5 + nI 3) t) 15 (nI n * nI 8 + σ 12 (nI n) - nI 1) t) = ltm (aX σ) (nI n) t := by
    rw [aX_u _ (by decide), aX_u _ (by decide), ltm, s_li, aX_k _ (by decide)]
  have hsl : sl (ltm (aX σ) (nI n) t) g nV = sl (aX σ) g nV := by
    refine sl_of hV40 ?_ (fun x => mem_sl)
    have hS : SR (ltm (aX σ) (nI n) t) (sl (ltm (aX σ) (nI n) t) g nV) := SR_sl hV40
    have hlt : ∀ x ∈ sl (ltm (aX σ) (nI n) t) g nV, x < 40 := fun x hx => by have := (mem_sl.mp hx).1; omega
    have hkx : ∀ x, x < 40 → kx (ltm (aX σ) (nI n) t) x = kx (aX σ) x := fun x hx => by
      unfold kx s_in ltm
      rw [up_k (by decide), up_n (rw_ne hx (by omega) (by omega) (by omega) (by omega))]
    exact List.Pairwise.imp_of_mem (fun {a b} ha hb hab => by rw [hkx a (hlt a ha), hkx b (hlt b hb)] at hab; exact hab) hS
  have hV : σ 18 (nI 6) = nI nV := by have := hI.1.2.2.2.1; rwa [aX_3] at this
  refine CT.of2 4 (by decide) rfl rfl ?_
  refine tr_aload_n eX0_bend_0 rfl ?_
  refine tr_getR eX0_bend_1 fk_X0_25 rfl rfl ?_
  refine tr_iload_n eX0_bend_4 rfl ?_
  refine tr_iload_n eX0_bend_5 rfl ?_
  refine tr_ce2 eX0_bend_6 zv_X5_makeLate zi_X5_makeLate lk_X0_72 ⟨rfl, by decide, by decide⟩ rfl rfl rfl (k_X5_makeLate hv hck) ?_
  try simp (disch := decide) only [up_k, up_s, up_f, s_set_0]
  refine tr_aload_n eX0_bend_9 rfl ?_
  refine tr_cv0 (r0 := none) (σ1 := fun _ _ => 0) eX0_bend_10 zv_X0_takeMoversOff zi_X0_takeMoversOff lk_X0_76 ⟨rfl, by decide, by decide⟩ rfl rfl rfl (k_X0_takeMoversOff (σ := up (up σ 10 (nI n * nI 5 + nI 3) t) 15 (nI n * nI 8 + σ 12 (nI n) - nI 1) t) hgI hg (by rw [eL]; exact hL.2.2.1.1) hV hV40) (fun r' ρ hq => ?_)
  try simp (disch := decide) only [up_k, up_s, up_f, s_set_0]
  obtain ⟨rfl, m1, m2, m3, m4, m5⟩ := hq
  rw [eL] at m1 m3 m4 m5
  rw [hsl] at m3 m4 m5
  refine tr_aload_n eX0_bend_13 rfl ?_
  refine tr_getR eX0_bend_14 fk_X0_18 rfl rfl ?_
  refine tr_ce0 eX0_bend_17 zv_X3_empty zi_X3_empty lk_X0_79 ⟨rfl, by decide, by decide⟩ rfl rfl rfl (k_X3_empty (k := 25) (j := 16) rfl) ?_
  try simp (disch := decide) only [up_k, up_s, up_f, s_set_0]
  refine tr_iconst eX0_bend_20 (nI 0) ci_0 ?_
  refine tr_istore_n eX0_bend_21 (by decide) rfl ?_
  have e0 : aX (up ρ 25 (nI 1) (nI 0)) = up (vd g (ltm (aX σ) (nI n) t)) 0 (nI 9) (nI 0) := by rw [aX_f25_1, m1]
  rw [← e0]
  have hlen : (sl (aX σ) g nV).length ≤ 40 := Nat.le_trans (SR_len (SR_sl (μ := aX σ) hV40) (fun x hx => (mem_sl.mp hx).1)) hV40
  refine TT.fg [1, 2] (lp_X0_bend_22 (nS := nS) (nP := nP) (nC := nC) (nV := nV) (F := fun u => aX σ 13 (u * nI 8)) hlen _ 0 0 _ (Nat.zero_add _) (Nat.le_refl _) ?_ ?_ ?_ ?_ ?_ ?_ ?_)
  · rw [e0]; exact iA_n9 (iA_vd hL g) (by decide)
  · exact fun u hu => by rw [up_k (by decide)]; exact m2 u hu
  · rw [up_k (by decide)]; exact m4
  · rw [up_k (by decide)]; exact m3
  · exact fun x hx => by rw [up_k (by decide), m5 x hx, up_k (by decide), up_k (by decide), aX_k _ (by decide)]
  · exact fun x hx => ⟨(mem_sl.mp hx).1, by rw [e0, up_k (by decide), vd_k (by decide)]; exact hgu x (mem_sl.mp hx).1 (mem_sl.mp hx).2⟩
  · rw [e0, up_s]

