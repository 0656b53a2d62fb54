def RSx (l : List Nat) (σ0 σ : tSt) (s : tSS) : Prop := aX σ = s.2.2.2 ∧ σ 27 = s.2.1 ∧ σ 20 (nI 7) = nI s.2.2.1 ∧ σ 20 (nI 6) = nI s.1 - nI 1 ∧ aw0 σ ∧ σ 23 (nI 1) = nI l.length ∧ LNS (σ 31) l ∧ σ 28 = σ0 28 ∧ σ 20 (nI 8) = σ0 20 (nI 8)
theorem stp_t (l : List Nat) (nS d t : Nat) (tr : Int32 → Int32) (μ : tSt) : stp l nS (d + 1, tr, t, μ) =
  if ¬ tr (nI d) + nI 1 < nI nS then (-1, d, upA tr (nI d) (tr (nI d) + nI 1), t, up μ 12 (nI (l.getD d 0)) (nI 0))
  else if ¬ t < 5000 then (nI 10, d + 1, upA tr (nI d) (tr (nI d) + nI 1), t, up μ 12 (nI (l.getD d 0)) (nI 0))
  else if ¬ (s_A (up μ 12 (nI (l.getD d 0)) (nI 0)) (nI (l.getD d 0)) (tr (nI d) + nI 1) (s_in μ (nI (l.getD d 0))) (s_out μ (nI (l.getD d 0)))).1 = 0 then (-1, d + 1, upA tr (nI d) (tr (nI d) + nI 1), t + 1, up μ 12 (nI (l.getD d 0)) (nI 0))
  else if d + 1 = l.length then (nI 0, d + 1, upA tr (nI d) (tr (nI d) + nI 1), t + 1, s_set (up μ 12 (nI (l.getD d 0)) (nI 0)) (nI (l.getD d 0)) (tr (nI d) + nI 1) (s_in μ (nI (l.getD d 0))) (s_out μ (nI (l.getD d 0))))
  else (-1, d + 1 + 1, upA (upA tr (nI d) (tr (nI d) + nI 1)) (nI (d + 1)) (-1), t + 1, s_set (up μ 12 (nI (l.getD d 0)) (nI 0)) (nI (l.getD d 0)) (tr (nI d) + nI 1) (s_in μ (nI (l.getD d 0))) (s_out μ (nI (l.getD d 0)))) := rfl
theorem run1_s (l : List Nat) (nS f d t : Nat) (tr : Int32 → Int32) (μ : tSt) : run1 l nS (f + 1) (d + 1, tr, t, μ) = if (stp l nS (d + 1, tr, t, μ)).1 = -1 then run1 l nS f (stp l nS (d + 1, tr, t, μ)).2 else stp l nS (d + 1, tr, t, μ) := by
  rw [run1, if_neg (by show ¬ d + 1 = 0; omega)]
theorem sub_m1 : nI 0 - nI 1 = -1 := by decide
theorem up_k2 {σ : tSt} {a b : Nat} {i x j y : Int32} {k : Nat} (h1 : k ≠ a) (h2 : k ≠ b) : up (up σ a i x) b j y k = σ k := by rw [up_k h2, up_k h1]
theorem s_set_20 (σ : tSt) (v s a b : Int32) : s_set σ v s a b 20 = σ 20 := rfl
theorem s_set_27 (σ : tSt) (v s a b : Int32) : s_set σ v s a b 27 = σ 27 := rfl
theorem s_set_23 (σ : tSt) (v s a b : Int32) : s_set σ v s a b 23 = σ 23 := rfl
theorem s_set_26 (σ : tSt) (v s a b : Int32) : s_set σ v s a b 26 = σ 26 := rfl
theorem s_set_31 (σ : tSt) (v s a b : Int32) : s_set σ v s a b 31 = σ 31 := rfl
theorem s_set_28 (σ : tSt) (v s a b : Int32) : s_set σ v s a b 28 = σ 28 := rfl
theorem s_reg_20 (σ : tSt) (v : Int32) : s_reg σ v 20 = σ 20 := rfl
theorem s_reg_27 (σ : tSt) (v : Int32) : s_reg σ v 27 = σ 27 := rfl
theorem s_reg_23 (σ : tSt) (v : Int32) : s_reg σ v 23 = σ 23 := rfl
theorem s_reg_26 (σ : tSt) (v : Int32) : s_reg σ v 26 = σ 26 := rfl
theorem s_reg_31 (σ : tSt) (v : Int32) : s_reg σ v 31 = σ 31 := rfl
theorem s_reg_28 (σ : tSt) (v : Int32) : s_reg σ v 28 = σ 28 := rfl
theorem aX_s20_6 (σ : tSt) (x : Int32) : aX (up σ 20 (nI 6) x) = aX σ := aX_s σ (by decide) _ _
theorem aX_s20_7 (σ : tSt) (x : Int32) : aX (up σ 20 (nI 7) x) = aX σ := aX_s σ (by decide) _ _
theorem addsub (x : Int32) : x + 1 - nI 1 = x := by rw [Int32.sub_eq_add_neg, Int32.add_assoc, show (1 : Int32) + -nI 1 = 0 from by decide, Int32.add_zero]
theorem lp_X4_goTo_2 {σ0 : tSt} {l : List Nat} {nS nP nC nV : Nat} (hl : l.length ≤ 40) : ∀ (f st : Nat) (σ : tSt) (s : tSS), st + f = 15001 → RSx l σ0 σ s → sOKs l nS nP nC nV s → TT mX4_goToNextWhole 2 [.ref 20, .int (nI st), .null, .null] [] σ (fun r ρ => r = some (run1 l nS f s).1 ∧ RSx l σ0 ρ (run1 l nS f s).2) := by
  intro f
  induction f with
  | zero =>
    intro st σ s hst hR hs
    refine tr_iload_n eX4_goToNextWhole_2 rfl ?_
    refine tr_sipush eX4_goToNextWhole_3 (nI 15000) (by decide) ?_
    refine tr_icmp_gt eX4_goToNextWhole_6 (fun h6 => ?_) (fun h6 => ?_)
    · skip
      refine tr_bipush eX4_goToNextWhole_216 (nI 10) (by decide) ?_
      refine tr_ret eX4_goToNextWhole_218 rfl rfl ?_
      exact ⟨rfl, hR⟩
    · skip
      exact absurd ((nI_ltI (by decide) (by omega)).mpr (by omega)) h6
  | succ f ih =>
    intro st σ s hst hR hs
    obtain ⟨dd, tr, t, μ⟩ := s
    obtain ⟨ha, htr, htt, hd0, hz, hlen, hln, h28, h208⟩ := hR
    cases dd with
    | zero =>
      have hd : σ 20 (nI 6) = -1 := hd0.trans sub_m1
      refine tr_iload_n eX4_goToNextWhole_2 rfl ?_
      refine tr_sipush eX4_goToNextWhole_3 (nI 15000) (by decide) ?_
      refine tr_icmp_gt eX4_goToNextWhole_6 (fun h6 => ?_) (fun h6 => ?_)
      · skip
        exact absurd ((nI_ltI (by decide) (by omega)).mp h6) (by omega)
      · skip
        refine tr_aload_n eX4_goToNextWhole_9 rfl ?_
        refine tr_getI eX4_goToNextWhole_10 fk_X4_79 rfl rfl ?_
        rw [hd]
        refine tr_if_ge eX4_goToNextWhole_13 (fun h13 => ?_) (fun h13 => ?_)
        · skip
          exact absurd h13 (by decide)
        · skip
          refine tr_bipush eX4_goToNextWhole_16 (nI 11) (by decide) ?_
          refine tr_ret eX4_goToNextWhole_18 rfl rfl ?_
          exact ⟨rfl, ha, htr, htt, hd0, hz, hlen, hln, h28, h208⟩
    | succ d =>
      dsimp only at ha htr htt hd0
      have hd : σ 20 (nI 6) = nI d := hd0.trans (pk_sub (by omega))
      have hS : μ 0 (nI 0) = nI nS := hs.2.2.1.1.1.1
      have hS24 := hs.2.2.1.1.1.2
      rw [← ha, aX_0] at hS
      have hN : iN (aX σ) nS nP nC nV := by rw [ha]; exact hs.2.2.1.1
      have hn40 : l.length ≤ 40 := hl
      have hd40 : vp_in (nI d) 40 := vp_in_nI (by have := hs.1; simp at this; omega) (by decide)
      have hdl : d < l.length := by have := hs.1; simp at this; omega
      have hmem : σ 31 (nI d) = (nI (l.getD d 0)) := by rw [hln d hdl, List.getD_eq_getElem?_getD, List.getElem?_eq_getElem hdl]; rfl
      obtain ⟨hvV, hvu⟩ := hs.2.2.2.1 _ (getD_mem hdl)
      have hV40 := hN.2.2.2.2
      have hv : vp_in (nI (l.getD d 0)) 40 := vp_in_nI (by omega) (by decide)
      obtain ⟨c, hcS, ec⟩ := sOK_c hs (by show 0 < d + 1; omega)
      have ec' : (σ 27 (nI d) + nI 1) = nI c := by rw [htr]; exact ec
      have hμ10 : s_in σ (nI (l.getD d 0)) = s_in μ (nI (l.getD d 0)) := by rw [← ha]; exact (s_in_aX σ _).symm
      have hμ11 : s_out σ (nI (l.getD d 0)) = s_out μ (nI (l.getD d 0)) := by rw [← ha]; exact (s_out_aX σ _).symm
      refine tr_iload_n eX4_goToNextWhole_2 rfl ?_
      refine tr_sipush eX4_goToNextWhole_3 (nI 15000) (by decide) ?_
      refine tr_icmp_gt eX4_goToNextWhole_6 (fun h6 => ?_) (fun h6 => ?_)
      · skip
        exact absurd ((nI_ltI (by decide) (by omega)).mp h6) (by omega)
      · skip
        refine tr_aload_n eX4_goToNextWhole_9 rfl ?_
        refine tr_getI eX4_goToNextWhole_10 fk_X4_79 rfl rfl ?_
        try simp only [hd]
        refine tr_if_ge eX4_goToNextWhole_13 (fun h13 => ?_) (fun h13 => ?_)
        · skip
          refine tr_aload_n eX4_goToNextWhole_19 rfl ?_
          refine tr_getR eX4_goToNextWhole_20 fk_X4_12 rfl rfl ?_
          refine tr_getR eX4_goToNextWhole_23 fk_X4_82 rfl rfl ?_
          refine tr_aload_n eX4_goToNextWhole_26 rfl ?_
          refine tr_getI eX4_goToNextWhole_27 fk_X4_79 rfl rfl ?_
          try simp only [hd]
          refine tr_iald eX4_goToNextWhole_30 rfl hd40 ?_
          rw [hmem]
          refine tr_istore_n eX4_goToNextWhole_31 (by decide) rfl ?_
          refine tr_aload_n eX4_goToNextWhole_32 rfl ?_
          refine tr_getR eX4_goToNextWhole_33 fk_X4_29 rfl rfl ?_
          refine tr_iload_n eX4_goToNextWhole_36 rfl ?_
          refine tr_ce1 eX4_goToNextWhole_37 zv_X5_takeOff zi_X5_takeOff lk_X4_85 ⟨rfl, by decide, by decide⟩ rfl rfl rfl (k_X5_takeOff hv) ?_
          try simp (disch := decide) only [up_k, up_s, up_f, s_set_0]
          refine tr_aload_n eX4_goToNextWhole_40 rfl ?_
          refine tr_getR eX4_goToNextWhole_41 fk_X4_18 rfl rfl ?_
          refine tr_aload_n eX4_goToNextWhole_44 rfl ?_
          refine tr_getI eX4_goToNextWhole_45 fk_X4_79 rfl rfl ?_
          try simp (disch := decide) only [up_k, up_s, up_f, s_set_0]
          try simp only [hd]
          refine tr_dup2 eX4_goToNextWhole_48 rfl rfl ?_
          refine tr_iald eX4_goToNextWhole_49 rfl hd40 ?_
          try simp (disch := decide) only [up_k, up_s, up_f, s_set_0]
          refine tr_iconst eX4_goToNextWhole_50 (nI 1) ci_1 ?_
          refine tr_iadd eX4_goToNextWhole_51 ?_
          refine tr_iast eX4_goToNextWhole_52 rfl hd40 ?_
          refine tr_aload_n eX4_goToNextWhole_53 rfl ?_
          refine tr_getR eX4_goToNextWhole_54 fk_X4_18 rfl rfl ?_
          refine tr_aload_n eX4_goToNextWhole_57 rfl ?_
          refine tr_getI eX4_goToNextWhole_58 fk_X4_79 rfl rfl ?_
          try simp (disch := decide) only [up_k, up_s, up_f, s_set_0]
          try simp only [hd]
          refine tr_iald eX4_goToNextWhole_61 rfl hd40 ?_
          try simp (disch := decide) only [up_k, up_s, up_f, s_set_0]
          refine tr_aload_n eX4_goToNextWhole_62 rfl ?_
          refine tr_getR eX4_goToNextWhole_63 fk_X4_25 rfl rfl ?_
          refine tr_getI eX4_goToNextWhole_66 fk_X4_88 rfl rfl ?_
          try simp (disch := decide) only [up_k, up_s, up_f, s_set_0]
          refine tr_icmp_lt eX4_goToNextWhole_69 (fun h69 => ?_) (fun h69 => ?_)
          · skip
            refine tr_aload_n eX4_goToNextWhole_85 rfl ?_
            refine tr_getI eX4_goToNextWhole_86 fk_X4_76 rfl rfl ?_
            try simp (disch := decide) only [up_k, up_s, up_f, s_set_0]
            try rw [htt]
            refine tr_sipush eX4_goToNextWhole_89 (nI 5000) (by decide) ?_
            refine tr_icmp_lt eX4_goToNextWhole_92 (fun h92 => ?_) (fun h92 => ?_)
            · skip
              have ht5 : t < 5000 := (nI_ltI (by have := hs.2.1; simp at this; omega) (by decide)).mp h92
              have ea2 : aX (up (up (up σ 12 (nI (l.getD d 0)) (nI 0)) 27 (nI d) (σ 27 (nI d) + nI 1)) 20 (nI 7) (nI (t + 1))) = up μ 12 (nI (l.getD d 0)) (nI 0) := by rw [aX_s20_7, aX_s _ (by decide), aX_u _ (by decide), ha]
              have hz2 : aw0 (up (up (up σ 12 (nI (l.getD d 0)) (nI 0)) 27 (nI d) (σ 27 (nI d) + nI 1)) 20 (nI 7) (nI (t + 1))) := fun u hu => by rw [up_k (by decide), up_k (by decide), up_k (by decide)]; exact hz u hu
              have hN2 : iN (aX (up (up (up σ 12 (nI (l.getD d 0)) (nI 0)) 27 (nI d) (σ 27 (nI d) + nI 1)) 20 (nI 7) (nI (t + 1)))) nS nP nC nV := by rw [ea2]; exact hs.2.2.1.1
              have hcv : vp_in (σ 27 (nI d) + nI 1) 24 := by rw [ec']; exact vp_in_nI (by have := (nI_ltI (by omega) (by omega)).mp (ec' ▸ hS ▸ h69); omega) (by decide)
              have hcm : ¬ (σ 27 (nI d) + nI 1) = -1 := by rw [ec']; exact nI_ne_m1 (by omega)
              have hoff : iA (aX (up (up (up σ 12 (nI (l.getD d 0)) (nI 0)) 27 (nI d) (σ 27 (nI d) + nI 1)) 20 (nI 7) (nI (t + 1)))) nS nP nC nV := by rw [ea2]; exact iA_off hs.2.2.1 hvV
              have hP := hN2.2.1.1
              rw [aX_1] at hP
              have hC := hN2.2.2.1.1
              rw [aX_2] at hC
              have hV := hN2.2.2.2.1
              rw [aX_3] at hV
              have hag := k_X2_against (σ := s_reg (up (up (up σ 12 (nI (l.getD d 0)) (nI 0)) 27 (nI d) (σ 27 (nI d) + nI 1)) 20 (nI 7) (nI (t + 1))) (nI (l.getD d 0))) (s := (σ 27 (nI d) + nI 1)) (a := s_in μ (nI (l.getD d 0))) (b := s_out μ (nI (l.getD d 0))) hcv hV hV40 (cOK_aX hoff.2.1.1) hP hN2.2.1.2 hC hN2.2.2.1.2
              rw [s_A_X hN2 hz2, ea2] at hag
              refine tr_aload_n eX4_goToNextWhole_98 rfl ?_
              refine tr_dup eX4_goToNextWhole_99 rfl ?_
              refine tr_getI eX4_goToNextWhole_100 fk_X4_76 rfl rfl ?_
              try simp (disch := decide) only [up_k, up_s, up_f, s_set_0]
              try rw [htt]
              refine tr_iconst eX4_goToNextWhole_103 (nI 1) ci_1 ?_
              refine tr_iadd eX4_goToNextWhole_104 ?_
              rw [nI_add]
              refine tr_put eX4_goToNextWhole_105 fp_X4_76 rfl rfl ?_
              refine tr_aload_n eX4_goToNextWhole_108 rfl ?_
              refine tr_getR eX4_goToNextWhole_109 fk_X4_33 rfl rfl ?_
              refine tr_iload_n eX4_goToNextWhole_112 rfl ?_
              refine tr_ce1 eX4_goToNextWhole_113 zv_X2_regard zi_X2_regard lk_X4_93 ⟨rfl, by decide, by decide⟩ rfl rfl rfl (show CT mX2_regard _ _ (PE none (s_reg (up (up (up σ 12 (nI (l.getD d 0)) (nI 0)) 27 (nI d) (σ 27 (nI d) + nI 1)) 20 (nI 7) (nI (t + 1))) (nI (l.getD d 0)))) from k_X2_regard hv) ?_
              try simp (disch := decide) only [up_k, up_s, up_f, s_set_0]
              refine tr_aload_n eX4_goToNextWhole_116 rfl ?_
              refine tr_getR eX4_goToNextWhole_117 fk_X4_29 rfl rfl ?_
              refine tr_iload_n eX4_goToNextWhole_120 rfl ?_
              refine tr_ce1 eX4_goToNextWhole_121 zv_X5_inOf zi_X5_inOf lk_X4_98 ⟨rfl, by decide, by decide⟩ rfl rfl rfl (show CT mX5_inOf _ _ (PE (some (s_in μ (nI (l.getD d 0)))) _) from by rw [← hμ10]; exact k_X5_inOf (σ := s_reg (up (up (up σ 12 (nI (l.getD d 0)) (nI 0)) 27 (nI d) (σ 27 (nI d) + nI 1)) 20 (nI 7) (nI (t + 1))) (nI (l.getD d 0))) hv) ?_
              try simp (disch := decide) only [up_k, up_s, up_f, s_set_0]
              refine tr_istore_n eX4_goToNextWhole_124 (by decide) rfl ?_
              refine tr_aload_n eX4_goToNextWhole_125 rfl ?_
              refine tr_getR eX4_goToNextWhole_126 fk_X4_33 rfl rfl ?_
              refine tr_aload_n eX4_goToNextWhole_129 rfl ?_
              refine tr_getR eX4_goToNextWhole_130 fk_X4_18 rfl rfl ?_
              refine tr_aload_n eX4_goToNextWhole_133 rfl ?_
              refine tr_getI eX4_goToNextWhole_134 fk_X4_79 rfl rfl ?_
              try simp (disch := decide) only [up_k, up_s, up_f, s_set_0]
              try simp (disch := decide) only [up_k, up_s, up_f, s_set_20, s_set_27, s_set_23, s_reg_20, s_reg_27, hd]
              refine tr_iald eX4_goToNextWhole_137 rfl hd40 ?_
              try simp (disch := decide) only [up_k, up_s, up_f, s_set_0]
              try simp (disch := decide) only [up_k, up_s, up_f, s_set_20, s_set_27, s_set_23, s_reg_20, s_reg_27, hd]
              refine tr_iload_n eX4_goToNextWhole_138 rfl ?_
              refine tr_aload_n eX4_goToNextWhole_139 rfl ?_
              refine tr_getR eX4_goToNextWhole_140 fk_X4_29 rfl rfl ?_
              refine tr_iload_n eX4_goToNextWhole_143 rfl ?_
              refine tr_ce1 eX4_goToNextWhole_144 zv_X5_outOf zi_X5_outOf lk_X4_102 ⟨rfl, by decide, by decide⟩ rfl rfl rfl (show CT mX5_outOf _ _ (PE (some (s_out μ (nI (l.getD d 0)))) _) from by rw [← hμ11]; exact k_X5_outOf (σ := s_reg (up (up (up σ 12 (nI (l.getD d 0)) (nI 0)) 27 (nI d) (σ 27 (nI d) + nI 1)) 20 (nI 7) (nI (t + 1))) (nI (l.getD d 0))) hv) ?_
              try simp (disch := decide) only [up_k, up_s, up_f, s_set_0]
              refine tr_ce3 eX4_goToNextWhole_147 zv_X2_against zi_X2_against lk_X4_105 ⟨rfl, by decide, by decide⟩ rfl rfl rfl hag ?_
              try simp (disch := decide) only [up_k, up_s, up_f, s_set_0]
              refine tr_if_ne eX4_goToNextWhole_150 (fun h150 => ?_) (fun h150 => ?_)
              · skip
                refine tr_iinc eX4_goToNextWhole_210 _ (by first | with_reducible exact inc_n _ | with_reducible exact ix_s _ _ | with_reducible rfl) rfl (by decide) rfl ?_
                refine tr_goto eX4_goToNextWhole_213 ?_
                have es : stp l nS (d + 1, σ 27, t, μ) = (-1, d + 1, upA (σ 27) (nI d) (σ 27 (nI d) + nI 1), t + 1, up μ 12 (nI (l.getD d 0)) (nI 0)) := by rw [stp_t, if_neg (fun q => q (by rw [← hS]; exact h69)), if_neg (fun q => q ht5), if_pos h150]
                have hok := stp_ok hl hs (show 0 < d + 1 by omega)
                rw [htr.symm] at hok
                rw [es] at hok
                refine TT.fg [2, 3] (TT.post (ih (st + 1) _ (d + 1, upA (σ 27) (nI d) (σ 27 (nI d) + nI 1), t + 1, up μ 12 (nI (l.getD d 0)) (nI 0)) (by omega) ?_ hok) (fun r ρ h => ?_))
                · refine ⟨by rw [aX_s _ (by decide), aX_reg, ea2], by rw [up_k (by decide), s_reg_27, up_k (by decide), up_upA, up_k (by decide)], by rw [up_k (by decide), s_reg_20, up_s], by rw [up_k (by decide), s_reg_20, up_f (by decide), up_k (by decide), up_k (by decide), hd0], fun u hu => by rw [up_k (by decide), s_reg_26]; exact hz2 u hu, by rw [up_k (by decide), s_reg_23, up_k (by decide), up_k (by decide), up_k (by decide)]; exact hlen, by rw [up_k (by decide), s_reg_31, up_k (by decide), up_k (by decide), up_k (by decide)]; exact hln, by rw [up_k (by decide), s_reg_28, up_k (by decide), up_k (by decide), up_k (by decide)]; exact h28, by rw [up_k (by decide), s_reg_20, up_f (by decide), up_k (by decide), up_k (by decide)]; exact h208⟩
                · rw [← htr, run1_s, es, if_pos rfl]; exact h
              · skip
                refine tr_aload_n eX4_goToNextWhole_153 rfl ?_
                refine tr_getR eX4_goToNextWhole_154 fk_X4_29 rfl rfl ?_
                refine tr_iload_n eX4_goToNextWhole_157 rfl ?_
                refine tr_aload_n eX4_goToNextWhole_158 rfl ?_
                refine tr_getR eX4_goToNextWhole_159 fk_X4_18 rfl rfl ?_
                refine tr_aload_n eX4_goToNextWhole_162 rfl ?_
                refine tr_getI eX4_goToNextWhole_163 fk_X4_79 rfl rfl ?_
                try simp (disch := decide) only [up_k, up_s, up_f, s_set_0]
                try simp (disch := decide) only [up_k, up_s, up_f, s_set_20, s_set_27, s_set_23, s_reg_20, s_reg_27, hd]
                refine tr_iald eX4_goToNextWhole_166 rfl hd40 ?_
                try simp (disch := decide) only [up_k, up_s, up_f, s_set_0]
                try simp (disch := decide) only [up_k, up_s, up_f, s_set_20, s_set_27, s_set_23, s_reg_20, s_reg_27, hd]
                refine tr_iload_n eX4_goToNextWhole_167 rfl ?_
                refine tr_ce3 eX4_goToNextWhole_168 zv_X5_place zi_X5_place lk_X4_109 ⟨rfl, by decide, by decide⟩ rfl rfl rfl (show CT mX5_place _ _ (PE (some (bi ((σ 27 (nI d) + nI 1) ≠ -1))) (s_set (up (s_reg (up (up (up σ 12 (nI (l.getD d 0)) (nI 0)) 27 (nI d) (σ 27 (nI d) + nI 1)) 20 (nI 7) (nI (t + 1))) (nI (l.getD d 0))) 19 (nI 7) (s_A (up μ 12 (nI (l.getD d 0)) (nI 0)) (nI (l.getD d 0)) (σ 27 (nI d) + nI 1) (s_in μ (nI (l.getD d 0))) (s_out μ (nI (l.getD d 0)))).2) (nI (l.getD d 0)) (σ 27 (nI d) + nI 1) (s_in μ (nI (l.getD d 0))) (s_out μ (nI (l.getD d 0))))) from by have h := k_X5_place (σ := (up (s_reg (up (up (up σ 12 (nI (l.getD d 0)) (nI 0)) 27 (nI d) (σ 27 (nI d) + nI 1)) 20 (nI 7) (nI (t + 1))) (nI (l.getD d 0))) 19 (nI 7) (s_A (up μ 12 (nI (l.getD d 0)) (nI 0)) (nI (l.getD d 0)) (σ 27 (nI d) + nI 1) (s_in μ (nI (l.getD d 0))) (s_out μ (nI (l.getD d 0)))).2)) (v := (nI (l.getD d 0))) (s := (σ 27 (nI d) + nI 1)) (a := s_in μ (nI (l.getD d 0))) hv; rw [if_neg hcm] at h; rw [show s_out (up (s_reg (up (up (up σ 12 (nI (l.getD d 0)) (nI 0)) 27 (nI d) (σ 27 (nI d) + nI 1)) 20 (nI 7) (nI (t + 1))) (nI (l.getD d 0))) 19 (nI 7) (s_A (up μ 12 (nI (l.getD d 0)) (nI 0)) (nI (l.getD d 0)) (σ 27 (nI d) + nI 1) (s_in μ (nI (l.getD d 0))) (s_out μ (nI (l.getD d 0)))).2) (nI (l.getD d 0)) = s_out μ (nI (l.getD d 0)) from hμ11] at h; exact h) ?_
                try simp (disch := decide) only [up_k, up_s, up_f, s_set_0]
                refine tr_pop eX4_goToNextWhole_171 rfl ?_
                refine tr_aload_n eX4_goToNextWhole_172 rfl ?_
                refine tr_getI eX4_goToNextWhole_173 fk_X4_79 rfl rfl ?_
                try simp (disch := decide) only [up_k, up_s, up_f, s_set_0]
                try simp (disch := decide) only [up_k, up_s, up_f, s_set_20, s_set_27, s_set_23, s_reg_20, s_reg_27, hd]
                refine tr_aload_n eX4_goToNextWhole_176 rfl ?_
                refine tr_getR eX4_goToNextWhole_177 fk_X4_12 rfl rfl ?_
                refine tr_getI eX4_goToNextWhole_180 fk_X4_40 rfl rfl ?_
                try simp (disch := decide) only [up_k, up_s, up_f, s_set_0]
                try simp (disch := decide) only [up_k, s_set_23, s_reg_23]
                rw [hlen]
                refine tr_iconst eX4_goToNextWhole_183 (nI 1) ci_1 ?_
                refine tr_isub eX4_goToNextWhole_184 ?_
                refine tr_icmp_ne eX4_goToNextWhole_185 (fun h185 => ?_) (fun h185 => ?_)
                · skip
                  refine tr_aload_n eX4_goToNextWhole_190 rfl ?_
                  refine tr_dup eX4_goToNextWhole_191 rfl ?_
                  refine tr_getI eX4_goToNextWhole_192 fk_X4_79 rfl rfl ?_
                  try simp (disch := decide) only [up_k, up_s, up_f, s_set_0]
                  try simp (disch := decide) only [up_k, up_s, up_f, s_set_20, s_set_27, s_set_23, s_reg_20, s_reg_27, hd]
                  refine tr_iconst eX4_goToNextWhole_195 (nI 1) ci_1 ?_
                  refine tr_iadd eX4_goToNextWhole_196 ?_
                  rw [nI_add]
                  refine tr_put eX4_goToNextWhole_197 fp_X4_79 rfl rfl ?_
                  refine tr_aload_n eX4_goToNextWhole_200 rfl ?_
                  refine tr_getR eX4_goToNextWhole_201 fk_X4_18 rfl rfl ?_
                  refine tr_aload_n eX4_goToNextWhole_204 rfl ?_
                  refine tr_getI eX4_goToNextWhole_205 fk_X4_79 rfl rfl ?_
                  try simp (disch := decide) only [up_k, up_s, up_f, s_set_0]
                  try simp (disch := decide) only [up_k, up_s, up_f, s_set_20, s_set_27, s_set_23, s_reg_20, s_reg_27, hd]
                  refine tr_iconst eX4_goToNextWhole_208 (-1) ci_m1 ?_
                  refine tr_iast eX4_goToNextWhole_209 rfl (vp_in_nI (by have : ¬ d + 1 = l.length := fun q => h185 (by rw [← q]; exact (show nI (d + 1) - nI 1 = nI d from pk_sub (by omega)).symm); omega) (by decide)) ?_
                  refine tr_iinc eX4_goToNextWhole_210 _ (by first | with_reducible exact inc_n _ | with_reducible exact ix_s _ _ | with_reducible rfl) rfl (by decide) rfl ?_
                  refine tr_goto eX4_goToNextWhole_213 ?_
                  have es : stp l nS (d + 1, σ 27, t, μ) = (-1, d + 1 + 1, upA (upA (σ 27) (nI d) (σ 27 (nI d) + nI 1)) (nI (d + 1)) (-1), t + 1, s_set (up μ 12 (nI (l.getD d 0)) (nI 0)) (nI (l.getD d 0)) (σ 27 (nI d) + nI 1) (s_in μ (nI (l.getD d 0))) (s_out μ (nI (l.getD d 0)))) := by rw [stp_t, if_neg (fun q => q (by rw [← hS]; exact h69)), if_neg (fun q => q ht5), if_neg (fun q => q h150), if_neg (fun q => h185 (by rw [← q]; exact (show nI (d + 1) - nI 1 = nI d from pk_sub (by omega)).symm))]
                  have hok := stp_ok hl hs (show 0 < d + 1 by omega)
                  rw [htr.symm] at hok
                  rw [es] at hok
                  refine TT.fg [2, 3] (TT.post (ih (st + 1) _ (d + 1 + 1, upA (upA (σ 27) (nI d) (σ 27 (nI d) + nI 1)) (nI (d + 1)) (-1), t + 1, s_set (up μ 12 (nI (l.getD d 0)) (nI 0)) (nI (l.getD d 0)) (σ 27 (nI d) + nI 1) (s_in μ (nI (l.getD d 0))) (s_out μ (nI (l.getD d 0)))) (by omega) ?_ hok) (fun r ρ h => ?_))
                  · refine ⟨by rw [aX_s _ (by decide), aX_s20_6, aX_set, aX_s _ (by decide), aX_reg, ea2], by rw [up_upA, up_k (by decide), s_set_27, up_k (by decide), s_reg_27, up_k (by decide), up_upA, up_k (by decide)], by rw [up_k (by decide), up_f (by decide), s_set_20, up_k (by decide), s_reg_20, up_s], by rw [up_k (by decide), up_s]; exact (show nI (d + 1 + 1) - nI 1 = nI (d + 1) from pk_sub (by omega)).symm, fun u hu => by rw [up_k (by decide), up_k (by decide), s_set_26, up_k (by decide), s_reg_26]; exact hz2 u hu, by rw [up_k (by decide), up_k (by decide), s_set_23, up_k (by decide), s_reg_23, up_k (by decide), up_k (by decide), up_k (by decide)]; exact hlen, by rw [up_k (by decide), up_k (by decide), s_set_31, up_k (by decide), s_reg_31, up_k (by decide), up_k (by decide), up_k (by decide)]; exact hln, by rw [up_k (by decide), up_k (by decide), s_set_28, up_k (by decide), s_reg_28, up_k (by decide), up_k (by decide), up_k (by decide)]; exact h28, by rw [up_k (by decide), up_f (by decide), s_set_20, up_k (by decide), s_reg_20, up_f (by decide), up_k (by decide), up_k (by decide)]; exact h208⟩
                  · rw [← htr, run1_s, es, if_pos rfl]; exact h
                · skip
                  refine tr_iconst eX4_goToNextWhole_188 (nI 0) ci_0 ?_
                  refine tr_ret eX4_goToNextWhole_189 rfl rfl ?_
                  have es : stp l nS (d + 1, σ 27, t, μ) = (nI 0, d + 1, upA (σ 27) (nI d) (σ 27 (nI d) + nI 1), t + 1, s_set (up μ 12 (nI (l.getD d 0)) (nI 0)) (nI (l.getD d 0)) (σ 27 (nI d) + nI 1) (s_in μ (nI (l.getD d 0))) (s_out μ (nI (l.getD d 0)))) := by rw [stp_t, if_neg (fun q => q (by rw [← hS]; exact h69)), if_neg (fun q => q ht5), if_neg (fun q => q h150), if_pos (by have q : nI l.length - nI 1 = nI (l.length - 1) := pk_sub (by omega); rw [q] at h185; have := nI_inj (by omega) (by omega) h185; omega)]
                  rw [← htr, run1_s, es, if_neg (show ¬ nI 0 = -1 by decide)]
                  refine ⟨rfl, by rw [aX_set, aX_s _ (by decide), aX_reg, ea2], by rw [s_set_27, up_k (by decide), s_reg_27, up_k (by decide), up_upA, up_k (by decide)], by rw [s_set_20, up_k (by decide), s_reg_20, up_s], by rw [s_set_20, up_k (by decide), s_reg_20, up_f (by decide), up_k (by decide), up_k (by decide)]; exact hd0, fun u hu => by rw [s_set_26, up_k (by decide), s_reg_26]; exact hz2 u hu, by rw [s_set_23, up_k (by decide), s_reg_23, up_k (by decide), up_k (by decide), up_k (by decide)]; exact hlen, by rw [s_set_31, up_k (by decide), s_reg_31, up_k (by decide), up_k (by decide), up_k (by decide)]; exact hln, by rw [s_set_28, up_k (by decide), s_reg_28, up_k (by decide), up_k (by decide), up_k (by decide)]; exact h28, by rw [s_set_20, up_k (by decide), s_reg_20, up_f (by decide), up_k (by decide), up_k (by decide)]; exact h208⟩
            · skip
              have ht5 : ¬ t < 5000 := fun q => h92 ((nI_ltI (by omega) (by decide)).mpr q)
              refine tr_bipush eX4_goToNextWhole_95 (nI 10) (by decide) ?_
              refine tr_ret eX4_goToNextWhole_97 rfl rfl ?_
              have es : stp l nS (d + 1, σ 27, t, μ) = (nI 10, d + 1, upA (σ 27) (nI d) (σ 27 (nI d) + nI 1), t, up μ 12 (nI (l.getD d 0)) (nI 0)) := by rw [stp_t, if_neg (fun q => q (by rw [← hS]; exact h69)), if_pos ht5]
              rw [← htr, run1_s, es, if_neg (show ¬ nI 10 = -1 by decide)]
              refine ⟨rfl, by rw [aX_s _ (by decide), aX_u _ (by decide), ha], by rw [up_upA, up_k (by decide)], by rw [up_k2 (by decide) (by decide)]; exact htt, by rw [up_k2 (by decide) (by decide)]; exact hd0, fun u hu => by rw [up_k2 (by decide) (by decide)]; exact hz u hu, by rw [up_k2 (by decide) (by decide)]; exact hlen, by rw [up_k2 (by decide) (by decide)]; exact hln, by rw [up_k2 (by decide) (by decide)]; exact h28, by rw [up_k2 (by decide) (by decide)]; exact h208⟩
          · skip
            refine tr_aload_n eX4_goToNextWhole_72 rfl ?_
            refine tr_dup eX4_goToNextWhole_73 rfl ?_
            refine tr_getI eX4_goToNextWhole_74 fk_X4_79 rfl rfl ?_
            try simp (disch := decide) only [up_k, up_s, up_f, s_set_0]
            try simp only [hd]
            refine tr_iconst eX4_goToNextWhole_77 (nI 1) ci_1 ?_
            refine tr_isub eX4_goToNextWhole_78 ?_
            refine tr_put eX4_goToNextWhole_79 fp_X4_79 rfl rfl ?_
            refine tr_goto eX4_goToNextWhole_82 ?_
            refine tr_iinc eX4_goToNextWhole_210 _ (by first | with_reducible exact inc_n _ | with_reducible exact ix_s _ _ | with_reducible rfl) rfl (by decide) rfl ?_
            refine tr_goto eX4_goToNextWhole_213 ?_
            have es : stp l nS (d + 1, σ 27, t, μ) = (-1, d, upA (σ 27) (nI d) (σ 27 (nI d) + nI 1), t, up μ 12 (nI (l.getD d 0)) (nI 0)) := by rw [stp_t, if_pos (by rw [← hS]; exact h69)]
            have hok := stp_ok hl hs (show 0 < d + 1 by omega)
            rw [htr.symm] at hok
            rw [es] at hok
            refine TT.fg [2] (TT.post (ih (st + 1) _ (d, upA (σ 27) (nI d) (σ 27 (nI d) + nI 1), t, up μ 12 (nI (l.getD d 0)) (nI 0)) (by omega) ?_ hok) (fun r ρ h => ?_))
            · refine ⟨by rw [aX_s20_6, aX_s _ (by decide), aX_u _ (by decide), ha], by rw [up_k (by decide), up_upA, up_k (by decide)], by rw [up_f (by decide), up_k (by decide), up_k (by decide)]; exact htt, up_s, fun u hu => by rw [up_k (by decide), up_k (by decide), up_k (by decide)]; exact hz u hu, by rw [up_k (by decide), up_k (by decide), up_k (by decide)]; exact hlen, by rw [up_k (by decide), up_k (by decide), up_k (by decide)]; exact hln, by rw [up_k (by decide), up_k (by decide), up_k (by decide)]; exact h28, by rw [up_f (by decide), up_k (by decide), up_k (by decide)]; exact h208⟩
            · rw [← htr, run1_s, es, if_pos rfl]; exact h
        · skip
          exact absurd (nI_pos' (by omega)) h13
