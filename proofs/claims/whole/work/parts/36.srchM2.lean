theorem s_set_18 (σ : tSt) (v s a b : Int32) : s_set σ v s a b 18 = σ 18 := rfl
theorem s_set_17 (σ : tSt) (v s a b : Int32) : s_set σ v s a b 17 = σ 17 := rfl
theorem s_set_19 (σ : tSt) (v s a b : Int32) : s_set σ v s a b 19 = σ 19 := rfl
theorem s_A_pos (μ : tSt) (v s a b : Int32) : (s_A μ v s a b).1 ≤ 0 ↔ (s_A μ v s a b).1 = 0 := s_ag_pos ..
theorem TT_l2 {y : tMS} {pc : Nat} {a b c d : Value} {x z : Int32} {σ : tSt} {Q : Option Int32 → tSt → Prop} (h : x = z) (k : TT y pc [a, b, .int x, c, d] [] σ Q) : TT y pc [a, b, .int z, c, d] [] σ Q := by rw [← h]; exact k
theorem runA_s (all : Bool) (l : List Nat) (nS f d t : Nat) (tr : Int32 → Int32) (μ : tSt) (b : tBB) : runA all l nS (f + 1) (d + 1, tr, t, μ) b = if (stp l nS (d + 1, tr, t, μ)).1 = -1 then runA all l nS f (stp l nS (d + 1, tr, t, μ)).2 b
    else if (stp l nS (d + 1, tr, t, μ)).1 = nI 0 then (if all = true then runA all l nS f (stp l nS (d + 1, tr, t, μ)).2 (kpA l.length (stp l nS (d + 1, tr, t, μ)).2 b) else (nI 0, (stp l nS (d + 1, tr, t, μ)).2, kpA l.length (stp l nS (d + 1, tr, t, μ)).2 b)) else ((stp l nS (d + 1, tr, t, μ)).1, (stp l nS (d + 1, tr, t, μ)).2, b) := by
  rw [runA, if_neg (by show ¬ d + 1 = 0; omega)]
theorem lp_X7_search_87 {all : Bool} {a : Int32} {l : List Nat} {nS nP nC nV : Nat} (ha1 : a = bi (all = true)) (hl : l.length ≤ 40) {R : Int32 × tSS × tBB} {Q : Option Int32 → tSt → Prop} (kk : ∀ (c : Int32) (τ : tSt) (s : tSS) (b : tBB), RSm l τ s b → R = (c, s, b) → TT mX7_search 264 [.ref 0, .int a, .null, .int (bi (c = nI 10)), .null] [] τ Q) : ∀ (f : Nat) (τ : tSt) (s : tSS) (b : tBB), msr s < f → RSm l τ s b → sOKs l nS nP nC nV s → R = runA all l nS f s b → TT mX7_search 87 [.ref 0, .int a, .int (nI s.1 - nI 1), .int (nI 0), .null] [] τ Q := by
  intro f
  induction f with
  | zero =>
    intro τ s b hf
    exact absurd hf (by omega)
  | succ f ih =>
    intro τ s b hf hR hs hT
    obtain ⟨dd, tr, t, μ⟩ := s
    cases dd with
    | zero =>
      have hfin := kk (nI 11) τ _ b hR (by rw [hT, runA, if_pos rfl])
      rw [bi, if_neg (by decide)] at hfin
      show TT mX7_search 87 [.ref 0, .int a, .int (nI 0 - nI 1), .int (nI 0), .null] [] τ Q
      rw [sub_m1]
      refine tr_iload_n eX7_search_87 rfl ?_
      refine tr_if_lt eX7_search_88 (fun h88 => ?_) (fun h88 => ?_)
      · skip
        exact TT.fg [2] hfin
      · skip
        exact absurd (by decide) h88
    | succ d =>
      obtain ⟨ha, htr, htt, hlen, hln, h30, h19⟩ := hR
      dsimp only at ha htr htt
      show TT mX7_search 87 [.ref 0, .int a, .int (nI (d + 1) - nI 1), .int (nI 0), .null] [] τ Q
      rw [show nI (d + 1) - nI 1 = nI d from pk_sub (by omega)]
      have hS : μ 0 (nI 0) = nI nS := hs.2.2.1.1.1.1
      have hS24 := hs.2.2.1.1.1.2
      rw [← ha, aM_0] at hS
      have hn40 : l.length ≤ 40 := hl
      have hdl : d < l.length := by have := hs.1; simp at this; omega
      have hd40 : vp_in (nI d) 40 := vp_in_nI (by omega) (by decide)
      have hmem : τ 17 (nI d) = (nI (l.getD d 0)) := by rw [hln d hdl, getD_at hdl]
      obtain ⟨hvV, hvu⟩ := hs.2.2.2.1 _ (getD_mem hdl)
      have hV40 := hs.2.2.1.1.2.2.2.2
      have hv : vp_in (nI (l.getD d 0)) 40 := vp_in_nI (by omega) (by decide)
      obtain ⟨c, hcS, ec⟩ := sOK_c hs (by show 0 < d + 1; omega)
      have ec' : (τ 18 (nI d) + nI 1) = nI c := by rw [htr]; exact ec
      have hμ10 : s_in τ (nI (l.getD d 0)) = s_in μ (nI (l.getD d 0)) := by rw [← ha]; exact (s_in_aM τ _).symm
      have hμ11 : s_out τ (nI (l.getD d 0)) = s_out μ (nI (l.getD d 0)) := by rw [← ha]; exact (s_out_aM τ _).symm
      have ht5k : t ≤ 5000 := hs.2.1
      have hok0 := stp_ok hl hs (show 0 < d + 1 by omega)
      rw [htr.symm] at hok0 hT
      refine tr_iload_n eX7_search_87 rfl ?_
      refine tr_if_lt eX7_search_88 (fun h88 => ?_) (fun h88 => ?_)
      · skip
        exact absurd (nI_pos' (by omega)) (Int32.not_le.mpr h88)
      · skip
        refine tr_iload_n eX7_search_91 rfl ?_
        refine tr_if_ne eX7_search_92 (fun h92 => ?_) (fun h92 => ?_)
        · skip
          exact absurd rfl h92
        · skip
          refine tr_aload_n eX7_search_95 rfl ?_
          refine tr_getR eX7_search_96 fk_X7_62 rfl rfl ?_
          refine tr_iload_n eX7_search_99 rfl ?_
          refine tr_iald eX7_search_100 rfl hd40 ?_
          rw [hmem]
          refine tr_istore eX7_search_101 (by decide) rfl ?_
          refine tr_aload_n eX7_search_103 rfl ?_
          refine tr_getR eX7_search_104 fk_X7_50 rfl rfl ?_
          refine tr_iload eX7_search_107 rfl ?_
          refine tr_iconst eX7_search_109 (nI 0) ci_0 ?_
          refine tr_iast eX7_search_110 rfl hv ?_
          refine tr_aload_n eX7_search_111 rfl ?_
          refine tr_getR eX7_search_112 fk_X7_65 rfl rfl ?_
          refine tr_iload_n eX7_search_115 rfl ?_
          refine tr_dup2 eX7_search_116 rfl rfl ?_
          refine tr_iald eX7_search_117 rfl hd40 ?_
          try simp (disch := decide) only [up_k, up_s, up_f, s_set_0]
          refine tr_iconst eX7_search_118 (nI 1) ci_1 ?_
          refine tr_iadd eX7_search_119 ?_
          refine tr_iast eX7_search_120 rfl hd40 ?_
          refine tr_aload_n eX7_search_121 rfl ?_
          refine tr_getR eX7_search_122 fk_X7_65 rfl rfl ?_
          refine tr_iload_n eX7_search_125 rfl ?_
          refine tr_iald eX7_search_126 rfl hd40 ?_
          try simp (disch := decide) only [up_k, up_s, up_f, s_set_0]
          refine tr_aload_n eX7_search_127 rfl ?_
          refine tr_getI eX7_search_128 fk_X7_86 rfl rfl ?_
          try simp (disch := decide) only [up_k, up_s, up_f, s_set_0]
          refine tr_icmp_lt eX7_search_131 (fun h131 => ?_) (fun h131 => ?_)
          · skip
            refine tr_aload_n eX7_search_140 rfl ?_
            refine tr_getI eX7_search_141 fk_X7_202 rfl rfl ?_
            try simp (disch := decide) only [up_k, up_s, up_f, s_set_0]
            try rw [up_k (by decide), up_k (by decide)]
            try rw [htt]
            refine tr_sipush eX7_search_144 (nI 5000) (by decide) ?_
            refine tr_icmp_ne eX7_search_147 (fun h147 => ?_) (fun h147 => ?_)
            · skip
              have ht5 : t < 5000 := by
                rcases Nat.lt_or_ge t 5000 with q | q
                · exact q
                · exact absurd (by rw [show t = 5000 by omega]) h147
              have ea2 : aM (up (up (up τ 12 (nI (l.getD d 0)) (nI 0)) 18 (nI d) (τ 18 (nI d) + nI 1)) 0 (nI 29) (nI (t + 1))) = up μ 12 (nI (l.getD d 0)) (nI 0) := by rw [aM_f0_29, aM_s _ (by decide), aM_u _ (by decide), ha]
              have hcv : vp_in (τ 18 (nI d) + nI 1) 24 := by rw [ec']; exact vp_in_nI (by have := (nI_ltI (by omega) (by omega)).mp (ec' ▸ hS ▸ h131); omega) (by decide)
              have hoff : iA (aM (up (up (up τ 12 (nI (l.getD d 0)) (nI 0)) 18 (nI d) (τ 18 (nI d) + nI 1)) 0 (nI 29) (nI (t + 1)))) nS nP nC nV := by rw [ea2]; exact iA_off hs.2.2.1 hvV
              obtain ⟨ia, ib, e1, e2, hab, hb⟩ := hs.2.2.1.2.2.1.1.io hvV
              have hio : s_in μ (nI (l.getD d 0)) < s_out μ (nI (l.getD d 0)) := by rw [e1, e2]; exact (nI_ltI (by omega) (by omega)).mpr hab
              have hag := k_X7_againstOfB (τ := (up (up (up τ 12 (nI (l.getD d 0)) (nI 0)) 18 (nI d) (τ 18 (nI d) + nI 1)) 0 (nI 29) (nI (t + 1)))) (s := (τ 18 (nI d) + nI 1)) (a := s_in μ (nI (l.getD d 0))) (b := s_out μ (nI (l.getD d 0))) hoff hv hcv hio
              rw [ea2] at hag
              have hsets := k_X7_sets (σ := (up (up (up (up τ 12 (nI (l.getD d 0)) (nI 0)) 18 (nI d) (τ 18 (nI d) + nI 1)) 0 (nI 29) (nI (t + 1))) 0 (nI 24) (s_A (up μ 12 (nI (l.getD d 0)) (nI 0)) (nI (l.getD d 0)) (τ 18 (nI d) + nI 1) (s_in μ (nI (l.getD d 0))) (s_out μ (nI (l.getD d 0)))).2)) (v := (nI (l.getD d 0))) (s := (τ 18 (nI d) + nI 1)) (a := s_in μ (nI (l.getD d 0))) (b := s_out μ (nI (l.getD d 0))) hv
              have hpos := s_A_pos (up μ 12 (nI (l.getD d 0)) (nI 0)) (nI (l.getD d 0)) (τ 18 (nI d) + nI 1) (s_in μ (nI (l.getD d 0))) (s_out μ (nI (l.getD d 0)))
              have hin3 := k_X7_inOf (σ := (up (up (up (up τ 12 (nI (l.getD d 0)) (nI 0)) 18 (nI d) (τ 18 (nI d) + nI 1)) 0 (nI 29) (nI (t + 1))) 0 (nI 24) (s_A (up μ 12 (nI (l.getD d 0)) (nI 0)) (nI (l.getD d 0)) (τ 18 (nI d) + nI 1) (s_in μ (nI (l.getD d 0))) (s_out μ (nI (l.getD d 0)))).2)) hv
              rw [show s_in (up (up (up (up τ 12 (nI (l.getD d 0)) (nI 0)) 18 (nI d) (τ 18 (nI d) + nI 1)) 0 (nI 29) (nI (t + 1))) 0 (nI 24) (s_A (up μ 12 (nI (l.getD d 0)) (nI 0)) (nI (l.getD d 0)) (τ 18 (nI d) + nI 1) (s_in μ (nI (l.getD d 0))) (s_out μ (nI (l.getD d 0)))).2) (nI (l.getD d 0)) = s_in μ (nI (l.getD d 0)) from hμ10] at hin3
              have hout3 := k_X7_outOf (σ := (up (up (up (up τ 12 (nI (l.getD d 0)) (nI 0)) 18 (nI d) (τ 18 (nI d) + nI 1)) 0 (nI 29) (nI (t + 1))) 0 (nI 24) (s_A (up μ 12 (nI (l.getD d 0)) (nI 0)) (nI (l.getD d 0)) (τ 18 (nI d) + nI 1) (s_in μ (nI (l.getD d 0))) (s_out μ (nI (l.getD d 0)))).2)) hv
              rw [show s_out (up (up (up (up τ 12 (nI (l.getD d 0)) (nI 0)) 18 (nI d) (τ 18 (nI d) + nI 1)) 0 (nI 29) (nI (t + 1))) 0 (nI 24) (s_A (up μ 12 (nI (l.getD d 0)) (nI 0)) (nI (l.getD d 0)) (τ 18 (nI d) + nI 1) (s_in μ (nI (l.getD d 0))) (s_out μ (nI (l.getD d 0)))).2) (nI (l.getD d 0)) = s_out μ (nI (l.getD d 0)) from hμ11] at hout3
              refine tr_iconst eX7_search_154 (nI 0) ci_0 ?_
              refine tr_istore_n eX7_search_155 (by decide) rfl ?_
              refine tr_iload_n eX7_search_156 rfl ?_
              refine tr_if_eq eX7_search_157 (fun _ => ?_) (fun h157 => absurd h157 (by decide))
              refine tr_aload_n eX7_search_163 rfl ?_
              refine tr_dup eX7_search_164 rfl ?_
              refine tr_getI eX7_search_165 fk_X7_202 rfl rfl ?_
              try simp (disch := decide) only [up_k, up_s, up_f, s_set_0]
              try rw [up_k (by decide), up_k (by decide)]
              try rw [htt]
              refine tr_iconst eX7_search_168 (nI 1) ci_1 ?_
              refine tr_iadd eX7_search_169 ?_
              rw [nI_add]
              refine tr_put eX7_search_170 fp_X7_202 rfl rfl ?_
              refine tr_aload_n eX7_search_173 rfl ?_
              refine tr_iload eX7_search_174 rfl ?_
              refine tr_aload_n eX7_search_176 rfl ?_
              refine tr_getR eX7_search_177 fk_X7_65 rfl rfl ?_
              refine tr_iload_n eX7_search_180 rfl ?_
              refine tr_iald eX7_search_181 rfl hd40 ?_
              try simp (disch := decide) only [up_k, up_s, up_f, s_set_0]
              refine tr_aload_n eX7_search_182 rfl ?_
              refine tr_iload eX7_search_183 rfl ?_
              refine tr_ce1 eX7_search_185 zv_X7_inOf zi_X7_inOf lk_X7_119 ⟨rfl, by decide, by decide⟩ rfl rfl rfl (show CT mX7_inOf _ _ (PE (some (s_in μ (nI (l.getD d 0)))) _) from by rw [← hμ10]; exact k_X7_inOf (σ := (up (up (up τ 12 (nI (l.getD d 0)) (nI 0)) 18 (nI d) (τ 18 (nI d) + nI 1)) 0 (nI 29) (nI (t + 1)))) hv) ?_
              try simp (disch := decide) only [up_k, up_s, up_f, s_set_0]
              refine tr_aload_n eX7_search_188 rfl ?_
              refine tr_iload eX7_search_189 rfl ?_
              refine tr_ce1 eX7_search_191 zv_X7_outOf zi_X7_outOf lk_X7_178 ⟨rfl, by decide, by decide⟩ rfl rfl rfl (show CT mX7_outOf _ _ (PE (some (s_out μ (nI (l.getD d 0)))) _) from by rw [← hμ11]; exact k_X7_outOf (σ := (up (up (up τ 12 (nI (l.getD d 0)) (nI 0)) 18 (nI d) (τ 18 (nI d) + nI 1)) 0 (nI 29) (nI (t + 1)))) hv) ?_
              try simp (disch := decide) only [up_k, up_s, up_f, s_set_0]
              refine tr_ce4 eX7_search_194 zv_X7_againstOf zi_X7_againstOf lk_X7_165 ⟨rfl, by decide, by decide⟩ rfl rfl rfl hag ?_
              try simp (disch := decide) only [up_k, up_s, up_f, s_set_0]
              refine tr_if_le eX7_search_197 (fun h197 => ?_) (fun h197 => ?_)
              · skip
                refine tr_aload_n eX7_search_203 rfl ?_
                refine tr_iload eX7_search_204 rfl ?_
                refine tr_aload_n eX7_search_206 rfl ?_
                refine tr_getR eX7_search_207 fk_X7_65 rfl rfl ?_
                refine tr_iload_n eX7_search_210 rfl ?_
                refine tr_iald eX7_search_211 rfl hd40 ?_
                try simp (disch := decide) only [up_k, up_s, up_f, s_set_0]
                refine tr_aload_n eX7_search_212 rfl ?_
                refine tr_iload eX7_search_213 rfl ?_
                refine tr_ce1 eX7_search_215 zv_X7_inOf zi_X7_inOf lk_X7_119 ⟨rfl, by decide, by decide⟩ rfl rfl rfl hin3 ?_
                try simp (disch := decide) only [up_k, up_s, up_f, s_set_0]
                refine tr_aload_n eX7_search_218 rfl ?_
                refine tr_iload eX7_search_219 rfl ?_
                refine tr_ce1 eX7_search_221 zv_X7_outOf zi_X7_outOf lk_X7_178 ⟨rfl, by decide, by decide⟩ rfl rfl rfl hout3 ?_
                try simp (disch := decide) only [up_k, up_s, up_f, s_set_0]
                refine tr_ce4 eX7_search_224 zv_X7_sets zi_X7_sets lk_X7_184 ⟨rfl, by decide, by decide⟩ rfl rfl rfl hsets ?_
                try simp (disch := decide) only [up_k, up_s, up_f, s_set_0]
                have hl26 : (s_set (up (up (up (up τ 12 (nI (l.getD d 0)) (nI 0)) 18 (nI d) (τ 18 (nI d) + nI 1)) 0 (nI 29) (nI (t + 1))) 0 (nI 24) (s_A (up μ 12 (nI (l.getD d 0)) (nI 0)) (nI (l.getD d 0)) (τ 18 (nI d) + nI 1) (s_in μ (nI (l.getD d 0))) (s_out μ (nI (l.getD d 0)))).2) (nI (l.getD d 0)) (τ 18 (nI d) + nI 1) (s_in μ (nI (l.getD d 0))) (s_out μ (nI (l.getD d 0)))) 0 (nI 26) = nI l.length := by
                  show up (up (up (up τ 12 (nI (l.getD d 0)) (nI 0)) 18 (nI d) (τ 18 (nI d) + nI 1)) 0 (nI 29) (nI (t + 1))) 0 (nI 24) (s_A (up μ 12 (nI (l.getD d 0)) (nI 0)) (nI (l.getD d 0)) (τ 18 (nI d) + nI 1) (s_in μ (nI (l.getD d 0))) (s_out μ (nI (l.getD d 0)))).2 0 (nI 26) = _
                  rw [up_f (by decide), up_f (by decide), up_k (by decide), up_k (by decide)]; exact hlen
                refine tr_iload_n eX7_search_227 rfl ?_
                refine tr_iconst eX7_search_228 (nI 1) ci_1 ?_
                refine tr_iadd eX7_search_229 ?_
                try rw [nI_add]
                refine tr_aload_n eX7_search_230 rfl ?_
                refine tr_getI eX7_search_231 fk_X7_188 rfl rfl ?_
                try simp (disch := decide) only [up_k, up_s, up_f, s_set_0]
                first | rw [hl26] | rw [hlen]
                refine tr_icmp_ge eX7_search_234 (fun h234 => ?_) (fun h234 => ?_)
                · skip
                  have h234 := (nI_leI (by omega) (by omega)).mp h234
                  have es : stp l nS (d + 1, τ 18, t, μ) = (nI 0, d + 1, upA (τ 18) (nI d) (τ 18 (nI d) + nI 1), t + 1, (s_set (up μ 12 (nI (l.getD d 0)) (nI 0)) (nI (l.getD d 0)) (τ 18 (nI d) + nI 1) (s_in μ (nI (l.getD d 0))) (s_out μ (nI (l.getD d 0))))) := by rw [stp_t, if_neg (fun q => q (by rw [← hS]; exact h131)), if_neg (fun q => q ht5), if_neg (fun q => q (hpos.mp h197)), if_pos (by omega)]
                  have hR4 : RSm l (s_set (up (up (up (up τ 12 (nI (l.getD d 0)) (nI 0)) 18 (nI d) (τ 18 (nI d) + nI 1)) 0 (nI 29) (nI (t + 1))) 0 (nI 24) (s_A (up μ 12 (nI (l.getD d 0)) (nI 0)) (nI (l.getD d 0)) (τ 18 (nI d) + nI 1) (s_in μ (nI (l.getD d 0))) (s_out μ (nI (l.getD d 0)))).2) (nI (l.getD d 0)) (τ 18 (nI d) + nI 1) (s_in μ (nI (l.getD d 0))) (s_out μ (nI (l.getD d 0)))) (d + 1, upA (τ 18) (nI d) (τ 18 (nI d) + nI 1), t + 1, (s_set (up μ 12 (nI (l.getD d 0)) (nI 0)) (nI (l.getD d 0)) (τ 18 (nI d) + nI 1) (s_in μ (nI (l.getD d 0))) (s_out μ (nI (l.getD d 0))))) b := ⟨by rw [aM_set, aM_f0_24, ea2], by rw [s_set_18, up_k (by decide), up_k (by decide), up_upA, up_k (by decide)], by rw [s_set_0, up_f (by decide), up_s], hl26, by rw [s_set_17, up_k (by decide), up_k (by decide), up_k (by decide), up_k (by decide)]; exact hln, by rw [s_set_0, up_f (by decide), up_f (by decide), up_k (by decide), up_k (by decide)]; exact h30, by rw [s_set_19, up_k (by decide), up_k (by decide), up_k (by decide), up_k (by decide)]; exact h19⟩
                  have hwh : WHo l nS (stp l nS (d + 1, τ 18, t, μ)).2 := stp_wh hl (by rw [htr]; exact hs) (by show 0 < d + 1; omega) (by rw [es])
                  rw [es] at hwh
                  have hwc : ∀ p, p < l.length → vp_in ((s_set (up (up (up (up τ 12 (nI (l.getD d 0)) (nI 0)) 18 (nI d) (τ 18 (nI d) + nI 1)) 0 (nI 29) (nI (t + 1))) 0 (nI 24) (s_A (up μ 12 (nI (l.getD d 0)) (nI 0)) (nI (l.getD d 0)) (τ 18 (nI d) + nI 1) (s_in μ (nI (l.getD d 0))) (s_out μ (nI (l.getD d 0)))).2) (nI (l.getD d 0)) (τ 18 (nI d) + nI 1) (s_in μ (nI (l.getD d 0))) (s_out μ (nI (l.getD d 0)))) 18 (nI p)) 24 := fun p hp => by
                    obtain ⟨c', hc', e'⟩ := hwh.2 p hp
                    rw [hR4.2.1]
                    dsimp only at e' ⊢
                    rw [e']
                    exact vp_in_nI (by omega) (by decide)
                  have hRw := m_kp_R hR4
                  refine tr_aload_n eX7_search_250 rfl ?_
                  refine tr_ce0 eX7_search_251 zv_X7_whole zi_X7_whole lk_X7_208 ⟨rfl, by decide, by decide⟩ rfl rfl rfl (k_X7_whole (τ := (s_set (up (up (up (up τ 12 (nI (l.getD d 0)) (nI 0)) 18 (nI d) (τ 18 (nI d) + nI 1)) 0 (nI 29) (nI (t + 1))) 0 (nI 24) (s_A (up μ 12 (nI (l.getD d 0)) (nI 0)) (nI (l.getD d 0)) (τ 18 (nI d) + nI 1) (s_in μ (nI (l.getD d 0))) (s_out μ (nI (l.getD d 0)))).2) (nI (l.getD d 0)) (τ 18 (nI d) + nI 1) (s_in μ (nI (l.getD d 0))) (s_out μ (nI (l.getD d 0))))) hl hl26 hwc) ?_
                  try simp (disch := decide) only [up_k, up_s, up_f, s_set_0]
                  refine tr_iload_n eX7_search_254 rfl ?_
                  refine tr_if_ne eX7_search_255 (fun h255 => ?_) (fun h255 => ?_)
                  · skip
                    have hall : all = true := by cases all with
                      | true => rfl
                      | false => exact absurd (by rw [ha1]; rfl) h255
                    refine tr_goto eX7_search_261 ?_
                    rw [es] at hok0
                    refine TT.fg [4] (TT_l2 (show nI (d + 1) - nI 1 = nI d from pk_sub (by omega)) (ih _ (d + 1, upA (τ 18) (nI d) (τ 18 (nI d) + nI 1), t + 1, (s_set (up μ 12 (nI (l.getD d 0)) (nI 0)) (nI (l.getD d 0)) (τ 18 (nI d) + nI 1) (s_in μ (nI (l.getD d 0))) (s_out μ (nI (l.getD d 0))))) _ ?_ hRw hok0 ?_))
                    · have := stp_msr (l := l) (nS := nS) (s := (d + 1, τ 18, t, μ)) (by show 0 < d + 1; omega) ht5k (by rw [es]; exact n0_10)
                      rw [es] at this
                      rw [← htr] at hf
                      exact Nat.lt_of_lt_of_le this (Nat.le_of_lt_succ hf)
                    · rw [hT, runA_s, es, if_neg (show ¬ nI 0 = -1 by decide), if_pos rfl, if_pos hall]
                  · skip
                    refine tr_goto eX7_search_258 ?_
                    have hnall : ¬ all = true := fun q => absurd h255 (by rw [ha1, q]; decide)
                    have hfin := kk (nI 0) _ (d + 1, upA (τ 18) (nI d) (τ 18 (nI d) + nI 1), t + 1, (s_set (up μ 12 (nI (l.getD d 0)) (nI 0)) (nI (l.getD d 0)) (τ 18 (nI d) + nI 1) (s_in μ (nI (l.getD d 0))) (s_out μ (nI (l.getD d 0))))) _ hRw (by rw [hT, runA_s, es, if_neg (show ¬ nI 0 = -1 by decide), if_pos rfl, if_neg hnall])
                    rw [bi, if_neg (by decide)] at hfin
                    exact TT.fg [2, 4] hfin
                · skip
                  have h234 : d + 1 < l.length := Nat.not_le.mp fun q => h234 ((nI_leI (by omega) (by omega)).mpr q)
                  refine tr_iinc eX7_search_237 _ (by first | with_reducible exact inc_n _ | with_reducible exact ix_s _ _ | with_reducible rfl) rfl (by decide) rfl ?_
                  refine tr_aload_n eX7_search_240 rfl ?_
                  refine tr_getR eX7_search_241 fk_X7_65 rfl rfl ?_
                  refine tr_iload_n eX7_search_244 rfl ?_
                  refine tr_iconst eX7_search_245 (-1) ci_m1 ?_
                  refine tr_iast eX7_search_246 rfl (vp_in_nI (by omega) (by decide)) ?_
                  refine tr_goto eX7_search_247 ?_
                  have es : stp l nS (d + 1, τ 18, t, μ) = (-1, d + 1 + 1, upA (upA (τ 18) (nI d) (τ 18 (nI d) + nI 1)) (nI (d + 1)) (-1), t + 1, (s_set (up μ 12 (nI (l.getD d 0)) (nI 0)) (nI (l.getD d 0)) (τ 18 (nI d) + nI 1) (s_in μ (nI (l.getD d 0))) (s_out μ (nI (l.getD d 0))))) := by rw [stp_t, if_neg (fun q => q (by rw [← hS]; exact h131)), if_neg (fun q => q ht5), if_neg (fun q => q (hpos.mp h197)), if_neg (by omega)]
                  rw [es] at hok0
                  refine TT.fg [4] (TT_l2 (show nI (d + 1 + 1) - nI 1 = nI (d + 1) from pk_sub (by omega)) (ih _ (d + 1 + 1, upA (upA (τ 18) (nI d) (τ 18 (nI d) + nI 1)) (nI (d + 1)) (-1), t + 1, (s_set (up μ 12 (nI (l.getD d 0)) (nI 0)) (nI (l.getD d 0)) (τ 18 (nI d) + nI 1) (s_in μ (nI (l.getD d 0))) (s_out μ (nI (l.getD d 0))))) b ?_ ⟨by rw [aM_s _ (by decide), aM_set, aM_f0_24, ea2], by rw [up_upA, s_set_18, up_k (by decide), up_k (by decide), up_upA, up_k (by decide)], by rw [up_k (by decide), s_set_0, up_f (by decide), up_s], by rw [up_k (by decide)]; exact hl26, by rw [up_k (by decide), s_set_17, up_k (by decide), up_k (by decide), up_k (by decide), up_k (by decide)]; exact hln, by rw [up_k (by decide), s_set_0, up_f (by decide), up_f (by decide), up_k (by decide), up_k (by decide)]; exact h30, by rw [up_k (by decide), s_set_19, up_k (by decide), up_k (by decide), up_k (by decide), up_k (by decide)]; exact h19⟩ hok0 ?_))
                  · have := stp_msr (l := l) (nS := nS) (s := (d + 1, τ 18, t, μ)) (by show 0 < d + 1; omega) ht5k (by rw [es]; exact m1_10)
                    rw [es] at this
                    rw [← htr] at hf
                    exact Nat.lt_of_lt_of_le this (Nat.le_of_lt_succ hf)
                  · rw [hT, runA_s, es, if_pos rfl]
              · skip
                refine tr_goto eX7_search_200 ?_
                have es : stp l nS (d + 1, τ 18, t, μ) = (-1, d + 1, upA (τ 18) (nI d) (τ 18 (nI d) + nI 1), t + 1, (up μ 12 (nI (l.getD d 0)) (nI 0))) := by rw [stp_t, if_neg (fun q => q (by rw [← hS]; exact h131)), if_neg (fun q => q ht5), if_pos (fun q => h197 (hpos.mpr q))]
                rw [es] at hok0
                refine TT.fg [4] (TT_l2 (show nI (d + 1) - nI 1 = nI d from pk_sub (by omega)) (ih _ (d + 1, upA (τ 18) (nI d) (τ 18 (nI d) + nI 1), t + 1, (up μ 12 (nI (l.getD d 0)) (nI 0))) b ?_ ⟨by rw [aM_f0_24, ea2], by rw [up_k (by decide), up_k (by decide), up_upA, up_k (by decide)], by rw [up_f (by decide), up_s], by rw [up_f (by decide), up_f (by decide), up_k (by decide), up_k (by decide)]; exact hlen, by rw [up_k (by decide), up_k (by decide), up_k (by decide), up_k (by decide)]; exact hln, by rw [up_f (by decide), up_f (by decide), up_k (by decide), up_k (by decide)]; exact h30, by rw [up_k (by decide), up_k (by decide), up_k (by decide), up_k (by decide)]; exact h19⟩ hok0 ?_))
                · have := stp_msr (l := l) (nS := nS) (s := (d + 1, τ 18, t, μ)) (by show 0 < d + 1; omega) ht5k (by rw [es]; exact m1_10)
                  rw [es] at this
                  rw [← htr] at hf
                  exact Nat.lt_of_lt_of_le this (Nat.le_of_lt_succ hf)
                · rw [hT, runA_s, es, if_pos rfl]
            · skip
              have ht5 : t = 5000 := nI_inj (by omega) (by decide) h147
              refine tr_iconst eX7_search_150 (nI 1) ci_1 ?_
              refine tr_goto eX7_search_151 ?_
              refine tr_istore_n eX7_search_155 (by decide) rfl ?_
              refine tr_iload_n eX7_search_156 rfl ?_
              refine tr_if_eq eX7_search_157 (fun h157 => absurd h157 (by decide)) (fun _ => ?_)
              refine tr_goto eX7_search_160 ?_
              have es : stp l nS (d + 1, τ 18, t, μ) = (nI 10, d + 1, upA (τ 18) (nI d) (τ 18 (nI d) + nI 1), t, (up μ 12 (nI (l.getD d 0)) (nI 0))) := by rw [stp_t, if_neg (fun q => q (by rw [← hS]; exact h131)), if_pos (by omega)]
              have hfin := kk (nI 10) (up (up τ 12 (nI (l.getD d 0)) (nI 0)) 18 (nI d) (τ 18 (nI d) + nI 1)) (d + 1, upA (τ 18) (nI d) (τ 18 (nI d) + nI 1), t, (up μ 12 (nI (l.getD d 0)) (nI 0))) b ⟨by rw [aM_s _ (by decide), aM_u _ (by decide), ha], by rw [up_upA, up_k (by decide)], by rw [up_k (by decide), up_k (by decide)]; exact htt, by rw [up_k (by decide), up_k (by decide)]; exact hlen, by rw [up_k (by decide), up_k (by decide)]; exact hln, by rw [up_k (by decide), up_k (by decide)]; exact h30, by rw [up_k (by decide), up_k (by decide)]; exact h19⟩ (by rw [hT, runA_s, es, if_neg (show ¬ nI 10 = -1 by decide), if_neg (show ¬ nI 10 = nI 0 by decide)])
              rw [bi, if_pos rfl] at hfin
              refine tr_iload_n eX7_search_87 rfl ?_
              refine tr_if_lt eX7_search_88 (fun h88 => ?_) (fun h88 => ?_)
              · skip
                exact TT.fg [2, 4] hfin
              · skip
                refine tr_iload_n eX7_search_91 rfl ?_
                refine tr_if_ne eX7_search_92 (fun h92 => ?_) (fun h92 => ?_)
                · skip
                  exact TT.fg [2, 4] hfin
                · skip
                  exact absurd h92 (by decide)
          · skip
            refine tr_iinc eX7_search_134 _ (by first | with_reducible exact inc_n _ | with_reducible exact ix_s _ _ | with_reducible rfl) rfl (by decide) rfl ?_
            refine tr_goto eX7_search_137 ?_
            have es : stp l nS (d + 1, τ 18, t, μ) = (-1, d, upA (τ 18) (nI d) (τ 18 (nI d) + nI 1), t, (up μ 12 (nI (l.getD d 0)) (nI 0))) := by rw [stp_t, if_pos (by rw [← hS]; exact h131)]
            rw [es] at hok0
            rw [decr]
            refine TT.fg [4] (ih _ (d, upA (τ 18) (nI d) (τ 18 (nI d) + nI 1), t, (up μ 12 (nI (l.getD d 0)) (nI 0))) b ?_ ⟨by rw [aM_s _ (by decide), aM_u _ (by decide), ha], by rw [up_upA, up_k (by decide)], by rw [up_k (by decide), up_k (by decide)]; exact htt, by rw [up_k (by decide), up_k (by decide)]; exact hlen, by rw [up_k (by decide), up_k (by decide)]; exact hln, by rw [up_k (by decide), up_k (by decide)]; exact h30, by rw [up_k (by decide), up_k (by decide)]; exact h19⟩ hok0 ?_)
            · have := stp_msr (l := l) (nS := nS) (s := (d + 1, τ 18, t, μ)) (by show 0 < d + 1; omega) ht5k (by rw [es]; exact m1_10)
              rw [es] at this
              rw [← htr] at hf
              exact Nat.lt_of_lt_of_le this (Nat.le_of_lt_succ hf)
            · rw [hT, runA_s, es, if_pos rfl]
