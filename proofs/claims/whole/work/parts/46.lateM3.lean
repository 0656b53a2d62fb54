theorem insK_len {μ : tSt} {u : Nat} : ∀ (l : List Nat), (insK μ u l).length = l.length + 1
  | [] => rfl
  | x :: l => by
    rw [insK]
    split
    · rfl
    · rw [List.length_cons, insK_len l, List.length_cons]
theorem SR_room {μ : tSt} {l : List Nat} {w nV : Nat} (hS : SR μ l) (hV : nV ≤ 40) (hl : ∀ x ∈ l, x < nV) (hw : w < nV) (hn : w ∉ l) : l.length < nV := by
  have h1 : SR μ (insK μ w l) := SR_insK hS (fun x hx e => hn (by rw [← kx_inj (by have := hl x hx; omega) (by omega) e]; exact hx))
  have h2 := SR_len h1 (n := nV) (fun x hx => by rcases mem_insK.mp hx with rfl | q; exact hw; exact hl x q)
  rw [insK_len] at h2
  omega
theorem lp_X7_late_161 {τ : tSt} {n m c : Nat} {nS nP nC nV : Nat} (hI : iA (aM τ) nS nP nC nV) (hn : n < nV) (hc : aM τ 12 (nI n) = nI c) (hc1 : 1 ≤ c) (hc8 : c ≤ 8) (hL : iA (ltm (aM τ) (nI n) (nI m)) nS nP nC nV) (hS : vp_in (aM τ 13 (nI n * nI 8 + nI (c - 1))) 24) (hAt : aM τ 14 (nI n * nI 8 + nI (c - 1)) < nI m) : ∀ (f : Nat) (l : List Nat) (g : Int32 → Bool) (ρ : tSt), l.length + f = 40 → gIn nV (nI n) g → (∀ u : Nat, u < nV → g (nI u) = true → ¬ aM τ 12 (nI u) = nI 0) → lmR τ ρ n m nV g l → ρ 0 (nI 24) = (s_A (vd g (aM τ)) (nI n) (aM τ 13 (nI n * nI 8 + nI (c - 1))) (aM τ 14 (nI n * nI 8 + nI (c - 1))) (nI m)).2 → TT mX7_late 161 [.ref 0, .int (nI n), .int (nI m), .int (nI n * nI 8 + nI (c - 1)), .int (aM τ 15 (nI n * nI 8 + nI (c - 1))), .int (aM τ 10 (nI n * nI 5 + nI 3)), .int ((s_A (vd g (aM τ)) (nI n) (aM τ 13 (nI n * nI 8 + nI (c - 1))) (aM τ 14 (nI n * nI 8 + nI (c - 1))) (nI m)).1), .null, .null, .null] [] ρ (QM (resL (aM τ) n m nV (ltG (aM τ) (nI n) (aM τ 13 (nI n * nI 8 + nI (c - 1))) (aM τ 14 (nI n * nI 8 + nI (c - 1))) (nI m) f g))) := by
  intro f
  have hV40 := hI.1.2.2.2.2
  induction f with
  | zero =>
    intro l g ρ hl hg hgp h h24
    by_cases hcn : can (aM τ) (s_A (vd g (aM τ)) (nI n) (aM τ 13 (nI n * nI 8 + nI (c - 1))) (aM τ 14 (nI n * nI 8 + nI (c - 1))) (nI m)) = true
    · obtain ⟨_, w, hw, ew, _, hgw, _⟩ := gIn_step hI hg hcn
      have := SR_room h.2.2.2.1 hV40 (fun x hx => ((h.2.2.2.2.2.1 x).mp hx).1) hw (fun q => hgw ((h.2.2.2.2.2.1 w).mp q).2)
      exact absurd this (by omega)
    · rw [ltG_stop hcn]
      exact ex_X7_late hI hn hc hc1 hc8 hL hg hgp h h24 hcn
  | succ f ih =>
    intro l g ρ hl hg hgp h h24
    by_cases hcn : can (aM τ) (s_A (vd g (aM τ)) (nI n) (aM τ 13 (nI n * nI 8 + nI (c - 1))) (aM τ 14 (nI n * nI 8 + nI (c - 1))) (nI m)) = true
    · obtain ⟨hg2, w, hw, ew, hwv, hgw, hw0⟩ := gIn_step hI hg hcn
      have hwl : w ∉ l := fun q => hgw ((h.2.2.2.2.2.1 w).mp q).2
      have hlV : ∀ x ∈ l, x < nV := fun x hx => ((h.2.2.2.2.2.1 x).mp hx).1
      have hlen := SR_room h.2.2.2.1 hV40 hlV hw hwl
      have hq : (s_A (vd g (aM τ)) (nI n) (aM τ 13 (nI n * nI 8 + nI (c - 1))) (aM τ 14 (nI n * nI 8 + nI (c - 1))) (nI m)).1 = nI 3 ∨ (s_A (vd g (aM τ)) (nI n) (aM τ 13 (nI n * nI 8 + nI (c - 1))) (aM τ 14 (nI n * nI 8 + nI (c - 1))) (nI m)).1 = nI 5 := by
        simp only [can, Bool.and_eq_true, Bool.or_eq_true, decide_eq_true_eq] at hcn
        exact hcn.1
      have hposn : ¬ (s_A (vd g (aM τ)) (nI n) (aM τ 13 (nI n * nI 8 + nI (c - 1))) (aM τ 14 (nI n * nI 8 + nI (c - 1))) (nI m)).1 ≤ 0 := by
        rcases hq with q | q
        · rw [q]; decide
        · rw [q]; decide
      have hnb : ¬ (¬ ρ 0 (nI 8) < s_in ρ (nI w)) := by
        have hu2 : nI 2 < aM τ 11 (nI w) := hI.2.2.1.2.2.2 w (by omega) hw0
        have e4 : ρ 0 (nI 8) = aM τ 0 (nI 4) := by rw [← aM_4 ρ, h.1, vd_k (by decide)]; rfl
        have ei : s_in ρ (nI w) = s_in (aM τ) (nI w) := by rw [← s_in_aM, h.1]; exact s_in_lt (by omega) (by omega) g
        rw [e4, ei]
        have hb : (!s_beg (aM τ) (aM τ 0 (nI 4)) (s_A (vd g (aM τ)) (nI n) (aM τ 13 (nI n * nI 8 + nI (c - 1))) (aM τ 14 (nI n * nI 8 + nI (c - 1))) (nI m)).2) = true := by
          unfold can at hcn
          rw [Bool.and_eq_true] at hcn
          exact hcn.2
        rw [ew, s_beg, Bool.not_eq_true', Bool.and_eq_false_iff] at hb
        rcases hb with hb | hb
        · rw [s_unk, Bool.not_eq_false', decide_eq_true_eq] at hb
          exact absurd hu2 hb
        · exact of_decide_eq_false hb
      have hinw : vp_in (nI w) 40 := vp_in_nI (by omega) (by decide)
      have hinn : vp_in (nI n) 40 := vp_in_nI (by omega) (by decide)
      have hei : vp_in (nI n * nI 8 + nI (c - 1)) 320 := in_slot hinn (vp_in_nI (by omega) (by decide))
      have ec13 : ∀ j, ρ 13 j = aM τ 13 j := fun j => by rw [← aM_k ρ (k := 13) (by decide), h.1, vd_k (by decide)]; rfl
      have ec14 : ∀ j, ρ 14 j = aM τ 14 j := fun j => by rw [← aM_k ρ (k := 14) (by decide), h.1, vd_k (by decide)]; rfl
      have hmem : ∀ q, q < l.length → vp_in ((up (up ρ 21 (nI w) (aM τ 13 (nI w * nI 8))) 12 (nI w) (nI 0)) 17 (nI q)) 40 := fun q hq => by
        rw [up_k (by decide), up_k (by decide)]
        exact LNS_v h.2.2.1 (fun x hx => by have := hlV x hx; omega) (by decide) q hq
      have hlines := k_X7_lines (τ := (up (up ρ 21 (nI w) (aM τ 13 (nI w * nI 8))) 12 (nI w) (nI 0))) (v := nI w) (n := l.length) hinw (by rw [up_k (by decide), up_k (by decide)]; exact h.2.2.2.2.1) (by omega) hmem
      refine tr_iload eX7_late_161 rfl ?_
      refine tr_if_le eX7_late_163 (fun h163 => ?_) (fun h163 => ?_)
      · skip
        exact absurd h163 hposn
      · skip
        refine tr_aload_n eX7_late_166 rfl ?_
        refine tr_getI eX7_late_167 fk_X7_134 rfl rfl ?_
        rw [h24, ew]
        refine tr_istore eX7_late_170 (by decide) rfl ?_
        refine tr_iload eX7_late_172 rfl ?_
        refine tr_iconst eX7_late_174 (nI 3) ci_3 ?_
        refine tr_icmp_eq eX7_late_175 (fun h175 => ?_) (fun h175 => ?_)
        · skip
          refine tr_aload_n eX7_late_184 rfl ?_
          refine tr_iload eX7_late_185 rfl ?_
          refine tr_ce1 eX7_late_187 zv_X7_hasBegun zi_X7_hasBegun lk_X7_175 ⟨rfl, by decide, by decide⟩ rfl rfl rfl (k_X7_hasBegun hinw) ?_
          refine tr_if_eq eX7_late_190 (fun h190 => ?_) (fun h190 => ?_)
          · skip
            try first | replace h190 := bi_0 h190 | replace h190 := bi_n h190
            refine tr_aload_n eX7_late_260 rfl ?_
            refine tr_getR eX7_late_261 fk_X7_74 rfl rfl ?_
            refine tr_iload eX7_late_264 rfl ?_
            refine tr_aload_n eX7_late_266 rfl ?_
            refine tr_getR eX7_late_267 fk_X7_53 rfl rfl ?_
            refine tr_bipush eX7_late_270 (nI 8) (by decide) ?_
            refine tr_iload eX7_late_272 rfl ?_
            refine tr_imulC eX7_late_274 ?_
            refine tr_iald eX7_late_275 rfl (in_slot0 hinw) ?_
            rw [ec13]
            refine tr_iast eX7_late_276 rfl hinw ?_
            refine tr_aload_n eX7_late_277 rfl ?_
            refine tr_getR eX7_late_278 fk_X7_50 rfl rfl ?_
            refine tr_iload eX7_late_281 rfl ?_
            refine tr_iconst eX7_late_283 (nI 0) ci_0 ?_
            refine tr_iast eX7_late_284 rfl hinw ?_
            refine tr_aload_n eX7_late_285 rfl ?_
            refine tr_iload eX7_late_286 rfl ?_
            refine tr_cv1 (r0 := none) (σ1 := fun _ _ => 0) eX7_late_288 zv_X7_lines zi_X7_lines lk_X7_194 ⟨rfl, by decide, by decide⟩ rfl rfl rfl hlines (fun r' ρ2 hq2 => ?_)
            try simp (disch := decide) only [up_k, up_s, up_f, s_set_0]
            obtain ⟨rfl, b1, b2, b3, b4⟩ := hq2
            have hins : ∀ x, s_in (up (up ρ 21 (nI w) (aM τ 13 (nI w * nI 8))) 12 (nI w) (nI 0)) x = s_in (ltm (aM τ) (nI n) (nI m)) x := fun x => by
              have : s_in ρ x = s_in (vd g (ltm (aM τ) (nI n) (nI m))) x := by rw [← h.1]; exact (s_in_aM ρ x).symm
              unfold s_in at this ⊢
              rw [up_k (by decide), up_k (by decide), this, vd_k (by decide)]
            simp only [hins] at b4
            obtain ⟨l', l1, l2, l3, l4⟩ := lines_list (μ := (ltm (aM τ) (nI n) (nI m))) (g := (up (up ρ 21 (nI w) (aM τ 13 (nI w * nI 8))) 12 (nI w) (nI 0)) 17) (g' := ρ2 17) hL.2.2.1.1 hV40 hw (by rw [up_k (by decide), up_k (by decide)]; exact h.2.2.1) h.2.2.2.1 hlV hwl (by omega) b4
            have ea2 : aM ρ2 = vd (fun j => decide (j = (s_A (vd g (aM τ)) (nI n) (aM τ 13 (nI n * nI 8 + nI (c - 1))) (aM τ 14 (nI n * nI 8 + nI (c - 1))) (nI m)).2) || g j) (ltm (aM τ) (nI n) (nI m)) := by
              rw [aM_off b1 b2, aM_u _ (by decide), aM_s _ (by decide), h.1]
              funext k j
              by_cases hk : k = 12
              · subst hk
                rw [up_at]
                by_cases q : j = nI w
                · rw [if_pos q, vd_t (by rw [ew, q]; simp)]
                · rw [if_neg q]
                  by_cases q2 : g j = true
                  · rw [vd_t q2, vd_t (by rw [q2]; simp)]
                  · rw [vd_f q2, vd_f (by rw [ew]; simp [q, q2])]
              · rw [up_k hk, vd_k hk, vd_k hk]
            have hR2 : lmR τ ρ2 n m nV (fun j => decide (j = (s_A (vd g (aM τ)) (nI n) (aM τ 13 (nI n * nI 8 + nI (c - 1))) (aM τ 14 (nI n * nI 8 + nI (c - 1))) (nI m)).2) || g j) l' := by
              refine ⟨ea2, fun u hu => ?_, l1, l2, by rw [b3, l3], fun x => ?_, fun x hx => ?_⟩
              · rw [b1 20 (by decide) (by decide), up_k (by decide), up_k (by decide)]; exact h.2.1 u hu
              · rw [l4, h.2.2.2.2.2.1]
                constructor
                · rintro (rfl | ⟨x1, x2⟩)
                  · exact ⟨hw, by rw [ew]; simp⟩
                  · exact ⟨x1, by simp [x2]⟩
                · rintro ⟨x1, x2⟩
                  rw [Bool.or_eq_true, decide_eq_true_eq, ew] at x2
                  rcases x2 with q | q
                  · exact Or.inl (nI_inj (by omega) (by omega) q)
                  · exact Or.inr ⟨x1, q⟩
              · rw [b1 21 (by decide) (by decide), up_k (by decide), up_at]
                rcases (l4 x).mp hx with e | e
                · subst e; rw [if_pos rfl]
                · have hxV := hlV x e
                  have hxw : x ≠ w := fun z => hwl (z ▸ e)
                  rw [if_neg (nI_ne (a := x) (b := w) (by omega) (by omega) hxw)]
                  exact h.2.2.2.2.2.2 x e
            have ec2 : ∀ j, ρ2 13 j = aM τ 13 j := fun j => by rw [b1 13 (by decide) (by decide), up_k (by decide), up_k (by decide)]; exact ec13 j
            have ec3 : ∀ j, ρ2 14 j = aM τ 14 j := fun j => by rw [b1 14 (by decide) (by decide), up_k (by decide), up_k (by decide)]; exact ec14 j
            have hag := k_X7_againstOfB (τ := ρ2) (v := nI n) (s := aM τ 13 (nI n * nI 8 + nI (c - 1))) (a := aM τ 14 (nI n * nI 8 + nI (c - 1))) (b := nI m) (by rw [ea2]; exact iA_vd hL _) hinn hS hAt
            rw [ea2, s_A_ltm hI hn hc hc1 hc8] at hag
            refine tr_aload_n eX7_late_291 rfl ?_
            refine tr_iload_n eX7_late_292 rfl ?_
            refine tr_aload_n eX7_late_293 rfl ?_
            refine tr_getR eX7_late_294 fk_X7_53 rfl rfl ?_
            refine tr_iload_n eX7_late_297 rfl ?_
            refine tr_iald eX7_late_298 rfl hei ?_
            try simp (disch := decide) only [up_k, up_s, up_f, s_set_0]
            rw [ec2]
            refine tr_aload_n eX7_late_299 rfl ?_
            refine tr_getR eX7_late_300 fk_X7_56 rfl rfl ?_
            refine tr_iload_n eX7_late_303 rfl ?_
            refine tr_iald eX7_late_304 rfl hei ?_
            try simp (disch := decide) only [up_k, up_s, up_f, s_set_0]
            rw [ec3]
            refine tr_iload_n eX7_late_305 rfl ?_
            refine tr_ce4 eX7_late_306 zv_X7_againstOf zi_X7_againstOf lk_X7_165 ⟨rfl, by decide, by decide⟩ rfl rfl rfl hag ?_
            try simp (disch := decide) only [up_k, up_s, up_f, s_set_0]
            refine tr_istore eX7_late_309 (by decide) rfl ?_
            refine tr_goto eX7_late_311 ?_
            rw [ltG, if_pos hcn]
            refine TT.fg [7] (ih l' (fun j => decide (j = (s_A (vd g (aM τ)) (nI n) (aM τ 13 (nI n * nI 8 + nI (c - 1))) (aM τ 14 (nI n * nI 8 + nI (c - 1))) (nI m)).2) || g j) _ (by omega) hg2 (fun u hu q => ?_) ⟨by rw [aM_f0_24]; exact hR2.1, fun u hu => by rw [up_k (by decide)]; exact hR2.2.1 u hu, by rw [up_k (by decide)]; exact hR2.2.2.1, hR2.2.2.2.1, by rw [up_f (by decide)]; exact hR2.2.2.2.2.1, hR2.2.2.2.2.2.1, fun x hx => by rw [up_k (by decide)]; exact hR2.2.2.2.2.2.2 x hx⟩ up_s)
            rw [Bool.or_eq_true, decide_eq_true_eq, ew] at q
            rcases q with q | q
            · rw [q]; exact hw0
            · exact hgp u hu q
          · skip
            try first | replace h190 := bi_0 h190 | replace h190 := bi_n h190
            exact absurd h190 hnb
        · skip
          refine tr_iload eX7_late_178 rfl ?_
          refine tr_iconst eX7_late_180 (nI 5) ci_5 ?_
          refine tr_icmp_ne eX7_late_181 (fun h181 => ?_) (fun h181 => ?_)
          · skip
            exact absurd hq (fun z => z.elim h175 h181)
          · skip
            refine tr_aload_n eX7_late_184 rfl ?_
            refine tr_iload eX7_late_185 rfl ?_
            refine tr_ce1 eX7_late_187 zv_X7_hasBegun zi_X7_hasBegun lk_X7_175 ⟨rfl, by decide, by decide⟩ rfl rfl rfl (k_X7_hasBegun hinw) ?_
            refine tr_if_eq eX7_late_190 (fun h190 => ?_) (fun h190 => ?_)
            · skip
              try first | replace h190 := bi_0 h190 | replace h190 := bi_n h190
              refine tr_aload_n eX7_late_260 rfl ?_
              refine tr_getR eX7_late_261 fk_X7_74 rfl rfl ?_
              refine tr_iload eX7_late_264 rfl ?_
              refine tr_aload_n eX7_late_266 rfl ?_
              refine tr_getR eX7_late_267 fk_X7_53 rfl rfl ?_
              refine tr_bipush eX7_late_270 (nI 8) (by decide) ?_
              refine tr_iload eX7_late_272 rfl ?_
              refine tr_imulC eX7_late_274 ?_
              refine tr_iald eX7_late_275 rfl (in_slot0 hinw) ?_
              rw [ec13]
              refine tr_iast eX7_late_276 rfl hinw ?_
              refine tr_aload_n eX7_late_277 rfl ?_
              refine tr_getR eX7_late_278 fk_X7_50 rfl rfl ?_
              refine tr_iload eX7_late_281 rfl ?_
              refine tr_iconst eX7_late_283 (nI 0) ci_0 ?_
              refine tr_iast eX7_late_284 rfl hinw ?_
              refine tr_aload_n eX7_late_285 rfl ?_
              refine tr_iload eX7_late_286 rfl ?_
              refine tr_cv1 (r0 := none) (σ1 := fun _ _ => 0) eX7_late_288 zv_X7_lines zi_X7_lines lk_X7_194 ⟨rfl, by decide, by decide⟩ rfl rfl rfl hlines (fun r' ρ2 hq2 => ?_)
              try simp (disch := decide) only [up_k, up_s, up_f, s_set_0]
              obtain ⟨rfl, b1, b2, b3, b4⟩ := hq2
              have hins : ∀ x, s_in (up (up ρ 21 (nI w) (aM τ 13 (nI w * nI 8))) 12 (nI w) (nI 0)) x = s_in (ltm (aM τ) (nI n) (nI m)) x := fun x => by
                have : s_in ρ x = s_in (vd g (ltm (aM τ) (nI n) (nI m))) x := by rw [← h.1]; exact (s_in_aM ρ x).symm
                unfold s_in at this ⊢
                rw [up_k (by decide), up_k (by decide), this, vd_k (by decide)]
              simp only [hins] at b4
              obtain ⟨l', l1, l2, l3, l4⟩ := lines_list (μ := (ltm (aM τ) (nI n) (nI m))) (g := (up (up ρ 21 (nI w) (aM τ 13 (nI w * nI 8))) 12 (nI w) (nI 0)) 17) (g' := ρ2 17) hL.2.2.1.1 hV40 hw (by rw [up_k (by decide), up_k (by decide)]; exact h.2.2.1) h.2.2.2.1 hlV hwl (by omega) b4
              have ea2 : aM ρ2 = vd (fun j => decide (j = (s_A (vd g (aM τ)) (nI n) (aM τ 13 (nI n * nI 8 + nI (c - 1))) (aM τ 14 (nI n * nI 8 + nI (c - 1))) (nI m)).2) || g j) (ltm (aM τ) (nI n) (nI m)) := by
                rw [aM_off b1 b2, aM_u _ (by decide), aM_s _ (by decide), h.1]
                funext k j
                by_cases hk : k = 12
                · subst hk
                  rw [up_at]
                  by_cases q : j = nI w
                  · rw [if_pos q, vd_t (by rw [ew, q]; simp)]
                  · rw [if_neg q]
                    by_cases q2 : g j = true
                    · rw [vd_t q2, vd_t (by rw [q2]; simp)]
                    · rw [vd_f q2, vd_f (by rw [ew]; simp [q, q2])]
                · rw [up_k hk, vd_k hk, vd_k hk]
              have hR2 : lmR τ ρ2 n m nV (fun j => decide (j = (s_A (vd g (aM τ)) (nI n) (aM τ 13 (nI n * nI 8 + nI (c - 1))) (aM τ 14 (nI n * nI 8 + nI (c - 1))) (nI m)).2) || g j) l' := by
                refine ⟨ea2, fun u hu => ?_, l1, l2, by rw [b3, l3], fun x => ?_, fun x hx => ?_⟩
                · rw [b1 20 (by decide) (by decide), up_k (by decide), up_k (by decide)]; exact h.2.1 u hu
                · rw [l4, h.2.2.2.2.2.1]
                  constructor
                  · rintro (rfl | ⟨x1, x2⟩)
                    · exact ⟨hw, by rw [ew]; simp⟩
                    · exact ⟨x1, by simp [x2]⟩
                  · rintro ⟨x1, x2⟩
                    rw [Bool.or_eq_true, decide_eq_true_eq, ew] at x2
                    rcases x2 with q | q
                    · exact Or.inl (nI_inj (by omega) (by omega) q)
                    · exact Or.inr ⟨x1, q⟩
                · rw [b1 21 (by decide) (by decide), up_k (by decide), up_at]
                  rcases (l4 x).mp hx with e | e
                  · subst e; rw [if_pos rfl]
                  · have hxV := hlV x e
                    have hxw : x ≠ w := fun z => hwl (z ▸ e)
                    rw [if_neg (nI_ne (a := x) (b := w) (by omega) (by omega) hxw)]
                    exact h.2.2.2.2.2.2 x e
              have ec2 : ∀ j, ρ2 13 j = aM τ 13 j := fun j => by rw [b1 13 (by decide) (by decide), up_k (by decide), up_k (by decide)]; exact ec13 j
              have ec3 : ∀ j, ρ2 14 j = aM τ 14 j := fun j => by rw [b1 14 (by decide) (by decide), up_k (by decide), up_k (by decide)]; exact ec14 j
              have hag := k_X7_againstOfB (τ := ρ2) (v := nI n) (s := aM τ 13 (nI n * nI 8 + nI (c - 1))) (a := aM τ 14 (nI n * nI 8 + nI (c - 1))) (b := nI m) (by rw [ea2]; exact iA_vd hL _) hinn hS hAt
              rw [ea2, s_A_ltm hI hn hc hc1 hc8] at hag
              refine tr_aload_n eX7_late_291 rfl ?_
              refine tr_iload_n eX7_late_292 rfl ?_
              refine tr_aload_n eX7_late_293 rfl ?_
              refine tr_getR eX7_late_294 fk_X7_53 rfl rfl ?_
              refine tr_iload_n eX7_late_297 rfl ?_
              refine tr_iald eX7_late_298 rfl hei ?_
              try simp (disch := decide) only [up_k, up_s, up_f, s_set_0]
              rw [ec2]
              refine tr_aload_n eX7_late_299 rfl ?_
              refine tr_getR eX7_late_300 fk_X7_56 rfl rfl ?_
              refine tr_iload_n eX7_late_303 rfl ?_
              refine tr_iald eX7_late_304 rfl hei ?_
              try simp (disch := decide) only [up_k, up_s, up_f, s_set_0]
              rw [ec3]
              refine tr_iload_n eX7_late_305 rfl ?_
              refine tr_ce4 eX7_late_306 zv_X7_againstOf zi_X7_againstOf lk_X7_165 ⟨rfl, by decide, by decide⟩ rfl rfl rfl hag ?_
              try simp (disch := decide) only [up_k, up_s, up_f, s_set_0]
              refine tr_istore eX7_late_309 (by decide) rfl ?_
              refine tr_goto eX7_late_311 ?_
              rw [ltG, if_pos hcn]
              refine TT.fg [7] (ih l' (fun j => decide (j = (s_A (vd g (aM τ)) (nI n) (aM τ 13 (nI n * nI 8 + nI (c - 1))) (aM τ 14 (nI n * nI 8 + nI (c - 1))) (nI m)).2) || g j) _ (by omega) hg2 (fun u hu q => ?_) ⟨by rw [aM_f0_24]; exact hR2.1, fun u hu => by rw [up_k (by decide)]; exact hR2.2.1 u hu, by rw [up_k (by decide)]; exact hR2.2.2.1, hR2.2.2.2.1, by rw [up_f (by decide)]; exact hR2.2.2.2.2.1, hR2.2.2.2.2.2.1, fun x hx => by rw [up_k (by decide)]; exact hR2.2.2.2.2.2.2 x hx⟩ up_s)
              rw [Bool.or_eq_true, decide_eq_true_eq, ew] at q
              rcases q with q | q
              · rw [q]; exact hw0
              · exact hgp u hu q
            · skip
              try first | replace h190 := bi_0 h190 | replace h190 := bi_n h190
              exact absurd h190 hnb
    · rw [ltG_stop hcn]
      exact ex_X7_late hI hn hc hc1 hc8 hL hg hgp h h24 hcn
theorem lp_X7_late_63 {τ : tSt} {nV : Nat} {v t : Int32} (hV : τ 0 (nI 6) = nI nV) (hV40 : nV ≤ 40) {Q : Option Int32 → tSt → Prop} (kk : ∀ ρ, (∀ k, k ≠ 20 → ρ k = τ k) → (∀ u, u < nV → ρ 20 (nI u) = τ 12 (nI u)) → TT mX7_late 89 [.ref 0, .int v, .int t, .null, .null, .null, .null, .null, .null, .null] [] ρ Q) : ∀ (f i : Nat) (ρ : tSt), i + f = nV → (∀ k, k ≠ 20 → ρ k = τ k) → (∀ u, u < i → ρ 20 (nI u) = τ 12 (nI u)) → TT mX7_late 63 [.ref 0, .int v, .int t, .int (nI i), .null, .null, .null, .null, .null, .null] [] ρ Q := by
  intro f
  induction f with
  | zero =>
    intro i ρ hi hk h20
    have hVρ : ρ 0 (nI 6) = nI nV := by rw [hk 0 (by decide)]; exact hV
    have ei : i = nV := by omega
    subst ei
    refine tr_iload_n eX7_late_63 rfl ?_
    refine tr_aload_n eX7_late_64 rfl ?_
    refine tr_getI eX7_late_65 fk_X7_89 rfl rfl ?_
    refine tr_icmp_ge eX7_late_68 (fun h68 => ?_) (fun h68 => ?_)
    · skip
      exact TT.fg [3] (kk ρ hk h20)
    · skip
      exact absurd (lt_of hVρ (by omega) (by omega) h68) (by omega)
  | succ f ih =>
    intro i ρ hi hk h20
    have hVρ : ρ 0 (nI 6) = nI nV := by rw [hk 0 (by decide)]; exact hV
    have hin : vp_in (nI i) 40 := vp_in_nI (by omega) (by decide)
    refine tr_iload_n eX7_late_63 rfl ?_
    refine tr_aload_n eX7_late_64 rfl ?_
    refine tr_getI eX7_late_65 fk_X7_89 rfl rfl ?_
    refine tr_icmp_ge eX7_late_68 (fun h68 => ?_) (fun h68 => ?_)
    · skip
      exact absurd (ge_of hVρ (by omega) (by omega) h68) (by omega)
    · skip
      refine tr_aload_n eX7_late_71 rfl ?_
      refine tr_getR eX7_late_72 fk_X7_71 rfl rfl ?_
      refine tr_iload_n eX7_late_75 rfl ?_
      refine tr_aload_n eX7_late_76 rfl ?_
      refine tr_getR eX7_late_77 fk_X7_50 rfl rfl ?_
      refine tr_iload_n eX7_late_80 rfl ?_
      refine tr_iald eX7_late_81 rfl (by first | with_reducible assumption | with_reducible exact in_slot (by with_reducible assumption) (by with_reducible assumption) | with_reducible exact in_row _ (by decide) (by with_reducible assumption) | with_reducible exact in_row0 (by with_reducible assumption) | with_reducible exact in_slot0 (by with_reducible assumption) | (simp (disch := decide) only [up_k, up_s, up_f] <;> with_reducible assumption)) ?_
      refine tr_iast eX7_late_82 rfl (by first | with_reducible assumption | with_reducible exact in_slot (by with_reducible assumption) (by with_reducible assumption) | with_reducible exact in_row _ (by decide) (by with_reducible assumption) | with_reducible exact in_row0 (by with_reducible assumption) | with_reducible exact in_slot0 (by with_reducible assumption) | (simp (disch := decide) only [up_k, up_s, up_f] <;> with_reducible assumption)) ?_
      refine tr_iinc eX7_late_83 _ (by first | with_reducible exact inc_n _ | with_reducible exact ix_s _ _ | with_reducible rfl) rfl (by decide) rfl ?_
      refine tr_goto eX7_late_86 ?_
      refine ih (i + 1) _ (by omega) (fun k q => by rw [up_k q]; exact hk k q) (fun u hu => ?_)
      rw [up_at]
      by_cases q : u = i
      · subst q; rw [if_pos rfl, hk 12 (by decide)]
      · rw [if_neg (nI_ne (by omega) (by omega) q)]; exact h20 u (by omega)
