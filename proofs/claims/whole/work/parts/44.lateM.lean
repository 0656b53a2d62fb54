/-! LATE of the model -/
theorem s_set_21 (σ : tSt) (v s a b : Int32) : s_set σ v s a b 21 = σ 21 := rfl
theorem aM_k0 {τ ρ : tSt} (h : ∀ k, k ≠ 0 → k ≤ 16 → ρ k = τ k) (h0 : ρ 0 = τ 0) : aM ρ = aM τ := by
  funext k j
  unfold aM
  rw [h0]
  by_cases hk : k = 0
  · rw [if_pos hk, if_pos hk]
  · rw [if_neg hk, if_neg hk]
    by_cases h16 : k ≤ 16
    · rw [if_pos h16, if_pos h16, h k hk h16]
    · rw [if_neg h16, if_neg h16]
theorem lp_X7_late_224 {M : tSt} {nV : Nat} (hV40 : nV ≤ 40) : ∀ (f i : Nat) (ρ : tSt), i + f = nV → ρ 0 (nI 6) = nI nV → (∀ k, k ≠ 12 → aM ρ k = M k) → (∀ j, (∀ u, i ≤ u → u < nV → j ≠ nI u) → aM ρ 12 j = M 12 j) → (∀ u, u < nV → ρ 20 (nI u) = M 12 (nI u)) → TT mX7_late 224 [.ref 0, .null, .null, .null, .null, .null, .null, .null, .null, .int (nI i)] [] ρ (QM (s_rf M (nI 9))) := by
  intro f
  induction f with
  | zero =>
    intro i ρ hi hV hk h12 h20
    refine tr_iload eX7_late_224 rfl ?_
    refine tr_aload_n eX7_late_226 rfl ?_
    refine tr_getI eX7_late_227 fk_X7_89 rfl rfl ?_
    refine tr_icmp_ge eX7_late_230 (fun h230 => ?_) (fun h230 => ?_)
    · skip
      refine tr_aload_n eX7_late_253 rfl ?_
      refine tr_bipush eX7_late_254 (nI 9) (by decide) ?_
      refine tr_ce1 eX7_late_256 zv_X7_refuse zi_X7_refuse lk_X7_92 ⟨rfl, by decide, by decide⟩ rfl rfl rfl k_X7_refuse ?_
      try simp (disch := decide) only [up_k, up_s, up_f, s_set_0]
      refine tr_ret eX7_late_259 rfl rfl ?_
      refine ⟨rfl, ?_⟩
      rw [aM_f0_0]
      have e : aM ρ = M := by
        funext k j
        by_cases q : k = 12
        · subst q; exact h12 j (fun u a b => absurd a (by omega))
        · rw [hk k q]
      rw [e]; rfl
    · skip
      exact absurd (lt_of hV (by omega) (by omega) h230) (by omega)
  | succ f ih =>
    intro i ρ hi hV hk h12 h20
    have hin : vp_in (nI i) 40 := vp_in_nI (by omega) (by decide)
    refine tr_iload eX7_late_224 rfl ?_
    refine tr_aload_n eX7_late_226 rfl ?_
    refine tr_getI eX7_late_227 fk_X7_89 rfl rfl ?_
    refine tr_icmp_ge eX7_late_230 (fun h230 => ?_) (fun h230 => ?_)
    · skip
      exact absurd (ge_of hV (by omega) (by omega) h230) (by omega)
    · skip
      refine tr_aload_n eX7_late_233 rfl ?_
      refine tr_getR eX7_late_234 fk_X7_50 rfl rfl ?_
      refine tr_iload eX7_late_237 rfl ?_
      refine tr_aload_n eX7_late_239 rfl ?_
      refine tr_getR eX7_late_240 fk_X7_71 rfl rfl ?_
      refine tr_iload eX7_late_243 rfl ?_
      refine tr_iald eX7_late_245 rfl (by first | with_reducible assumption | with_reducible exact in_slot (by with_reducible assumption) (by with_reducible assumption) | with_reducible exact in_row _ (by decide) (by with_reducible assumption) | with_reducible exact in_row0 (by with_reducible assumption) | with_reducible exact in_slot0 (by with_reducible assumption) | (simp (disch := decide) only [up_k, up_s, up_f] <;> with_reducible assumption)) ?_
      refine tr_iast eX7_late_246 rfl (by first | with_reducible assumption | with_reducible exact in_slot (by with_reducible assumption) (by with_reducible assumption) | with_reducible exact in_row _ (by decide) (by with_reducible assumption) | with_reducible exact in_row0 (by with_reducible assumption) | with_reducible exact in_slot0 (by with_reducible assumption) | (simp (disch := decide) only [up_k, up_s, up_f] <;> with_reducible assumption)) ?_
      refine tr_iinc eX7_late_247 _ (by first | with_reducible exact inc_n _ | with_reducible exact ix_s _ _ | with_reducible rfl) rfl (by decide) rfl ?_
      refine tr_goto eX7_late_250 ?_
      refine ih (i + 1) _ (by omega) (by rw [up_k (by decide)]; exact hV) (fun k q => ?_) (fun j hj => ?_) (fun u hu => by rw [up_k (by decide)]; exact h20 u hu)
      · rw [aM_u _ (by decide), up_k q]; exact hk k q
      · rw [aM_u _ (by decide), up_at]
        by_cases q : j = nI i
        · rw [if_pos q, q]; exact h20 i (by omega)
        · rw [if_neg q]
          refine h12 j (fun u a b => ?_)
          by_cases q2 : u = i
          · rw [q2]; exact q
          · exact hj u (by omega) b
theorem lp_X7_late_322 {nS nP nC nV : Nat} {l : List Nat} {F : Int32 → Int32} (h40 : l.length ≤ 40) (hF1 : ∀ x ∈ l, ¬ F (nI x) = -1) : ∀ (f i n : Nat) (ρ : tSt), i + f = l.length → n ≤ i → iA (aM ρ) nS nP nC nV → ρ 0 (nI 26) = nI l.length → LNS (ρ 17) l → (∀ x ∈ l, ρ 21 (nI x) = F (nI x)) → (∀ x ∈ l, x < nV ∧ nI 2 < aM ρ 11 (nI x)) → aM ρ 0 (nI 9) = nI n → TT mX7_late 322 [.ref 0, .null, .null, .null, .null, .null, .null, .int (nI i), .null, .null] [] ρ (QM (s_gr (ltB F (l.drop i) (aM ρ)) (ltB F (l.drop i) (aM ρ) 0 (nI 9)))) := by
  intro f
  induction f with
  | zero =>
    intro i n ρ hi hni hI hn hln hF hx h9
    rw [List.drop_eq_nil_of_le (by omega)]
    refine tr_iload eX7_late_322 rfl ?_
    refine tr_aload_n eX7_late_324 rfl ?_
    refine tr_getI eX7_late_325 fk_X7_188 rfl rfl ?_
    refine tr_icmp_ge eX7_late_328 (fun h328 => ?_) (fun h328 => ?_)
    · skip
      refine tr_aload_n eX7_late_434 rfl ?_
      refine tr_aload_n eX7_late_435 rfl ?_
      refine tr_getI eX7_late_436 fk_X7_219 rfl rfl ?_
      refine tr_ce1 eX7_late_439 zv_X7_gives zi_X7_gives lk_X7_96 ⟨rfl, by decide, by decide⟩ rfl rfl rfl k_X7_gives ?_
      try simp (disch := decide) only [up_k, up_s, up_f, s_set_0]
      refine tr_ret eX7_late_442 rfl rfl ?_
      exact ⟨by rw [ltB]; show _ = some (aM ρ 0 (nI 9)); rw [aM_9], by rw [aM_f0_0]; rfl⟩
    · skip
      exact absurd (lt_of hn (by omega) (by omega) h328) (by omega)
  | succ f ih =>
    intro i n ρ hi hni hI hn hln hF hx h9
    have hil : i < l.length := by omega
    have hin : vp_in (nI i) 40 := vp_in_nI (by omega) (by decide)
    have em := lns_at hln hil
    obtain ⟨hxV, hxk⟩ := hx _ (List.getElem_mem hil)
    have hV40 := hI.1.2.2.2.2
    have hv : vp_in (nI l[i]) 40 := vp_in_nI (by omega) (by decide)
    obtain ⟨hI2, n', hn', h9'⟩ := ltS_ok (F := F) hI hxV hxk h9 (by omega)
    obtain ⟨xa, xb, e1, e2, hab, hb⟩ := hI.2.2.1.1.io hxV
    rw [s_in_aM] at e1
    rw [s_out_aM] at e2
    have hio : s_in ρ (nI l[i]) < s_out ρ (nI l[i]) := by rw [e1, e2]; exact (nI_ltI (by omega) (by omega)).mpr hab
    have hb' := k_X7_bestOfA (a := s_in ρ (nI l[i])) hI hv hio
    have h34 : ρ 0 (nI 34) = nI n := by rw [← aM_9 ρ]; exact h9
    have hn40 : vp_in (nI n) 40 := vp_in_nI (by omega) (by decide)
    have e21 := hF _ (List.getElem_mem hil)
    have hFm := hF1 _ (List.getElem_mem hil)
    refine tr_iload eX7_late_322 rfl ?_
    refine tr_aload_n eX7_late_324 rfl ?_
    refine tr_getI eX7_late_325 fk_X7_188 rfl rfl ?_
    refine tr_icmp_ge eX7_late_328 (fun h328 => ?_) (fun h328 => ?_)
    · skip
      exact absurd (ge_of hn (by omega) (by omega) h328) (by omega)
    · skip
      refine tr_aload_n eX7_late_331 rfl ?_
      refine tr_getR eX7_late_332 fk_X7_62 rfl rfl ?_
      refine tr_iload eX7_late_335 rfl ?_
      refine tr_iald eX7_late_337 rfl (by first | with_reducible assumption | with_reducible exact in_slot (by with_reducible assumption) (by with_reducible assumption) | with_reducible exact in_row _ (by decide) (by with_reducible assumption) | with_reducible exact in_row0 (by with_reducible assumption) | with_reducible exact in_slot0 (by with_reducible assumption) | (simp (disch := decide) only [up_k, up_s, up_f] <;> with_reducible assumption)) ?_
      rw [em]
      refine tr_istore eX7_late_338 (by decide) rfl ?_
      refine tr_aload_n eX7_late_340 rfl ?_
      refine tr_iload eX7_late_341 rfl ?_
      refine tr_aload_n eX7_late_343 rfl ?_
      refine tr_iload eX7_late_344 rfl ?_
      refine tr_ce1 eX7_late_346 zv_X7_inOf zi_X7_inOf lk_X7_119 ⟨rfl, by decide, by decide⟩ rfl rfl rfl (k_X7_inOf hv) ?_
      refine tr_aload_n eX7_late_349 rfl ?_
      refine tr_iload eX7_late_350 rfl ?_
      refine tr_ce1 eX7_late_352 zv_X7_outOf zi_X7_outOf lk_X7_178 ⟨rfl, by decide, by decide⟩ rfl rfl rfl (k_X7_outOf hv) ?_
      refine tr_cv3 (r0 := none) (σ1 := fun _ _ => 0) eX7_late_355 zv_X7_bestOf zi_X7_bestOf lk_X7_198 ⟨rfl, by decide, by decide⟩ rfl rfl rfl hb' (fun r' ρ1 hq => ?_)
      try simp (disch := decide) only [up_k, up_s, up_f, s_set_0]
      obtain ⟨rfl, z, rfl⟩ := hq
      have ea : aM (up ρ 0 (nI 24) z) = aM ρ := aM_f0_24 ρ z
      refine tr_istore eX7_late_358 (by decide) rfl ?_
      refine tr_iload eX7_late_360 rfl ?_
      refine tr_iconst eX7_late_362 (-1) ci_m1 ?_
      refine tr_icmp_eq eX7_late_363 (fun h363 => ?_) (fun h363 => ?_)
      · skip
        refine tr_iload eX7_late_386 rfl ?_
        refine tr_iconst eX7_late_388 (-1) ci_m1 ?_
        refine tr_icmp_eq eX7_late_389 (fun h389 => ?_) (fun h389 => ?_)
        · skip
          
          refine tr_aload_n eX7_late_407 rfl ?_
          refine tr_getR eX7_late_408 fk_X7_77 rfl rfl ?_
          refine tr_aload_n eX7_late_411 rfl ?_
          refine tr_getI eX7_late_412 fk_X7_219 rfl rfl ?_
          try simp (disch := decide) only [up_k, up_s, up_f, s_set_0]
          first | rw [up_f (by decide), h34] | rw [s_set_0, up_f (by decide), h34] | rw [h34]
          refine tr_iload eX7_late_415 rfl ?_
          refine tr_iast eX7_late_417 rfl hn40 ?_
          refine tr_aload_n eX7_late_418 rfl ?_
          refine tr_dup eX7_late_419 rfl ?_
          refine tr_getI eX7_late_420 fk_X7_219 rfl rfl ?_
          try simp (disch := decide) only [up_k, up_s, up_f, s_set_0]
          try rw [h34]
          try rw [up_k (by decide), up_f (by decide), h34]
          try rw [up_k (by decide), s_set_0, up_f (by decide), h34]
          refine tr_iconst eX7_late_423 (nI 1) ci_1 ?_
          refine tr_iadd eX7_late_424 ?_
          rw [nI_add]
          refine tr_put eX7_late_425 fp_X7_219 rfl rfl ?_
          refine tr_iinc eX7_late_428 _ (by first | with_reducible exact inc_n _ | with_reducible exact ix_s _ _ | with_reducible rfl) rfl (by decide) rfl ?_
          refine tr_goto eX7_late_431 ?_
          have hq : ¬ s_B (aM ρ) (nI l[i]) (s_in ρ (nI l[i])) = F (nI l[i]) := fun q => hFm (by rw [← q]; exact h363)
          have eρ : aM (up (up (up ρ 0 (nI 24) z) 16 (nI n) (nI l[i])) 0 (nI 34) (nI (n + 1))) = ltS F (aM ρ) (nI l[i]) := by
            rw [ltS, if_neg (by rw [s_in_aM]; exact hq), ltP, s_in_aM, s_out_aM, if_pos h363]
            rw [aM_f0_34, aM_u _ (by decide), ea, chg_eq h9]
          rw [drop_cons hil, ltB]
          rw [← eρ] at hI2 h9' ⊢
          refine TT.fg [8, 9] (ih (i + 1) n' _ (by omega) (by omega) hI2 ?_ ?_ ?_ ?_ h9')
          · rw [up_f (by decide), up_k (by decide), up_f (by decide)]; exact hn
          · rw [up_k (by decide), up_k (by decide), up_k (by decide)]; exact hln
          · exact fun x hx => by rw [up_k (by decide), up_k (by decide), up_k (by decide)]; exact hF x hx
          · exact fun x hx2 => ⟨(hx x hx2).1, by rw [eρ, ltS_11]; exact (hx x hx2).2⟩
        · skip
          exact absurd h363 h389
      · skip
        refine tr_aload_n eX7_late_366 rfl ?_
        refine tr_iload eX7_late_367 rfl ?_
        refine tr_iload eX7_late_369 rfl ?_
        refine tr_aload_n eX7_late_371 rfl ?_
        refine tr_iload eX7_late_372 rfl ?_
        refine tr_ce1 eX7_late_374 zv_X7_inOf zi_X7_inOf lk_X7_119 ⟨rfl, by decide, by decide⟩ rfl rfl rfl (show CT mX7_inOf _ _ (PE (some (s_in ρ (nI l[i]))) _) from k_X7_inOf (σ := up ρ 0 (nI 24) z) hv) ?_
        try simp (disch := decide) only [up_k, up_s, up_f, s_set_0]
        refine tr_aload_n eX7_late_377 rfl ?_
        refine tr_iload eX7_late_378 rfl ?_
        refine tr_ce1 eX7_late_380 zv_X7_outOf zi_X7_outOf lk_X7_178 ⟨rfl, by decide, by decide⟩ rfl rfl rfl (show CT mX7_outOf _ _ (PE (some (s_out ρ (nI l[i]))) _) from k_X7_outOf (σ := up ρ 0 (nI 24) z) hv) ?_
        try simp (disch := decide) only [up_k, up_s, up_f, s_set_0]
        refine tr_ce4 eX7_late_383 zv_X7_sets zi_X7_sets lk_X7_184 ⟨rfl, by decide, by decide⟩ rfl rfl rfl (k_X7_sets hv) ?_
        try simp (disch := decide) only [up_k, up_s, up_f, s_set_0]
        refine tr_iload eX7_late_386 rfl ?_
        refine tr_iconst eX7_late_388 (-1) ci_m1 ?_
        refine tr_icmp_eq eX7_late_389 (fun h389 => ?_) (fun h389 => ?_)
        · skip
          exact absurd h389 h363
        · skip
          
          refine tr_iload eX7_late_392 rfl ?_
          refine tr_aload_n eX7_late_394 rfl ?_
          refine tr_getR eX7_late_395 fk_X7_74 rfl rfl ?_
          refine tr_iload eX7_late_398 rfl ?_
          refine tr_iald eX7_late_400 rfl (by first | with_reducible assumption | with_reducible exact in_slot (by with_reducible assumption) (by with_reducible assumption) | with_reducible exact in_row _ (by decide) (by with_reducible assumption) | with_reducible exact in_row0 (by with_reducible assumption) | with_reducible exact in_slot0 (by with_reducible assumption) | (simp (disch := decide) only [up_k, up_s, up_f] <;> with_reducible assumption)) ?_
          try simp (disch := decide) only [up_k, up_s, up_f, s_set_0]
          try rw [up_k (by decide)]
          try rw [s_set_21]
          try rw [up_k (by decide)]
          rw [e21]
          refine tr_icmp_ne eX7_late_401 (fun h401 => ?_) (fun h401 => ?_)
          · skip
            refine tr_aload_n eX7_late_407 rfl ?_
            refine tr_getR eX7_late_408 fk_X7_77 rfl rfl ?_
            refine tr_aload_n eX7_late_411 rfl ?_
            refine tr_getI eX7_late_412 fk_X7_219 rfl rfl ?_
            try simp (disch := decide) only [up_k, up_s, up_f, s_set_0]
            first | rw [up_f (by decide), h34] | rw [s_set_0, up_f (by decide), h34] | rw [h34]
            refine tr_iload eX7_late_415 rfl ?_
            refine tr_iast eX7_late_417 rfl hn40 ?_
            refine tr_aload_n eX7_late_418 rfl ?_
            refine tr_dup eX7_late_419 rfl ?_
            refine tr_getI eX7_late_420 fk_X7_219 rfl rfl ?_
            try simp (disch := decide) only [up_k, up_s, up_f, s_set_0]
            try rw [h34]
            try rw [up_k (by decide), up_f (by decide), h34]
            try rw [up_k (by decide), s_set_0, up_f (by decide), h34]
            refine tr_iconst eX7_late_423 (nI 1) ci_1 ?_
            refine tr_iadd eX7_late_424 ?_
            rw [nI_add]
            refine tr_put eX7_late_425 fp_X7_219 rfl rfl ?_
            refine tr_iinc eX7_late_428 _ (by first | with_reducible exact inc_n _ | with_reducible exact ix_s _ _ | with_reducible rfl) rfl (by decide) rfl ?_
            refine tr_goto eX7_late_431 ?_
            have hq : ¬ s_B (aM ρ) (nI l[i]) (s_in ρ (nI l[i])) = F (nI l[i]) := h401
            have eρ : aM (up (up (s_set (up ρ 0 (nI 24) z) (nI l[i]) (s_B (aM ρ) (nI l[i]) (s_in ρ (nI l[i]))) (s_in ρ (nI l[i])) (s_out ρ (nI l[i]))) 16 (nI n) (nI l[i])) 0 (nI 34) (nI (n + 1))) = ltS F (aM ρ) (nI l[i]) := by
              rw [ltS, if_neg (by rw [s_in_aM]; exact hq), ltP, s_in_aM, s_out_aM, if_neg h363]
              rw [aM_f0_34, aM_u _ (by decide), aM_set, ea, chg_eq (by rw [s_set_0]; exact h9)]
            rw [drop_cons hil, ltB]
            rw [← eρ] at hI2 h9' ⊢
            refine TT.fg [8, 9] (ih (i + 1) n' _ (by omega) (by omega) hI2 ?_ ?_ ?_ ?_ h9')
            · rw [up_f (by decide), up_k (by decide), s_set_0, up_f (by decide)]; exact hn
            · rw [up_k (by decide), up_k (by decide), s_set_17, up_k (by decide)]; exact hln
            · exact fun x hx => by rw [up_k (by decide), up_k (by decide), s_set_21, up_k (by decide)]; exact hF x hx
            · exact fun x hx2 => ⟨(hx x hx2).1, by rw [eρ, ltS_11]; exact (hx x hx2).2⟩
          · skip
            refine tr_goto eX7_late_404 ?_
            refine tr_iinc eX7_late_428 _ (by first | with_reducible exact inc_n _ | with_reducible exact ix_s _ _ | with_reducible rfl) rfl (by decide) rfl ?_
            refine tr_goto eX7_late_431 ?_
            have hq : s_B (aM ρ) (nI l[i]) (s_in ρ (nI l[i])) = F (nI l[i]) := h401
            have eρ : aM (s_set (up ρ 0 (nI 24) z) (nI l[i]) (s_B (aM ρ) (nI l[i]) (s_in ρ (nI l[i]))) (s_in ρ (nI l[i])) (s_out ρ (nI l[i]))) = ltS F (aM ρ) (nI l[i]) := by
              rw [ltS, if_pos (by rw [s_in_aM]; exact hq), ltP, s_in_aM, s_out_aM, if_neg h363]
              rw [aM_set, ea]
            rw [drop_cons hil, ltB]
            rw [← eρ] at hI2 h9' ⊢
            refine TT.fg [8, 9] (ih (i + 1) n' _ (by omega) (by omega) hI2 ?_ ?_ ?_ ?_ h9')
            · rw [s_set_0, up_f (by decide)]; exact hn
            · rw [s_set_17, up_k (by decide)]; exact hln
            · exact fun x hx => by rw [s_set_21, up_k (by decide)]; exact hF x hx
            · exact fun x hx2 => ⟨(hx x hx2).1, by rw [eρ, ltS_11]; exact (hx x hx2).2⟩
