theorem lp_X7_search_267 {a : Int32} {C : Prop} [Decidable C] {l : List Nat} (h40 : l.length ≤ 40) (hv40 : ∀ v ∈ l, v < 40) : ∀ (f i : Nat) (τ : tSt), i + f = l.length → τ 0 (nI 26) = nI l.length → LNS (τ 17) l → TT mX7_search 267 [.ref 0, .int a, .null, .int (bi C), .int (nI i)] [] τ (fun r ρ => r = some (bi (¬ C)) ∧ aM ρ = offA (l.drop i) (aM τ) ∧ ∀ k, k ≠ 12 → ρ k = τ k) := by
  intro f
  induction f with
  | zero =>
    intro i τ hi hn hln
    refine tr_iload eX7_search_267 rfl ?_
    refine tr_aload_n eX7_search_269 rfl ?_
    refine tr_getI eX7_search_270 fk_X7_188 rfl rfl ?_
    refine tr_icmp_ge eX7_search_273 (fun h273 => ?_) (fun h273 => ?_)
    · skip
      refine tr_iload_n eX7_search_295 rfl ?_
      refine tr_if_ne eX7_search_296 (fun h296 => ?_) (fun h296 => ?_)
      · skip
        try first | replace h296 := bi_0 h296 | replace h296 := bi_n h296
        refine tr_iconst eX7_search_303 (nI 0) ci_0 ?_
        refine tr_ret eX7_search_304 rfl (by first | rfl | exact nar_bi _) ?_
        exact ⟨congrArg some (bi_f (fun q => q h296)), by rw [List.drop_eq_nil_of_le (by omega)]; rfl, fun _ _ => rfl⟩
      · skip
        try first | replace h296 := bi_0 h296 | replace h296 := bi_n h296
        refine tr_iconst eX7_search_299 (nI 1) ci_1 ?_
        refine tr_goto eX7_search_300 ?_
        refine tr_ret eX7_search_304 rfl (by first | rfl | exact nar_bi _) ?_
        exact ⟨congrArg some (bi_t h296), by rw [List.drop_eq_nil_of_le (by omega)]; rfl, fun _ _ => rfl⟩
    · skip
      exact absurd (lt_of hn (by omega) (by omega) h273) (by omega)
  | succ f ih =>
    intro i τ hi hn hln
    have hil : i < l.length := by omega
    have hin : vp_in (nI i) 40 := vp_in_nI (by omega) (by decide)
    have em := lns_at hln hil
    have hv : vp_in (nI l[i]) 40 := vp_in_nI (hv40 _ (List.getElem_mem hil)) (by decide)
    refine tr_iload eX7_search_267 rfl ?_
    refine tr_aload_n eX7_search_269 rfl ?_
    refine tr_getI eX7_search_270 fk_X7_188 rfl rfl ?_
    refine tr_icmp_ge eX7_search_273 (fun h273 => ?_) (fun h273 => ?_)
    · skip
      exact absurd (ge_of hn (by omega) (by omega) h273) (by omega)
    · skip
      refine tr_aload_n eX7_search_276 rfl ?_
      refine tr_getR eX7_search_277 fk_X7_50 rfl rfl ?_
      refine tr_aload_n eX7_search_280 rfl ?_
      refine tr_getR eX7_search_281 fk_X7_62 rfl rfl ?_
      refine tr_iload eX7_search_284 rfl ?_
      refine tr_iald eX7_search_286 rfl (by first | with_reducible assumption | with_reducible exact in_slot (by with_reducible assumption) (by with_reducible assumption) | with_reducible exact in_row _ (by decide) (by with_reducible assumption) | with_reducible exact in_row0 (by with_reducible assumption) | with_reducible exact in_slot0 (by with_reducible assumption) | (simp (disch := decide) only [up_k, up_s, up_f] <;> with_reducible assumption)) ?_
      rw [em]
      refine tr_iconst eX7_search_287 (nI 0) ci_0 ?_
      refine tr_iast eX7_search_288 rfl hv ?_
      refine tr_iinc eX7_search_289 _ (by first | with_reducible exact inc_n _ | with_reducible exact ix_s _ _ | with_reducible rfl) rfl (by decide) rfl ?_
      refine tr_goto eX7_search_292 ?_
      refine TT.post (ih (i + 1) _ (by omega) (by rw [up_k (by decide)]; exact hn) (by rw [up_k (by decide)]; exact hln)) (fun r ρ h => ⟨h.1, ?_, fun k hk => by rw [h.2.2 k hk, up_k hk]⟩)
      rw [h.2.1, aM_u _ (by decide), drop_cons hil, offA_c]
def m_0 (τ : tSt) : tSS := (1, upA (τ 18) (nI 0) (-1), 0, aM τ)
def s_RM (all : Bool) (τ : tSt) (nS : Nat) : Int32 × tSS × tBB := runA all (l_srch (aM τ)) nS 15001 (m_0 τ) (-1, τ 19)
def qSM (all : Bool) (τ : tSt) (nS : Nat) (r : Option Int32) (ρ : tSt) : Prop := ρ 0 (nI 26) = nI (l_srch (aM τ)).length ∧ LNS (ρ 17) (l_srch (aM τ)) ∧ ((l_srch (aM τ)).length = 0 → r = some (nI 1) ∧ aM ρ = aM τ ∧ ρ 0 (nI 29) = nI 0 ∧ ρ 0 (nI 30) = nI 0)
  ∧ (0 < (l_srch (aM τ)).length → r = some (bi (¬ (s_RM all τ nS).1 = nI 10)) ∧ aM ρ = offA (l_srch (aM τ)) (s_RM all τ nS).2.1.2.2.2 ∧ ρ 0 (nI 29) = nI (s_RM all τ nS).2.1.2.2.1 ∧ ρ 0 (nI 30) = (s_RM all τ nS).2.2.1 ∧ ρ 19 = (s_RM all τ nS).2.2.2)
theorem k_X7_search {all : Bool} {a : Int32} {τ : tSt} {nS nP nC nV : Nat} (hI : iA (aM τ) nS nP nC nV) (ha1 : a = bi (all = true)) : CT mX7_search [.ref 0, .int a] τ (qSM all τ nS) := by
  have hI0 := hI.1
  have hS := hI0.1.1
  rw [aM_0] at hS
  have hP := hI0.2.1.1
  rw [aM_1] at hP
  have hC := hI0.2.2.1.1
  rw [aM_2] at hC
  have hV := hI0.2.2.2.1
  rw [aM_3] at hV
  have hS24 := hI0.1.2
  have hP40 := hI0.2.1.2
  have hC20 := hI0.2.2.1.2
  have hV40 := hI0.2.2.2.2
  obtain ⟨h40, hND, hok, hpl⟩ := s_R_ok hI (upA (τ 18) (nI 0) (-1)) upA_s
  have hv40 := srch_40 hI
  refine CT.of2 3 (by decide) rfl rfl ?_
  refine tr_aload_n eX7_search_0 rfl ?_
  refine tr_iconst eX7_search_1 (nI 0) ci_0 ?_
  refine tr_put eX7_search_2 fp_X7_188 rfl rfl ?_
  refine tr_iconst eX7_search_5 (nI 0) ci_0 ?_
  refine tr_istore_n eX7_search_6 (by decide) rfl ?_
  refine lp_X7_search_7 (τ := τ) hV hV40 (fun ρ hL => ?_) nV 0 _ (by omega) ⟨fun k a b => up_k b, fun i hi => up_n hi, fun q hq => absurd hq (by simp [sl0]), by rw [up_s]; rfl⟩
  have el : sl0 (fun v => s_come τ (τ 0 (nI 8)) v) nV = l_srch (aM τ) := by
    rw [l_srch, tn_of hI0.2.2.2.1 (by omega)]
    exact congrArg (fun P => sl0 P nV) (funext fun v => by rw [s_come_aM, aM_4])
  obtain ⟨b1, b2, b3, b4⟩ := hL
  rw [el] at b3 b4
  have ha0 : aM ρ = aM τ := aM_off b1 b2
  refine tr_aload_n eX7_search_52 rfl ?_
  refine tr_iconst eX7_search_53 (nI 0) ci_0 ?_
  refine tr_put eX7_search_54 fp_X7_202 rfl rfl ?_
  refine tr_aload_n eX7_search_57 rfl ?_
  refine tr_iconst eX7_search_58 (-1) ci_m1 ?_
  refine tr_put eX7_search_59 fp_X7_205 rfl rfl ?_
  refine tr_aload_n eX7_search_62 rfl ?_
  refine tr_getI eX7_search_63 fk_X7_188 rfl rfl ?_
  try simp (disch := decide) only [up_k, up_s, up_f, s_set_0]
  try rw [up_f (by decide), up_f (by decide)]
  rw [b4]
  refine tr_if_ne eX7_search_66 (fun h66 => ?_) (fun h66 => ?_)
  · skip
    refine tr_iconst eX7_search_76 (nI 0) ci_0 ?_
    refine tr_istore_n eX7_search_77 (by decide) rfl ?_
    refine tr_aload_n eX7_search_78 rfl ?_
    refine tr_getR eX7_search_79 fk_X7_65 rfl rfl ?_
    refine tr_iconst eX7_search_82 (nI 0) ci_0 ?_
    refine tr_iconst eX7_search_83 (-1) ci_m1 ?_
    refine tr_iast eX7_search_84 rfl (vp_in_nI (by decide) (by decide)) ?_
    refine tr_iconst eX7_search_85 (nI 0) ci_0 ?_
    refine tr_istore_n eX7_search_86 (by decide) rfl ?_
    refine TT_l2 (show nI 1 - nI 1 = nI 0 by decide) (lp_X7_search_87 (R := s_RM all τ nS) (nP := nP) (nC := nC) (nV := nV) ha1 h40 (fun c τ2 s b hR hT => ?_) 15001 _ (m_0 τ) (-1, τ 19) (by unfold msr m_0; omega) ⟨?_, ?_, ?_, ?_, ?_, ?_, ?_⟩ (hok (len1 h66)) rfl)
    · refine tr_iconst eX7_search_264 (nI 0) ci_0 ?_
      refine tr_istore eX7_search_265 (by decide) rfl ?_
      refine TT.post (lp_X7_search_267 h40 hv40 _ 0 τ2 (Nat.zero_add _) hR.2.2.2.1 hR.2.2.2.2.1) (fun r ω h => ?_)
      rw [List.drop_zero, hR.1] at h
      refine ⟨by rw [h.2.2 0 (by decide)]; exact hR.2.2.2.1, by rw [h.2.2 17 (by decide)]; exact hR.2.2.2.2.1, fun q => absurd (len1 h66) (by omega), fun _ => ?_⟩
      rw [hT]
      exact ⟨h.1, h.2.1, by rw [h.2.2 0 (by decide)]; exact hR.2.2.1, by rw [h.2.2 0 (by decide)]; exact hR.2.2.2.2.2.1, by rw [h.2.2 19 (by decide)]; exact hR.2.2.2.2.2.2⟩
    · rw [aM_s _ (by decide), aM_f0_30, aM_f0_29, ha0]; rfl
    · rw [up_upA, up_k (by decide), up_k (by decide), b1 18 (by decide) (by decide)]; rfl
    · rw [up_k (by decide), up_f (by decide), up_s]; rfl
    · rw [up_k (by decide), up_f (by decide), up_f (by decide)]; exact b4
    · rw [up_k (by decide), up_k (by decide), up_k (by decide)]; exact b3
    · rw [up_k (by decide), up_s]
    · rw [up_k (by decide), up_k (by decide), up_k (by decide)]; exact b1 19 (by decide) (by decide)
  · skip
    refine tr_aload_n eX7_search_69 rfl ?_
    refine tr_iconst eX7_search_70 (nI 0) ci_0 ?_
    refine tr_put eX7_search_71 fp_X7_205 rfl rfl ?_
    refine tr_iconst eX7_search_74 (nI 1) ci_1 ?_
    refine tr_ret eX7_search_75 rfl (by first | rfl | exact nar_bi _) ?_
    refine ⟨?_, ?_, fun _ => ⟨rfl, ?_, ?_, ?_⟩, fun q => absurd (len0 h40 h66) (by omega)⟩
    · rw [up_f (by decide), up_f (by decide), up_f (by decide)]; exact b4
    · rw [up_k (by decide), up_k (by decide), up_k (by decide)]; exact b3
    · rw [aM_f0_30, aM_f0_30, aM_f0_29, ha0]
    · rw [up_f (by decide), up_f (by decide), up_s]
    · rw [up_s]

theorem lp_X7_found_31 {all : Bool} {a : Int32} {l : List Nat} (ha1 : a = bi (all = true)) (h40 : l.length ≤ 40) (hv40 : ∀ v ∈ l, v < 40) : ∀ (f i : Nat) (τ : tSt), i + f = l.length → τ 0 (nI 26) = nI l.length → LNS (τ 17) l → TT mX7_found 31 [.ref 0, .int a, .int (nI i)] [] τ (QM (s_gr (setA (τ 19) i (l.drop i) (aM τ)) (if all = true then τ 0 (nI 30) else τ 0 (nI 29)))) := by
  intro f
  induction f with
  | zero =>
    intro i τ hi hn hln
    refine tr_iload_n eX7_found_31 rfl ?_
    refine tr_aload_n eX7_found_32 rfl ?_
    refine tr_getI eX7_found_33 fk_X7_188 rfl rfl ?_
    refine tr_icmp_ge eX7_found_36 (fun h36 => ?_) (fun h36 => ?_)
    · skip
      refine tr_aload_n eX7_found_81 rfl ?_
      refine tr_iload_n eX7_found_82 rfl ?_
      refine tr_if_eq eX7_found_83 (fun h83 => ?_) (fun h83 => ?_)
      · skip
        have hall : ¬ all = true := fun q => absurd h83 (by rw [ha1, q]; decide)
        refine tr_aload_n eX7_found_93 rfl ?_
        refine tr_getI eX7_found_94 fk_X7_202 rfl rfl ?_
        refine tr_ce1 eX7_found_97 zv_X7_gives zi_X7_gives lk_X7_96 ⟨rfl, by decide, by decide⟩ rfl rfl rfl k_X7_gives ?_
        try simp (disch := decide) only [up_k, up_s, up_f, s_set_0]
        refine tr_ret eX7_found_100 rfl rfl ?_
        rw [List.drop_eq_nil_of_le (by omega), if_neg hall]
        exact ⟨rfl, by rw [aM_f0_0]; rfl⟩
      · skip
        have hall : all = true := by cases all with
          | true => rfl
          | false => exact absurd (by rw [ha1]; rfl) h83
        refine tr_aload_n eX7_found_86 rfl ?_
        refine tr_getI eX7_found_87 fk_X7_205 rfl rfl ?_
        refine tr_goto eX7_found_90 ?_
        refine tr_ce1 eX7_found_97 zv_X7_gives zi_X7_gives lk_X7_96 ⟨rfl, by decide, by decide⟩ rfl rfl rfl k_X7_gives ?_
        try simp (disch := decide) only [up_k, up_s, up_f, s_set_0]
        refine tr_ret eX7_found_100 rfl rfl ?_
        rw [List.drop_eq_nil_of_le (by omega), if_pos hall]
        exact ⟨rfl, by rw [aM_f0_0]; rfl⟩
    · skip
      exact absurd (lt_of hn (by omega) (by omega) h36) (by omega)
  | succ f ih =>
    intro i τ hi hn hln
    have hil : i < l.length := by omega
    have hin : vp_in (nI i) 40 := vp_in_nI (by omega) (by decide)
    have em := lns_at hln hil
    have hv : vp_in (nI l[i]) 40 := vp_in_nI (hv40 _ (List.getElem_mem hil)) (by decide)
    refine tr_iload_n eX7_found_31 rfl ?_
    refine tr_aload_n eX7_found_32 rfl ?_
    refine tr_getI eX7_found_33 fk_X7_188 rfl rfl ?_
    refine tr_icmp_ge eX7_found_36 (fun h36 => ?_) (fun h36 => ?_)
    · skip
      exact absurd (ge_of hn (by omega) (by omega) h36) (by omega)
    · skip
      refine tr_aload_n eX7_found_39 rfl ?_
      refine tr_aload_n eX7_found_40 rfl ?_
      refine tr_getR eX7_found_41 fk_X7_62 rfl rfl ?_
      refine tr_iload_n eX7_found_44 rfl ?_
      refine tr_iald eX7_found_45 rfl (by first | with_reducible assumption | with_reducible exact in_slot (by with_reducible assumption) (by with_reducible assumption) | with_reducible exact in_row _ (by decide) (by with_reducible assumption) | with_reducible exact in_row0 (by with_reducible assumption) | with_reducible exact in_slot0 (by with_reducible assumption) | (simp (disch := decide) only [up_k, up_s, up_f] <;> with_reducible assumption)) ?_
      rw [em]
      refine tr_aload_n eX7_found_46 rfl ?_
      refine tr_getR eX7_found_47 fk_X7_68 rfl rfl ?_
      refine tr_iload_n eX7_found_50 rfl ?_
      refine tr_iald eX7_found_51 rfl (by first | with_reducible assumption | with_reducible exact in_slot (by with_reducible assumption) (by with_reducible assumption) | with_reducible exact in_row _ (by decide) (by with_reducible assumption) | with_reducible exact in_row0 (by with_reducible assumption) | with_reducible exact in_slot0 (by with_reducible assumption) | (simp (disch := decide) only [up_k, up_s, up_f] <;> with_reducible assumption)) ?_
      refine tr_aload_n eX7_found_52 rfl ?_
      refine tr_aload_n eX7_found_53 rfl ?_
      refine tr_getR eX7_found_54 fk_X7_62 rfl rfl ?_
      refine tr_iload_n eX7_found_57 rfl ?_
      refine tr_iald eX7_found_58 rfl (by first | with_reducible assumption | with_reducible exact in_slot (by with_reducible assumption) (by with_reducible assumption) | with_reducible exact in_row _ (by decide) (by with_reducible assumption) | with_reducible exact in_row0 (by with_reducible assumption) | with_reducible exact in_slot0 (by with_reducible assumption) | (simp (disch := decide) only [up_k, up_s, up_f] <;> with_reducible assumption)) ?_
      rw [em]
      refine tr_ce1 eX7_found_59 zv_X7_inOf zi_X7_inOf lk_X7_119 ⟨rfl, by decide, by decide⟩ rfl rfl rfl (k_X7_inOf hv) ?_
      refine tr_aload_n eX7_found_62 rfl ?_
      refine tr_aload_n eX7_found_63 rfl ?_
      refine tr_getR eX7_found_64 fk_X7_62 rfl rfl ?_
      refine tr_iload_n eX7_found_67 rfl ?_
      refine tr_iald eX7_found_68 rfl (by first | with_reducible assumption | with_reducible exact in_slot (by with_reducible assumption) (by with_reducible assumption) | with_reducible exact in_row _ (by decide) (by with_reducible assumption) | with_reducible exact in_row0 (by with_reducible assumption) | with_reducible exact in_slot0 (by with_reducible assumption) | (simp (disch := decide) only [up_k, up_s, up_f] <;> with_reducible assumption)) ?_
      rw [em]
      refine tr_ce1 eX7_found_69 zv_X7_outOf zi_X7_outOf lk_X7_178 ⟨rfl, by decide, by decide⟩ rfl rfl rfl (k_X7_outOf hv) ?_
      refine tr_ce4 eX7_found_72 zv_X7_sets zi_X7_sets lk_X7_184 ⟨rfl, by decide, by decide⟩ rfl rfl rfl (k_X7_sets hv) ?_
      try simp (disch := decide) only [up_k, up_s, up_f, s_set_0]
      refine tr_iinc eX7_found_75 _ (by first | with_reducible exact inc_n _ | with_reducible exact ix_s _ _ | with_reducible rfl) rfl (by decide) rfl ?_
      refine tr_goto eX7_found_78 ?_
      refine TT.post (ih (i + 1) _ (by omega) hn hln) (fun r ρ h => ?_)
      rw [aM_set, s_set_19, s_set_0] at h
      rw [drop_cons hil, setA, s_in_aM, s_out_aM]
      exact h
theorem k_X7_found {all : Bool} {a : Int32} {τ : tSt} {nS nP nC nV : Nat} (hI : iA (aM τ) nS nP nC nV) (ha1 : a = bi (all = true)) : CT mX7_found [.ref 0, .int a] τ (QM (s_srchp all (aM τ))) := by
  obtain ⟨h40, hND, hok, hpl⟩ := s_R_ok hI (upA (τ 18) (nI 0) (-1)) upA_s
  have hv40 := srch_40 hI
  refine CT.of2 1 (by decide) rfl rfl ?_
  refine tr_aload_n eX7_found_0 rfl ?_
  refine tr_iload_n eX7_found_1 rfl ?_
  refine tr_cv1 (r0 := none) (σ1 := fun _ _ => 0) eX7_found_2 zv_X7_search zi_X7_search lk_X7_211 ⟨rfl, by decide, by decide⟩ rfl rfl rfl (k_X7_search hI ha1) (fun r' ρ hq => ?_)
  try simp (disch := decide) only [up_k, up_s, up_f, s_set_0]
  obtain ⟨q1, q2, q3, q4⟩ := hq
  obtain ⟨C, hCd, er, hc1, hc2, hc3⟩ : ∃ (C : Prop) (_ : Decidable C), r' = some (bi C) ∧ (¬ C → s_srchp all (aM τ) = s_rf (aM ρ) (nI 10)) ∧ (C → ρ 0 (nI 30) < 0 → s_srchp all (aM τ) = s_rf (aM ρ) (nI 11)) ∧ (C → ¬ ρ 0 (nI 30) < 0 → s_srchp all (aM τ) = s_gr (setA (ρ 19) 0 (l_srch (aM τ)) (aM ρ)) (if all = true then ρ 0 (nI 30) else ρ 0 (nI 29))) := by
    rcases Nat.eq_zero_or_pos (l_srch (aM τ)).length with hl0 | hl1
    · obtain ⟨a1, a2, a3, a4⟩ := q3 hl0
      refine ⟨True, inferInstance, by rw [a1]; rfl, fun q => absurd trivial q, fun _ q => absurd q (by rw [a4]; decide), fun _ _ => ?_⟩
      rw [s_srchp, if_pos hl0, a2, a3, a4, List.eq_nil_of_length_eq_zero hl0]
      cases all <;> rfl
    · obtain ⟨a1, a2, a3, a4, a5⟩ := q4 hl1
      obtain ⟨c1, c2, c3⟩ := s_RX_R (all := all) (tr := upA (τ 18) (nI 0) (-1)) (b := τ 19) hI hl1 upA_s
      have c1 : (s_RM all τ nS).1 = (s_R all (aM τ)).1 := c1
      have c2 : (s_RM all τ nS).2.1.2.2 = (s_R all (aM τ)).2.1.2.2 := c2.2.1
      have c3 : BEq (l_srch (aM τ)).length (s_RM all τ nS).2.2 (s_R all (aM τ)).2.2 := c3
      have hl0 : ¬ (l_srch (aM τ)).length = 0 := by omega
      refine ⟨_, inferInstance, a1, fun q => ?_, fun q h => ?_, fun q h => ?_⟩
      · rw [s_srchp, if_neg hl0, if_pos (by rw [← c1]; exact n_not q), a2, c2]
      · rw [s_srchp, if_neg hl0, if_neg (by rw [← c1]; exact q), if_pos (by rw [← c3.1, ← a4]; exact h), a2, c2]
      · rw [a4] at h
        rw [s_srchp, if_neg hl0, if_neg (by rw [← c1]; exact q), if_neg (by rw [← c3.1]; exact h), a2, a3, a4, a5, c2, ← c3.1]
        rw [setA_cg _ 0 _ (fun p _ hp => c3.2 h p (by omega))]
  subst er
  refine tr_if_ne eX7_found_5 (fun h5 => ?_) (fun h5 => ?_)
  · skip
    have hC := bi_n h5
    refine tr_aload_n eX7_found_15 rfl ?_
    refine tr_getI eX7_found_16 fk_X7_205 rfl rfl ?_
    try simp (disch := decide) only [up_k, up_s, up_f, s_set_0]
    refine tr_if_ge eX7_found_19 (fun h19 => ?_) (fun h19 => ?_)
    · skip
      refine tr_iconst eX7_found_29 (nI 0) ci_0 ?_
      refine tr_istore_n eX7_found_30 (by decide) rfl ?_
      refine TT.post (lp_X7_found_31 ha1 h40 hv40 _ 0 ρ (Nat.zero_add _) q1 q2) (fun r ω h => ?_)
      rw [List.drop_zero] at h
      rw [hc3 hC (Int32.not_lt.mpr h19)]
      exact h
    · skip
      refine tr_aload_n eX7_found_22 rfl ?_
      refine tr_bipush eX7_found_23 (nI 11) (by decide) ?_
      refine tr_ce1 eX7_found_25 zv_X7_refuse zi_X7_refuse lk_X7_92 ⟨rfl, by decide, by decide⟩ rfl rfl rfl k_X7_refuse ?_
      try simp (disch := decide) only [up_k, up_s, up_f, s_set_0]
      refine tr_ret eX7_found_28 rfl rfl ?_
      rw [hc2 hC (Int32.not_le.mp h19)]
      exact ⟨rfl, by rw [aM_f0_0]; rfl⟩
  · skip
    have hC := bi_0 h5
    refine tr_aload_n eX7_found_8 rfl ?_
    refine tr_bipush eX7_found_9 (nI 10) (by decide) ?_
    refine tr_ce1 eX7_found_11 zv_X7_refuse zi_X7_refuse lk_X7_92 ⟨rfl, by decide, by decide⟩ rfl rfl rfl k_X7_refuse ?_
    try simp (disch := decide) only [up_k, up_s, up_f, s_set_0]
    refine tr_ret eX7_found_14 rfl rfl ?_
    rw [hc1 hC]
    exact ⟨rfl, by rw [aM_f0_0]; rfl⟩

theorem k_X7_search_ {τ : tSt} {nS nP nC nV : Nat} (hI : iA (aM τ) nS nP nC nV) : CT mX7_search_ [.ref 0] τ (QM (s_srchp false (aM τ))) := by
  refine CT.of2 0 (by decide) rfl rfl ?_
  refine tr_aload_n eX7_search__0 rfl ?_
  refine tr_iconst eX7_search__1 (nI 0) ci_0 ?_
  refine tr_cv1 (r0 := none) (σ1 := fun _ _ => 0) eX7_search__2 zv_X7_found zi_X7_found lk_X7_215 ⟨rfl, by decide, by decide⟩ rfl rfl rfl (k_X7_found (all := false) hI rfl) (fun r' ρ hq => ?_)
  try simp (disch := decide) only [up_k, up_s, up_f, s_set_0]
  obtain ⟨rfl, hq⟩ := hq
  refine tr_ret eX7_search__5 rfl rfl ?_
  exact ⟨rfl, hq⟩

theorem k_X7_most {τ : tSt} {nS nP nC nV : Nat} (hI : iA (aM τ) nS nP nC nV) : CT mX7_most [.ref 0] τ (QM (s_srchp true (aM τ))) := by
  refine CT.of2 0 (by decide) rfl rfl ?_
  refine tr_aload_n eX7_most_0 rfl ?_
  refine tr_iconst eX7_most_1 (nI 1) ci_1 ?_
  refine tr_cv1 (r0 := none) (σ1 := fun _ _ => 0) eX7_most_2 zv_X7_found zi_X7_found lk_X7_215 ⟨rfl, by decide, by decide⟩ rfl rfl rfl (k_X7_found (all := true) hI rfl) (fun r' ρ hq => ?_)
  try simp (disch := decide) only [up_k, up_s, up_f, s_set_0]
  obtain ⟨rfl, hq⟩ := hq
  refine tr_ret eX7_most_5 rfl rfl ?_
  exact ⟨rfl, hq⟩

