theorem s_in_lt {μ : tSt} {n u : Nat} {t : Int32} (hn : n < 40) (hu : u < 40) (g : Int32 → Bool) : s_in (vd g (ltm μ (nI n) t)) (nI u) = s_in μ (nI u) := by
  unfold s_in
  rw [vd_k (by decide)]
  unfold ltm
  rw [up_k (by decide), up_n (rw_ne hu hn (by omega) (by omega) (by omega))]
theorem sl_ltm {μ : tSt} {n nV : Nat} {t : Int32} {g : Int32 → Bool} (hn : n < 40) (hV40 : nV ≤ 40) : sl (ltm μ (nI n) t) g nV = sl μ g nV := by
  refine sl_of hV40 ?_ (fun x => mem_sl)
  have hS : SR (ltm μ (nI n) t) (sl (ltm μ (nI n) t) g nV) := SR_sl hV40
  have hlt : ∀ x ∈ sl (ltm μ (nI n) t) g nV, x < 40 := fun x hx => by have := (mem_sl.mp hx).1; omega
  have hkx : ∀ x, x < 40 → kx (ltm μ (nI n) t) x = kx μ x := fun x hx => by
    unfold kx s_in ltm
    rw [up_k (by decide), up_n (rw_ne hx hn (by omega) (by omega) (by omega))]
  exact List.Pairwise.imp_of_mem (fun {a b} ha hb hab => by rw [hkx a (hlt a ha), hkx b (hlt b hb)] at hab; exact hab) hS
theorem ltG_stop {μ : tSt} {v s a t : Int32} {g : Int32 → Bool} (h : ¬ can μ (s_A (vd g μ) v s a t) = true) : ∀ f, ltG μ v s a t f g = (s_A (vd g μ) v s a t, g)
  | 0 => rfl
  | f + 1 => by rw [ltG, if_neg h]
theorem rs_eq {μ : tSt} {g : Int32 → Bool} {v t a1 a2 : Int32} {k : Nat} (hk : k ≠ 12) : up (up (up (up (vd g (ltm μ v t)) 0 (nI 7) a1) 0 (nI 8) a2) 10 (v * nI 5 + nI 3) (μ 10 (v * nI 5 + nI 3))) 15 (s_li μ v) (μ 15 (s_li μ v)) k = s_rs μ (a1, a2) k := by
  unfold s_rs
  by_cases h15 : k = 15
  · subst h15
    rw [up_k (k' := 15) (k := 0) (by decide), up_k (k' := 15) (k := 0) (by decide)]
    funext j
    rw [up_at]
    by_cases q : j = s_li μ v
    · rw [if_pos q, q]
    · rw [if_neg q, up_k (by decide), up_k (by decide), up_k (by decide), vd_k (by decide), ltm, up_n q, up_k (by decide)]
  · rw [up_k h15]
    by_cases h10 : k = 10
    · subst h10
      rw [up_k (k' := 10) (k := 0) (by decide), up_k (k' := 10) (k := 0) (by decide)]
      funext j
      rw [up_at]
      by_cases q : j = v * nI 5 + nI 3
      · rw [if_pos q, q]
      · rw [if_neg q, up_k (by decide), up_k (by decide), vd_k (by decide), ltm, up_k (by decide), up_n q]
    · rw [up_k h10]
      by_cases h0 : k = 0
      · subst h0
        have e : vd g (ltm μ v t) 0 = μ 0 := by rw [vd_k (by decide), ltm, up_k (by decide), up_k (by decide)]
        funext j
        rw [up_at, up_at, up_at, up_at, e]
      · rw [up_k h0, up_k h0, up_k h0, up_k h0, vd_k hk, ltm, up_k h15, up_k h10]
def lmR (τ ρ : tSt) (n m nV : Nat) (g : Int32 → Bool) (l : List Nat) : Prop := aM ρ = vd g (ltm (aM τ) (nI n) (nI m)) ∧ (∀ u, u < nV → ρ 20 (nI u) = aM τ 12 (nI u)) ∧ LNS (ρ 17) l ∧ SR (ltm (aM τ) (nI n) (nI m)) l ∧ ρ 0 (nI 26) = nI l.length ∧ (∀ x, x ∈ l ↔ x < nV ∧ g (nI x) = true) ∧ ∀ x ∈ l, ρ 21 (nI x) = aM τ 13 (nI x * nI 8)
def resL (μ : tSt) (n m nV : Nat) (G : (Int32 × Int32) × (Int32 → Bool)) : Int32 × tSt := if ¬ G.1.1 = 0 then s_rf (s_rs μ G.1) (nI 9) else s_gr (ltB (fun u => μ 13 (u * nI 8)) (sl μ G.2 nV) (up (vd G.2 (ltm μ (nI n) (nI m))) 0 (nI 9) (nI 0))) (ltB (fun u => μ 13 (u * nI 8)) (sl μ G.2 nV) (up (vd G.2 (ltm μ (nI n) (nI m))) 0 (nI 9) (nI 0)) 0 (nI 9))
theorem rs_X7_late {τ ρ : tSt} {n m c : Nat} {nS nP nC nV : Nat} {g : Int32 → Bool} {l : List Nat} {A : Int32 × Int32} (hI : iA (aM τ) nS nP nC nV) (hn : n < nV) (hc : aM τ 12 (nI n) = nI c) (hc1 : 1 ≤ c) (hc8 : c ≤ 8) (hg : gIn nV (nI n) g) (h : lmR τ ρ n m nV g l) (h24 : ρ 0 (nI 24) = A.2) (hA : ¬ A.1 = 0) : TT mX7_late 193 [.ref 0, .int (nI n), .int (nI m), .int (nI n * nI 8 + nI (c - 1)), .int (aM τ 15 (nI n * nI 8 + nI (c - 1))), .int (aM τ 10 (nI n * nI 5 + nI 3)), .int (A.1), .null, .null, .null] [] ρ (QM (s_rf (s_rs (aM τ) A) (nI 9))) := by
  have hV40 := hI.1.2.2.2.2
  have hli := li_eq hc hc1
  have hV : ρ 0 (nI 6) = nI nV := by
    rw [← aM_3 ρ, h.1, vd_k (by decide)]; exact hI.1.2.2.2.1
  have hin : vp_in (nI n) 40 := vp_in_nI (by omega) (by decide)
  have hri : vp_in (nI n * nI 5 + nI 3) 200 := in_row 3 (by decide) hin
  have hei : vp_in (nI n * nI 8 + nI (c - 1)) 320 := in_slot hin (vp_in_nI (by omega) (by decide))
  have hia := k_X7_isAgainst (σ := ρ) (w := A.1)
  rw [if_neg hA, h24] at hia
  refine tr_aload_n eX7_late_193 rfl ?_
  refine tr_iload eX7_late_194 rfl ?_
  refine tr_ce1 eX7_late_196 zv_X7_isAgainst zi_X7_isAgainst lk_X7_181 ⟨rfl, by decide, by decide⟩ rfl rfl rfl hia ?_
  try simp (disch := decide) only [up_k, up_s, up_f, s_set_0]
  refine tr_istore eX7_late_199 (by decide) rfl ?_
  refine tr_aload_n eX7_late_201 rfl ?_
  refine tr_getR eX7_late_202 fk_X7_47 rfl rfl ?_
  refine tr_iconst eX7_late_205 (nI 5) ci_5 ?_
  refine tr_iload_n eX7_late_206 rfl ?_
  refine tr_imulC eX7_late_207 ?_
  refine tr_iconst eX7_late_208 (nI 3) ci_3 ?_
  refine tr_iadd eX7_late_209 ?_
  refine tr_iload eX7_late_210 rfl ?_
  refine tr_iast eX7_late_212 rfl hri ?_
  refine tr_aload_n eX7_late_213 rfl ?_
  refine tr_getR eX7_late_214 fk_X7_59 rfl rfl ?_
  refine tr_iload_n eX7_late_217 rfl ?_
  refine tr_iload eX7_late_218 rfl ?_
  refine tr_iast eX7_late_220 rfl hei ?_
  refine tr_iconst eX7_late_221 (nI 0) ci_0 ?_
  refine tr_istore eX7_late_222 (by decide) rfl ?_
  have ea : aM (up (up (up (up ρ 0 (nI 1) A.1) 0 (nI 2) A.2) 10 (nI n * nI 5 + nI 3) (aM τ 10 (nI n * nI 5 + nI 3))) 15 (nI n * nI 8 + nI (c - 1)) (aM τ 15 (nI n * nI 8 + nI (c - 1)))) = up (up (up (up (vd g (ltm (aM τ) (nI n) (nI m))) 0 (nI 7) A.1) 0 (nI 8) A.2) 10 (nI n * nI 5 + nI 3) (aM τ 10 (nI n * nI 5 + nI 3))) 15 (s_li (aM τ) (nI n)) (aM τ 15 (s_li (aM τ) (nI n))) := by
    rw [aM_u _ (by decide), aM_u _ (by decide), aM_f0_2, aM_f0_1, h.1, hli]
  refine TT.fg [1, 2, 3, 4, 5, 6, 8] (lp_X7_late_224 (M := s_rs (aM τ) A) hV40 nV 0 _ (Nat.zero_add _) ?_ (fun k hk => by rw [ea]; exact rs_eq hk) (fun j hj => ?_) (fun u hu => ?_))
  · rw [up_k (by decide), up_k (by decide), up_f (by decide), up_f (by decide)]; exact hV
  · rw [ea, up_k (by decide), up_k (by decide), up_k (by decide), up_k (by decide), vd_f (fun q => by obtain ⟨u, hu, e, _⟩ := hg j q; exact hj u (Nat.zero_le _) hu e)]
    rfl
  · rw [up_k (by decide), up_k (by decide), up_k (by decide), up_k (by decide)]; exact h.2.1 u hu
theorem ex_X7_late {τ ρ : tSt} {n m c : Nat} {nS nP nC nV : Nat} {g : Int32 → Bool} {l : List Nat} (hI : iA (aM τ) nS nP nC nV) (hn : n < nV) (hc : aM τ 12 (nI n) = nI c) (hc1 : 1 ≤ c) (hc8 : c ≤ 8) (hL : iA (ltm (aM τ) (nI n) (nI m)) nS nP nC nV) (hg : gIn nV (nI n) g) (hgp : ∀ u : Nat, u < nV → g (nI u) = true → ¬ aM τ 12 (nI u) = nI 0) (h : lmR τ ρ n m nV g l) (h24 : ρ 0 (nI 24) = (s_A (vd g (aM τ)) (nI n) (aM τ 13 (nI n * nI 8 + nI (c - 1))) (aM τ 14 (nI n * nI 8 + nI (c - 1))) (nI m)).2) (hcn : ¬ can (aM τ) (s_A (vd g (aM τ)) (nI n) (aM τ 13 (nI n * nI 8 + nI (c - 1))) (aM τ 14 (nI n * nI 8 + nI (c - 1))) (nI m)) = true) : TT mX7_late 161 [.ref 0, .int (nI n), .int (nI m), .int (nI n * nI 8 + nI (c - 1)), .int (aM τ 15 (nI n * nI 8 + nI (c - 1))), .int (aM τ 10 (nI n * nI 5 + nI 3)), .int ((s_A (vd g (aM τ)) (nI n) (aM τ 13 (nI n * nI 8 + nI (c - 1))) (aM τ 14 (nI n * nI 8 + nI (c - 1))) (nI m)).1), .null, .null, .null] [] ρ (QM (resL (aM τ) n m nV ((s_A (vd g (aM τ)) (nI n) (aM τ 13 (nI n * nI 8 + nI (c - 1))) (aM τ 14 (nI n * nI 8 + nI (c - 1))) (nI m)), g))) := by
  have hV40 := hI.1.2.2.2.2
  have hpos := s_A_pos (vd g (aM τ)) (nI n) (aM τ 13 (nI n * nI 8 + nI (c - 1))) (aM τ 14 (nI n * nI 8 + nI (c - 1))) (nI m)
  have hbyv : (s_A (vd g (aM τ)) (nI n) (aM τ 13 (nI n * nI 8 + nI (c - 1))) (aM τ 14 (nI n * nI 8 + nI (c - 1))) (nI m)).1 = nI 3 ∨ (s_A (vd g (aM τ)) (nI n) (aM τ 13 (nI n * nI 8 + nI (c - 1))) (aM τ 14 (nI n * nI 8 + nI (c - 1))) (nI m)).1 = nI 5 → ¬ (¬ ρ 0 (nI 8) < s_in ρ (s_A (vd g (aM τ)) (nI n) (aM τ 13 (nI n * nI 8 + nI (c - 1))) (aM τ 14 (nI n * nI 8 + nI (c - 1))) (nI m)).2) → False := fun q hb => by
    obtain ⟨w, hw, ew, hwv, hw0⟩ := s_A_by (iA_vd hI g).1 q
    have hgw : ¬ g (nI w) = true := fun z => hw0 (by rw [vd_t z]; decide)
    rw [vd_f hgw] at hw0
    have hu2 : nI 2 < aM τ 11 (nI w) := hI.2.2.1.2.2.2 w (by omega) (fun z => hw0 (by rw [z]; decide))
    refine hcn ?_
    unfold can
    rw [Bool.and_eq_true, Bool.or_eq_true, decide_eq_true_eq, decide_eq_true_eq]
    refine ⟨q, ?_⟩
    rw [ew] at hb ⊢
    have e4 : ρ 0 (nI 8) = aM τ 0 (nI 4) := by rw [← aM_4 ρ, h.1, vd_k (by decide)]; rfl
    have ei : s_in ρ (nI w) = s_in (aM τ) (nI w) := by rw [← s_in_aM, h.1]; exact s_in_lt (by omega) (by omega) g
    rw [e4, ei] at hb
    have hb := n_not hb
    rw [s_beg, Bool.not_eq_true', Bool.and_eq_false_iff]
    exact Or.inr (decide_eq_false (fun z => z hb))
  have hby : (s_A (vd g (aM τ)) (nI n) (aM τ 13 (nI n * nI 8 + nI (c - 1))) (aM τ 14 (nI n * nI 8 + nI (c - 1))) (nI m)).1 = nI 3 ∨ (s_A (vd g (aM τ)) (nI n) (aM τ 13 (nI n * nI 8 + nI (c - 1))) (aM τ 14 (nI n * nI 8 + nI (c - 1))) (nI m)).1 = nI 5 → vp_in (s_A (vd g (aM τ)) (nI n) (aM τ 13 (nI n * nI 8 + nI (c - 1))) (aM τ 14 (nI n * nI 8 + nI (c - 1))) (nI m)).2 40 := fun q => by
    obtain ⟨w, hw, ew, _⟩ := s_A_by (iA_vd hI g).1 q
    rw [ew]; exact vp_in_nI (by omega) (by decide)
  refine tr_iload eX7_late_161 rfl ?_
  refine tr_if_le eX7_late_163 (fun h163 => ?_) (fun h163 => ?_)
  · skip
    have hA0 := hpos.mp h163
    rw [resL, if_neg (fun q => q hA0)]
    have el : l = sl (aM τ) g nV := (sl_of hV40 h.2.2.2.1 h.2.2.2.2.2.1).trans (sl_ltm (by omega) hV40)
    refine tr_aload_n eX7_late_314 rfl ?_
    refine tr_iconst eX7_late_315 (nI 0) ci_0 ?_
    refine tr_put eX7_late_316 fp_X7_219 rfl rfl ?_
    refine tr_iconst eX7_late_319 (nI 0) ci_0 ?_
    refine tr_istore eX7_late_320 (by decide) rfl ?_
    have e0 : aM (up ρ 0 (nI 34) (nI 0)) = up (vd g (ltm (aM τ) (nI n) (nI m))) 0 (nI 9) (nI 0) := by rw [aM_f0_34, h.1]
    have h40 : l.length ≤ 40 := by rw [el]; exact Nat.le_trans (SR_len (SR_sl (μ := aM τ) hV40) (fun x hx => (mem_sl.mp hx).1)) hV40
    have hlp := lp_X7_late_322 (nS := nS) (nP := nP) (nC := nC) (nV := nV) (l := l) (F := fun u => aM τ 13 (u * nI 8)) h40 (fun x hx => ?_) _ 0 0 (up ρ 0 (nI 34) (nI 0)) (Nat.zero_add _) (Nat.le_refl _) (by rw [e0]; exact iA_n9 (iA_vd hL g) (by decide)) (by rw [up_f (by decide)]; exact h.2.2.2.2.1) (by rw [up_k (by decide)]; exact h.2.2.1) (fun x hx => by rw [up_k (by decide)]; exact h.2.2.2.2.2.2 x hx) (fun x hx => ?_) (by rw [e0, up_s])
    · rw [List.drop_zero, e0, el] at hlp
      exact TT.fg [1, 2, 3, 4, 5, 6] hlp
    · obtain ⟨a, b⟩ := (h.2.2.2.2.2.1 x).mp hx
      have hp := hgp x a b
      obtain ⟨cc, hcc, ec⟩ := hI.2.1.1 x (by omega)
      obtain ⟨s, hs, es⟩ := hI.2.2.2.1 x 0 (by omega) (by rw [ec] at hp ⊢; exact (nI_ltI (by omega) (by omega)).mpr (Nat.pos_of_ne_zero fun z => hp (by rw [z]))) (by decide)
      rw [add_n0] at es
      rw [es]
      exact nI_ne_m1 (by have := hI.1.1.2; omega)
    · obtain ⟨a, b⟩ := (h.2.2.2.2.2.1 x).mp hx
      refine ⟨a, ?_⟩
      rw [e0, up_k (by decide), vd_k (by decide)]
      exact hI.2.2.1.2.2.2 x (by omega) (hgp x a b)
  · skip
    have hA : ¬ (s_A (vd g (aM τ)) (nI n) (aM τ 13 (nI n * nI 8 + nI (c - 1))) (aM τ 14 (nI n * nI 8 + nI (c - 1))) (nI m)).1 = 0 := fun q => h163 (hpos.mpr q)
    rw [resL, if_pos hA]
    refine tr_aload_n eX7_late_166 rfl ?_
    refine tr_getI eX7_late_167 fk_X7_134 rfl rfl ?_
    rw [h24]
    refine tr_istore eX7_late_170 (by decide) rfl ?_
    refine tr_iload eX7_late_172 rfl ?_
    refine tr_iconst eX7_late_174 (nI 3) ci_3 ?_
    refine tr_icmp_eq eX7_late_175 (fun h175 => ?_) (fun h175 => ?_)
    · skip
      have hq : (s_A (vd g (aM τ)) (nI n) (aM τ 13 (nI n * nI 8 + nI (c - 1))) (aM τ 14 (nI n * nI 8 + nI (c - 1))) (nI m)).1 = nI 3 ∨ (s_A (vd g (aM τ)) (nI n) (aM τ 13 (nI n * nI 8 + nI (c - 1))) (aM τ 14 (nI n * nI 8 + nI (c - 1))) (nI m)).1 = nI 5 := Or.inl h175
      refine tr_aload_n eX7_late_184 rfl ?_
      refine tr_iload eX7_late_185 rfl ?_
      refine tr_ce1 eX7_late_187 zv_X7_hasBegun zi_X7_hasBegun lk_X7_175 ⟨rfl, by decide, by decide⟩ rfl rfl rfl (k_X7_hasBegun (hby hq)) ?_
      refine tr_if_eq eX7_late_190 (fun h190 => ?_) (fun h190 => ?_)
      · skip
        try first | replace h190 := bi_0 h190 | replace h190 := bi_n h190
        exact absurd (hbyv hq h190) not_false
      · skip
        try first | replace h190 := bi_0 h190 | replace h190 := bi_n h190
        exact TT.fg [7] (rs_X7_late hI hn hc hc1 hc8 hg h h24 hA)
    · skip
      refine tr_iload eX7_late_178 rfl ?_
      refine tr_iconst eX7_late_180 (nI 5) ci_5 ?_
      refine tr_icmp_ne eX7_late_181 (fun h181 => ?_) (fun h181 => ?_)
      · skip
        exact TT.fg [7] (rs_X7_late hI hn hc hc1 hc8 hg h h24 hA)
      · skip
        have hq : (s_A (vd g (aM τ)) (nI n) (aM τ 13 (nI n * nI 8 + nI (c - 1))) (aM τ 14 (nI n * nI 8 + nI (c - 1))) (nI m)).1 = nI 3 ∨ (s_A (vd g (aM τ)) (nI n) (aM τ 13 (nI n * nI 8 + nI (c - 1))) (aM τ 14 (nI n * nI 8 + nI (c - 1))) (nI m)).1 = nI 5 := Or.inr h181
        refine tr_aload_n eX7_late_184 rfl ?_
        refine tr_iload eX7_late_185 rfl ?_
        refine tr_ce1 eX7_late_187 zv_X7_hasBegun zi_X7_hasBegun lk_X7_175 ⟨rfl, by decide, by decide⟩ rfl rfl rfl (k_X7_hasBegun (hby hq)) ?_
        refine tr_if_eq eX7_late_190 (fun h190 => ?_) (fun h190 => ?_)
        · skip
          try first | replace h190 := bi_0 h190 | replace h190 := bi_n h190
          exact absurd (hbyv hq h190) not_false
        · skip
          try first | replace h190 := bi_0 h190 | replace h190 := bi_n h190
          exact TT.fg [7] (rs_X7_late hI hn hc hc1 hc8 hg h h24 hA)
