/-! LINES: sorted by IN, then by number -/
def kx (μ : tSt) (x : Nat) : Nat := tn (s_in μ (nI x)) * 64 + x
def SR (μ : tSt) (l : List Nat) : Prop := l.Pairwise (fun x y => kx μ x < kx μ y)
theorem SR_ext {μ : tSt} : ∀ {l m : List Nat}, SR μ l → SR μ m → (∀ x, x ∈ l ↔ x ∈ m) → l = m
  | [], [], _, _, _ => rfl
  | [], b :: s, _, _, h => absurd ((h b).mpr List.mem_cons_self) List.not_mem_nil
  | a :: t, [], _, _, h => absurd ((h a).mp List.mem_cons_self) List.not_mem_nil
  | a :: t, b :: s, h1, h2, h => by
    obtain ⟨p1, p2⟩ := List.pairwise_cons.mp h1
    obtain ⟨q1, q2⟩ := List.pairwise_cons.mp h2
    have e : a = b := by
      rcases List.mem_cons.mp ((h a).mp List.mem_cons_self) with e | e
      · exact e
      · rcases List.mem_cons.mp ((h b).mpr List.mem_cons_self) with e' | e'
        · exact e'.symm
        · have := q1 a e
          have := p1 b e'
          omega
    subst e
    congr 1
    refine SR_ext p2 q2 (fun x => ?_)
    constructor
    · intro hx
      rcases List.mem_cons.mp ((h x).mp (List.mem_cons_of_mem _ hx)) with e | e
      · subst e; exact absurd (p1 x hx) (by omega)
      · exact e
    · intro hx
      rcases List.mem_cons.mp ((h x).mpr (List.mem_cons_of_mem _ hx)) with e | e
      · subst e; exact absurd (q1 x hx) (by omega)
      · exact e
/-- l with u at p is sorted, if what stands behind p is behind u, and what stands ahead of p ahead -/
theorem SR_ins {μ : tSt} {l : List Nat} {u p : Nat} (h : SR μ l) (hp : p ≤ l.length) (hg : ∀ q (hq : q < l.length), p ≤ q → kx μ u < kx μ l[q]) (hl : ∀ q (hq : q < l.length), q + 1 = p → kx μ l[q] < kx μ u) : SR μ (l.take p ++ u :: l.drop p) := by
  have hsplit : l.take p ++ l.drop p = l := List.take_append_drop p l
  have h' := h
  rw [← hsplit] at h'
  obtain ⟨a1, a2, a3⟩ := List.pairwise_append.mp h'
  refine List.pairwise_append.mpr ⟨a1, List.pairwise_cons.mpr ⟨fun y hy => ?_, a2⟩, fun x hx y hy => ?_⟩
  · obtain ⟨i, hi, e⟩ := List.getElem_of_mem hy
    rw [List.getElem_drop] at e
    rw [← e]
    exact hg _ _ (by omega)
  · rcases List.mem_cons.mp hy with e | hy
    · subst e
      obtain ⟨i, hi, e⟩ := List.getElem_of_mem hx
      rw [List.getElem_take] at e
      rw [List.length_take] at hi
      rcases Nat.lt_or_ge (i + 1) p with q | q
      · have hlast := hl (p - 1) (by omega) (by omega)
        have hlt := List.pairwise_iff_getElem.mp h i (p - 1) (by omega) (by omega) (by omega)
        rw [← e]
        omega
      · rw [← e]
        exact hl i (by omega) (by omega)
    · exact a3 x hx y hy
theorem mem_ins {l : List Nat} {u p x : Nat} : x ∈ l.take p ++ u :: l.drop p ↔ x = u ∨ x ∈ l := by
  rw [List.mem_append, List.mem_cons]
  constructor
  · rintro (h | h | h)
    · exact Or.inr (List.mem_of_mem_take h)
    · exact Or.inl h
    · exact Or.inr (List.mem_of_mem_drop h)
  · rintro (h | h)
    · exact Or.inr (Or.inl h)
    · rw [← List.take_append_drop p l] at h
      rcases List.mem_append.mp h with h | h
      · exact Or.inl h
      · exact Or.inr (Or.inr h)
/-- the row g holds the line l -/
def LNS (g : Int32 → Int32) (l : List Nat) : Prop := ∀ q (hq : q < l.length), g (nI q) = nI l[q]
/-- g', of the row g with l, after u was put in at p -/
theorem LNS_ins {g g' : Int32 → Int32} {l : List Nat} {u p : Nat} (h : LNS g l) (hl : l.length < 40) (hp : p ≤ l.length) (h1 : ∀ q, q < p → g' (nI q) = g (nI q)) (h2 : g' (nI p) = nI u) (h3 : ∀ q, p < q → q ≤ l.length → g' (nI q) = g (nI (q - 1))) : LNS g' (l.take p ++ u :: l.drop p) := by
  intro q hq
  have hlen : (l.take p).length = p := by rw [List.length_take]; omega
  rcases Nat.lt_trichotomy q p with c | c | c
  · rw [List.getElem_append_left (by omega), List.getElem_take, h1 q c]
    exact h q (by omega)
  · subst c
    rw [h2]
    congr 1
    rw [List.getElem_append_right (by omega)]
    simp [hlen]
  · have hq2 : q ≤ l.length := by simp at hq; omega
    rw [h3 q c hq2, h (q - 1) (by omega)]
    congr 1
    rw [List.getElem_append_right (by omega)]
    have e : q - (l.take p).length = (q - 1 - p) + 1 := by omega
    simp only [e, List.getElem_cons_succ, List.getElem_drop]
    congr 1
    omega
theorem lp_X3_joinByIn_15 {σ : tSt} {k j n : Nat} {v : Int32} (hkj : j ≠ k) (hk2 : k ≠ 10) (hj2 : j ≠ 10) (hs : shX[k]? = some (.inr (3, [some j, none]))) (hj : shX[j]? = some (.inl (false, 40))) (hv : vp_in v 40) (hn : σ k (nI 1) = nI n) (hn40 : n < 40) (hmem : ∀ q, q < n → vp_in (σ j (nI q)) 40) : ∀ (p : Nat) (ρ : tSt), p ≤ n → (∀ c, c ≠ j → ρ c = σ c) → (∀ q, q ≤ p → q < n → ρ j (nI q) = σ j (nI q)) → (∀ q, p < q → q ≤ n → ρ j (nI q) = σ j (nI (q - 1))) → (∀ q, p ≤ q → q < n → s_in σ v < s_in σ (σ j (nI q))) → TT mX3_joinByIn 15 [.ref k, .int v, .ref 18, .int (nI p)] [] ρ (fun r τ => r = none ∧ (∀ c, c ≠ j → c ≠ k → τ c = σ c) ∧ (∀ i, i ≠ nI 1 → τ k i = σ k i) ∧ τ k (nI 1) = nI (n + 1) ∧ ∃ p, p ≤ n ∧ (∀ q, q < p → τ j (nI q) = σ j (nI q)) ∧ τ j (nI p) = v ∧ (∀ q, p < q → q ≤ n → τ j (nI q) = σ j (nI (q - 1))) ∧ (∀ q, p ≤ q → q < n → s_in σ v < s_in σ (σ j (nI q))) ∧ (0 < p → ¬ s_in σ v < s_in σ (σ j (nI (p - 1))))) := by
  intro p
  induction p with
  | zero =>
    intro ρ hp h1 h2 h3 h4
    refine tr_iload_n eX3_joinByIn_15 rfl ?_
    refine tr_if_le eX3_joinByIn_16 (fun h16 => ?_) (fun h16 => ?_)
    · skip
      refine tr_aload_n eX3_joinByIn_59 rfl ?_
      refine tr_getR eX3_joinByIn_60 fk_X3_9 hs rfl ?_
      refine tr_iload_n eX3_joinByIn_63 rfl ?_
      refine tr_iload_n eX3_joinByIn_64 rfl ?_
      refine tr_iast eX3_joinByIn_65 hj (vp_in_nI (by omega) (by decide)) ?_
      refine tr_aload_n eX3_joinByIn_66 rfl ?_
      refine tr_dup eX3_joinByIn_67 rfl ?_
      refine tr_getI eX3_joinByIn_68 fk_X3_15 hs rfl ?_
      try simp (disch := decide) only [up_k, up_s, up_f, s_set_0]
      refine tr_iconst eX3_joinByIn_71 (nI 1) ci_1 ?_
      refine tr_iadd eX3_joinByIn_72 ?_
      refine tr_put eX3_joinByIn_73 fp_X3_15 hs rfl ?_
      refine tr_vret eX3_joinByIn_76 rfl ?_
      refine ⟨rfl, fun c a b => ?_, fun i hi => ?_, ?_, 0, by omega, fun q hq => absurd hq (by omega), ?_, fun q a b => ?_, h4, fun q => absurd q (by omega)⟩
      · rw [up_k b, up_k a]; exact h1 c a
      · rw [up_n hi, up_k (Ne.symm hkj), h1 k (Ne.symm hkj)]
      · first | (rw [up_s, up_k (Ne.symm hkj), h1 k (Ne.symm hkj), hn]; exact nI_1 n) | (rw [up_s, h1 k (Ne.symm hkj), hn]; exact nI_1 n)
      · rw [up_k hkj, up_s]
      · rw [up_k hkj, up_n (fun e => absurd (nI_inj (by omega) (by omega) e) (by omega))]; exact h3 q a b
    · skip
      exact absurd (show nI 0 ≤ 0 by decide) h16
  | succ p ih =>
    intro ρ hp h1 h2 h3 h4
    have hsub : nI (p + 1) - nI 1 = nI p := pk_sub (by omega)
    have hg : ρ j (nI p) = σ j (nI p) := h2 p (by omega) (by omega)
    have h10 : ρ 10 = σ 10 := h1 10 (Ne.symm hj2)
    have hinm : ∀ x, s_in ρ x = s_in σ x := fun x => by rw [s_in, h10]; rfl
    have hmv : vp_in (ρ j (nI p)) 40 := by rw [hg]; exact hmem p (by omega)
    refine tr_iload_n eX3_joinByIn_15 rfl ?_
    refine tr_if_le eX3_joinByIn_16 (fun h16 => ?_) (fun h16 => ?_)
    · skip
      exact absurd h16 (nI_nle (by omega) (by omega))
    · skip
      refine tr_aload_n eX3_joinByIn_19 rfl ?_
      refine tr_aload_n eX3_joinByIn_20 rfl ?_
      refine tr_getR eX3_joinByIn_21 fk_X3_9 hs rfl ?_
      refine tr_iload_n eX3_joinByIn_24 rfl ?_
      refine tr_iconst eX3_joinByIn_25 (nI 1) ci_1 ?_
      refine tr_isub eX3_joinByIn_26 ?_
      rw [hsub]
      refine tr_iald eX3_joinByIn_27 hj (vp_in_nI (by omega) (by decide)) ?_
      refine tr_ce1 eX3_joinByIn_28 zv_X5_inOf zi_X5_inOf lk_X3_19 ⟨rfl, by decide, by decide⟩ rfl rfl rfl (k_X5_inOf hmv) ?_
      refine tr_aload_n eX3_joinByIn_31 rfl ?_
      refine tr_iload_n eX3_joinByIn_32 rfl ?_
      refine tr_ce1 eX3_joinByIn_33 zv_X5_inOf zi_X5_inOf lk_X3_19 ⟨rfl, by decide, by decide⟩ rfl rfl rfl (k_X5_inOf hv) ?_
      refine tr_icmp_le eX3_joinByIn_36 (fun h36 => ?_) (fun h36 => ?_)
      · skip
        rw [hinm, hinm, hg] at h36
        refine tr_aload_n eX3_joinByIn_59 rfl ?_
        refine tr_getR eX3_joinByIn_60 fk_X3_9 hs rfl ?_
        refine tr_iload_n eX3_joinByIn_63 rfl ?_
        refine tr_iload_n eX3_joinByIn_64 rfl ?_
        refine tr_iast eX3_joinByIn_65 hj (vp_in_nI (by omega) (by decide)) ?_
        refine tr_aload_n eX3_joinByIn_66 rfl ?_
        refine tr_dup eX3_joinByIn_67 rfl ?_
        refine tr_getI eX3_joinByIn_68 fk_X3_15 hs rfl ?_
        try simp (disch := decide) only [up_k, up_s, up_f, s_set_0]
        refine tr_iconst eX3_joinByIn_71 (nI 1) ci_1 ?_
        refine tr_iadd eX3_joinByIn_72 ?_
        refine tr_put eX3_joinByIn_73 fp_X3_15 hs rfl ?_
        refine tr_vret eX3_joinByIn_76 rfl ?_
        refine ⟨rfl, fun c a b => ?_, fun i hi => ?_, ?_, p + 1, hp, fun q hq => ?_, ?_, fun q a b => ?_, h4, fun _ => Int32.not_lt.mpr h36⟩
        · rw [up_k b, up_k a]; exact h1 c a
        · rw [up_n hi, up_k (Ne.symm hkj), h1 k (Ne.symm hkj)]
        · first | (rw [up_s, up_k (Ne.symm hkj), h1 k (Ne.symm hkj), hn]; exact nI_1 n) | (rw [up_s, h1 k (Ne.symm hkj), hn]; exact nI_1 n)
        · rw [up_k hkj, up_n (fun e => absurd (nI_inj (by omega) (by omega) e) (by omega))]; exact h2 q (by omega) (by omega)
        · rw [up_k hkj, up_s]
        · rw [up_k hkj, up_n (fun e => absurd (nI_inj (by omega) (by omega) e) (by omega))]; exact h3 q a b
      · skip
        rw [hinm, hinm, hg] at h36
        refine tr_aload_n eX3_joinByIn_39 rfl ?_
        refine tr_getR eX3_joinByIn_40 fk_X3_9 hs rfl ?_
        refine tr_iload_n eX3_joinByIn_43 rfl ?_
        refine tr_aload_n eX3_joinByIn_44 rfl ?_
        refine tr_getR eX3_joinByIn_45 fk_X3_9 hs rfl ?_
        refine tr_iload_n eX3_joinByIn_48 rfl ?_
        refine tr_iconst eX3_joinByIn_49 (nI 1) ci_1 ?_
        refine tr_isub eX3_joinByIn_50 ?_
        rw [hsub]
        refine tr_iald eX3_joinByIn_51 hj (vp_in_nI (by omega) (by decide)) ?_
        refine tr_iast eX3_joinByIn_52 hj (vp_in_nI (by omega) (by decide)) ?_
        refine tr_iinc eX3_joinByIn_53 _ (by first | with_reducible exact inc_n _ | with_reducible exact ix_s _ _ | with_reducible rfl) rfl (by decide) rfl ?_
        refine tr_goto eX3_joinByIn_56 ?_
        rw [show nI (p + 1) + Int32.ofInt (-1) = nI p from by rw [← dec1]; exact hsub]
        refine ih _ (by omega) (fun c a => by rw [up_k a]; exact h1 c a) (fun q a b => ?_) (fun q a b => ?_) (fun q a b => ?_)
        · rw [up_n (fun e => absurd (nI_inj (by omega) (by omega) e) (by omega))]; exact h2 q (by omega) b
        · by_cases hq : q = p + 1
          · subst hq; rw [up_s, hg]; rfl
          · rw [up_n (fun e => hq (nI_inj (by omega) (by omega) e))]; exact h3 q (by omega) b
        · by_cases hq : q = p
          · subst hq; exact Int32.not_le.mp h36
          · exact h4 q (by omega) b
theorem k_X3_joinByIn {σ : tSt} {k j n : Nat} {v : Int32} (hkj : j ≠ k) (hk2 : k ≠ 10) (hj2 : j ≠ 10) (hs : shX[k]? = some (.inr (3, [some j, none]))) (hj : shX[j]? = some (.inl (false, 40))) (hv : vp_in v 40) (hn : σ k (nI 1) = nI n) (hn40 : n < 40) (hmem : ∀ q, q < n → vp_in (σ j (nI q)) 40) : CT mX3_joinByIn [.ref k, .int v, .ref 18] σ (fun r τ => r = none ∧ (∀ c, c ≠ j → c ≠ k → τ c = σ c) ∧ (∀ i, i ≠ nI 1 → τ k i = σ k i) ∧ τ k (nI 1) = nI (n + 1) ∧ ∃ p, p ≤ n ∧ (∀ q, q < p → τ j (nI q) = σ j (nI q)) ∧ τ j (nI p) = v ∧ (∀ q, p < q → q ≤ n → τ j (nI q) = σ j (nI (q - 1))) ∧ (∀ q, p ≤ q → q < n → s_in σ v < s_in σ (σ j (nI q))) ∧ (0 < p → ¬ s_in σ v < s_in σ (σ j (nI (p - 1))))) := by
  refine CT.of2 1 (by decide) rfl rfl ?_
  refine tr_aload_n eX3_joinByIn_0 rfl ?_
  refine tr_getI eX3_joinByIn_1 fk_X3_15 hs rfl ?_
  refine tr_bipush eX3_joinByIn_4 (nI 40) (by decide) ?_
  refine tr_icmp_lt eX3_joinByIn_6 (fun h6 => ?_) (fun h6 => ?_)
  · skip
    refine tr_aload_n eX3_joinByIn_10 rfl ?_
    refine tr_getI eX3_joinByIn_11 fk_X3_15 hs rfl ?_
    rw [hn]
    refine tr_istore_n eX3_joinByIn_14 (by decide) rfl ?_
    exact lp_X3_joinByIn_15 hkj hk2 hj2 hs hj hv hn hn40 hmem n σ (Nat.le_refl _) (fun _ _ => rfl) (fun _ _ _ => rfl) (fun q a b => absurd a (by omega)) (fun q a b => absurd a (by omega))
  · skip
    exact absurd (hn ▸ (nI_ltI (by omega) (by decide)).mpr hn40) h6

theorem lp_X7_lines_5 {τ : tSt} {n : Nat} {v : Int32} (hv : vp_in v 40) (hn : τ 0 (nI 26) = nI n) (hn40 : n < 40) (hmem : ∀ q, q < n → vp_in (τ 17 (nI q)) 40) : ∀ (p : Nat) (ρ : tSt), p ≤ n → (∀ c, c ≠ 17 → ρ c = τ c) → (∀ q, q ≤ p → q < n → ρ 17 (nI q) = τ 17 (nI q)) → (∀ q, p < q → q ≤ n → ρ 17 (nI q) = τ 17 (nI (q - 1))) → (∀ q, p ≤ q → q < n → (s_in τ v < s_in τ (τ 17 (nI q)) ∨ (s_in τ (τ 17 (nI q)) = s_in τ v ∧ v < τ 17 (nI q)))) → TT mX7_lines 5 [.ref 0, .int v, .int (nI p)] [] ρ (fun r ρ => r = none ∧ (∀ c, c ≠ 17 → c ≠ 0 → ρ c = τ c) ∧ (∀ i, i ≠ nI 26 → ρ 0 i = τ 0 i) ∧ ρ 0 (nI 26) = nI (n + 1) ∧ ∃ p, p ≤ n ∧ (∀ q, q < p → ρ 17 (nI q) = τ 17 (nI q)) ∧ ρ 17 (nI p) = v ∧ (∀ q, p < q → q ≤ n → ρ 17 (nI q) = τ 17 (nI (q - 1))) ∧ (∀ q, p ≤ q → q < n → (s_in τ v < s_in τ (τ 17 (nI q)) ∨ (s_in τ (τ 17 (nI q)) = s_in τ v ∧ v < τ 17 (nI q)))) ∧ (0 < p → ¬ (s_in τ v < s_in τ (τ 17 (nI (p - 1))) ∨ (s_in τ (τ 17 (nI (p - 1))) = s_in τ v ∧ v < τ 17 (nI (p - 1)))))) := by
  intro p
  induction p with
  | zero =>
    intro ρ hp h1 h2 h3 h4
    refine tr_iload_n eX7_lines_5 rfl ?_
    refine tr_if_le eX7_lines_6 (fun h6 => ?_) (fun h6 => ?_)
    · skip
      refine tr_aload_n eX7_lines_81 rfl ?_
      refine tr_getR eX7_lines_82 fk_X7_62 rfl rfl ?_
      refine tr_iload_n eX7_lines_85 rfl ?_
      refine tr_iload_n eX7_lines_86 rfl ?_
      refine tr_iast eX7_lines_87 rfl (vp_in_nI (by omega) (by decide)) ?_
      refine tr_aload_n eX7_lines_88 rfl ?_
      refine tr_dup eX7_lines_89 rfl ?_
      refine tr_getI eX7_lines_90 fk_X7_188 rfl rfl ?_
      try simp (disch := decide) only [up_k, up_s, up_f, s_set_0]
      refine tr_iconst eX7_lines_93 (nI 1) ci_1 ?_
      refine tr_iadd eX7_lines_94 ?_
      refine tr_put eX7_lines_95 fp_X7_188 rfl rfl ?_
      refine tr_vret eX7_lines_98 rfl ?_
      refine ⟨rfl, fun c a b => ?_, fun i hi => ?_, ?_, 0, by omega, fun q hq => absurd hq (by omega), ?_, fun q a b => ?_, h4, fun q => absurd q (by omega)⟩
      · rw [up_k b, up_k a]; exact h1 c a
      · rw [up_n hi, up_k (by decide), h1 0 (by decide)]
      · rw [up_s, h1 0 (by decide), hn]; exact nI_1 n
      · rw [up_k (by decide), up_s]
      · rw [up_k (by decide), up_n (fun e => absurd (nI_inj (by omega) (by omega) e) (by omega))]; exact h3 q a b
    · skip
      exact absurd (show nI 0 ≤ 0 by decide) h6
  | succ p ih =>
    intro ρ hp h1 h2 h3 h4
    have hsub : nI (p + 1) - nI 1 = nI p := pk_sub (by omega)
    have hg : ρ 17 (nI p) = τ 17 (nI p) := h2 p (by omega) (by omega)
    have h10 : ρ 10 = τ 10 := h1 10 (by decide)
    have hinm : ∀ x, s_in ρ x = s_in τ x := fun x => by rw [s_in, h10]; rfl
    have hmv : vp_in (ρ 17 (nI p)) 40 := by rw [hg]; exact hmem p (by omega)
    refine tr_iload_n eX7_lines_5 rfl ?_
    refine tr_if_le eX7_lines_6 (fun h6 => ?_) (fun h6 => ?_)
    · skip
      exact absurd h6 (nI_nle (by omega) (by omega))
    · skip
      refine tr_aload_n eX7_lines_9 rfl ?_
      refine tr_aload_n eX7_lines_10 rfl ?_
      refine tr_getR eX7_lines_11 fk_X7_62 rfl rfl ?_
      refine tr_iload_n eX7_lines_14 rfl ?_
      refine tr_iconst eX7_lines_15 (nI 1) ci_1 ?_
      refine tr_isub eX7_lines_16 ?_
      rw [hsub]
      refine tr_iald eX7_lines_17 rfl (vp_in_nI (by omega) (by decide)) ?_
      refine tr_ce1 eX7_lines_18 zv_X7_inOf zi_X7_inOf lk_X7_119 ⟨rfl, by decide, by decide⟩ rfl rfl rfl (k_X7_inOf hmv) ?_
      refine tr_aload_n eX7_lines_21 rfl ?_
      refine tr_iload_n eX7_lines_22 rfl ?_
      refine tr_ce1 eX7_lines_23 zv_X7_inOf zi_X7_inOf lk_X7_119 ⟨rfl, by decide, by decide⟩ rfl rfl rfl (k_X7_inOf hv) ?_
      refine tr_icmp_gt eX7_lines_26 (fun h26 => ?_) (fun h26 => ?_)
      · skip
        rw [hinm, hinm, hg] at h26
        refine tr_aload_n eX7_lines_61 rfl ?_
        refine tr_getR eX7_lines_62 fk_X7_62 rfl rfl ?_
        refine tr_iload_n eX7_lines_65 rfl ?_
        refine tr_aload_n eX7_lines_66 rfl ?_
        refine tr_getR eX7_lines_67 fk_X7_62 rfl rfl ?_
        refine tr_iload_n eX7_lines_70 rfl ?_
        refine tr_iconst eX7_lines_71 (nI 1) ci_1 ?_
        refine tr_isub eX7_lines_72 ?_
        rw [hsub]
        refine tr_iald eX7_lines_73 rfl (vp_in_nI (by omega) (by decide)) ?_
        refine tr_iast eX7_lines_74 rfl (vp_in_nI (by omega) (by decide)) ?_
        refine tr_iinc eX7_lines_75 _ (by first | with_reducible exact inc_n _ | with_reducible exact ix_s _ _ | with_reducible rfl) rfl (by decide) rfl ?_
        refine tr_goto eX7_lines_78 ?_
        rw [show nI (p + 1) + Int32.ofInt (-1) = nI p from by rw [← dec1]; exact hsub]
        refine ih _ (by omega) (fun c a => by rw [up_k a]; exact h1 c a) (fun q a b => ?_) (fun q a b => ?_) (fun q a b => ?_)
        · rw [up_n (fun e => absurd (nI_inj (by omega) (by omega) e) (by omega))]; exact h2 q (by omega) b
        · by_cases hq : q = p + 1
          · subst hq; rw [up_s, hg]; rfl
          · rw [up_n (fun e => hq (nI_inj (by omega) (by omega) e))]; exact h3 q (by omega) b
        · by_cases hq : q = p
          · subst hq; exact Or.inl h26
          · exact h4 q (by omega) b
      · skip
        rw [hinm, hinm, hg] at h26
        refine tr_aload_n eX7_lines_29 rfl ?_
        refine tr_aload_n eX7_lines_30 rfl ?_
        refine tr_getR eX7_lines_31 fk_X7_62 rfl rfl ?_
        refine tr_iload_n eX7_lines_34 rfl ?_
        refine tr_iconst eX7_lines_35 (nI 1) ci_1 ?_
        refine tr_isub eX7_lines_36 ?_
        rw [hsub]
        refine tr_iald eX7_lines_37 rfl (vp_in_nI (by omega) (by decide)) ?_
        refine tr_ce1 eX7_lines_38 zv_X7_inOf zi_X7_inOf lk_X7_119 ⟨rfl, by decide, by decide⟩ rfl rfl rfl (k_X7_inOf hmv) ?_
        refine tr_aload_n eX7_lines_41 rfl ?_
        refine tr_iload_n eX7_lines_42 rfl ?_
        refine tr_ce1 eX7_lines_43 zv_X7_inOf zi_X7_inOf lk_X7_119 ⟨rfl, by decide, by decide⟩ rfl rfl rfl (k_X7_inOf hv) ?_
        refine tr_icmp_ne eX7_lines_46 (fun h46 => ?_) (fun h46 => ?_)
        · skip
          rw [hinm, hinm, hg] at h46
          refine tr_aload_n eX7_lines_81 rfl ?_
          refine tr_getR eX7_lines_82 fk_X7_62 rfl rfl ?_
          refine tr_iload_n eX7_lines_85 rfl ?_
          refine tr_iload_n eX7_lines_86 rfl ?_
          refine tr_iast eX7_lines_87 rfl (vp_in_nI (by omega) (by decide)) ?_
          refine tr_aload_n eX7_lines_88 rfl ?_
          refine tr_dup eX7_lines_89 rfl ?_
          refine tr_getI eX7_lines_90 fk_X7_188 rfl rfl ?_
          try simp (disch := decide) only [up_k, up_s, up_f, s_set_0]
          refine tr_iconst eX7_lines_93 (nI 1) ci_1 ?_
          refine tr_iadd eX7_lines_94 ?_
          refine tr_put eX7_lines_95 fp_X7_188 rfl rfl ?_
          refine tr_vret eX7_lines_98 rfl ?_
          refine ⟨rfl, fun c a b => ?_, fun i hi => ?_, ?_, p + 1, hp, fun q hq => ?_, ?_, fun q a b => ?_, h4, fun _ => (fun q => by rcases q with q | ⟨q1, q2⟩; exact h26 q; exact h46 q1)⟩
          · rw [up_k b, up_k a]; exact h1 c a
          · rw [up_n hi, up_k (by decide), h1 0 (by decide)]
          · rw [up_s, h1 0 (by decide), hn]; exact nI_1 n
          · rw [up_k (by decide), up_n (fun e => absurd (nI_inj (by omega) (by omega) e) (by omega))]; exact h2 q (by omega) (by omega)
          · rw [up_k (by decide), up_s]
          · rw [up_k (by decide), up_n (fun e => absurd (nI_inj (by omega) (by omega) e) (by omega))]; exact h3 q a b
        · skip
          rw [hinm, hinm, hg] at h46
          refine tr_aload_n eX7_lines_49 rfl ?_
          refine tr_getR eX7_lines_50 fk_X7_62 rfl rfl ?_
          refine tr_iload_n eX7_lines_53 rfl ?_
          refine tr_iconst eX7_lines_54 (nI 1) ci_1 ?_
          refine tr_isub eX7_lines_55 ?_
          rw [hsub]
          refine tr_iald eX7_lines_56 rfl (vp_in_nI (by omega) (by decide)) ?_
          refine tr_iload_n eX7_lines_57 rfl ?_
          refine tr_icmp_le eX7_lines_58 (fun h58 => ?_) (fun h58 => ?_)
          · skip
            rw [hg] at h58
            refine tr_aload_n eX7_lines_81 rfl ?_
            refine tr_getR eX7_lines_82 fk_X7_62 rfl rfl ?_
            refine tr_iload_n eX7_lines_85 rfl ?_
            refine tr_iload_n eX7_lines_86 rfl ?_
            refine tr_iast eX7_lines_87 rfl (vp_in_nI (by omega) (by decide)) ?_
            refine tr_aload_n eX7_lines_88 rfl ?_
            refine tr_dup eX7_lines_89 rfl ?_
            refine tr_getI eX7_lines_90 fk_X7_188 rfl rfl ?_
            try simp (disch := decide) only [up_k, up_s, up_f, s_set_0]
            refine tr_iconst eX7_lines_93 (nI 1) ci_1 ?_
            refine tr_iadd eX7_lines_94 ?_
            refine tr_put eX7_lines_95 fp_X7_188 rfl rfl ?_
            refine tr_vret eX7_lines_98 rfl ?_
            refine ⟨rfl, fun c a b => ?_, fun i hi => ?_, ?_, p + 1, hp, fun q hq => ?_, ?_, fun q a b => ?_, h4, fun _ => (fun q => by rcases q with q | ⟨q1, q2⟩; exact h26 q; exact absurd q2 (Int32.not_lt.mpr h58))⟩
            · rw [up_k b, up_k a]; exact h1 c a
            · rw [up_n hi, up_k (by decide), h1 0 (by decide)]
            · rw [up_s, h1 0 (by decide), hn]; exact nI_1 n
            · rw [up_k (by decide), up_n (fun e => absurd (nI_inj (by omega) (by omega) e) (by omega))]; exact h2 q (by omega) (by omega)
            · rw [up_k (by decide), up_s]
            · rw [up_k (by decide), up_n (fun e => absurd (nI_inj (by omega) (by omega) e) (by omega))]; exact h3 q a b
          · skip
            rw [hg] at h58
            refine tr_aload_n eX7_lines_61 rfl ?_
            refine tr_getR eX7_lines_62 fk_X7_62 rfl rfl ?_
            refine tr_iload_n eX7_lines_65 rfl ?_
            refine tr_aload_n eX7_lines_66 rfl ?_
            refine tr_getR eX7_lines_67 fk_X7_62 rfl rfl ?_
            refine tr_iload_n eX7_lines_70 rfl ?_
            refine tr_iconst eX7_lines_71 (nI 1) ci_1 ?_
            refine tr_isub eX7_lines_72 ?_
            rw [hsub]
            refine tr_iald eX7_lines_73 rfl (vp_in_nI (by omega) (by decide)) ?_
            refine tr_iast eX7_lines_74 rfl (vp_in_nI (by omega) (by decide)) ?_
            refine tr_iinc eX7_lines_75 _ (by first | with_reducible exact inc_n _ | with_reducible exact ix_s _ _ | with_reducible rfl) rfl (by decide) rfl ?_
            refine tr_goto eX7_lines_78 ?_
            rw [show nI (p + 1) + Int32.ofInt (-1) = nI p from by rw [← dec1]; exact hsub]
            refine ih _ (by omega) (fun c a => by rw [up_k a]; exact h1 c a) (fun q a b => ?_) (fun q a b => ?_) (fun q a b => ?_)
            · rw [up_n (fun e => absurd (nI_inj (by omega) (by omega) e) (by omega))]; exact h2 q (by omega) b
            · by_cases hq : q = p + 1
              · subst hq; rw [up_s, hg]; rfl
              · rw [up_n (fun e => hq (nI_inj (by omega) (by omega) e))]; exact h3 q (by omega) b
            · by_cases hq : q = p
              · subst hq; exact Or.inr ⟨h46, Int32.not_le.mp h58⟩
              · exact h4 q (by omega) b
theorem k_X7_lines {τ : tSt} {n : Nat} {v : Int32} (hv : vp_in v 40) (hn : τ 0 (nI 26) = nI n) (hn40 : n < 40) (hmem : ∀ q, q < n → vp_in (τ 17 (nI q)) 40) : CT mX7_lines [.ref 0, .int v] τ (fun r ρ => r = none ∧ (∀ c, c ≠ 17 → c ≠ 0 → ρ c = τ c) ∧ (∀ i, i ≠ nI 26 → ρ 0 i = τ 0 i) ∧ ρ 0 (nI 26) = nI (n + 1) ∧ ∃ p, p ≤ n ∧ (∀ q, q < p → ρ 17 (nI q) = τ 17 (nI q)) ∧ ρ 17 (nI p) = v ∧ (∀ q, p < q → q ≤ n → ρ 17 (nI q) = τ 17 (nI (q - 1))) ∧ (∀ q, p ≤ q → q < n → (s_in τ v < s_in τ (τ 17 (nI q)) ∨ (s_in τ (τ 17 (nI q)) = s_in τ v ∧ v < τ 17 (nI q)))) ∧ (0 < p → ¬ (s_in τ v < s_in τ (τ 17 (nI (p - 1))) ∨ (s_in τ (τ 17 (nI (p - 1))) = s_in τ v ∧ v < τ 17 (nI (p - 1)))))) := by
  refine CT.of2 1 (by decide) rfl rfl ?_
  refine tr_aload_n eX7_lines_0 rfl ?_
  refine tr_getI eX7_lines_1 fk_X7_188 rfl rfl ?_
  rw [hn]
  refine tr_istore_n eX7_lines_4 (by decide) rfl ?_
  exact lp_X7_lines_5 hv hn hn40 hmem n τ (Nat.le_refl _) (fun _ _ => rfl) (fun _ _ _ => rfl) (fun q a b => absurd a (by omega)) (fun q a b => absurd a (by omega))

theorem kx_lt {μ : tSt} {x u a b : Nat} (hx : s_in μ (nI x) = nI a) (hu : s_in μ (nI u) = nI b) (ha : a ≤ 2880) (hb : b ≤ 2880) (h64 : x < 40) (hu64 : u < 40) : kx μ u < kx μ x ↔ (s_in μ (nI u) < s_in μ (nI x) ∨ (s_in μ (nI x) = s_in μ (nI u) ∧ nI u < nI x)) := by
  rw [kx, kx, hx, hu, tn_of (n := b) rfl (by omega), tn_of (n := a) rfl (by omega), nI_ltI (by omega) (by omega), nI_eq (by omega) (by omega), nI_ltI (by omega) (by omega)]
  omega
theorem LNS_v {g : Int32 → Int32} {l : List Nat} {N : Nat} (h : LNS g l) (hl : ∀ x ∈ l, x < N) (hN : N < 2 ^ 31) : ∀ q, q < l.length → vp_in (g (nI q)) N := fun q hq => by
  rw [h q hq]; exact vp_in_nI (hl _ (List.getElem_mem hq)) hN
/-- what a line is after u has come, for any way of coming that keeps it sorted -/
theorem line_step {μ : tSt} {g g' : Int32 → Int32} {l : List Nat} {u p : Nat} (h : LNS g l) (hS : SR μ l) (hl : l.length < 40) (hu : u ∉ l) (hp : p ≤ l.length) (h1 : ∀ q, q < p → g' (nI q) = g (nI q)) (h2 : g' (nI p) = nI u) (h3 : ∀ q, p < q → q ≤ l.length → g' (nI q) = g (nI (q - 1)))
    (hg : ∀ q (hq : q < l.length), p ≤ q → kx μ u < kx μ l[q]) (hm : 0 < p → ∀ hq : p - 1 < l.length, ¬ kx μ u < kx μ l[p - 1]) (hinj : ∀ x ∈ l, kx μ x = kx μ u → x = u) :
    ∃ l', LNS g' l' ∧ SR μ l' ∧ l'.length = l.length + 1 ∧ ∀ x, x ∈ l' ↔ x = u ∨ x ∈ l := by
  refine ⟨l.take p ++ u :: l.drop p, LNS_ins h hl hp h1 h2 h3, SR_ins hS hp hg (fun q hq hqp => ?_), ?_, fun x => mem_ins⟩
  · subst hqp
    have a := hm (by omega) hq
    have b : kx μ l[q] ≠ kx μ u := fun e => hu (by rw [← hinj _ (List.getElem_mem hq) e]; exact List.getElem_mem hq)
    simp only [Nat.add_sub_cancel] at a
    omega
  · simp; omega
