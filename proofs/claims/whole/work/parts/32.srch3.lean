/-! SEARCH: nothing of what lay there before is seen -/
theorem ct_congr {P R : Int32 → Bool} : ∀ {f i : Nat}, (∀ j, i ≤ j → j < i + f → P (nI j) = R (nI j)) → ct P f i = ct R f i
  | 0, _, _ => rfl
  | f + 1, i, h => by
    rw [ct, ct, h i (Nat.le_refl _) (by omega), ct_congr (fun j a b => h j (by omega) (by omega))]
def EQs (s s' : tSS) : Prop := s.1 = s'.1 ∧ s.2.2 = s'.2.2 ∧ ∀ p, p < s.1 → s.2.1 (nI p) = s'.2.1 (nI p)
theorem upA_cg {g g' : Int32 → Int32} {d : Nat} (h : ∀ p, p < d → g (nI p) = g' (nI p)) (i x : Int32) : ∀ p, p < d → upA g i x (nI p) = upA g' i x (nI p) := fun p hp => by
  unfold upA
  split
  · rfl
  · exact h p hp
theorem upA_cg2 {g g' : Int32 → Int32} {d : Nat} (h : ∀ p, p < d → g (nI p) = g' (nI p)) (x : Int32) : ∀ p, p < d + 1 → upA g (nI d) x (nI p) = upA g' (nI d) x (nI p) := fun p hp => by
  unfold upA
  split
  · rfl
  · rename_i hn
    refine h p ?_
    rcases Nat.lt_or_ge p d with q | q
    · exact q
    · exact absurd (show nI p = nI d by rw [show p = d by omega]) hn
theorem stp_cg {l : List Nat} {nS : Nat} {s s' : tSS} (h0 : 0 < s.1) (h : EQs s s') : (stp l nS s).1 = (stp l nS s').1 ∧ EQs (stp l nS s).2 (stp l nS s').2 := by
  obtain ⟨d, tr, r⟩ := s
  obtain ⟨d', tr', r'⟩ := s'
  obtain ⟨h1, h2, h3⟩ := h
  dsimp only at h1 h2 h3 h0
  subst h1 h2
  obtain ⟨t, μ⟩ := r
  have e := h3 (d - 1) (by omega)
  unfold stp
  dsimp only
  by_cases c1 : ¬ tr (nI (d - 1)) + nI 1 < nI nS
  · have c1' : ¬ tr' (nI (d - 1)) + nI 1 < nI nS := e ▸ c1
    rw [if_pos c1, if_pos c1']
    exact ⟨rfl, rfl, rfl, fun p hp => by dsimp only; rw [e]; exact upA_cg h3 _ _ p (by have : p < d - 1 := hp; omega)⟩
  · have c1' : ¬ ¬ tr' (nI (d - 1)) + nI 1 < nI nS := e ▸ c1
    rw [if_neg c1, if_neg c1']
    by_cases c2 : ¬ t < 5000
    · rw [if_pos c2, if_pos c2]
      exact ⟨rfl, rfl, rfl, fun p hp => by dsimp only; rw [e]; exact upA_cg h3 _ _ p hp⟩
    · rw [if_neg c2, if_neg c2]
      by_cases c3 : ¬ (s_A (up μ 12 (nI (l.getD (d - 1) 0)) (nI 0)) (nI (l.getD (d - 1) 0)) (tr (nI (d - 1)) + nI 1) (s_in μ (nI (l.getD (d - 1) 0))) (s_out μ (nI (l.getD (d - 1) 0)))).1 = 0
      · have c3' : ¬ (s_A (up μ 12 (nI (l.getD (d - 1) 0)) (nI 0)) (nI (l.getD (d - 1) 0)) (tr' (nI (d - 1)) + nI 1) (s_in μ (nI (l.getD (d - 1) 0))) (s_out μ (nI (l.getD (d - 1) 0)))).1 = 0 := e ▸ c3
        rw [if_pos c3, if_pos c3']
        exact ⟨rfl, rfl, rfl, fun p hp => by dsimp only; rw [e]; exact upA_cg h3 _ _ p hp⟩
      · have c3' : ¬ ¬ (s_A (up μ 12 (nI (l.getD (d - 1) 0)) (nI 0)) (nI (l.getD (d - 1) 0)) (tr' (nI (d - 1)) + nI 1) (s_in μ (nI (l.getD (d - 1) 0))) (s_out μ (nI (l.getD (d - 1) 0)))).1 = 0 := e ▸ c3
        rw [if_neg c3, if_neg c3']
        by_cases c4 : d = l.length
        · rw [if_pos c4, if_pos c4]
          exact ⟨rfl, rfl, by dsimp only; rw [e], fun p hp => by dsimp only; rw [e]; exact upA_cg h3 _ _ p hp⟩
        · rw [if_neg c4, if_neg c4]
          exact ⟨rfl, rfl, by dsimp only; rw [e], fun p hp => by dsimp only; rw [e]; exact upA_cg2 (upA_cg h3 _ _) _ p hp⟩
def BEq (n : Nat) (b b' : tBB) : Prop := b.1 = b'.1 ∧ (¬ b.1 < 0 → ∀ p, p < n → b.2 (nI p) = b'.2 (nI p))
theorem cnG_cg {n : Nat} {s s' : tSS} (hn : n = s.1) (h : EQs s s') : cnG n s = cnG n s' := by
  unfold cnG
  refine ct_congr (fun j _ hj => ?_)
  rw [h.2.1, h.2.2 j (by omega)]
theorem kpA_cg {n : Nat} {s s' : tSS} {b b' : tBB} (hn : n = s.1) (h40 : n ≤ 40) (h : EQs s s') (hb : BEq n b b') : BEq n (kpA n s b) (kpA n s' b') := by
  unfold kpA
  rw [← cnG_cg hn h, ← hb.1]
  split
  · refine ⟨rfl, fun _ p hp => ?_⟩
    show cpA n s.2.1 b.2 (nI p) = cpA n s'.2.1 b'.2 (nI p)
    have hc : ¬ nI p < 0 ∧ nI p < nI n := ⟨fun q => absurd (nI_pos' (by omega)) (Int32.not_le.mpr q), (nI_ltI (by omega) (by omega)).mpr hp⟩
    rw [cpA, cpA, if_pos hc, if_pos hc]
    exact h.2.2 p (by omega)
  · exact hb
theorem runA_cg {all : Bool} {l : List Nat} {nS nP nC nV : Nat} (hl : l.length ≤ 40) : ∀ (f : Nat) (s s' : tSS) (b b' : tBB), sOKs l nS nP nC nV s → EQs s s' → BEq l.length b b' → (runA all l nS f s b).1 = (runA all l nS f s' b').1 ∧ EQs (runA all l nS f s b).2.1 (runA all l nS f s' b').2.1 ∧ BEq l.length (runA all l nS f s b).2.2 (runA all l nS f s' b').2.2
  | 0, _, _, _, _, _, h1, h2 => ⟨rfl, h1, h2⟩
  | f + 1, s, s', b, b', hs, h1, h2 => by
    simp only [runA]
    by_cases h0 : s.1 = 0
    · rw [if_pos h0, if_pos (h1.1 ▸ h0)]
      exact ⟨rfl, h1, h2⟩
    · rw [if_neg h0, if_neg (fun q => h0 (h1.1.trans q))]
      obtain ⟨e1, e2⟩ := stp_cg (l := l) (nS := nS) (by omega) h1
      have hok := stp_ok hl hs (by omega)
      rw [← e1]
      by_cases hc : (stp l nS s).1 = -1
      · rw [if_pos hc, if_pos hc]
        exact runA_cg hl f _ _ _ _ hok e2 h2
      · rw [if_neg hc, if_neg hc]
        by_cases hz : (stp l nS s).1 = nI 0
        · rw [if_pos hz, if_pos hz]
          have hk := kpA_cg (stp_wh hl hs (by omega) hz).1.symm hl e2 h2
          by_cases ha : all = true
          · rw [if_pos ha, if_pos ha]
            exact runA_cg hl f _ _ _ _ hok e2 hk
          · rw [if_neg ha, if_neg ha]
            exact ⟨rfl, e2, hk⟩
        · rw [if_neg hz, if_neg hz]
          exact ⟨rfl, e2, h2⟩
theorem runA_ok {all : Bool} {l : List Nat} {nS nP nC nV : Nat} (hl : l.length ≤ 40) : ∀ (f : Nat) (s : tSS) (b : tBB), sOKs l nS nP nC nV s → sOKs l nS nP nC nV (runA all l nS f s b).2.1
  | 0, _, _, h => h
  | f + 1, s, b, hs => by
    simp only [runA]
    split
    · exact hs
    · rename_i h0
      have hok := stp_ok hl hs (by omega)
      split
      · exact runA_ok hl f _ _ hok
      · split
        · split
          · exact runA_ok hl f _ _ hok
          · exact hok
        · exact hok
/-- the best is none, or a number and stands -/
def BOK (n nS : Nat) (b : tBB) : Prop := b.1 = -1 ∨ (¬ b.1 < 0 ∧ ∀ p, p < n → ∃ c, c < nS ∧ b.2 (nI p) = nI c)
theorem ct_le' (P : Int32 → Bool) (f i : Nat) : ct P f i ≤ f := ct_le P f i
theorem kpA_ok {l : List Nat} {nS : Nat} {s : tSS} {b : tBB} (h40 : l.length ≤ 40) (hw : WHo l nS s) (hb : BOK l.length nS b) : BOK l.length nS (kpA l.length s b) ∧ ¬ (kpA l.length s b).1 < 0 := by
  have hc40 : cnG l.length s ≤ 40 := Nat.le_trans (ct_le _ _ _) h40
  unfold kpA
  split
  · have h0 : ¬ nI (cnG l.length s) < 0 := fun q => absurd (nI_pos' (by omega)) (Int32.not_le.mpr q)
    refine ⟨Or.inr ⟨h0, fun p hp => ?_⟩, h0⟩
    have hc : ¬ nI p < 0 ∧ nI p < nI l.length := ⟨fun q => absurd (nI_pos' (by omega)) (Int32.not_le.mpr q), (nI_ltI (by omega) (by omega)).mpr hp⟩
    show ∃ c, c < nS ∧ cpA l.length s.2.1 b.2 (nI p) = nI c
    rw [cpA, if_pos hc]
    exact hw.2 p hp
  · rename_i hn
    refine ⟨hb, ?_⟩
    rcases hb with e | e
    · rw [e] at hn
      exact absurd (i32_trans_le (show (-1 : Int32) < 0 by decide) (nI_pos' (by omega))) hn
    · exact e.1
theorem runA_b {all : Bool} {l : List Nat} {nS nP nC nV : Nat} (hl : l.length ≤ 40) : ∀ (f : Nat) (s : tSS) (b : tBB), sOKs l nS nP nC nV s → BOK l.length nS b → BOK l.length nS (runA all l nS f s b).2.2
  | 0, _, _, _, h => h
  | f + 1, s, b, hs, hb => by
    simp only [runA]
    split
    · exact hb
    · rename_i h0
      have hok := stp_ok hl hs (by omega)
      split
      · exact runA_b hl f _ _ hok hb
      · split
        · rename_i hz
          have hk := (kpA_ok hl (stp_wh hl hs (by omega) hz) hb).1
          split
          · exact runA_b hl f _ _ hok hk
          · exact hk
        · exact hb
theorem setA_cg {b b' : Int32 → Int32} : ∀ (l : List Nat) (i : Nat) (μ : tSt), (∀ p, i ≤ p → p < i + l.length → b (nI p) = b' (nI p)) → setA b i l μ = setA b' i l μ
  | [], _, _, _ => rfl
  | v :: l, i, μ, h => by
    rw [setA, setA, h i (Nat.le_refl _) (by simp)]
    exact setA_cg l (i + 1) _ (fun p a c => h p (by omega) (by simp only [List.length_cons]; omega))
theorem offA_k {l : List Nat} {k : Nat} (hk : k ≠ 12) : ∀ {μ : tSt}, offA l μ k = μ k := by
  unfold offA
  induction l with
  | nil => intro μ; rfl
  | cons v l ih => intro μ; rw [List.foldl_cons, ih, up_k hk]
theorem offA_n {l : List Nat} {j : Int32} (hj : ∀ v ∈ l, j ≠ nI v) : ∀ {μ : tSt} (k : Nat), offA l μ k j = μ k j := by
  unfold offA
  induction l with
  | nil => intro μ k; rfl
  | cons v l ih => intro μ k; rw [List.foldl_cons, ih (fun x hx => hj x (by simp [hx])), up_n (hj v (by simp))]
/-- off and set again as it was: as it was -/
theorem setA_back {μ : tSt} {b : Int32 → Int32} : ∀ (l : List Nat) (i : Nat) (ρ : tSt), (∀ k j, (k = 12 → ∀ v ∈ l, j ≠ nI v) → ρ k j = μ k j) → (∀ p (hp : p < l.length), plA μ (nI l[p]) (b (nI (i + p)))) → setA b i l ρ = μ
  | [], _, ρ, h, _ => by
    funext k j
    exact h k j (fun _ v hv => absurd hv (by simp))
  | v :: l, i, ρ, h, hp => by
    rw [setA]
    obtain ⟨p1, p2, p3, p4⟩ := hp 0 (by simp)
    have p1 : μ 12 (nI v) = nI 1 := p1
    have p2 : μ 13 (nI v * nI 8) = b (nI i) := p2
    have p3 : μ 14 (nI v * nI 8) = s_in μ (nI v) := p3
    have p4 : μ 15 (nI v * nI 8) = s_out μ (nI v) := p4
    have hk : ∀ k, k ≠ 12 → ρ k = μ k := fun k hk => funext fun j => h k j (fun q => absurd q hk)
    have e1 : s_in ρ (nI v) = s_in μ (nI v) := in_eq (hk 10 (by decide)) _
    have e2 : s_out ρ (nI v) = s_out μ (nI v) := out_eq (hk 10 (by decide)) (hk 11 (by decide)) _
    refine setA_back l (i + 1) _ (fun k j hj => ?_) (fun p hq => by have := hp (p + 1) (by simp; omega); rw [show i + 1 + p = i + (p + 1) by omega]; exact this)
    rw [e1, e2]
    unfold s_set
    simp only [up]
    by_cases k15 : k = 15
    · subst k15
      simp only [if_true]
      by_cases hj8 : j = nI v * nI 8
      · rw [if_pos hj8, hj8, p4]
      · rw [if_neg hj8]; simp only [show ¬ (15 = 14) by decide, show ¬ (15 = 13) by decide, show ¬ (15 = 12) by decide, if_false]; rw [hk 15 (by decide)]
    · rw [if_neg k15]
      by_cases k14 : k = 14
      · subst k14
        simp only [if_true]
        by_cases hj8 : j = nI v * nI 8
        · rw [if_pos hj8, hj8, p3]
        · rw [if_neg hj8]; simp only [show ¬ (14 = 13) by decide, show ¬ (14 = 12) by decide, if_false]; rw [hk 14 (by decide)]
      · rw [if_neg k14]
        by_cases k13 : k = 13
        · subst k13
          simp only [if_true]
          by_cases hj8 : j = nI v * nI 8
          · rw [if_pos hj8, hj8, p2]
          · rw [if_neg hj8]; simp only [show ¬ (13 = 12) by decide, if_false]; rw [hk 13 (by decide)]
        · rw [if_neg k13]
          by_cases k12 : k = 12
          · subst k12
            simp only [if_true]
            by_cases hjv : j = nI v
            · rw [if_pos hjv, hjv, p1]
            · rw [if_neg hjv]
              exact h 12 j (fun _ x hx => by
                rcases List.mem_cons.mp hx with e | e
                · rw [e]; exact hjv
                · exact hj rfl x e)
          · rw [if_neg k12, hk k k12]
theorem set_off {l : List Nat} {s : tSS} {b : Int32 → Int32} (h40 : l.length ≤ 40) (hp : PL l s l.length) (hb : ∀ p, p < l.length → b (nI p) = s.2.1 (nI p)) : setA b 0 l (offA l s.2.2.2) = s.2.2.2 := by
  refine setA_back l 0 _ (fun k j h => ?_) (fun p hq => ?_)
  · by_cases hk : k = 12
    · exact offA_n (h hk) k
    · rw [offA_k hk]
  · have := hp p hq
    rw [getD_at hq] at this
    rw [show 0 + p = p by omega, hb p hq]
    exact this
def l_srch (μ : tSt) : List Nat := sl0 (fun v => s_come μ (μ 0 (nI 4)) v) (tn (μ 0 (nI 3)))
def s_R (all : Bool) (μ : tSt) : Int32 × tSS × tBB := runA all (l_srch μ) (tn (μ 0 (nI 0))) 15001 (1, fun _ => -1, 0, μ) (-1, fun _ => 0)
def s_srchp (all : Bool) (μ : tSt) : Int32 × tSt :=
  if (l_srch μ).length = 0 then s_gr μ (nI 0)
  else if (s_R all μ).1 = nI 10 then s_rf (offA (l_srch μ) (s_R all μ).2.1.2.2.2) (nI 10)
  else if (s_R all μ).2.2.1 < 0 then s_rf (offA (l_srch μ) (s_R all μ).2.1.2.2.2) (nI 11)
  else s_gr (setA (s_R all μ).2.2.2 0 (l_srch μ) (offA (l_srch μ) (s_R all μ).2.1.2.2.2)) (if all = true then (s_R all μ).2.2.1 else nI (s_R all μ).2.1.2.2.1)
theorem s_R_ok {μ : tSt} {nS nP nC nV : Nat} (h : iA μ nS nP nC nV) (tr : Int32 → Int32) (h0 : tr (nI 0) = -1) : (l_srch μ).length ≤ 40 ∧ ND (l_srch μ) ∧ (0 < (l_srch μ).length → sOKs (l_srch μ) nS nP nC nV (1, tr, 0, μ)) ∧ PL (l_srch μ) (1, tr, 0, μ) 0 := by
  have eV := tn_of h.1.2.2.2.1 (by have := h.1.2.2.2.2; omega)
  have h40 : (l_srch μ).length ≤ 40 := by
    have := sl0_len (fun v => s_come μ (μ 0 (nI 4)) v) (tn (μ 0 (nI 3)))
    rw [eV] at this
    have h2 := h.1.2.2.2.2
    unfold l_srch
    rw [eV]
    omega
  refine ⟨h40, sl0_ND _ _, fun hp => ⟨hp, Nat.zero_le _, h, fun v hv => ?_, fun p hq => absurd hq (by show ¬ p + 1 < 1; omega), fun _ => Or.inl h0⟩, fun p hq => absurd hq (by omega)⟩
  obtain ⟨a, b⟩ := mem_sl0.mp hv
  rw [eV] at a
  obtain ⟨c, _⟩ := cand_come h a b
  exact ⟨c.1, c.2.1⟩
