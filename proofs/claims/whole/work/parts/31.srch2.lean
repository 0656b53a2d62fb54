/-! SEARCH: the list, the ends, the best -/
def sl0 (P : Int32 → Bool) (n : Nat) : List Nat := (List.range n).filter (fun x => P (nI x))
theorem sl0_t {P : Int32 → Bool} {n : Nat} (h : P (nI n) = true) : sl0 P (n + 1) = sl0 P n ++ [n] := by
  simp [sl0, List.range_succ, List.filter_append, h]
theorem sl0_f {P : Int32 → Bool} {n : Nat} (h : ¬ P (nI n) = true) : sl0 P (n + 1) = sl0 P n := by
  simp [sl0, List.range_succ, List.filter_append, h]
theorem sl0_len (P : Int32 → Bool) (n : Nat) : (sl0 P n).length ≤ n := by
  unfold sl0
  exact Nat.le_trans (List.length_filter_le _ _) (by simp)
theorem mem_sl0 {P : Int32 → Bool} {n x : Nat} : x ∈ sl0 P n ↔ x < n ∧ P (nI x) = true := by simp [sl0]
def ND (l : List Nat) : Prop := ∀ p q, p < q → q < l.length → l.getD p 0 ≠ l.getD q 0
theorem getD_at {l : List Nat} {p : Nat} (h : p < l.length) : l.getD p 0 = l[p] := by
  rw [List.getD_eq_getElem?_getD, List.getElem?_eq_getElem h]; rfl
theorem sl0_ND (P : Int32 → Bool) (n : Nat) : ND (sl0 P n) := by
  intro p q hpq hq
  have h : (sl0 P n).Pairwise (· < ·) := List.Pairwise.filter _ List.pairwise_lt_range
  rw [getD_at (by omega), getD_at hq]
  have := List.pairwise_iff_getElem.mp h p q (by omega) hq hpq
  omega
theorem LNS_snoc {g g' : Int32 → Int32} {l : List Nat} {u : Nat} (h : LNS g l) (h1 : ∀ q, q < l.length → g' (nI q) = g (nI q)) (h2 : g' (nI l.length) = nI u) : LNS g' (l ++ [u]) := by
  intro q hq
  rw [List.length_append] at hq
  by_cases hl : q < l.length
  · rw [List.getElem_append_left hl, h1 q hl, h q hl]
  · have e : q = l.length := by simp at hq; omega
    subst e
    rw [List.getElem_append_right (Nat.le_refl _)]
    simpa using h2
def offA (l : List Nat) (μ : tSt) : tSt := l.foldl (fun m v => up m 12 (nI v) (nI 0)) μ
def setA (b : Int32 → Int32) : Nat → List Nat → tSt → tSt
  | _, [], μ => μ
  | i, v :: l, μ => setA b (i + 1) l (s_set μ (nI v) (b (nI i)) (s_in μ (nI v)) (s_out μ (nI v)))
def cpA (n : Nat) (g b : Int32 → Int32) : Int32 → Int32 := fun j => if ¬ j < 0 ∧ j < nI n then g j else b j
def cnG (n : Nat) (s : tSS) : Nat := ct (fun i => s_gate s.2.2.2 (s.2.1 i)) n 0
abbrev tBB : Type := Int32 × (Int32 → Int32)
def kpA (n : Nat) (s : tSS) (b : tBB) : tBB := if b.1 < nI (cnG n s) then (nI (cnG n s), cpA n s.2.1 b.2) else b
def runA (all : Bool) (l : List Nat) (nS : Nat) : Nat → tSS → tBB → Int32 × tSS × tBB
  | 0, s, b => (nI 10, s, b)
  | f + 1, s, b => if s.1 = 0 then (nI 11, s, b) else if (stp l nS s).1 = -1 then runA all l nS f (stp l nS s).2 b
    else if (stp l nS s).1 = nI 0 then (if all = true then runA all l nS f (stp l nS s).2 (kpA l.length (stp l nS s).2 b) else (nI 0, (stp l nS s).2, kpA l.length (stp l nS s).2 b)) else ((stp l nS s).1, (stp l nS s).2, b)
theorem stp_code (l : List Nat) (nS : Nat) (s : tSS) : (stp l nS s).1 = -1 ∨ (stp l nS s).1 = nI 0 ∨ (stp l nS s).1 = nI 10 := by
  unfold stp
  split
  · exact Or.inl rfl
  · split
    · exact Or.inr (Or.inr rfl)
    · split
      · exact Or.inl rfl
      · split
        · exact Or.inr (Or.inl rfl)
        · exact Or.inl rfl
theorem run1_code (l : List Nat) (nS : Nat) : ∀ (f : Nat) (s : tSS), (run1 l nS f s).1 = nI 0 ∨ (run1 l nS f s).1 = nI 10 ∨ (run1 l nS f s).1 = nI 11
  | 0, _ => Or.inr (Or.inl rfl)
  | f + 1, s => by
    simp only [run1]
    split
    · exact Or.inr (Or.inr rfl)
    · split
      · exact run1_code l nS f _
      · rename_i h
        rcases stp_code l nS s with q | q | q
        · exact absurd q h
        · exact Or.inl q
        · exact Or.inr (Or.inl q)
theorem n0_10 : ¬ nI 0 = nI 10 := by decide
theorem n0_m1 : ¬ nI 0 = -1 := by decide
theorem n0_11 : ¬ nI 0 = nI 11 := by decide
theorem n10_11 : ¬ nI 10 = nI 11 := by decide
theorem stp_le {l : List Nat} {nS : Nat} {s : tSS} (h0 : 0 < s.1) (ht : s.2.2.1 ≤ 5000) : msr (stp l nS s).2 ≤ msr s := by
  by_cases hc : (stp l nS s).1 = nI 10
  · unfold stp at hc ⊢
    split
    · rename_i h1; rw [if_pos h1] at hc; exact absurd hc m1_10
    · rename_i h1
      rw [if_neg h1] at hc
      split
      · exact Nat.le_refl _
      · rename_i h2
        rw [if_neg h2] at hc
        split
        · rename_i h3; rw [if_pos h3] at hc; exact absurd hc m1_10
        · rename_i h3
          rw [if_neg h3] at hc
          split
          · rename_i h4; rw [if_pos h4] at hc; exact absurd hc n0_10
          · rename_i h4; rw [if_neg h4] at hc; exact absurd hc m1_10
  · exact Nat.le_of_lt (stp_msr h0 ht hc)
theorem run1_le {l : List Nat} {nS nP nC nV : Nat} (hl : l.length ≤ 40) : ∀ (f : Nat) (s : tSS), sOKs l nS nP nC nV s → msr (run1 l nS f s).2 ≤ msr s
  | 0, _, _ => Nat.le_refl _
  | f + 1, s, h => by
    simp only [run1]
    split
    · exact Nat.le_refl _
    · rename_i h0
      split
      · exact Nat.le_trans (run1_le hl f _ (stp_ok hl h (by omega))) (stp_le (by omega) h.2.1)
      · exact stp_le (by omega) h.2.1
theorem runA_fuel {all : Bool} {l : List Nat} {nS nP nC nV : Nat} (hl : l.length ≤ 40) : ∀ (f g : Nat) (s : tSS) (b : tBB), sOKs l nS nP nC nV s → msr s < f → msr s < g → runA all l nS f s b = runA all l nS g s b
  | 0, _, _, _, _, h, _ => absurd h (by omega)
  | _ + 1, 0, _, _, _, _, h => absurd h (by omega)
  | f + 1, g + 1, s, b, hs, h1, h2 => by
    simp only [runA]
    split
    · rfl
    · rename_i h0
      split
      · rename_i hc
        have hm := stp_msr (l := l) (nS := nS) (s := s) (by omega) hs.2.1 (by rw [hc]; exact m1_10)
        exact runA_fuel hl f g _ _ (stp_ok hl hs (by omega)) (by omega) (by omega)
      · split
        · rename_i hc
          have hm := stp_msr (l := l) (nS := nS) (s := s) (by omega) hs.2.1 (by rw [hc]; exact n0_10)
          split
          · exact runA_fuel hl f g _ _ (stp_ok hl hs (by omega)) (by omega) (by omega)
          · rfl
        · rfl
theorem runA_run1 {all : Bool} {l : List Nat} {nS nP nC nV : Nat} (hl : l.length ≤ 40) : ∀ (f : Nat) (s : tSS) (b : tBB), sOKs l nS nP nC nV s → msr s < f → runA all l nS f s b = if (run1 l nS f s).1 = nI 0 then (if all = true then runA all l nS f (run1 l nS f s).2 (kpA l.length (run1 l nS f s).2 b) else (nI 0, (run1 l nS f s).2, kpA l.length (run1 l nS f s).2 b)) else ((run1 l nS f s).1, (run1 l nS f s).2, b)
  | 0, _, _, _, h => absurd h (by omega)
  | f + 1, s, b, hs, hf => by
    by_cases h0 : s.1 = 0
    · have e : run1 l nS (f + 1) s = (nI 11, s) := by rw [run1, if_pos h0]
      rw [e, runA, if_pos h0, if_neg (show ¬ nI 11 = nI 0 by decide)]
    · have hok := stp_ok hl hs (by omega)
      by_cases hc : (stp l nS s).1 = -1
      · have hm := stp_msr (l := l) (nS := nS) (s := s) (by omega) hs.2.1 (by rw [hc]; exact m1_10)
        have e : run1 l nS (f + 1) s = run1 l nS f (stp l nS s).2 := by rw [run1, if_neg h0, if_pos hc]
        have hle := run1_le hl f _ hok
        rw [e, runA, if_neg h0, if_pos hc, runA_run1 hl f _ b hok (by omega)]
        split
        · split
          · exact runA_fuel hl f (f + 1) _ _ (run1_ok hl f _ hok) (by omega) (by omega)
          · rfl
        · rfl
      · have e : run1 l nS (f + 1) s = stp l nS s := by rw [run1, if_neg h0, if_neg hc]
        rw [e, runA, if_neg h0, if_neg hc]
        split
        · rename_i hz
          have hm := stp_msr (l := l) (nS := nS) (s := s) (by omega) hs.2.1 (by rw [hz]; exact n0_10)
          split
          · exact runA_fuel hl f (f + 1) _ _ hok (by omega) (by omega)
          · rfl
        · rfl
/-! a whole: all stands set, all tried are stands -/
def WHo (l : List Nat) (nS : Nat) (s : tSS) : Prop := s.1 = l.length ∧ ∀ p, p < l.length → ∃ c, c < nS ∧ s.2.1 (nI p) = nI c
def plA (μ : tSt) (v s : Int32) : Prop := μ 12 v = nI 1 ∧ μ 13 (v * nI 8) = s ∧ μ 14 (v * nI 8) = s_in μ v ∧ μ 15 (v * nI 8) = s_out μ v
def PL (l : List Nat) (s : tSS) (n : Nat) : Prop := ∀ p, p < n → plA s.2.2.2 (nI (l.getD p 0)) (s.2.1 (nI p))
theorem plA_off {μ : tSt} {u v s x : Int32} (h : plA μ v s) (hn : v ≠ u) : plA (up μ 12 u x) v s := ⟨by rw [up_n hn]; exact h.1, h.2⟩
theorem nI8_ne {u v : Nat} (hu : u < 40) (hv : v < 40) (h : u ≠ v) : nI u * nI 8 ≠ nI v * nI 8 := by
  have := sl_ne0 (k := 0) hu hv (by omega) (by omega)
  rwa [add_n0] at this
theorem plA_set {μ : tSt} {u v : Nat} {s c a b : Int32} (h : plA μ (nI v) s) (hu : u < 40) (hv : v < 40) (hn : v ≠ u) : plA (s_set μ (nI u) c a b) (nI v) s := by
  have h8 := nI8_ne hv hu hn
  have h1 : nI v ≠ nI u := nI_ne (by omega) (by omega) hn
  obtain ⟨a1, a2, a3, a4⟩ := h
  refine ⟨?_, ?_, ?_, ?_⟩
  · unfold s_set; rw [up_k (by decide), up_k (by decide), up_k (by decide), up_n h1]; exact a1
  · unfold s_set; rw [up_k (by decide), up_k (by decide), up_n h8, up_k (by decide)]; exact a2
  · unfold s_set; rw [up_k (by decide), up_n h8, up_k (by decide), up_k (by decide)]; exact a3
  · unfold s_set; rw [up_n h8, up_k (by decide), up_k (by decide), up_k (by decide)]; exact a4
theorem plA_self (μ : tSt) (v c : Int32) : plA (s_set μ v c (s_in μ v) (s_out μ v)) v c := by
  refine ⟨?_, ?_, ?_, ?_⟩
  · unfold s_set; rw [up_k (by decide), up_k (by decide), up_k (by decide), up_s]
  · unfold s_set; rw [up_k (by decide), up_k (by decide), up_s]
  · unfold s_set; rw [up_k (by decide), up_s]; rfl
  · unfold s_set; rw [up_s]; rfl
theorem stp_wh {l : List Nat} {nS nP nC nV : Nat} {s : tSS} (hl : l.length ≤ 40) (hs : sOKs l nS nP nC nV s) (h0 : 0 < s.1) (hc : (stp l nS s).1 = nI 0) : WHo l nS (stp l nS s).2 := by
  have hok := stp_ok hl hs h0
  obtain ⟨c, hcS, ec⟩ := sOK_c hs h0
  have hS24 := hs.2.2.1.1.1.2
  have key : (stp l nS s).2.1 = l.length ∧ (stp l nS s).2.2.1 (nI (l.length - 1)) = nI c ∧ c < nS := by
    unfold stp at hc ⊢
    rw [ec] at hc ⊢
    split
    · rename_i h1; rw [if_pos h1] at hc; exact absurd hc (show ¬ (-1 : Int32) = nI 0 by decide)
    · rename_i h1
      rw [if_neg h1] at hc
      have hlt : c < nS := (nI_ltI (by omega) (by omega)).mp (n_not h1)
      split
      · rename_i h2; rw [if_pos h2] at hc; exact absurd hc (show ¬ nI 10 = nI 0 by decide)
      · rename_i h2
        rw [if_neg h2] at hc
        split
        · rename_i h3; rw [if_pos h3] at hc; exact absurd hc (show ¬ (-1 : Int32) = nI 0 by decide)
        · rename_i h3
          rw [if_neg h3] at hc
          split
          · rename_i h4
            refine ⟨h4, ?_, hlt⟩
            show upA s.2.1 (nI (s.1 - 1)) (nI c) (nI (l.length - 1)) = nI c
            rw [← h4, upA_s]
          · rename_i h4; rw [if_neg h4] at hc; exact absurd hc (show ¬ (-1 : Int32) = nI 0 by decide)
  refine ⟨key.1, fun p hp => ?_⟩
  by_cases hq : p = l.length - 1
  · subst hq; exact ⟨c, key.2.2, key.2.1⟩
  · exact hok.2.2.2.2.1 p (by rw [key.1]; omega)
theorem stp_pl {l : List Nat} {nS nP nC nV : Nat} {s : tSS} (hl : l.length ≤ 40) (hN : ND l) (hs : sOKs l nS nP nC nV s) (h0 : 0 < s.1) (hp : PL l s (s.1 - 1)) : PL l (stp l nS s).2 ((stp l nS s).2.1 - 1) ∧ ((stp l nS s).1 = nI 0 → PL l (stp l nS s).2 l.length) := by
  have hlen : s.1 ≤ l.length := hs.1
  have hV40 := hs.2.2.1.1.2.2.2.2
  have hlt : ∀ p, p < l.length → l.getD p 0 < 40 := fun p hp => by have := (hs.2.2.2.1 _ (getD_mem hp)).1; omega
  have hne : ∀ p, p < s.1 - 1 → l.getD p 0 ≠ l.getD (s.1 - 1) 0 := fun p hp => hN p (s.1 - 1) hp (by omega)
  have hoff : ∀ p, p < s.1 - 1 → ∀ x, plA (up s.2.2.2 12 (nI (l.getD (s.1 - 1) 0)) (nI 0)) (nI (l.getD p 0)) (upA s.2.1 (nI (s.1 - 1)) x (nI p)) := fun p q x => by
    rw [upA_n (nI_ne (by omega) (by omega) (by omega))]
    exact plA_off (hp p q) (nI_ne (by have := hlt p (by omega); omega) (by have := hlt (s.1 - 1) (by omega); omega) (hne p q))
  have hset : ∀ p, p < s.1 → ∀ c, plA (s_set (up s.2.2.2 12 (nI (l.getD (s.1 - 1) 0)) (nI 0)) (nI (l.getD (s.1 - 1) 0)) c (s_in s.2.2.2 (nI (l.getD (s.1 - 1) 0))) (s_out s.2.2.2 (nI (l.getD (s.1 - 1) 0)))) (nI (l.getD p 0)) (upA s.2.1 (nI (s.1 - 1)) c (nI p)) := fun p q c => by
    by_cases e : p = s.1 - 1
    · subst e
      rw [upA_s]
      exact plA_self _ _ _
    · exact plA_set (hoff p (by omega) c) (hlt _ (by omega)) (hlt _ (by omega)) (hne p (by omega))
  unfold stp
  split
  · exact ⟨fun p q => hoff p (by have : p < s.1 - 1 - 1 := q; omega) _, fun q => absurd q (show ¬ (-1 : Int32) = nI 0 by decide)⟩
  · split
    · exact ⟨fun p q => hoff p q _, fun q => absurd q (show ¬ nI 10 = nI 0 by decide)⟩
    · split
      · exact ⟨fun p q => hoff p q _, fun q => absurd q (show ¬ (-1 : Int32) = nI 0 by decide)⟩
      · split
        · rename_i h4
          exact ⟨fun p q => hset p (by have : p < s.1 - 1 := q; omega) _, fun _ p q => hset p (by omega) _⟩
        · refine ⟨fun p q => ?_, fun q => absurd q (show ¬ (-1 : Int32) = nI 0 by decide)⟩
          have q' : p < s.1 + 1 - 1 := q
          show plA _ _ (upA (upA s.2.1 (nI (s.1 - 1)) _) (nI s.1) (-1) (nI p))
          rw [upA_n (nI_ne (by omega) (by omega) (by omega))]
          exact hset p (by omega) _
theorem run1_wh {l : List Nat} {nS nP nC nV : Nat} (hl : l.length ≤ 40) : ∀ (f : Nat) (s : tSS), sOKs l nS nP nC nV s → (run1 l nS f s).1 = nI 0 → WHo l nS (run1 l nS f s).2
  | 0, _, _, h => absurd h (show ¬ nI 10 = nI 0 by decide)
  | f + 1, s, hs, hc => by
    simp only [run1] at hc ⊢
    split
    · rename_i h0; rw [if_pos h0] at hc; exact absurd hc (show ¬ nI 11 = nI 0 by decide)
    · rename_i h0
      rw [if_neg h0] at hc
      split
      · rename_i h1; rw [if_pos h1] at hc; exact run1_wh hl f _ (stp_ok hl hs (by omega)) hc
      · rename_i h1; rw [if_neg h1] at hc; exact stp_wh hl hs (by omega) hc
theorem run1_pl {l : List Nat} {nS nP nC nV : Nat} (hl : l.length ≤ 40) (hN : ND l) : ∀ (f : Nat) (s : tSS), sOKs l nS nP nC nV s → PL l s (s.1 - 1) → (run1 l nS f s).1 = nI 0 → PL l (run1 l nS f s).2 l.length
  | 0, _, _, _, h => absurd h (show ¬ nI 10 = nI 0 by decide)
  | f + 1, s, hs, hp, hc => by
    simp only [run1] at hc ⊢
    split
    · rename_i h0; rw [if_pos h0] at hc; exact absurd hc (show ¬ nI 11 = nI 0 by decide)
    · rename_i h0
      rw [if_neg h0] at hc
      split
      · rename_i h1; rw [if_pos h1] at hc; exact run1_pl hl hN f _ (stp_ok hl hs (by omega)) (stp_pl hl hN hs (by omega) hp).1 hc
      · rename_i h1; rw [if_neg h1] at hc; exact (stp_pl hl hN hs (by omega) hp).2 hc
/-- a whole costs a try -/
theorem run1_tr {l : List Nat} {nS : Nat} : ∀ (f : Nat) (s : tSS), s.2.2.1 ≤ (run1 l nS f s).2.2.2.1 ∧ ((run1 l nS f s).1 = nI 0 → s.2.2.1 < (run1 l nS f s).2.2.2.1)
  | 0, _ => ⟨Nat.le_refl _, fun h => absurd h (show ¬ nI 10 = nI 0 by decide)⟩
  | f + 1, s => by
    have hst : s.2.2.1 ≤ (stp l nS s).2.2.2.1 ∧ ((stp l nS s).1 = nI 0 → s.2.2.1 < (stp l nS s).2.2.2.1) := by
      unfold stp
      split
      · exact ⟨Nat.le_refl _, fun h => absurd h (show ¬ (-1 : Int32) = nI 0 by decide)⟩
      · split
        · exact ⟨Nat.le_refl _, fun h => absurd h (show ¬ nI 10 = nI 0 by decide)⟩
        · split
          · exact ⟨Nat.le_succ _, fun _ => Nat.lt_succ_self _⟩
          · split
            · exact ⟨Nat.le_succ _, fun _ => Nat.lt_succ_self _⟩
            · exact ⟨Nat.le_succ _, fun _ => Nat.lt_succ_self _⟩
    simp only [run1]
    split
    · exact ⟨Nat.le_refl _, fun h => absurd h (show ¬ nI 11 = nI 0 by decide)⟩
    · split
      · have := run1_tr (l := l) (nS := nS) f (stp l nS s).2
        exact ⟨Nat.le_trans hst.1 this.1, fun h => Nat.lt_of_le_of_lt hst.1 (this.2 h)⟩
      · exact hst
