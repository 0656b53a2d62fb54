/-! SEARCH, of the view: depth + 1, the stands tried, how many tries, the view -/
abbrev tSS : Type := Nat × (Int32 → Int32) × Nat × tSt
def upA (g : Int32 → Int32) (i x : Int32) : Int32 → Int32 := fun j => if j = i then x else g j
theorem upA_s {g : Int32 → Int32} {i x : Int32} : upA g i x i = x := by simp [upA]
theorem upA_n {g : Int32 → Int32} {i j x : Int32} (h : j ≠ i) : upA g i x j = g j := by simp [upA, h]
theorem up_upA (σ : tSt) (k : Nat) (i x : Int32) : up σ k i x k = upA (σ k) i x := by funext j; rw [up_at]; rfl
def stp (l : List Nat) (nS : Nat) (s : tSS) : Int32 × tSS :=
  if ¬ s.2.1 (nI (s.1 - 1)) + nI 1 < nI nS then (-1, s.1 - 1, upA s.2.1 (nI (s.1 - 1)) (s.2.1 (nI (s.1 - 1)) + nI 1), s.2.2.1, up s.2.2.2 12 (nI (l.getD (s.1 - 1) 0)) (nI 0))
  else if ¬ s.2.2.1 < 5000 then (nI 10, s.1, upA s.2.1 (nI (s.1 - 1)) (s.2.1 (nI (s.1 - 1)) + nI 1), s.2.2.1, up s.2.2.2 12 (nI (l.getD (s.1 - 1) 0)) (nI 0))
  else if ¬ (s_A (up s.2.2.2 12 (nI (l.getD (s.1 - 1) 0)) (nI 0)) (nI (l.getD (s.1 - 1) 0)) (s.2.1 (nI (s.1 - 1)) + nI 1) (s_in s.2.2.2 (nI (l.getD (s.1 - 1) 0))) (s_out s.2.2.2 (nI (l.getD (s.1 - 1) 0)))).1 = 0 then (-1, s.1, upA s.2.1 (nI (s.1 - 1)) (s.2.1 (nI (s.1 - 1)) + nI 1), s.2.2.1 + 1, up s.2.2.2 12 (nI (l.getD (s.1 - 1) 0)) (nI 0))
  else if s.1 = l.length then (nI 0, s.1, upA s.2.1 (nI (s.1 - 1)) (s.2.1 (nI (s.1 - 1)) + nI 1), s.2.2.1 + 1, s_set (up s.2.2.2 12 (nI (l.getD (s.1 - 1) 0)) (nI 0)) (nI (l.getD (s.1 - 1) 0)) (s.2.1 (nI (s.1 - 1)) + nI 1) (s_in s.2.2.2 (nI (l.getD (s.1 - 1) 0))) (s_out s.2.2.2 (nI (l.getD (s.1 - 1) 0))))
  else (-1, s.1 + 1, upA (upA s.2.1 (nI (s.1 - 1)) (s.2.1 (nI (s.1 - 1)) + nI 1)) (nI s.1) (-1), s.2.2.1 + 1, s_set (up s.2.2.2 12 (nI (l.getD (s.1 - 1) 0)) (nI 0)) (nI (l.getD (s.1 - 1) 0)) (s.2.1 (nI (s.1 - 1)) + nI 1) (s_in s.2.2.2 (nI (l.getD (s.1 - 1) 0))) (s_out s.2.2.2 (nI (l.getD (s.1 - 1) 0))))
/-- to the next whole: 0; 11 none any more; 10 spent -/
def run1 (l : List Nat) (nS : Nat) : Nat → tSS → Int32 × tSS
  | 0, s => (nI 10, s)
  | f + 1, s => if s.1 = 0 then (nI 11, s) else if (stp l nS s).1 = -1 then run1 l nS f (stp l nS s).2 else stp l nS s
/-- what holds of such a state -/
def sOKs (l : List Nat) (nS nP nC nV : Nat) (s : tSS) : Prop := s.1 ≤ l.length ∧ s.2.2.1 ≤ 5000 ∧ iA s.2.2.2 nS nP nC nV ∧ (∀ v ∈ l, v < nV ∧ nI 2 < s.2.2.2 11 (nI v)) ∧ (∀ p, p + 1 < s.1 → ∃ c, c < nS ∧ s.2.1 (nI p) = nI c) ∧ (0 < s.1 → s.2.1 (nI (s.1 - 1)) = -1 ∨ ∃ c, c < nS ∧ s.2.1 (nI (s.1 - 1)) = nI c)
theorem m1_1 : (-1 : Int32) + nI 1 = nI 0 := by decide
theorem sOK_c {l : List Nat} {nS nP nC nV : Nat} {s : tSS} (h : sOKs l nS nP nC nV s) (h0 : 0 < s.1) : ∃ c, c ≤ nS ∧ s.2.1 (nI (s.1 - 1)) + nI 1 = nI c := by
  rcases h.2.2.2.2.2 h0 with e | ⟨c, hc, e⟩
  · exact ⟨0, Nat.zero_le _, by rw [e]; exact m1_1⟩
  · exact ⟨c + 1, hc, by rw [e]; exact nI_1 c⟩
theorem getD_mem {l : List Nat} {i : Nat} (hi : i < l.length) : l.getD i 0 ∈ l := by
  rw [List.getD_eq_getElem?_getD, List.getElem?_eq_getElem hi]
  exact List.getElem_mem hi
theorem stp_ok {l : List Nat} {nS nP nC nV : Nat} {s : tSS} (hl : l.length ≤ 40) (h : sOKs l nS nP nC nV s) (h0 : 0 < s.1) : sOKs l nS nP nC nV (stp l nS s).2 := by
  obtain ⟨c, hc, ec⟩ := sOK_c h h0
  obtain ⟨h1, h2, h3, h4, h5, h6⟩ := h
  obtain ⟨hvV, hvu⟩ := h4 _ (getD_mem (l := l) (i := s.1 - 1) (by omega))
  have hS24 := h3.1.1.2
  have hoff := iA_off h3 hvV
  have hne : ∀ p, p + 1 < s.1 → nI p ≠ nI (s.1 - 1) := fun p hp => nI_ne (by omega) (by omega) (by omega)
  unfold stp
  rw [ec]
  split
  · refine ⟨by show s.1 - 1 ≤ _; omega, h2, hoff, h4, fun p hp => ?_, fun q => ?_⟩
    · have hp' : p + 1 < s.1 - 1 := hp
      show ∃ c, c < nS ∧ upA s.2.1 (nI (s.1 - 1)) (nI _) (nI p) = nI c
      rw [upA_n (hne p (by omega))]; exact h5 p (by omega)
    · have q' : 0 < s.1 - 1 := q
      right
      show ∃ c, c < nS ∧ upA s.2.1 (nI (s.1 - 1)) (nI _) (nI (s.1 - 1 - 1)) = nI c
      rw [upA_n (hne _ (by omega))]; exact h5 _ (by omega)
  · rename_i hlt
    have hcS : c < nS := (nI_ltI (by omega) (by omega)).mp (n_not hlt)
    have T5 : ∀ p, p + 1 < s.1 → ∃ c, c < nS ∧ upA s.2.1 (nI (s.1 - 1)) (nI c) (nI p) = nI c := fun p hp => by
      obtain ⟨c', a, b⟩ := h5 p hp
      exact ⟨c', a, by rw [upA_n (hne p hp)]; exact b⟩
    have T5' : ∀ p, p + 1 < s.1 → ∃ c', c' < nS ∧ upA s.2.1 (nI (s.1 - 1)) (nI c) (nI p) = nI c' := fun p hp => by
      rw [upA_n (hne p hp)]; exact h5 p hp
    have T6 : 0 < s.1 → upA s.2.1 (nI (s.1 - 1)) (nI c) (nI (s.1 - 1)) = -1 ∨ ∃ c', c' < nS ∧ upA s.2.1 (nI (s.1 - 1)) (nI c) (nI (s.1 - 1)) = nI c' := fun _ => Or.inr ⟨c, hcS, upA_s⟩
    split
    · exact ⟨h1, h2, hoff, h4, T5', T6⟩
    · rename_i ht
      split
      · exact ⟨h1, by show s.2.2.1 + 1 ≤ 5000; omega, hoff, h4, T5', T6⟩
      · obtain ⟨a, b, e1, e2, hab, hb⟩ := h3.2.2.1.1.io hvV
        have hset : iA (s_set (up s.2.2.2 12 (nI (l.getD (s.1 - 1) 0)) (nI 0)) (nI (l.getD (s.1 - 1) 0)) (nI c) (s_in s.2.2.2 (nI (l.getD (s.1 - 1) 0))) (s_out s.2.2.2 (nI (l.getD (s.1 - 1) 0)))) nS nP nC nV := by
          rw [e1, e2]; exact iA_set hoff hvV hvu hcS hab hb
        split
        · exact ⟨h1, by show s.2.2.1 + 1 ≤ 5000; omega, hset, h4, T5', T6⟩
        · refine ⟨by show s.1 + 1 ≤ _; omega, by show s.2.2.1 + 1 ≤ 5000; omega, hset, h4, fun p hp => ?_, fun _ => Or.inl ?_⟩
          · have hp' : p + 1 < s.1 + 1 := hp
            show ∃ c', c' < nS ∧ upA (upA s.2.1 (nI (s.1 - 1)) (nI c)) (nI s.1) (-1) (nI p) = nI c'
            rw [upA_n (nI_ne (by omega) (by omega) (by omega))]
            by_cases hq : p = s.1 - 1
            · subst hq; exact ⟨c, hcS, upA_s⟩
            · exact T5' p (by omega)
          · show upA (upA s.2.1 (nI (s.1 - 1)) (nI c)) (nI s.1) (-1) (nI (s.1 + 1 - 1)) = -1
            rw [Nat.add_sub_cancel, upA_s]
def msr (s : tSS) : Nat := 2 * (5000 - s.2.2.1) + s.1
theorem stp_msr {l : List Nat} {nS : Nat} {s : tSS} (h0 : 0 < s.1) (ht : s.2.2.1 ≤ 5000) (hc : ¬ (stp l nS s).1 = nI 10) : msr (stp l nS s).2 < msr s := by
  unfold stp at hc ⊢
  split
  · show 2 * (5000 - s.2.2.1) + (s.1 - 1) < 2 * (5000 - s.2.2.1) + s.1; omega
  · rename_i h1
    rw [if_neg h1] at hc
    split
    · rename_i h2
      rw [if_pos h2] at hc
      exact absurd rfl hc
    · split
      · show 2 * (5000 - (s.2.2.1 + 1)) + s.1 < 2 * (5000 - s.2.2.1) + s.1; omega
      · split
        · show 2 * (5000 - (s.2.2.1 + 1)) + s.1 < 2 * (5000 - s.2.2.1) + s.1; omega
        · show 2 * (5000 - (s.2.2.1 + 1)) + (s.1 + 1) < 2 * (5000 - s.2.2.1) + s.1; omega
theorem m1_10 : ¬ (-1 : Int32) = nI 10 := by decide
theorem run1_fuel {l : List Nat} {nS nP nC nV : Nat} (hl : l.length ≤ 40) : ∀ (f g : Nat) (s : tSS), sOKs l nS nP nC nV s → msr s < f → msr s < g → run1 l nS f s = run1 l nS g s
  | 0, _, _, _, h, _ => absurd h (by omega)
  | _ + 1, 0, _, _, _, h => absurd h (by omega)
  | f + 1, g + 1, s, hs, h1, h2 => by
    simp only [run1]
    split
    · rfl
    · rename_i h0
      split
      · rename_i hc
        have hm := stp_msr (l := l) (nS := nS) (s := s) (by omega) hs.2.1 (by rw [hc]; exact m1_10)
        exact run1_fuel hl f g _ (stp_ok hl hs (by omega)) (by omega) (by omega)
      · rfl
theorem run1_ok {l : List Nat} {nS nP nC nV : Nat} (hl : l.length ≤ 40) : ∀ (f : Nat) (s : tSS), sOKs l nS nP nC nV s → sOKs l nS nP nC nV (run1 l nS f s).2
  | 0, _, h => h
  | f + 1, s, h => by
    simp only [run1]
    split
    · exact h
    · rename_i h0
      split
      · exact run1_ok hl f _ (stp_ok hl h (by omega))
      · exact stp_ok hl h (by omega)
