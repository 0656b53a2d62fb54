/-- what the document tells of a store of this world: arrays 1..16; numbers at 0 -/
def aX (σ : tSt) : tSt := fun k i => if k = 0 then (if i = nI 0 then σ 17 (nI 9) else (if i = nI 1 then σ 17 (nI 10) else (if i = nI 2 then σ 17 (nI 11) else (if i = nI 3 then σ 18 (nI 6) else (if i = nI 4 then σ 18 (nI 7) else (if i = nI 5 then σ 0 (nI 6) else (if i = nI 6 then σ 0 (nI 7) else (if i = nI 7 then σ 0 (nI 8) else (if i = nI 8 then σ 0 (nI 9) else (if i = nI 9 then σ 25 (nI 1) else (0))))))))))) else if k ≤ 16 then σ k i else 0
theorem aX_0 (σ : tSt) : aX σ 0 (nI 0) = σ 17 (nI 9) := by
  simp only [aX, if_pos]
  
theorem aX_1 (σ : tSt) : aX σ 0 (nI 1) = σ 17 (nI 10) := by
  simp only [aX, if_pos]
  rw [if_neg (by decide)]
theorem aX_2 (σ : tSt) : aX σ 0 (nI 2) = σ 17 (nI 11) := by
  simp only [aX, if_pos]
  rw [if_neg (by decide), if_neg (by decide)]
theorem aX_3 (σ : tSt) : aX σ 0 (nI 3) = σ 18 (nI 6) := by
  simp only [aX, if_pos]
  rw [if_neg (by decide), if_neg (by decide), if_neg (by decide)]
theorem aX_4 (σ : tSt) : aX σ 0 (nI 4) = σ 18 (nI 7) := by
  simp only [aX, if_pos]
  rw [if_neg (by decide), if_neg (by decide), if_neg (by decide), if_neg (by decide)]
theorem aX_5 (σ : tSt) : aX σ 0 (nI 5) = σ 0 (nI 6) := by
  simp only [aX, if_pos]
  rw [if_neg (by decide), if_neg (by decide), if_neg (by decide), if_neg (by decide), if_neg (by decide)]
theorem aX_6 (σ : tSt) : aX σ 0 (nI 6) = σ 0 (nI 7) := by
  simp only [aX, if_pos]
  rw [if_neg (by decide), if_neg (by decide), if_neg (by decide), if_neg (by decide), if_neg (by decide), if_neg (by decide)]
theorem aX_7 (σ : tSt) : aX σ 0 (nI 7) = σ 0 (nI 8) := by
  simp only [aX, if_pos]
  rw [if_neg (by decide), if_neg (by decide), if_neg (by decide), if_neg (by decide), if_neg (by decide), if_neg (by decide), if_neg (by decide)]
theorem aX_8 (σ : tSt) : aX σ 0 (nI 8) = σ 0 (nI 9) := by
  simp only [aX, if_pos]
  rw [if_neg (by decide), if_neg (by decide), if_neg (by decide), if_neg (by decide), if_neg (by decide), if_neg (by decide), if_neg (by decide), if_neg (by decide)]
theorem aX_9 (σ : tSt) : aX σ 0 (nI 9) = σ 25 (nI 1) := by
  simp only [aX, if_pos]
  rw [if_neg (by decide), if_neg (by decide), if_neg (by decide), if_neg (by decide), if_neg (by decide), if_neg (by decide), if_neg (by decide), if_neg (by decide), if_neg (by decide)]
theorem aX_k (σ : tSt) {k : Nat} (h : k ≠ 0 ∧ k ≤ 16) : aX σ k = σ k := by
  funext i
  simp only [aX]
  rw [if_neg h.1, if_pos h.2]
theorem aX_z (σ : tSt) {k : Nat} (h : 16 < k) (i : Int32) : aX σ k i = 0 := by
  simp only [aX]
  rw [if_neg (by omega), if_neg (by omega)]
theorem aX_ext {σ : tSt} {μ : tSt} (h0 : ∀ i, μ 0 i = aX σ 0 i) (h1 : ∀ k, k ≠ 0 → k ≤ 16 → μ k = σ k) (h2 : ∀ k, 16 < k → ∀ i, μ k i = 0) : aX σ = μ := by
  funext k i
  by_cases hk : k = 0
  · subst hk; exact (h0 i).symm
  · by_cases hk2 : k ≤ 16
    · rw [aX_k σ ⟨hk, hk2⟩, h1 k hk hk2]
    · rw [h2 k (by omega) i]; simp [aX, hk, hk2]
theorem aX_u (σ : tSt) {k : Nat} (h : k ≠ 0 ∧ k ≤ 16) (i x : Int32) : aX (up σ k i x) = up (aX σ) k i x := by
  refine aX_ext (fun i' => ?_) (fun k' a b => ?_) (fun k' a i' => ?_)
  · rw [up_k (Ne.symm h.1)]
    simp only [aX, if_pos]
    rw [up_k (σ := σ) (k' := 0) (k := k) (by omega), up_k (σ := σ) (k' := 17) (k := k) (by omega), up_k (σ := σ) (k' := 18) (k := k) (by omega), up_k (σ := σ) (k' := 25) (k := k) (by omega)]
  · by_cases hk : k' = k
    · subst hk; funext i'; simp [up, aX_k σ h]
    · rw [up_k hk, up_k hk, aX_k σ ⟨a, b⟩]
  · rw [up_k (by omega)]; exact aX_z σ a _
theorem aX_f17_9 (σ : tSt) (x : Int32) : aX (up σ 17 (nI 9) x) = up (aX σ) 0 (nI 0) x := by
  refine aX_ext (fun i' => ?_) (fun k' a b => ?_) (fun k' a i' => ?_)
  · rw [up_at]
    simp only [aX, if_pos]
    rw [up_s (σ := σ) (k := 17) (i := nI 9) (x := x), up_f (σ := σ) (k := 17) (k' := 17) (a := 9) (b := 10) (x := x) (by decide), up_f (σ := σ) (k := 17) (k' := 17) (a := 9) (b := 11) (x := x) (by decide), up_k (σ := σ) (k' := 0) (k := 17) (by decide), up_k (σ := σ) (k' := 18) (k := 17) (by decide), up_k (σ := σ) (k' := 25) (k := 17) (by decide)]
    by_cases hi : i' = nI 0
    · subst hi
      rw [if_pos rfl, if_pos rfl]
    · rw [if_neg hi]
      simp only [hi, if_false]
  · rw [up_k a, aX_k σ ⟨a, b⟩, up_k (by omega)]
  · rw [up_k (by omega)]; exact aX_z σ a _
theorem aX_f17_10 (σ : tSt) (x : Int32) : aX (up σ 17 (nI 10) x) = up (aX σ) 0 (nI 1) x := by
  refine aX_ext (fun i' => ?_) (fun k' a b => ?_) (fun k' a i' => ?_)
  · rw [up_at]
    simp only [aX, if_pos]
    rw [up_f (σ := σ) (k := 17) (k' := 17) (a := 10) (b := 9) (x := x) (by decide), up_s (σ := σ) (k := 17) (i := nI 10) (x := x), up_f (σ := σ) (k := 17) (k' := 17) (a := 10) (b := 11) (x := x) (by decide), up_k (σ := σ) (k' := 0) (k := 17) (by decide), up_k (σ := σ) (k' := 18) (k := 17) (by decide), up_k (σ := σ) (k' := 25) (k := 17) (by decide)]
    by_cases hi : i' = nI 1
    · subst hi
      rw [if_pos rfl, if_neg (by decide), if_pos rfl]
    · rw [if_neg hi]
      simp only [hi, if_false]
  · rw [up_k a, aX_k σ ⟨a, b⟩, up_k (by omega)]
  · rw [up_k (by omega)]; exact aX_z σ a _
theorem aX_f17_11 (σ : tSt) (x : Int32) : aX (up σ 17 (nI 11) x) = up (aX σ) 0 (nI 2) x := by
  refine aX_ext (fun i' => ?_) (fun k' a b => ?_) (fun k' a i' => ?_)
  · rw [up_at]
    simp only [aX, if_pos]
    rw [up_f (σ := σ) (k := 17) (k' := 17) (a := 11) (b := 9) (x := x) (by decide), up_f (σ := σ) (k := 17) (k' := 17) (a := 11) (b := 10) (x := x) (by decide), up_s (σ := σ) (k := 17) (i := nI 11) (x := x), up_k (σ := σ) (k' := 0) (k := 17) (by decide), up_k (σ := σ) (k' := 18) (k := 17) (by decide), up_k (σ := σ) (k' := 25) (k := 17) (by decide)]
    by_cases hi : i' = nI 2
    · subst hi
      rw [if_pos rfl, if_neg (by decide), if_neg (by decide), if_pos rfl]
    · rw [if_neg hi]
      simp only [hi, if_false]
  · rw [up_k a, aX_k σ ⟨a, b⟩, up_k (by omega)]
  · rw [up_k (by omega)]; exact aX_z σ a _
theorem aX_f18_6 (σ : tSt) (x : Int32) : aX (up σ 18 (nI 6) x) = up (aX σ) 0 (nI 3) x := by
  refine aX_ext (fun i' => ?_) (fun k' a b => ?_) (fun k' a i' => ?_)
  · rw [up_at]
    simp only [aX, if_pos]
    rw [up_s (σ := σ) (k := 18) (i := nI 6) (x := x), up_f (σ := σ) (k := 18) (k' := 18) (a := 6) (b := 7) (x := x) (by decide), up_k (σ := σ) (k' := 0) (k := 18) (by decide), up_k (σ := σ) (k' := 17) (k := 18) (by decide), up_k (σ := σ) (k' := 25) (k := 18) (by decide)]
    by_cases hi : i' = nI 3
    · subst hi
      rw [if_pos rfl, if_neg (by decide), if_neg (by decide), if_neg (by decide), if_pos rfl]
    · rw [if_neg hi]
      simp only [hi, if_false]
  · rw [up_k a, aX_k σ ⟨a, b⟩, up_k (by omega)]
  · rw [up_k (by omega)]; exact aX_z σ a _
theorem aX_f18_7 (σ : tSt) (x : Int32) : aX (up σ 18 (nI 7) x) = up (aX σ) 0 (nI 4) x := by
  refine aX_ext (fun i' => ?_) (fun k' a b => ?_) (fun k' a i' => ?_)
  · rw [up_at]
    simp only [aX, if_pos]
    rw [up_f (σ := σ) (k := 18) (k' := 18) (a := 7) (b := 6) (x := x) (by decide), up_s (σ := σ) (k := 18) (i := nI 7) (x := x), up_k (σ := σ) (k' := 0) (k := 18) (by decide), up_k (σ := σ) (k' := 17) (k := 18) (by decide), up_k (σ := σ) (k' := 25) (k := 18) (by decide)]
    by_cases hi : i' = nI 4
    · subst hi
      rw [if_pos rfl, if_neg (by decide), if_neg (by decide), if_neg (by decide), if_neg (by decide), if_pos rfl]
    · rw [if_neg hi]
      simp only [hi, if_false]
  · rw [up_k a, aX_k σ ⟨a, b⟩, up_k (by omega)]
  · rw [up_k (by omega)]; exact aX_z σ a _
theorem aX_f0_6 (σ : tSt) (x : Int32) : aX (up σ 0 (nI 6) x) = up (aX σ) 0 (nI 5) x := by
  refine aX_ext (fun i' => ?_) (fun k' a b => ?_) (fun k' a i' => ?_)
  · rw [up_at]
    simp only [aX, if_pos]
    rw [up_s (σ := σ) (k := 0) (i := nI 6) (x := x), up_f (σ := σ) (k := 0) (k' := 0) (a := 6) (b := 7) (x := x) (by decide), up_f (σ := σ) (k := 0) (k' := 0) (a := 6) (b := 8) (x := x) (by decide), up_f (σ := σ) (k := 0) (k' := 0) (a := 6) (b := 9) (x := x) (by decide), up_k (σ := σ) (k' := 17) (k := 0) (by decide), up_k (σ := σ) (k' := 18) (k := 0) (by decide), up_k (σ := σ) (k' := 25) (k := 0) (by decide)]
    by_cases hi : i' = nI 5
    · subst hi
      rw [if_pos rfl, if_neg (by decide), if_neg (by decide), if_neg (by decide), if_neg (by decide), if_neg (by decide), if_pos rfl]
    · rw [if_neg hi]
      simp only [hi, if_false]
  · rw [up_k a, aX_k σ ⟨a, b⟩, up_k (by omega)]
  · rw [up_k (by omega)]; exact aX_z σ a _
theorem aX_f0_7 (σ : tSt) (x : Int32) : aX (up σ 0 (nI 7) x) = up (aX σ) 0 (nI 6) x := by
  refine aX_ext (fun i' => ?_) (fun k' a b => ?_) (fun k' a i' => ?_)
  · rw [up_at]
    simp only [aX, if_pos]
    rw [up_f (σ := σ) (k := 0) (k' := 0) (a := 7) (b := 6) (x := x) (by decide), up_s (σ := σ) (k := 0) (i := nI 7) (x := x), up_f (σ := σ) (k := 0) (k' := 0) (a := 7) (b := 8) (x := x) (by decide), up_f (σ := σ) (k := 0) (k' := 0) (a := 7) (b := 9) (x := x) (by decide), up_k (σ := σ) (k' := 17) (k := 0) (by decide), up_k (σ := σ) (k' := 18) (k := 0) (by decide), up_k (σ := σ) (k' := 25) (k := 0) (by decide)]
    by_cases hi : i' = nI 6
    · subst hi
      rw [if_pos rfl, if_neg (by decide), if_neg (by decide), if_neg (by decide), if_neg (by decide), if_neg (by decide), if_neg (by decide), if_pos rfl]
    · rw [if_neg hi]
      simp only [hi, if_false]
  · rw [up_k a, aX_k σ ⟨a, b⟩, up_k (by omega)]
  · rw [up_k (by omega)]; exact aX_z σ a _
theorem aX_f0_8 (σ : tSt) (x : Int32) : aX (up σ 0 (nI 8) x) = up (aX σ) 0 (nI 7) x := by
  refine aX_ext (fun i' => ?_) (fun k' a b => ?_) (fun k' a i' => ?_)
  · rw [up_at]
    simp only [aX, if_pos]
    rw [up_f (σ := σ) (k := 0) (k' := 0) (a := 8) (b := 6) (x := x) (by decide), up_f (σ := σ) (k := 0) (k' := 0) (a := 8) (b := 7) (x := x) (by decide), up_s (σ := σ) (k := 0) (i := nI 8) (x := x), up_f (σ := σ) (k := 0) (k' := 0) (a := 8) (b := 9) (x := x) (by decide), up_k (σ := σ) (k' := 17) (k := 0) (by decide), up_k (σ := σ) (k' := 18) (k := 0) (by decide), up_k (σ := σ) (k' := 25) (k := 0) (by decide)]
    by_cases hi : i' = nI 7
    · subst hi
      rw [if_pos rfl, if_neg (by decide), if_neg (by decide), if_neg (by decide), if_neg (by decide), if_neg (by decide), if_neg (by decide), if_neg (by decide), if_pos rfl]
    · rw [if_neg hi]
      simp only [hi, if_false]
  · rw [up_k a, aX_k σ ⟨a, b⟩, up_k (by omega)]
  · rw [up_k (by omega)]; exact aX_z σ a _
theorem aX_f0_9 (σ : tSt) (x : Int32) : aX (up σ 0 (nI 9) x) = up (aX σ) 0 (nI 8) x := by
  refine aX_ext (fun i' => ?_) (fun k' a b => ?_) (fun k' a i' => ?_)
  · rw [up_at]
    simp only [aX, if_pos]
    rw [up_f (σ := σ) (k := 0) (k' := 0) (a := 9) (b := 6) (x := x) (by decide), up_f (σ := σ) (k := 0) (k' := 0) (a := 9) (b := 7) (x := x) (by decide), up_f (σ := σ) (k := 0) (k' := 0) (a := 9) (b := 8) (x := x) (by decide), up_s (σ := σ) (k := 0) (i := nI 9) (x := x), up_k (σ := σ) (k' := 17) (k := 0) (by decide), up_k (σ := σ) (k' := 18) (k := 0) (by decide), up_k (σ := σ) (k' := 25) (k := 0) (by decide)]
    by_cases hi : i' = nI 8
    · subst hi
      rw [if_pos rfl, if_neg (by decide), if_neg (by decide), if_neg (by decide), if_neg (by decide), if_neg (by decide), if_neg (by decide), if_neg (by decide), if_neg (by decide), if_pos rfl]
    · rw [if_neg hi]
      simp only [hi, if_false]
  · rw [up_k a, aX_k σ ⟨a, b⟩, up_k (by omega)]
  · rw [up_k (by omega)]; exact aX_z σ a _
theorem aX_f25_1 (σ : tSt) (x : Int32) : aX (up σ 25 (nI 1) x) = up (aX σ) 0 (nI 9) x := by
  refine aX_ext (fun i' => ?_) (fun k' a b => ?_) (fun k' a i' => ?_)
  · rw [up_at]
    simp only [aX, if_pos]
    rw [up_s (σ := σ) (k := 25) (i := nI 1) (x := x), up_k (σ := σ) (k' := 0) (k := 25) (by decide), up_k (σ := σ) (k' := 17) (k := 25) (by decide), up_k (σ := σ) (k' := 18) (k := 25) (by decide)]
    by_cases hi : i' = nI 9
    · subst hi
      rw [if_pos rfl, if_neg (by decide), if_neg (by decide), if_neg (by decide), if_neg (by decide), if_neg (by decide), if_neg (by decide), if_neg (by decide), if_neg (by decide), if_neg (by decide), if_pos rfl]
    · rw [if_neg hi]
      simp only [hi, if_false]
  · rw [up_k a, aX_k σ ⟨a, b⟩, up_k (by omega)]
  · rw [up_k (by omega)]; exact aX_z σ a _
theorem aX_s (σ : tSt) {k : Nat} (h : 16 < k ∧ k ≠ 17 ∧ k ≠ 18 ∧ k ≠ 25) (i x : Int32) : aX (up σ k i x) = aX σ := by
  refine aX_ext (fun i' => ?_) (fun k' a b => ?_) (fun k' a i' => ?_)
  · simp only [aX, if_pos]
    rw [up_k (σ := σ) (k' := 0) (k := k) (by omega), up_k (σ := σ) (k' := 17) (k := k) (by omega), up_k (σ := σ) (k' := 18) (k := k) (by omega), up_k (σ := σ) (k' := 25) (k := k) (by omega)]
  · rw [aX_k σ ⟨a, b⟩, up_k (by omega)]
  · exact aX_z σ a _
/-- what the document tells of a store of this world: arrays 1..16; numbers at 0 -/
def aM (σ : tSt) : tSt := fun k i => if k = 0 then (if i = nI 0 then σ 0 (nI 3) else (if i = nI 1 then σ 0 (nI 4) else (if i = nI 2 then σ 0 (nI 5) else (if i = nI 3 then σ 0 (nI 6) else (if i = nI 4 then σ 0 (nI 8) else (if i = nI 5 then σ 0 (nI 7) else (if i = nI 6 then σ 0 (nI 0) else (if i = nI 7 then σ 0 (nI 1) else (if i = nI 8 then σ 0 (nI 2) else (if i = nI 9 then σ 0 (nI 34) else (0))))))))))) else if k ≤ 16 then σ k i else 0
theorem aM_0 (σ : tSt) : aM σ 0 (nI 0) = σ 0 (nI 3) := by
  simp only [aM, if_pos]
  
theorem aM_1 (σ : tSt) : aM σ 0 (nI 1) = σ 0 (nI 4) := by
  simp only [aM, if_pos]
  rw [if_neg (by decide)]
theorem aM_2 (σ : tSt) : aM σ 0 (nI 2) = σ 0 (nI 5) := by
  simp only [aM, if_pos]
  rw [if_neg (by decide), if_neg (by decide)]
theorem aM_3 (σ : tSt) : aM σ 0 (nI 3) = σ 0 (nI 6) := by
  simp only [aM, if_pos]
  rw [if_neg (by decide), if_neg (by decide), if_neg (by decide)]
theorem aM_4 (σ : tSt) : aM σ 0 (nI 4) = σ 0 (nI 8) := by
  simp only [aM, if_pos]
  rw [if_neg (by decide), if_neg (by decide), if_neg (by decide), if_neg (by decide)]
theorem aM_5 (σ : tSt) : aM σ 0 (nI 5) = σ 0 (nI 7) := by
  simp only [aM, if_pos]
  rw [if_neg (by decide), if_neg (by decide), if_neg (by decide), if_neg (by decide), if_neg (by decide)]
theorem aM_6 (σ : tSt) : aM σ 0 (nI 6) = σ 0 (nI 0) := by
  simp only [aM, if_pos]
  rw [if_neg (by decide), if_neg (by decide), if_neg (by decide), if_neg (by decide), if_neg (by decide), if_neg (by decide)]
theorem aM_7 (σ : tSt) : aM σ 0 (nI 7) = σ 0 (nI 1) := by
  simp only [aM, if_pos]
  rw [if_neg (by decide), if_neg (by decide), if_neg (by decide), if_neg (by decide), if_neg (by decide), if_neg (by decide), if_neg (by decide)]
theorem aM_8 (σ : tSt) : aM σ 0 (nI 8) = σ 0 (nI 2) := by
  simp only [aM, if_pos]
  rw [if_neg (by decide), if_neg (by decide), if_neg (by decide), if_neg (by decide), if_neg (by decide), if_neg (by decide), if_neg (by decide), if_neg (by decide)]
theorem aM_9 (σ : tSt) : aM σ 0 (nI 9) = σ 0 (nI 34) := by
  simp only [aM, if_pos]
  rw [if_neg (by decide), if_neg (by decide), if_neg (by decide), if_neg (by decide), if_neg (by decide), if_neg (by decide), if_neg (by decide), if_neg (by decide), if_neg (by decide)]
theorem aM_k (σ : tSt) {k : Nat} (h : k ≠ 0 ∧ k ≤ 16) : aM σ k = σ k := by
  funext i
  simp only [aM]
  rw [if_neg h.1, if_pos h.2]
theorem aM_z (σ : tSt) {k : Nat} (h : 16 < k) (i : Int32) : aM σ k i = 0 := by
  simp only [aM]
  rw [if_neg (by omega), if_neg (by omega)]
theorem aM_ext {σ : tSt} {μ : tSt} (h0 : ∀ i, μ 0 i = aM σ 0 i) (h1 : ∀ k, k ≠ 0 → k ≤ 16 → μ k = σ k) (h2 : ∀ k, 16 < k → ∀ i, μ k i = 0) : aM σ = μ := by
  funext k i
  by_cases hk : k = 0
  · subst hk; exact (h0 i).symm
  · by_cases hk2 : k ≤ 16
    · rw [aM_k σ ⟨hk, hk2⟩, h1 k hk hk2]
    · rw [h2 k (by omega) i]; simp [aM, hk, hk2]
theorem aM_u (σ : tSt) {k : Nat} (h : k ≠ 0 ∧ k ≤ 16) (i x : Int32) : aM (up σ k i x) = up (aM σ) k i x := by
  refine aM_ext (fun i' => ?_) (fun k' a b => ?_) (fun k' a i' => ?_)
  · rw [up_k (Ne.symm h.1)]
    simp only [aM, if_pos]
    rw [up_k (σ := σ) (k' := 0) (k := k) (by omega)]
  · by_cases hk : k' = k
    · subst hk; funext i'; simp [up, aM_k σ h]
    · rw [up_k hk, up_k hk, aM_k σ ⟨a, b⟩]
  · rw [up_k (by omega)]; exact aM_z σ a _
theorem aM_f0_3 (σ : tSt) (x : Int32) : aM (up σ 0 (nI 3) x) = up (aM σ) 0 (nI 0) x := by
  refine aM_ext (fun i' => ?_) (fun k' a b => ?_) (fun k' a i' => ?_)
  · rw [up_at]
    simp only [aM, if_pos]
    rw [up_s (σ := σ) (k := 0) (i := nI 3) (x := x), up_f (σ := σ) (k := 0) (k' := 0) (a := 3) (b := 4) (x := x) (by decide), up_f (σ := σ) (k := 0) (k' := 0) (a := 3) (b := 5) (x := x) (by decide), up_f (σ := σ) (k := 0) (k' := 0) (a := 3) (b := 6) (x := x) (by decide), up_f (σ := σ) (k := 0) (k' := 0) (a := 3) (b := 8) (x := x) (by decide), up_f (σ := σ) (k := 0) (k' := 0) (a := 3) (b := 7) (x := x) (by decide), up_f (σ := σ) (k := 0) (k' := 0) (a := 3) (b := 0) (x := x) (by decide), up_f (σ := σ) (k := 0) (k' := 0) (a := 3) (b := 1) (x := x) (by decide), up_f (σ := σ) (k := 0) (k' := 0) (a := 3) (b := 2) (x := x) (by decide), up_f (σ := σ) (k := 0) (k' := 0) (a := 3) (b := 34) (x := x) (by decide)]
    by_cases hi : i' = nI 0
    · subst hi
      rw [if_pos rfl, if_pos rfl]
    · rw [if_neg hi]
      simp only [hi, if_false]
  · rw [up_k a, aM_k σ ⟨a, b⟩, up_k (by omega)]
  · rw [up_k (by omega)]; exact aM_z σ a _
theorem aM_f0_4 (σ : tSt) (x : Int32) : aM (up σ 0 (nI 4) x) = up (aM σ) 0 (nI 1) x := by
  refine aM_ext (fun i' => ?_) (fun k' a b => ?_) (fun k' a i' => ?_)
  · rw [up_at]
    simp only [aM, if_pos]
    rw [up_f (σ := σ) (k := 0) (k' := 0) (a := 4) (b := 3) (x := x) (by decide), up_s (σ := σ) (k := 0) (i := nI 4) (x := x), up_f (σ := σ) (k := 0) (k' := 0) (a := 4) (b := 5) (x := x) (by decide), up_f (σ := σ) (k := 0) (k' := 0) (a := 4) (b := 6) (x := x) (by decide), up_f (σ := σ) (k := 0) (k' := 0) (a := 4) (b := 8) (x := x) (by decide), up_f (σ := σ) (k := 0) (k' := 0) (a := 4) (b := 7) (x := x) (by decide), up_f (σ := σ) (k := 0) (k' := 0) (a := 4) (b := 0) (x := x) (by decide), up_f (σ := σ) (k := 0) (k' := 0) (a := 4) (b := 1) (x := x) (by decide), up_f (σ := σ) (k := 0) (k' := 0) (a := 4) (b := 2) (x := x) (by decide), up_f (σ := σ) (k := 0) (k' := 0) (a := 4) (b := 34) (x := x) (by decide)]
    by_cases hi : i' = nI 1
    · subst hi
      rw [if_pos rfl, if_neg (by decide), if_pos rfl]
    · rw [if_neg hi]
      simp only [hi, if_false]
  · rw [up_k a, aM_k σ ⟨a, b⟩, up_k (by omega)]
  · rw [up_k (by omega)]; exact aM_z σ a _
theorem aM_f0_5 (σ : tSt) (x : Int32) : aM (up σ 0 (nI 5) x) = up (aM σ) 0 (nI 2) x := by
  refine aM_ext (fun i' => ?_) (fun k' a b => ?_) (fun k' a i' => ?_)
  · rw [up_at]
    simp only [aM, if_pos]
    rw [up_f (σ := σ) (k := 0) (k' := 0) (a := 5) (b := 3) (x := x) (by decide), up_f (σ := σ) (k := 0) (k' := 0) (a := 5) (b := 4) (x := x) (by decide), up_s (σ := σ) (k := 0) (i := nI 5) (x := x), up_f (σ := σ) (k := 0) (k' := 0) (a := 5) (b := 6) (x := x) (by decide), up_f (σ := σ) (k := 0) (k' := 0) (a := 5) (b := 8) (x := x) (by decide), up_f (σ := σ) (k := 0) (k' := 0) (a := 5) (b := 7) (x := x) (by decide), up_f (σ := σ) (k := 0) (k' := 0) (a := 5) (b := 0) (x := x) (by decide), up_f (σ := σ) (k := 0) (k' := 0) (a := 5) (b := 1) (x := x) (by decide), up_f (σ := σ) (k := 0) (k' := 0) (a := 5) (b := 2) (x := x) (by decide), up_f (σ := σ) (k := 0) (k' := 0) (a := 5) (b := 34) (x := x) (by decide)]
    by_cases hi : i' = nI 2
    · subst hi
      rw [if_pos rfl, if_neg (by decide), if_neg (by decide), if_pos rfl]
    · rw [if_neg hi]
      simp only [hi, if_false]
  · rw [up_k a, aM_k σ ⟨a, b⟩, up_k (by omega)]
  · rw [up_k (by omega)]; exact aM_z σ a _
theorem aM_f0_6 (σ : tSt) (x : Int32) : aM (up σ 0 (nI 6) x) = up (aM σ) 0 (nI 3) x := by
  refine aM_ext (fun i' => ?_) (fun k' a b => ?_) (fun k' a i' => ?_)
  · rw [up_at]
    simp only [aM, if_pos]
    rw [up_f (σ := σ) (k := 0) (k' := 0) (a := 6) (b := 3) (x := x) (by decide), up_f (σ := σ) (k := 0) (k' := 0) (a := 6) (b := 4) (x := x) (by decide), up_f (σ := σ) (k := 0) (k' := 0) (a := 6) (b := 5) (x := x) (by decide), up_s (σ := σ) (k := 0) (i := nI 6) (x := x), up_f (σ := σ) (k := 0) (k' := 0) (a := 6) (b := 8) (x := x) (by decide), up_f (σ := σ) (k := 0) (k' := 0) (a := 6) (b := 7) (x := x) (by decide), up_f (σ := σ) (k := 0) (k' := 0) (a := 6) (b := 0) (x := x) (by decide), up_f (σ := σ) (k := 0) (k' := 0) (a := 6) (b := 1) (x := x) (by decide), up_f (σ := σ) (k := 0) (k' := 0) (a := 6) (b := 2) (x := x) (by decide), up_f (σ := σ) (k := 0) (k' := 0) (a := 6) (b := 34) (x := x) (by decide)]
    by_cases hi : i' = nI 3
    · subst hi
      rw [if_pos rfl, if_neg (by decide), if_neg (by decide), if_neg (by decide), if_pos rfl]
    · rw [if_neg hi]
      simp only [hi, if_false]
  · rw [up_k a, aM_k σ ⟨a, b⟩, up_k (by omega)]
  · rw [up_k (by omega)]; exact aM_z σ a _
theorem aM_f0_8 (σ : tSt) (x : Int32) : aM (up σ 0 (nI 8) x) = up (aM σ) 0 (nI 4) x := by
  refine aM_ext (fun i' => ?_) (fun k' a b => ?_) (fun k' a i' => ?_)
  · rw [up_at]
    simp only [aM, if_pos]
    rw [up_f (σ := σ) (k := 0) (k' := 0) (a := 8) (b := 3) (x := x) (by decide), up_f (σ := σ) (k := 0) (k' := 0) (a := 8) (b := 4) (x := x) (by decide), up_f (σ := σ) (k := 0) (k' := 0) (a := 8) (b := 5) (x := x) (by decide), up_f (σ := σ) (k := 0) (k' := 0) (a := 8) (b := 6) (x := x) (by decide), up_s (σ := σ) (k := 0) (i := nI 8) (x := x), up_f (σ := σ) (k := 0) (k' := 0) (a := 8) (b := 7) (x := x) (by decide), up_f (σ := σ) (k := 0) (k' := 0) (a := 8) (b := 0) (x := x) (by decide), up_f (σ := σ) (k := 0) (k' := 0) (a := 8) (b := 1) (x := x) (by decide), up_f (σ := σ) (k := 0) (k' := 0) (a := 8) (b := 2) (x := x) (by decide), up_f (σ := σ) (k := 0) (k' := 0) (a := 8) (b := 34) (x := x) (by decide)]
    by_cases hi : i' = nI 4
    · subst hi
      rw [if_pos rfl, if_neg (by decide), if_neg (by decide), if_neg (by decide), if_neg (by decide), if_pos rfl]
    · rw [if_neg hi]
      simp only [hi, if_false]
  · rw [up_k a, aM_k σ ⟨a, b⟩, up_k (by omega)]
  · rw [up_k (by omega)]; exact aM_z σ a _
theorem aM_f0_7 (σ : tSt) (x : Int32) : aM (up σ 0 (nI 7) x) = up (aM σ) 0 (nI 5) x := by
  refine aM_ext (fun i' => ?_) (fun k' a b => ?_) (fun k' a i' => ?_)
  · rw [up_at]
    simp only [aM, if_pos]
    rw [up_f (σ := σ) (k := 0) (k' := 0) (a := 7) (b := 3) (x := x) (by decide), up_f (σ := σ) (k := 0) (k' := 0) (a := 7) (b := 4) (x := x) (by decide), up_f (σ := σ) (k := 0) (k' := 0) (a := 7) (b := 5) (x := x) (by decide), up_f (σ := σ) (k := 0) (k' := 0) (a := 7) (b := 6) (x := x) (by decide), up_f (σ := σ) (k := 0) (k' := 0) (a := 7) (b := 8) (x := x) (by decide), up_s (σ := σ) (k := 0) (i := nI 7) (x := x), up_f (σ := σ) (k := 0) (k' := 0) (a := 7) (b := 0) (x := x) (by decide), up_f (σ := σ) (k := 0) (k' := 0) (a := 7) (b := 1) (x := x) (by decide), up_f (σ := σ) (k := 0) (k' := 0) (a := 7) (b := 2) (x := x) (by decide), up_f (σ := σ) (k := 0) (k' := 0) (a := 7) (b := 34) (x := x) (by decide)]
    by_cases hi : i' = nI 5
    · subst hi
      rw [if_pos rfl, if_neg (by decide), if_neg (by decide), if_neg (by decide), if_neg (by decide), if_neg (by decide), if_pos rfl]
    · rw [if_neg hi]
      simp only [hi, if_false]
  · rw [up_k a, aM_k σ ⟨a, b⟩, up_k (by omega)]
  · rw [up_k (by omega)]; exact aM_z σ a _
theorem aM_f0_0 (σ : tSt) (x : Int32) : aM (up σ 0 (nI 0) x) = up (aM σ) 0 (nI 6) x := by
  refine aM_ext (fun i' => ?_) (fun k' a b => ?_) (fun k' a i' => ?_)
  · rw [up_at]
    simp only [aM, if_pos]
    rw [up_f (σ := σ) (k := 0) (k' := 0) (a := 0) (b := 3) (x := x) (by decide), up_f (σ := σ) (k := 0) (k' := 0) (a := 0) (b := 4) (x := x) (by decide), up_f (σ := σ) (k := 0) (k' := 0) (a := 0) (b := 5) (x := x) (by decide), up_f (σ := σ) (k := 0) (k' := 0) (a := 0) (b := 6) (x := x) (by decide), up_f (σ := σ) (k := 0) (k' := 0) (a := 0) (b := 8) (x := x) (by decide), up_f (σ := σ) (k := 0) (k' := 0) (a := 0) (b := 7) (x := x) (by decide), up_s (σ := σ) (k := 0) (i := nI 0) (x := x), up_f (σ := σ) (k := 0) (k' := 0) (a := 0) (b := 1) (x := x) (by decide), up_f (σ := σ) (k := 0) (k' := 0) (a := 0) (b := 2) (x := x) (by decide), up_f (σ := σ) (k := 0) (k' := 0) (a := 0) (b := 34) (x := x) (by decide)]
    by_cases hi : i' = nI 6
    · subst hi
      rw [if_pos rfl, if_neg (by decide), if_neg (by decide), if_neg (by decide), if_neg (by decide), if_neg (by decide), if_neg (by decide), if_pos rfl]
    · rw [if_neg hi]
      simp only [hi, if_false]
  · rw [up_k a, aM_k σ ⟨a, b⟩, up_k (by omega)]
  · rw [up_k (by omega)]; exact aM_z σ a _
theorem aM_f0_1 (σ : tSt) (x : Int32) : aM (up σ 0 (nI 1) x) = up (aM σ) 0 (nI 7) x := by
  refine aM_ext (fun i' => ?_) (fun k' a b => ?_) (fun k' a i' => ?_)
  · rw [up_at]
    simp only [aM, if_pos]
    rw [up_f (σ := σ) (k := 0) (k' := 0) (a := 1) (b := 3) (x := x) (by decide), up_f (σ := σ) (k := 0) (k' := 0) (a := 1) (b := 4) (x := x) (by decide), up_f (σ := σ) (k := 0) (k' := 0) (a := 1) (b := 5) (x := x) (by decide), up_f (σ := σ) (k := 0) (k' := 0) (a := 1) (b := 6) (x := x) (by decide), up_f (σ := σ) (k := 0) (k' := 0) (a := 1) (b := 8) (x := x) (by decide), up_f (σ := σ) (k := 0) (k' := 0) (a := 1) (b := 7) (x := x) (by decide), up_f (σ := σ) (k := 0) (k' := 0) (a := 1) (b := 0) (x := x) (by decide), up_s (σ := σ) (k := 0) (i := nI 1) (x := x), up_f (σ := σ) (k := 0) (k' := 0) (a := 1) (b := 2) (x := x) (by decide), up_f (σ := σ) (k := 0) (k' := 0) (a := 1) (b := 34) (x := x) (by decide)]
    by_cases hi : i' = nI 7
    · subst hi
      rw [if_pos rfl, if_neg (by decide), if_neg (by decide), if_neg (by decide), if_neg (by decide), if_neg (by decide), if_neg (by decide), if_neg (by decide), if_pos rfl]
    · rw [if_neg hi]
      simp only [hi, if_false]
  · rw [up_k a, aM_k σ ⟨a, b⟩, up_k (by omega)]
  · rw [up_k (by omega)]; exact aM_z σ a _
theorem aM_f0_2 (σ : tSt) (x : Int32) : aM (up σ 0 (nI 2) x) = up (aM σ) 0 (nI 8) x := by
  refine aM_ext (fun i' => ?_) (fun k' a b => ?_) (fun k' a i' => ?_)
  · rw [up_at]
    simp only [aM, if_pos]
    rw [up_f (σ := σ) (k := 0) (k' := 0) (a := 2) (b := 3) (x := x) (by decide), up_f (σ := σ) (k := 0) (k' := 0) (a := 2) (b := 4) (x := x) (by decide), up_f (σ := σ) (k := 0) (k' := 0) (a := 2) (b := 5) (x := x) (by decide), up_f (σ := σ) (k := 0) (k' := 0) (a := 2) (b := 6) (x := x) (by decide), up_f (σ := σ) (k := 0) (k' := 0) (a := 2) (b := 8) (x := x) (by decide), up_f (σ := σ) (k := 0) (k' := 0) (a := 2) (b := 7) (x := x) (by decide), up_f (σ := σ) (k := 0) (k' := 0) (a := 2) (b := 0) (x := x) (by decide), up_f (σ := σ) (k := 0) (k' := 0) (a := 2) (b := 1) (x := x) (by decide), up_s (σ := σ) (k := 0) (i := nI 2) (x := x), up_f (σ := σ) (k := 0) (k' := 0) (a := 2) (b := 34) (x := x) (by decide)]
    by_cases hi : i' = nI 8
    · subst hi
      rw [if_pos rfl, if_neg (by decide), if_neg (by decide), if_neg (by decide), if_neg (by decide), if_neg (by decide), if_neg (by decide), if_neg (by decide), if_neg (by decide), if_pos rfl]
    · rw [if_neg hi]
      simp only [hi, if_false]
  · rw [up_k a, aM_k σ ⟨a, b⟩, up_k (by omega)]
  · rw [up_k (by omega)]; exact aM_z σ a _
theorem aM_f0_34 (σ : tSt) (x : Int32) : aM (up σ 0 (nI 34) x) = up (aM σ) 0 (nI 9) x := by
  refine aM_ext (fun i' => ?_) (fun k' a b => ?_) (fun k' a i' => ?_)
  · rw [up_at]
    simp only [aM, if_pos]
    rw [up_f (σ := σ) (k := 0) (k' := 0) (a := 34) (b := 3) (x := x) (by decide), up_f (σ := σ) (k := 0) (k' := 0) (a := 34) (b := 4) (x := x) (by decide), up_f (σ := σ) (k := 0) (k' := 0) (a := 34) (b := 5) (x := x) (by decide), up_f (σ := σ) (k := 0) (k' := 0) (a := 34) (b := 6) (x := x) (by decide), up_f (σ := σ) (k := 0) (k' := 0) (a := 34) (b := 8) (x := x) (by decide), up_f (σ := σ) (k := 0) (k' := 0) (a := 34) (b := 7) (x := x) (by decide), up_f (σ := σ) (k := 0) (k' := 0) (a := 34) (b := 0) (x := x) (by decide), up_f (σ := σ) (k := 0) (k' := 0) (a := 34) (b := 1) (x := x) (by decide), up_f (σ := σ) (k := 0) (k' := 0) (a := 34) (b := 2) (x := x) (by decide), up_s (σ := σ) (k := 0) (i := nI 34) (x := x)]
    by_cases hi : i' = nI 9
    · subst hi
      rw [if_pos rfl, if_neg (by decide), if_neg (by decide), if_neg (by decide), if_neg (by decide), if_neg (by decide), if_neg (by decide), if_neg (by decide), if_neg (by decide), if_neg (by decide), if_pos rfl]
    · rw [if_neg hi]
      simp only [hi, if_false]
  · rw [up_k a, aM_k σ ⟨a, b⟩, up_k (by omega)]
  · rw [up_k (by omega)]; exact aM_z σ a _
theorem aM_f0_24 (σ : tSt) (x : Int32) : aM (up σ 0 (nI 24) x) = aM σ := by
  refine aM_ext (fun i' => ?_) (fun k' a b => ?_) (fun k' a i' => ?_)
  · simp only [aM, if_pos]
    rw [up_f (σ := σ) (k := 0) (k' := 0) (a := 24) (b := 3) (x := x) (by decide), up_f (σ := σ) (k := 0) (k' := 0) (a := 24) (b := 4) (x := x) (by decide), up_f (σ := σ) (k := 0) (k' := 0) (a := 24) (b := 5) (x := x) (by decide), up_f (σ := σ) (k := 0) (k' := 0) (a := 24) (b := 6) (x := x) (by decide), up_f (σ := σ) (k := 0) (k' := 0) (a := 24) (b := 8) (x := x) (by decide), up_f (σ := σ) (k := 0) (k' := 0) (a := 24) (b := 7) (x := x) (by decide), up_f (σ := σ) (k := 0) (k' := 0) (a := 24) (b := 0) (x := x) (by decide), up_f (σ := σ) (k := 0) (k' := 0) (a := 24) (b := 1) (x := x) (by decide), up_f (σ := σ) (k := 0) (k' := 0) (a := 24) (b := 2) (x := x) (by decide), up_f (σ := σ) (k := 0) (k' := 0) (a := 24) (b := 34) (x := x) (by decide)]
  · rw [aM_k σ ⟨a, b⟩, up_k (by omega)]
  · exact aM_z σ a _
theorem aM_f0_26 (σ : tSt) (x : Int32) : aM (up σ 0 (nI 26) x) = aM σ := by
  refine aM_ext (fun i' => ?_) (fun k' a b => ?_) (fun k' a i' => ?_)
  · simp only [aM, if_pos]
    rw [up_f (σ := σ) (k := 0) (k' := 0) (a := 26) (b := 3) (x := x) (by decide), up_f (σ := σ) (k := 0) (k' := 0) (a := 26) (b := 4) (x := x) (by decide), up_f (σ := σ) (k := 0) (k' := 0) (a := 26) (b := 5) (x := x) (by decide), up_f (σ := σ) (k := 0) (k' := 0) (a := 26) (b := 6) (x := x) (by decide), up_f (σ := σ) (k := 0) (k' := 0) (a := 26) (b := 8) (x := x) (by decide), up_f (σ := σ) (k := 0) (k' := 0) (a := 26) (b := 7) (x := x) (by decide), up_f (σ := σ) (k := 0) (k' := 0) (a := 26) (b := 0) (x := x) (by decide), up_f (σ := σ) (k := 0) (k' := 0) (a := 26) (b := 1) (x := x) (by decide), up_f (σ := σ) (k := 0) (k' := 0) (a := 26) (b := 2) (x := x) (by decide), up_f (σ := σ) (k := 0) (k' := 0) (a := 26) (b := 34) (x := x) (by decide)]
  · rw [aM_k σ ⟨a, b⟩, up_k (by omega)]
  · exact aM_z σ a _
theorem aM_f0_29 (σ : tSt) (x : Int32) : aM (up σ 0 (nI 29) x) = aM σ := by
  refine aM_ext (fun i' => ?_) (fun k' a b => ?_) (fun k' a i' => ?_)
  · simp only [aM, if_pos]
    rw [up_f (σ := σ) (k := 0) (k' := 0) (a := 29) (b := 3) (x := x) (by decide), up_f (σ := σ) (k := 0) (k' := 0) (a := 29) (b := 4) (x := x) (by decide), up_f (σ := σ) (k := 0) (k' := 0) (a := 29) (b := 5) (x := x) (by decide), up_f (σ := σ) (k := 0) (k' := 0) (a := 29) (b := 6) (x := x) (by decide), up_f (σ := σ) (k := 0) (k' := 0) (a := 29) (b := 8) (x := x) (by decide), up_f (σ := σ) (k := 0) (k' := 0) (a := 29) (b := 7) (x := x) (by decide), up_f (σ := σ) (k := 0) (k' := 0) (a := 29) (b := 0) (x := x) (by decide), up_f (σ := σ) (k := 0) (k' := 0) (a := 29) (b := 1) (x := x) (by decide), up_f (σ := σ) (k := 0) (k' := 0) (a := 29) (b := 2) (x := x) (by decide), up_f (σ := σ) (k := 0) (k' := 0) (a := 29) (b := 34) (x := x) (by decide)]
  · rw [aM_k σ ⟨a, b⟩, up_k (by omega)]
  · exact aM_z σ a _
theorem aM_f0_30 (σ : tSt) (x : Int32) : aM (up σ 0 (nI 30) x) = aM σ := by
  refine aM_ext (fun i' => ?_) (fun k' a b => ?_) (fun k' a i' => ?_)
  · simp only [aM, if_pos]
    rw [up_f (σ := σ) (k := 0) (k' := 0) (a := 30) (b := 3) (x := x) (by decide), up_f (σ := σ) (k := 0) (k' := 0) (a := 30) (b := 4) (x := x) (by decide), up_f (σ := σ) (k := 0) (k' := 0) (a := 30) (b := 5) (x := x) (by decide), up_f (σ := σ) (k := 0) (k' := 0) (a := 30) (b := 6) (x := x) (by decide), up_f (σ := σ) (k := 0) (k' := 0) (a := 30) (b := 8) (x := x) (by decide), up_f (σ := σ) (k := 0) (k' := 0) (a := 30) (b := 7) (x := x) (by decide), up_f (σ := σ) (k := 0) (k' := 0) (a := 30) (b := 0) (x := x) (by decide), up_f (σ := σ) (k := 0) (k' := 0) (a := 30) (b := 1) (x := x) (by decide), up_f (σ := σ) (k := 0) (k' := 0) (a := 30) (b := 2) (x := x) (by decide), up_f (σ := σ) (k := 0) (k' := 0) (a := 30) (b := 34) (x := x) (by decide)]
  · rw [aM_k σ ⟨a, b⟩, up_k (by omega)]
  · exact aM_z σ a _
theorem aM_s (σ : tSt) {k : Nat} (h : 16 < k ∧ True) (i x : Int32) : aM (up σ k i x) = aM σ := by
  refine aM_ext (fun i' => ?_) (fun k' a b => ?_) (fun k' a i' => ?_)
  · simp only [aM, if_pos]
    rw [up_k (σ := σ) (k' := 0) (k := k) (by omega)]
  · rw [aM_k σ ⟨a, b⟩, up_k (by omega)]
  · exact aM_z σ a _
