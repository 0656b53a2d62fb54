theorem lw_sw {n i : Nat} {xs : Nat → Int32} {σ τ : tSt} {x : Int32} (hx0 : ¬ x < 0) (hin : i + 6 ≤ n) (hn : n ≤ 3072) (he : aX σ = aM τ) (hI : inv (aX σ)) (hz : aw0 σ) (kk : ∀ σ' τ', aX σ' = aM τ' → inv (aX σ') → aw0 σ' → LT n xs 950 [.ref 0, .ref 1, .ref 2, .int (nI i)] [] σ' τ') : LT n xs 33 [.ref 0, .ref 1, .ref 2, .int (nI i)] [.int x] σ τ := by
  by_cases h0 : x = nI 0
  · subst h0
    exact lr_tabIn eL_33 (by decide) (by decide) (off := 119) (by decide) (by decide) (lc_status hin hn he hI hz kk)
  by_cases h1 : x = nI 1
  · subst h1
    exact lr_tabIn eL_33 (by decide) (by decide) (off := 132) (by decide) (by decide) (lc_reason hin hn he hI hz kk)
  by_cases h2 : x = nI 2
  · subst h2
    exact lr_tabIn eL_33 (by decide) (by decide) (off := 155) (by decide) (by decide) (lc_stand hin hn he hI hz kk)
  by_cases h3 : x = nI 3
  · subst h3
    exact lr_tabIn eL_33 (by decide) (by decide) (off := 188) (by decide) (by decide) (lc_ground hin hn he hI hz kk)
  by_cases h4 : x = nI 4
  · subst h4
    exact lr_tabIn eL_33 (by decide) (by decide) (off := 221) (by decide) (by decide) (lc_near hin hn he hI hz kk)
  by_cases h5 : x = nI 5
  · subst h5
    exact lr_tabIn eL_33 (by decide) (by decide) (off := 274) (by decide) (by decide) (lc_cone hin hn he hI hz kk)
  by_cases h6 : x = nI 6
  · subst h6
    exact lr_tabIn eL_33 (by decide) (by decide) (off := 317) (by decide) (by decide) (lc_towtime hin hn he hI hz kk)
  by_cases h7 : x = nI 7
  · subst h7
    exact lr_tabIn eL_33 (by decide) (by decide) (off := 340) (by decide) (by decide) (lc_visit hin hn he hI hz kk)
  by_cases h8 : x = nI 8
  · subst h8
    exact lr_tabIn eL_33 (by decide) (by decide) (off := 403) (by decide) (by decide) (lc_tear hin hn he hI hz kk)
  by_cases h9 : x = nI 9
  · subst h9
    exact lr_tabIn eL_33 (by decide) (by decide) (off := 436) (by decide) (by decide) (lc_told hin hn he hI hz kk)
  by_cases h10 : x = nI 10
  · subst h10
    exact lr_tabIn eL_33 (by decide) (by decide) (off := 469) (by decide) (by decide) (lc_put hin hn he hI hz kk)
  by_cases h11 : x = nI 11
  · subst h11
    exact lr_tabIn eL_33 (by decide) (by decide) (off := 502) (by decide) (by decide) (lc_why hin hn he hI hz kk)
  by_cases h12 : x = nI 12
  · subst h12
    exact lr_tabIn eL_33 (by decide) (by decide) (off := 535) (by decide) (by decide) (lc_off hin hn he hI hz kk)
  by_cases h13 : x = nI 13
  · subst h13
    exact lr_tabIn eL_33 (by decide) (by decide) (off := 558) (by decide) (by decide) (lc_tow hin hn he hI hz kk)
  by_cases h14 : x = nI 14
  · subst h14
    exact lr_tabIn eL_33 (by decide) (by decide) (off := 601) (by decide) (by decide) (lc_plan hin hn he hI hz kk)
  by_cases h15 : x = nI 15
  · subst h15
    exact lr_tabIn eL_33 (by decide) (by decide) (off := 614) (by decide) (by decide) (lc_search hin hn he hI hz kk)
  by_cases h16 : x = nI 16
  · subst h16
    exact lr_tabIn eL_33 (by decide) (by decide) (off := 627) (by decide) (by decide) (lc_most hin hn he hI hz kk)
  by_cases h17 : x = nI 17
  · subst h17
    exact lr_tabIn eL_33 (by decide) (by decide) (off := 640) (by decide) (by decide) (lc_late hin hn he hI hz kk)
  by_cases h18 : x = nI 18
  · subst h18
    exact lr_tabIn eL_33 (by decide) (by decide) (off := 673) (by decide) (by decide) (lc_changed hin hn he hI hz kk)
  by_cases h19 : x = nI 19
  · subst h19
    exact lr_tabIn eL_33 (by decide) (by decide) (off := 696) (by decide) (by decide) (lc_now hin hn he hI hz kk)
  by_cases h20 : x = nI 20
  · subst h20
    exact lr_tabIn eL_33 (by decide) (by decide) (off := 719) (by decide) (by decide) (lc_waiting hin hn he hI hz kk)
  by_cases h21 : x = nI 21
  · subst h21
    exact lr_tabIn eL_33 (by decide) (by decide) (off := 732) (by decide) (by decide) (lc_swap hin hn he hI hz kk)
  by_cases h22 : x = nI 22
  · subst h22
    exact lr_tabIn eL_33 (by decide) (by decide) (off := 765) (by decide) (by decide) (lc_stays hin hn he hI hz kk)
  by_cases h23 : x = nI 23
  · subst h23
    exact lr_tabIn eL_33 (by decide) (by decide) (off := 788) (by decide) (by decide) (lc_stay hin hn he hI hz kk)
  by_cases h24 : x = nI 24
  · subst h24
    exact lr_tabIn eL_33 (by decide) (by decide) (off := 831) (by decide) (by decide) (lc_at hin hn he hI hz kk)
  by_cases h25 : x = nI 25
  · subst h25
    exact lr_tabIn eL_33 (by decide) (by decide) (off := 874) (by decide) (by decide) (lc_crowd hin hn he hI hz kk)
  refine lr_tabOut eL_33 (Or.inr ?_) (by decide) (kk σ τ he hI hz)
  obtain ⟨k, hk, rfl⟩ := nI_of hx0
  rw [nI_toInt hk]
  have : ∀ j : Nat, j < 26 → k ≠ j := fun j hj e => by
    subst e
    rcases (by omega : k = 0 ∨ k = 1 ∨ k = 2 ∨ k = 3 ∨ k = 4 ∨ k = 5 ∨ k = 6 ∨ k = 7 ∨ k = 8 ∨ k = 9 ∨ k = 10 ∨ k = 11 ∨ k = 12 ∨ k = 13 ∨ k = 14 ∨ k = 15 ∨ k = 16 ∨ k = 17 ∨ k = 18 ∨ k = 19 ∨ k = 20 ∨ k = 21 ∨ k = 22 ∨ k = 23 ∨ k = 24 ∨ k = 25) with rfl | rfl | rfl | rfl | rfl | rfl | rfl | rfl | rfl | rfl | rfl | rfl | rfl | rfl | rfl | rfl | rfl | rfl | rfl | rfl | rfl | rfl | rfl | rfl | rfl | rfl <;> contradiction
  have hk26 : 26 ≤ k := Nat.not_lt.mp fun q => this k q rfl
  omega
theorem and31 (x : Int32) : ¬ x &&& nI 31 < 0 := by
  intro h
  rw [Int32.lt_iff_toInt_lt] at h
  have e : (x &&& nI 31).toInt = ((x.toBitVec &&& 31#32).toNat : Int) := by
    have hle : (x.toBitVec &&& 31#32).toNat ≤ 31 := by rw [BitVec.toNat_and]; exact Nat.and_le_right
    exact BitVec.toInt_eq_toNat_of_lt (show 2 * (x.toBitVec &&& 31#32).toNat < 2 ^ 32 by omega)
  rw [e] at h
  have : (0 : Int32).toInt = 0 := by decide
  omega
