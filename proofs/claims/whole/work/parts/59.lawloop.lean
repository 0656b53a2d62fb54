theorem lw_gt {n i : Nat} (hn : n ≤ 3072) (hi : i ≤ 4000) : nI n - nI 6 < nI i ↔ n < i + 6 := by
  have h1 : (nI n).toInt = n := nI_toInt (by omega)
  have h2 : (nI 6).toInt = 6 := nI_toInt (by decide)
  have h3 : (nI i).toInt = i := nI_toInt (by omega)
  rw [Int32.lt_iff_toInt_lt, Int32.toInt_sub, h1, h2, h3, Int.bmod_eq_of_le (by omega) (by omega)]
  omega
theorem lw_loop {n : Nat} {xs : Nat → Int32} (hn : n ≤ 3072) (hend : ∀ (i : Nat) (σ τ : tSt), LT n xs 956 [.ref 0, .ref 1, .ref 2, .int (nI i)] [] σ τ) : ∀ (f i : Nat) (σ τ : tSt), n < i + 6 * f → i ≤ 3072 + 6 → aX σ = aM τ → inv (aX σ) → aw0 σ → LT n xs 18 [.ref 0, .ref 1, .ref 2, .int (nI i)] [] σ τ := by
  intro f
  induction f with
  | zero =>
    intro i σ τ hf hi he hI hz
    refine lr_iload_n eL_18 rfl ?_
    refine lr_aload_n eL_19 rfl ?_
    refine lr_slen eL_20 ?_
    refine lr_bipush eL_21 (nI 6) (by decide) ?_
    refine lr_isub eL_23 ?_
    exact lr_icmp_gt eL_24 (fun _ => hend i σ τ) (fun h => absurd ((lw_gt hn (by omega)).mpr (by omega)) h)
  | succ f ih =>
    intro i σ τ hf hi he hI hz
    refine lr_iload_n eL_18 rfl ?_
    refine lr_aload_n eL_19 rfl ?_
    refine lr_slen eL_20 ?_
    refine lr_bipush eL_21 (nI 6) (by decide) ?_
    refine lr_isub eL_23 ?_
    refine lr_icmp_gt eL_24 (fun _ => hend i σ τ) (fun h => ?_)
    have hin : i + 6 ≤ n := Nat.not_lt.mp fun q => h ((lw_gt hn (by omega)).mpr q)
    refine lr_aload_n eL_27 rfl ?_
    refine lr_iload_n eL_28 rfl ?_
    refine lr_sld eL_29 (vp_in_nI (by omega) (by omega)) ?_
    refine lr_bipush eL_30 (nI 31) (by decide) ?_
    refine lr_iand eL_32 ?_
    refine lw_sw (and31 _) hin hn he hI hz (fun σ' τ' he' hI' hz' => ?_)
    refine lr_iinc eL_950 (nI (i + 6)) (show nI i + nI 6 = nI (i + 6) from nI_add i 6) rfl (by decide) rfl ?_
    refine lr_goto eL_953 ?_
    exact ih (i + 6) σ' τ' (by omega) (by omega) he' hI' hz'
