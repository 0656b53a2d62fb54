theorem le_nlt (a b : Int32) : a ≤ b ↔ ¬ b < a := Int32.not_lt.symm
theorem up_ck {σ : tSt} {k k' : Nat} {i j x y : Int32} (h : k ≠ k') : up (up σ k i x) k' j y = up (up σ k' j y) k i x := by
  funext a b
  simp only [up]
  by_cases h1 : a = k
  · subst h1
    simp [h, Ne.symm h]
  · by_cases h2 : a = k'
    · subst h2; simp [h, Ne.symm h]
    · simp [h1, h2]
theorem up_c0 {σ : tSt} {k : Nat} {i j x y : Int32} (h : k ≠ 0) : up (up σ 0 i x) k j y = up (up σ k j y) 0 i x := up_ck (Ne.symm h)
theorem up_ci {σ : tSt} {k : Nat} {i j x y : Int32} (h : i ≠ j) : up (up σ k i x) k j y = up (up σ k j y) k i x := by
  funext a b
  simp only [up]
  by_cases h1 : a = k
  · subst h1
    by_cases h2 : b = i
    · subst h2; simp [h]
    · by_cases h3 : b = j <;> simp [h2, h3]
      intro q; exact absurd q.symm h
  · simp [h1]
theorem up_65 {σ : tSt} {x y : Int32} : up (up σ 0 (nI 6) x) 0 (nI 5) y = up (up σ 0 (nI 5) y) 0 (nI 6) x := up_ci (by decide)
def QX (σ : tSt) (F : Int32 × tSt) : Option Int32 → tSt → Prop := fun r σ' => r = some F.1 ∧ aX σ' = F.2 ∧ σ' 26 = σ 26
def QM (F : Int32 × tSt) : Option Int32 → tSt → Prop := fun r τ => r = some F.1 ∧ aM τ = F.2
def iN (μ : tSt) (nS nP nC nV : Nat) : Prop := (μ 0 (nI 0) = nI nS ∧ nS ≤ 24) ∧ (μ 0 (nI 1) = nI nP ∧ nP ≤ 40) ∧ (μ 0 (nI 2) = nI nC ∧ nC ≤ 20) ∧ (μ 0 (nI 3) = nI nV ∧ nV ≤ 40)
theorem ge_eq {x : Int32} {n N : Nat} (hx : x = nI n) (hn : n ≤ N) (hN : N < 2 ^ 31) (h : ¬ x < nI N) : x = nI N := by
  subst hx
  have := mt (nI_ltI (show n < 2 ^ 31 by omega) hN).mpr h
  rw [show n = N by omega]
theorem lt_neq {x y : Int32} (h : x < y) : ¬ x = y := fun q => by subst q; exact absurd h (Int32.lt_irrefl)
theorem in_of_ne {x : Int32} {n N : Nat} (hx : x = nI n) (hn : n ≤ N) (hN : N < 2 ^ 31) (h : ¬ x = nI N) : vp_in x N := by
  subst hx
  exact vp_in_nI (Nat.lt_of_le_of_ne hn (fun q => h (by rw [q]))) hN
theorem in_has {x y : Int32} {n N : Nat} (hy : y = nI n) (hn : n ≤ N) (hN : N < 2 ^ 31) (h : ¬ x < 0 ∧ ¬ y ≤ x) : vp_in x N := in_lt h.1 (hy ▸ Int32.not_le.mp h.2) hn hN
theorem s_kind_aX (σ : tSt) (v : Int32) : s_kind (aX σ) v = s_kind σ v := by
  simp (disch := decide) only [s_kind, aX_k]
theorem s_wing_aX (σ : tSt) (v : Int32) : s_wing (aX σ) v = s_wing σ v := by
  simp (disch := decide) only [s_wing, aX_k]
theorem s_in_aX (σ : tSt) (v : Int32) : s_in (aX σ) v = s_in σ v := by
  simp (disch := decide) only [s_in, aX_k]
theorem s_out_aX (σ : tSt) (v : Int32) : s_out (aX σ) v = s_out σ v := by
  simp (disch := decide) only [s_out, aX_k]
theorem s_need_aX (σ : tSt) (v : Int32) : s_need (aX σ) v = s_need σ v := by
  simp (disch := decide) only [s_need, aX_k]
theorem s_unk_aX (σ : tSt) (v : Int32) : s_unk (aX σ) v = s_unk σ v := by
  simp (disch := decide) only [s_unk, aX_k]
theorem s_put_aX (σ : tSt) (v : Int32) : s_put (aX σ) v = s_put σ v := by
  simp (disch := decide) only [s_put, aX_k]
theorem s_beg_aX (σ : tSt) (n v : Int32) : s_beg (aX σ) n v = s_beg σ n v := by
  simp only [s_beg, s_unk_aX, s_in_aX]
theorem s_wait_aX (σ : tSt) (n v : Int32) : s_wait (aX σ) n v = s_wait σ n v := by
  simp only [s_wait, s_beg_aX, s_put_aX, s_out_aX]
theorem s_come_aX (σ : tSt) (n v : Int32) : s_come (aX σ) n v = s_come σ n v := by
  simp only [s_come, s_beg_aX, s_put_aX, s_unk_aX]
theorem s_kind_aM (σ : tSt) (v : Int32) : s_kind (aM σ) v = s_kind σ v := by
  simp (disch := decide) only [s_kind, aM_k]
theorem s_wing_aM (σ : tSt) (v : Int32) : s_wing (aM σ) v = s_wing σ v := by
  simp (disch := decide) only [s_wing, aM_k]
theorem s_in_aM (σ : tSt) (v : Int32) : s_in (aM σ) v = s_in σ v := by
  simp (disch := decide) only [s_in, aM_k]
theorem s_out_aM (σ : tSt) (v : Int32) : s_out (aM σ) v = s_out σ v := by
  simp (disch := decide) only [s_out, aM_k]
theorem s_need_aM (σ : tSt) (v : Int32) : s_need (aM σ) v = s_need σ v := by
  simp (disch := decide) only [s_need, aM_k]
theorem s_unk_aM (σ : tSt) (v : Int32) : s_unk (aM σ) v = s_unk σ v := by
  simp (disch := decide) only [s_unk, aM_k]
theorem s_put_aM (σ : tSt) (v : Int32) : s_put (aM σ) v = s_put σ v := by
  simp (disch := decide) only [s_put, aM_k]
theorem s_beg_aM (σ : tSt) (n v : Int32) : s_beg (aM σ) n v = s_beg σ n v := by
  simp only [s_beg, s_unk_aM, s_in_aM]
theorem s_wait_aM (σ : tSt) (n v : Int32) : s_wait (aM σ) n v = s_wait σ n v := by
  simp only [s_wait, s_beg_aM, s_put_aM, s_out_aM]
theorem s_come_aM (σ : tSt) (n v : Int32) : s_come (aM σ) n v = s_come σ n v := by
  simp only [s_come, s_beg_aM, s_put_aM, s_unk_aM]
def s_status (μ : tSt) : Int32 × tSt := (μ 0 (nI 6), μ)
def s_reason (μ : tSt) (w : Int32) : Int32 × tSt := (if w = 0 then μ 0 (nI 7) else if w = nI 1 then μ 0 (nI 8) else -1, μ)
def s_rf (μ : tSt) (c : Int32) : Int32 × tSt := (-1, up μ 0 (nI 6) c)
def s_gr (μ : tSt) (x : Int32) : Int32 × tSt := (x, up μ 0 (nI 6) (nI 0))
def s_dn (μ : tSt) (c : Int32) : Int32 × tSt := (nI 0, up μ 0 (nI 6) c)
def s_al (μ : tSt) : Int32 × tSt := (nI 1, up μ 0 (nI 6) (nI 0))
abbrev s_nst (μ : tSt) (s : Int32) : Prop := ¬ (¬ s < 0 ∧ ¬ μ 0 (nI 0) ≤ s)
abbrev s_nvi (μ : tSt) (v : Int32) : Prop := ¬ (¬ v < 0 ∧ ¬ μ 0 (nI 3) ≤ v)
abbrev s_wi (x a b : Int32) : Prop := ¬ x < a ∧ ¬ b < x
abbrev s_sp (a b : Int32) : Prop := ¬ a < 0 ∧ ¬ b ≤ a ∧ ¬ nI 2880 < b
def s_stand (μ : tSt) (k z : Int32) : Int32 × tSt := if ¬ s_wi k (nI 1) (nI 5) then s_rf μ (nI 3) else if ¬ s_wi z (nI 10) (nI 200) then s_rf μ (nI 3) else if μ 0 (nI 0) = nI 24 then s_rf μ (nI 4) else
  s_gr (up (up (up μ 1 (μ 0 (nI 0)) k) 2 (μ 0 (nI 0)) z) 0 (nI 0) (μ 0 (nI 0) + nI 1)) (μ 0 (nI 0) + nI 1 - nI 1)
def s_ground (μ : tSt) (s w : Int32) : Int32 × tSt := if s_nst μ s then s_rf μ (nI 1) else if w = 0 then s_gr μ (μ 1 s) else if w = nI 1 then s_gr μ (μ 2 s) else s_rf μ (nI 3)
def s_nearp (μ : tSt) (a b c d : Int32) : Int32 × tSt := if s_nst μ a then s_rf μ (nI 1) else if s_nst μ b then s_rf μ (nI 1) else if a = b then s_rf μ (nI 3) else if ¬ s_wi c (nI 0) (nI 200) then s_rf μ (nI 3) else if ¬ s_wi d (nI 0) (nI 200) then s_rf μ (nI 3) else if μ 0 (nI 1) = nI 40 then s_rf μ (nI 4) else
  s_gr (up (up (up (up (up μ 3 (μ 0 (nI 1)) a) 4 (μ 0 (nI 1)) b) 5 (μ 0 (nI 1)) c) 6 (μ 0 (nI 1)) d) 0 (nI 1) (μ 0 (nI 1) + nI 1)) (μ 0 (nI 1) + nI 1)
def s_cone (μ : tSt) (s a b : Int32) : Int32 × tSt := if s_nst μ s then s_rf μ (nI 1) else if ¬ s_sp a b then s_rf μ (nI 3) else if μ 0 (nI 2) = nI 20 then s_rf μ (nI 4) else
  s_gr (up (up (up (up μ 7 (μ 0 (nI 2)) s) 8 (μ 0 (nI 2)) a) 9 (μ 0 (nI 2)) b) 0 (nI 2) (μ 0 (nI 2) + nI 1)) (μ 0 (nI 2) + nI 1 - nI 1)
def s_towtime (μ : tSt) (x : Int32) : Int32 × tSt := if ¬ s_wi x (nI 1) (nI 60) then s_dn μ (nI 3) else s_al (up μ 0 (nI 5) x)
def s_visit (μ : tSt) (k w a b d : Int32) : Int32 × tSt := if ¬ s_wi k (nI 1) (nI 4) then s_rf μ (nI 3) else if ¬ s_wi w (nI 10) (nI 200) then s_rf μ (nI 3) else if ¬ s_sp a b then s_rf μ (nI 3) else if ¬ s_wi d (nI 0) (nI 2) then s_rf μ (nI 3) else if μ 0 (nI 3) = nI 40 then s_rf μ (nI 4) else
  s_gr (up (up (up (up (up (up (up μ 10 (μ 0 (nI 3) * nI 5) k) 10 (μ 0 (nI 3) * nI 5 + nI 1) w) 10 (μ 0 (nI 3) * nI 5 + nI 2) a) 10 (μ 0 (nI 3) * nI 5 + nI 3) b) 10 (μ 0 (nI 3) * nI 5 + nI 4) d) 11 (μ 0 (nI 3)) (nI 5)) 0 (nI 3) (μ 0 (nI 3) + nI 1)) (μ 0 (nI 3) + nI 1 - nI 1)
def s_tear (μ : tSt) (v k : Int32) : Int32 × tSt := if s_nvi μ v then s_dn μ (nI 2) else if ¬ s_wi k (nI 0) (μ 11 v) then s_dn μ (nI 3) else if s_put μ v = true then s_dn μ (nI 6) else s_al (up μ 11 v k)
def s_told (μ : tSt) (v k : Int32) : Int32 × tSt := if s_nvi μ v then s_rf μ (nI 2) else if ¬ k < 0 then (if k < μ 11 v then s_gr μ (μ 10 (v * nI 5 + k)) else s_rf μ (nI 3)) else s_rf μ (nI 3)
def s_offp (μ : tSt) (v : Int32) : Int32 × tSt := if s_nvi μ v then s_dn μ (nI 2) else if ¬ s_put μ v = true then s_dn μ (nI 6) else if ¬ μ 0 (nI 4) < s_in μ v then s_dn μ (nI 7) else s_al (up μ 12 v (nI 0))
def s_stays (μ : tSt) (v : Int32) : Int32 × tSt := if s_nvi μ v then s_rf μ (nI 2) else s_gr μ (μ 12 v)
def s_stay (μ : tSt) (v k w : Int32) : Int32 × tSt := if s_nvi μ v then s_rf μ (nI 2) else if ¬ k < 0 then (if k < μ 12 v then (if w = 0 then s_gr μ (μ 13 (v * nI 8 + k)) else if w = nI 1 then s_gr μ (μ 14 (v * nI 8 + k)) else if w = nI 2 then s_gr μ (μ 15 (v * nI 8 + k)) else s_rf μ (nI 3)) else s_rf μ (nI 3)) else s_rf μ (nI 3)
def s_changed (μ : tSt) (k : Int32) : Int32 × tSt := (if ¬ k < 0 then (if k < μ 0 (nI 9) then μ 16 k else -1) else -1, μ)
theorem k_X6_status {σ : tSt} {nS nP nC nV : Nat} (hI : iN (aX σ) nS nP nC nV) : CT mX6_status [.ref 0] σ (QX σ (s_status (aX σ))) := by
  have hS := hI.1.1
  rw [aX_0] at hS
  have hP := hI.2.1.1
  rw [aX_1] at hP
  have hC := hI.2.2.1.1
  rw [aX_2] at hC
  have hV := hI.2.2.2.1
  rw [aX_3] at hV
  have hS24 := hI.1.2
  have hP40 := hI.2.1.2
  have hC20 := hI.2.2.1.2
  have hV40 := hI.2.2.2.2
  refine CT.of2 0 (by decide) rfl rfl ?_
  refine tr_aload_n eX6_status_0 rfl ?_
  refine tr_getI eX6_status_1 fk_X6_61 rfl rfl ?_
  refine tr_ret eX6_status_4 rfl rfl ?_
  refine ⟨?_, ?_, rfl⟩ <;> simp (disch := decide) only [s_status, PE, psh, s_nst, s_nvi, s_kind_aX, s_wing_aX, s_in_aX, s_out_aX, s_need_aX, s_unk_aX, s_put_aX, aX_0, aX_1, aX_2, aX_3, aX_4, aX_5, aX_6, aX_7, aX_8, aX_9, aX_f17_9, aX_f17_10, aX_f17_11, aX_f18_6, aX_f18_7, aX_f0_6, aX_f0_7, aX_f0_8, aX_f0_9, aX_f25_1, aX_u, aX_k, aX_s] <;> simp_all

theorem k_X7_status {τ : tSt} {nS nP nC nV : Nat} (hI : iN (aM τ) nS nP nC nV) : CT mX7_status [.ref 0] τ (QM (s_status (aM τ))) := by
  have hS := hI.1.1
  rw [aM_0] at hS
  have hP := hI.2.1.1
  rw [aM_1] at hP
  have hC := hI.2.2.1.1
  rw [aM_2] at hC
  have hV := hI.2.2.2.1
  rw [aM_3] at hV
  have hS24 := hI.1.2
  have hP40 := hI.2.1.2
  have hC20 := hI.2.2.1.2
  have hV40 := hI.2.2.2.2
  refine CT.of2 0 (by decide) rfl rfl ?_
  refine tr_aload_n eX7_status_0 rfl ?_
  refine tr_getI eX7_status_1 fk_X7_80 rfl rfl ?_
  refine tr_ret eX7_status_4 rfl rfl ?_
  refine ⟨?_, ?_⟩ <;> simp (disch := decide) only [s_status, PE, psh, up_c0, up_65, s_nst, s_nvi, s_kind_aM, s_wing_aM, s_in_aM, s_out_aM, s_need_aM, s_unk_aM, s_put_aM, aM_0, aM_1, aM_2, aM_3, aM_4, aM_5, aM_6, aM_7, aM_8, aM_9, aM_f0_3, aM_f0_4, aM_f0_5, aM_f0_6, aM_f0_8, aM_f0_7, aM_f0_0, aM_f0_1, aM_f0_2, aM_f0_34, aM_f0_24, aM_f0_26, aM_f0_29, aM_f0_30, aM_u, aM_k, aM_s] <;> simp_all

theorem k_X6_reason {σ : tSt} {nS nP nC nV : Nat} {w : Int32} (hI : iN (aX σ) nS nP nC nV) : CT mX6_reason [.ref 0, .int w] σ (QX σ (s_reason (aX σ) w)) := by
  have hS := hI.1.1
  rw [aX_0] at hS
  have hP := hI.2.1.1
  rw [aX_1] at hP
  have hC := hI.2.2.1.1
  rw [aX_2] at hC
  have hV := hI.2.2.2.1
  rw [aX_3] at hV
  have hS24 := hI.1.2
  have hP40 := hI.2.1.2
  have hC20 := hI.2.2.1.2
  have hV40 := hI.2.2.2.2
  refine CT.of2 0 (by decide) rfl rfl ?_
  refine tr_iload_n eX6_reason_0 rfl ?_
  refine tr_if_ne eX6_reason_1 (fun h1 => ?_) (fun h1 => ?_)
  · skip
    refine tr_iload_n eX6_reason_9 rfl ?_
    refine tr_iconst eX6_reason_10 (nI 1) ci_1 ?_
    refine tr_icmp_ne eX6_reason_11 (fun h11 => ?_) (fun h11 => ?_)
    · skip
      refine tr_iconst eX6_reason_21 (-1) ci_m1 ?_
      refine tr_ret eX6_reason_22 rfl rfl ?_
      refine ⟨?_, ?_, rfl⟩ <;> simp (disch := decide) only [s_reason, PE, psh, s_nst, s_nvi, s_kind_aX, s_wing_aX, s_in_aX, s_out_aX, s_need_aX, s_unk_aX, s_put_aX, aX_0, aX_1, aX_2, aX_3, aX_4, aX_5, aX_6, aX_7, aX_8, aX_9, aX_f17_9, aX_f17_10, aX_f17_11, aX_f18_6, aX_f18_7, aX_f0_6, aX_f0_7, aX_f0_8, aX_f0_9, aX_f25_1, aX_u, aX_k, aX_s] <;> simp_all
    · skip
      refine tr_aload_n eX6_reason_14 rfl ?_
      refine tr_getI eX6_reason_15 fk_X6_67 rfl rfl ?_
      refine tr_goto eX6_reason_18 ?_
      refine tr_ret eX6_reason_22 rfl rfl ?_
      refine ⟨?_, ?_, rfl⟩ <;> simp (disch := decide) only [s_reason, PE, psh, s_nst, s_nvi, s_kind_aX, s_wing_aX, s_in_aX, s_out_aX, s_need_aX, s_unk_aX, s_put_aX, aX_0, aX_1, aX_2, aX_3, aX_4, aX_5, aX_6, aX_7, aX_8, aX_9, aX_f17_9, aX_f17_10, aX_f17_11, aX_f18_6, aX_f18_7, aX_f0_6, aX_f0_7, aX_f0_8, aX_f0_9, aX_f25_1, aX_u, aX_k, aX_s] <;> simp_all
  · skip
    refine tr_aload_n eX6_reason_4 rfl ?_
    refine tr_getI eX6_reason_5 fk_X6_64 rfl rfl ?_
    refine tr_ret eX6_reason_8 rfl rfl ?_
    refine ⟨?_, ?_, rfl⟩ <;> simp (disch := decide) only [s_reason, PE, psh, s_nst, s_nvi, s_kind_aX, s_wing_aX, s_in_aX, s_out_aX, s_need_aX, s_unk_aX, s_put_aX, aX_0, aX_1, aX_2, aX_3, aX_4, aX_5, aX_6, aX_7, aX_8, aX_9, aX_f17_9, aX_f17_10, aX_f17_11, aX_f18_6, aX_f18_7, aX_f0_6, aX_f0_7, aX_f0_8, aX_f0_9, aX_f25_1, aX_u, aX_k, aX_s] <;> simp_all

theorem k_X7_reason {τ : tSt} {nS nP nC nV : Nat} {w : Int32} (hI : iN (aM τ) nS nP nC nV) : CT mX7_reason [.ref 0, .int w] τ (QM (s_reason (aM τ) w)) := by
  have hS := hI.1.1
  rw [aM_0] at hS
  have hP := hI.2.1.1
  rw [aM_1] at hP
  have hC := hI.2.2.1.1
  rw [aM_2] at hC
  have hV := hI.2.2.2.1
  rw [aM_3] at hV
  have hS24 := hI.1.2
  have hP40 := hI.2.1.2
  have hC20 := hI.2.2.1.2
  have hV40 := hI.2.2.2.2
  refine CT.of2 0 (by decide) rfl rfl ?_
  refine tr_iload_n eX7_reason_0 rfl ?_
  refine tr_if_ne eX7_reason_1 (fun h1 => ?_) (fun h1 => ?_)
  · skip
    refine tr_iload_n eX7_reason_11 rfl ?_
    refine tr_iconst eX7_reason_12 (nI 1) ci_1 ?_
    refine tr_icmp_ne eX7_reason_13 (fun h13 => ?_) (fun h13 => ?_)
    · skip
      refine tr_iconst eX7_reason_23 (-1) ci_m1 ?_
      refine tr_ret eX7_reason_24 rfl rfl ?_
      refine ⟨?_, ?_⟩ <;> simp (disch := decide) only [s_reason, PE, psh, up_c0, up_65, s_nst, s_nvi, s_kind_aM, s_wing_aM, s_in_aM, s_out_aM, s_need_aM, s_unk_aM, s_put_aM, aM_0, aM_1, aM_2, aM_3, aM_4, aM_5, aM_6, aM_7, aM_8, aM_9, aM_f0_3, aM_f0_4, aM_f0_5, aM_f0_6, aM_f0_8, aM_f0_7, aM_f0_0, aM_f0_1, aM_f0_2, aM_f0_34, aM_f0_24, aM_f0_26, aM_f0_29, aM_f0_30, aM_u, aM_k, aM_s] <;> simp_all
    · skip
      refine tr_aload_n eX7_reason_16 rfl ?_
      refine tr_getI eX7_reason_17 fk_X7_9 rfl rfl ?_
      refine tr_goto eX7_reason_20 ?_
      refine tr_ret eX7_reason_24 rfl rfl ?_
      refine ⟨?_, ?_⟩ <;> simp (disch := decide) only [s_reason, PE, psh, up_c0, up_65, s_nst, s_nvi, s_kind_aM, s_wing_aM, s_in_aM, s_out_aM, s_need_aM, s_unk_aM, s_put_aM, aM_0, aM_1, aM_2, aM_3, aM_4, aM_5, aM_6, aM_7, aM_8, aM_9, aM_f0_3, aM_f0_4, aM_f0_5, aM_f0_6, aM_f0_8, aM_f0_7, aM_f0_0, aM_f0_1, aM_f0_2, aM_f0_34, aM_f0_24, aM_f0_26, aM_f0_29, aM_f0_30, aM_u, aM_k, aM_s] <;> simp_all
  · skip
    refine tr_aload_n eX7_reason_4 rfl ?_
    refine tr_getI eX7_reason_5 fk_X7_83 rfl rfl ?_
    refine tr_goto eX7_reason_8 ?_
    refine tr_ret eX7_reason_24 rfl rfl ?_
    refine ⟨?_, ?_⟩ <;> simp (disch := decide) only [s_reason, PE, psh, up_c0, up_65, s_nst, s_nvi, s_kind_aM, s_wing_aM, s_in_aM, s_out_aM, s_need_aM, s_unk_aM, s_put_aM, aM_0, aM_1, aM_2, aM_3, aM_4, aM_5, aM_6, aM_7, aM_8, aM_9, aM_f0_3, aM_f0_4, aM_f0_5, aM_f0_6, aM_f0_8, aM_f0_7, aM_f0_0, aM_f0_1, aM_f0_2, aM_f0_34, aM_f0_24, aM_f0_26, aM_f0_29, aM_f0_30, aM_u, aM_k, aM_s] <;> simp_all

theorem k_X6_stand {σ : tSt} {nS nP nC nV : Nat} {k z : Int32} (hI : iN (aX σ) nS nP nC nV) : CT mX6_stand [.ref 0, .int k, .int z] σ (QX σ (s_stand (aX σ) k z)) := by
  have hS := hI.1.1
  rw [aX_0] at hS
  have hP := hI.2.1.1
  rw [aX_1] at hP
  have hC := hI.2.2.1.1
  rw [aX_2] at hC
  have hV := hI.2.2.2.1
  rw [aX_3] at hV
  have hS24 := hI.1.2
  have hP40 := hI.2.1.2
  have hC20 := hI.2.2.1.2
  have hV40 := hI.2.2.2.2
  refine CT.of2 0 (by decide) rfl rfl ?_
  refine tr_iload_n eX6_stand_0 rfl ?_
  refine tr_iconst eX6_stand_1 (nI 1) ci_1 ?_
  refine tr_iconst eX6_stand_2 (nI 5) ci_5 ?_
  refine tr_se3 eX6_stand_3 zv_X6_isWithin zs_X6_isWithin lk_X6_70 ⟨rfl, by decide, by decide⟩ rfl k_X6_isWithin ?_
  refine tr_if_eq eX6_stand_6 (fun h6 => ?_) (fun h6 => ?_)
  · skip
    try first | replace h6 := bi_0 h6 | replace h6 := bi_n h6
    refine tr_aload_n eX6_stand_21 rfl ?_
    refine tr_iconst eX6_stand_22 (nI 3) ci_3 ?_
    refine tr_ce1 eX6_stand_23 zv_X6_refuse zi_X6_refuse lk_X6_74 ⟨rfl, by decide, by decide⟩ rfl rfl rfl k_X6_refuse ?_
    try simp (disch := decide) only [up_k, up_s, up_f]
    refine tr_ret eX6_stand_26 rfl rfl ?_
    refine ⟨?_, ?_, rfl⟩ <;> simp (disch := decide) only [s_stand, PE, psh, s_nst, s_nvi, s_kind_aX, s_wing_aX, s_in_aX, s_out_aX, s_need_aX, s_unk_aX, s_put_aX, aX_0, aX_1, aX_2, aX_3, aX_4, aX_5, aX_6, aX_7, aX_8, aX_9, aX_f17_9, aX_f17_10, aX_f17_11, aX_f18_6, aX_f18_7, aX_f0_6, aX_f0_7, aX_f0_8, aX_f0_9, aX_f25_1, aX_u, aX_k, aX_s] <;> simp_all [s_rf, s_gr, s_dn, s_al, n0, le_nlt, -Int32.not_lt, -Int32.not_le]
  · skip
    try first | replace h6 := bi_0 h6 | replace h6 := bi_n h6
    refine tr_iload_n eX6_stand_9 rfl ?_
    refine tr_bipush eX6_stand_10 (nI 10) (by decide) ?_
    refine tr_sipush eX6_stand_12 (nI 200) (by decide) ?_
    refine tr_se3 eX6_stand_15 zv_X6_isWithin zs_X6_isWithin lk_X6_70 ⟨rfl, by decide, by decide⟩ rfl k_X6_isWithin ?_
    refine tr_if_ne eX6_stand_18 (fun h18 => ?_) (fun h18 => ?_)
    · skip
      try first | replace h18 := bi_0 h18 | replace h18 := bi_n h18
      refine tr_aload_n eX6_stand_27 rfl ?_
      refine tr_getR eX6_stand_28 fk_X6_10 rfl rfl ?_
      refine tr_getI eX6_stand_31 fk_X6_78 rfl rfl ?_
      refine tr_bipush eX6_stand_34 (nI 24) (by decide) ?_
      refine tr_icmp_lt eX6_stand_36 (fun h36 => ?_) (fun h36 => ?_)
      · skip
        have g36 := lt_neq h36
        have hin := in_of_ne hS hS24 (by decide) g36
        refine tr_aload_n eX6_stand_45 rfl ?_
        refine tr_aload_n eX6_stand_46 rfl ?_
        refine tr_getR eX6_stand_47 fk_X6_10 rfl rfl ?_
        refine tr_iload_n eX6_stand_50 rfl ?_
        refine tr_iload_n eX6_stand_51 rfl ?_
        refine tr_ce2 eX6_stand_52 zv_X1_addStand zi_X1_addStand lk_X6_81 ⟨rfl, by decide, by decide⟩ rfl rfl rfl (k_X1_addStand (by first | with_reducible assumption | with_reducible exact in_slot (by with_reducible assumption) (by with_reducible assumption) | with_reducible exact in_row _ (by decide) (by with_reducible assumption) | with_reducible exact in_row0 (by with_reducible assumption) | with_reducible exact in_slot0 (by with_reducible assumption) | (simp (disch := decide) only [up_k, up_s, up_f] <;> with_reducible assumption))) ?_
        try simp (disch := decide) only [up_k, up_s, up_f]
        refine tr_ce1 eX6_stand_55 zv_X6_grant zi_X6_grant lk_X6_85 ⟨rfl, by decide, by decide⟩ rfl rfl rfl k_X6_grant ?_
        try simp (disch := decide) only [up_k, up_s, up_f]
        refine tr_ret eX6_stand_58 rfl rfl ?_
        refine ⟨?_, ?_, rfl⟩ <;> simp (disch := decide) only [s_stand, PE, psh, s_nst, s_nvi, s_kind_aX, s_wing_aX, s_in_aX, s_out_aX, s_need_aX, s_unk_aX, s_put_aX, aX_0, aX_1, aX_2, aX_3, aX_4, aX_5, aX_6, aX_7, aX_8, aX_9, aX_f17_9, aX_f17_10, aX_f17_11, aX_f18_6, aX_f18_7, aX_f0_6, aX_f0_7, aX_f0_8, aX_f0_9, aX_f25_1, aX_u, aX_k, aX_s] <;> simp_all [s_rf, s_gr, s_dn, s_al, n0, le_nlt, -Int32.not_lt, -Int32.not_le]
      · skip
        have g36 := ge_eq hS hS24 (by decide) h36
        refine tr_aload_n eX6_stand_39 rfl ?_
        refine tr_iconst eX6_stand_40 (nI 4) ci_4 ?_
        refine tr_ce1 eX6_stand_41 zv_X6_refuse zi_X6_refuse lk_X6_74 ⟨rfl, by decide, by decide⟩ rfl rfl rfl k_X6_refuse ?_
        try simp (disch := decide) only [up_k, up_s, up_f]
        refine tr_ret eX6_stand_44 rfl rfl ?_
        refine ⟨?_, ?_, rfl⟩ <;> simp (disch := decide) only [s_stand, PE, psh, s_nst, s_nvi, s_kind_aX, s_wing_aX, s_in_aX, s_out_aX, s_need_aX, s_unk_aX, s_put_aX, aX_0, aX_1, aX_2, aX_3, aX_4, aX_5, aX_6, aX_7, aX_8, aX_9, aX_f17_9, aX_f17_10, aX_f17_11, aX_f18_6, aX_f18_7, aX_f0_6, aX_f0_7, aX_f0_8, aX_f0_9, aX_f25_1, aX_u, aX_k, aX_s] <;> simp_all [s_rf, s_gr, s_dn, s_al, n0, le_nlt, -Int32.not_lt, -Int32.not_le]
    · skip
      try first | replace h18 := bi_0 h18 | replace h18 := bi_n h18
      refine tr_aload_n eX6_stand_21 rfl ?_
      refine tr_iconst eX6_stand_22 (nI 3) ci_3 ?_
      refine tr_ce1 eX6_stand_23 zv_X6_refuse zi_X6_refuse lk_X6_74 ⟨rfl, by decide, by decide⟩ rfl rfl rfl k_X6_refuse ?_
      try simp (disch := decide) only [up_k, up_s, up_f]
      refine tr_ret eX6_stand_26 rfl rfl ?_
      refine ⟨?_, ?_, rfl⟩ <;> simp (disch := decide) only [s_stand, PE, psh, s_nst, s_nvi, s_kind_aX, s_wing_aX, s_in_aX, s_out_aX, s_need_aX, s_unk_aX, s_put_aX, aX_0, aX_1, aX_2, aX_3, aX_4, aX_5, aX_6, aX_7, aX_8, aX_9, aX_f17_9, aX_f17_10, aX_f17_11, aX_f18_6, aX_f18_7, aX_f0_6, aX_f0_7, aX_f0_8, aX_f0_9, aX_f25_1, aX_u, aX_k, aX_s] <;> simp_all [s_rf, s_gr, s_dn, s_al, n0, le_nlt, -Int32.not_lt, -Int32.not_le]

theorem k_X7_stand {τ : tSt} {nS nP nC nV : Nat} {k z : Int32} (hI : iN (aM τ) nS nP nC nV) : CT mX7_stand [.ref 0, .int k, .int z] τ (QM (s_stand (aM τ) k z)) := by
  have hS := hI.1.1
  rw [aM_0] at hS
  have hP := hI.2.1.1
  rw [aM_1] at hP
  have hC := hI.2.2.1.1
  rw [aM_2] at hC
  have hV := hI.2.2.2.1
  rw [aM_3] at hV
  have hS24 := hI.1.2
  have hP40 := hI.2.1.2
  have hC20 := hI.2.2.1.2
  have hV40 := hI.2.2.2.2
  refine CT.of2 0 (by decide) rfl rfl ?_
  refine tr_iload_n eX7_stand_0 rfl ?_
  refine tr_iconst eX7_stand_1 (nI 1) ci_1 ?_
  refine tr_icmp_lt eX7_stand_2 (fun h2 => ?_) (fun h2 => ?_)
  · skip
    refine tr_aload_n eX7_stand_23 rfl ?_
    refine tr_iconst eX7_stand_24 (nI 3) ci_3 ?_
    refine tr_ce1 eX7_stand_25 zv_X7_refuse zi_X7_refuse lk_X7_92 ⟨rfl, by decide, by decide⟩ rfl rfl rfl k_X7_refuse ?_
    try simp (disch := decide) only [up_k, up_s, up_f]
    refine tr_ret eX7_stand_28 rfl rfl ?_
    refine ⟨?_, ?_⟩ <;> simp (disch := decide) only [s_stand, PE, psh, up_c0, up_65, s_nst, s_nvi, s_kind_aM, s_wing_aM, s_in_aM, s_out_aM, s_need_aM, s_unk_aM, s_put_aM, aM_0, aM_1, aM_2, aM_3, aM_4, aM_5, aM_6, aM_7, aM_8, aM_9, aM_f0_3, aM_f0_4, aM_f0_5, aM_f0_6, aM_f0_8, aM_f0_7, aM_f0_0, aM_f0_1, aM_f0_2, aM_f0_34, aM_f0_24, aM_f0_26, aM_f0_29, aM_f0_30, aM_u, aM_k, aM_s] <;> simp_all [s_rf, s_gr, s_dn, s_al, n0, le_nlt, -Int32.not_lt, -Int32.not_le]
  · skip
    refine tr_iload_n eX7_stand_5 rfl ?_
    refine tr_iconst eX7_stand_6 (nI 5) ci_5 ?_
    refine tr_icmp_gt eX7_stand_7 (fun h7 => ?_) (fun h7 => ?_)
    · skip
      refine tr_aload_n eX7_stand_23 rfl ?_
      refine tr_iconst eX7_stand_24 (nI 3) ci_3 ?_
      refine tr_ce1 eX7_stand_25 zv_X7_refuse zi_X7_refuse lk_X7_92 ⟨rfl, by decide, by decide⟩ rfl rfl rfl k_X7_refuse ?_
      try simp (disch := decide) only [up_k, up_s, up_f]
      refine tr_ret eX7_stand_28 rfl rfl ?_
      refine ⟨?_, ?_⟩ <;> simp (disch := decide) only [s_stand, PE, psh, up_c0, up_65, s_nst, s_nvi, s_kind_aM, s_wing_aM, s_in_aM, s_out_aM, s_need_aM, s_unk_aM, s_put_aM, aM_0, aM_1, aM_2, aM_3, aM_4, aM_5, aM_6, aM_7, aM_8, aM_9, aM_f0_3, aM_f0_4, aM_f0_5, aM_f0_6, aM_f0_8, aM_f0_7, aM_f0_0, aM_f0_1, aM_f0_2, aM_f0_34, aM_f0_24, aM_f0_26, aM_f0_29, aM_f0_30, aM_u, aM_k, aM_s] <;> simp_all [s_rf, s_gr, s_dn, s_al, n0, le_nlt, -Int32.not_lt, -Int32.not_le]
    · skip
      refine tr_iload_n eX7_stand_10 rfl ?_
      refine tr_bipush eX7_stand_11 (nI 10) (by decide) ?_
      refine tr_icmp_lt eX7_stand_13 (fun h13 => ?_) (fun h13 => ?_)
      · skip
        refine tr_aload_n eX7_stand_23 rfl ?_
        refine tr_iconst eX7_stand_24 (nI 3) ci_3 ?_
        refine tr_ce1 eX7_stand_25 zv_X7_refuse zi_X7_refuse lk_X7_92 ⟨rfl, by decide, by decide⟩ rfl rfl rfl k_X7_refuse ?_
        try simp (disch := decide) only [up_k, up_s, up_f]
        refine tr_ret eX7_stand_28 rfl rfl ?_
        refine ⟨?_, ?_⟩ <;> simp (disch := decide) only [s_stand, PE, psh, up_c0, up_65, s_nst, s_nvi, s_kind_aM, s_wing_aM, s_in_aM, s_out_aM, s_need_aM, s_unk_aM, s_put_aM, aM_0, aM_1, aM_2, aM_3, aM_4, aM_5, aM_6, aM_7, aM_8, aM_9, aM_f0_3, aM_f0_4, aM_f0_5, aM_f0_6, aM_f0_8, aM_f0_7, aM_f0_0, aM_f0_1, aM_f0_2, aM_f0_34, aM_f0_24, aM_f0_26, aM_f0_29, aM_f0_30, aM_u, aM_k, aM_s] <;> simp_all [s_rf, s_gr, s_dn, s_al, n0, le_nlt, -Int32.not_lt, -Int32.not_le]
      · skip
        refine tr_iload_n eX7_stand_16 rfl ?_
        refine tr_sipush eX7_stand_17 (nI 200) (by decide) ?_
        refine tr_icmp_le eX7_stand_20 (fun h20 => ?_) (fun h20 => ?_)
        · skip
          refine tr_aload_n eX7_stand_29 rfl ?_
          refine tr_getI eX7_stand_30 fk_X7_86 rfl rfl ?_
          refine tr_bipush eX7_stand_33 (nI 24) (by decide) ?_
          refine tr_icmp_ne eX7_stand_35 (fun h35 => ?_) (fun h35 => ?_)
          · skip
            have hin := in_of_ne hS hS24 (by decide) h35
            refine tr_aload_n eX7_stand_44 rfl ?_
            refine tr_getR eX7_stand_45 fk_X7_16 rfl rfl ?_
            refine tr_aload_n eX7_stand_48 rfl ?_
            refine tr_getI eX7_stand_49 fk_X7_86 rfl rfl ?_
            refine tr_iload_n eX7_stand_52 rfl ?_
            refine tr_iast eX7_stand_53 rfl (by first | with_reducible assumption | with_reducible exact in_slot (by with_reducible assumption) (by with_reducible assumption) | with_reducible exact in_row _ (by decide) (by with_reducible assumption) | with_reducible exact in_row0 (by with_reducible assumption) | with_reducible exact in_slot0 (by with_reducible assumption) | (simp (disch := decide) only [up_k, up_s, up_f] <;> with_reducible assumption)) ?_
            refine tr_aload_n eX7_stand_54 rfl ?_
            refine tr_getR eX7_stand_55 fk_X7_20 rfl rfl ?_
            refine tr_aload_n eX7_stand_58 rfl ?_
            refine tr_getI eX7_stand_59 fk_X7_86 rfl rfl ?_
            try simp (disch := decide) only [up_k, up_s, up_f]
            refine tr_iload_n eX7_stand_62 rfl ?_
            refine tr_iast eX7_stand_63 rfl (by first | with_reducible assumption | with_reducible exact in_slot (by with_reducible assumption) (by with_reducible assumption) | with_reducible exact in_row _ (by decide) (by with_reducible assumption) | with_reducible exact in_row0 (by with_reducible assumption) | with_reducible exact in_slot0 (by with_reducible assumption) | (simp (disch := decide) only [up_k, up_s, up_f] <;> with_reducible assumption)) ?_
            refine tr_aload_n eX7_stand_64 rfl ?_
            refine tr_dup eX7_stand_65 rfl ?_
            refine tr_getI eX7_stand_66 fk_X7_86 rfl rfl ?_
            try simp (disch := decide) only [up_k, up_s, up_f]
            refine tr_iconst eX7_stand_69 (nI 1) ci_1 ?_
            refine tr_iadd eX7_stand_70 ?_
            refine tr_put eX7_stand_71 fp_X7_86 rfl rfl ?_
            refine tr_aload_n eX7_stand_74 rfl ?_
            refine tr_aload_n eX7_stand_75 rfl ?_
            refine tr_getI eX7_stand_76 fk_X7_86 rfl rfl ?_
            try simp (disch := decide) only [up_k, up_s, up_f]
            refine tr_iconst eX7_stand_79 (nI 1) ci_1 ?_
            refine tr_isub eX7_stand_80 ?_
            refine tr_ce1 eX7_stand_81 zv_X7_gives zi_X7_gives lk_X7_96 ⟨rfl, by decide, by decide⟩ rfl rfl rfl k_X7_gives ?_
            try simp (disch := decide) only [up_k, up_s, up_f]
            refine tr_ret eX7_stand_84 rfl rfl ?_
            refine ⟨?_, ?_⟩ <;> simp (disch := decide) only [s_stand, PE, psh, up_c0, up_65, s_nst, s_nvi, s_kind_aM, s_wing_aM, s_in_aM, s_out_aM, s_need_aM, s_unk_aM, s_put_aM, aM_0, aM_1, aM_2, aM_3, aM_4, aM_5, aM_6, aM_7, aM_8, aM_9, aM_f0_3, aM_f0_4, aM_f0_5, aM_f0_6, aM_f0_8, aM_f0_7, aM_f0_0, aM_f0_1, aM_f0_2, aM_f0_34, aM_f0_24, aM_f0_26, aM_f0_29, aM_f0_30, aM_u, aM_k, aM_s] <;> simp_all [s_rf, s_gr, s_dn, s_al, n0, le_nlt, -Int32.not_lt, -Int32.not_le]
          · skip
            refine tr_aload_n eX7_stand_38 rfl ?_
            refine tr_iconst eX7_stand_39 (nI 4) ci_4 ?_
            refine tr_ce1 eX7_stand_40 zv_X7_refuse zi_X7_refuse lk_X7_92 ⟨rfl, by decide, by decide⟩ rfl rfl rfl k_X7_refuse ?_
            try simp (disch := decide) only [up_k, up_s, up_f]
            refine tr_ret eX7_stand_43 rfl rfl ?_
            refine ⟨?_, ?_⟩ <;> simp (disch := decide) only [s_stand, PE, psh, up_c0, up_65, s_nst, s_nvi, s_kind_aM, s_wing_aM, s_in_aM, s_out_aM, s_need_aM, s_unk_aM, s_put_aM, aM_0, aM_1, aM_2, aM_3, aM_4, aM_5, aM_6, aM_7, aM_8, aM_9, aM_f0_3, aM_f0_4, aM_f0_5, aM_f0_6, aM_f0_8, aM_f0_7, aM_f0_0, aM_f0_1, aM_f0_2, aM_f0_34, aM_f0_24, aM_f0_26, aM_f0_29, aM_f0_30, aM_u, aM_k, aM_s] <;> simp_all [s_rf, s_gr, s_dn, s_al, n0, le_nlt, -Int32.not_lt, -Int32.not_le]
        · skip
          refine tr_aload_n eX7_stand_23 rfl ?_
          refine tr_iconst eX7_stand_24 (nI 3) ci_3 ?_
          refine tr_ce1 eX7_stand_25 zv_X7_refuse zi_X7_refuse lk_X7_92 ⟨rfl, by decide, by decide⟩ rfl rfl rfl k_X7_refuse ?_
          try simp (disch := decide) only [up_k, up_s, up_f]
          refine tr_ret eX7_stand_28 rfl rfl ?_
          refine ⟨?_, ?_⟩ <;> simp (disch := decide) only [s_stand, PE, psh, up_c0, up_65, s_nst, s_nvi, s_kind_aM, s_wing_aM, s_in_aM, s_out_aM, s_need_aM, s_unk_aM, s_put_aM, aM_0, aM_1, aM_2, aM_3, aM_4, aM_5, aM_6, aM_7, aM_8, aM_9, aM_f0_3, aM_f0_4, aM_f0_5, aM_f0_6, aM_f0_8, aM_f0_7, aM_f0_0, aM_f0_1, aM_f0_2, aM_f0_34, aM_f0_24, aM_f0_26, aM_f0_29, aM_f0_30, aM_u, aM_k, aM_s] <;> simp_all [s_rf, s_gr, s_dn, s_al, n0, le_nlt, -Int32.not_lt, -Int32.not_le]

theorem w01 {w : Int32} (h1 : ¬ w < 0) (h2 : w ≤ nI 1) (h3 : ¬ w = 0) : w = nI 1 := by
  obtain ⟨j, hj, rfl⟩ := nI_of h1
  have := (nI_leI hj (by decide)).mp h2
  rcases (show j = 0 ∨ j = 1 by omega) with rfl | rfl
  · exact absurd rfl h3
  · rfl
theorem w012 {w : Int32} (h1 : ¬ w < 0) (h2 : w ≤ nI 2) (h3 : ¬ w = 0) (h4 : ¬ w = nI 1) : w = nI 2 := by
  obtain ⟨j, hj, rfl⟩ := nI_of h1
  have := (nI_leI hj (by decide)).mp h2
  rcases (show j = 0 ∨ j = 1 ∨ j = 2 by omega) with rfl | rfl | rfl
  · exact absurd rfl h3
  · exact absurd rfl h4
  · rfl
theorem wlo {w : Int32} (h1 : w < 0) : ¬ w = 0 ∧ ¬ w = nI 1 ∧ ¬ w = nI 2 := ⟨fun q => by subst q; exact absurd h1 (by decide), fun q => by subst q; exact absurd h1 (by decide), fun q => by subst q; exact absurd h1 (by decide)⟩
theorem whi {w : Int32} (h1 : ¬ w ≤ nI 1) : ¬ w = 0 ∧ ¬ w = nI 1 := ⟨fun q => by subst q; exact absurd (show (0 : Int32) ≤ nI 1 by decide) h1, fun q => by subst q; exact absurd (show nI 1 ≤ nI 1 by decide) h1⟩
theorem whi2 {w : Int32} (h1 : ¬ w ≤ nI 2) : ¬ w = 0 ∧ ¬ w = nI 1 ∧ ¬ w = nI 2 := ⟨fun q => by subst q; exact absurd (show (0 : Int32) ≤ nI 2 by decide) h1, fun q => by subst q; exact absurd (show nI 1 ≤ nI 2 by decide) h1, fun q => by subst q; exact absurd (show nI 2 ≤ nI 2 by decide) h1⟩
theorem k_X6_ground {σ : tSt} {nS nP nC nV : Nat} {s w : Int32} (hI : iN (aX σ) nS nP nC nV) : CT mX6_ground [.ref 0, .int s, .int w] σ (QX σ (s_ground (aX σ) s w)) := by
  have hS := hI.1.1
  rw [aX_0] at hS
  have hP := hI.2.1.1
  rw [aX_1] at hP
  have hC := hI.2.2.1.1
  rw [aX_2] at hC
  have hV := hI.2.2.2.1
  rw [aX_3] at hV
  have hS24 := hI.1.2
  have hP40 := hI.2.1.2
  have hC20 := hI.2.2.1.2
  have hV40 := hI.2.2.2.2
  refine CT.of2 0 (by decide) rfl rfl ?_
  refine tr_aload_n eX6_ground_0 rfl ?_
  refine tr_getR eX6_ground_1 fk_X6_10 rfl rfl ?_
  refine tr_iload_n eX6_ground_4 rfl ?_
  refine tr_ce1 eX6_ground_5 zv_X1_hasStand zi_X1_hasStand lk_X6_88 ⟨rfl, by decide, by decide⟩ rfl rfl rfl k_X1_hasStand ?_
  refine tr_if_ne eX6_ground_8 (fun h8 => ?_) (fun h8 => ?_)
  · skip
    try first | replace h8 := bi_0 h8 | replace h8 := bi_n h8
    have hin := in_has hS hS24 (by decide) h8
    refine tr_iload_n eX6_ground_17 rfl ?_
    refine tr_if_ne eX6_ground_18 (fun h18 => ?_) (fun h18 => ?_)
    · skip
      refine tr_iload_n eX6_ground_35 rfl ?_
      refine tr_iconst eX6_ground_36 (nI 1) ci_1 ?_
      refine tr_icmp_ne eX6_ground_37 (fun h37 => ?_) (fun h37 => ?_)
      · skip
        refine tr_aload_n eX6_ground_56 rfl ?_
        refine tr_iconst eX6_ground_57 (nI 3) ci_3 ?_
        refine tr_ce1 eX6_ground_58 zv_X6_refuse zi_X6_refuse lk_X6_74 ⟨rfl, by decide, by decide⟩ rfl rfl rfl k_X6_refuse ?_
        try simp (disch := decide) only [up_k, up_s, up_f]
        refine tr_ret eX6_ground_61 rfl rfl ?_
        refine ⟨?_, ?_, rfl⟩ <;> simp (disch := decide) only [s_ground, PE, psh, s_nst, s_nvi, s_kind_aX, s_wing_aX, s_in_aX, s_out_aX, s_need_aX, s_unk_aX, s_put_aX, aX_0, aX_1, aX_2, aX_3, aX_4, aX_5, aX_6, aX_7, aX_8, aX_9, aX_f17_9, aX_f17_10, aX_f17_11, aX_f18_6, aX_f18_7, aX_f0_6, aX_f0_7, aX_f0_8, aX_f0_9, aX_f25_1, aX_u, aX_k, aX_s] <;> simp_all [s_rf, s_gr, s_dn, s_al, n0, le_nlt, -Int32.not_lt, -Int32.not_le]
      · skip
        refine tr_aload_n eX6_ground_40 rfl ?_
        refine tr_aload_n eX6_ground_41 rfl ?_
        refine tr_getR eX6_ground_42 fk_X6_10 rfl rfl ?_
        refine tr_getR eX6_ground_45 fk_X6_96 rfl rfl ?_
        refine tr_iload_n eX6_ground_48 rfl ?_
        refine tr_iald eX6_ground_49 rfl (by first | with_reducible assumption | with_reducible exact in_slot (by with_reducible assumption) (by with_reducible assumption) | with_reducible exact in_row _ (by decide) (by with_reducible assumption) | with_reducible exact in_row0 (by with_reducible assumption) | with_reducible exact in_slot0 (by with_reducible assumption) | (simp (disch := decide) only [up_k, up_s, up_f] <;> with_reducible assumption)) ?_
        refine tr_ce1 eX6_ground_50 zv_X6_grant zi_X6_grant lk_X6_85 ⟨rfl, by decide, by decide⟩ rfl rfl rfl k_X6_grant ?_
        try simp (disch := decide) only [up_k, up_s, up_f]
        refine tr_goto eX6_ground_53 ?_
        refine tr_ret eX6_ground_61 rfl rfl ?_
        refine ⟨?_, ?_, rfl⟩ <;> simp (disch := decide) only [s_ground, PE, psh, s_nst, s_nvi, s_kind_aX, s_wing_aX, s_in_aX, s_out_aX, s_need_aX, s_unk_aX, s_put_aX, aX_0, aX_1, aX_2, aX_3, aX_4, aX_5, aX_6, aX_7, aX_8, aX_9, aX_f17_9, aX_f17_10, aX_f17_11, aX_f18_6, aX_f18_7, aX_f0_6, aX_f0_7, aX_f0_8, aX_f0_9, aX_f25_1, aX_u, aX_k, aX_s] <;> simp_all [s_rf, s_gr, s_dn, s_al, n0, le_nlt, -Int32.not_lt, -Int32.not_le]
    · skip
      refine tr_aload_n eX6_ground_21 rfl ?_
      refine tr_aload_n eX6_ground_22 rfl ?_
      refine tr_getR eX6_ground_23 fk_X6_10 rfl rfl ?_
      refine tr_getR eX6_ground_26 fk_X6_92 rfl rfl ?_
      refine tr_iload_n eX6_ground_29 rfl ?_
      refine tr_iald eX6_ground_30 rfl (by first | with_reducible assumption | with_reducible exact in_slot (by with_reducible assumption) (by with_reducible assumption) | with_reducible exact in_row _ (by decide) (by with_reducible assumption) | with_reducible exact in_row0 (by with_reducible assumption) | with_reducible exact in_slot0 (by with_reducible assumption) | (simp (disch := decide) only [up_k, up_s, up_f] <;> with_reducible assumption)) ?_
      refine tr_ce1 eX6_ground_31 zv_X6_grant zi_X6_grant lk_X6_85 ⟨rfl, by decide, by decide⟩ rfl rfl rfl k_X6_grant ?_
      try simp (disch := decide) only [up_k, up_s, up_f]
      refine tr_ret eX6_ground_34 rfl rfl ?_
      refine ⟨?_, ?_, rfl⟩ <;> simp (disch := decide) only [s_ground, PE, psh, s_nst, s_nvi, s_kind_aX, s_wing_aX, s_in_aX, s_out_aX, s_need_aX, s_unk_aX, s_put_aX, aX_0, aX_1, aX_2, aX_3, aX_4, aX_5, aX_6, aX_7, aX_8, aX_9, aX_f17_9, aX_f17_10, aX_f17_11, aX_f18_6, aX_f18_7, aX_f0_6, aX_f0_7, aX_f0_8, aX_f0_9, aX_f25_1, aX_u, aX_k, aX_s] <;> simp_all [s_rf, s_gr, s_dn, s_al, n0, le_nlt, -Int32.not_lt, -Int32.not_le]
  · skip
    try first | replace h8 := bi_0 h8 | replace h8 := bi_n h8
    refine tr_aload_n eX6_ground_11 rfl ?_
    refine tr_iconst eX6_ground_12 (nI 1) ci_1 ?_
    refine tr_ce1 eX6_ground_13 zv_X6_refuse zi_X6_refuse lk_X6_74 ⟨rfl, by decide, by decide⟩ rfl rfl rfl k_X6_refuse ?_
    try simp (disch := decide) only [up_k, up_s, up_f]
    refine tr_ret eX6_ground_16 rfl rfl ?_
    refine ⟨?_, ?_, rfl⟩ <;> simp (disch := decide) only [s_ground, PE, psh, s_nst, s_nvi, s_kind_aX, s_wing_aX, s_in_aX, s_out_aX, s_need_aX, s_unk_aX, s_put_aX, aX_0, aX_1, aX_2, aX_3, aX_4, aX_5, aX_6, aX_7, aX_8, aX_9, aX_f17_9, aX_f17_10, aX_f17_11, aX_f18_6, aX_f18_7, aX_f0_6, aX_f0_7, aX_f0_8, aX_f0_9, aX_f25_1, aX_u, aX_k, aX_s] <;> simp_all [s_rf, s_gr, s_dn, s_al, n0, le_nlt, -Int32.not_lt, -Int32.not_le]

theorem k_X7_ground {τ : tSt} {nS nP nC nV : Nat} {s w : Int32} (hI : iN (aM τ) nS nP nC nV) : CT mX7_ground [.ref 0, .int s, .int w] τ (QM (s_ground (aM τ) s w)) := by
  have hS := hI.1.1
  rw [aM_0] at hS
  have hP := hI.2.1.1
  rw [aM_1] at hP
  have hC := hI.2.2.1.1
  rw [aM_2] at hC
  have hV := hI.2.2.2.1
  rw [aM_3] at hV
  have hS24 := hI.1.2
  have hP40 := hI.2.1.2
  have hC20 := hI.2.2.1.2
  have hV40 := hI.2.2.2.2
  refine CT.of2 0 (by decide) rfl rfl ?_
  refine tr_aload_n eX7_ground_0 rfl ?_
  refine tr_iload_n eX7_ground_1 rfl ?_
  refine tr_ce1 eX7_ground_2 zv_X7_isStand zi_X7_isStand lk_X7_99 ⟨rfl, by decide, by decide⟩ rfl rfl rfl k_X7_isStand ?_
  refine tr_if_ne eX7_ground_5 (fun h5 => ?_) (fun h5 => ?_)
  · skip
    try first | replace h5 := bi_0 h5 | replace h5 := bi_n h5
    have hin := in_has hS hS24 (by decide) h5
    refine tr_iload_n eX7_ground_14 rfl ?_
    refine tr_if_lt eX7_ground_15 (fun h15 => ?_) (fun h15 => ?_)
    · skip
      have gw := wlo h15
      refine tr_aload_n eX7_ground_23 rfl ?_
      refine tr_iconst eX7_ground_24 (nI 3) ci_3 ?_
      refine tr_ce1 eX7_ground_25 zv_X7_refuse zi_X7_refuse lk_X7_92 ⟨rfl, by decide, by decide⟩ rfl rfl rfl k_X7_refuse ?_
      try simp (disch := decide) only [up_k, up_s, up_f]
      refine tr_ret eX7_ground_28 rfl rfl ?_
      refine ⟨?_, ?_⟩ <;> simp (disch := decide) only [s_ground, PE, psh, up_c0, up_65, s_nst, s_nvi, s_kind_aM, s_wing_aM, s_in_aM, s_out_aM, s_need_aM, s_unk_aM, s_put_aM, aM_0, aM_1, aM_2, aM_3, aM_4, aM_5, aM_6, aM_7, aM_8, aM_9, aM_f0_3, aM_f0_4, aM_f0_5, aM_f0_6, aM_f0_8, aM_f0_7, aM_f0_0, aM_f0_1, aM_f0_2, aM_f0_34, aM_f0_24, aM_f0_26, aM_f0_29, aM_f0_30, aM_u, aM_k, aM_s] <;> simp_all [s_rf, s_gr, s_dn, s_al, n0, le_nlt, -Int32.not_lt, -Int32.not_le]
    · skip
      refine tr_iload_n eX7_ground_18 rfl ?_
      refine tr_iconst eX7_ground_19 (nI 1) ci_1 ?_
      refine tr_icmp_le eX7_ground_20 (fun h20 => ?_) (fun h20 => ?_)
      · skip
        refine tr_aload_n eX7_ground_29 rfl ?_
        refine tr_iload_n eX7_ground_30 rfl ?_
        refine tr_if_ne eX7_ground_31 (fun h31 => ?_) (fun h31 => ?_)
        · skip
          have gw := w01 h15 h20 h31
          refine tr_aload_n eX7_ground_43 rfl ?_
          refine tr_getR eX7_ground_44 fk_X7_20 rfl rfl ?_
          refine tr_iload_n eX7_ground_47 rfl ?_
          refine tr_iald eX7_ground_48 rfl (by first | with_reducible assumption | with_reducible exact in_slot (by with_reducible assumption) (by with_reducible assumption) | with_reducible exact in_row _ (by decide) (by with_reducible assumption) | with_reducible exact in_row0 (by with_reducible assumption) | with_reducible exact in_slot0 (by with_reducible assumption) | (simp (disch := decide) only [up_k, up_s, up_f] <;> with_reducible assumption)) ?_
          refine tr_ce1 eX7_ground_49 zv_X7_gives zi_X7_gives lk_X7_96 ⟨rfl, by decide, by decide⟩ rfl rfl rfl k_X7_gives ?_
          try simp (disch := decide) only [up_k, up_s, up_f]
          refine tr_ret eX7_ground_52 rfl rfl ?_
          refine ⟨?_, ?_⟩ <;> simp (disch := decide) only [s_ground, PE, psh, up_c0, up_65, s_nst, s_nvi, s_kind_aM, s_wing_aM, s_in_aM, s_out_aM, s_need_aM, s_unk_aM, s_put_aM, aM_0, aM_1, aM_2, aM_3, aM_4, aM_5, aM_6, aM_7, aM_8, aM_9, aM_f0_3, aM_f0_4, aM_f0_5, aM_f0_6, aM_f0_8, aM_f0_7, aM_f0_0, aM_f0_1, aM_f0_2, aM_f0_34, aM_f0_24, aM_f0_26, aM_f0_29, aM_f0_30, aM_u, aM_k, aM_s] <;> simp_all [s_rf, s_gr, s_dn, s_al, n0, le_nlt, -Int32.not_lt, -Int32.not_le]
        · skip
          refine tr_aload_n eX7_ground_34 rfl ?_
          refine tr_getR eX7_ground_35 fk_X7_16 rfl rfl ?_
          refine tr_iload_n eX7_ground_38 rfl ?_
          refine tr_iald eX7_ground_39 rfl (by first | with_reducible assumption | with_reducible exact in_slot (by with_reducible assumption) (by with_reducible assumption) | with_reducible exact in_row _ (by decide) (by with_reducible assumption) | with_reducible exact in_row0 (by with_reducible assumption) | with_reducible exact in_slot0 (by with_reducible assumption) | (simp (disch := decide) only [up_k, up_s, up_f] <;> with_reducible assumption)) ?_
          refine tr_goto eX7_ground_40 ?_
          refine tr_ce1 eX7_ground_49 zv_X7_gives zi_X7_gives lk_X7_96 ⟨rfl, by decide, by decide⟩ rfl rfl rfl k_X7_gives ?_
          try simp (disch := decide) only [up_k, up_s, up_f]
          refine tr_ret eX7_ground_52 rfl rfl ?_
          refine ⟨?_, ?_⟩ <;> simp (disch := decide) only [s_ground, PE, psh, up_c0, up_65, s_nst, s_nvi, s_kind_aM, s_wing_aM, s_in_aM, s_out_aM, s_need_aM, s_unk_aM, s_put_aM, aM_0, aM_1, aM_2, aM_3, aM_4, aM_5, aM_6, aM_7, aM_8, aM_9, aM_f0_3, aM_f0_4, aM_f0_5, aM_f0_6, aM_f0_8, aM_f0_7, aM_f0_0, aM_f0_1, aM_f0_2, aM_f0_34, aM_f0_24, aM_f0_26, aM_f0_29, aM_f0_30, aM_u, aM_k, aM_s] <;> simp_all [s_rf, s_gr, s_dn, s_al, n0, le_nlt, -Int32.not_lt, -Int32.not_le]
      · skip
        have gw := whi h20
        refine tr_aload_n eX7_ground_23 rfl ?_
        refine tr_iconst eX7_ground_24 (nI 3) ci_3 ?_
        refine tr_ce1 eX7_ground_25 zv_X7_refuse zi_X7_refuse lk_X7_92 ⟨rfl, by decide, by decide⟩ rfl rfl rfl k_X7_refuse ?_
        try simp (disch := decide) only [up_k, up_s, up_f]
        refine tr_ret eX7_ground_28 rfl rfl ?_
        refine ⟨?_, ?_⟩ <;> simp (disch := decide) only [s_ground, PE, psh, up_c0, up_65, s_nst, s_nvi, s_kind_aM, s_wing_aM, s_in_aM, s_out_aM, s_need_aM, s_unk_aM, s_put_aM, aM_0, aM_1, aM_2, aM_3, aM_4, aM_5, aM_6, aM_7, aM_8, aM_9, aM_f0_3, aM_f0_4, aM_f0_5, aM_f0_6, aM_f0_8, aM_f0_7, aM_f0_0, aM_f0_1, aM_f0_2, aM_f0_34, aM_f0_24, aM_f0_26, aM_f0_29, aM_f0_30, aM_u, aM_k, aM_s] <;> simp_all [s_rf, s_gr, s_dn, s_al, n0, le_nlt, -Int32.not_lt, -Int32.not_le]
  · skip
    try first | replace h5 := bi_0 h5 | replace h5 := bi_n h5
    refine tr_aload_n eX7_ground_8 rfl ?_
    refine tr_iconst eX7_ground_9 (nI 1) ci_1 ?_
    refine tr_ce1 eX7_ground_10 zv_X7_refuse zi_X7_refuse lk_X7_92 ⟨rfl, by decide, by decide⟩ rfl rfl rfl k_X7_refuse ?_
    try simp (disch := decide) only [up_k, up_s, up_f]
    refine tr_ret eX7_ground_13 rfl rfl ?_
    refine ⟨?_, ?_⟩ <;> simp (disch := decide) only [s_ground, PE, psh, up_c0, up_65, s_nst, s_nvi, s_kind_aM, s_wing_aM, s_in_aM, s_out_aM, s_need_aM, s_unk_aM, s_put_aM, aM_0, aM_1, aM_2, aM_3, aM_4, aM_5, aM_6, aM_7, aM_8, aM_9, aM_f0_3, aM_f0_4, aM_f0_5, aM_f0_6, aM_f0_8, aM_f0_7, aM_f0_0, aM_f0_1, aM_f0_2, aM_f0_34, aM_f0_24, aM_f0_26, aM_f0_29, aM_f0_30, aM_u, aM_k, aM_s] <;> simp_all [s_rf, s_gr, s_dn, s_al, n0, le_nlt, -Int32.not_lt, -Int32.not_le]

theorem k_X6_near {σ : tSt} {nS nP nC nV : Nat} {a b c d : Int32} (hI : iN (aX σ) nS nP nC nV) : CT mX6_near [.ref 0, .int a, .int b, .int c, .int d] σ (QX σ (s_nearp (aX σ) a b c d)) := by
  have hS := hI.1.1
  rw [aX_0] at hS
  have hP := hI.2.1.1
  rw [aX_1] at hP
  have hC := hI.2.2.1.1
  rw [aX_2] at hC
  have hV := hI.2.2.2.1
  rw [aX_3] at hV
  have hS24 := hI.1.2
  have hP40 := hI.2.1.2
  have hC20 := hI.2.2.1.2
  have hV40 := hI.2.2.2.2
  refine CT.of2 0 (by decide) rfl rfl ?_
  refine tr_aload_n eX6_near_0 rfl ?_
  refine tr_getR eX6_near_1 fk_X6_10 rfl rfl ?_
  refine tr_iload_n eX6_near_4 rfl ?_
  refine tr_ce1 eX6_near_5 zv_X1_hasStand zi_X1_hasStand lk_X6_88 ⟨rfl, by decide, by decide⟩ rfl rfl rfl k_X1_hasStand ?_
  refine tr_if_eq eX6_near_8 (fun h8 => ?_) (fun h8 => ?_)
  · skip
    try first | replace h8 := bi_0 h8 | replace h8 := bi_n h8
    refine tr_aload_n eX6_near_22 rfl ?_
    refine tr_iconst eX6_near_23 (nI 1) ci_1 ?_
    refine tr_ce1 eX6_near_24 zv_X6_refuse zi_X6_refuse lk_X6_74 ⟨rfl, by decide, by decide⟩ rfl rfl rfl k_X6_refuse ?_
    try simp (disch := decide) only [up_k, up_s, up_f]
    refine tr_ret eX6_near_27 rfl rfl ?_
    refine ⟨?_, ?_, rfl⟩ <;> simp (disch := decide) only [s_nearp, PE, psh, s_nst, s_nvi, s_kind_aX, s_wing_aX, s_in_aX, s_out_aX, s_need_aX, s_unk_aX, s_put_aX, aX_0, aX_1, aX_2, aX_3, aX_4, aX_5, aX_6, aX_7, aX_8, aX_9, aX_f17_9, aX_f17_10, aX_f17_11, aX_f18_6, aX_f18_7, aX_f0_6, aX_f0_7, aX_f0_8, aX_f0_9, aX_f25_1, aX_u, aX_k, aX_s] <;> simp_all [s_rf, s_gr, s_dn, s_al, n0, le_nlt, -Int32.not_lt, -Int32.not_le]
  · skip
    try first | replace h8 := bi_0 h8 | replace h8 := bi_n h8
    refine tr_aload_n eX6_near_11 rfl ?_
    refine tr_getR eX6_near_12 fk_X6_10 rfl rfl ?_
    refine tr_iload_n eX6_near_15 rfl ?_
    refine tr_ce1 eX6_near_16 zv_X1_hasStand zi_X1_hasStand lk_X6_88 ⟨rfl, by decide, by decide⟩ rfl rfl rfl k_X1_hasStand ?_
    refine tr_if_ne eX6_near_19 (fun h19 => ?_) (fun h19 => ?_)
    · skip
      try first | replace h19 := bi_0 h19 | replace h19 := bi_n h19
      refine tr_iload_n eX6_near_28 rfl ?_
      refine tr_iload_n eX6_near_29 rfl ?_
      refine tr_icmp_eq eX6_near_30 (fun h30 => ?_) (fun h30 => ?_)
      · skip
        refine tr_aload_n eX6_near_56 rfl ?_
        refine tr_iconst eX6_near_57 (nI 3) ci_3 ?_
        refine tr_ce1 eX6_near_58 zv_X6_refuse zi_X6_refuse lk_X6_74 ⟨rfl, by decide, by decide⟩ rfl rfl rfl k_X6_refuse ?_
        try simp (disch := decide) only [up_k, up_s, up_f]
        refine tr_ret eX6_near_61 rfl rfl ?_
        refine ⟨?_, ?_, rfl⟩ <;> simp (disch := decide) only [s_nearp, PE, psh, s_nst, s_nvi, s_kind_aX, s_wing_aX, s_in_aX, s_out_aX, s_need_aX, s_unk_aX, s_put_aX, aX_0, aX_1, aX_2, aX_3, aX_4, aX_5, aX_6, aX_7, aX_8, aX_9, aX_f17_9, aX_f17_10, aX_f17_11, aX_f18_6, aX_f18_7, aX_f0_6, aX_f0_7, aX_f0_8, aX_f0_9, aX_f25_1, aX_u, aX_k, aX_s] <;> simp_all [s_rf, s_gr, s_dn, s_al, n0, le_nlt, -Int32.not_lt, -Int32.not_le]
      · skip
        refine tr_iload_n eX6_near_33 rfl ?_
        refine tr_iconst eX6_near_34 (nI 0) ci_0 ?_
        refine tr_sipush eX6_near_35 (nI 200) (by decide) ?_
        refine tr_se3 eX6_near_38 zv_X6_isWithin zs_X6_isWithin lk_X6_70 ⟨rfl, by decide, by decide⟩ rfl k_X6_isWithin ?_
        refine tr_if_eq eX6_near_41 (fun h41 => ?_) (fun h41 => ?_)
        · skip
          try first | replace h41 := bi_0 h41 | replace h41 := bi_n h41
          refine tr_aload_n eX6_near_56 rfl ?_
          refine tr_iconst eX6_near_57 (nI 3) ci_3 ?_
          refine tr_ce1 eX6_near_58 zv_X6_refuse zi_X6_refuse lk_X6_74 ⟨rfl, by decide, by decide⟩ rfl rfl rfl k_X6_refuse ?_
          try simp (disch := decide) only [up_k, up_s, up_f]
          refine tr_ret eX6_near_61 rfl rfl ?_
          refine ⟨?_, ?_, rfl⟩ <;> simp (disch := decide) only [s_nearp, PE, psh, s_nst, s_nvi, s_kind_aX, s_wing_aX, s_in_aX, s_out_aX, s_need_aX, s_unk_aX, s_put_aX, aX_0, aX_1, aX_2, aX_3, aX_4, aX_5, aX_6, aX_7, aX_8, aX_9, aX_f17_9, aX_f17_10, aX_f17_11, aX_f18_6, aX_f18_7, aX_f0_6, aX_f0_7, aX_f0_8, aX_f0_9, aX_f25_1, aX_u, aX_k, aX_s] <;> simp_all [s_rf, s_gr, s_dn, s_al, n0, le_nlt, -Int32.not_lt, -Int32.not_le]
        · skip
          try first | replace h41 := bi_0 h41 | replace h41 := bi_n h41
          refine tr_iload eX6_near_44 rfl ?_
          refine tr_iconst eX6_near_46 (nI 0) ci_0 ?_
          refine tr_sipush eX6_near_47 (nI 200) (by decide) ?_
          refine tr_se3 eX6_near_50 zv_X6_isWithin zs_X6_isWithin lk_X6_70 ⟨rfl, by decide, by decide⟩ rfl k_X6_isWithin ?_
          refine tr_if_ne eX6_near_53 (fun h53 => ?_) (fun h53 => ?_)
          · skip
            try first | replace h53 := bi_0 h53 | replace h53 := bi_n h53
            refine tr_aload_n eX6_near_62 rfl ?_
            refine tr_getR eX6_near_63 fk_X6_10 rfl rfl ?_
            refine tr_getI eX6_near_66 fk_X6_99 rfl rfl ?_
            refine tr_bipush eX6_near_69 (nI 40) (by decide) ?_
            refine tr_icmp_lt eX6_near_71 (fun h71 => ?_) (fun h71 => ?_)
            · skip
              have g71 := lt_neq h71
              have hin := in_of_ne hP hP40 (by decide) g71
              refine tr_aload_n eX6_near_80 rfl ?_
              refine tr_aload_n eX6_near_81 rfl ?_
              refine tr_getR eX6_near_82 fk_X6_10 rfl rfl ?_
              refine tr_iload_n eX6_near_85 rfl ?_
              refine tr_iload_n eX6_near_86 rfl ?_
              refine tr_iload_n eX6_near_87 rfl ?_
              refine tr_iload eX6_near_88 rfl ?_
              refine tr_ce4 eX6_near_90 zv_X1_addPair zi_X1_addPair lk_X6_102 ⟨rfl, by decide, by decide⟩ rfl rfl rfl (k_X1_addPair (by first | with_reducible assumption | with_reducible exact in_slot (by with_reducible assumption) (by with_reducible assumption) | with_reducible exact in_row _ (by decide) (by with_reducible assumption) | with_reducible exact in_row0 (by with_reducible assumption) | with_reducible exact in_slot0 (by with_reducible assumption) | (simp (disch := decide) only [up_k, up_s, up_f] <;> with_reducible assumption))) ?_
              try simp (disch := decide) only [up_k, up_s, up_f]
              refine tr_ce1 eX6_near_93 zv_X6_grant zi_X6_grant lk_X6_85 ⟨rfl, by decide, by decide⟩ rfl rfl rfl k_X6_grant ?_
              try simp (disch := decide) only [up_k, up_s, up_f]
              refine tr_ret eX6_near_96 rfl rfl ?_
              refine ⟨?_, ?_, rfl⟩ <;> simp (disch := decide) only [s_nearp, PE, psh, s_nst, s_nvi, s_kind_aX, s_wing_aX, s_in_aX, s_out_aX, s_need_aX, s_unk_aX, s_put_aX, aX_0, aX_1, aX_2, aX_3, aX_4, aX_5, aX_6, aX_7, aX_8, aX_9, aX_f17_9, aX_f17_10, aX_f17_11, aX_f18_6, aX_f18_7, aX_f0_6, aX_f0_7, aX_f0_8, aX_f0_9, aX_f25_1, aX_u, aX_k, aX_s] <;> simp_all [s_rf, s_gr, s_dn, s_al, n0, le_nlt, -Int32.not_lt, -Int32.not_le]
            · skip
              have g71 := ge_eq hP hP40 (by decide) h71
              refine tr_aload_n eX6_near_74 rfl ?_
              refine tr_iconst eX6_near_75 (nI 4) ci_4 ?_
              refine tr_ce1 eX6_near_76 zv_X6_refuse zi_X6_refuse lk_X6_74 ⟨rfl, by decide, by decide⟩ rfl rfl rfl k_X6_refuse ?_
              try simp (disch := decide) only [up_k, up_s, up_f]
              refine tr_ret eX6_near_79 rfl rfl ?_
              refine ⟨?_, ?_, rfl⟩ <;> simp (disch := decide) only [s_nearp, PE, psh, s_nst, s_nvi, s_kind_aX, s_wing_aX, s_in_aX, s_out_aX, s_need_aX, s_unk_aX, s_put_aX, aX_0, aX_1, aX_2, aX_3, aX_4, aX_5, aX_6, aX_7, aX_8, aX_9, aX_f17_9, aX_f17_10, aX_f17_11, aX_f18_6, aX_f18_7, aX_f0_6, aX_f0_7, aX_f0_8, aX_f0_9, aX_f25_1, aX_u, aX_k, aX_s] <;> simp_all [s_rf, s_gr, s_dn, s_al, n0, le_nlt, -Int32.not_lt, -Int32.not_le]
          · skip
            try first | replace h53 := bi_0 h53 | replace h53 := bi_n h53
            refine tr_aload_n eX6_near_56 rfl ?_
            refine tr_iconst eX6_near_57 (nI 3) ci_3 ?_
            refine tr_ce1 eX6_near_58 zv_X6_refuse zi_X6_refuse lk_X6_74 ⟨rfl, by decide, by decide⟩ rfl rfl rfl k_X6_refuse ?_
            try simp (disch := decide) only [up_k, up_s, up_f]
            refine tr_ret eX6_near_61 rfl rfl ?_
            refine ⟨?_, ?_, rfl⟩ <;> simp (disch := decide) only [s_nearp, PE, psh, s_nst, s_nvi, s_kind_aX, s_wing_aX, s_in_aX, s_out_aX, s_need_aX, s_unk_aX, s_put_aX, aX_0, aX_1, aX_2, aX_3, aX_4, aX_5, aX_6, aX_7, aX_8, aX_9, aX_f17_9, aX_f17_10, aX_f17_11, aX_f18_6, aX_f18_7, aX_f0_6, aX_f0_7, aX_f0_8, aX_f0_9, aX_f25_1, aX_u, aX_k, aX_s] <;> simp_all [s_rf, s_gr, s_dn, s_al, n0, le_nlt, -Int32.not_lt, -Int32.not_le]
    · skip
      try first | replace h19 := bi_0 h19 | replace h19 := bi_n h19
      refine tr_aload_n eX6_near_22 rfl ?_
      refine tr_iconst eX6_near_23 (nI 1) ci_1 ?_
      refine tr_ce1 eX6_near_24 zv_X6_refuse zi_X6_refuse lk_X6_74 ⟨rfl, by decide, by decide⟩ rfl rfl rfl k_X6_refuse ?_
      try simp (disch := decide) only [up_k, up_s, up_f]
      refine tr_ret eX6_near_27 rfl rfl ?_
      refine ⟨?_, ?_, rfl⟩ <;> simp (disch := decide) only [s_nearp, PE, psh, s_nst, s_nvi, s_kind_aX, s_wing_aX, s_in_aX, s_out_aX, s_need_aX, s_unk_aX, s_put_aX, aX_0, aX_1, aX_2, aX_3, aX_4, aX_5, aX_6, aX_7, aX_8, aX_9, aX_f17_9, aX_f17_10, aX_f17_11, aX_f18_6, aX_f18_7, aX_f0_6, aX_f0_7, aX_f0_8, aX_f0_9, aX_f25_1, aX_u, aX_k, aX_s] <;> simp_all [s_rf, s_gr, s_dn, s_al, n0, le_nlt, -Int32.not_lt, -Int32.not_le]

theorem k_X7_near {τ : tSt} {nS nP nC nV : Nat} {a b c d : Int32} (hI : iN (aM τ) nS nP nC nV) : CT mX7_near [.ref 0, .int a, .int b, .int c, .int d] τ (QM (s_nearp (aM τ) a b c d)) := by
  have hS := hI.1.1
  rw [aM_0] at hS
  have hP := hI.2.1.1
  rw [aM_1] at hP
  have hC := hI.2.2.1.1
  rw [aM_2] at hC
  have hV := hI.2.2.2.1
  rw [aM_3] at hV
  have hS24 := hI.1.2
  have hP40 := hI.2.1.2
  have hC20 := hI.2.2.1.2
  have hV40 := hI.2.2.2.2
  refine CT.of2 0 (by decide) rfl rfl ?_
  refine tr_aload_n eX7_near_0 rfl ?_
  refine tr_iload_n eX7_near_1 rfl ?_
  refine tr_ce1 eX7_near_2 zv_X7_isStand zi_X7_isStand lk_X7_99 ⟨rfl, by decide, by decide⟩ rfl rfl rfl k_X7_isStand ?_
  refine tr_if_eq eX7_near_5 (fun h5 => ?_) (fun h5 => ?_)
  · skip
    try first | replace h5 := bi_0 h5 | replace h5 := bi_n h5
    refine tr_aload_n eX7_near_16 rfl ?_
    refine tr_iconst eX7_near_17 (nI 1) ci_1 ?_
    refine tr_ce1 eX7_near_18 zv_X7_refuse zi_X7_refuse lk_X7_92 ⟨rfl, by decide, by decide⟩ rfl rfl rfl k_X7_refuse ?_
    try simp (disch := decide) only [up_k, up_s, up_f]
    refine tr_ret eX7_near_21 rfl rfl ?_
    refine ⟨?_, ?_⟩ <;> simp (disch := decide) only [s_nearp, PE, psh, up_c0, up_65, s_nst, s_nvi, s_kind_aM, s_wing_aM, s_in_aM, s_out_aM, s_need_aM, s_unk_aM, s_put_aM, aM_0, aM_1, aM_2, aM_3, aM_4, aM_5, aM_6, aM_7, aM_8, aM_9, aM_f0_3, aM_f0_4, aM_f0_5, aM_f0_6, aM_f0_8, aM_f0_7, aM_f0_0, aM_f0_1, aM_f0_2, aM_f0_34, aM_f0_24, aM_f0_26, aM_f0_29, aM_f0_30, aM_u, aM_k, aM_s] <;> simp_all [s_rf, s_gr, s_dn, s_al, n0, le_nlt, -Int32.not_lt, -Int32.not_le]
  · skip
    try first | replace h5 := bi_0 h5 | replace h5 := bi_n h5
    refine tr_aload_n eX7_near_8 rfl ?_
    refine tr_iload_n eX7_near_9 rfl ?_
    refine tr_ce1 eX7_near_10 zv_X7_isStand zi_X7_isStand lk_X7_99 ⟨rfl, by decide, by decide⟩ rfl rfl rfl k_X7_isStand ?_
    refine tr_if_ne eX7_near_13 (fun h13 => ?_) (fun h13 => ?_)
    · skip
      try first | replace h13 := bi_0 h13 | replace h13 := bi_n h13
      refine tr_iload_n eX7_near_22 rfl ?_
      refine tr_iload_n eX7_near_23 rfl ?_
      refine tr_icmp_eq eX7_near_24 (fun h24 => ?_) (fun h24 => ?_)
      · skip
        refine tr_aload_n eX7_near_51 rfl ?_
        refine tr_iconst eX7_near_52 (nI 3) ci_3 ?_
        refine tr_ce1 eX7_near_53 zv_X7_refuse zi_X7_refuse lk_X7_92 ⟨rfl, by decide, by decide⟩ rfl rfl rfl k_X7_refuse ?_
        try simp (disch := decide) only [up_k, up_s, up_f]
        refine tr_ret eX7_near_56 rfl rfl ?_
        refine ⟨?_, ?_⟩ <;> simp (disch := decide) only [s_nearp, PE, psh, up_c0, up_65, s_nst, s_nvi, s_kind_aM, s_wing_aM, s_in_aM, s_out_aM, s_need_aM, s_unk_aM, s_put_aM, aM_0, aM_1, aM_2, aM_3, aM_4, aM_5, aM_6, aM_7, aM_8, aM_9, aM_f0_3, aM_f0_4, aM_f0_5, aM_f0_6, aM_f0_8, aM_f0_7, aM_f0_0, aM_f0_1, aM_f0_2, aM_f0_34, aM_f0_24, aM_f0_26, aM_f0_29, aM_f0_30, aM_u, aM_k, aM_s] <;> simp_all [s_rf, s_gr, s_dn, s_al, n0, le_nlt, -Int32.not_lt, -Int32.not_le]
      · skip
        refine tr_iload_n eX7_near_27 rfl ?_
        refine tr_if_lt eX7_near_28 (fun h28 => ?_) (fun h28 => ?_)
        · skip
          refine tr_aload_n eX7_near_51 rfl ?_
          refine tr_iconst eX7_near_52 (nI 3) ci_3 ?_
          refine tr_ce1 eX7_near_53 zv_X7_refuse zi_X7_refuse lk_X7_92 ⟨rfl, by decide, by decide⟩ rfl rfl rfl k_X7_refuse ?_
          try simp (disch := decide) only [up_k, up_s, up_f]
          refine tr_ret eX7_near_56 rfl rfl ?_
          refine ⟨?_, ?_⟩ <;> simp (disch := decide) only [s_nearp, PE, psh, up_c0, up_65, s_nst, s_nvi, s_kind_aM, s_wing_aM, s_in_aM, s_out_aM, s_need_aM, s_unk_aM, s_put_aM, aM_0, aM_1, aM_2, aM_3, aM_4, aM_5, aM_6, aM_7, aM_8, aM_9, aM_f0_3, aM_f0_4, aM_f0_5, aM_f0_6, aM_f0_8, aM_f0_7, aM_f0_0, aM_f0_1, aM_f0_2, aM_f0_34, aM_f0_24, aM_f0_26, aM_f0_29, aM_f0_30, aM_u, aM_k, aM_s] <;> simp_all [s_rf, s_gr, s_dn, s_al, n0, le_nlt, -Int32.not_lt, -Int32.not_le]
        · skip
          refine tr_iload_n eX7_near_31 rfl ?_
          refine tr_sipush eX7_near_32 (nI 200) (by decide) ?_
          refine tr_icmp_gt eX7_near_35 (fun h35 => ?_) (fun h35 => ?_)
          · skip
            refine tr_aload_n eX7_near_51 rfl ?_
            refine tr_iconst eX7_near_52 (nI 3) ci_3 ?_
            refine tr_ce1 eX7_near_53 zv_X7_refuse zi_X7_refuse lk_X7_92 ⟨rfl, by decide, by decide⟩ rfl rfl rfl k_X7_refuse ?_
            try simp (disch := decide) only [up_k, up_s, up_f]
            refine tr_ret eX7_near_56 rfl rfl ?_
            refine ⟨?_, ?_⟩ <;> simp (disch := decide) only [s_nearp, PE, psh, up_c0, up_65, s_nst, s_nvi, s_kind_aM, s_wing_aM, s_in_aM, s_out_aM, s_need_aM, s_unk_aM, s_put_aM, aM_0, aM_1, aM_2, aM_3, aM_4, aM_5, aM_6, aM_7, aM_8, aM_9, aM_f0_3, aM_f0_4, aM_f0_5, aM_f0_6, aM_f0_8, aM_f0_7, aM_f0_0, aM_f0_1, aM_f0_2, aM_f0_34, aM_f0_24, aM_f0_26, aM_f0_29, aM_f0_30, aM_u, aM_k, aM_s] <;> simp_all [s_rf, s_gr, s_dn, s_al, n0, le_nlt, -Int32.not_lt, -Int32.not_le]
          · skip
            refine tr_iload eX7_near_38 rfl ?_
            refine tr_if_lt eX7_near_40 (fun h40 => ?_) (fun h40 => ?_)
            · skip
              refine tr_aload_n eX7_near_51 rfl ?_
              refine tr_iconst eX7_near_52 (nI 3) ci_3 ?_
              refine tr_ce1 eX7_near_53 zv_X7_refuse zi_X7_refuse lk_X7_92 ⟨rfl, by decide, by decide⟩ rfl rfl rfl k_X7_refuse ?_
              try simp (disch := decide) only [up_k, up_s, up_f]
              refine tr_ret eX7_near_56 rfl rfl ?_
              refine ⟨?_, ?_⟩ <;> simp (disch := decide) only [s_nearp, PE, psh, up_c0, up_65, s_nst, s_nvi, s_kind_aM, s_wing_aM, s_in_aM, s_out_aM, s_need_aM, s_unk_aM, s_put_aM, aM_0, aM_1, aM_2, aM_3, aM_4, aM_5, aM_6, aM_7, aM_8, aM_9, aM_f0_3, aM_f0_4, aM_f0_5, aM_f0_6, aM_f0_8, aM_f0_7, aM_f0_0, aM_f0_1, aM_f0_2, aM_f0_34, aM_f0_24, aM_f0_26, aM_f0_29, aM_f0_30, aM_u, aM_k, aM_s] <;> simp_all [s_rf, s_gr, s_dn, s_al, n0, le_nlt, -Int32.not_lt, -Int32.not_le]
            · skip
              refine tr_iload eX7_near_43 rfl ?_
              refine tr_sipush eX7_near_45 (nI 200) (by decide) ?_
              refine tr_icmp_le eX7_near_48 (fun h48 => ?_) (fun h48 => ?_)
              · skip
                refine tr_aload_n eX7_near_57 rfl ?_
                refine tr_getI eX7_near_58 fk_X7_103 rfl rfl ?_
                refine tr_bipush eX7_near_61 (nI 40) (by decide) ?_
                refine tr_icmp_ne eX7_near_63 (fun h63 => ?_) (fun h63 => ?_)
                · skip
                  have hin := in_of_ne hP hP40 (by decide) h63
                  refine tr_aload_n eX7_near_72 rfl ?_
                  refine tr_getR eX7_near_73 fk_X7_23 rfl rfl ?_
                  refine tr_aload_n eX7_near_76 rfl ?_
                  refine tr_getI eX7_near_77 fk_X7_103 rfl rfl ?_
                  refine tr_iload_n eX7_near_80 rfl ?_
                  refine tr_iast eX7_near_81 rfl (by first | with_reducible assumption | with_reducible exact in_slot (by with_reducible assumption) (by with_reducible assumption) | with_reducible exact in_row _ (by decide) (by with_reducible assumption) | with_reducible exact in_row0 (by with_reducible assumption) | with_reducible exact in_slot0 (by with_reducible assumption) | (simp (disch := decide) only [up_k, up_s, up_f] <;> with_reducible assumption)) ?_
                  refine tr_aload_n eX7_near_82 rfl ?_
                  refine tr_getR eX7_near_83 fk_X7_26 rfl rfl ?_
                  refine tr_aload_n eX7_near_86 rfl ?_
                  refine tr_getI eX7_near_87 fk_X7_103 rfl rfl ?_
                  try simp (disch := decide) only [up_k, up_s, up_f]
                  refine tr_iload_n eX7_near_90 rfl ?_
                  refine tr_iast eX7_near_91 rfl (by first | with_reducible assumption | with_reducible exact in_slot (by with_reducible assumption) (by with_reducible assumption) | with_reducible exact in_row _ (by decide) (by with_reducible assumption) | with_reducible exact in_row0 (by with_reducible assumption) | with_reducible exact in_slot0 (by with_reducible assumption) | (simp (disch := decide) only [up_k, up_s, up_f] <;> with_reducible assumption)) ?_
                  refine tr_aload_n eX7_near_92 rfl ?_
                  refine tr_getR eX7_near_93 fk_X7_29 rfl rfl ?_
                  refine tr_aload_n eX7_near_96 rfl ?_
                  refine tr_getI eX7_near_97 fk_X7_103 rfl rfl ?_
                  try simp (disch := decide) only [up_k, up_s, up_f]
                  refine tr_iload_n eX7_near_100 rfl ?_
                  refine tr_iast eX7_near_101 rfl (by first | with_reducible assumption | with_reducible exact in_slot (by with_reducible assumption) (by with_reducible assumption) | with_reducible exact in_row _ (by decide) (by with_reducible assumption) | with_reducible exact in_row0 (by with_reducible assumption) | with_reducible exact in_slot0 (by with_reducible assumption) | (simp (disch := decide) only [up_k, up_s, up_f] <;> with_reducible assumption)) ?_
                  refine tr_aload_n eX7_near_102 rfl ?_
                  refine tr_getR eX7_near_103 fk_X7_32 rfl rfl ?_
                  refine tr_aload_n eX7_near_106 rfl ?_
                  refine tr_getI eX7_near_107 fk_X7_103 rfl rfl ?_
                  try simp (disch := decide) only [up_k, up_s, up_f]
                  refine tr_iload eX7_near_110 rfl ?_
                  refine tr_iast eX7_near_112 rfl (by first | with_reducible assumption | with_reducible exact in_slot (by with_reducible assumption) (by with_reducible assumption) | with_reducible exact in_row _ (by decide) (by with_reducible assumption) | with_reducible exact in_row0 (by with_reducible assumption) | with_reducible exact in_slot0 (by with_reducible assumption) | (simp (disch := decide) only [up_k, up_s, up_f] <;> with_reducible assumption)) ?_
                  refine tr_aload_n eX7_near_113 rfl ?_
                  refine tr_dup eX7_near_114 rfl ?_
                  refine tr_getI eX7_near_115 fk_X7_103 rfl rfl ?_
                  try simp (disch := decide) only [up_k, up_s, up_f]
                  refine tr_iconst eX7_near_118 (nI 1) ci_1 ?_
                  refine tr_iadd eX7_near_119 ?_
                  refine tr_put eX7_near_120 fp_X7_103 rfl rfl ?_
                  refine tr_aload_n eX7_near_123 rfl ?_
                  refine tr_aload_n eX7_near_124 rfl ?_
                  refine tr_getI eX7_near_125 fk_X7_103 rfl rfl ?_
                  try simp (disch := decide) only [up_k, up_s, up_f]
                  refine tr_ce1 eX7_near_128 zv_X7_gives zi_X7_gives lk_X7_96 ⟨rfl, by decide, by decide⟩ rfl rfl rfl k_X7_gives ?_
                  try simp (disch := decide) only [up_k, up_s, up_f]
                  refine tr_ret eX7_near_131 rfl rfl ?_
                  refine ⟨?_, ?_⟩ <;> simp (disch := decide) only [s_nearp, PE, psh, up_c0, up_65, s_nst, s_nvi, s_kind_aM, s_wing_aM, s_in_aM, s_out_aM, s_need_aM, s_unk_aM, s_put_aM, aM_0, aM_1, aM_2, aM_3, aM_4, aM_5, aM_6, aM_7, aM_8, aM_9, aM_f0_3, aM_f0_4, aM_f0_5, aM_f0_6, aM_f0_8, aM_f0_7, aM_f0_0, aM_f0_1, aM_f0_2, aM_f0_34, aM_f0_24, aM_f0_26, aM_f0_29, aM_f0_30, aM_u, aM_k, aM_s] <;> simp_all [s_rf, s_gr, s_dn, s_al, n0, le_nlt, -Int32.not_lt, -Int32.not_le]
                · skip
                  refine tr_aload_n eX7_near_66 rfl ?_
                  refine tr_iconst eX7_near_67 (nI 4) ci_4 ?_
                  refine tr_ce1 eX7_near_68 zv_X7_refuse zi_X7_refuse lk_X7_92 ⟨rfl, by decide, by decide⟩ rfl rfl rfl k_X7_refuse ?_
                  try simp (disch := decide) only [up_k, up_s, up_f]
                  refine tr_ret eX7_near_71 rfl rfl ?_
                  refine ⟨?_, ?_⟩ <;> simp (disch := decide) only [s_nearp, PE, psh, up_c0, up_65, s_nst, s_nvi, s_kind_aM, s_wing_aM, s_in_aM, s_out_aM, s_need_aM, s_unk_aM, s_put_aM, aM_0, aM_1, aM_2, aM_3, aM_4, aM_5, aM_6, aM_7, aM_8, aM_9, aM_f0_3, aM_f0_4, aM_f0_5, aM_f0_6, aM_f0_8, aM_f0_7, aM_f0_0, aM_f0_1, aM_f0_2, aM_f0_34, aM_f0_24, aM_f0_26, aM_f0_29, aM_f0_30, aM_u, aM_k, aM_s] <;> simp_all [s_rf, s_gr, s_dn, s_al, n0, le_nlt, -Int32.not_lt, -Int32.not_le]
              · skip
                refine tr_aload_n eX7_near_51 rfl ?_
                refine tr_iconst eX7_near_52 (nI 3) ci_3 ?_
                refine tr_ce1 eX7_near_53 zv_X7_refuse zi_X7_refuse lk_X7_92 ⟨rfl, by decide, by decide⟩ rfl rfl rfl k_X7_refuse ?_
                try simp (disch := decide) only [up_k, up_s, up_f]
                refine tr_ret eX7_near_56 rfl rfl ?_
                refine ⟨?_, ?_⟩ <;> simp (disch := decide) only [s_nearp, PE, psh, up_c0, up_65, s_nst, s_nvi, s_kind_aM, s_wing_aM, s_in_aM, s_out_aM, s_need_aM, s_unk_aM, s_put_aM, aM_0, aM_1, aM_2, aM_3, aM_4, aM_5, aM_6, aM_7, aM_8, aM_9, aM_f0_3, aM_f0_4, aM_f0_5, aM_f0_6, aM_f0_8, aM_f0_7, aM_f0_0, aM_f0_1, aM_f0_2, aM_f0_34, aM_f0_24, aM_f0_26, aM_f0_29, aM_f0_30, aM_u, aM_k, aM_s] <;> simp_all [s_rf, s_gr, s_dn, s_al, n0, le_nlt, -Int32.not_lt, -Int32.not_le]
    · skip
      try first | replace h13 := bi_0 h13 | replace h13 := bi_n h13
      refine tr_aload_n eX7_near_16 rfl ?_
      refine tr_iconst eX7_near_17 (nI 1) ci_1 ?_
      refine tr_ce1 eX7_near_18 zv_X7_refuse zi_X7_refuse lk_X7_92 ⟨rfl, by decide, by decide⟩ rfl rfl rfl k_X7_refuse ?_
      try simp (disch := decide) only [up_k, up_s, up_f]
      refine tr_ret eX7_near_21 rfl rfl ?_
      refine ⟨?_, ?_⟩ <;> simp (disch := decide) only [s_nearp, PE, psh, up_c0, up_65, s_nst, s_nvi, s_kind_aM, s_wing_aM, s_in_aM, s_out_aM, s_need_aM, s_unk_aM, s_put_aM, aM_0, aM_1, aM_2, aM_3, aM_4, aM_5, aM_6, aM_7, aM_8, aM_9, aM_f0_3, aM_f0_4, aM_f0_5, aM_f0_6, aM_f0_8, aM_f0_7, aM_f0_0, aM_f0_1, aM_f0_2, aM_f0_34, aM_f0_24, aM_f0_26, aM_f0_29, aM_f0_30, aM_u, aM_k, aM_s] <;> simp_all [s_rf, s_gr, s_dn, s_al, n0, le_nlt, -Int32.not_lt, -Int32.not_le]

theorem k_X6_cone {σ : tSt} {nS nP nC nV : Nat} {s a b : Int32} (hI : iN (aX σ) nS nP nC nV) : CT mX6_cone [.ref 0, .int s, .int a, .int b] σ (QX σ (s_cone (aX σ) s a b)) := by
  have hS := hI.1.1
  rw [aX_0] at hS
  have hP := hI.2.1.1
  rw [aX_1] at hP
  have hC := hI.2.2.1.1
  rw [aX_2] at hC
  have hV := hI.2.2.2.1
  rw [aX_3] at hV
  have hS24 := hI.1.2
  have hP40 := hI.2.1.2
  have hC20 := hI.2.2.1.2
  have hV40 := hI.2.2.2.2
  refine CT.of2 0 (by decide) rfl rfl ?_
  refine tr_aload_n eX6_cone_0 rfl ?_
  refine tr_getR eX6_cone_1 fk_X6_10 rfl rfl ?_
  refine tr_iload_n eX6_cone_4 rfl ?_
  refine tr_ce1 eX6_cone_5 zv_X1_hasStand zi_X1_hasStand lk_X6_88 ⟨rfl, by decide, by decide⟩ rfl rfl rfl k_X1_hasStand ?_
  refine tr_if_ne eX6_cone_8 (fun h8 => ?_) (fun h8 => ?_)
  · skip
    try first | replace h8 := bi_0 h8 | replace h8 := bi_n h8
    refine tr_iload_n eX6_cone_17 rfl ?_
    refine tr_iload_n eX6_cone_18 rfl ?_
    refine tr_se2 eX6_cone_19 zv_X6_isSpan zs_X6_isSpan lk_X6_106 ⟨rfl, by decide, by decide⟩ rfl k_X6_isSpan ?_
    refine tr_if_ne eX6_cone_22 (fun h22 => ?_) (fun h22 => ?_)
    · skip
      try first | replace h22 := bi_0 h22 | replace h22 := bi_n h22
      refine tr_aload_n eX6_cone_31 rfl ?_
      refine tr_getR eX6_cone_32 fk_X6_10 rfl rfl ?_
      refine tr_getI eX6_cone_35 fk_X6_110 rfl rfl ?_
      refine tr_bipush eX6_cone_38 (nI 20) (by decide) ?_
      refine tr_icmp_lt eX6_cone_40 (fun h40 => ?_) (fun h40 => ?_)
      · skip
        have g40 := lt_neq h40
        have hin := in_of_ne hC hC20 (by decide) g40
        refine tr_aload_n eX6_cone_49 rfl ?_
        refine tr_aload_n eX6_cone_50 rfl ?_
        refine tr_getR eX6_cone_51 fk_X6_10 rfl rfl ?_
        refine tr_iload_n eX6_cone_54 rfl ?_
        refine tr_iload_n eX6_cone_55 rfl ?_
        refine tr_iload_n eX6_cone_56 rfl ?_
        refine tr_ce3 eX6_cone_57 zv_X1_addCone zi_X1_addCone lk_X6_113 ⟨rfl, by decide, by decide⟩ rfl rfl rfl (k_X1_addCone (by first | with_reducible assumption | with_reducible exact in_slot (by with_reducible assumption) (by with_reducible assumption) | with_reducible exact in_row _ (by decide) (by with_reducible assumption) | with_reducible exact in_row0 (by with_reducible assumption) | with_reducible exact in_slot0 (by with_reducible assumption) | (simp (disch := decide) only [up_k, up_s, up_f] <;> with_reducible assumption))) ?_
        try simp (disch := decide) only [up_k, up_s, up_f]
        refine tr_ce1 eX6_cone_60 zv_X6_grant zi_X6_grant lk_X6_85 ⟨rfl, by decide, by decide⟩ rfl rfl rfl k_X6_grant ?_
        try simp (disch := decide) only [up_k, up_s, up_f]
        refine tr_ret eX6_cone_63 rfl rfl ?_
        refine ⟨?_, ?_, rfl⟩ <;> simp (disch := decide) only [s_cone, PE, psh, s_nst, s_nvi, s_kind_aX, s_wing_aX, s_in_aX, s_out_aX, s_need_aX, s_unk_aX, s_put_aX, aX_0, aX_1, aX_2, aX_3, aX_4, aX_5, aX_6, aX_7, aX_8, aX_9, aX_f17_9, aX_f17_10, aX_f17_11, aX_f18_6, aX_f18_7, aX_f0_6, aX_f0_7, aX_f0_8, aX_f0_9, aX_f25_1, aX_u, aX_k, aX_s] <;> simp_all [s_rf, s_gr, s_dn, s_al, n0, le_nlt, -Int32.not_lt, -Int32.not_le]
      · skip
        have g40 := ge_eq hC hC20 (by decide) h40
        refine tr_aload_n eX6_cone_43 rfl ?_
        refine tr_iconst eX6_cone_44 (nI 4) ci_4 ?_
        refine tr_ce1 eX6_cone_45 zv_X6_refuse zi_X6_refuse lk_X6_74 ⟨rfl, by decide, by decide⟩ rfl rfl rfl k_X6_refuse ?_
        try simp (disch := decide) only [up_k, up_s, up_f]
        refine tr_ret eX6_cone_48 rfl rfl ?_
        refine ⟨?_, ?_, rfl⟩ <;> simp (disch := decide) only [s_cone, PE, psh, s_nst, s_nvi, s_kind_aX, s_wing_aX, s_in_aX, s_out_aX, s_need_aX, s_unk_aX, s_put_aX, aX_0, aX_1, aX_2, aX_3, aX_4, aX_5, aX_6, aX_7, aX_8, aX_9, aX_f17_9, aX_f17_10, aX_f17_11, aX_f18_6, aX_f18_7, aX_f0_6, aX_f0_7, aX_f0_8, aX_f0_9, aX_f25_1, aX_u, aX_k, aX_s] <;> simp_all [s_rf, s_gr, s_dn, s_al, n0, le_nlt, -Int32.not_lt, -Int32.not_le]
    · skip
      try first | replace h22 := bi_0 h22 | replace h22 := bi_n h22
      refine tr_aload_n eX6_cone_25 rfl ?_
      refine tr_iconst eX6_cone_26 (nI 3) ci_3 ?_
      refine tr_ce1 eX6_cone_27 zv_X6_refuse zi_X6_refuse lk_X6_74 ⟨rfl, by decide, by decide⟩ rfl rfl rfl k_X6_refuse ?_
      try simp (disch := decide) only [up_k, up_s, up_f]
      refine tr_ret eX6_cone_30 rfl rfl ?_
      refine ⟨?_, ?_, rfl⟩ <;> simp (disch := decide) only [s_cone, PE, psh, s_nst, s_nvi, s_kind_aX, s_wing_aX, s_in_aX, s_out_aX, s_need_aX, s_unk_aX, s_put_aX, aX_0, aX_1, aX_2, aX_3, aX_4, aX_5, aX_6, aX_7, aX_8, aX_9, aX_f17_9, aX_f17_10, aX_f17_11, aX_f18_6, aX_f18_7, aX_f0_6, aX_f0_7, aX_f0_8, aX_f0_9, aX_f25_1, aX_u, aX_k, aX_s] <;> simp_all [s_rf, s_gr, s_dn, s_al, n0, le_nlt, -Int32.not_lt, -Int32.not_le]
  · skip
    try first | replace h8 := bi_0 h8 | replace h8 := bi_n h8
    refine tr_aload_n eX6_cone_11 rfl ?_
    refine tr_iconst eX6_cone_12 (nI 1) ci_1 ?_
    refine tr_ce1 eX6_cone_13 zv_X6_refuse zi_X6_refuse lk_X6_74 ⟨rfl, by decide, by decide⟩ rfl rfl rfl k_X6_refuse ?_
    try simp (disch := decide) only [up_k, up_s, up_f]
    refine tr_ret eX6_cone_16 rfl rfl ?_
    refine ⟨?_, ?_, rfl⟩ <;> simp (disch := decide) only [s_cone, PE, psh, s_nst, s_nvi, s_kind_aX, s_wing_aX, s_in_aX, s_out_aX, s_need_aX, s_unk_aX, s_put_aX, aX_0, aX_1, aX_2, aX_3, aX_4, aX_5, aX_6, aX_7, aX_8, aX_9, aX_f17_9, aX_f17_10, aX_f17_11, aX_f18_6, aX_f18_7, aX_f0_6, aX_f0_7, aX_f0_8, aX_f0_9, aX_f25_1, aX_u, aX_k, aX_s] <;> simp_all [s_rf, s_gr, s_dn, s_al, n0, le_nlt, -Int32.not_lt, -Int32.not_le]

theorem k_X7_cone {τ : tSt} {nS nP nC nV : Nat} {s a b : Int32} (hI : iN (aM τ) nS nP nC nV) : CT mX7_cone [.ref 0, .int s, .int a, .int b] τ (QM (s_cone (aM τ) s a b)) := by
  have hS := hI.1.1
  rw [aM_0] at hS
  have hP := hI.2.1.1
  rw [aM_1] at hP
  have hC := hI.2.2.1.1
  rw [aM_2] at hC
  have hV := hI.2.2.2.1
  rw [aM_3] at hV
  have hS24 := hI.1.2
  have hP40 := hI.2.1.2
  have hC20 := hI.2.2.1.2
  have hV40 := hI.2.2.2.2
  refine CT.of2 0 (by decide) rfl rfl ?_
  refine tr_aload_n eX7_cone_0 rfl ?_
  refine tr_iload_n eX7_cone_1 rfl ?_
  refine tr_ce1 eX7_cone_2 zv_X7_isStand zi_X7_isStand lk_X7_99 ⟨rfl, by decide, by decide⟩ rfl rfl rfl k_X7_isStand ?_
  refine tr_if_ne eX7_cone_5 (fun h5 => ?_) (fun h5 => ?_)
  · skip
    try first | replace h5 := bi_0 h5 | replace h5 := bi_n h5
    refine tr_iload_n eX7_cone_14 rfl ?_
    refine tr_iload_n eX7_cone_15 rfl ?_
    refine tr_se2 eX7_cone_16 zv_X7_isSpan zs_X7_isSpan lk_X7_106 ⟨rfl, by decide, by decide⟩ rfl k_X7_isSpan ?_
    refine tr_if_ne eX7_cone_19 (fun h19 => ?_) (fun h19 => ?_)
    · skip
      try first | replace h19 := bi_0 h19 | replace h19 := bi_n h19
      refine tr_aload_n eX7_cone_28 rfl ?_
      refine tr_getI eX7_cone_29 fk_X7_110 rfl rfl ?_
      refine tr_bipush eX7_cone_32 (nI 20) (by decide) ?_
      refine tr_icmp_ne eX7_cone_34 (fun h34 => ?_) (fun h34 => ?_)
      · skip
        have hin := in_of_ne hC hC20 (by decide) h34
        refine tr_aload_n eX7_cone_43 rfl ?_
        refine tr_getR eX7_cone_44 fk_X7_35 rfl rfl ?_
        refine tr_aload_n eX7_cone_47 rfl ?_
        refine tr_getI eX7_cone_48 fk_X7_110 rfl rfl ?_
        refine tr_iload_n eX7_cone_51 rfl ?_
        refine tr_iast eX7_cone_52 rfl (by first | with_reducible assumption | with_reducible exact in_slot (by with_reducible assumption) (by with_reducible assumption) | with_reducible exact in_row _ (by decide) (by with_reducible assumption) | with_reducible exact in_row0 (by with_reducible assumption) | with_reducible exact in_slot0 (by with_reducible assumption) | (simp (disch := decide) only [up_k, up_s, up_f] <;> with_reducible assumption)) ?_
        refine tr_aload_n eX7_cone_53 rfl ?_
        refine tr_getR eX7_cone_54 fk_X7_38 rfl rfl ?_
        refine tr_aload_n eX7_cone_57 rfl ?_
        refine tr_getI eX7_cone_58 fk_X7_110 rfl rfl ?_
        try simp (disch := decide) only [up_k, up_s, up_f]
        refine tr_iload_n eX7_cone_61 rfl ?_
        refine tr_iast eX7_cone_62 rfl (by first | with_reducible assumption | with_reducible exact in_slot (by with_reducible assumption) (by with_reducible assumption) | with_reducible exact in_row _ (by decide) (by with_reducible assumption) | with_reducible exact in_row0 (by with_reducible assumption) | with_reducible exact in_slot0 (by with_reducible assumption) | (simp (disch := decide) only [up_k, up_s, up_f] <;> with_reducible assumption)) ?_
        refine tr_aload_n eX7_cone_63 rfl ?_
        refine tr_getR eX7_cone_64 fk_X7_41 rfl rfl ?_
        refine tr_aload_n eX7_cone_67 rfl ?_
        refine tr_getI eX7_cone_68 fk_X7_110 rfl rfl ?_
        try simp (disch := decide) only [up_k, up_s, up_f]
        refine tr_iload_n eX7_cone_71 rfl ?_
        refine tr_iast eX7_cone_72 rfl (by first | with_reducible assumption | with_reducible exact in_slot (by with_reducible assumption) (by with_reducible assumption) | with_reducible exact in_row _ (by decide) (by with_reducible assumption) | with_reducible exact in_row0 (by with_reducible assumption) | with_reducible exact in_slot0 (by with_reducible assumption) | (simp (disch := decide) only [up_k, up_s, up_f] <;> with_reducible assumption)) ?_
        refine tr_aload_n eX7_cone_73 rfl ?_
        refine tr_dup eX7_cone_74 rfl ?_
        refine tr_getI eX7_cone_75 fk_X7_110 rfl rfl ?_
        try simp (disch := decide) only [up_k, up_s, up_f]
        refine tr_iconst eX7_cone_78 (nI 1) ci_1 ?_
        refine tr_iadd eX7_cone_79 ?_
        refine tr_put eX7_cone_80 fp_X7_110 rfl rfl ?_
        refine tr_aload_n eX7_cone_83 rfl ?_
        refine tr_aload_n eX7_cone_84 rfl ?_
        refine tr_getI eX7_cone_85 fk_X7_110 rfl rfl ?_
        try simp (disch := decide) only [up_k, up_s, up_f]
        refine tr_iconst eX7_cone_88 (nI 1) ci_1 ?_
        refine tr_isub eX7_cone_89 ?_
        refine tr_ce1 eX7_cone_90 zv_X7_gives zi_X7_gives lk_X7_96 ⟨rfl, by decide, by decide⟩ rfl rfl rfl k_X7_gives ?_
        try simp (disch := decide) only [up_k, up_s, up_f]
        refine tr_ret eX7_cone_93 rfl rfl ?_
        refine ⟨?_, ?_⟩ <;> simp (disch := decide) only [s_cone, PE, psh, up_c0, up_65, s_nst, s_nvi, s_kind_aM, s_wing_aM, s_in_aM, s_out_aM, s_need_aM, s_unk_aM, s_put_aM, aM_0, aM_1, aM_2, aM_3, aM_4, aM_5, aM_6, aM_7, aM_8, aM_9, aM_f0_3, aM_f0_4, aM_f0_5, aM_f0_6, aM_f0_8, aM_f0_7, aM_f0_0, aM_f0_1, aM_f0_2, aM_f0_34, aM_f0_24, aM_f0_26, aM_f0_29, aM_f0_30, aM_u, aM_k, aM_s] <;> simp_all [s_rf, s_gr, s_dn, s_al, n0, le_nlt, -Int32.not_lt, -Int32.not_le]
      · skip
        refine tr_aload_n eX7_cone_37 rfl ?_
        refine tr_iconst eX7_cone_38 (nI 4) ci_4 ?_
        refine tr_ce1 eX7_cone_39 zv_X7_refuse zi_X7_refuse lk_X7_92 ⟨rfl, by decide, by decide⟩ rfl rfl rfl k_X7_refuse ?_
        try simp (disch := decide) only [up_k, up_s, up_f]
        refine tr_ret eX7_cone_42 rfl rfl ?_
        refine ⟨?_, ?_⟩ <;> simp (disch := decide) only [s_cone, PE, psh, up_c0, up_65, s_nst, s_nvi, s_kind_aM, s_wing_aM, s_in_aM, s_out_aM, s_need_aM, s_unk_aM, s_put_aM, aM_0, aM_1, aM_2, aM_3, aM_4, aM_5, aM_6, aM_7, aM_8, aM_9, aM_f0_3, aM_f0_4, aM_f0_5, aM_f0_6, aM_f0_8, aM_f0_7, aM_f0_0, aM_f0_1, aM_f0_2, aM_f0_34, aM_f0_24, aM_f0_26, aM_f0_29, aM_f0_30, aM_u, aM_k, aM_s] <;> simp_all [s_rf, s_gr, s_dn, s_al, n0, le_nlt, -Int32.not_lt, -Int32.not_le]
    · skip
      try first | replace h19 := bi_0 h19 | replace h19 := bi_n h19
      refine tr_aload_n eX7_cone_22 rfl ?_
      refine tr_iconst eX7_cone_23 (nI 3) ci_3 ?_
      refine tr_ce1 eX7_cone_24 zv_X7_refuse zi_X7_refuse lk_X7_92 ⟨rfl, by decide, by decide⟩ rfl rfl rfl k_X7_refuse ?_
      try simp (disch := decide) only [up_k, up_s, up_f]
      refine tr_ret eX7_cone_27 rfl rfl ?_
      refine ⟨?_, ?_⟩ <;> simp (disch := decide) only [s_cone, PE, psh, up_c0, up_65, s_nst, s_nvi, s_kind_aM, s_wing_aM, s_in_aM, s_out_aM, s_need_aM, s_unk_aM, s_put_aM, aM_0, aM_1, aM_2, aM_3, aM_4, aM_5, aM_6, aM_7, aM_8, aM_9, aM_f0_3, aM_f0_4, aM_f0_5, aM_f0_6, aM_f0_8, aM_f0_7, aM_f0_0, aM_f0_1, aM_f0_2, aM_f0_34, aM_f0_24, aM_f0_26, aM_f0_29, aM_f0_30, aM_u, aM_k, aM_s] <;> simp_all [s_rf, s_gr, s_dn, s_al, n0, le_nlt, -Int32.not_lt, -Int32.not_le]
  · skip
    try first | replace h5 := bi_0 h5 | replace h5 := bi_n h5
    refine tr_aload_n eX7_cone_8 rfl ?_
    refine tr_iconst eX7_cone_9 (nI 1) ci_1 ?_
    refine tr_ce1 eX7_cone_10 zv_X7_refuse zi_X7_refuse lk_X7_92 ⟨rfl, by decide, by decide⟩ rfl rfl rfl k_X7_refuse ?_
    try simp (disch := decide) only [up_k, up_s, up_f]
    refine tr_ret eX7_cone_13 rfl rfl ?_
    refine ⟨?_, ?_⟩ <;> simp (disch := decide) only [s_cone, PE, psh, up_c0, up_65, s_nst, s_nvi, s_kind_aM, s_wing_aM, s_in_aM, s_out_aM, s_need_aM, s_unk_aM, s_put_aM, aM_0, aM_1, aM_2, aM_3, aM_4, aM_5, aM_6, aM_7, aM_8, aM_9, aM_f0_3, aM_f0_4, aM_f0_5, aM_f0_6, aM_f0_8, aM_f0_7, aM_f0_0, aM_f0_1, aM_f0_2, aM_f0_34, aM_f0_24, aM_f0_26, aM_f0_29, aM_f0_30, aM_u, aM_k, aM_s] <;> simp_all [s_rf, s_gr, s_dn, s_al, n0, le_nlt, -Int32.not_lt, -Int32.not_le]

theorem k_X6_towtime {σ : tSt} {nS nP nC nV : Nat} {x : Int32} (hI : iN (aX σ) nS nP nC nV) : CT mX6_towtime [.ref 0, .int x] σ (QX σ (s_towtime (aX σ) x)) := by
  have hS := hI.1.1
  rw [aX_0] at hS
  have hP := hI.2.1.1
  rw [aX_1] at hP
  have hC := hI.2.2.1.1
  rw [aX_2] at hC
  have hV := hI.2.2.2.1
  rw [aX_3] at hV
  have hS24 := hI.1.2
  have hP40 := hI.2.1.2
  have hC20 := hI.2.2.1.2
  have hV40 := hI.2.2.2.2
  refine CT.of2 0 (by decide) rfl rfl ?_
  refine tr_iload_n eX6_towtime_0 rfl ?_
  refine tr_iconst eX6_towtime_1 (nI 1) ci_1 ?_
  refine tr_bipush eX6_towtime_2 (nI 60) (by decide) ?_
  refine tr_se3 eX6_towtime_4 zv_X6_isWithin zs_X6_isWithin lk_X6_70 ⟨rfl, by decide, by decide⟩ rfl k_X6_isWithin ?_
  refine tr_if_ne eX6_towtime_7 (fun h7 => ?_) (fun h7 => ?_)
  · skip
    try first | replace h7 := bi_0 h7 | replace h7 := bi_n h7
    refine tr_aload_n eX6_towtime_16 rfl ?_
    refine tr_iload_n eX6_towtime_17 rfl ?_
    refine tr_put eX6_towtime_18 fp_X6_57 rfl rfl ?_
    refine tr_aload_n eX6_towtime_21 rfl ?_
    refine tr_ce0 eX6_towtime_22 zv_X6_allow zi_X6_allow lk_X6_120 ⟨rfl, by decide, by decide⟩ rfl rfl rfl k_X6_allow ?_
    try simp (disch := decide) only [up_k, up_s, up_f]
    refine tr_ret eX6_towtime_25 rfl (by first | rfl | exact nar_bi _) ?_
    refine ⟨?_, ?_, rfl⟩ <;> simp (disch := decide) only [s_towtime, PE, psh, s_nst, s_nvi, s_kind_aX, s_wing_aX, s_in_aX, s_out_aX, s_need_aX, s_unk_aX, s_put_aX, aX_0, aX_1, aX_2, aX_3, aX_4, aX_5, aX_6, aX_7, aX_8, aX_9, aX_f17_9, aX_f17_10, aX_f17_11, aX_f18_6, aX_f18_7, aX_f0_6, aX_f0_7, aX_f0_8, aX_f0_9, aX_f25_1, aX_u, aX_k, aX_s] <;> simp_all [s_rf, s_gr, s_dn, s_al, n0, le_nlt, -Int32.not_lt, -Int32.not_le]
  · skip
    try first | replace h7 := bi_0 h7 | replace h7 := bi_n h7
    refine tr_aload_n eX6_towtime_10 rfl ?_
    refine tr_iconst eX6_towtime_11 (nI 3) ci_3 ?_
    refine tr_ce1 eX6_towtime_12 zv_X6_deny zi_X6_deny lk_X6_117 ⟨rfl, by decide, by decide⟩ rfl rfl rfl k_X6_deny ?_
    try simp (disch := decide) only [up_k, up_s, up_f]
    refine tr_ret eX6_towtime_15 rfl (by first | rfl | exact nar_bi _) ?_
    refine ⟨?_, ?_, rfl⟩ <;> simp (disch := decide) only [s_towtime, PE, psh, s_nst, s_nvi, s_kind_aX, s_wing_aX, s_in_aX, s_out_aX, s_need_aX, s_unk_aX, s_put_aX, aX_0, aX_1, aX_2, aX_3, aX_4, aX_5, aX_6, aX_7, aX_8, aX_9, aX_f17_9, aX_f17_10, aX_f17_11, aX_f18_6, aX_f18_7, aX_f0_6, aX_f0_7, aX_f0_8, aX_f0_9, aX_f25_1, aX_u, aX_k, aX_s] <;> simp_all [s_rf, s_gr, s_dn, s_al, n0, le_nlt, -Int32.not_lt, -Int32.not_le]

theorem k_X7_towtime {τ : tSt} {nS nP nC nV : Nat} {x : Int32} (hI : iN (aM τ) nS nP nC nV) : CT mX7_towtime [.ref 0, .int x] τ (QM (s_towtime (aM τ) x)) := by
  have hS := hI.1.1
  rw [aM_0] at hS
  have hP := hI.2.1.1
  rw [aM_1] at hP
  have hC := hI.2.2.1.1
  rw [aM_2] at hC
  have hV := hI.2.2.2.1
  rw [aM_3] at hV
  have hS24 := hI.1.2
  have hP40 := hI.2.1.2
  have hC20 := hI.2.2.1.2
  have hV40 := hI.2.2.2.2
  refine CT.of2 1 (by decide) rfl rfl ?_
  refine tr_iload_n eX7_towtime_0 rfl ?_
  refine tr_iconst eX7_towtime_1 (nI 1) ci_1 ?_
  refine tr_icmp_lt eX7_towtime_2 (fun h2 => ?_) (fun h2 => ?_)
  · skip
    refine tr_iconst eX7_towtime_15 (nI 0) ci_0 ?_
    refine tr_istore_n eX7_towtime_16 (by decide) rfl ?_
    refine tr_aload_n eX7_towtime_17 rfl ?_
    refine tr_iload_n eX7_towtime_18 rfl ?_
    refine tr_if_eq eX7_towtime_19 (fun _ => ?_) (fun h19 => absurd h19 (by decide))
    refine tr_iconst eX7_towtime_26 (nI 3) ci_3 ?_
    refine tr_put eX7_towtime_27 fp_X7_80 rfl rfl ?_
    refine tr_iload_n eX7_towtime_30 rfl ?_
    refine tr_if_eq eX7_towtime_31 (fun _ => ?_) (fun h31 => absurd h31 (by decide))
    refine tr_iload_n eX7_towtime_39 rfl ?_
    refine tr_ret eX7_towtime_40 rfl (by first | rfl | exact nar_bi _) ?_
    refine ⟨?_, ?_⟩ <;> simp (disch := decide) only [s_towtime, PE, psh, up_c0, up_65, s_nst, s_nvi, s_kind_aM, s_wing_aM, s_in_aM, s_out_aM, s_need_aM, s_unk_aM, s_put_aM, aM_0, aM_1, aM_2, aM_3, aM_4, aM_5, aM_6, aM_7, aM_8, aM_9, aM_f0_3, aM_f0_4, aM_f0_5, aM_f0_6, aM_f0_8, aM_f0_7, aM_f0_0, aM_f0_1, aM_f0_2, aM_f0_34, aM_f0_24, aM_f0_26, aM_f0_29, aM_f0_30, aM_u, aM_k, aM_s] <;> simp_all [s_rf, s_gr, s_dn, s_al, n0, le_nlt, -Int32.not_lt, -Int32.not_le]
  · skip
    refine tr_iload_n eX7_towtime_5 rfl ?_
    refine tr_bipush eX7_towtime_6 (nI 60) (by decide) ?_
    refine tr_icmp_gt eX7_towtime_8 (fun h8 => ?_) (fun h8 => ?_)
    · skip
      refine tr_iconst eX7_towtime_15 (nI 0) ci_0 ?_
      refine tr_istore_n eX7_towtime_16 (by decide) rfl ?_
      refine tr_aload_n eX7_towtime_17 rfl ?_
      refine tr_iload_n eX7_towtime_18 rfl ?_
      refine tr_if_eq eX7_towtime_19 (fun _ => ?_) (fun h19 => absurd h19 (by decide))
      refine tr_iconst eX7_towtime_26 (nI 3) ci_3 ?_
      refine tr_put eX7_towtime_27 fp_X7_80 rfl rfl ?_
      refine tr_iload_n eX7_towtime_30 rfl ?_
      refine tr_if_eq eX7_towtime_31 (fun _ => ?_) (fun h31 => absurd h31 (by decide))
      refine tr_iload_n eX7_towtime_39 rfl ?_
      refine tr_ret eX7_towtime_40 rfl (by first | rfl | exact nar_bi _) ?_
      refine ⟨?_, ?_⟩ <;> simp (disch := decide) only [s_towtime, PE, psh, up_c0, up_65, s_nst, s_nvi, s_kind_aM, s_wing_aM, s_in_aM, s_out_aM, s_need_aM, s_unk_aM, s_put_aM, aM_0, aM_1, aM_2, aM_3, aM_4, aM_5, aM_6, aM_7, aM_8, aM_9, aM_f0_3, aM_f0_4, aM_f0_5, aM_f0_6, aM_f0_8, aM_f0_7, aM_f0_0, aM_f0_1, aM_f0_2, aM_f0_34, aM_f0_24, aM_f0_26, aM_f0_29, aM_f0_30, aM_u, aM_k, aM_s] <;> simp_all [s_rf, s_gr, s_dn, s_al, n0, le_nlt, -Int32.not_lt, -Int32.not_le]
    · skip
      refine tr_iconst eX7_towtime_11 (nI 1) ci_1 ?_
      refine tr_goto eX7_towtime_12 ?_
      refine tr_istore_n eX7_towtime_16 (by decide) rfl ?_
      refine tr_aload_n eX7_towtime_17 rfl ?_
      refine tr_iload_n eX7_towtime_18 rfl ?_
      refine tr_if_eq eX7_towtime_19 (fun h19 => absurd h19 (by decide)) (fun _ => ?_)
      refine tr_iconst eX7_towtime_22 (nI 0) ci_0 ?_
      refine tr_goto eX7_towtime_23 ?_
      refine tr_put eX7_towtime_27 fp_X7_80 rfl rfl ?_
      refine tr_iload_n eX7_towtime_30 rfl ?_
      refine tr_if_eq eX7_towtime_31 (fun h31 => absurd h31 (by decide)) (fun _ => ?_)
      refine tr_aload_n eX7_towtime_34 rfl ?_
      refine tr_iload_n eX7_towtime_35 rfl ?_
      refine tr_put eX7_towtime_36 fp_X7_13 rfl rfl ?_
      refine tr_iload_n eX7_towtime_39 rfl ?_
      refine tr_ret eX7_towtime_40 rfl (by first | rfl | exact nar_bi _) ?_
      refine ⟨?_, ?_⟩ <;> simp (disch := decide) only [s_towtime, PE, psh, up_c0, up_65, s_nst, s_nvi, s_kind_aM, s_wing_aM, s_in_aM, s_out_aM, s_need_aM, s_unk_aM, s_put_aM, aM_0, aM_1, aM_2, aM_3, aM_4, aM_5, aM_6, aM_7, aM_8, aM_9, aM_f0_3, aM_f0_4, aM_f0_5, aM_f0_6, aM_f0_8, aM_f0_7, aM_f0_0, aM_f0_1, aM_f0_2, aM_f0_34, aM_f0_24, aM_f0_26, aM_f0_29, aM_f0_30, aM_u, aM_k, aM_s] <;> simp_all [s_rf, s_gr, s_dn, s_al, n0, le_nlt, -Int32.not_lt, -Int32.not_le]

theorem in_told {v k : Int32} {g : Int32 → Int32} (hv : vp_in v 40) (hL : ∀ u : Nat, u < 40 → ∃ c : Nat, c ≤ 5 ∧ g (nI u) = nI c) (h0 : ¬ k < 0) (h1 : k < g v) : vp_in (v * nI 5 + k) 200 := by
  obtain ⟨j, hj, rfl⟩ := vp_in_of hv (by decide)
  obtain ⟨c, hc, e⟩ := hL j hj
  obtain ⟨i, hi, rfl⟩ := nI_of h0
  rw [e] at h1
  have := (nI_ltI hi (by omega)).mp h1
  rw [pk_mul, nI_add]
  exact vp_in_nI (by omega) (by decide)
theorem k_X6_told {σ : tSt} {nS nP nC nV : Nat} {v k : Int32} (hI : iN (aX σ) nS nP nC nV) (hL : ∀ u : Nat, u < 40 → ∃ c : Nat, c ≤ 5 ∧ σ 11 (nI u) = nI c) : CT mX6_told [.ref 0, .int v, .int k] σ (QX σ (s_told (aX σ) v k)) := by
  have hS := hI.1.1
  rw [aX_0] at hS
  have hP := hI.2.1.1
  rw [aX_1] at hP
  have hC := hI.2.2.1.1
  rw [aX_2] at hC
  have hV := hI.2.2.2.1
  rw [aX_3] at hV
  have hS24 := hI.1.2
  have hP40 := hI.2.1.2
  have hC20 := hI.2.2.1.2
  have hV40 := hI.2.2.2.2
  refine CT.of2 0 (by decide) rfl rfl ?_
  refine tr_aload_n eX6_told_0 rfl ?_
  refine tr_getR eX6_told_1 fk_X6_19 rfl rfl ?_
  refine tr_iload_n eX6_told_4 rfl ?_
  refine tr_ce1 eX6_told_5 zv_X5_has zi_X5_has lk_X6_131 ⟨rfl, by decide, by decide⟩ rfl rfl rfl k_X5_has ?_
  refine tr_if_ne eX6_told_8 (fun h8 => ?_) (fun h8 => ?_)
  · skip
    try first | replace h8 := bi_0 h8 | replace h8 := bi_n h8
    have hin := in_has hV hV40 (by decide) h8
    refine tr_iload_n eX6_told_17 rfl ?_
    refine tr_if_lt eX6_told_18 (fun h18 => ?_) (fun h18 => ?_)
    · skip
      refine tr_aload_n eX6_told_34 rfl ?_
      refine tr_iconst eX6_told_35 (nI 3) ci_3 ?_
      refine tr_ce1 eX6_told_36 zv_X6_refuse zi_X6_refuse lk_X6_74 ⟨rfl, by decide, by decide⟩ rfl rfl rfl k_X6_refuse ?_
      try simp (disch := decide) only [up_k, up_s, up_f]
      refine tr_ret eX6_told_39 rfl rfl ?_
      refine ⟨?_, ?_, rfl⟩ <;> simp (disch := decide) only [s_told, PE, psh, s_nst, s_nvi, s_kind_aX, s_wing_aX, s_in_aX, s_out_aX, s_need_aX, s_unk_aX, s_put_aX, aX_0, aX_1, aX_2, aX_3, aX_4, aX_5, aX_6, aX_7, aX_8, aX_9, aX_f17_9, aX_f17_10, aX_f17_11, aX_f18_6, aX_f18_7, aX_f0_6, aX_f0_7, aX_f0_8, aX_f0_9, aX_f25_1, aX_u, aX_k, aX_s] <;> simp_all [s_rf, s_gr, s_dn, s_al, n0, le_nlt, -Int32.not_lt, -Int32.not_le]
    · skip
      refine tr_iload_n eX6_told_21 rfl ?_
      refine tr_aload_n eX6_told_22 rfl ?_
      refine tr_getR eX6_told_23 fk_X6_19 rfl rfl ?_
      refine tr_getR eX6_told_26 fk_X6_134 rfl rfl ?_
      refine tr_iload_n eX6_told_29 rfl ?_
      refine tr_iald eX6_told_30 rfl (by first | with_reducible assumption | with_reducible exact in_slot (by with_reducible assumption) (by with_reducible assumption) | with_reducible exact in_row _ (by decide) (by with_reducible assumption) | with_reducible exact in_row0 (by with_reducible assumption) | with_reducible exact in_slot0 (by with_reducible assumption) | (simp (disch := decide) only [up_k, up_s, up_f] <;> with_reducible assumption)) ?_
      refine tr_icmp_lt eX6_told_31 (fun h31 => ?_) (fun h31 => ?_)
      · skip
        have hin2 := in_told hin hL h18 h31
        refine tr_aload_n eX6_told_40 rfl ?_
        refine tr_aload_n eX6_told_41 rfl ?_
        refine tr_getR eX6_told_42 fk_X6_19 rfl rfl ?_
        refine tr_getR eX6_told_45 fk_X6_140 rfl rfl ?_
        refine tr_iload_n eX6_told_48 rfl ?_
        refine tr_iconst eX6_told_49 (nI 5) ci_5 ?_
        refine tr_imul eX6_told_50 ?_
        refine tr_iload_n eX6_told_51 rfl ?_
        refine tr_iadd eX6_told_52 ?_
        refine tr_iald eX6_told_53 rfl (by first | with_reducible assumption | with_reducible exact in_slot (by with_reducible assumption) (by with_reducible assumption) | with_reducible exact in_row _ (by decide) (by with_reducible assumption) | with_reducible exact in_row0 (by with_reducible assumption) | with_reducible exact in_slot0 (by with_reducible assumption) | (simp (disch := decide) only [up_k, up_s, up_f] <;> with_reducible assumption)) ?_
        refine tr_ce1 eX6_told_54 zv_X6_grant zi_X6_grant lk_X6_85 ⟨rfl, by decide, by decide⟩ rfl rfl rfl k_X6_grant ?_
        try simp (disch := decide) only [up_k, up_s, up_f]
        refine tr_ret eX6_told_57 rfl rfl ?_
        refine ⟨?_, ?_, rfl⟩ <;> simp (disch := decide) only [s_told, PE, psh, s_nst, s_nvi, s_kind_aX, s_wing_aX, s_in_aX, s_out_aX, s_need_aX, s_unk_aX, s_put_aX, aX_0, aX_1, aX_2, aX_3, aX_4, aX_5, aX_6, aX_7, aX_8, aX_9, aX_f17_9, aX_f17_10, aX_f17_11, aX_f18_6, aX_f18_7, aX_f0_6, aX_f0_7, aX_f0_8, aX_f0_9, aX_f25_1, aX_u, aX_k, aX_s] <;> simp_all [s_rf, s_gr, s_dn, s_al, n0, le_nlt, -Int32.not_lt, -Int32.not_le]
      · skip
        refine tr_aload_n eX6_told_34 rfl ?_
        refine tr_iconst eX6_told_35 (nI 3) ci_3 ?_
        refine tr_ce1 eX6_told_36 zv_X6_refuse zi_X6_refuse lk_X6_74 ⟨rfl, by decide, by decide⟩ rfl rfl rfl k_X6_refuse ?_
        try simp (disch := decide) only [up_k, up_s, up_f]
        refine tr_ret eX6_told_39 rfl rfl ?_
        refine ⟨?_, ?_, rfl⟩ <;> simp (disch := decide) only [s_told, PE, psh, s_nst, s_nvi, s_kind_aX, s_wing_aX, s_in_aX, s_out_aX, s_need_aX, s_unk_aX, s_put_aX, aX_0, aX_1, aX_2, aX_3, aX_4, aX_5, aX_6, aX_7, aX_8, aX_9, aX_f17_9, aX_f17_10, aX_f17_11, aX_f18_6, aX_f18_7, aX_f0_6, aX_f0_7, aX_f0_8, aX_f0_9, aX_f25_1, aX_u, aX_k, aX_s] <;> simp_all [s_rf, s_gr, s_dn, s_al, n0, le_nlt, -Int32.not_lt, -Int32.not_le]
  · skip
    try first | replace h8 := bi_0 h8 | replace h8 := bi_n h8
    refine tr_aload_n eX6_told_11 rfl ?_
    refine tr_iconst eX6_told_12 (nI 2) ci_2 ?_
    refine tr_ce1 eX6_told_13 zv_X6_refuse zi_X6_refuse lk_X6_74 ⟨rfl, by decide, by decide⟩ rfl rfl rfl k_X6_refuse ?_
    try simp (disch := decide) only [up_k, up_s, up_f]
    refine tr_ret eX6_told_16 rfl rfl ?_
    refine ⟨?_, ?_, rfl⟩ <;> simp (disch := decide) only [s_told, PE, psh, s_nst, s_nvi, s_kind_aX, s_wing_aX, s_in_aX, s_out_aX, s_need_aX, s_unk_aX, s_put_aX, aX_0, aX_1, aX_2, aX_3, aX_4, aX_5, aX_6, aX_7, aX_8, aX_9, aX_f17_9, aX_f17_10, aX_f17_11, aX_f18_6, aX_f18_7, aX_f0_6, aX_f0_7, aX_f0_8, aX_f0_9, aX_f25_1, aX_u, aX_k, aX_s] <;> simp_all [s_rf, s_gr, s_dn, s_al, n0, le_nlt, -Int32.not_lt, -Int32.not_le]

theorem k_X7_told {τ : tSt} {nS nP nC nV : Nat} {v k : Int32} (hI : iN (aM τ) nS nP nC nV) (hL : ∀ u : Nat, u < 40 → ∃ c : Nat, c ≤ 5 ∧ τ 11 (nI u) = nI c) : CT mX7_told [.ref 0, .int v, .int k] τ (QM (s_told (aM τ) v k)) := by
  have hS := hI.1.1
  rw [aM_0] at hS
  have hP := hI.2.1.1
  rw [aM_1] at hP
  have hC := hI.2.2.1.1
  rw [aM_2] at hC
  have hV := hI.2.2.2.1
  rw [aM_3] at hV
  have hS24 := hI.1.2
  have hP40 := hI.2.1.2
  have hC20 := hI.2.2.1.2
  have hV40 := hI.2.2.2.2
  refine CT.of2 0 (by decide) rfl rfl ?_
  refine tr_aload_n eX7_told_0 rfl ?_
  refine tr_iload_n eX7_told_1 rfl ?_
  refine tr_ce1 eX7_told_2 zv_X7_isVisit zi_X7_isVisit lk_X7_113 ⟨rfl, by decide, by decide⟩ rfl rfl rfl k_X7_isVisit ?_
  refine tr_if_ne eX7_told_5 (fun h5 => ?_) (fun h5 => ?_)
  · skip
    try first | replace h5 := bi_0 h5 | replace h5 := bi_n h5
    have hin := in_has hV hV40 (by decide) h5
    refine tr_iload_n eX7_told_14 rfl ?_
    refine tr_if_lt eX7_told_15 (fun h15 => ?_) (fun h15 => ?_)
    · skip
      refine tr_aload_n eX7_told_28 rfl ?_
      refine tr_iconst eX7_told_29 (nI 3) ci_3 ?_
      refine tr_ce1 eX7_told_30 zv_X7_refuse zi_X7_refuse lk_X7_92 ⟨rfl, by decide, by decide⟩ rfl rfl rfl k_X7_refuse ?_
      try simp (disch := decide) only [up_k, up_s, up_f]
      refine tr_goto eX7_told_33 ?_
      refine tr_ret eX7_told_50 rfl rfl ?_
      refine ⟨?_, ?_⟩ <;> simp (disch := decide) only [s_told, PE, psh, up_c0, up_65, s_nst, s_nvi, s_kind_aM, s_wing_aM, s_in_aM, s_out_aM, s_need_aM, s_unk_aM, s_put_aM, aM_0, aM_1, aM_2, aM_3, aM_4, aM_5, aM_6, aM_7, aM_8, aM_9, aM_f0_3, aM_f0_4, aM_f0_5, aM_f0_6, aM_f0_8, aM_f0_7, aM_f0_0, aM_f0_1, aM_f0_2, aM_f0_34, aM_f0_24, aM_f0_26, aM_f0_29, aM_f0_30, aM_u, aM_k, aM_s] <;> simp_all [s_rf, s_gr, s_dn, s_al, n0, le_nlt, -Int32.not_lt, -Int32.not_le]
    · skip
      refine tr_iload_n eX7_told_18 rfl ?_
      refine tr_aload_n eX7_told_19 rfl ?_
      refine tr_getR eX7_told_20 fk_X7_44 rfl rfl ?_
      refine tr_iload_n eX7_told_23 rfl ?_
      refine tr_iald eX7_told_24 rfl (by first | with_reducible assumption | with_reducible exact in_slot (by with_reducible assumption) (by with_reducible assumption) | with_reducible exact in_row _ (by decide) (by with_reducible assumption) | with_reducible exact in_row0 (by with_reducible assumption) | with_reducible exact in_slot0 (by with_reducible assumption) | (simp (disch := decide) only [up_k, up_s, up_f] <;> with_reducible assumption)) ?_
      refine tr_icmp_lt eX7_told_25 (fun h25 => ?_) (fun h25 => ?_)
      · skip
        have hin2 := in_told hin hL h15 h25
        refine tr_aload_n eX7_told_36 rfl ?_
        refine tr_aload_n eX7_told_37 rfl ?_
        refine tr_getR eX7_told_38 fk_X7_47 rfl rfl ?_
        refine tr_iconst eX7_told_41 (nI 5) ci_5 ?_
        refine tr_iload_n eX7_told_42 rfl ?_
        refine tr_imulC eX7_told_43 ?_
        refine tr_iload_n eX7_told_44 rfl ?_
        refine tr_iadd eX7_told_45 ?_
        refine tr_iald eX7_told_46 rfl (by first | with_reducible assumption | with_reducible exact in_slot (by with_reducible assumption) (by with_reducible assumption) | with_reducible exact in_row _ (by decide) (by with_reducible assumption) | with_reducible exact in_row0 (by with_reducible assumption) | with_reducible exact in_slot0 (by with_reducible assumption) | (simp (disch := decide) only [up_k, up_s, up_f] <;> with_reducible assumption)) ?_
        refine tr_ce1 eX7_told_47 zv_X7_gives zi_X7_gives lk_X7_96 ⟨rfl, by decide, by decide⟩ rfl rfl rfl k_X7_gives ?_
        try simp (disch := decide) only [up_k, up_s, up_f]
        refine tr_ret eX7_told_50 rfl rfl ?_
        refine ⟨?_, ?_⟩ <;> simp (disch := decide) only [s_told, PE, psh, up_c0, up_65, s_nst, s_nvi, s_kind_aM, s_wing_aM, s_in_aM, s_out_aM, s_need_aM, s_unk_aM, s_put_aM, aM_0, aM_1, aM_2, aM_3, aM_4, aM_5, aM_6, aM_7, aM_8, aM_9, aM_f0_3, aM_f0_4, aM_f0_5, aM_f0_6, aM_f0_8, aM_f0_7, aM_f0_0, aM_f0_1, aM_f0_2, aM_f0_34, aM_f0_24, aM_f0_26, aM_f0_29, aM_f0_30, aM_u, aM_k, aM_s] <;> simp_all [s_rf, s_gr, s_dn, s_al, n0, le_nlt, -Int32.not_lt, -Int32.not_le]
      · skip
        refine tr_aload_n eX7_told_28 rfl ?_
        refine tr_iconst eX7_told_29 (nI 3) ci_3 ?_
        refine tr_ce1 eX7_told_30 zv_X7_refuse zi_X7_refuse lk_X7_92 ⟨rfl, by decide, by decide⟩ rfl rfl rfl k_X7_refuse ?_
        try simp (disch := decide) only [up_k, up_s, up_f]
        refine tr_goto eX7_told_33 ?_
        refine tr_ret eX7_told_50 rfl rfl ?_
        refine ⟨?_, ?_⟩ <;> simp (disch := decide) only [s_told, PE, psh, up_c0, up_65, s_nst, s_nvi, s_kind_aM, s_wing_aM, s_in_aM, s_out_aM, s_need_aM, s_unk_aM, s_put_aM, aM_0, aM_1, aM_2, aM_3, aM_4, aM_5, aM_6, aM_7, aM_8, aM_9, aM_f0_3, aM_f0_4, aM_f0_5, aM_f0_6, aM_f0_8, aM_f0_7, aM_f0_0, aM_f0_1, aM_f0_2, aM_f0_34, aM_f0_24, aM_f0_26, aM_f0_29, aM_f0_30, aM_u, aM_k, aM_s] <;> simp_all [s_rf, s_gr, s_dn, s_al, n0, le_nlt, -Int32.not_lt, -Int32.not_le]
  · skip
    try first | replace h5 := bi_0 h5 | replace h5 := bi_n h5
    refine tr_aload_n eX7_told_8 rfl ?_
    refine tr_iconst eX7_told_9 (nI 2) ci_2 ?_
    refine tr_ce1 eX7_told_10 zv_X7_refuse zi_X7_refuse lk_X7_92 ⟨rfl, by decide, by decide⟩ rfl rfl rfl k_X7_refuse ?_
    try simp (disch := decide) only [up_k, up_s, up_f]
    refine tr_ret eX7_told_13 rfl rfl ?_
    refine ⟨?_, ?_⟩ <;> simp (disch := decide) only [s_told, PE, psh, up_c0, up_65, s_nst, s_nvi, s_kind_aM, s_wing_aM, s_in_aM, s_out_aM, s_need_aM, s_unk_aM, s_put_aM, aM_0, aM_1, aM_2, aM_3, aM_4, aM_5, aM_6, aM_7, aM_8, aM_9, aM_f0_3, aM_f0_4, aM_f0_5, aM_f0_6, aM_f0_8, aM_f0_7, aM_f0_0, aM_f0_1, aM_f0_2, aM_f0_34, aM_f0_24, aM_f0_26, aM_f0_29, aM_f0_30, aM_u, aM_k, aM_s] <;> simp_all [s_rf, s_gr, s_dn, s_al, n0, le_nlt, -Int32.not_lt, -Int32.not_le]

theorem k_X6_tear {σ : tSt} {nS nP nC nV : Nat} {v k : Int32} (hI : iN (aX σ) nS nP nC nV) : CT mX6_tear [.ref 0, .int v, .int k] σ (QX σ (s_tear (aX σ) v k)) := by
  have hS := hI.1.1
  rw [aX_0] at hS
  have hP := hI.2.1.1
  rw [aX_1] at hP
  have hC := hI.2.2.1.1
  rw [aX_2] at hC
  have hV := hI.2.2.2.1
  rw [aX_3] at hV
  have hS24 := hI.1.2
  have hP40 := hI.2.1.2
  have hC20 := hI.2.2.1.2
  have hV40 := hI.2.2.2.2
  refine CT.of2 0 (by decide) rfl rfl ?_
  refine tr_aload_n eX6_tear_0 rfl ?_
  refine tr_getR eX6_tear_1 fk_X6_19 rfl rfl ?_
  refine tr_iload_n eX6_tear_4 rfl ?_
  refine tr_ce1 eX6_tear_5 zv_X5_has zi_X5_has lk_X6_131 ⟨rfl, by decide, by decide⟩ rfl rfl rfl k_X5_has ?_
  refine tr_if_ne eX6_tear_8 (fun h8 => ?_) (fun h8 => ?_)
  · skip
    try first | replace h8 := bi_0 h8 | replace h8 := bi_n h8
    have hin := in_has hV hV40 (by decide) h8
    refine tr_iload_n eX6_tear_17 rfl ?_
    refine tr_iconst eX6_tear_18 (nI 0) ci_0 ?_
    refine tr_aload_n eX6_tear_19 rfl ?_
    refine tr_getR eX6_tear_20 fk_X6_19 rfl rfl ?_
    refine tr_getR eX6_tear_23 fk_X6_134 rfl rfl ?_
    refine tr_iload_n eX6_tear_26 rfl ?_
    refine tr_iald eX6_tear_27 rfl (by first | with_reducible assumption | with_reducible exact in_slot (by with_reducible assumption) (by with_reducible assumption) | with_reducible exact in_row _ (by decide) (by with_reducible assumption) | with_reducible exact in_row0 (by with_reducible assumption) | with_reducible exact in_slot0 (by with_reducible assumption) | (simp (disch := decide) only [up_k, up_s, up_f] <;> with_reducible assumption)) ?_
    refine tr_se3 eX6_tear_28 zv_X6_isWithin zs_X6_isWithin lk_X6_70 ⟨rfl, by decide, by decide⟩ rfl k_X6_isWithin ?_
    refine tr_if_ne eX6_tear_31 (fun h31 => ?_) (fun h31 => ?_)
    · skip
      try first | replace h31 := bi_0 h31 | replace h31 := bi_n h31
      refine tr_aload_n eX6_tear_40 rfl ?_
      refine tr_getR eX6_tear_41 fk_X6_19 rfl rfl ?_
      refine tr_iload_n eX6_tear_44 rfl ?_
      refine tr_ce1 eX6_tear_45 zv_X5_isPut zi_X5_isPut lk_X6_137 ⟨rfl, by decide, by decide⟩ rfl rfl rfl (k_X5_isPut (by first | with_reducible assumption | with_reducible exact in_slot (by with_reducible assumption) (by with_reducible assumption) | with_reducible exact in_row _ (by decide) (by with_reducible assumption) | with_reducible exact in_row0 (by with_reducible assumption) | with_reducible exact in_slot0 (by with_reducible assumption) | (simp (disch := decide) only [up_k, up_s, up_f] <;> with_reducible assumption))) ?_
      refine tr_if_eq eX6_tear_48 (fun h48 => ?_) (fun h48 => ?_)
      · skip
        try first | replace h48 := bi_0 h48 | replace h48 := bi_n h48
        refine tr_aload_n eX6_tear_58 rfl ?_
        refine tr_getR eX6_tear_59 fk_X6_19 rfl rfl ?_
        refine tr_getR eX6_tear_62 fk_X6_134 rfl rfl ?_
        refine tr_iload_n eX6_tear_65 rfl ?_
        refine tr_iload_n eX6_tear_66 rfl ?_
        refine tr_iast eX6_tear_67 rfl (by first | with_reducible assumption | with_reducible exact in_slot (by with_reducible assumption) (by with_reducible assumption) | with_reducible exact in_row _ (by decide) (by with_reducible assumption) | with_reducible exact in_row0 (by with_reducible assumption) | with_reducible exact in_slot0 (by with_reducible assumption) | (simp (disch := decide) only [up_k, up_s, up_f] <;> with_reducible assumption)) ?_
        refine tr_aload_n eX6_tear_68 rfl ?_
        refine tr_ce0 eX6_tear_69 zv_X6_allow zi_X6_allow lk_X6_120 ⟨rfl, by decide, by decide⟩ rfl rfl rfl k_X6_allow ?_
        try simp (disch := decide) only [up_k, up_s, up_f]
        refine tr_ret eX6_tear_72 rfl (by first | rfl | exact nar_bi _) ?_
        refine ⟨?_, ?_, rfl⟩ <;> simp (disch := decide) only [s_tear, PE, psh, s_nst, s_nvi, s_kind_aX, s_wing_aX, s_in_aX, s_out_aX, s_need_aX, s_unk_aX, s_put_aX, aX_0, aX_1, aX_2, aX_3, aX_4, aX_5, aX_6, aX_7, aX_8, aX_9, aX_f17_9, aX_f17_10, aX_f17_11, aX_f18_6, aX_f18_7, aX_f0_6, aX_f0_7, aX_f0_8, aX_f0_9, aX_f25_1, aX_u, aX_k, aX_s] <;> simp_all [s_rf, s_gr, s_dn, s_al, n0, le_nlt, -Int32.not_lt, -Int32.not_le]
      · skip
        try first | replace h48 := bi_0 h48 | replace h48 := bi_n h48
        refine tr_aload_n eX6_tear_51 rfl ?_
        refine tr_bipush eX6_tear_52 (nI 6) (by decide) ?_
        refine tr_ce1 eX6_tear_54 zv_X6_deny zi_X6_deny lk_X6_117 ⟨rfl, by decide, by decide⟩ rfl rfl rfl k_X6_deny ?_
        try simp (disch := decide) only [up_k, up_s, up_f]
        refine tr_ret eX6_tear_57 rfl (by first | rfl | exact nar_bi _) ?_
        refine ⟨?_, ?_, rfl⟩ <;> simp (disch := decide) only [s_tear, PE, psh, s_nst, s_nvi, s_kind_aX, s_wing_aX, s_in_aX, s_out_aX, s_need_aX, s_unk_aX, s_put_aX, aX_0, aX_1, aX_2, aX_3, aX_4, aX_5, aX_6, aX_7, aX_8, aX_9, aX_f17_9, aX_f17_10, aX_f17_11, aX_f18_6, aX_f18_7, aX_f0_6, aX_f0_7, aX_f0_8, aX_f0_9, aX_f25_1, aX_u, aX_k, aX_s] <;> simp_all [s_rf, s_gr, s_dn, s_al, n0, le_nlt, -Int32.not_lt, -Int32.not_le]
    · skip
      try first | replace h31 := bi_0 h31 | replace h31 := bi_n h31
      refine tr_aload_n eX6_tear_34 rfl ?_
      refine tr_iconst eX6_tear_35 (nI 3) ci_3 ?_
      refine tr_ce1 eX6_tear_36 zv_X6_deny zi_X6_deny lk_X6_117 ⟨rfl, by decide, by decide⟩ rfl rfl rfl k_X6_deny ?_
      try simp (disch := decide) only [up_k, up_s, up_f]
      refine tr_ret eX6_tear_39 rfl (by first | rfl | exact nar_bi _) ?_
      refine ⟨?_, ?_, rfl⟩ <;> simp (disch := decide) only [s_tear, PE, psh, s_nst, s_nvi, s_kind_aX, s_wing_aX, s_in_aX, s_out_aX, s_need_aX, s_unk_aX, s_put_aX, aX_0, aX_1, aX_2, aX_3, aX_4, aX_5, aX_6, aX_7, aX_8, aX_9, aX_f17_9, aX_f17_10, aX_f17_11, aX_f18_6, aX_f18_7, aX_f0_6, aX_f0_7, aX_f0_8, aX_f0_9, aX_f25_1, aX_u, aX_k, aX_s] <;> simp_all [s_rf, s_gr, s_dn, s_al, n0, le_nlt, -Int32.not_lt, -Int32.not_le]
  · skip
    try first | replace h8 := bi_0 h8 | replace h8 := bi_n h8
    refine tr_aload_n eX6_tear_11 rfl ?_
    refine tr_iconst eX6_tear_12 (nI 2) ci_2 ?_
    refine tr_ce1 eX6_tear_13 zv_X6_deny zi_X6_deny lk_X6_117 ⟨rfl, by decide, by decide⟩ rfl rfl rfl k_X6_deny ?_
    try simp (disch := decide) only [up_k, up_s, up_f]
    refine tr_ret eX6_tear_16 rfl (by first | rfl | exact nar_bi _) ?_
    refine ⟨?_, ?_, rfl⟩ <;> simp (disch := decide) only [s_tear, PE, psh, s_nst, s_nvi, s_kind_aX, s_wing_aX, s_in_aX, s_out_aX, s_need_aX, s_unk_aX, s_put_aX, aX_0, aX_1, aX_2, aX_3, aX_4, aX_5, aX_6, aX_7, aX_8, aX_9, aX_f17_9, aX_f17_10, aX_f17_11, aX_f18_6, aX_f18_7, aX_f0_6, aX_f0_7, aX_f0_8, aX_f0_9, aX_f25_1, aX_u, aX_k, aX_s] <;> simp_all [s_rf, s_gr, s_dn, s_al, n0, le_nlt, -Int32.not_lt, -Int32.not_le]

theorem k_X7_tear {τ : tSt} {nS nP nC nV : Nat} {v k : Int32} (hI : iN (aM τ) nS nP nC nV) : CT mX7_tear [.ref 0, .int v, .int k] τ (QM (s_tear (aM τ) v k)) := by
  have hS := hI.1.1
  rw [aM_0] at hS
  have hP := hI.2.1.1
  rw [aM_1] at hP
  have hC := hI.2.2.1.1
  rw [aM_2] at hC
  have hV := hI.2.2.2.1
  rw [aM_3] at hV
  have hS24 := hI.1.2
  have hP40 := hI.2.1.2
  have hC20 := hI.2.2.1.2
  have hV40 := hI.2.2.2.2
  refine CT.of2 0 (by decide) rfl rfl ?_
  refine tr_aload_n eX7_tear_0 rfl ?_
  refine tr_aload_n eX7_tear_1 rfl ?_
  refine tr_iload_n eX7_tear_2 rfl ?_
  refine tr_ce1 eX7_tear_3 zv_X7_isVisit zi_X7_isVisit lk_X7_113 ⟨rfl, by decide, by decide⟩ rfl rfl rfl k_X7_isVisit ?_
  refine tr_if_ne eX7_tear_6 (fun h6 => ?_) (fun h6 => ?_)
  · skip
    try first | replace h6 := bi_0 h6 | replace h6 := bi_n h6
    have hin := in_has hV hV40 (by decide) h6
    refine tr_iload_n eX7_tear_13 rfl ?_
    refine tr_if_lt eX7_tear_14 (fun h14 => ?_) (fun h14 => ?_)
    · skip
      refine tr_iconst eX7_tear_27 (nI 3) ci_3 ?_
      refine tr_goto eX7_tear_28 ?_
      refine tr_put eX7_tear_45 fp_X7_80 rfl rfl ?_
      refine tr_aload_n eX7_tear_48 rfl ?_
      refine tr_getI eX7_tear_49 fk_X7_80 rfl rfl ?_
      try simp (disch := decide) only [up_k, up_s, up_f]
      refine tr_if_ne eX7_tear_52 (fun _ => ?_) (fun h52 => absurd h52 (by decide))
      refine tr_aload_n eX7_tear_62 rfl ?_
      refine tr_getI eX7_tear_63 fk_X7_80 rfl rfl ?_
      try simp (disch := decide) only [up_k, up_s, up_f]
      refine tr_if_ne eX7_tear_66 (fun _ => ?_) (fun h66 => absurd h66 (by decide))
      refine tr_iconst eX7_tear_73 (nI 0) ci_0 ?_
      refine tr_ret eX7_tear_74 rfl (by first | rfl | exact nar_bi _) ?_
      refine ⟨?_, ?_⟩ <;> simp (disch := decide) only [s_tear, PE, psh, up_c0, up_65, s_nst, s_nvi, s_kind_aM, s_wing_aM, s_in_aM, s_out_aM, s_need_aM, s_unk_aM, s_put_aM, aM_0, aM_1, aM_2, aM_3, aM_4, aM_5, aM_6, aM_7, aM_8, aM_9, aM_f0_3, aM_f0_4, aM_f0_5, aM_f0_6, aM_f0_8, aM_f0_7, aM_f0_0, aM_f0_1, aM_f0_2, aM_f0_34, aM_f0_24, aM_f0_26, aM_f0_29, aM_f0_30, aM_u, aM_k, aM_s] <;> simp_all [s_rf, s_gr, s_dn, s_al, n0, le_nlt, -Int32.not_lt, -Int32.not_le]
    · skip
      refine tr_iload_n eX7_tear_17 rfl ?_
      refine tr_aload_n eX7_tear_18 rfl ?_
      refine tr_getR eX7_tear_19 fk_X7_44 rfl rfl ?_
      refine tr_iload_n eX7_tear_22 rfl ?_
      refine tr_iald eX7_tear_23 rfl (by first | with_reducible assumption | with_reducible exact in_slot (by with_reducible assumption) (by with_reducible assumption) | with_reducible exact in_row _ (by decide) (by with_reducible assumption) | with_reducible exact in_row0 (by with_reducible assumption) | with_reducible exact in_slot0 (by with_reducible assumption) | (simp (disch := decide) only [up_k, up_s, up_f] <;> with_reducible assumption)) ?_
      refine tr_icmp_le eX7_tear_24 (fun h24 => ?_) (fun h24 => ?_)
      · skip
        refine tr_aload_n eX7_tear_31 rfl ?_
        refine tr_iload_n eX7_tear_32 rfl ?_
        refine tr_ce1 eX7_tear_33 zv_X7_isPut zi_X7_isPut lk_X7_116 ⟨rfl, by decide, by decide⟩ rfl rfl rfl (k_X7_isPut (by first | with_reducible assumption | with_reducible exact in_slot (by with_reducible assumption) (by with_reducible assumption) | with_reducible exact in_row _ (by decide) (by with_reducible assumption) | with_reducible exact in_row0 (by with_reducible assumption) | with_reducible exact in_slot0 (by with_reducible assumption) | (simp (disch := decide) only [up_k, up_s, up_f] <;> with_reducible assumption))) ?_
        refine tr_if_eq eX7_tear_36 (fun h36 => ?_) (fun h36 => ?_)
        · skip
          try first | replace h36 := bi_0 h36 | replace h36 := bi_n h36
          refine tr_iconst eX7_tear_44 (nI 0) ci_0 ?_
          refine tr_put eX7_tear_45 fp_X7_80 rfl rfl ?_
          refine tr_aload_n eX7_tear_48 rfl ?_
          refine tr_getI eX7_tear_49 fk_X7_80 rfl rfl ?_
          try simp (disch := decide) only [up_k, up_s, up_f]
          refine tr_if_ne eX7_tear_52 (fun h52 => absurd h52 (by decide)) (fun _ => ?_)
          refine tr_aload_n eX7_tear_55 rfl ?_
          refine tr_getR eX7_tear_56 fk_X7_44 rfl rfl ?_
          refine tr_iload_n eX7_tear_59 rfl ?_
          refine tr_iload_n eX7_tear_60 rfl ?_
          refine tr_iast eX7_tear_61 rfl (by first | with_reducible assumption | with_reducible exact in_slot (by with_reducible assumption) (by with_reducible assumption) | with_reducible exact in_row _ (by decide) (by with_reducible assumption) | with_reducible exact in_row0 (by with_reducible assumption) | with_reducible exact in_slot0 (by with_reducible assumption) | (simp (disch := decide) only [up_k, up_s, up_f] <;> with_reducible assumption)) ?_
          refine tr_aload_n eX7_tear_62 rfl ?_
          refine tr_getI eX7_tear_63 fk_X7_80 rfl rfl ?_
          try simp (disch := decide) only [up_k, up_s, up_f]
          refine tr_if_ne eX7_tear_66 (fun h66 => absurd h66 (by decide)) (fun _ => ?_)
          refine tr_iconst eX7_tear_69 (nI 1) ci_1 ?_
          refine tr_goto eX7_tear_70 ?_
          refine tr_ret eX7_tear_74 rfl (by first | rfl | exact nar_bi _) ?_
          refine ⟨?_, ?_⟩ <;> simp (disch := decide) only [s_tear, PE, psh, up_c0, up_65, s_nst, s_nvi, s_kind_aM, s_wing_aM, s_in_aM, s_out_aM, s_need_aM, s_unk_aM, s_put_aM, aM_0, aM_1, aM_2, aM_3, aM_4, aM_5, aM_6, aM_7, aM_8, aM_9, aM_f0_3, aM_f0_4, aM_f0_5, aM_f0_6, aM_f0_8, aM_f0_7, aM_f0_0, aM_f0_1, aM_f0_2, aM_f0_34, aM_f0_24, aM_f0_26, aM_f0_29, aM_f0_30, aM_u, aM_k, aM_s] <;> simp_all [s_rf, s_gr, s_dn, s_al, n0, le_nlt, -Int32.not_lt, -Int32.not_le]
        · skip
          try first | replace h36 := bi_0 h36 | replace h36 := bi_n h36
          refine tr_bipush eX7_tear_39 (nI 6) (by decide) ?_
          refine tr_goto eX7_tear_41 ?_
          refine tr_put eX7_tear_45 fp_X7_80 rfl rfl ?_
          refine tr_aload_n eX7_tear_48 rfl ?_
          refine tr_getI eX7_tear_49 fk_X7_80 rfl rfl ?_
          try simp (disch := decide) only [up_k, up_s, up_f]
          refine tr_if_ne eX7_tear_52 (fun _ => ?_) (fun h52 => absurd h52 (by decide))
          refine tr_aload_n eX7_tear_62 rfl ?_
          refine tr_getI eX7_tear_63 fk_X7_80 rfl rfl ?_
          try simp (disch := decide) only [up_k, up_s, up_f]
          refine tr_if_ne eX7_tear_66 (fun _ => ?_) (fun h66 => absurd h66 (by decide))
          refine tr_iconst eX7_tear_73 (nI 0) ci_0 ?_
          refine tr_ret eX7_tear_74 rfl (by first | rfl | exact nar_bi _) ?_
          refine ⟨?_, ?_⟩ <;> simp (disch := decide) only [s_tear, PE, psh, up_c0, up_65, s_nst, s_nvi, s_kind_aM, s_wing_aM, s_in_aM, s_out_aM, s_need_aM, s_unk_aM, s_put_aM, aM_0, aM_1, aM_2, aM_3, aM_4, aM_5, aM_6, aM_7, aM_8, aM_9, aM_f0_3, aM_f0_4, aM_f0_5, aM_f0_6, aM_f0_8, aM_f0_7, aM_f0_0, aM_f0_1, aM_f0_2, aM_f0_34, aM_f0_24, aM_f0_26, aM_f0_29, aM_f0_30, aM_u, aM_k, aM_s] <;> simp_all [s_rf, s_gr, s_dn, s_al, n0, le_nlt, -Int32.not_lt, -Int32.not_le]
      · skip
        refine tr_iconst eX7_tear_27 (nI 3) ci_3 ?_
        refine tr_goto eX7_tear_28 ?_
        refine tr_put eX7_tear_45 fp_X7_80 rfl rfl ?_
        refine tr_aload_n eX7_tear_48 rfl ?_
        refine tr_getI eX7_tear_49 fk_X7_80 rfl rfl ?_
        try simp (disch := decide) only [up_k, up_s, up_f]
        refine tr_if_ne eX7_tear_52 (fun _ => ?_) (fun h52 => absurd h52 (by decide))
        refine tr_aload_n eX7_tear_62 rfl ?_
        refine tr_getI eX7_tear_63 fk_X7_80 rfl rfl ?_
        try simp (disch := decide) only [up_k, up_s, up_f]
        refine tr_if_ne eX7_tear_66 (fun _ => ?_) (fun h66 => absurd h66 (by decide))
        refine tr_iconst eX7_tear_73 (nI 0) ci_0 ?_
        refine tr_ret eX7_tear_74 rfl (by first | rfl | exact nar_bi _) ?_
        refine ⟨?_, ?_⟩ <;> simp (disch := decide) only [s_tear, PE, psh, up_c0, up_65, s_nst, s_nvi, s_kind_aM, s_wing_aM, s_in_aM, s_out_aM, s_need_aM, s_unk_aM, s_put_aM, aM_0, aM_1, aM_2, aM_3, aM_4, aM_5, aM_6, aM_7, aM_8, aM_9, aM_f0_3, aM_f0_4, aM_f0_5, aM_f0_6, aM_f0_8, aM_f0_7, aM_f0_0, aM_f0_1, aM_f0_2, aM_f0_34, aM_f0_24, aM_f0_26, aM_f0_29, aM_f0_30, aM_u, aM_k, aM_s] <;> simp_all [s_rf, s_gr, s_dn, s_al, n0, le_nlt, -Int32.not_lt, -Int32.not_le]
  · skip
    try first | replace h6 := bi_0 h6 | replace h6 := bi_n h6
    refine tr_iconst eX7_tear_9 (nI 2) ci_2 ?_
    refine tr_goto eX7_tear_10 ?_
    refine tr_put eX7_tear_45 fp_X7_80 rfl rfl ?_
    refine tr_aload_n eX7_tear_48 rfl ?_
    refine tr_getI eX7_tear_49 fk_X7_80 rfl rfl ?_
    try simp (disch := decide) only [up_k, up_s, up_f]
    refine tr_if_ne eX7_tear_52 (fun _ => ?_) (fun h52 => absurd h52 (by decide))
    refine tr_aload_n eX7_tear_62 rfl ?_
    refine tr_getI eX7_tear_63 fk_X7_80 rfl rfl ?_
    try simp (disch := decide) only [up_k, up_s, up_f]
    refine tr_if_ne eX7_tear_66 (fun _ => ?_) (fun h66 => absurd h66 (by decide))
    refine tr_iconst eX7_tear_73 (nI 0) ci_0 ?_
    refine tr_ret eX7_tear_74 rfl (by first | rfl | exact nar_bi _) ?_
    refine ⟨?_, ?_⟩ <;> simp (disch := decide) only [s_tear, PE, psh, up_c0, up_65, s_nst, s_nvi, s_kind_aM, s_wing_aM, s_in_aM, s_out_aM, s_need_aM, s_unk_aM, s_put_aM, aM_0, aM_1, aM_2, aM_3, aM_4, aM_5, aM_6, aM_7, aM_8, aM_9, aM_f0_3, aM_f0_4, aM_f0_5, aM_f0_6, aM_f0_8, aM_f0_7, aM_f0_0, aM_f0_1, aM_f0_2, aM_f0_34, aM_f0_24, aM_f0_26, aM_f0_29, aM_f0_30, aM_u, aM_k, aM_s] <;> simp_all [s_rf, s_gr, s_dn, s_al, n0, le_nlt, -Int32.not_lt, -Int32.not_le]

theorem k_X6_stays {σ : tSt} {nS nP nC nV : Nat} {v : Int32} (hI : iN (aX σ) nS nP nC nV) : CT mX6_stays [.ref 0, .int v] σ (QX σ (s_stays (aX σ) v)) := by
  have hS := hI.1.1
  rw [aX_0] at hS
  have hP := hI.2.1.1
  rw [aX_1] at hP
  have hC := hI.2.2.1.1
  rw [aX_2] at hC
  have hV := hI.2.2.2.1
  rw [aX_3] at hV
  have hS24 := hI.1.2
  have hP40 := hI.2.1.2
  have hC20 := hI.2.2.1.2
  have hV40 := hI.2.2.2.2
  refine CT.of2 0 (by decide) rfl rfl ?_
  refine tr_aload_n eX6_stays_0 rfl ?_
  refine tr_getR eX6_stays_1 fk_X6_19 rfl rfl ?_
  refine tr_iload_n eX6_stays_4 rfl ?_
  refine tr_ce1 eX6_stays_5 zv_X5_has zi_X5_has lk_X6_131 ⟨rfl, by decide, by decide⟩ rfl rfl rfl k_X5_has ?_
  refine tr_if_eq eX6_stays_8 (fun h8 => ?_) (fun h8 => ?_)
  · skip
    try first | replace h8 := bi_0 h8 | replace h8 := bi_n h8
    refine tr_aload_n eX6_stays_27 rfl ?_
    refine tr_iconst eX6_stays_28 (nI 2) ci_2 ?_
    refine tr_ce1 eX6_stays_29 zv_X6_refuse zi_X6_refuse lk_X6_74 ⟨rfl, by decide, by decide⟩ rfl rfl rfl k_X6_refuse ?_
    try simp (disch := decide) only [up_k, up_s, up_f]
    refine tr_ret eX6_stays_32 rfl rfl ?_
    refine ⟨?_, ?_, rfl⟩ <;> simp (disch := decide) only [s_stays, PE, psh, s_nst, s_nvi, s_kind_aX, s_wing_aX, s_in_aX, s_out_aX, s_need_aX, s_unk_aX, s_put_aX, aX_0, aX_1, aX_2, aX_3, aX_4, aX_5, aX_6, aX_7, aX_8, aX_9, aX_f17_9, aX_f17_10, aX_f17_11, aX_f18_6, aX_f18_7, aX_f0_6, aX_f0_7, aX_f0_8, aX_f0_9, aX_f25_1, aX_u, aX_k, aX_s] <;> simp_all [s_rf, s_gr, s_dn, s_al, n0, le_nlt, -Int32.not_lt, -Int32.not_le]
  · skip
    try first | replace h8 := bi_0 h8 | replace h8 := bi_n h8
    have hin := in_has hV hV40 (by decide) h8
    refine tr_aload_n eX6_stays_11 rfl ?_
    refine tr_aload_n eX6_stays_12 rfl ?_
    refine tr_getR eX6_stays_13 fk_X6_19 rfl rfl ?_
    refine tr_getR eX6_stays_16 fk_X6_251 rfl rfl ?_
    refine tr_iload_n eX6_stays_19 rfl ?_
    refine tr_iald eX6_stays_20 rfl (by first | with_reducible assumption | with_reducible exact in_slot (by with_reducible assumption) (by with_reducible assumption) | with_reducible exact in_row _ (by decide) (by with_reducible assumption) | with_reducible exact in_row0 (by with_reducible assumption) | with_reducible exact in_slot0 (by with_reducible assumption) | (simp (disch := decide) only [up_k, up_s, up_f] <;> with_reducible assumption)) ?_
    refine tr_ce1 eX6_stays_21 zv_X6_grant zi_X6_grant lk_X6_85 ⟨rfl, by decide, by decide⟩ rfl rfl rfl k_X6_grant ?_
    try simp (disch := decide) only [up_k, up_s, up_f]
    refine tr_goto eX6_stays_24 ?_
    refine tr_ret eX6_stays_32 rfl rfl ?_
    refine ⟨?_, ?_, rfl⟩ <;> simp (disch := decide) only [s_stays, PE, psh, s_nst, s_nvi, s_kind_aX, s_wing_aX, s_in_aX, s_out_aX, s_need_aX, s_unk_aX, s_put_aX, aX_0, aX_1, aX_2, aX_3, aX_4, aX_5, aX_6, aX_7, aX_8, aX_9, aX_f17_9, aX_f17_10, aX_f17_11, aX_f18_6, aX_f18_7, aX_f0_6, aX_f0_7, aX_f0_8, aX_f0_9, aX_f25_1, aX_u, aX_k, aX_s] <;> simp_all [s_rf, s_gr, s_dn, s_al, n0, le_nlt, -Int32.not_lt, -Int32.not_le]

theorem k_X7_stays {τ : tSt} {nS nP nC nV : Nat} {v : Int32} (hI : iN (aM τ) nS nP nC nV) : CT mX7_stays [.ref 0, .int v] τ (QM (s_stays (aM τ) v)) := by
  have hS := hI.1.1
  rw [aM_0] at hS
  have hP := hI.2.1.1
  rw [aM_1] at hP
  have hC := hI.2.2.1.1
  rw [aM_2] at hC
  have hV := hI.2.2.2.1
  rw [aM_3] at hV
  have hS24 := hI.1.2
  have hP40 := hI.2.1.2
  have hC20 := hI.2.2.1.2
  have hV40 := hI.2.2.2.2
  refine CT.of2 0 (by decide) rfl rfl ?_
  refine tr_aload_n eX7_stays_0 rfl ?_
  refine tr_iload_n eX7_stays_1 rfl ?_
  refine tr_ce1 eX7_stays_2 zv_X7_isVisit zi_X7_isVisit lk_X7_113 ⟨rfl, by decide, by decide⟩ rfl rfl rfl k_X7_isVisit ?_
  refine tr_if_eq eX7_stays_5 (fun h5 => ?_) (fun h5 => ?_)
  · skip
    try first | replace h5 := bi_0 h5 | replace h5 := bi_n h5
    refine tr_aload_n eX7_stays_21 rfl ?_
    refine tr_iconst eX7_stays_22 (nI 2) ci_2 ?_
    refine tr_ce1 eX7_stays_23 zv_X7_refuse zi_X7_refuse lk_X7_92 ⟨rfl, by decide, by decide⟩ rfl rfl rfl k_X7_refuse ?_
    try simp (disch := decide) only [up_k, up_s, up_f]
    refine tr_ret eX7_stays_26 rfl rfl ?_
    refine ⟨?_, ?_⟩ <;> simp (disch := decide) only [s_stays, PE, psh, up_c0, up_65, s_nst, s_nvi, s_kind_aM, s_wing_aM, s_in_aM, s_out_aM, s_need_aM, s_unk_aM, s_put_aM, aM_0, aM_1, aM_2, aM_3, aM_4, aM_5, aM_6, aM_7, aM_8, aM_9, aM_f0_3, aM_f0_4, aM_f0_5, aM_f0_6, aM_f0_8, aM_f0_7, aM_f0_0, aM_f0_1, aM_f0_2, aM_f0_34, aM_f0_24, aM_f0_26, aM_f0_29, aM_f0_30, aM_u, aM_k, aM_s] <;> simp_all [s_rf, s_gr, s_dn, s_al, n0, le_nlt, -Int32.not_lt, -Int32.not_le]
  · skip
    try first | replace h5 := bi_0 h5 | replace h5 := bi_n h5
    have hin := in_has hV hV40 (by decide) h5
    refine tr_aload_n eX7_stays_8 rfl ?_
    refine tr_aload_n eX7_stays_9 rfl ?_
    refine tr_getR eX7_stays_10 fk_X7_50 rfl rfl ?_
    refine tr_iload_n eX7_stays_13 rfl ?_
    refine tr_iald eX7_stays_14 rfl (by first | with_reducible assumption | with_reducible exact in_slot (by with_reducible assumption) (by with_reducible assumption) | with_reducible exact in_row _ (by decide) (by with_reducible assumption) | with_reducible exact in_row0 (by with_reducible assumption) | with_reducible exact in_slot0 (by with_reducible assumption) | (simp (disch := decide) only [up_k, up_s, up_f] <;> with_reducible assumption)) ?_
    refine tr_ce1 eX7_stays_15 zv_X7_gives zi_X7_gives lk_X7_96 ⟨rfl, by decide, by decide⟩ rfl rfl rfl k_X7_gives ?_
    try simp (disch := decide) only [up_k, up_s, up_f]
    refine tr_goto eX7_stays_18 ?_
    refine tr_ret eX7_stays_26 rfl rfl ?_
    refine ⟨?_, ?_⟩ <;> simp (disch := decide) only [s_stays, PE, psh, up_c0, up_65, s_nst, s_nvi, s_kind_aM, s_wing_aM, s_in_aM, s_out_aM, s_need_aM, s_unk_aM, s_put_aM, aM_0, aM_1, aM_2, aM_3, aM_4, aM_5, aM_6, aM_7, aM_8, aM_9, aM_f0_3, aM_f0_4, aM_f0_5, aM_f0_6, aM_f0_8, aM_f0_7, aM_f0_0, aM_f0_1, aM_f0_2, aM_f0_34, aM_f0_24, aM_f0_26, aM_f0_29, aM_f0_30, aM_u, aM_k, aM_s] <;> simp_all [s_rf, s_gr, s_dn, s_al, n0, le_nlt, -Int32.not_lt, -Int32.not_le]

theorem k_X6_off {σ : tSt} {nS nP nC nV : Nat} {v : Int32} (hI : iN (aX σ) nS nP nC nV) (hPU : ∀ u : Int32, s_put σ u = true → s_unk σ u = false) : CT mX6_off [.ref 0, .int v] σ (QX σ (s_offp (aX σ) v)) := by
  have hS := hI.1.1
  rw [aX_0] at hS
  have hP := hI.2.1.1
  rw [aX_1] at hP
  have hC := hI.2.2.1.1
  rw [aX_2] at hC
  have hV := hI.2.2.2.1
  rw [aX_3] at hV
  have hS24 := hI.1.2
  have hP40 := hI.2.1.2
  have hC20 := hI.2.2.1.2
  have hV40 := hI.2.2.2.2
  refine CT.of2 0 (by decide) rfl rfl ?_
  refine tr_aload_n eX6_off_0 rfl ?_
  refine tr_getR eX6_off_1 fk_X6_19 rfl rfl ?_
  refine tr_iload_n eX6_off_4 rfl ?_
  refine tr_ce1 eX6_off_5 zv_X5_has zi_X5_has lk_X6_131 ⟨rfl, by decide, by decide⟩ rfl rfl rfl k_X5_has ?_
  refine tr_if_ne eX6_off_8 (fun h8 => ?_) (fun h8 => ?_)
  · skip
    try first | replace h8 := bi_0 h8 | replace h8 := bi_n h8
    have hin := in_has hV hV40 (by decide) h8
    refine tr_aload_n eX6_off_17 rfl ?_
    refine tr_getR eX6_off_18 fk_X6_19 rfl rfl ?_
    refine tr_iload_n eX6_off_21 rfl ?_
    refine tr_ce1 eX6_off_22 zv_X5_isPut zi_X5_isPut lk_X6_137 ⟨rfl, by decide, by decide⟩ rfl rfl rfl (k_X5_isPut (by first | with_reducible assumption | with_reducible exact in_slot (by with_reducible assumption) (by with_reducible assumption) | with_reducible exact in_row _ (by decide) (by with_reducible assumption) | with_reducible exact in_row0 (by with_reducible assumption) | with_reducible exact in_slot0 (by with_reducible assumption) | (simp (disch := decide) only [up_k, up_s, up_f] <;> with_reducible assumption))) ?_
    refine tr_if_ne eX6_off_25 (fun h25 => ?_) (fun h25 => ?_)
    · skip
      try first | replace h25 := bi_0 h25 | replace h25 := bi_n h25
      have hpu := hPU v h25
      clear hPU
      refine tr_aload_n eX6_off_35 rfl ?_
      refine tr_getR eX6_off_36 fk_X6_19 rfl rfl ?_
      refine tr_iload_n eX6_off_39 rfl ?_
      refine tr_ce1 eX6_off_40 zv_X5_hasBegun zi_X5_hasBegun lk_X6_162 ⟨rfl, by decide, by decide⟩ rfl rfl rfl (k_X5_hasBegun (by first | with_reducible assumption | with_reducible exact in_slot (by with_reducible assumption) (by with_reducible assumption) | with_reducible exact in_row _ (by decide) (by with_reducible assumption) | with_reducible exact in_row0 (by with_reducible assumption) | with_reducible exact in_slot0 (by with_reducible assumption) | (simp (disch := decide) only [up_k, up_s, up_f] <;> with_reducible assumption))) ?_
      refine tr_if_eq eX6_off_43 (fun h43 => ?_) (fun h43 => ?_)
      · skip
        try first | replace h43 := bi_0 h43 | replace h43 := bi_n h43
        refine tr_aload_n eX6_off_53 rfl ?_
        refine tr_getR eX6_off_54 fk_X6_19 rfl rfl ?_
        refine tr_iload_n eX6_off_57 rfl ?_
        refine tr_ce1 eX6_off_58 zv_X5_takeOff zi_X5_takeOff lk_X6_165 ⟨rfl, by decide, by decide⟩ rfl rfl rfl (k_X5_takeOff (by first | with_reducible assumption | with_reducible exact in_slot (by with_reducible assumption) (by with_reducible assumption) | with_reducible exact in_row _ (by decide) (by with_reducible assumption) | with_reducible exact in_row0 (by with_reducible assumption) | with_reducible exact in_slot0 (by with_reducible assumption) | (simp (disch := decide) only [up_k, up_s, up_f] <;> with_reducible assumption))) ?_
        try simp (disch := decide) only [up_k, up_s, up_f]
        refine tr_aload_n eX6_off_61 rfl ?_
        refine tr_ce0 eX6_off_62 zv_X6_allow zi_X6_allow lk_X6_120 ⟨rfl, by decide, by decide⟩ rfl rfl rfl k_X6_allow ?_
        try simp (disch := decide) only [up_k, up_s, up_f]
        refine tr_ret eX6_off_65 rfl (by first | rfl | exact nar_bi _) ?_
        refine ⟨?_, ?_, rfl⟩ <;> simp (disch := decide) only [s_offp, PE, psh, s_nst, s_nvi, s_kind_aX, s_wing_aX, s_in_aX, s_out_aX, s_need_aX, s_unk_aX, s_put_aX, aX_0, aX_1, aX_2, aX_3, aX_4, aX_5, aX_6, aX_7, aX_8, aX_9, aX_f17_9, aX_f17_10, aX_f17_11, aX_f18_6, aX_f18_7, aX_f0_6, aX_f0_7, aX_f0_8, aX_f0_9, aX_f25_1, aX_u, aX_k, aX_s] <;> simp_all [s_rf, s_gr, s_dn, s_al, n0, le_nlt, -Int32.not_lt, -Int32.not_le, s_beg]
      · skip
        try first | replace h43 := bi_0 h43 | replace h43 := bi_n h43
        refine tr_aload_n eX6_off_46 rfl ?_
        refine tr_bipush eX6_off_47 (nI 7) (by decide) ?_
        refine tr_ce1 eX6_off_49 zv_X6_deny zi_X6_deny lk_X6_117 ⟨rfl, by decide, by decide⟩ rfl rfl rfl k_X6_deny ?_
        try simp (disch := decide) only [up_k, up_s, up_f]
        refine tr_ret eX6_off_52 rfl (by first | rfl | exact nar_bi _) ?_
        refine ⟨?_, ?_, rfl⟩ <;> simp (disch := decide) only [s_offp, PE, psh, s_nst, s_nvi, s_kind_aX, s_wing_aX, s_in_aX, s_out_aX, s_need_aX, s_unk_aX, s_put_aX, aX_0, aX_1, aX_2, aX_3, aX_4, aX_5, aX_6, aX_7, aX_8, aX_9, aX_f17_9, aX_f17_10, aX_f17_11, aX_f18_6, aX_f18_7, aX_f0_6, aX_f0_7, aX_f0_8, aX_f0_9, aX_f25_1, aX_u, aX_k, aX_s] <;> simp_all [s_rf, s_gr, s_dn, s_al, n0, le_nlt, -Int32.not_lt, -Int32.not_le, s_beg]
    · skip
      try first | replace h25 := bi_0 h25 | replace h25 := bi_n h25
      refine tr_aload_n eX6_off_28 rfl ?_
      refine tr_bipush eX6_off_29 (nI 6) (by decide) ?_
      refine tr_ce1 eX6_off_31 zv_X6_deny zi_X6_deny lk_X6_117 ⟨rfl, by decide, by decide⟩ rfl rfl rfl k_X6_deny ?_
      try simp (disch := decide) only [up_k, up_s, up_f]
      refine tr_ret eX6_off_34 rfl (by first | rfl | exact nar_bi _) ?_
      refine ⟨?_, ?_, rfl⟩ <;> simp (disch := decide) only [s_offp, PE, psh, s_nst, s_nvi, s_kind_aX, s_wing_aX, s_in_aX, s_out_aX, s_need_aX, s_unk_aX, s_put_aX, aX_0, aX_1, aX_2, aX_3, aX_4, aX_5, aX_6, aX_7, aX_8, aX_9, aX_f17_9, aX_f17_10, aX_f17_11, aX_f18_6, aX_f18_7, aX_f0_6, aX_f0_7, aX_f0_8, aX_f0_9, aX_f25_1, aX_u, aX_k, aX_s] <;> simp_all [s_rf, s_gr, s_dn, s_al, n0, le_nlt, -Int32.not_lt, -Int32.not_le, s_beg]
  · skip
    try first | replace h8 := bi_0 h8 | replace h8 := bi_n h8
    refine tr_aload_n eX6_off_11 rfl ?_
    refine tr_iconst eX6_off_12 (nI 2) ci_2 ?_
    refine tr_ce1 eX6_off_13 zv_X6_deny zi_X6_deny lk_X6_117 ⟨rfl, by decide, by decide⟩ rfl rfl rfl k_X6_deny ?_
    try simp (disch := decide) only [up_k, up_s, up_f]
    refine tr_ret eX6_off_16 rfl (by first | rfl | exact nar_bi _) ?_
    refine ⟨?_, ?_, rfl⟩ <;> simp (disch := decide) only [s_offp, PE, psh, s_nst, s_nvi, s_kind_aX, s_wing_aX, s_in_aX, s_out_aX, s_need_aX, s_unk_aX, s_put_aX, aX_0, aX_1, aX_2, aX_3, aX_4, aX_5, aX_6, aX_7, aX_8, aX_9, aX_f17_9, aX_f17_10, aX_f17_11, aX_f18_6, aX_f18_7, aX_f0_6, aX_f0_7, aX_f0_8, aX_f0_9, aX_f25_1, aX_u, aX_k, aX_s] <;> simp_all [s_rf, s_gr, s_dn, s_al, n0, le_nlt, -Int32.not_lt, -Int32.not_le, s_beg]

theorem k_X7_off {τ : tSt} {nS nP nC nV : Nat} {v : Int32} (hI : iN (aM τ) nS nP nC nV) : CT mX7_off [.ref 0, .int v] τ (QM (s_offp (aM τ) v)) := by
  have hS := hI.1.1
  rw [aM_0] at hS
  have hP := hI.2.1.1
  rw [aM_1] at hP
  have hC := hI.2.2.1.1
  rw [aM_2] at hC
  have hV := hI.2.2.2.1
  rw [aM_3] at hV
  have hS24 := hI.1.2
  have hP40 := hI.2.1.2
  have hC20 := hI.2.2.1.2
  have hV40 := hI.2.2.2.2
  refine CT.of2 0 (by decide) rfl rfl ?_
  refine tr_aload_n eX7_off_0 rfl ?_
  refine tr_aload_n eX7_off_1 rfl ?_
  refine tr_iload_n eX7_off_2 rfl ?_
  refine tr_ce1 eX7_off_3 zv_X7_isVisit zi_X7_isVisit lk_X7_113 ⟨rfl, by decide, by decide⟩ rfl rfl rfl k_X7_isVisit ?_
  refine tr_if_ne eX7_off_6 (fun h6 => ?_) (fun h6 => ?_)
  · skip
    try first | replace h6 := bi_0 h6 | replace h6 := bi_n h6
    have hin := in_has hV hV40 (by decide) h6
    refine tr_aload_n eX7_off_13 rfl ?_
    refine tr_iload_n eX7_off_14 rfl ?_
    refine tr_ce1 eX7_off_15 zv_X7_isPut zi_X7_isPut lk_X7_116 ⟨rfl, by decide, by decide⟩ rfl rfl rfl (k_X7_isPut (by first | with_reducible assumption | with_reducible exact in_slot (by with_reducible assumption) (by with_reducible assumption) | with_reducible exact in_row _ (by decide) (by with_reducible assumption) | with_reducible exact in_row0 (by with_reducible assumption) | with_reducible exact in_slot0 (by with_reducible assumption) | (simp (disch := decide) only [up_k, up_s, up_f] <;> with_reducible assumption))) ?_
    refine tr_if_ne eX7_off_18 (fun h18 => ?_) (fun h18 => ?_)
    · skip
      try first | replace h18 := bi_0 h18 | replace h18 := bi_n h18
      refine tr_aload_n eX7_off_26 rfl ?_
      refine tr_iload_n eX7_off_27 rfl ?_
      refine tr_ce1 eX7_off_28 zv_X7_hasBegun zi_X7_hasBegun lk_X7_175 ⟨rfl, by decide, by decide⟩ rfl rfl rfl (k_X7_hasBegun (by first | with_reducible assumption | with_reducible exact in_slot (by with_reducible assumption) (by with_reducible assumption) | with_reducible exact in_row _ (by decide) (by with_reducible assumption) | with_reducible exact in_row0 (by with_reducible assumption) | with_reducible exact in_slot0 (by with_reducible assumption) | (simp (disch := decide) only [up_k, up_s, up_f] <;> with_reducible assumption))) ?_
      refine tr_if_eq eX7_off_31 (fun h31 => ?_) (fun h31 => ?_)
      · skip
        try first | replace h31 := bi_0 h31 | replace h31 := bi_n h31
        refine tr_iconst eX7_off_39 (nI 0) ci_0 ?_
        refine tr_put eX7_off_40 fp_X7_80 rfl rfl ?_
        refine tr_aload_n eX7_off_43 rfl ?_
        refine tr_getI eX7_off_44 fk_X7_80 rfl rfl ?_
        try simp (disch := decide) only [up_k, up_s, up_f]
        refine tr_if_ne eX7_off_47 (fun h47 => absurd h47 (by decide)) (fun _ => ?_)
        refine tr_aload_n eX7_off_50 rfl ?_
        refine tr_getR eX7_off_51 fk_X7_50 rfl rfl ?_
        refine tr_iload_n eX7_off_54 rfl ?_
        refine tr_iconst eX7_off_55 (nI 0) ci_0 ?_
        refine tr_iast eX7_off_56 rfl (by first | with_reducible assumption | with_reducible exact in_slot (by with_reducible assumption) (by with_reducible assumption) | with_reducible exact in_row _ (by decide) (by with_reducible assumption) | with_reducible exact in_row0 (by with_reducible assumption) | with_reducible exact in_slot0 (by with_reducible assumption) | (simp (disch := decide) only [up_k, up_s, up_f] <;> with_reducible assumption)) ?_
        refine tr_aload_n eX7_off_57 rfl ?_
        refine tr_getI eX7_off_58 fk_X7_80 rfl rfl ?_
        try simp (disch := decide) only [up_k, up_s, up_f]
        refine tr_if_ne eX7_off_61 (fun h61 => absurd h61 (by decide)) (fun _ => ?_)
        refine tr_iconst eX7_off_64 (nI 1) ci_1 ?_
        refine tr_goto eX7_off_65 ?_
        refine tr_ret eX7_off_69 rfl (by first | rfl | exact nar_bi _) ?_
        refine ⟨?_, ?_⟩ <;> simp (disch := decide) only [s_offp, PE, psh, up_c0, up_65, s_nst, s_nvi, s_kind_aM, s_wing_aM, s_in_aM, s_out_aM, s_need_aM, s_unk_aM, s_put_aM, aM_0, aM_1, aM_2, aM_3, aM_4, aM_5, aM_6, aM_7, aM_8, aM_9, aM_f0_3, aM_f0_4, aM_f0_5, aM_f0_6, aM_f0_8, aM_f0_7, aM_f0_0, aM_f0_1, aM_f0_2, aM_f0_34, aM_f0_24, aM_f0_26, aM_f0_29, aM_f0_30, aM_u, aM_k, aM_s] <;> simp_all [s_rf, s_gr, s_dn, s_al, n0, le_nlt, -Int32.not_lt, -Int32.not_le]
      · skip
        try first | replace h31 := bi_0 h31 | replace h31 := bi_n h31
        refine tr_bipush eX7_off_34 (nI 7) (by decide) ?_
        refine tr_goto eX7_off_36 ?_
        refine tr_put eX7_off_40 fp_X7_80 rfl rfl ?_
        refine tr_aload_n eX7_off_43 rfl ?_
        refine tr_getI eX7_off_44 fk_X7_80 rfl rfl ?_
        try simp (disch := decide) only [up_k, up_s, up_f]
        refine tr_if_ne eX7_off_47 (fun _ => ?_) (fun h47 => absurd h47 (by decide))
        refine tr_aload_n eX7_off_57 rfl ?_
        refine tr_getI eX7_off_58 fk_X7_80 rfl rfl ?_
        try simp (disch := decide) only [up_k, up_s, up_f]
        refine tr_if_ne eX7_off_61 (fun _ => ?_) (fun h61 => absurd h61 (by decide))
        refine tr_iconst eX7_off_68 (nI 0) ci_0 ?_
        refine tr_ret eX7_off_69 rfl (by first | rfl | exact nar_bi _) ?_
        refine ⟨?_, ?_⟩ <;> simp (disch := decide) only [s_offp, PE, psh, up_c0, up_65, s_nst, s_nvi, s_kind_aM, s_wing_aM, s_in_aM, s_out_aM, s_need_aM, s_unk_aM, s_put_aM, aM_0, aM_1, aM_2, aM_3, aM_4, aM_5, aM_6, aM_7, aM_8, aM_9, aM_f0_3, aM_f0_4, aM_f0_5, aM_f0_6, aM_f0_8, aM_f0_7, aM_f0_0, aM_f0_1, aM_f0_2, aM_f0_34, aM_f0_24, aM_f0_26, aM_f0_29, aM_f0_30, aM_u, aM_k, aM_s] <;> simp_all [s_rf, s_gr, s_dn, s_al, n0, le_nlt, -Int32.not_lt, -Int32.not_le]
    · skip
      try first | replace h18 := bi_0 h18 | replace h18 := bi_n h18
      refine tr_bipush eX7_off_21 (nI 6) (by decide) ?_
      refine tr_goto eX7_off_23 ?_
      refine tr_put eX7_off_40 fp_X7_80 rfl rfl ?_
      refine tr_aload_n eX7_off_43 rfl ?_
      refine tr_getI eX7_off_44 fk_X7_80 rfl rfl ?_
      try simp (disch := decide) only [up_k, up_s, up_f]
      refine tr_if_ne eX7_off_47 (fun _ => ?_) (fun h47 => absurd h47 (by decide))
      refine tr_aload_n eX7_off_57 rfl ?_
      refine tr_getI eX7_off_58 fk_X7_80 rfl rfl ?_
      try simp (disch := decide) only [up_k, up_s, up_f]
      refine tr_if_ne eX7_off_61 (fun _ => ?_) (fun h61 => absurd h61 (by decide))
      refine tr_iconst eX7_off_68 (nI 0) ci_0 ?_
      refine tr_ret eX7_off_69 rfl (by first | rfl | exact nar_bi _) ?_
      refine ⟨?_, ?_⟩ <;> simp (disch := decide) only [s_offp, PE, psh, up_c0, up_65, s_nst, s_nvi, s_kind_aM, s_wing_aM, s_in_aM, s_out_aM, s_need_aM, s_unk_aM, s_put_aM, aM_0, aM_1, aM_2, aM_3, aM_4, aM_5, aM_6, aM_7, aM_8, aM_9, aM_f0_3, aM_f0_4, aM_f0_5, aM_f0_6, aM_f0_8, aM_f0_7, aM_f0_0, aM_f0_1, aM_f0_2, aM_f0_34, aM_f0_24, aM_f0_26, aM_f0_29, aM_f0_30, aM_u, aM_k, aM_s] <;> simp_all [s_rf, s_gr, s_dn, s_al, n0, le_nlt, -Int32.not_lt, -Int32.not_le]
  · skip
    try first | replace h6 := bi_0 h6 | replace h6 := bi_n h6
    refine tr_iconst eX7_off_9 (nI 2) ci_2 ?_
    refine tr_goto eX7_off_10 ?_
    refine tr_put eX7_off_40 fp_X7_80 rfl rfl ?_
    refine tr_aload_n eX7_off_43 rfl ?_
    refine tr_getI eX7_off_44 fk_X7_80 rfl rfl ?_
    try simp (disch := decide) only [up_k, up_s, up_f]
    refine tr_if_ne eX7_off_47 (fun _ => ?_) (fun h47 => absurd h47 (by decide))
    refine tr_aload_n eX7_off_57 rfl ?_
    refine tr_getI eX7_off_58 fk_X7_80 rfl rfl ?_
    try simp (disch := decide) only [up_k, up_s, up_f]
    refine tr_if_ne eX7_off_61 (fun _ => ?_) (fun h61 => absurd h61 (by decide))
    refine tr_iconst eX7_off_68 (nI 0) ci_0 ?_
    refine tr_ret eX7_off_69 rfl (by first | rfl | exact nar_bi _) ?_
    refine ⟨?_, ?_⟩ <;> simp (disch := decide) only [s_offp, PE, psh, up_c0, up_65, s_nst, s_nvi, s_kind_aM, s_wing_aM, s_in_aM, s_out_aM, s_need_aM, s_unk_aM, s_put_aM, aM_0, aM_1, aM_2, aM_3, aM_4, aM_5, aM_6, aM_7, aM_8, aM_9, aM_f0_3, aM_f0_4, aM_f0_5, aM_f0_6, aM_f0_8, aM_f0_7, aM_f0_0, aM_f0_1, aM_f0_2, aM_f0_34, aM_f0_24, aM_f0_26, aM_f0_29, aM_f0_30, aM_u, aM_k, aM_s] <;> simp_all [s_rf, s_gr, s_dn, s_al, n0, le_nlt, -Int32.not_lt, -Int32.not_le]

theorem dX6_stay_41 : decode mX6_stay.2.1 41 = .ok (.tableswitch 69 0 2 #[27, 41, 55], 27) := by decide +kernel
theorem out012 {w : Int32} (h0 : ¬ w = 0) (h1 : ¬ w = nI 1) (h2 : ¬ w = nI 2) : w.toInt < 0 ∨ 2 < w.toInt := by
  by_cases hn : w < 0
  · left; rw [Int32.lt_iff_toInt_lt] at hn; exact hn
  · right
    obtain ⟨j, hj, rfl⟩ := nI_of hn
    rw [nI_toInt hj]
    have a0 : j ≠ 0 := fun q => h0 (by rw [q]; rfl)
    have a1 : j ≠ 1 := fun q => h1 (by rw [q])
    have a2 : j ≠ 2 := fun q => h2 (by rw [q])
    omega
theorem in_cnt {v k : Int32} {g : Int32 → Int32} (hv : vp_in v 40) (hL : ∀ u : Nat, u < 40 → ∃ c : Nat, c ≤ 8 ∧ g (nI u) = nI c) (h0 : ¬ k < 0) (h1 : k < g v) : vp_in k 8 := by
  obtain ⟨j, hj, rfl⟩ := vp_in_of hv (by decide)
  obtain ⟨c, hc, e⟩ := hL j hj
  obtain ⟨i, hi, rfl⟩ := nI_of h0
  rw [e] at h1
  have := (nI_ltI hi (by omega)).mp h1
  exact vp_in_nI (by omega) (by decide)
theorem k_X6_stay {σ : tSt} {nS nP nC nV : Nat} {v k w : Int32} (hI : iN (aX σ) nS nP nC nV) (hcc : cOK σ) : CT mX6_stay [.ref 0, .int v, .int k, .int w] σ (QX σ (s_stay (aX σ) v k w)) := by
  have hS := hI.1.1
  rw [aX_0] at hS
  have hP := hI.2.1.1
  rw [aX_1] at hP
  have hC := hI.2.2.1.1
  rw [aX_2] at hC
  have hV := hI.2.2.2.1
  rw [aX_3] at hV
  have hS24 := hI.1.2
  have hP40 := hI.2.1.2
  have hC20 := hI.2.2.1.2
  have hV40 := hI.2.2.2.2
  refine CT.of2 0 (by decide) rfl rfl ?_
  refine tr_aload_n eX6_stay_0 rfl ?_
  refine tr_getR eX6_stay_1 fk_X6_19 rfl rfl ?_
  refine tr_iload_n eX6_stay_4 rfl ?_
  refine tr_ce1 eX6_stay_5 zv_X5_has zi_X5_has lk_X6_131 ⟨rfl, by decide, by decide⟩ rfl rfl rfl k_X5_has ?_
  refine tr_if_ne eX6_stay_8 (fun h8 => ?_) (fun h8 => ?_)
  · skip
    try first | replace h8 := bi_0 h8 | replace h8 := bi_n h8
    have hin := in_has hV hV40 (by decide) h8
    refine tr_iload_n eX6_stay_17 rfl ?_
    refine tr_if_lt eX6_stay_18 (fun h18 => ?_) (fun h18 => ?_)
    · skip
      refine tr_aload_n eX6_stay_34 rfl ?_
      refine tr_iconst eX6_stay_35 (nI 3) ci_3 ?_
      refine tr_ce1 eX6_stay_36 zv_X6_refuse zi_X6_refuse lk_X6_74 ⟨rfl, by decide, by decide⟩ rfl rfl rfl k_X6_refuse ?_
      try simp (disch := decide) only [up_k, up_s, up_f]
      refine tr_ret eX6_stay_39 rfl rfl ?_
      refine ⟨?_, ?_, rfl⟩ <;> simp (disch := decide) only [s_stay, PE, psh, s_nst, s_nvi, s_kind_aX, s_wing_aX, s_in_aX, s_out_aX, s_need_aX, s_unk_aX, s_put_aX, aX_0, aX_1, aX_2, aX_3, aX_4, aX_5, aX_6, aX_7, aX_8, aX_9, aX_f17_9, aX_f17_10, aX_f17_11, aX_f18_6, aX_f18_7, aX_f0_6, aX_f0_7, aX_f0_8, aX_f0_9, aX_f25_1, aX_u, aX_k, aX_s] <;> simp_all [s_rf, s_gr, s_dn, s_al, n0, le_nlt, -Int32.not_lt, -Int32.not_le]
    · skip
      refine tr_iload_n eX6_stay_21 rfl ?_
      refine tr_aload_n eX6_stay_22 rfl ?_
      refine tr_getR eX6_stay_23 fk_X6_19 rfl rfl ?_
      refine tr_getR eX6_stay_26 fk_X6_251 rfl rfl ?_
      refine tr_iload_n eX6_stay_29 rfl ?_
      refine tr_iald eX6_stay_30 rfl (by first | with_reducible assumption | with_reducible exact in_slot (by with_reducible assumption) (by with_reducible assumption) | with_reducible exact in_row _ (by decide) (by with_reducible assumption) | with_reducible exact in_row0 (by with_reducible assumption) | with_reducible exact in_slot0 (by with_reducible assumption) | (simp (disch := decide) only [up_k, up_s, up_f] <;> with_reducible assumption)) ?_
      refine tr_icmp_lt eX6_stay_31 (fun h31 => ?_) (fun h31 => ?_)
      · skip
        have hin2 := in_cnt hin hcc h18 h31
        clear hcc
        refine tr_iload_n eX6_stay_40 rfl ?_
        by_cases w0 : w = 0
        · subst w0
          refine tr_tabIn (tgt := 68) dX6_stay_41 (by decide) (by decide) (by rfl) (by decide) ?_
          refine tr_aload_n eX6_stay_68 rfl ?_
          refine tr_aload_n eX6_stay_69 rfl ?_
          refine tr_getR eX6_stay_70 fk_X6_19 rfl rfl ?_
          refine tr_iload_n eX6_stay_73 rfl ?_
          refine tr_iload_n eX6_stay_74 rfl ?_
          refine tr_ce2 eX6_stay_75 zv_X5_standOf zi_X5_standOf lk_X6_233 ⟨rfl, by decide, by decide⟩ rfl rfl rfl (k_X5_standOf (by first | with_reducible assumption | with_reducible exact in_slot (by with_reducible assumption) (by with_reducible assumption) | with_reducible exact in_row _ (by decide) (by with_reducible assumption) | with_reducible exact in_row0 (by with_reducible assumption) | with_reducible exact in_slot0 (by with_reducible assumption) | (simp (disch := decide) only [up_k, up_s, up_f] <;> with_reducible assumption)) (by first | with_reducible assumption | with_reducible exact in_slot (by with_reducible assumption) (by with_reducible assumption) | with_reducible exact in_row _ (by decide) (by with_reducible assumption) | with_reducible exact in_row0 (by with_reducible assumption) | with_reducible exact in_slot0 (by with_reducible assumption) | (simp (disch := decide) only [up_k, up_s, up_f] <;> with_reducible assumption))) ?_
          refine tr_ce1 eX6_stay_78 zv_X6_grant zi_X6_grant lk_X6_85 ⟨rfl, by decide, by decide⟩ rfl rfl rfl k_X6_grant ?_
          try simp (disch := decide) only [up_k, up_s, up_f]
          refine tr_ret eX6_stay_81 rfl rfl ?_
          refine ⟨?_, ?_, rfl⟩ <;> simp (disch := decide) only [s_stay, PE, psh, s_nst, s_nvi, s_kind_aX, s_wing_aX, s_in_aX, s_out_aX, s_need_aX, s_unk_aX, s_put_aX, aX_0, aX_1, aX_2, aX_3, aX_4, aX_5, aX_6, aX_7, aX_8, aX_9, aX_f17_9, aX_f17_10, aX_f17_11, aX_f18_6, aX_f18_7, aX_f0_6, aX_f0_7, aX_f0_8, aX_f0_9, aX_f25_1, aX_u, aX_k, aX_s] <;> simp_all [s_rf, s_gr, s_dn, s_al, n0, le_nlt, -Int32.not_lt, -Int32.not_le]
        · by_cases w1 : w = nI 1
          · subst w1
            refine tr_tabIn (tgt := 82) dX6_stay_41 (by decide) (by decide) (by rfl) (by decide) ?_
            refine tr_aload_n eX6_stay_82 rfl ?_
            refine tr_aload_n eX6_stay_83 rfl ?_
            refine tr_getR eX6_stay_84 fk_X6_19 rfl rfl ?_
            refine tr_iload_n eX6_stay_87 rfl ?_
            refine tr_iload_n eX6_stay_88 rfl ?_
            refine tr_ce2 eX6_stay_89 zv_X5_fromOf zi_X5_fromOf lk_X6_239 ⟨rfl, by decide, by decide⟩ rfl rfl rfl (k_X5_fromOf (by first | with_reducible assumption | with_reducible exact in_slot (by with_reducible assumption) (by with_reducible assumption) | with_reducible exact in_row _ (by decide) (by with_reducible assumption) | with_reducible exact in_row0 (by with_reducible assumption) | with_reducible exact in_slot0 (by with_reducible assumption) | (simp (disch := decide) only [up_k, up_s, up_f] <;> with_reducible assumption)) (by first | with_reducible assumption | with_reducible exact in_slot (by with_reducible assumption) (by with_reducible assumption) | with_reducible exact in_row _ (by decide) (by with_reducible assumption) | with_reducible exact in_row0 (by with_reducible assumption) | with_reducible exact in_slot0 (by with_reducible assumption) | (simp (disch := decide) only [up_k, up_s, up_f] <;> with_reducible assumption))) ?_
            refine tr_ce1 eX6_stay_92 zv_X6_grant zi_X6_grant lk_X6_85 ⟨rfl, by decide, by decide⟩ rfl rfl rfl k_X6_grant ?_
            try simp (disch := decide) only [up_k, up_s, up_f]
            refine tr_ret eX6_stay_95 rfl rfl ?_
            refine ⟨?_, ?_, rfl⟩ <;> simp (disch := decide) only [s_stay, PE, psh, s_nst, s_nvi, s_kind_aX, s_wing_aX, s_in_aX, s_out_aX, s_need_aX, s_unk_aX, s_put_aX, aX_0, aX_1, aX_2, aX_3, aX_4, aX_5, aX_6, aX_7, aX_8, aX_9, aX_f17_9, aX_f17_10, aX_f17_11, aX_f18_6, aX_f18_7, aX_f0_6, aX_f0_7, aX_f0_8, aX_f0_9, aX_f25_1, aX_u, aX_k, aX_s] <;> simp_all [s_rf, s_gr, s_dn, s_al, n0, le_nlt, -Int32.not_lt, -Int32.not_le]
          · by_cases w2 : w = nI 2
            · subst w2
              refine tr_tabIn (tgt := 96) dX6_stay_41 (by decide) (by decide) (by rfl) (by decide) ?_
              refine tr_aload_n eX6_stay_96 rfl ?_
              refine tr_aload_n eX6_stay_97 rfl ?_
              refine tr_getR eX6_stay_98 fk_X6_19 rfl rfl ?_
              refine tr_iload_n eX6_stay_101 rfl ?_
              refine tr_iload_n eX6_stay_102 rfl ?_
              refine tr_ce2 eX6_stay_103 zv_X5_endOf zi_X5_endOf lk_X6_242 ⟨rfl, by decide, by decide⟩ rfl rfl rfl (k_X5_endOf (by first | with_reducible assumption | with_reducible exact in_slot (by with_reducible assumption) (by with_reducible assumption) | with_reducible exact in_row _ (by decide) (by with_reducible assumption) | with_reducible exact in_row0 (by with_reducible assumption) | with_reducible exact in_slot0 (by with_reducible assumption) | (simp (disch := decide) only [up_k, up_s, up_f] <;> with_reducible assumption)) (by first | with_reducible assumption | with_reducible exact in_slot (by with_reducible assumption) (by with_reducible assumption) | with_reducible exact in_row _ (by decide) (by with_reducible assumption) | with_reducible exact in_row0 (by with_reducible assumption) | with_reducible exact in_slot0 (by with_reducible assumption) | (simp (disch := decide) only [up_k, up_s, up_f] <;> with_reducible assumption))) ?_
              refine tr_ce1 eX6_stay_106 zv_X6_grant zi_X6_grant lk_X6_85 ⟨rfl, by decide, by decide⟩ rfl rfl rfl k_X6_grant ?_
              try simp (disch := decide) only [up_k, up_s, up_f]
              refine tr_ret eX6_stay_109 rfl rfl ?_
              refine ⟨?_, ?_, rfl⟩ <;> simp (disch := decide) only [s_stay, PE, psh, s_nst, s_nvi, s_kind_aX, s_wing_aX, s_in_aX, s_out_aX, s_need_aX, s_unk_aX, s_put_aX, aX_0, aX_1, aX_2, aX_3, aX_4, aX_5, aX_6, aX_7, aX_8, aX_9, aX_f17_9, aX_f17_10, aX_f17_11, aX_f18_6, aX_f18_7, aX_f0_6, aX_f0_7, aX_f0_8, aX_f0_9, aX_f25_1, aX_u, aX_k, aX_s] <;> simp_all [s_rf, s_gr, s_dn, s_al, n0, le_nlt, -Int32.not_lt, -Int32.not_le]
            · refine tr_tabOut (tgt := 110) dX6_stay_41 (out012 w0 w1 w2) (by decide) ?_
              refine tr_aload_n eX6_stay_110 rfl ?_
              refine tr_iconst eX6_stay_111 (nI 3) ci_3 ?_
              refine tr_ce1 eX6_stay_112 zv_X6_refuse zi_X6_refuse lk_X6_74 ⟨rfl, by decide, by decide⟩ rfl rfl rfl k_X6_refuse ?_
              try simp (disch := decide) only [up_k, up_s, up_f]
              refine tr_ret eX6_stay_115 rfl rfl ?_
              refine ⟨?_, ?_, rfl⟩ <;> simp (disch := decide) only [s_stay, PE, psh, s_nst, s_nvi, s_kind_aX, s_wing_aX, s_in_aX, s_out_aX, s_need_aX, s_unk_aX, s_put_aX, aX_0, aX_1, aX_2, aX_3, aX_4, aX_5, aX_6, aX_7, aX_8, aX_9, aX_f17_9, aX_f17_10, aX_f17_11, aX_f18_6, aX_f18_7, aX_f0_6, aX_f0_7, aX_f0_8, aX_f0_9, aX_f25_1, aX_u, aX_k, aX_s] <;> simp_all [s_rf, s_gr, s_dn, s_al, n0, le_nlt, -Int32.not_lt, -Int32.not_le]
      · skip
        refine tr_aload_n eX6_stay_34 rfl ?_
        refine tr_iconst eX6_stay_35 (nI 3) ci_3 ?_
        refine tr_ce1 eX6_stay_36 zv_X6_refuse zi_X6_refuse lk_X6_74 ⟨rfl, by decide, by decide⟩ rfl rfl rfl k_X6_refuse ?_
        try simp (disch := decide) only [up_k, up_s, up_f]
        refine tr_ret eX6_stay_39 rfl rfl ?_
        refine ⟨?_, ?_, rfl⟩ <;> simp (disch := decide) only [s_stay, PE, psh, s_nst, s_nvi, s_kind_aX, s_wing_aX, s_in_aX, s_out_aX, s_need_aX, s_unk_aX, s_put_aX, aX_0, aX_1, aX_2, aX_3, aX_4, aX_5, aX_6, aX_7, aX_8, aX_9, aX_f17_9, aX_f17_10, aX_f17_11, aX_f18_6, aX_f18_7, aX_f0_6, aX_f0_7, aX_f0_8, aX_f0_9, aX_f25_1, aX_u, aX_k, aX_s] <;> simp_all [s_rf, s_gr, s_dn, s_al, n0, le_nlt, -Int32.not_lt, -Int32.not_le]
  · skip
    try first | replace h8 := bi_0 h8 | replace h8 := bi_n h8
    refine tr_aload_n eX6_stay_11 rfl ?_
    refine tr_iconst eX6_stay_12 (nI 2) ci_2 ?_
    refine tr_ce1 eX6_stay_13 zv_X6_refuse zi_X6_refuse lk_X6_74 ⟨rfl, by decide, by decide⟩ rfl rfl rfl k_X6_refuse ?_
    try simp (disch := decide) only [up_k, up_s, up_f]
    refine tr_ret eX6_stay_16 rfl rfl ?_
    refine ⟨?_, ?_, rfl⟩ <;> simp (disch := decide) only [s_stay, PE, psh, s_nst, s_nvi, s_kind_aX, s_wing_aX, s_in_aX, s_out_aX, s_need_aX, s_unk_aX, s_put_aX, aX_0, aX_1, aX_2, aX_3, aX_4, aX_5, aX_6, aX_7, aX_8, aX_9, aX_f17_9, aX_f17_10, aX_f17_11, aX_f18_6, aX_f18_7, aX_f0_6, aX_f0_7, aX_f0_8, aX_f0_9, aX_f25_1, aX_u, aX_k, aX_s] <;> simp_all [s_rf, s_gr, s_dn, s_al, n0, le_nlt, -Int32.not_lt, -Int32.not_le]

theorem k_X7_stay {τ : tSt} {nS nP nC nV : Nat} {v k w : Int32} (hI : iN (aM τ) nS nP nC nV) (hcc : cOK τ) : CT mX7_stay [.ref 0, .int v, .int k, .int w] τ (QM (s_stay (aM τ) v k w)) := by
  have hS := hI.1.1
  rw [aM_0] at hS
  have hP := hI.2.1.1
  rw [aM_1] at hP
  have hC := hI.2.2.1.1
  rw [aM_2] at hC
  have hV := hI.2.2.2.1
  rw [aM_3] at hV
  have hS24 := hI.1.2
  have hP40 := hI.2.1.2
  have hC20 := hI.2.2.1.2
  have hV40 := hI.2.2.2.2
  refine CT.of2 1 (by decide) rfl rfl ?_
  refine tr_aload_n eX7_stay_0 rfl ?_
  refine tr_iload_n eX7_stay_1 rfl ?_
  refine tr_ce1 eX7_stay_2 zv_X7_isVisit zi_X7_isVisit lk_X7_113 ⟨rfl, by decide, by decide⟩ rfl rfl rfl k_X7_isVisit ?_
  refine tr_if_ne eX7_stay_5 (fun h5 => ?_) (fun h5 => ?_)
  · skip
    try first | replace h5 := bi_0 h5 | replace h5 := bi_n h5
    have hin := in_has hV hV40 (by decide) h5
    refine tr_iload_n eX7_stay_14 rfl ?_
    refine tr_if_lt eX7_stay_15 (fun h15 => ?_) (fun h15 => ?_)
    · skip
      refine tr_aload_n eX7_stay_37 rfl ?_
      refine tr_iconst eX7_stay_38 (nI 3) ci_3 ?_
      refine tr_ce1 eX7_stay_39 zv_X7_refuse zi_X7_refuse lk_X7_92 ⟨rfl, by decide, by decide⟩ rfl rfl rfl k_X7_refuse ?_
      try simp (disch := decide) only [up_k, up_s, up_f]
      refine tr_ret eX7_stay_42 rfl rfl ?_
      refine ⟨?_, ?_⟩ <;> simp (disch := decide) only [s_stay, PE, psh, up_c0, up_65, s_nst, s_nvi, s_kind_aM, s_wing_aM, s_in_aM, s_out_aM, s_need_aM, s_unk_aM, s_put_aM, aM_0, aM_1, aM_2, aM_3, aM_4, aM_5, aM_6, aM_7, aM_8, aM_9, aM_f0_3, aM_f0_4, aM_f0_5, aM_f0_6, aM_f0_8, aM_f0_7, aM_f0_0, aM_f0_1, aM_f0_2, aM_f0_34, aM_f0_24, aM_f0_26, aM_f0_29, aM_f0_30, aM_u, aM_k, aM_s] <;> simp_all [s_rf, s_gr, s_dn, s_al, n0, le_nlt, -Int32.not_lt, -Int32.not_le]
    · skip
      refine tr_iload_n eX7_stay_18 rfl ?_
      refine tr_aload_n eX7_stay_19 rfl ?_
      refine tr_getR eX7_stay_20 fk_X7_50 rfl rfl ?_
      refine tr_iload_n eX7_stay_23 rfl ?_
      refine tr_iald eX7_stay_24 rfl (by first | with_reducible assumption | with_reducible exact in_slot (by with_reducible assumption) (by with_reducible assumption) | with_reducible exact in_row _ (by decide) (by with_reducible assumption) | with_reducible exact in_row0 (by with_reducible assumption) | with_reducible exact in_slot0 (by with_reducible assumption) | (simp (disch := decide) only [up_k, up_s, up_f] <;> with_reducible assumption)) ?_
      refine tr_icmp_ge eX7_stay_25 (fun h25 => ?_) (fun h25 => ?_)
      · skip
        refine tr_aload_n eX7_stay_37 rfl ?_
        refine tr_iconst eX7_stay_38 (nI 3) ci_3 ?_
        refine tr_ce1 eX7_stay_39 zv_X7_refuse zi_X7_refuse lk_X7_92 ⟨rfl, by decide, by decide⟩ rfl rfl rfl k_X7_refuse ?_
        try simp (disch := decide) only [up_k, up_s, up_f]
        refine tr_ret eX7_stay_42 rfl rfl ?_
        refine ⟨?_, ?_⟩ <;> simp (disch := decide) only [s_stay, PE, psh, up_c0, up_65, s_nst, s_nvi, s_kind_aM, s_wing_aM, s_in_aM, s_out_aM, s_need_aM, s_unk_aM, s_put_aM, aM_0, aM_1, aM_2, aM_3, aM_4, aM_5, aM_6, aM_7, aM_8, aM_9, aM_f0_3, aM_f0_4, aM_f0_5, aM_f0_6, aM_f0_8, aM_f0_7, aM_f0_0, aM_f0_1, aM_f0_2, aM_f0_34, aM_f0_24, aM_f0_26, aM_f0_29, aM_f0_30, aM_u, aM_k, aM_s] <;> simp_all [s_rf, s_gr, s_dn, s_al, n0, le_nlt, -Int32.not_lt, -Int32.not_le]
      · skip
        have hin2 := in_cnt hin hcc h15 (Int32.not_le.mp h25)
        clear hcc
        refine tr_iload_n eX7_stay_28 rfl ?_
        refine tr_if_lt eX7_stay_29 (fun h29 => ?_) (fun h29 => ?_)
        · skip
          have gw := wlo h29
          refine tr_aload_n eX7_stay_37 rfl ?_
          refine tr_iconst eX7_stay_38 (nI 3) ci_3 ?_
          refine tr_ce1 eX7_stay_39 zv_X7_refuse zi_X7_refuse lk_X7_92 ⟨rfl, by decide, by decide⟩ rfl rfl rfl k_X7_refuse ?_
          try simp (disch := decide) only [up_k, up_s, up_f]
          refine tr_ret eX7_stay_42 rfl rfl ?_
          refine ⟨?_, ?_⟩ <;> simp (disch := decide) only [s_stay, PE, psh, up_c0, up_65, s_nst, s_nvi, s_kind_aM, s_wing_aM, s_in_aM, s_out_aM, s_need_aM, s_unk_aM, s_put_aM, aM_0, aM_1, aM_2, aM_3, aM_4, aM_5, aM_6, aM_7, aM_8, aM_9, aM_f0_3, aM_f0_4, aM_f0_5, aM_f0_6, aM_f0_8, aM_f0_7, aM_f0_0, aM_f0_1, aM_f0_2, aM_f0_34, aM_f0_24, aM_f0_26, aM_f0_29, aM_f0_30, aM_u, aM_k, aM_s] <;> simp_all [s_rf, s_gr, s_dn, s_al, n0, le_nlt, -Int32.not_lt, -Int32.not_le]
        · skip
          refine tr_iload_n eX7_stay_32 rfl ?_
          refine tr_iconst eX7_stay_33 (nI 2) ci_2 ?_
          refine tr_icmp_le eX7_stay_34 (fun h34 => ?_) (fun h34 => ?_)
          · skip
            refine tr_bipush eX7_stay_43 (nI 8) (by decide) ?_
            refine tr_iload_n eX7_stay_45 rfl ?_
            refine tr_imulC eX7_stay_46 ?_
            refine tr_iload_n eX7_stay_47 rfl ?_
            refine tr_iadd eX7_stay_48 ?_
            refine tr_istore eX7_stay_49 (by decide) rfl ?_
            refine tr_aload_n eX7_stay_51 rfl ?_
            refine tr_iload_n eX7_stay_52 rfl ?_
            refine tr_if_ne eX7_stay_53 (fun h53 => ?_) (fun h53 => ?_)
            · skip
              refine tr_iload_n eX7_stay_66 rfl ?_
              refine tr_iconst eX7_stay_67 (nI 1) ci_1 ?_
              refine tr_icmp_ne eX7_stay_68 (fun h68 => ?_) (fun h68 => ?_)
              · skip
                have gw := w012 h29 h34 h53 h68
                refine tr_aload_n eX7_stay_81 rfl ?_
                refine tr_getR eX7_stay_82 fk_X7_59 rfl rfl ?_
                refine tr_iload eX7_stay_85 rfl ?_
                refine tr_iald eX7_stay_87 rfl (by first | with_reducible assumption | with_reducible exact in_slot (by with_reducible assumption) (by with_reducible assumption) | with_reducible exact in_row _ (by decide) (by with_reducible assumption) | with_reducible exact in_row0 (by with_reducible assumption) | with_reducible exact in_slot0 (by with_reducible assumption) | (simp (disch := decide) only [up_k, up_s, up_f] <;> with_reducible assumption)) ?_
                refine tr_ce1 eX7_stay_88 zv_X7_gives zi_X7_gives lk_X7_96 ⟨rfl, by decide, by decide⟩ rfl rfl rfl k_X7_gives ?_
                try simp (disch := decide) only [up_k, up_s, up_f]
                refine tr_ret eX7_stay_91 rfl rfl ?_
                refine ⟨?_, ?_⟩ <;> simp (disch := decide) only [s_stay, PE, psh, up_c0, up_65, s_nst, s_nvi, s_kind_aM, s_wing_aM, s_in_aM, s_out_aM, s_need_aM, s_unk_aM, s_put_aM, aM_0, aM_1, aM_2, aM_3, aM_4, aM_5, aM_6, aM_7, aM_8, aM_9, aM_f0_3, aM_f0_4, aM_f0_5, aM_f0_6, aM_f0_8, aM_f0_7, aM_f0_0, aM_f0_1, aM_f0_2, aM_f0_34, aM_f0_24, aM_f0_26, aM_f0_29, aM_f0_30, aM_u, aM_k, aM_s] <;> simp_all [s_rf, s_gr, s_dn, s_al, n0, le_nlt, -Int32.not_lt, -Int32.not_le]
              · skip
                refine tr_aload_n eX7_stay_71 rfl ?_
                refine tr_getR eX7_stay_72 fk_X7_56 rfl rfl ?_
                refine tr_iload eX7_stay_75 rfl ?_
                refine tr_iald eX7_stay_77 rfl (by first | with_reducible assumption | with_reducible exact in_slot (by with_reducible assumption) (by with_reducible assumption) | with_reducible exact in_row _ (by decide) (by with_reducible assumption) | with_reducible exact in_row0 (by with_reducible assumption) | with_reducible exact in_slot0 (by with_reducible assumption) | (simp (disch := decide) only [up_k, up_s, up_f] <;> with_reducible assumption)) ?_
                refine tr_goto eX7_stay_78 ?_
                refine tr_ce1 eX7_stay_88 zv_X7_gives zi_X7_gives lk_X7_96 ⟨rfl, by decide, by decide⟩ rfl rfl rfl k_X7_gives ?_
                try simp (disch := decide) only [up_k, up_s, up_f]
                refine tr_ret eX7_stay_91 rfl rfl ?_
                refine ⟨?_, ?_⟩ <;> simp (disch := decide) only [s_stay, PE, psh, up_c0, up_65, s_nst, s_nvi, s_kind_aM, s_wing_aM, s_in_aM, s_out_aM, s_need_aM, s_unk_aM, s_put_aM, aM_0, aM_1, aM_2, aM_3, aM_4, aM_5, aM_6, aM_7, aM_8, aM_9, aM_f0_3, aM_f0_4, aM_f0_5, aM_f0_6, aM_f0_8, aM_f0_7, aM_f0_0, aM_f0_1, aM_f0_2, aM_f0_34, aM_f0_24, aM_f0_26, aM_f0_29, aM_f0_30, aM_u, aM_k, aM_s] <;> simp_all [s_rf, s_gr, s_dn, s_al, n0, le_nlt, -Int32.not_lt, -Int32.not_le]
            · skip
              refine tr_aload_n eX7_stay_56 rfl ?_
              refine tr_getR eX7_stay_57 fk_X7_53 rfl rfl ?_
              refine tr_iload eX7_stay_60 rfl ?_
              refine tr_iald eX7_stay_62 rfl (by first | with_reducible assumption | with_reducible exact in_slot (by with_reducible assumption) (by with_reducible assumption) | with_reducible exact in_row _ (by decide) (by with_reducible assumption) | with_reducible exact in_row0 (by with_reducible assumption) | with_reducible exact in_slot0 (by with_reducible assumption) | (simp (disch := decide) only [up_k, up_s, up_f] <;> with_reducible assumption)) ?_
              refine tr_goto eX7_stay_63 ?_
              refine tr_ce1 eX7_stay_88 zv_X7_gives zi_X7_gives lk_X7_96 ⟨rfl, by decide, by decide⟩ rfl rfl rfl k_X7_gives ?_
              try simp (disch := decide) only [up_k, up_s, up_f]
              refine tr_ret eX7_stay_91 rfl rfl ?_
              refine ⟨?_, ?_⟩ <;> simp (disch := decide) only [s_stay, PE, psh, up_c0, up_65, s_nst, s_nvi, s_kind_aM, s_wing_aM, s_in_aM, s_out_aM, s_need_aM, s_unk_aM, s_put_aM, aM_0, aM_1, aM_2, aM_3, aM_4, aM_5, aM_6, aM_7, aM_8, aM_9, aM_f0_3, aM_f0_4, aM_f0_5, aM_f0_6, aM_f0_8, aM_f0_7, aM_f0_0, aM_f0_1, aM_f0_2, aM_f0_34, aM_f0_24, aM_f0_26, aM_f0_29, aM_f0_30, aM_u, aM_k, aM_s] <;> simp_all [s_rf, s_gr, s_dn, s_al, n0, le_nlt, -Int32.not_lt, -Int32.not_le]
          · skip
            have gw := whi2 h34
            refine tr_aload_n eX7_stay_37 rfl ?_
            refine tr_iconst eX7_stay_38 (nI 3) ci_3 ?_
            refine tr_ce1 eX7_stay_39 zv_X7_refuse zi_X7_refuse lk_X7_92 ⟨rfl, by decide, by decide⟩ rfl rfl rfl k_X7_refuse ?_
            try simp (disch := decide) only [up_k, up_s, up_f]
            refine tr_ret eX7_stay_42 rfl rfl ?_
            refine ⟨?_, ?_⟩ <;> simp (disch := decide) only [s_stay, PE, psh, up_c0, up_65, s_nst, s_nvi, s_kind_aM, s_wing_aM, s_in_aM, s_out_aM, s_need_aM, s_unk_aM, s_put_aM, aM_0, aM_1, aM_2, aM_3, aM_4, aM_5, aM_6, aM_7, aM_8, aM_9, aM_f0_3, aM_f0_4, aM_f0_5, aM_f0_6, aM_f0_8, aM_f0_7, aM_f0_0, aM_f0_1, aM_f0_2, aM_f0_34, aM_f0_24, aM_f0_26, aM_f0_29, aM_f0_30, aM_u, aM_k, aM_s] <;> simp_all [s_rf, s_gr, s_dn, s_al, n0, le_nlt, -Int32.not_lt, -Int32.not_le]
  · skip
    try first | replace h5 := bi_0 h5 | replace h5 := bi_n h5
    refine tr_aload_n eX7_stay_8 rfl ?_
    refine tr_iconst eX7_stay_9 (nI 2) ci_2 ?_
    refine tr_ce1 eX7_stay_10 zv_X7_refuse zi_X7_refuse lk_X7_92 ⟨rfl, by decide, by decide⟩ rfl rfl rfl k_X7_refuse ?_
    try simp (disch := decide) only [up_k, up_s, up_f]
    refine tr_ret eX7_stay_13 rfl rfl ?_
    refine ⟨?_, ?_⟩ <;> simp (disch := decide) only [s_stay, PE, psh, up_c0, up_65, s_nst, s_nvi, s_kind_aM, s_wing_aM, s_in_aM, s_out_aM, s_need_aM, s_unk_aM, s_put_aM, aM_0, aM_1, aM_2, aM_3, aM_4, aM_5, aM_6, aM_7, aM_8, aM_9, aM_f0_3, aM_f0_4, aM_f0_5, aM_f0_6, aM_f0_8, aM_f0_7, aM_f0_0, aM_f0_1, aM_f0_2, aM_f0_34, aM_f0_24, aM_f0_26, aM_f0_29, aM_f0_30, aM_u, aM_k, aM_s] <;> simp_all [s_rf, s_gr, s_dn, s_al, n0, le_nlt, -Int32.not_lt, -Int32.not_le]

