/-! WHAT HOLDS BETWEEN CALLS, of the view -/
def rOK (μ : tSt) (nV : Nat) : Prop := ∀ u : Nat, u < nV → ∃ a b : Nat, μ 10 (nI u * nI 5 + nI 2) = nI a ∧ μ 10 (nI u * nI 5 + nI 3) = nI b ∧ a < b ∧ b ≤ 2880
def zOK (μ : tSt) (nV : Nat) : Prop := ∀ u : Nat, nV ≤ u → u < 40 → μ 12 (nI u) = nI 0
def lOK (μ : tSt) : Prop := ∀ u : Nat, u < 40 → ∃ c : Nat, c ≤ 5 ∧ μ 11 (nI u) = nI c
def uOK (μ : tSt) : Prop := ∀ u : Nat, u < 40 → ¬ μ 12 (nI u) = nI 0 → nI 2 < μ 11 (nI u)
def gOK (μ : tSt) (nS : Nat) : Prop := ∀ u k : Nat, u < 40 → nI k < μ 12 (nI u) → k < 8 → ∃ s : Nat, s < nS ∧ μ 13 (nI u * nI 8 + nI k) = nI s
def mOK (μ : tSt) : Prop := (∃ t : Nat, t < 2880 ∧ μ 0 (nI 4) = nI t) ∧ (∃ t : Nat, 1 ≤ t ∧ t ≤ 60 ∧ μ 0 (nI 5) = nI t) ∧ (∃ c : Nat, c ≤ 40 ∧ μ 0 (nI 9) = nI c)
def fOK (μ : tSt) : Prop := ∀ u k : Nat, u < 40 → nI k < μ 12 (nI u) → k < 8 → ∃ a b : Nat, μ 14 (nI u * nI 8 + nI k) = nI a ∧ μ 15 (nI u * nI 8 + nI k) = nI b ∧ a < b ∧ b ≤ 2880
def hOK (μ : tSt) (nS : Nat) : Prop := ∀ s : Nat, s < nS → ∃ k : Nat, 1 ≤ k ∧ k ≤ 5 ∧ μ 1 (nI s) = nI k
def iA (μ : tSt) (nS nP nC nV : Nat) : Prop := iN μ nS nP nC nV ∧ (cOK μ ∧ fOK μ ∧ pOK μ nP ∧ kOK μ nC) ∧ (rOK μ nV ∧ zOK μ nV ∧ lOK μ ∧ uOK μ) ∧ gOK μ nS ∧ mOK μ ∧ hOK μ nS
theorem fOK.s {μ : tSt} (h : fOK μ) : sOK μ := fun u k hu hk h8 => by
  obtain ⟨a, b, e1, e2, hab, hb⟩ := h u k hu hk h8
  rw [e1, e2]
  exact (nI_ltI (by omega) (by omega)).mpr hab
theorem rOK.io {μ : tSt} {nV : Nat} (h : rOK μ nV) {u : Nat} (hu : u < nV) : ∃ a b : Nat, s_in μ (nI u) = nI a ∧ s_out μ (nI u) = nI b ∧ a < b ∧ b ≤ 2880 := by
  obtain ⟨a, b, h1, h2, h3, h4⟩ := h u hu
  by_cases hl : μ 11 (nI u) ≤ nI 3
  · exact ⟨a, 2880, h1, by rw [s_out, if_pos hl], by omega, by omega⟩
  · exact ⟨a, b, h1, by rw [s_out, if_neg hl]; exact h2, h3, h4⟩
theorem rOK.lt {μ : tSt} {nV : Nat} (h : rOK μ nV) (hV40 : nV ≤ 40) {v : Int32} (h0 : ¬ v < 0) (h1 : ¬ nI nV ≤ v) : s_in μ v < s_out μ v := by
  obtain ⟨j, hj, rfl⟩ := nI_of h0
  have hjn : j < nV := Nat.not_le.mp fun q => h1 ((nI_leI (by omega) hj).mpr q)
  obtain ⟨a, b, e1, e2, e3, e4⟩ := h.io hjn
  rw [e1, e2]
  exact (nI_ltI (by omega) (by omega)).mpr e3
/-! THE JUDGE'S WORD DEPENDS ON THE STAYS OF THE OTHERS ALONE -/
theorem an_0 {P : Int32 → Bool} {i : Nat} : an P 0 i = false := rfl
theorem s_ag_void {σ ρ : tSt} {n nC nV : Nat} {o o' : Int32 → Bool} (hk : ∀ k, k ≠ 0 → k ≤ 15 → k ≠ 12 → σ k = ρ k)
    (hv : ∀ u : Nat, u < nV → (o (nI u) = o' (nI u) ∧ σ 12 (nI u) = ρ 12 (nI u)) ∨ ((o (nI u) = false ∨ tn (σ 12 (nI u)) = 0) ∧ (o' (nI u) = false ∨ tn (ρ 12 (nI u)) = 0))) (kd w nd s a b : Int32) :
    s_ag σ n nC nV o kd w nd s a b = s_ag ρ n nC nV o' kd w nd s a b := by
  have h1 := hk 1 (by decide) (by decide) (by decide)
  have h2 := hk 2 (by decide) (by decide) (by decide)
  have h3 := hk 3 (by decide) (by decide) (by decide)
  have h4 := hk 4 (by decide) (by decide) (by decide)
  have h5 := hk 5 (by decide) (by decide) (by decide)
  have h6 := hk 6 (by decide) (by decide) (by decide)
  have h7 := hk 7 (by decide) (by decide) (by decide)
  have h8 := hk 8 (by decide) (by decide) (by decide)
  have h9 := hk 9 (by decide) (by decide) (by decide)
  have h10 := hk 10 (by decide) (by decide) (by decide)
  have h13 := hk 13 (by decide) (by decide) (by decide)
  have h14 := hk 14 (by decide) (by decide) (by decide)
  have h15 := hk 15 (by decide) (by decide) (by decide)
  have hnear : ∀ s w q x, s_near σ n s w q x = s_near ρ n s w q x := fun s w q x => by unfold s_near; rw [h3, h4, h5, h6]
  have hwing : ∀ u, s_wing σ u = s_wing ρ u := fun u => by unfold s_wing; rw [h10]
  have A : ∀ j : Nat, j < nV → (o (nI j) && s_nbr σ n w (nI j) s a b) = (o' (nI j) && s_nbr ρ n w (nI j) s a b) := by
    intro j hj
    rcases hv j hj with ⟨e1, e2⟩ | ⟨e1, e2⟩
    · rw [e1]
      simp only [s_nbr, hnear, hwing, h13, h14, h15, e2]
    · have f1 : (o (nI j) && s_nbr σ n w (nI j) s a b) = false := by
        rcases e1 with e | e
        · rw [e]; rfl
        · rw [s_nbr, e, an_0, Bool.and_false]
      have f2 : (o' (nI j) && s_nbr ρ n w (nI j) s a b) = false := by
        rcases e2 with e | e
        · rw [e]; rfl
        · rw [s_nbr, e, an_0, Bool.and_false]
      rw [f1, f2]
  have hsa : ∀ x k s a b, s_sa σ x k s a b = s_sa ρ x k s a b := fun x k s a b => by simp only [s_sa, h13, h14, h15]
  have hsh : ∀ w u s, s_share σ w u s = s_share ρ w u s := fun w u s => by unfold s_share s_wing; rw [h1, h2, h10]
  have B : ∀ (u s a b : Int32) (j : Nat), j < nV → (decide (¬ nI j = u) && o (nI j) && s_there σ (nI j) s a b) = (decide (¬ nI j = u) && o' (nI j) && s_there ρ (nI j) s a b) := by
    intro u s a b j hj
    rcases hv j hj with ⟨e1, e2⟩ | ⟨e1, e2⟩
    · rw [e1]
      simp only [s_there, hsa, e2]
    · have f1 : (o (nI j) && s_there σ (nI j) s a b) = false := by
        rcases e1 with e | e
        · rw [e]; rfl
        · rw [s_there, e, an_0, Bool.and_false]
      have f2 : (o' (nI j) && s_there ρ (nI j) s a b) = false := by
        rcases e2 with e | e
        · rw [e]; rfl
        · rw [s_there, e, an_0, Bool.and_false]
      rw [Bool.and_assoc, Bool.and_assoc, f1, f2]
  have Cc : ∀ u s a b, s_third σ nV o u s a b = s_third ρ nV o' u s a b := fun u s a b => an_congr (fun j _ hj => B u s a b j (by omega))
  have E : ∀ j : Nat, j < nV → (o (nI j) && s_takes σ nV o w (nI j) s a b) = (o' (nI j) && s_takes ρ nV o' w (nI j) s a b) := by
    intro j hj
    rcases hv j hj with ⟨e1, e2⟩ | ⟨e1, e2⟩
    · rw [e1]
      simp only [s_takes, s_tk, hsa, hsh, Cc, h14, h15, e2]
    · have f1 : (o (nI j) && s_takes σ nV o w (nI j) s a b) = false := by
        rcases e1 with e | e
        · rw [e]; rfl
        · rw [s_takes, e, an_0, Bool.and_false]
      have f2 : (o' (nI j) && s_takes ρ nV o' w (nI j) s a b) = false := by
        rcases e2 with e | e
        · rw [e]; rfl
        · rw [s_takes, e, an_0, Bool.and_false]
      rw [f1, f2]
  have e1 : s_fn σ n nV o w s a b = s_fn ρ n nV o' w s a b := fi_congr (fun j _ hj => A j (by omega))
  have e2 : s_ft σ nV o w s a b = s_ft ρ nV o' w s a b := fi_congr (fun j _ hj => E j (by omega))
  have e3 : s_fc σ nC s a b = s_fc ρ nC s a b := by simp only [s_fc, h7, h8, h9]
  have e4 : s_unf σ kd nd s a b = s_unf ρ kd nd s a b := by simp only [s_unf, s_gate, h1]
  unfold s_ag
  rw [e1, e2, e3, e4, h2]
theorem s_ag_same {σ ρ : tSt} {n nC nV : Nat} {o o' : Int32 → Bool} (hk : ∀ k, k ≠ 0 → k ≤ 15 → σ k = ρ k) (hv : ∀ u : Nat, u < nV → o (nI u) = o' (nI u)) (kd w nd s a b : Int32) :
    s_ag σ n nC nV o kd w nd s a b = s_ag ρ n nC nV o' kd w nd s a b := s_ag_void (fun k a b _ => hk k a b) (fun u hu => Or.inl ⟨hv u hu, by rw [hk 12 (by decide) (by decide)]⟩) kd w nd s a b
/-- what is against v at s from a to b, of the view -/
def s_A (μ : tSt) (v s a b : Int32) : Int32 × Int32 := s_ag μ (tn (μ 0 (nI 1))) (tn (μ 0 (nI 2))) (tn (μ 0 (nI 3))) (s_ne v) (s_kind μ v) (s_wing μ v) (s_need μ v) s a b
theorem s_A_of {μ : tSt} {nS nP nC nV : Nat} (h : iN μ nS nP nC nV) (v s a b : Int32) : s_A μ v s a b = s_ag μ nP nC nV (s_ne v) (s_kind μ v) (s_wing μ v) (s_need μ v) s a b := by
  unfold s_A
  rw [tn_of h.2.1.1 (by have := h.2.1.2; omega), tn_of h.2.2.1.1 (by have := h.2.2.1.2; omega), tn_of h.2.2.2.1 (by have := h.2.2.2.2; omega)]
def aw0 (σ : tSt) : Prop := ∀ u : Nat, u < 40 → σ 26 (nI u) = nI 0
theorem s_A_X {σ : tSt} {nS nP nC nV : Nat} (h : iN (aX σ) nS nP nC nV) (hz : aw0 σ) (v s a b : Int32) : s_agX (s_reg σ v) nP nC nV s a b = s_A (aX σ) v s a b := by
  rw [s_A_of h, s_kind_aX, s_wing_aX, s_need_aX, s_agX]
  have e1 : s_reg σ v 19 (nI 4) = s_kind σ v := by simp (disch := decide) only [s_reg, up_s, up_f]
  have e2 : s_reg σ v 19 (nI 5) = s_wing σ v := by simp (disch := decide) only [s_reg, up_s, up_f]
  have e3 : s_reg σ v 19 (nI 6) = s_need σ v := by simp (disch := decide) only [s_reg, up_s, up_f]
  have e4 : s_reg σ v 19 (nI 3) = v := by simp (disch := decide) only [s_reg, up_s, up_f]
  have e5 : s_reg σ v 26 = σ 26 := by simp (disch := decide) only [s_reg, up_k]
  rw [e1, e2, e3]
  refine s_ag_same (fun k h1 h2 => ?_) (fun u hu => ?_) ..
  · rw [aX_k σ ⟨h1, by omega⟩]
    simp only [s_reg]
    rw [up_k (by omega), up_k (by omega), up_k (by omega), up_k (by omega)]
  · have hb := h.2.2.2.2
    rw [s_oth, e4, e5, hz u (by omega), s_ne]
    simp [n0]
/-- the desk's store behind isHindered -/
def s_hin (σ : tSt) (A : Int32 × Int32) (v : Int32) : tSt := if A.1 = 0 then up (s_reg σ v) 19 (nI 7) A.2 else up (up (up (s_reg σ v) 19 (nI 7) A.2) 0 (nI 8) A.1) 0 (nI 9) A.2
theorem s_hin_t {σ : tSt} {A : Int32 × Int32} {v : Int32} (h : A.1 = 0) : s_hin σ A v = up (s_reg σ v) 19 (nI 7) A.2 := by rw [s_hin, if_pos h]
theorem s_hin_f {σ : tSt} {A : Int32 × Int32} {v : Int32} (h : ¬ A.1 = 0) : s_hin σ A v = up (up (up (s_reg σ v) 19 (nI 7) A.2) 0 (nI 8) A.1) 0 (nI 9) A.2 := by rw [s_hin, if_neg h]
theorem s_hin_k {σ : tSt} {A : Int32 × Int32} {v : Int32} {k : Nat} (h : k ≠ 0) (h2 : k ≠ 19) : s_hin σ A v k = σ k := by
  unfold s_hin
  split <;> simp only [s_reg, up_k h, up_k h2]
theorem n_not {P : Prop} (h : ¬ ¬ P) : P := Classical.not_not.mp h
theorem k_X6_isHindered {σ : tSt} {v s a b : Int32} {n nC nV : Nat} (hv : vp_in v 40) (hs : vp_in s 24) (hV : σ 18 (nI 6) = nI nV) (hV40 : nV ≤ 40) (hcc : cOK σ) (hn : σ 17 (nI 10) = nI n) (hb : n ≤ 40) (hC : σ 17 (nI 11) = nI nC) (hC20 : nC ≤ 20) : CT mX6_isHindered [.ref 0, .int v, .int s, .int a, .int b] σ (PE (some (bi (¬ (s_agX (s_reg σ v) n nC nV s a b).1 = 0))) (s_hin σ (s_agX (s_reg σ v) n nC nV s a b) v)) := by
  refine CT.of2 1 (by decide) rfl rfl ?_
  refine tr_aload_n eX6_isHindered_0 rfl ?_
  refine tr_getR eX6_isHindered_1 fk_X6_28 rfl rfl ?_
  refine tr_iload_n eX6_isHindered_4 rfl ?_
  refine tr_ce1 eX6_isHindered_5 zv_X2_regard zi_X2_regard lk_X6_280 ⟨rfl, by decide, by decide⟩ rfl rfl rfl (show CT mX2_regard _ _ (PE none (s_reg σ v)) from k_X2_regard hv) ?_
  try simp (disch := decide) only [up_k, up_s, up_f]
  refine tr_aload_n eX6_isHindered_8 rfl ?_
  refine tr_getR eX6_isHindered_9 fk_X6_28 rfl rfl ?_
  refine tr_iload_n eX6_isHindered_12 rfl ?_
  refine tr_iload_n eX6_isHindered_13 rfl ?_
  refine tr_iload eX6_isHindered_14 rfl ?_
  refine tr_ce3 eX6_isHindered_16 zv_X2_against zi_X2_against lk_X6_263 ⟨rfl, by decide, by decide⟩ rfl rfl rfl (show CT mX2_against _ _ (PE (some (s_agX (s_reg σ v) n nC nV s a b).1) (up (s_reg σ v) 19 (nI 7) (s_agX (s_reg σ v) n nC nV s a b).2)) from k_X2_against (σ := s_reg σ v) hs hV hV40 hcc hn hb hC hC20) ?_
  try simp (disch := decide) only [up_k, up_s, up_f]
  refine tr_istore eX6_isHindered_19 (by decide) rfl ?_
  refine tr_iload eX6_isHindered_21 rfl ?_
  refine tr_if_ne eX6_isHindered_23 (fun h23 => ?_) (fun h23 => ?_)
  · skip
    refine tr_aload_n eX6_isHindered_28 rfl ?_
    refine tr_iload eX6_isHindered_29 rfl ?_
    refine tr_ce1 eX6_isHindered_31 zv_X6_keepReason zi_X6_keepReason lk_X6_212 ⟨rfl, by decide, by decide⟩ rfl rfl rfl k_X6_keepReason ?_
    try simp (disch := decide) only [up_k, up_s, up_f]
    refine tr_iconst eX6_isHindered_34 (nI 1) ci_1 ?_
    refine tr_ret eX6_isHindered_35 rfl (by first | rfl | exact nar_bi _) ?_
    exact ⟨congrArg some (bi_t h23), by rw [s_hin_f h23]⟩
  · skip
    refine tr_iconst eX6_isHindered_26 (nI 0) ci_0 ?_
    refine tr_ret eX6_isHindered_27 rfl (by first | rfl | exact nar_bi _) ?_
    exact ⟨congrArg some (bi_f (fun q => q h23)), by rw [s_hin_t h23]⟩

theorem cOK_aX {σ : tSt} (h : cOK (aX σ)) : cOK σ := fun u hu => by
  have := h u hu
  rw [aX_k σ (by decide)] at this
  exact this
theorem cOK_aM {σ : tSt} (h : cOK (aM σ)) : cOK σ := fun u hu => by
  have := h u hu
  rw [aM_k σ (by decide)] at this
  exact this
theorem sOK_aM {σ : tSt} (h : fOK (aM σ)) : sOK σ := fun u k hu hk h8 => by
  have := h.s u k hu (by rw [aM_k σ (by decide)]; exact hk) h8
  rw [aM_k σ (by decide), aM_k σ (by decide)] at this
  exact this
theorem pOK_aM {σ : tSt} {n : Nat} (h : pOK (aM σ) n) : pOK σ n := fun p hp => by
  have := h p hp
  rw [aM_k σ (by decide), aM_k σ (by decide)] at this
  exact this
theorem kOK_aM {σ : tSt} {n : Nat} (h : kOK (aM σ) n) : kOK σ n := fun p hp => by
  have := h p hp
  rw [aM_k σ (by decide), aM_k σ (by decide)] at this
  exact this
theorem k_X6_isHinderedA {σ : tSt} {v s a b : Int32} {nS nP nC nV : Nat} (hI : iA (aX σ) nS nP nC nV) (hz : aw0 σ) (hv : vp_in v 40) (hs : vp_in s 24) : CT mX6_isHindered [.ref 0, .int v, .int s, .int a, .int b] σ (PE (some (bi (¬ (s_A (aX σ) v s a b).1 = 0))) (s_hin σ (s_A (aX σ) v s a b) v)) := by
  have hN := hI.1
  have hP := hN.2.1.1
  rw [aX_1] at hP
  have hC := hN.2.2.1.1
  rw [aX_2] at hC
  have hV := hN.2.2.2.1
  rw [aX_3] at hV
  have h := k_X6_isHindered (a := a) (b := b) hv hs hV hN.2.2.2.2 (cOK_aX hI.2.1.1) hP hN.2.1.2 hC hN.2.2.1.2
  have e := s_A_X hN hz v s a b
  rw [e] at h
  exact h
theorem k_X7_againstOfA {τ : tSt} {v s a b x : Int32} {nS nP nC nV : Nat} (hI : iA (aM τ) nS nP nC nV) (hv : vp_in v 40) (hs : vp_in s 24) (hab : a < b) : CT mX7_againstOf [.ref 0, .int v, .int s, .int a, .int b] (up τ 0 (nI 0) x) (PE (some (s_A (aM τ) v s a b).1) (up (up τ 0 (nI 0) x) 0 (nI 24) (s_A (aM τ) v s a b).2)) := by
  have hN := hI.1
  have hP := hN.2.1.1
  rw [aM_1] at hP
  have hC := hN.2.2.1.1
  rw [aM_2] at hC
  have hV := hN.2.2.2.1
  rw [aM_3] at hV
  have h := k_X7_againstOf (σ := up τ 0 (nI 0) x) hv hab hs hV hN.2.2.2.2 (cOK_aM hI.2.1.1) (sOK_aM hI.2.1.2.1) hP hN.2.1.2 (pOK_aM hI.2.1.2.2.1) hC hN.2.2.1.2 (kOK_aM hI.2.1.2.2.2)
  have e : s_ag (up τ 0 (nI 0) x) nP nC nV (s_ne v) (s_kind (up τ 0 (nI 0) x) v) (s_wing (up τ 0 (nI 0) x) v) (s_need (up τ 0 (nI 0) x) v) s a b = s_A (aM τ) v s a b := by
    rw [s_A_of hN, s_kind_aM, s_wing_aM, s_need_aM]
    exact s_ag_same (fun k h1 h2 => by rw [up_k h1, aM_k τ ⟨h1, by omega⟩]) (fun _ _ => rfl) ..
  rw [e] at h
  exact h
def f_look (μ : tSt) (v s : Int32) : Int32 := if s_nst μ s then nI 1 else if s_nvi μ v then nI 2 else if s_unk μ v = true then nI 5 else nI 0
def f_put (μ : tSt) (v s : Int32) : Int32 := if s_nst μ s then nI 1 else if s_nvi μ v then nI 2 else if s_unk μ v = true then nI 5 else if s_put μ v = true then nI 6 else if ¬ μ 0 (nI 4) < s_in μ v then nI 7 else nI 0
theorem k_X6_faultOfLooking {σ : tSt} {nS nP nC nV : Nat} {v s : Int32} (hI : iN (aX σ) nS nP nC nV) : CT mX6_faultOfLooking [.ref 0, .int v, .int s] σ (PE (some (f_look (aX σ) v s)) σ) := by
  have hS := hI.1.1
  rw [aX_0] at hS
  have hP := hI.2.1.1
  rw [aX_1] at hP
  have hC := hI.2.2.1.1
  rw [aX_2] at hC
  have hV := hI.2.2.2.1
  rw [aX_3] at hV
  have hS24 := hI.1.2
  have hP40 := hI.2.1.2
  have hC20 := hI.2.2.1.2
  have hV40 := hI.2.2.2.2
  refine CT.of2 0 (by decide) rfl rfl ?_
  refine tr_aload_n eX6_faultOfLooking_0 rfl ?_
  refine tr_getR eX6_faultOfLooking_1 fk_X6_10 rfl rfl ?_
  refine tr_iload_n eX6_faultOfLooking_4 rfl ?_
  refine tr_ce1 eX6_faultOfLooking_5 zv_X1_hasStand zi_X1_hasStand lk_X6_88 ⟨rfl, by decide, by decide⟩ rfl rfl rfl k_X1_hasStand ?_
  refine tr_if_ne eX6_faultOfLooking_8 (fun h8 => ?_) (fun h8 => ?_)
  · skip
    try first | replace h8 := bi_0 h8 | replace h8 := bi_n h8
    refine tr_aload_n eX6_faultOfLooking_13 rfl ?_
    refine tr_getR eX6_faultOfLooking_14 fk_X6_19 rfl rfl ?_
    refine tr_iload_n eX6_faultOfLooking_17 rfl ?_
    refine tr_ce1 eX6_faultOfLooking_18 zv_X5_has zi_X5_has lk_X6_131 ⟨rfl, by decide, by decide⟩ rfl rfl rfl k_X5_has ?_
    refine tr_if_ne eX6_faultOfLooking_21 (fun h21 => ?_) (fun h21 => ?_)
    · skip
      try first | replace h21 := bi_0 h21 | replace h21 := bi_n h21
      have hin := in_has hV hV40 (by decide) h21
      refine tr_aload_n eX6_faultOfLooking_26 rfl ?_
      refine tr_getR eX6_faultOfLooking_27 fk_X6_19 rfl rfl ?_
      refine tr_iload_n eX6_faultOfLooking_30 rfl ?_
      refine tr_ce1 eX6_faultOfLooking_31 zv_X5_isUnknown zi_X5_isUnknown lk_X6_266 ⟨rfl, by decide, by decide⟩ rfl rfl rfl (k_X5_isUnknown (by first | with_reducible assumption | with_reducible exact in_slot (by with_reducible assumption) (by with_reducible assumption) | with_reducible exact in_row _ (by decide) (by with_reducible assumption) | with_reducible exact in_row0 (by with_reducible assumption) | with_reducible exact in_slot0 (by with_reducible assumption) | (simp (disch := decide) only [up_k, up_s, up_f] <;> with_reducible assumption))) ?_
      refine tr_if_eq eX6_faultOfLooking_34 (fun h34 => ?_) (fun h34 => ?_)
      · skip
        try first | replace h34 := bi_0 h34 | replace h34 := bi_n h34
        refine tr_iconst eX6_faultOfLooking_41 (nI 0) ci_0 ?_
        refine tr_ret eX6_faultOfLooking_42 rfl rfl ?_
        refine ⟨congrArg some ?_, rfl⟩
        simp (disch := decide) only [f_look, s_nst, s_nvi, s_kind_aX, s_wing_aX, s_in_aX, s_out_aX, s_need_aX, s_unk_aX, s_put_aX, aX_0, aX_1, aX_2, aX_3, aX_4, aX_5, aX_6, aX_7, aX_8, aX_9, aX_f17_9, aX_f17_10, aX_f17_11, aX_f18_6, aX_f18_7, aX_f0_6, aX_f0_7, aX_f0_8, aX_f0_9, aX_f25_1, aX_k] <;> simp_all [s_rf, s_gr, s_dn, s_al, n0, le_nlt, -Int32.not_lt, -Int32.not_le]
      · skip
        try first | replace h34 := bi_0 h34 | replace h34 := bi_n h34
        refine tr_iconst eX6_faultOfLooking_37 (nI 5) ci_5 ?_
        refine tr_goto eX6_faultOfLooking_38 ?_
        refine tr_ret eX6_faultOfLooking_42 rfl rfl ?_
        refine ⟨congrArg some ?_, rfl⟩
        simp (disch := decide) only [f_look, s_nst, s_nvi, s_kind_aX, s_wing_aX, s_in_aX, s_out_aX, s_need_aX, s_unk_aX, s_put_aX, aX_0, aX_1, aX_2, aX_3, aX_4, aX_5, aX_6, aX_7, aX_8, aX_9, aX_f17_9, aX_f17_10, aX_f17_11, aX_f18_6, aX_f18_7, aX_f0_6, aX_f0_7, aX_f0_8, aX_f0_9, aX_f25_1, aX_k] <;> simp_all [s_rf, s_gr, s_dn, s_al, n0, le_nlt, -Int32.not_lt, -Int32.not_le]
    · skip
      try first | replace h21 := bi_0 h21 | replace h21 := bi_n h21
      refine tr_iconst eX6_faultOfLooking_24 (nI 2) ci_2 ?_
      refine tr_ret eX6_faultOfLooking_25 rfl rfl ?_
      refine ⟨congrArg some ?_, rfl⟩
      simp (disch := decide) only [f_look, s_nst, s_nvi, s_kind_aX, s_wing_aX, s_in_aX, s_out_aX, s_need_aX, s_unk_aX, s_put_aX, aX_0, aX_1, aX_2, aX_3, aX_4, aX_5, aX_6, aX_7, aX_8, aX_9, aX_f17_9, aX_f17_10, aX_f17_11, aX_f18_6, aX_f18_7, aX_f0_6, aX_f0_7, aX_f0_8, aX_f0_9, aX_f25_1, aX_k] <;> simp_all [s_rf, s_gr, s_dn, s_al, n0, le_nlt, -Int32.not_lt, -Int32.not_le]
  · skip
    try first | replace h8 := bi_0 h8 | replace h8 := bi_n h8
    refine tr_iconst eX6_faultOfLooking_11 (nI 1) ci_1 ?_
    refine tr_ret eX6_faultOfLooking_12 rfl rfl ?_
    refine ⟨congrArg some ?_, rfl⟩
    simp (disch := decide) only [f_look, s_nst, s_nvi, s_kind_aX, s_wing_aX, s_in_aX, s_out_aX, s_need_aX, s_unk_aX, s_put_aX, aX_0, aX_1, aX_2, aX_3, aX_4, aX_5, aX_6, aX_7, aX_8, aX_9, aX_f17_9, aX_f17_10, aX_f17_11, aX_f18_6, aX_f18_7, aX_f0_6, aX_f0_7, aX_f0_8, aX_f0_9, aX_f25_1, aX_k] <;> simp_all [s_rf, s_gr, s_dn, s_al, n0, le_nlt, -Int32.not_lt, -Int32.not_le]

theorem f_look0 {μ : tSt} {v s : Int32} (h : f_look μ v s = 0) : ¬ s_nst μ s ∧ ¬ s_nvi μ v ∧ ¬ s_unk μ v = true := by
  unfold f_look at h
  split at h
  · exact absurd h (by decide)
  · split at h
    · exact absurd h (by decide)
    · split at h
      · exact absurd h (by decide)
      · exact ⟨by assumption, by assumption, by assumption⟩
theorem f_look_n {μ : tSt} {v s : Int32} (h : ¬ f_look μ v s = 0) : f_look μ v s = f_put μ v s := by
  unfold f_look f_put at *
  split
  · rfl
  · split
    · rfl
    · split
      · rfl
      · exact absurd (by rename_i a b c; rw [if_neg a, if_neg b, if_neg c]; rfl) h
theorem f_put0 {μ : tSt} {v s : Int32} (h : f_put μ v s = 0) : ¬ s_nst μ s ∧ ¬ s_nvi μ v ∧ ¬ s_unk μ v = true ∧ ¬ s_put μ v = true ∧ μ 0 (nI 4) < s_in μ v := by
  unfold f_put at h
  split at h
  · exact absurd h (by decide)
  · split at h
    · exact absurd h (by decide)
    · split at h
      · exact absurd h (by decide)
      · split at h
        · exact absurd h (by decide)
        · split at h
          · exact absurd h (by decide)
          · rename_i a b c d e
            exact ⟨a, b, c, d, n_not e⟩
theorem k_X6_faultOfPutting {σ : tSt} {nS nP nC nV : Nat} {v s : Int32} (hI : iN (aX σ) nS nP nC nV) : CT mX6_faultOfPutting [.ref 0, .int v, .int s] σ (PE (some (f_put (aX σ) v s)) σ) := by
  have hS := hI.1.1
  rw [aX_0] at hS
  have hP := hI.2.1.1
  rw [aX_1] at hP
  have hC := hI.2.2.1.1
  rw [aX_2] at hC
  have hV := hI.2.2.2.1
  rw [aX_3] at hV
  have hS24 := hI.1.2
  have hP40 := hI.2.1.2
  have hC20 := hI.2.2.1.2
  have hV40 := hI.2.2.2.2
  refine CT.of2 1 (by decide) rfl rfl ?_
  refine tr_aload_n eX6_faultOfPutting_0 rfl ?_
  refine tr_iload_n eX6_faultOfPutting_1 rfl ?_
  refine tr_iload_n eX6_faultOfPutting_2 rfl ?_
  refine tr_ce2 eX6_faultOfPutting_3 zv_X6_faultOfLooking zi_X6_faultOfLooking lk_X6_159 ⟨rfl, by decide, by decide⟩ rfl rfl rfl (k_X6_faultOfLooking hI) ?_
  try simp (disch := decide) only [up_k, up_s, up_f]
  refine tr_istore_n eX6_faultOfPutting_6 (by decide) rfl ?_
  refine tr_iload_n eX6_faultOfPutting_7 rfl ?_
  refine tr_if_eq eX6_faultOfPutting_8 (fun h8 => ?_) (fun h8 => ?_)
  · skip
    obtain ⟨q1, q2, q3⟩ := f_look0 h8
    have hin : vp_in v 40 := by rw [s_nvi, aX_3] at q2; exact in_has hV hV40 (by decide) (n_not q2)
    refine tr_aload_n eX6_faultOfPutting_13 rfl ?_
    refine tr_getR eX6_faultOfPutting_14 fk_X6_19 rfl rfl ?_
    refine tr_iload_n eX6_faultOfPutting_17 rfl ?_
    refine tr_ce1 eX6_faultOfPutting_18 zv_X5_isPut zi_X5_isPut lk_X6_137 ⟨rfl, by decide, by decide⟩ rfl rfl rfl (k_X5_isPut (by first | with_reducible assumption | with_reducible exact in_slot (by with_reducible assumption) (by with_reducible assumption) | with_reducible exact in_row _ (by decide) (by with_reducible assumption) | with_reducible exact in_row0 (by with_reducible assumption) | with_reducible exact in_slot0 (by with_reducible assumption) | (simp (disch := decide) only [up_k, up_s, up_f] <;> with_reducible assumption))) ?_
    try simp (disch := decide) only [up_k, up_s, up_f]
    refine tr_if_eq eX6_faultOfPutting_21 (fun h21 => ?_) (fun h21 => ?_)
    · skip
      try first | replace h21 := bi_0 h21 | replace h21 := bi_n h21
      refine tr_aload_n eX6_faultOfPutting_27 rfl ?_
      refine tr_getR eX6_faultOfPutting_28 fk_X6_19 rfl rfl ?_
      refine tr_iload_n eX6_faultOfPutting_31 rfl ?_
      refine tr_ce1 eX6_faultOfPutting_32 zv_X5_hasBegun zi_X5_hasBegun lk_X6_162 ⟨rfl, by decide, by decide⟩ rfl rfl rfl (k_X5_hasBegun (by first | with_reducible assumption | with_reducible exact in_slot (by with_reducible assumption) (by with_reducible assumption) | with_reducible exact in_row _ (by decide) (by with_reducible assumption) | with_reducible exact in_row0 (by with_reducible assumption) | with_reducible exact in_slot0 (by with_reducible assumption) | (simp (disch := decide) only [up_k, up_s, up_f] <;> with_reducible assumption))) ?_
      try simp (disch := decide) only [up_k, up_s, up_f]
      refine tr_if_eq eX6_faultOfPutting_35 (fun h35 => ?_) (fun h35 => ?_)
      · skip
        try first | replace h35 := bi_0 h35 | replace h35 := bi_n h35
        refine tr_iconst eX6_faultOfPutting_43 (nI 0) ci_0 ?_
        refine tr_ret eX6_faultOfPutting_44 rfl rfl ?_
        refine ⟨congrArg some ?_, rfl⟩
        rw [f_put, if_neg q1, if_neg q2, if_neg q3]
        simp only [s_put_aX, aX_4, s_in_aX, s_unk_aX] at *
        simp_all [s_rf, s_gr, s_dn, s_al, n0, le_nlt, -Int32.not_lt, -Int32.not_le, s_beg]
      · skip
        try first | replace h35 := bi_0 h35 | replace h35 := bi_n h35
        refine tr_bipush eX6_faultOfPutting_38 (nI 7) (by decide) ?_
        refine tr_goto eX6_faultOfPutting_40 ?_
        refine tr_ret eX6_faultOfPutting_44 rfl rfl ?_
        refine ⟨congrArg some ?_, rfl⟩
        rw [f_put, if_neg q1, if_neg q2, if_neg q3]
        simp only [s_put_aX, aX_4, s_in_aX, s_unk_aX] at *
        simp_all [s_rf, s_gr, s_dn, s_al, n0, le_nlt, -Int32.not_lt, -Int32.not_le, s_beg]
    · skip
      try first | replace h21 := bi_0 h21 | replace h21 := bi_n h21
      refine tr_bipush eX6_faultOfPutting_24 (nI 6) (by decide) ?_
      refine tr_ret eX6_faultOfPutting_26 rfl rfl ?_
      refine ⟨congrArg some ?_, rfl⟩
      rw [f_put, if_neg q1, if_neg q2, if_neg q3]
      simp only [s_put_aX, aX_4, s_in_aX, s_unk_aX] at *
      simp_all [s_rf, s_gr, s_dn, s_al, n0, le_nlt, -Int32.not_lt, -Int32.not_le, s_beg]
  · skip
    refine tr_iload_n eX6_faultOfPutting_11 rfl ?_
    refine tr_ret eX6_faultOfPutting_12 rfl rfl ?_
    exact ⟨congrArg some (f_look_n h8), rfl⟩

