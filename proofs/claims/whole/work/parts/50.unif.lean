theorem io_lt {μ : tSt} {nS nP nC nV v : Nat} (h : iA μ nS nP nC nV) (hv : v < nV) : s_in μ (nI v) < s_out μ (nI v) := by
  obtain ⟨a, b, e1, e2, h3, h4⟩ := h.2.2.1.1.io hv
  rw [e1, e2]; exact (nI_ltI (by omega) (by omega)).mpr h3
theorem stp_o {l : List Nat} {nS nP nC nV : Nat} {s : tSS} (hs : sOKs l nS nP nC nV s) (h0 : 0 < s.1) (ho : oOK s.2.2.2) : oOK (stp l nS s).2.2.2.2 := by
  obtain ⟨h1, h2, h3, h4, h5, h6⟩ := hs
  have hV40 := h3.1.2.2.2.2
  obtain ⟨hvV, hvu⟩ := h4 _ (getD_mem (l := l) (i := s.1 - 1) (by omega))
  have hoff := oOK_off ho (nI (l.getD (s.1 - 1) 0))
  have hset : ∀ c, oOK (s_set (up s.2.2.2 12 (nI (l.getD (s.1 - 1) 0)) (nI 0)) (nI (l.getD (s.1 - 1) 0)) c (s_in s.2.2.2 (nI (l.getD (s.1 - 1) 0))) (s_out s.2.2.2 (nI (l.getD (s.1 - 1) 0)))) := fun c => oOK_set hoff (by omega) (io_lt h3 hvV)
  unfold stp
  split
  · exact hoff
  · split
    · exact hoff
    · split
      · exact hoff
      · split
        · exact hset _
        · exact hset _
theorem runA_o {all : Bool} {l : List Nat} {nS nP nC nV : Nat} (hl : l.length ≤ 40) : ∀ (f : Nat) (s : tSS) (b : tBB), sOKs l nS nP nC nV s → oOK s.2.2.2 → oOK (runA all l nS f s b).2.1.2.2.2
  | 0, _, _, _, h => h
  | f + 1, s, b, hs, h => by
    simp only [runA]
    split
    · exact h
    · rename_i h0
      have hok := stp_ok hl hs (by omega)
      have ho := stp_o hs (by omega) h
      split
      · exact runA_o hl f _ _ hok ho
      · split
        · split
          · exact runA_o hl f _ _ hok ho
          · exact ho
        · exact ho
theorem offA_iA {nS nP nC nV : Nat} : ∀ (l : List Nat) {μ : tSt}, iA μ nS nP nC nV → oOK μ → (∀ v ∈ l, v < nV) → iA (offA l μ) nS nP nC nV ∧ oOK (offA l μ)
  | [], _, h, ho, _ => ⟨h, ho⟩
  | v :: l, μ, h, ho, hv => by
    rw [offA_c]
    exact offA_iA l (iA_off h (hv v (by simp))) (oOK_off ho _) (fun x hx => hv x (by simp [hx]))
theorem setA_iA {b : Int32 → Int32} {nS nP nC nV : Nat} : ∀ (l : List Nat) (i : Nat) {μ : tSt}, iA μ nS nP nC nV → oOK μ → (∀ v ∈ l, v < nV ∧ nI 2 < μ 11 (nI v)) → (∀ p, i ≤ p → p < i + l.length → ∃ c, c < nS ∧ b (nI p) = nI c) → iA (setA b i l μ) nS nP nC nV ∧ oOK (setA b i l μ)
  | [], _, _, h, ho, _, _ => ⟨h, ho⟩
  | v :: l, i, μ, h, ho, hv, hb => by
    rw [setA]
    have hV40 := h.1.2.2.2.2
    obtain ⟨h1, h2⟩ := hv v (by simp)
    obtain ⟨c, hc, ec⟩ := hb i (Nat.le_refl _) (by simp)
    obtain ⟨x, y, e1, e2, h3, h4⟩ := h.2.2.1.1.io h1
    have ho2 : oOK (s_set μ (nI v) (b (nI i)) (s_in μ (nI v)) (s_out μ (nI v))) := oOK_set ho (by omega) (io_lt h h1)
    refine setA_iA l (i + 1) ?_ ho2 (fun x hx => hv x (by simp [hx])) (fun p q1 q2 => hb p (by omega) (by simp only [List.length_cons]; omega))
    rw [ec, e1, e2]
    exact iA_set h h1 h2 hc h3 h4
theorem inv_srch {μ : tSt} (h : inv μ) (all : Bool) : inv (s_srchp all μ).2 := by
  unfold s_srchp
  split
  · exact inv_gr h _
  · rename_i hl0
    obtain ⟨nS, nP, nC, nV, hI, ho⟩ := h
    obtain ⟨h40, hND, hok, hpl⟩ := s_R_ok hI (fun _ => -1) rfl
    have hs0 := hok (by omega)
    have eS := tn_of hI.1.1.1 (by have := hI.1.1.2; omega)
    have hR : sOKs (l_srch μ) nS nP nC nV (s_R all μ).2.1 := by unfold s_R; rw [eS]; exact runA_ok h40 _ _ _ hs0
    have hRo : oOK (s_R all μ).2.1.2.2.2 := by unfold s_R; rw [eS]; exact runA_o h40 _ _ _ hs0 ho
    have hRb : BOK (l_srch μ).length nS (s_R all μ).2.2 := by unfold s_R; rw [eS]; exact runA_b h40 _ _ _ hs0 (Or.inl rfl)
    have hoff := offA_iA (l_srch μ) hR.2.2.1 hRo (fun v hv => (hR.2.2.2.1 v hv).1)
    split
    · exact inv_rf ⟨nS, nP, nC, nV, hoff.1, hoff.2⟩ _
    · split
      · exact inv_rf ⟨nS, nP, nC, nV, hoff.1, hoff.2⟩ _
      · rename_i hb
        refine inv_gr ?_ _
        have hb2 := (hRb.resolve_left (fun q => hb (by rw [q]; decide))).2
        have hset := setA_iA (b := (s_R all μ).2.2.2) (l_srch μ) 0 hoff.1 hoff.2 (fun v hv => ⟨(hR.2.2.2.1 v hv).1, by rw [offA_k (by decide)]; exact (hR.2.2.2.1 v hv).2⟩) (fun p _ q => hb2 p (by omega))
        exact ⟨nS, nP, nC, nV, hset.1, hset.2⟩
theorem oOK_ltP {μ : tSt} {nS nP nC nV u : Nat} (h : iA μ nS nP nC nV) (ho : oOK μ) (hu : u < nV) : oOK (ltP μ (nI u)) := by
  unfold ltP
  split
  · exact ho
  · exact oOK_set ho (by have := h.1.2.2.2.2; omega) (io_lt h hu)
theorem oOK_ltS {F : Int32 → Int32} {μ : tSt} {nS nP nC nV u : Nat} (h : iA μ nS nP nC nV) (ho : oOK μ) (hu : u < nV) : oOK (ltS F μ (nI u)) := by
  unfold ltS
  split
  · exact oOK_ltP h ho hu
  · exact oOK_ltP h ho hu
theorem ltB_ok {F : Int32 → Int32} {nS nP nC nV : Nat} : ∀ (l : List Nat) (n : Nat) {μ : tSt}, iA μ nS nP nC nV → oOK μ → (∀ v ∈ l, v < nV ∧ nI 2 < μ 11 (nI v)) → μ 0 (nI 9) = nI n → n + l.length ≤ 40 → iA (ltB F l μ) nS nP nC nV ∧ oOK (ltB F l μ)
  | [], _, _, h, ho, _, _, _ => ⟨h, ho⟩
  | u :: l, n, μ, h, ho, hv, hn, hl => by
    rw [ltB]
    have hl' : n + (l.length + 1) ≤ 40 := hl
    obtain ⟨h1, h2⟩ := hv u (by simp)
    obtain ⟨hI2, n', hn', h9'⟩ := ltS_ok (F := F) h h1 h2 hn (by omega)
    exact ltB_ok l n' hI2 (oOK_ltS h ho h1) (fun x hx => ⟨(hv x (by simp [hx])).1, by rw [ltS_11]; exact (hv x (by simp [hx])).2⟩) h9' (by omega)
theorem oOK_ltm {μ : tSt} {n c b m : Nat} (ho : oOK μ) (hn : n < 40) (hc : μ 12 (nI n) = nI c) (hc1 : 1 ≤ c) (hb : s_out μ (nI n) = nI b) (h3 : nI 3 < μ 11 (nI n)) (hbm : b < m) (hm : m ≤ 2880) : oOK (ltm μ (nI n) (nI m)) := by
  intro u k hu hk h8
  have hk' : nI k < μ 12 (nI u) := hk
  have := ho u k hu hk' h8
  refine (show μ 14 (nI u * nI 8 + nI k) < s_out (ltm μ (nI n) (nI m)) (nI u) from ?_)
  by_cases q : u = n
  · subst q
    have e : s_out (ltm μ (nI u) (nI m)) (nI u) = nI m := by
      unfold s_out ltm
      rw [up_k (k' := 11) (by decide), up_k (k' := 11) (by decide), if_neg (Int32.not_le.mpr h3), up_k (by decide), up_s]
    rw [e]
    rw [hb] at this
    exact i32_trans_le this (Int32.le_of_lt ((nI_ltI (by omega) (by omega)).mpr hbm))
  · have e : s_out (ltm μ (nI n) (nI m)) (nI u) = s_out μ (nI u) := by
      unfold s_out ltm
      rw [up_k (k' := 11) (by decide), up_k (k' := 11) (by decide), up_k (k' := 10) (by decide), up_n (rw_ne hu hn (by omega) (by omega) (fun z => q z.1))]
    rw [e]
    exact this
theorem inv_late {μ : tSt} (h : inv μ) (v t : Int32) : inv (s_latep μ v t).2 := by
  unfold s_latep
  split
  · exact inv_rf h _
  · rename_i hf
    split
    · exact inv_rf (inv_rs h _) _
    · refine inv_gr ?_ _
      obtain ⟨nS, nP, nC, nV, hI, ho⟩ := h
      have hV40 := hI.1.2.2.2.2
      obtain ⟨n, c, s, a, b, d, m, rfl, hnV, hc, hc1, hc8, hli, hs, hsS, ha, hb, hab, rfl, hbm, hm, h3, hd, hdb⟩ := late0 hI ho (n_not hf)
      rw [hli] at ha
      have hL := iA_ltm hI hnV hc hc1 hc8 ha hd hab hdb hbm hm
      have hLo := oOK_ltm ho (by omega) hc hc1 hb h3 hbm hm
      unfold s_LM
      rw [tn_of hI.1.2.2.2.1 (by omega)]
      have hlen : (sl μ (s_G μ (nI n) (nI m)).2 nV).length ≤ 40 := Nat.le_trans (SR_len (SR_sl (μ := μ) hV40) (fun x hx => (mem_sl.mp hx).1)) hV40
      have hr := ltB_ok (F := fun u => μ 13 (u * nI 8)) (sl μ (s_G μ (nI n) (nI m)).2 nV) 0 (iA_n9 (n := 0) (iA_vd hL (s_G μ (nI n) (nI m)).2) (by decide)) (oOK_vd hLo _) (fun x hx => ⟨(mem_sl.mp hx).1, ?_⟩) up_s (by omega)
      · exact ⟨nS, nP, nC, nV, hr.1, hr.2⟩
      · rw [up_k (by decide), vd_k (by decide)]
        exact s_G_unk hI _ _ x (mem_sl.mp hx).1 (mem_sl.mp hx).2
theorem putunk {μ : tSt} {nS nP nC nV : Nat} (h : iA μ nS nP nC nV) : ∀ u : Nat, u < 40 → s_put μ (nI u) = true → s_unk μ (nI u) = false := fun u hu q => by
  have hz : ¬ μ 12 (nI u) = nI 0 := fun z => by
    rw [s_put, decide_eq_true_eq, z] at q
    exact q (by decide)
  rw [s_unk]
  exact decide_eq_false (fun z => z (h.2.2.1.2.2.2 u hu hz))
def s_waitp (μ : tSt) : Int32 × tSt := (s_waiting μ (tn (μ 0 (nI 3))), μ)
theorem u_X_status {σ : tSt} (h : inv (aX σ)) (hz : aw0 σ) : CT mX6_status [.ref 0] σ (QY (s_status (aX σ))) := by
  obtain ⟨nS, nP, nC, nV, hI, ho⟩ := h
  exact CT.mono (k_X6_status hI.1) (fun r ω h => QX.y hz h)
theorem u_M_status {τ : tSt} (h : inv (aM τ)) : CT mX7_status [.ref 0] τ (QM (s_status (aM τ))) := by
  obtain ⟨nS, nP, nC, nV, hI, ho⟩ := h
  exact k_X7_status hI.1
theorem u_I_status {μ : tSt} (h : inv μ) : inv (s_status μ).2 := h
theorem u_X_reason {σ : tSt} {w : Int32} (h : inv (aX σ)) (hz : aw0 σ) : CT mX6_reason [.ref 0, .int w] σ (QY (s_reason (aX σ) w)) := by
  obtain ⟨nS, nP, nC, nV, hI, ho⟩ := h
  exact CT.mono (k_X6_reason hI.1) (fun r ω h => QX.y hz h)
theorem u_M_reason {τ : tSt} {w : Int32} (h : inv (aM τ)) : CT mX7_reason [.ref 0, .int w] τ (QM (s_reason (aM τ) w)) := by
  obtain ⟨nS, nP, nC, nV, hI, ho⟩ := h
  exact k_X7_reason hI.1
theorem u_I_reason {μ : tSt} {w : Int32} (h : inv μ) : inv (s_reason μ w).2 := h
theorem u_X_stand {σ : tSt} {k z : Int32} (h : inv (aX σ)) (hz : aw0 σ) : CT mX6_stand [.ref 0, .int k, .int z] σ (QY (s_stand (aX σ) k z)) := by
  obtain ⟨nS, nP, nC, nV, hI, ho⟩ := h
  exact CT.mono (k_X6_stand hI.1) (fun r ω h => QX.y hz h)
theorem u_M_stand {τ : tSt} {k z : Int32} (h : inv (aM τ)) : CT mX7_stand [.ref 0, .int k, .int z] τ (QM (s_stand (aM τ) k z)) := by
  obtain ⟨nS, nP, nC, nV, hI, ho⟩ := h
  exact k_X7_stand hI.1
theorem u_I_stand {μ : tSt} {k z : Int32} (h : inv μ) : inv (s_stand μ k z).2 := inv_stand h _ _
theorem u_X_ground {σ : tSt} {s w : Int32} (h : inv (aX σ)) (hz : aw0 σ) : CT mX6_ground [.ref 0, .int s, .int w] σ (QY (s_ground (aX σ) s w)) := by
  obtain ⟨nS, nP, nC, nV, hI, ho⟩ := h
  exact CT.mono (k_X6_ground hI.1) (fun r ω h => QX.y hz h)
theorem u_M_ground {τ : tSt} {s w : Int32} (h : inv (aM τ)) : CT mX7_ground [.ref 0, .int s, .int w] τ (QM (s_ground (aM τ) s w)) := by
  obtain ⟨nS, nP, nC, nV, hI, ho⟩ := h
  exact k_X7_ground hI.1
theorem u_I_ground {μ : tSt} {s w : Int32} (h : inv μ) : inv (s_ground μ s w).2 := inv_ground h _ _
theorem u_X_near {σ : tSt} {a b c d : Int32} (h : inv (aX σ)) (hz : aw0 σ) : CT mX6_near [.ref 0, .int a, .int b, .int c, .int d] σ (QY (s_nearp (aX σ) a b c d)) := by
  obtain ⟨nS, nP, nC, nV, hI, ho⟩ := h
  exact CT.mono (k_X6_near hI.1) (fun r ω h => QX.y hz h)
theorem u_M_near {τ : tSt} {a b c d : Int32} (h : inv (aM τ)) : CT mX7_near [.ref 0, .int a, .int b, .int c, .int d] τ (QM (s_nearp (aM τ) a b c d)) := by
  obtain ⟨nS, nP, nC, nV, hI, ho⟩ := h
  exact k_X7_near hI.1
theorem u_I_near {μ : tSt} {a b c d : Int32} (h : inv μ) : inv (s_nearp μ a b c d).2 := inv_near h _ _ _ _
theorem u_X_cone {σ : tSt} {s a b : Int32} (h : inv (aX σ)) (hz : aw0 σ) : CT mX6_cone [.ref 0, .int s, .int a, .int b] σ (QY (s_cone (aX σ) s a b)) := by
  obtain ⟨nS, nP, nC, nV, hI, ho⟩ := h
  exact CT.mono (k_X6_cone hI.1) (fun r ω h => QX.y hz h)
theorem u_M_cone {τ : tSt} {s a b : Int32} (h : inv (aM τ)) : CT mX7_cone [.ref 0, .int s, .int a, .int b] τ (QM (s_cone (aM τ) s a b)) := by
  obtain ⟨nS, nP, nC, nV, hI, ho⟩ := h
  exact k_X7_cone hI.1
theorem u_I_cone {μ : tSt} {s a b : Int32} (h : inv μ) : inv (s_cone μ s a b).2 := inv_cone h _ _ _
theorem u_X_towtime {σ : tSt} {x : Int32} (h : inv (aX σ)) (hz : aw0 σ) : CT mX6_towtime [.ref 0, .int x] σ (QY (s_towtime (aX σ) x)) := by
  obtain ⟨nS, nP, nC, nV, hI, ho⟩ := h
  exact CT.mono (k_X6_towtime hI.1) (fun r ω h => QX.y hz h)
theorem u_M_towtime {τ : tSt} {x : Int32} (h : inv (aM τ)) : CT mX7_towtime [.ref 0, .int x] τ (QM (s_towtime (aM τ) x)) := by
  obtain ⟨nS, nP, nC, nV, hI, ho⟩ := h
  exact k_X7_towtime hI.1
theorem u_I_towtime {μ : tSt} {x : Int32} (h : inv μ) : inv (s_towtime μ x).2 := inv_towtime h _
theorem u_X_visit {σ : tSt} {k w a b d : Int32} (h : inv (aX σ)) (hz : aw0 σ) : CT mX6_visit [.ref 0, .int k, .int w, .int a, .int b, .int d] σ (QY (s_visit (aX σ) k w a b d)) := by
  obtain ⟨nS, nP, nC, nV, hI, ho⟩ := h
  exact CT.mono (k_X6_visit hI.1) (fun r ω h => QX.y hz h)
theorem u_M_visit {τ : tSt} {k w a b d : Int32} (h : inv (aM τ)) : CT mX7_visit [.ref 0, .int k, .int w, .int a, .int b, .int d] τ (QM (s_visit (aM τ) k w a b d)) := by
  obtain ⟨nS, nP, nC, nV, hI, ho⟩ := h
  exact k_X7_visit hI.1 (fun u a b => by have := hI.2.2.1.2.1 u a b; rwa [aM_k _ (by decide)] at this)
theorem u_I_visit {μ : tSt} {k w a b d : Int32} (h : inv μ) : inv (s_visit μ k w a b d).2 := inv_visit h _ _ _ _ _
theorem u_X_tear {σ : tSt} {v k : Int32} (h : inv (aX σ)) (hz : aw0 σ) : CT mX6_tear [.ref 0, .int v, .int k] σ (QY (s_tear (aX σ) v k)) := by
  obtain ⟨nS, nP, nC, nV, hI, ho⟩ := h
  exact CT.mono (k_X6_tear hI.1) (fun r ω h => QX.y hz h)
theorem u_M_tear {τ : tSt} {v k : Int32} (h : inv (aM τ)) : CT mX7_tear [.ref 0, .int v, .int k] τ (QM (s_tear (aM τ) v k)) := by
  obtain ⟨nS, nP, nC, nV, hI, ho⟩ := h
  exact k_X7_tear hI.1
theorem u_I_tear {μ : tSt} {v k : Int32} (h : inv μ) : inv (s_tear μ v k).2 := inv_tear h _ _
theorem u_X_told {σ : tSt} {v k : Int32} (h : inv (aX σ)) (hz : aw0 σ) : CT mX6_told [.ref 0, .int v, .int k] σ (QY (s_told (aX σ) v k)) := by
  obtain ⟨nS, nP, nC, nV, hI, ho⟩ := h
  exact CT.mono (k_X6_told hI.1 (fun u hu => by have := hI.2.2.1.2.2.1 u hu; rwa [aX_k _ (by decide)] at this)) (fun r ω h => QX.y hz h)
theorem u_M_told {τ : tSt} {v k : Int32} (h : inv (aM τ)) : CT mX7_told [.ref 0, .int v, .int k] τ (QM (s_told (aM τ) v k)) := by
  obtain ⟨nS, nP, nC, nV, hI, ho⟩ := h
  exact k_X7_told hI.1 (fun u hu => by have := hI.2.2.1.2.2.1 u hu; rwa [aM_k _ (by decide)] at this)
theorem u_I_told {μ : tSt} {v k : Int32} (h : inv μ) : inv (s_told μ v k).2 := inv_told h _ _
theorem u_X_put {σ : tSt} {v s : Int32} (h : inv (aX σ)) (hz : aw0 σ) : CT mX6_put [.ref 0, .int v, .int s] σ (QY (s_putp (aX σ) v s)) := by
  obtain ⟨nS, nP, nC, nV, hI, ho⟩ := h
  exact CT.mono (k_X6_put hI hz) (fun r ω h => QX.y hz h)
theorem u_M_put {τ : tSt} {v s : Int32} (h : inv (aM τ)) : CT mX7_put [.ref 0, .int v, .int s] τ (QM (s_putp (aM τ) v s)) := by
  obtain ⟨nS, nP, nC, nV, hI, ho⟩ := h
  exact k_X7_put hI
theorem u_I_put {μ : tSt} {v s : Int32} (h : inv μ) : inv (s_putp μ v s).2 := inv_put h _ _
theorem u_X_why {σ : tSt} {v s : Int32} (h : inv (aX σ)) (hz : aw0 σ) : CT mX6_why [.ref 0, .int v, .int s] σ (QY (s_whyp (aX σ) v s)) := by
  obtain ⟨nS, nP, nC, nV, hI, ho⟩ := h
  exact CT.mono (k_X6_why hI hz) (fun r ω h => QX.y hz h)
theorem u_M_why {τ : tSt} {v s : Int32} (h : inv (aM τ)) : CT mX7_why [.ref 0, .int v, .int s] τ (QM (s_whyp (aM τ) v s)) := by
  obtain ⟨nS, nP, nC, nV, hI, ho⟩ := h
  exact k_X7_why hI
theorem u_I_why {μ : tSt} {v s : Int32} (h : inv μ) : inv (s_whyp μ v s).2 := inv_why h _ _
theorem u_X_off {σ : tSt} {v : Int32} (h : inv (aX σ)) (hz : aw0 σ) : CT mX6_off [.ref 0, .int v] σ (QY (s_offp (aX σ) v)) := by
  obtain ⟨nS, nP, nC, nV, hI, ho⟩ := h
  exact CT.mono (k_X6_offN hI.1 (fun u hu q => by rw [← s_unk_aX]; exact putunk hI u hu (by rw [s_put_aX]; exact q))) (fun r ω h => QX.y hz h)
theorem u_M_off {τ : tSt} {v : Int32} (h : inv (aM τ)) : CT mX7_off [.ref 0, .int v] τ (QM (s_offp (aM τ) v)) := by
  obtain ⟨nS, nP, nC, nV, hI, ho⟩ := h
  exact k_X7_off hI.1
theorem u_I_off {μ : tSt} {v : Int32} (h : inv μ) : inv (s_offp μ v).2 := inv_off h _
theorem u_X_tow {σ : tSt} {v m s : Int32} (h : inv (aX σ)) (hz : aw0 σ) : CT mX6_tow [.ref 0, .int v, .int m, .int s] σ (QY (s_towp (aX σ) v m s)) := by
  obtain ⟨nS, nP, nC, nV, hI, ho⟩ := h
  exact CT.mono (k_X6_tow hI hz) (fun r ω h => QX.y hz h)
theorem u_M_tow {τ : tSt} {v m s : Int32} (h : inv (aM τ)) : CT mX7_tow [.ref 0, .int v, .int m, .int s] τ (QM (s_towp (aM τ) v m s)) := by
  obtain ⟨nS, nP, nC, nV, hI, ho⟩ := h
  exact k_X7_tow hI
theorem u_I_tow {μ : tSt} {v m s : Int32} (h : inv μ) : inv (s_towp μ v m s).2 := inv_tow h _ _ _
theorem u_X_plan {σ : tSt} (h : inv (aX σ)) (hz : aw0 σ) : CT mX6_plan [.ref 0] σ (QY (s_planp (aX σ))) := by
  obtain ⟨nS, nP, nC, nV, hI, ho⟩ := h
  exact (k_X6_plan hI hz)
theorem u_M_plan {τ : tSt} (h : inv (aM τ)) : CT mX7_plan [.ref 0] τ (QM (s_planp (aM τ))) := by
  obtain ⟨nS, nP, nC, nV, hI, ho⟩ := h
  exact k_X7_plan hI
theorem u_I_plan {μ : tSt} (h : inv μ) : inv (s_planp μ).2 := inv_plan h
theorem u_X_search {σ : tSt} (h : inv (aX σ)) (hz : aw0 σ) : CT mX6_search [.ref 0] σ (QY (s_srchp false (aX σ))) := by
  obtain ⟨nS, nP, nC, nV, hI, ho⟩ := h
  exact (k_X6_search hI hz)
theorem u_M_search {τ : tSt} (h : inv (aM τ)) : CT mX7_search_ [.ref 0] τ (QM (s_srchp false (aM τ))) := by
  obtain ⟨nS, nP, nC, nV, hI, ho⟩ := h
  exact k_X7_search_ hI
theorem u_I_search {μ : tSt} (h : inv μ) : inv (s_srchp false μ).2 := inv_srch h false
theorem u_X_most {σ : tSt} (h : inv (aX σ)) (hz : aw0 σ) : CT mX6_most [.ref 0] σ (QY (s_srchp true (aX σ))) := by
  obtain ⟨nS, nP, nC, nV, hI, ho⟩ := h
  exact (k_X6_most hI hz)
theorem u_M_most {τ : tSt} (h : inv (aM τ)) : CT mX7_most [.ref 0] τ (QM (s_srchp true (aM τ))) := by
  obtain ⟨nS, nP, nC, nV, hI, ho⟩ := h
  exact k_X7_most hI
theorem u_I_most {μ : tSt} (h : inv μ) : inv (s_srchp true μ).2 := inv_srch h true
theorem u_X_late {σ : tSt} {v t : Int32} (h : inv (aX σ)) (hz : aw0 σ) : CT mX6_late [.ref 0, .int v, .int t] σ (QY (s_latep (aX σ) v t)) := by
  obtain ⟨nS, nP, nC, nV, hI, ho⟩ := h
  exact (k_X6_late hI hz ho)
theorem u_M_late {τ : tSt} {v t : Int32} (h : inv (aM τ)) : CT mX7_late [.ref 0, .int v, .int t] τ (QM (s_latep (aM τ) v t)) := by
  obtain ⟨nS, nP, nC, nV, hI, ho⟩ := h
  exact k_X7_late hI ho
theorem u_I_late {μ : tSt} {v t : Int32} (h : inv μ) : inv (s_latep μ v t).2 := inv_late h _ _
theorem u_X_changed {σ : tSt} {k : Int32} (h : inv (aX σ)) (hz : aw0 σ) : CT mX6_changed [.ref 0, .int k] σ (QY (s_changed (aX σ) k)) := by
  obtain ⟨nS, nP, nC, nV, hI, ho⟩ := h
  obtain ⟨c, hc, ec⟩ := hI.2.2.2.2.1.2.2
  rw [aX_9] at ec
  exact CT.mono (k_X6_changed hI.1 ec hc) (fun r ω h => QX.y hz h)
theorem u_M_changed {τ : tSt} {k : Int32} (h : inv (aM τ)) : CT mX7_changed [.ref 0, .int k] τ (QM (s_changed (aM τ) k)) := by
  obtain ⟨nS, nP, nC, nV, hI, ho⟩ := h
  obtain ⟨c, hc, ec⟩ := hI.2.2.2.2.1.2.2
  rw [aM_9] at ec
  exact k_X7_changed hI.1 ec hc
theorem u_I_changed {μ : tSt} {k : Int32} (h : inv μ) : inv (s_changed μ k).2 := h
theorem u_X_now {σ : tSt} {m : Int32} (h : inv (aX σ)) (hz : aw0 σ) : CT mX6_now [.ref 0, .int m] σ (QY (s_nowp (aX σ) m)) := by
  obtain ⟨nS, nP, nC, nV, hI, ho⟩ := h
  exact (k_X6_now hI hz)
theorem u_M_now {τ : tSt} {m : Int32} (h : inv (aM τ)) : CT mX7_now [.ref 0, .int m] τ (QM (s_nowp (aM τ) m)) := by
  obtain ⟨nS, nP, nC, nV, hI, ho⟩ := h
  exact k_X7_now hI
theorem u_I_now {μ : tSt} {m : Int32} (h : inv μ) : inv (s_nowp μ m).2 := inv_now h _
theorem u_X_waiting {σ : tSt} (h : inv (aX σ)) (hz : aw0 σ) : CT mX6_waiting [.ref 0] σ (QY (s_waitp (aX σ))) := by
  obtain ⟨nS, nP, nC, nV, hI, ho⟩ := h
  have e : s_waitp (aX σ) = (s_waiting (aX σ) nV, aX σ) := by rw [s_waitp, tn_of hI.1.2.2.2.1 (by have := hI.1.2.2.2.2; omega)]
  rw [e]
  exact CT.mono (k_X6_waiting hI.1) (fun r ω h => QX.y hz h)
theorem u_M_waiting {τ : tSt} (h : inv (aM τ)) : CT mX7_waiting [.ref 0] τ (QM (s_waitp (aM τ))) := by
  obtain ⟨nS, nP, nC, nV, hI, ho⟩ := h
  have e : s_waitp (aM τ) = (s_waiting (aM τ) nV, aM τ) := by rw [s_waitp, tn_of hI.1.2.2.2.1 (by have := hI.1.2.2.2.2; omega)]
  rw [e]
  exact k_X7_waiting hI.1
theorem u_I_waiting {μ : tSt} (h : inv μ) : inv (s_waitp μ).2 := h
theorem u_X_swap {σ : tSt} {a b : Int32} (h : inv (aX σ)) (hz : aw0 σ) : CT mX6_swap [.ref 0, .int a, .int b] σ (QY (s_swapp (aX σ) a b)) := by
  obtain ⟨nS, nP, nC, nV, hI, ho⟩ := h
  exact (k_X6_swap hI hz)
theorem u_M_swap {τ : tSt} {a b : Int32} (h : inv (aM τ)) : CT mX7_swap [.ref 0, .int a, .int b] τ (QM (s_swapp (aM τ) a b)) := by
  obtain ⟨nS, nP, nC, nV, hI, ho⟩ := h
  exact k_X7_swap hI
theorem u_I_swap {μ : tSt} {a b : Int32} (h : inv μ) : inv (s_swapp μ a b).2 := inv_swap h _ _
theorem u_X_stays {σ : tSt} {v : Int32} (h : inv (aX σ)) (hz : aw0 σ) : CT mX6_stays [.ref 0, .int v] σ (QY (s_stays (aX σ) v)) := by
  obtain ⟨nS, nP, nC, nV, hI, ho⟩ := h
  exact CT.mono (k_X6_stays hI.1) (fun r ω h => QX.y hz h)
theorem u_M_stays {τ : tSt} {v : Int32} (h : inv (aM τ)) : CT mX7_stays [.ref 0, .int v] τ (QM (s_stays (aM τ) v)) := by
  obtain ⟨nS, nP, nC, nV, hI, ho⟩ := h
  exact k_X7_stays hI.1
theorem u_I_stays {μ : tSt} {v : Int32} (h : inv μ) : inv (s_stays μ v).2 := inv_stays h _
theorem u_X_stay {σ : tSt} {v k w : Int32} (h : inv (aX σ)) (hz : aw0 σ) : CT mX6_stay [.ref 0, .int v, .int k, .int w] σ (QY (s_stay (aX σ) v k w)) := by
  obtain ⟨nS, nP, nC, nV, hI, ho⟩ := h
  exact CT.mono (k_X6_stay hI.1 (cOK_aX hI.2.1.1)) (fun r ω h => QX.y hz h)
theorem u_M_stay {τ : tSt} {v k w : Int32} (h : inv (aM τ)) : CT mX7_stay [.ref 0, .int v, .int k, .int w] τ (QM (s_stay (aM τ) v k w)) := by
  obtain ⟨nS, nP, nC, nV, hI, ho⟩ := h
  exact k_X7_stay hI.1 (cOK_aM hI.2.1.1)
theorem u_I_stay {μ : tSt} {v k w : Int32} (h : inv μ) : inv (s_stay μ v k w).2 := inv_stay h _ _ _
theorem u_X_at {σ : tSt} {s m k : Int32} (h : inv (aX σ)) (hz : aw0 σ) : CT mX6_at [.ref 0, .int s, .int m, .int k] σ (QY (s_atp (aX σ) s m k)) := by
  obtain ⟨nS, nP, nC, nV, hI, ho⟩ := h
  exact CT.mono (k_X6_at hI) (fun r ω h => QX.y hz h)
theorem u_M_at {τ : tSt} {s m k : Int32} (h : inv (aM τ)) : CT mX7_at [.ref 0, .int s, .int m, .int k] τ (QM (s_atp (aM τ) s m k)) := by
  obtain ⟨nS, nP, nC, nV, hI, ho⟩ := h
  exact k_X7_at hI
theorem u_I_at {μ : tSt} {s m k : Int32} (h : inv μ) : inv (s_atp μ s m k).2 := h
theorem u_X_crowd {σ : tSt} {m w k : Int32} (h : inv (aX σ)) (hz : aw0 σ) : CT mX6_crowd [.ref 0, .int m, .int w, .int k] σ (QY (s_crowdp (aX σ) m w k)) := by
  obtain ⟨nS, nP, nC, nV, hI, ho⟩ := h
  exact CT.mono (k_X6_crowd hI hz) (fun r ω h => QX.y hz h)
theorem u_M_crowd {τ : tSt} {m w k : Int32} (h : inv (aM τ)) : CT mX7_crowd [.ref 0, .int m, .int w, .int k] τ (QM (s_crowdp (aM τ) m w k)) := by
  obtain ⟨nS, nP, nC, nV, hI, ho⟩ := h
  exact k_X7_crowd hI
theorem u_I_crowd {μ : tSt} {m w k : Int32} (h : inv μ) : inv (s_crowdp μ m w k).2 := h
