def s_nbr (σ : tSt) (nP : Nat) (w u s a b : Int32) : Bool := an (fun k => s_hc a b (σ 14 (u * nI 8 + k)) (σ 15 (u * nI 8 + k)) && s_near σ nP s w (σ 13 (u * nI 8 + k)) (s_wing σ u)) (tn (σ 12 u)) 0
def s_fn (σ : tSt) (nP nV : Nat) (o : Int32 → Bool) (w s a b : Int32) : Int32 := fi (fun u => o u && s_nbr σ nP w u s a b) nV 0
def s_share (σ : tSt) (w u s : Int32) : Bool := decide (σ 1 s = nI 3) && decide (¬ σ 2 s / nI 2 < w) && decide (¬ σ 2 s / nI 2 < s_wing σ u)
def s_third (σ : tSt) (nV : Nat) (o : Int32 → Bool) (u s a b : Int32) : Bool := an (fun x => decide (¬ x = u) && o x && s_there σ x s a b) nV 0
def s_mx (a b : Int32) : Int32 := if a < b then b else a
def s_mn (a b : Int32) : Int32 := if b < a then b else a
def s_tk (σ : tSt) (nV : Nat) (o : Int32 → Bool) (w u s a b k : Int32) : Bool := s_sa σ u k s a b && (!s_share σ w u s || s_third σ nV o u s (s_mx a (σ 14 (u * nI 8 + k))) (s_mn b (σ 15 (u * nI 8 + k))))
def s_takes (σ : tSt) (nV : Nat) (o : Int32 → Bool) (w u s a b : Int32) : Bool := an (fun k => s_tk σ nV o w u s a b k) (tn (σ 12 u)) 0
def s_ft (σ : tSt) (nV : Nat) (o : Int32 → Bool) (w s a b : Int32) : Int32 := fi (fun u => o u && s_takes σ nV o w u s a b) nV 0
def s_unf (σ : tSt) (kd nd s a b : Int32) : Bool := (decide (nd = nI 1) && !s_gate σ s) || (decide (nd = nI 2) && decide (¬ σ 1 s = nI 5)) || (decide (kd = nI 3) && s_gate σ s) || (decide (kd = nI 2) && decide (σ 1 s = nI 5)) || (decide (kd = nI 4) && s_gate σ s && s_hc a b (nI 1320) (nI 1560))
/-- what is against it, and by whom -/
def s_ag (σ : tSt) (nP nC nV : Nat) (o : Int32 → Bool) (kd w nd s a b : Int32) : Int32 × Int32 :=
  if σ 2 s < w then (nI 1, -1) else if s_unf σ kd nd s a b then (nI 2, -1) else if s_fn σ nP nV o w s a b ≠ -1 then (nI 3, s_fn σ nP nV o w s a b) else
  if s_fc σ nC s a b ≠ -1 then (nI 4, s_fc σ nC s a b) else if s_ft σ nV o w s a b ≠ -1 then (nI 5, s_ft σ nV o w s a b) else (nI 0, -1)
def cOK (σ : tSt) : Prop := ∀ u : Nat, u < 40 → ∃ c : Nat, c ≤ 8 ∧ σ 12 (nI u) = nI c
theorem lp_X2_isNeighbour_3 {σ : tSt} {u s a b : Int32} {n cc : Nat} (hu : vp_in u 40) (hc : σ 12 u = nI cc) (hc8 : cc ≤ 8) (hn : σ 17 (nI 10) = nI n) (hb : n ≤ 40) : ∀ f i : Nat, i + f = cc → TT mX2_isNeighbour 3 [.ref 19, .int u, .int s, .int a, .int b, .int (nI i)] [] σ (PE (some (bi (an (fun k => s_hc a b (σ 14 (u * nI 8 + k)) (σ 15 (u * nI 8 + k)) && s_near σ n s (σ 19 (nI 5)) (σ 13 (u * nI 8 + k)) (s_wing σ u)) f i = true))) σ) := by
  intro f
  induction f with
  | zero =>
    intro i hi
    refine tr_iload eX2_isNeighbour_3 rfl ?_
    refine tr_aload_n eX2_isNeighbour_5 rfl ?_
    refine tr_getR eX2_isNeighbour_6 fk_X2_19 rfl rfl ?_
    refine tr_getR eX2_isNeighbour_9 fk_X2_113 rfl rfl ?_
    refine tr_iload_n eX2_isNeighbour_12 rfl ?_
    refine tr_iald eX2_isNeighbour_13 rfl (by first | with_reducible assumption | with_reducible exact in_slot (by with_reducible assumption) (by with_reducible assumption) | with_reducible exact in_row _ (by decide) (by with_reducible assumption) | with_reducible exact in_row0 (by with_reducible assumption) | with_reducible exact in_slot0 (by with_reducible assumption) | (simp (disch := decide) only [up_k, up_s, up_f] <;> with_reducible assumption)) ?_
    refine tr_icmp_ge eX2_isNeighbour_14 (fun h14 => ?_) (fun h14 => ?_)
    · skip
      refine tr_iconst eX2_isNeighbour_87 (nI 0) ci_0 ?_
      refine tr_ret eX2_isNeighbour_88 rfl (by first | rfl | exact nar_bi _) ?_
      exact ⟨congrArg some (bi_f (by simp [an])), rfl⟩
    · skip
      exact absurd (lt_of hc (by omega) (by omega) h14) (by omega)
  | succ f ih =>
    intro i hi
    refine tr_iload eX2_isNeighbour_3 rfl ?_
    refine tr_aload_n eX2_isNeighbour_5 rfl ?_
    refine tr_getR eX2_isNeighbour_6 fk_X2_19 rfl rfl ?_
    refine tr_getR eX2_isNeighbour_9 fk_X2_113 rfl rfl ?_
    refine tr_iload_n eX2_isNeighbour_12 rfl ?_
    refine tr_iald eX2_isNeighbour_13 rfl (by first | with_reducible assumption | with_reducible exact in_slot (by with_reducible assumption) (by with_reducible assumption) | with_reducible exact in_row _ (by decide) (by with_reducible assumption) | with_reducible exact in_row0 (by with_reducible assumption) | with_reducible exact in_slot0 (by with_reducible assumption) | (simp (disch := decide) only [up_k, up_s, up_f] <;> with_reducible assumption)) ?_
    refine tr_icmp_ge eX2_isNeighbour_14 (fun h14 => ?_) (fun h14 => ?_)
    · skip
      exact absurd (ge_of hc (by omega) (by omega) h14) (by omega)
    · skip
      have g14 := lt_of hc (by omega) (by omega) h14
      have hk : vp_in (nI i) 8 := vp_in_nI (by omega) (by decide)
      refine tr_iload_n eX2_isNeighbour_17 rfl ?_
      refine tr_iload eX2_isNeighbour_18 rfl ?_
      refine tr_aload_n eX2_isNeighbour_20 rfl ?_
      refine tr_getR eX2_isNeighbour_21 fk_X2_19 rfl rfl ?_
      refine tr_iload_n eX2_isNeighbour_24 rfl ?_
      refine tr_iload eX2_isNeighbour_25 rfl ?_
      refine tr_ce2 eX2_isNeighbour_27 zv_X5_fromOf zi_X5_fromOf lk_X2_116 ⟨rfl, by decide, by decide⟩ rfl rfl rfl (k_X5_fromOf (by first | with_reducible assumption | with_reducible exact in_slot (by with_reducible assumption) (by with_reducible assumption) | with_reducible exact in_row _ (by decide) (by with_reducible assumption) | with_reducible exact in_row0 (by with_reducible assumption) | with_reducible exact in_slot0 (by with_reducible assumption) | (simp (disch := decide) only [up_k, up_s, up_f] <;> with_reducible assumption)) (by first | with_reducible assumption | with_reducible exact in_slot (by with_reducible assumption) (by with_reducible assumption) | with_reducible exact in_row _ (by decide) (by with_reducible assumption) | with_reducible exact in_row0 (by with_reducible assumption) | with_reducible exact in_slot0 (by with_reducible assumption) | (simp (disch := decide) only [up_k, up_s, up_f] <;> with_reducible assumption))) ?_
      refine tr_aload_n eX2_isNeighbour_30 rfl ?_
      refine tr_getR eX2_isNeighbour_31 fk_X2_19 rfl rfl ?_
      refine tr_iload_n eX2_isNeighbour_34 rfl ?_
      refine tr_iload eX2_isNeighbour_35 rfl ?_
      refine tr_ce2 eX2_isNeighbour_37 zv_X5_endOf zi_X5_endOf lk_X2_120 ⟨rfl, by decide, by decide⟩ rfl rfl rfl (k_X5_endOf (by first | with_reducible assumption | with_reducible exact in_slot (by with_reducible assumption) (by with_reducible assumption) | with_reducible exact in_row _ (by decide) (by with_reducible assumption) | with_reducible exact in_row0 (by with_reducible assumption) | with_reducible exact in_slot0 (by with_reducible assumption) | (simp (disch := decide) only [up_k, up_s, up_f] <;> with_reducible assumption)) (by first | with_reducible assumption | with_reducible exact in_slot (by with_reducible assumption) (by with_reducible assumption) | with_reducible exact in_row _ (by decide) (by with_reducible assumption) | with_reducible exact in_row0 (by with_reducible assumption) | with_reducible exact in_slot0 (by with_reducible assumption) | (simp (disch := decide) only [up_k, up_s, up_f] <;> with_reducible assumption))) ?_
      refine tr_se4 eX2_isNeighbour_40 zv_X6_haveCommonMinute zs_X6_haveCommonMinute lk_X2_100 ⟨rfl, by decide, by decide⟩ rfl k_X6_haveCommonMinute ?_
      refine tr_if_eq eX2_isNeighbour_43 (fun h43 => ?_) (fun h43 => ?_)
      · skip
        try first | replace h43 := bi_0 h43 | replace h43 := bi_n h43
        refine tr_iinc eX2_isNeighbour_81 _ (by first | exact inc_n _ | rfl) rfl (by decide) rfl ?_
        refine tr_goto eX2_isNeighbour_84 ?_
        refine lpA (by simp_all) (ih (i + 1) (by omega))
      · skip
        try first | replace h43 := bi_0 h43 | replace h43 := bi_n h43
        refine tr_aload_n eX2_isNeighbour_46 rfl ?_
        refine tr_getR eX2_isNeighbour_47 fk_X2_15 rfl rfl ?_
        refine tr_iload_n eX2_isNeighbour_50 rfl ?_
        refine tr_aload_n eX2_isNeighbour_51 rfl ?_
        refine tr_getI eX2_isNeighbour_52 fk_X2_46 rfl rfl ?_
        refine tr_aload_n eX2_isNeighbour_55 rfl ?_
        refine tr_getR eX2_isNeighbour_56 fk_X2_19 rfl rfl ?_
        refine tr_iload_n eX2_isNeighbour_59 rfl ?_
        refine tr_iload eX2_isNeighbour_60 rfl ?_
        refine tr_ce2 eX2_isNeighbour_62 zv_X5_standOf zi_X5_standOf lk_X2_123 ⟨rfl, by decide, by decide⟩ rfl rfl rfl (k_X5_standOf (by first | with_reducible assumption | with_reducible exact in_slot (by with_reducible assumption) (by with_reducible assumption) | with_reducible exact in_row _ (by decide) (by with_reducible assumption) | with_reducible exact in_row0 (by with_reducible assumption) | with_reducible exact in_slot0 (by with_reducible assumption) | (simp (disch := decide) only [up_k, up_s, up_f] <;> with_reducible assumption)) (by first | with_reducible assumption | with_reducible exact in_slot (by with_reducible assumption) (by with_reducible assumption) | with_reducible exact in_row _ (by decide) (by with_reducible assumption) | with_reducible exact in_row0 (by with_reducible assumption) | with_reducible exact in_slot0 (by with_reducible assumption) | (simp (disch := decide) only [up_k, up_s, up_f] <;> with_reducible assumption))) ?_
        refine tr_aload_n eX2_isNeighbour_65 rfl ?_
        refine tr_getR eX2_isNeighbour_66 fk_X2_19 rfl rfl ?_
        refine tr_iload_n eX2_isNeighbour_69 rfl ?_
        refine tr_ce1 eX2_isNeighbour_70 zv_X5_wingOf zi_X5_wingOf lk_X2_43 ⟨rfl, by decide, by decide⟩ rfl rfl rfl (k_X5_wingOf (by first | with_reducible assumption | with_reducible exact in_slot (by with_reducible assumption) (by with_reducible assumption) | with_reducible exact in_row _ (by decide) (by with_reducible assumption) | with_reducible exact in_row0 (by with_reducible assumption) | with_reducible exact in_slot0 (by with_reducible assumption) | (simp (disch := decide) only [up_k, up_s, up_f] <;> with_reducible assumption))) ?_
        refine tr_ce4 eX2_isNeighbour_73 zv_X1_areTooNear zi_X1_areTooNear lk_X2_126 ⟨rfl, by decide, by decide⟩ rfl rfl rfl (k_X1_areTooNear (by first | with_reducible assumption | with_reducible exact in_slot (by with_reducible assumption) (by with_reducible assumption) | with_reducible exact in_row _ (by decide) (by with_reducible assumption) | with_reducible exact in_row0 (by with_reducible assumption) | with_reducible exact in_slot0 (by with_reducible assumption) | (simp (disch := decide) only [up_k, up_s, up_f] <;> with_reducible assumption)) (by first | with_reducible assumption | with_reducible exact in_slot (by with_reducible assumption) (by with_reducible assumption) | with_reducible exact in_row _ (by decide) (by with_reducible assumption) | with_reducible exact in_row0 (by with_reducible assumption) | with_reducible exact in_slot0 (by with_reducible assumption) | (simp (disch := decide) only [up_k, up_s, up_f] <;> with_reducible assumption))) ?_
        refine tr_if_eq eX2_isNeighbour_76 (fun h76 => ?_) (fun h76 => ?_)
        · skip
          try first | replace h76 := bi_0 h76 | replace h76 := bi_n h76
          refine tr_iinc eX2_isNeighbour_81 _ (by first | exact inc_n _ | rfl) rfl (by decide) rfl ?_
          refine tr_goto eX2_isNeighbour_84 ?_
          refine lpA (by simp_all) (ih (i + 1) (by omega))
        · skip
          try first | replace h76 := bi_0 h76 | replace h76 := bi_n h76
          refine tr_iconst eX2_isNeighbour_79 (nI 1) ci_1 ?_
          refine tr_ret eX2_isNeighbour_80 rfl (by first | rfl | exact nar_bi _) ?_
          exact ⟨congrArg some (bi_t (an_t (by simp_all))), rfl⟩
theorem k_X2_isNeighbour {σ : tSt} {u s a b : Int32} {n cc : Nat} (hu : vp_in u 40) (hc : σ 12 u = nI cc) (hc8 : cc ≤ 8) (hn : σ 17 (nI 10) = nI n) (hb : n ≤ 40) : CT mX2_isNeighbour [.ref 19, .int u, .int s, .int a, .int b] σ (PE (some (bi (s_nbr σ n (σ 19 (nI 5)) u s a b = true))) σ) := by
  refine CT.of2 1 (by decide) rfl rfl ?_
  refine tr_iconst eX2_isNeighbour_0 (nI 0) ci_0 ?_
  refine tr_istore eX2_isNeighbour_1 (by decide) rfl ?_
  rw [s_nbr, tn_of hc (by omega)]
  exact lp_X2_isNeighbour_3 hu hc hc8 hn hb cc 0 (by omega)

theorem lp_X2_firstNeighbour_3 {σ : tSt} {s a b : Int32} {n nV : Nat} (hV : σ 18 (nI 6) = nI nV) (hV40 : nV ≤ 40) (hcc : cOK σ) (hn : σ 17 (nI 10) = nI n) (hb : n ≤ 40) : ∀ f i : Nat, i + f = nV → TT mX2_firstNeighbour 3 [.ref 19, .int s, .int a, .int b, .int (nI i)] [] σ (PE (some (fi (fun u => s_oth σ u && s_nbr σ n (σ 19 (nI 5)) u s a b) f i)) σ) := by
  intro f
  induction f with
  | zero =>
    intro i hi
    refine tr_iload eX2_firstNeighbour_3 rfl ?_
    refine tr_aload_n eX2_firstNeighbour_5 rfl ?_
    refine tr_getR eX2_firstNeighbour_6 fk_X2_19 rfl rfl ?_
    refine tr_getI eX2_firstNeighbour_9 fk_X2_104 rfl rfl ?_
    refine tr_icmp_ge eX2_firstNeighbour_12 (fun h12 => ?_) (fun h12 => ?_)
    · skip
      refine tr_iconst eX2_firstNeighbour_45 (-1) ci_m1 ?_
      refine tr_ret eX2_firstNeighbour_46 rfl rfl ?_
      exact ⟨rfl, rfl⟩
    · skip
      exact absurd (lt_of hV (by omega) (by omega) h12) (by omega)
  | succ f ih =>
    intro i hi
    refine tr_iload eX2_firstNeighbour_3 rfl ?_
    refine tr_aload_n eX2_firstNeighbour_5 rfl ?_
    refine tr_getR eX2_firstNeighbour_6 fk_X2_19 rfl rfl ?_
    refine tr_getI eX2_firstNeighbour_9 fk_X2_104 rfl rfl ?_
    refine tr_icmp_ge eX2_firstNeighbour_12 (fun h12 => ?_) (fun h12 => ?_)
    · skip
      exact absurd (ge_of hV (by omega) (by omega) h12) (by omega)
    · skip
      have g12 := lt_of hV (by omega) (by omega) h12
      have hu : vp_in (nI i) 40 := vp_in_nI (by omega) (by decide)
      obtain ⟨cc, hc8, hc⟩ := hcc i (by omega)
      refine tr_aload_n eX2_firstNeighbour_15 rfl ?_
      refine tr_iload eX2_firstNeighbour_16 rfl ?_
      refine tr_ce1 eX2_firstNeighbour_18 zv_X2_isOther zi_X2_isOther lk_X2_107 ⟨rfl, by decide, by decide⟩ rfl rfl rfl (k_X2_isOther (by first | with_reducible assumption | with_reducible exact in_slot (by with_reducible assumption) (by with_reducible assumption) | with_reducible exact in_row _ (by decide) (by with_reducible assumption) | with_reducible exact in_row0 (by with_reducible assumption) | with_reducible exact in_slot0 (by with_reducible assumption) | (simp (disch := decide) only [up_k, up_s, up_f] <;> with_reducible assumption))) ?_
      try simp (disch := decide) only [up_k, up_s, up_f]
      refine tr_if_eq eX2_firstNeighbour_21 (fun h21 => ?_) (fun h21 => ?_)
      · skip
        try first | replace h21 := bi_0 h21 | replace h21 := bi_n h21
        refine tr_iinc eX2_firstNeighbour_39 _ (by first | exact inc_n _ | rfl) rfl (by decide) rfl ?_
        refine tr_goto eX2_firstNeighbour_42 ?_
        refine lpF (by simp_all) (ih (i + 1) (by omega))
      · skip
        try first | replace h21 := bi_0 h21 | replace h21 := bi_n h21
        refine tr_aload_n eX2_firstNeighbour_24 rfl ?_
        refine tr_iload eX2_firstNeighbour_25 rfl ?_
        refine tr_iload_n eX2_firstNeighbour_27 rfl ?_
        refine tr_iload_n eX2_firstNeighbour_28 rfl ?_
        refine tr_iload_n eX2_firstNeighbour_29 rfl ?_
        refine tr_ce4 eX2_firstNeighbour_30 zv_X2_isNeighbour zi_X2_isNeighbour lk_X2_110 ⟨rfl, by decide, by decide⟩ rfl rfl rfl (k_X2_isNeighbour (by first | with_reducible assumption | with_reducible exact in_slot (by with_reducible assumption) (by with_reducible assumption) | with_reducible exact in_row _ (by decide) (by with_reducible assumption) | with_reducible exact in_row0 (by with_reducible assumption) | with_reducible exact in_slot0 (by with_reducible assumption) | (simp (disch := decide) only [up_k, up_s, up_f] <;> with_reducible assumption)) (by first | with_reducible assumption | with_reducible exact in_slot (by with_reducible assumption) (by with_reducible assumption) | with_reducible exact in_row _ (by decide) (by with_reducible assumption) | with_reducible exact in_row0 (by with_reducible assumption) | with_reducible exact in_slot0 (by with_reducible assumption) | (simp (disch := decide) only [up_k, up_s, up_f] <;> with_reducible assumption)) (by first | with_reducible assumption | with_reducible exact in_slot (by with_reducible assumption) (by with_reducible assumption) | with_reducible exact in_row _ (by decide) (by with_reducible assumption) | with_reducible exact in_row0 (by with_reducible assumption) | with_reducible exact in_slot0 (by with_reducible assumption) | (simp (disch := decide) only [up_k, up_s, up_f] <;> with_reducible assumption)) (by first | with_reducible assumption | with_reducible exact in_slot (by with_reducible assumption) (by with_reducible assumption) | with_reducible exact in_row _ (by decide) (by with_reducible assumption) | with_reducible exact in_row0 (by with_reducible assumption) | with_reducible exact in_slot0 (by with_reducible assumption) | (simp (disch := decide) only [up_k, up_s, up_f] <;> with_reducible assumption)) (by first | with_reducible assumption | with_reducible exact in_slot (by with_reducible assumption) (by with_reducible assumption) | with_reducible exact in_row _ (by decide) (by with_reducible assumption) | with_reducible exact in_row0 (by with_reducible assumption) | with_reducible exact in_slot0 (by with_reducible assumption) | (simp (disch := decide) only [up_k, up_s, up_f] <;> with_reducible assumption))) ?_
        try simp (disch := decide) only [up_k, up_s, up_f]
        refine tr_if_eq eX2_firstNeighbour_33 (fun h33 => ?_) (fun h33 => ?_)
        · skip
          try first | replace h33 := bi_0 h33 | replace h33 := bi_n h33
          refine tr_iinc eX2_firstNeighbour_39 _ (by first | exact inc_n _ | rfl) rfl (by decide) rfl ?_
          refine tr_goto eX2_firstNeighbour_42 ?_
          refine lpF (by simp_all) (ih (i + 1) (by omega))
        · skip
          try first | replace h33 := bi_0 h33 | replace h33 := bi_n h33
          refine tr_iload eX2_firstNeighbour_36 rfl ?_
          refine tr_ret eX2_firstNeighbour_38 rfl rfl ?_
          exact ⟨congrArg some (fi_t (by simp_all)), rfl⟩
theorem k_X2_firstNeighbour {σ : tSt} {s a b : Int32} {n nV : Nat} (hV : σ 18 (nI 6) = nI nV) (hV40 : nV ≤ 40) (hcc : cOK σ) (hn : σ 17 (nI 10) = nI n) (hb : n ≤ 40) : CT mX2_firstNeighbour [.ref 19, .int s, .int a, .int b] σ (PE (some (s_fn σ n nV (s_oth σ) (σ 19 (nI 5)) s a b)) σ) := by
  refine CT.of2 1 (by decide) rfl rfl ?_
  refine tr_iconst eX2_firstNeighbour_0 (nI 0) ci_0 ?_
  refine tr_istore eX2_firstNeighbour_1 (by decide) rfl ?_
  exact lp_X2_firstNeighbour_3 hV hV40 hcc hn hb nV 0 (by omega)

theorem k_X2_mayShare {σ : tSt} {u s : Int32} (hu : vp_in u 40) (hs : vp_in s 24) : CT mX2_mayShare [.ref 19, .int u, .int s] σ (PE (some (bi (s_share σ (σ 19 (nI 5)) u s = true))) σ) := by
  refine CT.of2 1 (by decide) rfl rfl ?_
  refine tr_aload_n eX2_mayShare_0 rfl ?_
  refine tr_getR eX2_mayShare_1 fk_X2_15 rfl rfl ?_
  refine tr_iload_n eX2_mayShare_4 rfl ?_
  refine tr_ce1 eX2_mayShare_5 zv_X1_halfOf zi_X1_halfOf lk_X2_140 ⟨rfl, by decide, by decide⟩ rfl rfl rfl (k_X1_halfOf (by first | with_reducible assumption | with_reducible exact in_slot (by with_reducible assumption) (by with_reducible assumption) | with_reducible exact in_row _ (by decide) (by with_reducible assumption) | with_reducible exact in_row0 (by with_reducible assumption) | with_reducible exact in_slot0 (by with_reducible assumption) | (simp (disch := decide) only [up_k, up_s, up_f] <;> with_reducible assumption))) ?_
  refine tr_istore_n eX2_mayShare_8 (by decide) rfl ?_
  refine tr_aload_n eX2_mayShare_9 rfl ?_
  refine tr_getR eX2_mayShare_10 fk_X2_15 rfl rfl ?_
  refine tr_getR eX2_mayShare_13 fk_X2_77 rfl rfl ?_
  refine tr_iload_n eX2_mayShare_16 rfl ?_
  refine tr_iald eX2_mayShare_17 rfl (by first | with_reducible assumption | with_reducible exact in_slot (by with_reducible assumption) (by with_reducible assumption) | with_reducible exact in_row _ (by decide) (by with_reducible assumption) | with_reducible exact in_row0 (by with_reducible assumption) | with_reducible exact in_slot0 (by with_reducible assumption) | (simp (disch := decide) only [up_k, up_s, up_f] <;> with_reducible assumption)) ?_
  refine tr_iconst eX2_mayShare_18 (nI 3) ci_3 ?_
  refine tr_icmp_ne eX2_mayShare_19 (fun h19 => ?_) (fun h19 => ?_)
  · skip
    refine tr_iconst eX2_mayShare_46 (nI 0) ci_0 ?_
    refine tr_ret eX2_mayShare_47 rfl (by first | rfl | exact nar_bi _) ?_
    refine ⟨congrArg some ?_, rfl⟩
    first | (refine bi_t ?_; simp_all [s_share]; done) | (refine bi_f ?_; simp_all [s_share]; done) | (refine bi_f ?_; simp_all [s_share]; simp only [Int32.lt_iff_toInt_lt, Int32.le_iff_toInt_le] at *; omega)
  · skip
    refine tr_aload_n eX2_mayShare_22 rfl ?_
    refine tr_getI eX2_mayShare_23 fk_X2_46 rfl rfl ?_
    refine tr_iload_n eX2_mayShare_26 rfl ?_
    refine tr_icmp_gt eX2_mayShare_27 (fun h27 => ?_) (fun h27 => ?_)
    · skip
      refine tr_iconst eX2_mayShare_46 (nI 0) ci_0 ?_
      refine tr_ret eX2_mayShare_47 rfl (by first | rfl | exact nar_bi _) ?_
      refine ⟨congrArg some ?_, rfl⟩
      first | (refine bi_t ?_; simp_all [s_share]; done) | (refine bi_f ?_; simp_all [s_share]; done) | (refine bi_f ?_; simp_all [s_share]; simp only [Int32.lt_iff_toInt_lt, Int32.le_iff_toInt_le] at *; omega)
    · skip
      refine tr_aload_n eX2_mayShare_30 rfl ?_
      refine tr_getR eX2_mayShare_31 fk_X2_19 rfl rfl ?_
      refine tr_iload_n eX2_mayShare_34 rfl ?_
      refine tr_ce1 eX2_mayShare_35 zv_X5_wingOf zi_X5_wingOf lk_X2_43 ⟨rfl, by decide, by decide⟩ rfl rfl rfl (k_X5_wingOf (by first | with_reducible assumption | with_reducible exact in_slot (by with_reducible assumption) (by with_reducible assumption) | with_reducible exact in_row _ (by decide) (by with_reducible assumption) | with_reducible exact in_row0 (by with_reducible assumption) | with_reducible exact in_slot0 (by with_reducible assumption) | (simp (disch := decide) only [up_k, up_s, up_f] <;> with_reducible assumption))) ?_
      refine tr_iload_n eX2_mayShare_38 rfl ?_
      refine tr_icmp_gt eX2_mayShare_39 (fun h39 => ?_) (fun h39 => ?_)
      · skip
        refine tr_iconst eX2_mayShare_46 (nI 0) ci_0 ?_
        refine tr_ret eX2_mayShare_47 rfl (by first | rfl | exact nar_bi _) ?_
        refine ⟨congrArg some ?_, rfl⟩
        first | (refine bi_t ?_; simp_all [s_share]; done) | (refine bi_f ?_; simp_all [s_share]; done) | (refine bi_f ?_; simp_all [s_share]; simp only [Int32.lt_iff_toInt_lt, Int32.le_iff_toInt_le] at *; omega)
      · skip
        refine tr_iconst eX2_mayShare_42 (nI 1) ci_1 ?_
        refine tr_goto eX2_mayShare_43 ?_
        refine tr_ret eX2_mayShare_47 rfl (by first | rfl | exact nar_bi _) ?_
        refine ⟨congrArg some ?_, rfl⟩
        first | (refine bi_t ?_; simp_all [s_share]; done) | (refine bi_f ?_; simp_all [s_share]; done) | (refine bi_f ?_; simp_all [s_share]; simp only [Int32.lt_iff_toInt_lt, Int32.le_iff_toInt_le] at *; omega)

theorem lp_X2_isThirdThere_60 {σ : tSt} {u k a b s ca cb : Int32} {nV : Nat} (hV : σ 18 (nI 6) = nI nV) (hV40 : nV ≤ 40) (hcc : cOK σ) {Q : Option Int32 → tSt → Prop} {x : Int32} {cc : Nat} (hx : vp_in x 40) (hc : σ 12 x = nI cc) (hc8 : cc ≤ 8) (hxu : ¬ x = u) (ho : s_oth σ x = true) :
    ∀ f j : Nat, j + f = cc → (an (fun j => s_sa σ x j s ca cb) f j = true → Q (some (nI 1)) σ) → (an (fun j => s_sa σ x j s ca cb) f j = false → TT mX2_isThirdThere 118 [.ref 19, .int u, .int k, .int a, .int b, .int s, .int ca, .int cb, .int x, .null] [] σ Q) → TT mX2_isThirdThere 60 [.ref 19, .int u, .int k, .int a, .int b, .int s, .int ca, .int cb, .int x, .int (nI j)] [] σ Q := by
  intro f
  induction f with
  | zero =>
    intro j hj kT kF
    refine tr_iload eX2_isThirdThere_60 rfl ?_
    refine tr_iload_n eX2_isThirdThere_62 rfl ?_
    refine tr_icmp_eq eX2_isThirdThere_63 (fun h63 => ?_) (fun h63 => ?_)
    · skip
      exact absurd h63 hxu
    · skip
      refine tr_aload_n eX2_isThirdThere_66 rfl ?_
      refine tr_iload eX2_isThirdThere_67 rfl ?_
      refine tr_ce1 eX2_isThirdThere_69 zv_X2_isOther zi_X2_isOther lk_X2_107 ⟨rfl, by decide, by decide⟩ rfl rfl rfl (k_X2_isOther (by first | with_reducible assumption | with_reducible exact in_slot (by with_reducible assumption) (by with_reducible assumption) | with_reducible exact in_row _ (by decide) (by with_reducible assumption) | with_reducible exact in_row0 (by with_reducible assumption) | with_reducible exact in_slot0 (by with_reducible assumption) | (simp (disch := decide) only [up_k, up_s, up_f] <;> with_reducible assumption))) ?_
      try simp (disch := decide) only [up_k, up_s, up_f]
      refine tr_if_eq eX2_isThirdThere_72 (fun h72 => ?_) (fun h72 => ?_)
      · skip
        try first | replace h72 := bi_0 h72 | replace h72 := bi_n h72
        exact absurd ho h72
      · skip
        try first | replace h72 := bi_0 h72 | replace h72 := bi_n h72
        refine tr_iload eX2_isThirdThere_75 rfl ?_
        refine tr_aload_n eX2_isThirdThere_77 rfl ?_
        refine tr_getR eX2_isThirdThere_78 fk_X2_19 rfl rfl ?_
        refine tr_getR eX2_isThirdThere_81 fk_X2_113 rfl rfl ?_
        refine tr_iload eX2_isThirdThere_84 rfl ?_
        refine tr_iald eX2_isThirdThere_86 rfl (by first | with_reducible assumption | with_reducible exact in_slot (by with_reducible assumption) (by with_reducible assumption) | with_reducible exact in_row _ (by decide) (by with_reducible assumption) | with_reducible exact in_row0 (by with_reducible assumption) | with_reducible exact in_slot0 (by with_reducible assumption) | (simp (disch := decide) only [up_k, up_s, up_f] <;> with_reducible assumption)) ?_
        try simp (disch := decide) only [up_k, up_s, up_f]
        refine tr_icmp_ge eX2_isThirdThere_87 (fun h87 => ?_) (fun h87 => ?_)
        · skip
          exact TT.fg [9] (kF rfl)
        · skip
          exact absurd (lt_of hc (by omega) (by omega) h87) (by omega)
  | succ f ih =>
    intro j hj kT kF
    refine tr_iload eX2_isThirdThere_60 rfl ?_
    refine tr_iload_n eX2_isThirdThere_62 rfl ?_
    refine tr_icmp_eq eX2_isThirdThere_63 (fun h63 => ?_) (fun h63 => ?_)
    · skip
      exact absurd h63 hxu
    · skip
      refine tr_aload_n eX2_isThirdThere_66 rfl ?_
      refine tr_iload eX2_isThirdThere_67 rfl ?_
      refine tr_ce1 eX2_isThirdThere_69 zv_X2_isOther zi_X2_isOther lk_X2_107 ⟨rfl, by decide, by decide⟩ rfl rfl rfl (k_X2_isOther (by first | with_reducible assumption | with_reducible exact in_slot (by with_reducible assumption) (by with_reducible assumption) | with_reducible exact in_row _ (by decide) (by with_reducible assumption) | with_reducible exact in_row0 (by with_reducible assumption) | with_reducible exact in_slot0 (by with_reducible assumption) | (simp (disch := decide) only [up_k, up_s, up_f] <;> with_reducible assumption))) ?_
      try simp (disch := decide) only [up_k, up_s, up_f]
      refine tr_if_eq eX2_isThirdThere_72 (fun h72 => ?_) (fun h72 => ?_)
      · skip
        try first | replace h72 := bi_0 h72 | replace h72 := bi_n h72
        exact absurd ho h72
      · skip
        try first | replace h72 := bi_0 h72 | replace h72 := bi_n h72
        refine tr_iload eX2_isThirdThere_75 rfl ?_
        refine tr_aload_n eX2_isThirdThere_77 rfl ?_
        refine tr_getR eX2_isThirdThere_78 fk_X2_19 rfl rfl ?_
        refine tr_getR eX2_isThirdThere_81 fk_X2_113 rfl rfl ?_
        refine tr_iload eX2_isThirdThere_84 rfl ?_
        refine tr_iald eX2_isThirdThere_86 rfl (by first | with_reducible assumption | with_reducible exact in_slot (by with_reducible assumption) (by with_reducible assumption) | with_reducible exact in_row _ (by decide) (by with_reducible assumption) | with_reducible exact in_row0 (by with_reducible assumption) | with_reducible exact in_slot0 (by with_reducible assumption) | (simp (disch := decide) only [up_k, up_s, up_f] <;> with_reducible assumption)) ?_
        try simp (disch := decide) only [up_k, up_s, up_f]
        refine tr_icmp_ge eX2_isThirdThere_87 (fun h87 => ?_) (fun h87 => ?_)
        · skip
          exact absurd (ge_of hc (by omega) (by omega) h87) (by omega)
        · skip
          have hk : vp_in (nI j) 8 := vp_in_nI (by have := lt_of hc (by omega) (by omega) h87; omega) (by decide)
          refine tr_aload_n eX2_isThirdThere_90 rfl ?_
          refine tr_getR eX2_isThirdThere_91 fk_X2_19 rfl rfl ?_
          refine tr_iload eX2_isThirdThere_94 rfl ?_
          refine tr_iload eX2_isThirdThere_96 rfl ?_
          refine tr_iload eX2_isThirdThere_98 rfl ?_
          refine tr_iload eX2_isThirdThere_100 rfl ?_
          refine tr_iload eX2_isThirdThere_102 rfl ?_
          refine tr_ce5 eX2_isThirdThere_104 zv_X5_isStayAt zi_X5_isStayAt lk_X2_129 ⟨rfl, by decide, by decide⟩ rfl rfl rfl (k_X5_isStayAt (by first | with_reducible assumption | with_reducible exact in_slot (by with_reducible assumption) (by with_reducible assumption) | with_reducible exact in_row _ (by decide) (by with_reducible assumption) | with_reducible exact in_row0 (by with_reducible assumption) | with_reducible exact in_slot0 (by with_reducible assumption) | (simp (disch := decide) only [up_k, up_s, up_f] <;> with_reducible assumption)) (by first | with_reducible assumption | with_reducible exact in_slot (by with_reducible assumption) (by with_reducible assumption) | with_reducible exact in_row _ (by decide) (by with_reducible assumption) | with_reducible exact in_row0 (by with_reducible assumption) | with_reducible exact in_slot0 (by with_reducible assumption) | (simp (disch := decide) only [up_k, up_s, up_f] <;> with_reducible assumption))) ?_
          try simp (disch := decide) only [up_k, up_s, up_f]
          refine tr_if_eq eX2_isThirdThere_107 (fun h107 => ?_) (fun h107 => ?_)
          · skip
            try first | replace h107 := bi_0 h107 | replace h107 := bi_n h107
            refine tr_iinc eX2_isThirdThere_112 _ (by first | exact inc_n _ | rfl) rfl (by decide) rfl ?_
            refine tr_goto eX2_isThirdThere_115 ?_
            exact ih (j + 1) (by omega) (fun h => kT (by simp_all [an])) (fun h => kF (by simp_all [an]))
          · skip
            try first | replace h107 := bi_0 h107 | replace h107 := bi_n h107
            refine tr_iconst eX2_isThirdThere_110 (nI 1) ci_1 ?_
            refine tr_ret eX2_isThirdThere_111 rfl (by first | rfl | exact nar_bi _) ?_
            exact kT (by simp_all [an])
theorem lp_X2_isThirdThere_45 {σ : tSt} {u k a b s ca cb : Int32} {nV : Nat} (hV : σ 18 (nI 6) = nI nV) (hV40 : nV ≤ 40) (hcc : cOK σ) : ∀ f i : Nat, i + f = nV → TT mX2_isThirdThere 45 [.ref 19, .int u, .int k, .int a, .int b, .int s, .int ca, .int cb, .int (nI i), .null] [] σ (PE (some (bi (an (fun x => decide (¬ x = u) && s_oth σ x && s_there σ x s ca cb) f i = true))) σ) := by
  intro f
  induction f with
  | zero =>
    intro i hi
    refine tr_iload eX2_isThirdThere_45 rfl ?_
    refine tr_aload_n eX2_isThirdThere_47 rfl ?_
    refine tr_getR eX2_isThirdThere_48 fk_X2_19 rfl rfl ?_
    refine tr_getI eX2_isThirdThere_51 fk_X2_104 rfl rfl ?_
    refine tr_icmp_ge eX2_isThirdThere_54 (fun h54 => ?_) (fun h54 => ?_)
    · skip
      refine tr_iconst eX2_isThirdThere_124 (nI 0) ci_0 ?_
      refine tr_ret eX2_isThirdThere_125 rfl (by first | rfl | exact nar_bi _) ?_
      exact ⟨congrArg some (bi_f (by simp [an])), rfl⟩
    · skip
      exact absurd (lt_of hV (by omega) (by omega) h54) (by omega)
  | succ f ih =>
    intro i hi
    refine tr_iload eX2_isThirdThere_45 rfl ?_
    refine tr_aload_n eX2_isThirdThere_47 rfl ?_
    refine tr_getR eX2_isThirdThere_48 fk_X2_19 rfl rfl ?_
    refine tr_getI eX2_isThirdThere_51 fk_X2_104 rfl rfl ?_
    refine tr_icmp_ge eX2_isThirdThere_54 (fun h54 => ?_) (fun h54 => ?_)
    · skip
      exact absurd (ge_of hV (by omega) (by omega) h54) (by omega)
    · skip
      have g54 := lt_of hV (by omega) (by omega) h54
      have hu : vp_in (nI i) 40 := vp_in_nI (by omega) (by decide)
      obtain ⟨cc, hc8, hc⟩ := hcc i (by omega)
      refine tr_iconst eX2_isThirdThere_57 (nI 0) ci_0 ?_
      refine tr_istore eX2_isThirdThere_58 (by decide) rfl ?_
      by_cases hxu : nI i = u
      · skip
        refine tr_iload eX2_isThirdThere_60 rfl ?_
        refine tr_iload_n eX2_isThirdThere_62 rfl ?_
        refine tr_icmp_eq eX2_isThirdThere_63 (fun h63 => ?_) (fun h63 => ?_)
        · skip
          refine tr_iinc eX2_isThirdThere_118 _ (by first | exact inc_n _ | rfl) rfl (by decide) rfl ?_
          refine tr_goto eX2_isThirdThere_121 ?_
          refine TT.fg [9] ?_
          refine lpA (by simp_all) (ih (i + 1) (by omega))
        · skip
          exact absurd hxu h63
      · by_cases ho : s_oth σ (nI i) = true
        · refine lp_X2_isThirdThere_60 hV hV40 hcc hu hc hc8 hxu ho cc 0 (by omega) (fun h => ?_) (fun h => ?_)
          · have e : s_there σ (nI i) s ca cb = true := by rw [s_there, tn_of hc (by omega)]; exact h
            exact ⟨congrArg some (bi_t (an_t (by simp_all))), rfl⟩
          · have e : s_there σ (nI i) s ca cb = false := by rw [s_there, tn_of hc (by omega)]; exact h
            refine tr_iinc eX2_isThirdThere_118 _ (by first | exact inc_n _ | rfl) rfl (by decide) rfl ?_
            refine tr_goto eX2_isThirdThere_121 ?_
            refine lpA (by simp_all) (ih (i + 1) (by omega))
        · skip
          refine tr_iload eX2_isThirdThere_60 rfl ?_
          refine tr_iload_n eX2_isThirdThere_62 rfl ?_
          refine tr_icmp_eq eX2_isThirdThere_63 (fun h63 => ?_) (fun h63 => ?_)
          · skip
            exact absurd h63 hxu
          · skip
            refine tr_aload_n eX2_isThirdThere_66 rfl ?_
            refine tr_iload eX2_isThirdThere_67 rfl ?_
            refine tr_ce1 eX2_isThirdThere_69 zv_X2_isOther zi_X2_isOther lk_X2_107 ⟨rfl, by decide, by decide⟩ rfl rfl rfl (k_X2_isOther (by first | with_reducible assumption | with_reducible exact in_slot (by with_reducible assumption) (by with_reducible assumption) | with_reducible exact in_row _ (by decide) (by with_reducible assumption) | with_reducible exact in_row0 (by with_reducible assumption) | with_reducible exact in_slot0 (by with_reducible assumption) | (simp (disch := decide) only [up_k, up_s, up_f] <;> with_reducible assumption))) ?_
            try simp (disch := decide) only [up_k, up_s, up_f]
            refine tr_if_eq eX2_isThirdThere_72 (fun h72 => ?_) (fun h72 => ?_)
            · skip
              try first | replace h72 := bi_0 h72 | replace h72 := bi_n h72
              refine tr_iinc eX2_isThirdThere_118 _ (by first | exact inc_n _ | rfl) rfl (by decide) rfl ?_
              refine tr_goto eX2_isThirdThere_121 ?_
              refine TT.fg [9] ?_
              refine lpA (by simp_all) (ih (i + 1) (by omega))
            · skip
              try first | replace h72 := bi_0 h72 | replace h72 := bi_n h72
              exact absurd h72 ho
theorem k_X2_isThirdThere {σ : tSt} {u k a b : Int32} {nV : Nat} (hu : vp_in u 40) (hk : vp_in k 8) (hV : σ 18 (nI 6) = nI nV) (hV40 : nV ≤ 40) (hcc : cOK σ) : CT mX2_isThirdThere [.ref 19, .int u, .int k, .int a, .int b] σ (PE (some (bi (s_third σ nV (s_oth σ) u (σ 13 (u * nI 8 + k)) (s_mx a (σ 14 (u * nI 8 + k))) (s_mn b (σ 15 (u * nI 8 + k))) = true))) σ) := by
  refine CT.of2 5 (by decide) rfl rfl ?_
  refine tr_aload_n eX2_isThirdThere_0 rfl ?_
  refine tr_getR eX2_isThirdThere_1 fk_X2_19 rfl rfl ?_
  refine tr_iload_n eX2_isThirdThere_4 rfl ?_
  refine tr_iload_n eX2_isThirdThere_5 rfl ?_
  refine tr_ce2 eX2_isThirdThere_6 zv_X5_standOf zi_X5_standOf lk_X2_123 ⟨rfl, by decide, by decide⟩ rfl rfl rfl (k_X5_standOf (by first | with_reducible assumption | with_reducible exact in_slot (by with_reducible assumption) (by with_reducible assumption) | with_reducible exact in_row _ (by decide) (by with_reducible assumption) | with_reducible exact in_row0 (by with_reducible assumption) | with_reducible exact in_slot0 (by with_reducible assumption) | (simp (disch := decide) only [up_k, up_s, up_f] <;> with_reducible assumption)) (by first | with_reducible assumption | with_reducible exact in_slot (by with_reducible assumption) (by with_reducible assumption) | with_reducible exact in_row _ (by decide) (by with_reducible assumption) | with_reducible exact in_row0 (by with_reducible assumption) | with_reducible exact in_slot0 (by with_reducible assumption) | (simp (disch := decide) only [up_k, up_s, up_f] <;> with_reducible assumption))) ?_
  refine tr_istore eX2_isThirdThere_9 (by decide) rfl ?_
  refine tr_iload_n eX2_isThirdThere_11 rfl ?_
  refine tr_aload_n eX2_isThirdThere_12 rfl ?_
  refine tr_getR eX2_isThirdThere_13 fk_X2_19 rfl rfl ?_
  refine tr_iload_n eX2_isThirdThere_16 rfl ?_
  refine tr_iload_n eX2_isThirdThere_17 rfl ?_
  refine tr_ce2 eX2_isThirdThere_18 zv_X5_fromOf zi_X5_fromOf lk_X2_116 ⟨rfl, by decide, by decide⟩ rfl rfl rfl (k_X5_fromOf (by first | with_reducible assumption | with_reducible exact in_slot (by with_reducible assumption) (by with_reducible assumption) | with_reducible exact in_row _ (by decide) (by with_reducible assumption) | with_reducible exact in_row0 (by with_reducible assumption) | with_reducible exact in_slot0 (by with_reducible assumption) | (simp (disch := decide) only [up_k, up_s, up_f] <;> with_reducible assumption)) (by first | with_reducible assumption | with_reducible exact in_slot (by with_reducible assumption) (by with_reducible assumption) | with_reducible exact in_row _ (by decide) (by with_reducible assumption) | with_reducible exact in_row0 (by with_reducible assumption) | with_reducible exact in_slot0 (by with_reducible assumption) | (simp (disch := decide) only [up_k, up_s, up_f] <;> with_reducible assumption))) ?_
  refine tr_max eX2_isThirdThere_21 lm_X2_143 wm_max_s wm_i wm_max_c (by decide) (Nat.le_of_ble_eq_true rfl) ?_
  refine tr_istore eX2_isThirdThere_24 (by decide) rfl ?_
  refine tr_iload eX2_isThirdThere_26 rfl ?_
  refine tr_aload_n eX2_isThirdThere_28 rfl ?_
  refine tr_getR eX2_isThirdThere_29 fk_X2_19 rfl rfl ?_
  refine tr_iload_n eX2_isThirdThere_32 rfl ?_
  refine tr_iload_n eX2_isThirdThere_33 rfl ?_
  refine tr_ce2 eX2_isThirdThere_34 zv_X5_endOf zi_X5_endOf lk_X2_120 ⟨rfl, by decide, by decide⟩ rfl rfl rfl (k_X5_endOf (by first | with_reducible assumption | with_reducible exact in_slot (by with_reducible assumption) (by with_reducible assumption) | with_reducible exact in_row _ (by decide) (by with_reducible assumption) | with_reducible exact in_row0 (by with_reducible assumption) | with_reducible exact in_slot0 (by with_reducible assumption) | (simp (disch := decide) only [up_k, up_s, up_f] <;> with_reducible assumption)) (by first | with_reducible assumption | with_reducible exact in_slot (by with_reducible assumption) (by with_reducible assumption) | with_reducible exact in_row _ (by decide) (by with_reducible assumption) | with_reducible exact in_row0 (by with_reducible assumption) | with_reducible exact in_slot0 (by with_reducible assumption) | (simp (disch := decide) only [up_k, up_s, up_f] <;> with_reducible assumption))) ?_
  refine tr_min eX2_isThirdThere_37 lm_X2_148 wm_min_s wm_i wm_min_c (by decide) (Nat.le_of_ble_eq_true rfl) ?_
  refine tr_istore eX2_isThirdThere_40 (by decide) rfl ?_
  refine tr_iconst eX2_isThirdThere_42 (nI 0) ci_0 ?_
  refine tr_istore eX2_isThirdThere_43 (by decide) rfl ?_
  exact lp_X2_isThirdThere_45 hV hV40 hcc nV 0 (by omega)

theorem lp_X2_firstTaker_18 {σ : tSt} {s a b : Int32} {nV : Nat} (hs : vp_in s 24) (hV : σ 18 (nI 6) = nI nV) (hV40 : nV ≤ 40) (hcc : cOK σ) {Q : Option Int32 → tSt → Prop} {x : Int32} {cc : Nat} (hx : vp_in x 40) (hc : σ 12 x = nI cc) (hc8 : cc ≤ 8) (ho : s_oth σ x = true) :
    ∀ f j : Nat, j + f = cc → (an (fun k => s_tk σ nV (s_oth σ) (σ 19 (nI 5)) x s a b k) f j = true → Q (some x) σ) → (an (fun k => s_tk σ nV (s_oth σ) (σ 19 (nI 5)) x s a b k) f j = false → TT mX2_firstTaker 91 [.ref 19, .int s, .int a, .int b, .int x, .null] [] σ Q) → TT mX2_firstTaker 18 [.ref 19, .int s, .int a, .int b, .int x, .int (nI j)] [] σ Q := by
  intro f
  induction f with
  | zero =>
    intro j hj kT kF
    refine tr_aload_n eX2_firstTaker_18 rfl ?_
    refine tr_iload eX2_firstTaker_19 rfl ?_
    refine tr_ce1 eX2_firstTaker_21 zv_X2_isOther zi_X2_isOther lk_X2_107 ⟨rfl, by decide, by decide⟩ rfl rfl rfl (k_X2_isOther (by first | with_reducible assumption | with_reducible exact in_slot (by with_reducible assumption) (by with_reducible assumption) | with_reducible exact in_row _ (by decide) (by with_reducible assumption) | with_reducible exact in_row0 (by with_reducible assumption) | with_reducible exact in_slot0 (by with_reducible assumption) | (simp (disch := decide) only [up_k, up_s, up_f] <;> with_reducible assumption))) ?_
    try simp (disch := decide) only [up_k, up_s, up_f]
    refine tr_if_eq eX2_firstTaker_24 (fun h24 => ?_) (fun h24 => ?_)
    · skip
      try first | replace h24 := bi_0 h24 | replace h24 := bi_n h24
      exact absurd ho h24
    · skip
      try first | replace h24 := bi_0 h24 | replace h24 := bi_n h24
      refine tr_iload eX2_firstTaker_27 rfl ?_
      refine tr_aload_n eX2_firstTaker_29 rfl ?_
      refine tr_getR eX2_firstTaker_30 fk_X2_19 rfl rfl ?_
      refine tr_getR eX2_firstTaker_33 fk_X2_113 rfl rfl ?_
      refine tr_iload eX2_firstTaker_36 rfl ?_
      refine tr_iald eX2_firstTaker_38 rfl (by first | with_reducible assumption | with_reducible exact in_slot (by with_reducible assumption) (by with_reducible assumption) | with_reducible exact in_row _ (by decide) (by with_reducible assumption) | with_reducible exact in_row0 (by with_reducible assumption) | with_reducible exact in_slot0 (by with_reducible assumption) | (simp (disch := decide) only [up_k, up_s, up_f] <;> with_reducible assumption)) ?_
      try simp (disch := decide) only [up_k, up_s, up_f]
      refine tr_icmp_ge eX2_firstTaker_39 (fun h39 => ?_) (fun h39 => ?_)
      · skip
        exact TT.fg [5] (kF rfl)
      · skip
        exact absurd (lt_of hc (by omega) (by omega) h39) (by omega)
  | succ f ih =>
    intro j hj kT kF
    refine tr_aload_n eX2_firstTaker_18 rfl ?_
    refine tr_iload eX2_firstTaker_19 rfl ?_
    refine tr_ce1 eX2_firstTaker_21 zv_X2_isOther zi_X2_isOther lk_X2_107 ⟨rfl, by decide, by decide⟩ rfl rfl rfl (k_X2_isOther (by first | with_reducible assumption | with_reducible exact in_slot (by with_reducible assumption) (by with_reducible assumption) | with_reducible exact in_row _ (by decide) (by with_reducible assumption) | with_reducible exact in_row0 (by with_reducible assumption) | with_reducible exact in_slot0 (by with_reducible assumption) | (simp (disch := decide) only [up_k, up_s, up_f] <;> with_reducible assumption))) ?_
    try simp (disch := decide) only [up_k, up_s, up_f]
    refine tr_if_eq eX2_firstTaker_24 (fun h24 => ?_) (fun h24 => ?_)
    · skip
      try first | replace h24 := bi_0 h24 | replace h24 := bi_n h24
      exact absurd ho h24
    · skip
      try first | replace h24 := bi_0 h24 | replace h24 := bi_n h24
      refine tr_iload eX2_firstTaker_27 rfl ?_
      refine tr_aload_n eX2_firstTaker_29 rfl ?_
      refine tr_getR eX2_firstTaker_30 fk_X2_19 rfl rfl ?_
      refine tr_getR eX2_firstTaker_33 fk_X2_113 rfl rfl ?_
      refine tr_iload eX2_firstTaker_36 rfl ?_
      refine tr_iald eX2_firstTaker_38 rfl (by first | with_reducible assumption | with_reducible exact in_slot (by with_reducible assumption) (by with_reducible assumption) | with_reducible exact in_row _ (by decide) (by with_reducible assumption) | with_reducible exact in_row0 (by with_reducible assumption) | with_reducible exact in_slot0 (by with_reducible assumption) | (simp (disch := decide) only [up_k, up_s, up_f] <;> with_reducible assumption)) ?_
      try simp (disch := decide) only [up_k, up_s, up_f]
      refine tr_icmp_ge eX2_firstTaker_39 (fun h39 => ?_) (fun h39 => ?_)
      · skip
        exact absurd (ge_of hc (by omega) (by omega) h39) (by omega)
      · skip
        have hk : vp_in (nI j) 8 := vp_in_nI (by have := lt_of hc (by omega) (by omega) h39; omega) (by decide)
        refine tr_aload_n eX2_firstTaker_42 rfl ?_
        refine tr_getR eX2_firstTaker_43 fk_X2_19 rfl rfl ?_
        refine tr_iload eX2_firstTaker_46 rfl ?_
        refine tr_iload eX2_firstTaker_48 rfl ?_
        refine tr_iload_n eX2_firstTaker_50 rfl ?_
        refine tr_iload_n eX2_firstTaker_51 rfl ?_
        refine tr_iload_n eX2_firstTaker_52 rfl ?_
        refine tr_ce5 eX2_firstTaker_53 zv_X5_isStayAt zi_X5_isStayAt lk_X2_129 ⟨rfl, by decide, by decide⟩ rfl rfl rfl (k_X5_isStayAt (by first | with_reducible assumption | with_reducible exact in_slot (by with_reducible assumption) (by with_reducible assumption) | with_reducible exact in_row _ (by decide) (by with_reducible assumption) | with_reducible exact in_row0 (by with_reducible assumption) | with_reducible exact in_slot0 (by with_reducible assumption) | (simp (disch := decide) only [up_k, up_s, up_f] <;> with_reducible assumption)) (by first | with_reducible assumption | with_reducible exact in_slot (by with_reducible assumption) (by with_reducible assumption) | with_reducible exact in_row _ (by decide) (by with_reducible assumption) | with_reducible exact in_row0 (by with_reducible assumption) | with_reducible exact in_slot0 (by with_reducible assumption) | (simp (disch := decide) only [up_k, up_s, up_f] <;> with_reducible assumption))) ?_
        try simp (disch := decide) only [up_k, up_s, up_f]
        refine tr_if_eq eX2_firstTaker_56 (fun h56 => ?_) (fun h56 => ?_)
        · skip
          try first | replace h56 := bi_0 h56 | replace h56 := bi_n h56
          refine tr_iinc eX2_firstTaker_85 _ (by first | exact inc_n _ | rfl) rfl (by decide) rfl ?_
          refine tr_goto eX2_firstTaker_88 ?_
          exact ih (j + 1) (by omega) (fun h => kT (by simp_all [an, s_tk])) (fun h => kF (by simp_all [an, s_tk]))
        · skip
          try first | replace h56 := bi_0 h56 | replace h56 := bi_n h56
          have e13 : σ 13 (x * nI 8 + nI j) = s := by have h := h56; simp only [s_sa, Bool.and_eq_true, decide_eq_true_eq] at h; exact h.1.1
          refine tr_aload_n eX2_firstTaker_59 rfl ?_
          refine tr_iload eX2_firstTaker_60 rfl ?_
          refine tr_iload_n eX2_firstTaker_62 rfl ?_
          refine tr_ce2 eX2_firstTaker_63 zv_X2_mayShare zi_X2_mayShare lk_X2_133 ⟨rfl, by decide, by decide⟩ rfl rfl rfl (k_X2_mayShare (by first | with_reducible assumption | with_reducible exact in_slot (by with_reducible assumption) (by with_reducible assumption) | with_reducible exact in_row _ (by decide) (by with_reducible assumption) | with_reducible exact in_row0 (by with_reducible assumption) | with_reducible exact in_slot0 (by with_reducible assumption) | (simp (disch := decide) only [up_k, up_s, up_f] <;> with_reducible assumption)) (by first | with_reducible assumption | with_reducible exact in_slot (by with_reducible assumption) (by with_reducible assumption) | with_reducible exact in_row _ (by decide) (by with_reducible assumption) | with_reducible exact in_row0 (by with_reducible assumption) | with_reducible exact in_slot0 (by with_reducible assumption) | (simp (disch := decide) only [up_k, up_s, up_f] <;> with_reducible assumption))) ?_
          try simp (disch := decide) only [up_k, up_s, up_f]
          refine tr_if_eq eX2_firstTaker_66 (fun h66 => ?_) (fun h66 => ?_)
          · skip
            try first | replace h66 := bi_0 h66 | replace h66 := bi_n h66
            refine tr_iload eX2_firstTaker_82 rfl ?_
            refine tr_ret eX2_firstTaker_84 rfl rfl ?_
            exact kT (by simp_all [an, s_tk])
          · skip
            try first | replace h66 := bi_0 h66 | replace h66 := bi_n h66
            refine tr_aload_n eX2_firstTaker_69 rfl ?_
            refine tr_iload eX2_firstTaker_70 rfl ?_
            refine tr_iload eX2_firstTaker_72 rfl ?_
            refine tr_iload_n eX2_firstTaker_74 rfl ?_
            refine tr_iload_n eX2_firstTaker_75 rfl ?_
            refine tr_ce4 eX2_firstTaker_76 zv_X2_isThirdThere zi_X2_isThirdThere lk_X2_137 ⟨rfl, by decide, by decide⟩ rfl rfl rfl (k_X2_isThirdThere (by first | with_reducible assumption | with_reducible exact in_slot (by with_reducible assumption) (by with_reducible assumption) | with_reducible exact in_row _ (by decide) (by with_reducible assumption) | with_reducible exact in_row0 (by with_reducible assumption) | with_reducible exact in_slot0 (by with_reducible assumption) | (simp (disch := decide) only [up_k, up_s, up_f] <;> with_reducible assumption)) (by first | with_reducible assumption | with_reducible exact in_slot (by with_reducible assumption) (by with_reducible assumption) | with_reducible exact in_row _ (by decide) (by with_reducible assumption) | with_reducible exact in_row0 (by with_reducible assumption) | with_reducible exact in_slot0 (by with_reducible assumption) | (simp (disch := decide) only [up_k, up_s, up_f] <;> with_reducible assumption)) (by first | with_reducible assumption | with_reducible exact in_slot (by with_reducible assumption) (by with_reducible assumption) | with_reducible exact in_row _ (by decide) (by with_reducible assumption) | with_reducible exact in_row0 (by with_reducible assumption) | with_reducible exact in_slot0 (by with_reducible assumption) | (simp (disch := decide) only [up_k, up_s, up_f] <;> with_reducible assumption)) (by first | with_reducible assumption | with_reducible exact in_slot (by with_reducible assumption) (by with_reducible assumption) | with_reducible exact in_row _ (by decide) (by with_reducible assumption) | with_reducible exact in_row0 (by with_reducible assumption) | with_reducible exact in_slot0 (by with_reducible assumption) | (simp (disch := decide) only [up_k, up_s, up_f] <;> with_reducible assumption)) (by first | with_reducible assumption | with_reducible exact in_slot (by with_reducible assumption) (by with_reducible assumption) | with_reducible exact in_row _ (by decide) (by with_reducible assumption) | with_reducible exact in_row0 (by with_reducible assumption) | with_reducible exact in_slot0 (by with_reducible assumption) | (simp (disch := decide) only [up_k, up_s, up_f] <;> with_reducible assumption))) ?_
            try simp (disch := decide) only [up_k, up_s, up_f]
            refine tr_if_eq eX2_firstTaker_79 (fun h79 => ?_) (fun h79 => ?_)
            · skip
              try first | replace h79 := bi_0 h79 | replace h79 := bi_n h79
              rw [e13] at h79
              refine tr_iinc eX2_firstTaker_85 _ (by first | exact inc_n _ | rfl) rfl (by decide) rfl ?_
              refine tr_goto eX2_firstTaker_88 ?_
              exact ih (j + 1) (by omega) (fun h => kT (by simp_all [an, s_tk])) (fun h => kF (by simp_all [an, s_tk]))
            · skip
              try first | replace h79 := bi_0 h79 | replace h79 := bi_n h79
              rw [e13] at h79
              refine tr_iload eX2_firstTaker_82 rfl ?_
              refine tr_ret eX2_firstTaker_84 rfl rfl ?_
              exact kT (by simp_all [an, s_tk])
theorem lp_X2_firstTaker_3 {σ : tSt} {s a b : Int32} {nV : Nat} (hs : vp_in s 24) (hV : σ 18 (nI 6) = nI nV) (hV40 : nV ≤ 40) (hcc : cOK σ) : ∀ f i : Nat, i + f = nV → TT mX2_firstTaker 3 [.ref 19, .int s, .int a, .int b, .int (nI i), .null] [] σ (PE (some (fi (fun u => s_oth σ u && s_takes σ nV (s_oth σ) (σ 19 (nI 5)) u s a b) f i)) σ) := by
  intro f
  induction f with
  | zero =>
    intro i hi
    refine tr_iload eX2_firstTaker_3 rfl ?_
    refine tr_aload_n eX2_firstTaker_5 rfl ?_
    refine tr_getR eX2_firstTaker_6 fk_X2_19 rfl rfl ?_
    refine tr_getI eX2_firstTaker_9 fk_X2_104 rfl rfl ?_
    refine tr_icmp_ge eX2_firstTaker_12 (fun h12 => ?_) (fun h12 => ?_)
    · skip
      refine tr_iconst eX2_firstTaker_97 (-1) ci_m1 ?_
      refine tr_ret eX2_firstTaker_98 rfl rfl ?_
      exact ⟨rfl, rfl⟩
    · skip
      exact absurd (lt_of hV (by omega) (by omega) h12) (by omega)
  | succ f ih =>
    intro i hi
    refine tr_iload eX2_firstTaker_3 rfl ?_
    refine tr_aload_n eX2_firstTaker_5 rfl ?_
    refine tr_getR eX2_firstTaker_6 fk_X2_19 rfl rfl ?_
    refine tr_getI eX2_firstTaker_9 fk_X2_104 rfl rfl ?_
    refine tr_icmp_ge eX2_firstTaker_12 (fun h12 => ?_) (fun h12 => ?_)
    · skip
      exact absurd (ge_of hV (by omega) (by omega) h12) (by omega)
    · skip
      have g12 := lt_of hV (by omega) (by omega) h12
      have hu : vp_in (nI i) 40 := vp_in_nI (by omega) (by decide)
      obtain ⟨cc, hc8, hc⟩ := hcc i (by omega)
      refine tr_iconst eX2_firstTaker_15 (nI 0) ci_0 ?_
      refine tr_istore eX2_firstTaker_16 (by decide) rfl ?_
      by_cases ho : s_oth σ (nI i) = true
      · refine lp_X2_firstTaker_18 hs hV hV40 hcc hu hc hc8 ho cc 0 (by omega) (fun h => ?_) (fun h => ?_)
        · have e : s_takes σ nV (s_oth σ) (σ 19 (nI 5)) (nI i) s a b = true := by rw [s_takes, tn_of hc (by omega)]; exact h
          exact ⟨congrArg some (fi_t (by simp_all)), rfl⟩
        · have e : s_takes σ nV (s_oth σ) (σ 19 (nI 5)) (nI i) s a b = false := by rw [s_takes, tn_of hc (by omega)]; exact h
          refine tr_iinc eX2_firstTaker_91 _ (by first | exact inc_n _ | rfl) rfl (by decide) rfl ?_
          refine tr_goto eX2_firstTaker_94 ?_
          refine lpF (by simp_all) (ih (i + 1) (by omega))
      · skip
        refine tr_aload_n eX2_firstTaker_18 rfl ?_
        refine tr_iload eX2_firstTaker_19 rfl ?_
        refine tr_ce1 eX2_firstTaker_21 zv_X2_isOther zi_X2_isOther lk_X2_107 ⟨rfl, by decide, by decide⟩ rfl rfl rfl (k_X2_isOther (by first | with_reducible assumption | with_reducible exact in_slot (by with_reducible assumption) (by with_reducible assumption) | with_reducible exact in_row _ (by decide) (by with_reducible assumption) | with_reducible exact in_row0 (by with_reducible assumption) | with_reducible exact in_slot0 (by with_reducible assumption) | (simp (disch := decide) only [up_k, up_s, up_f] <;> with_reducible assumption))) ?_
        try simp (disch := decide) only [up_k, up_s, up_f]
        refine tr_if_eq eX2_firstTaker_24 (fun h24 => ?_) (fun h24 => ?_)
        · skip
          try first | replace h24 := bi_0 h24 | replace h24 := bi_n h24
          refine tr_iinc eX2_firstTaker_91 _ (by first | exact inc_n _ | rfl) rfl (by decide) rfl ?_
          refine tr_goto eX2_firstTaker_94 ?_
          refine TT.fg [5] ?_
          refine lpF (by simp_all) (ih (i + 1) (by omega))
        · skip
          try first | replace h24 := bi_0 h24 | replace h24 := bi_n h24
          exact absurd h24 ho
theorem k_X2_firstTaker {σ : tSt} {s a b : Int32} {nV : Nat} (hs : vp_in s 24) (hV : σ 18 (nI 6) = nI nV) (hV40 : nV ≤ 40) (hcc : cOK σ) : CT mX2_firstTaker [.ref 19, .int s, .int a, .int b] σ (PE (some (s_ft σ nV (s_oth σ) (σ 19 (nI 5)) s a b)) σ) := by
  refine CT.of2 2 (by decide) rfl rfl ?_
  refine tr_iconst eX2_firstTaker_0 (nI 0) ci_0 ?_
  refine tr_istore eX2_firstTaker_1 (by decide) rfl ?_
  exact lp_X2_firstTaker_3 hs hV hV40 hcc nV 0 (by omega)

