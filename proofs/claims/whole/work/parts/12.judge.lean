def s_near (σ : tSt) (nP : Nat) (s w q x : Int32) : Bool := an (fun p => (decide (σ 3 p = s) && decide (σ 4 p = q) && (decide (σ 5 p < w) || decide (σ 6 p < x))) || (decide (σ 3 p = q) && decide (σ 4 p = s) && (decide (σ 6 p < w) || decide (σ 5 p < x)))) nP 0
def s_fc (σ : tSt) (nC : Nat) (s a b : Int32) : Int32 := fi (fun c => decide (σ 7 c = s) && s_hc a b (σ 8 c) (σ 9 c)) nC 0
def s_there (σ : tSt) (v s a b : Int32) : Bool := an (fun k => s_sa σ v k s a b) (tn (σ 12 v)) 0
theorem lp_X1_firstCone_3 {σ : tSt} {s a b : Int32} {n : Nat} (hn : σ 17 (nI 11) = nI n) (hb : n ≤ 20) : ∀ f i : Nat, i + f = n → TT mX1_firstCone 3 [.ref 17, .int s, .int a, .int b, .int (nI i)] [] σ (PE (some (fi (fun c => decide (σ 7 c = s) && s_hc a b (σ 8 c) (σ 9 c)) f i)) σ) := by
  intro f
  induction f with
  | zero =>
    intro i hi
    refine tr_iload eX1_firstCone_3 rfl ?_
    refine tr_aload_n eX1_firstCone_5 rfl ?_
    refine tr_getI eX1_firstCone_6 fk_X1_46 rfl rfl ?_
    refine tr_icmp_ge eX1_firstCone_9 (fun h9 => ?_) (fun h9 => ?_)
    · skip
      refine tr_iconst eX1_firstCone_54 (-1) ci_m1 ?_
      refine tr_ret eX1_firstCone_55 rfl rfl ?_
      exact ⟨rfl, rfl⟩
    · skip
      exact absurd (lt_of hn (by omega) (by omega) h9) (by omega)
  | succ f ih =>
    intro i hi
    refine tr_iload eX1_firstCone_3 rfl ?_
    refine tr_aload_n eX1_firstCone_5 rfl ?_
    refine tr_getI eX1_firstCone_6 fk_X1_46 rfl rfl ?_
    refine tr_icmp_ge eX1_firstCone_9 (fun h9 => ?_) (fun h9 => ?_)
    · skip
      exact absurd (ge_of hn (by omega) (by omega) h9) (by omega)
    · skip
      have g9 := lt_of hn (by omega) (by omega) h9
      have hv : vp_in (nI i) 20 := vp_in_nI (by omega) (by decide)
      refine tr_aload_n eX1_firstCone_12 rfl ?_
      refine tr_getR eX1_firstCone_13 fk_X1_30 rfl rfl ?_
      refine tr_iload eX1_firstCone_16 rfl ?_
      refine tr_iald eX1_firstCone_18 rfl (by first | with_reducible assumption | with_reducible exact in_slot (by with_reducible assumption) (by with_reducible assumption) | with_reducible exact in_row _ (by decide) (by with_reducible assumption) | with_reducible exact in_row0 (by with_reducible assumption) | with_reducible exact in_slot0 (by with_reducible assumption) | (simp (disch := decide) only [up_k, up_s, up_f] <;> with_reducible assumption)) ?_
      refine tr_iload_n eX1_firstCone_19 rfl ?_
      refine tr_icmp_ne eX1_firstCone_20 (fun h20 => ?_) (fun h20 => ?_)
      · skip
        refine tr_iinc eX1_firstCone_48 _ (by first | exact inc_n _ | rfl) rfl (by decide) rfl ?_
        refine tr_goto eX1_firstCone_51 ?_
        refine lpF (by simp_all) (ih (i + 1) (by omega))
      · skip
        refine tr_iload_n eX1_firstCone_23 rfl ?_
        refine tr_iload_n eX1_firstCone_24 rfl ?_
        refine tr_aload_n eX1_firstCone_25 rfl ?_
        refine tr_getR eX1_firstCone_26 fk_X1_33 rfl rfl ?_
        refine tr_iload eX1_firstCone_29 rfl ?_
        refine tr_iald eX1_firstCone_31 rfl (by first | with_reducible assumption | with_reducible exact in_slot (by with_reducible assumption) (by with_reducible assumption) | with_reducible exact in_row _ (by decide) (by with_reducible assumption) | with_reducible exact in_row0 (by with_reducible assumption) | with_reducible exact in_slot0 (by with_reducible assumption) | (simp (disch := decide) only [up_k, up_s, up_f] <;> with_reducible assumption)) ?_
        refine tr_aload_n eX1_firstCone_32 rfl ?_
        refine tr_getR eX1_firstCone_33 fk_X1_36 rfl rfl ?_
        refine tr_iload eX1_firstCone_36 rfl ?_
        refine tr_iald eX1_firstCone_38 rfl (by first | with_reducible assumption | with_reducible exact in_slot (by with_reducible assumption) (by with_reducible assumption) | with_reducible exact in_row _ (by decide) (by with_reducible assumption) | with_reducible exact in_row0 (by with_reducible assumption) | with_reducible exact in_slot0 (by with_reducible assumption) | (simp (disch := decide) only [up_k, up_s, up_f] <;> with_reducible assumption)) ?_
        refine tr_se4 eX1_firstCone_39 zv_X6_haveCommonMinute zs_X6_haveCommonMinute lk_X1_49 ⟨rfl, by decide, by decide⟩ rfl k_X6_haveCommonMinute ?_
        refine tr_if_eq eX1_firstCone_42 (fun h42 => ?_) (fun h42 => ?_)
        · skip
          try first | replace h42 := bi_0 h42 | replace h42 := bi_n h42
          refine tr_iinc eX1_firstCone_48 _ (by first | exact inc_n _ | rfl) rfl (by decide) rfl ?_
          refine tr_goto eX1_firstCone_51 ?_
          refine lpF (by simp_all) (ih (i + 1) (by omega))
        · skip
          try first | replace h42 := bi_0 h42 | replace h42 := bi_n h42
          refine tr_iload eX1_firstCone_45 rfl ?_
          refine tr_ret eX1_firstCone_47 rfl rfl ?_
          exact ⟨congrArg some (fi_t (by simp_all)), rfl⟩
theorem k_X1_firstCone {σ : tSt} {s a b : Int32} {n : Nat} (hn : σ 17 (nI 11) = nI n) (hb : n ≤ 20) : CT mX1_firstCone [.ref 17, .int s, .int a, .int b] σ (PE (some (s_fc σ n s a b)) σ) := by
  refine CT.of2 1 (by decide) rfl rfl ?_
  refine tr_iconst eX1_firstCone_0 (nI 0) ci_0 ?_
  refine tr_istore eX1_firstCone_1 (by decide) rfl ?_
  exact lp_X1_firstCone_3 hn hb n 0 (by omega)

theorem lp_X1_areTooNear_3 {σ : tSt} {s w q x : Int32} {n : Nat} (hn : σ 17 (nI 10) = nI n) (hb : n ≤ 40) : ∀ f i : Nat, i + f = n → TT mX1_areTooNear 3 [.ref 17, .int s, .int w, .int q, .int x, .int (nI i), .null, .null] [] σ (PE (some (bi (an (fun p => (decide (σ 3 p = s) && decide (σ 4 p = q) && (decide (σ 5 p < w) || decide (σ 6 p < x))) || (decide (σ 3 p = q) && decide (σ 4 p = s) && (decide (σ 6 p < w) || decide (σ 5 p < x)))) f i = true))) σ) := by
  intro f
  induction f with
  | zero =>
    intro i hi
    refine tr_iload eX1_areTooNear_3 rfl ?_
    refine tr_aload_n eX1_areTooNear_5 rfl ?_
    refine tr_getI eX1_areTooNear_6 fk_X1_43 rfl rfl ?_
    refine tr_icmp_ge eX1_areTooNear_9 (fun h9 => ?_) (fun h9 => ?_)
    · skip
      refine tr_iconst eX1_areTooNear_136 (nI 0) ci_0 ?_
      refine tr_ret eX1_areTooNear_137 rfl (by first | rfl | exact nar_bi _) ?_
      exact ⟨congrArg some (bi_f (by simp [an])), rfl⟩
    · skip
      exact absurd (lt_of hn (by omega) (by omega) h9) (by omega)
  | succ f ih =>
    intro i hi
    refine tr_iload eX1_areTooNear_3 rfl ?_
    refine tr_aload_n eX1_areTooNear_5 rfl ?_
    refine tr_getI eX1_areTooNear_6 fk_X1_43 rfl rfl ?_
    refine tr_icmp_ge eX1_areTooNear_9 (fun h9 => ?_) (fun h9 => ?_)
    · skip
      exact absurd (ge_of hn (by omega) (by omega) h9) (by omega)
    · skip
      have g9 := lt_of hn (by omega) (by omega) h9
      have hv : vp_in (nI i) 40 := vp_in_nI (by omega) (by decide)
      refine tr_aload_n eX1_areTooNear_12 rfl ?_
      refine tr_getR eX1_areTooNear_13 fk_X1_18 rfl rfl ?_
      refine tr_iload eX1_areTooNear_16 rfl ?_
      refine tr_iald eX1_areTooNear_18 rfl (by first | with_reducible assumption | with_reducible exact in_slot (by with_reducible assumption) (by with_reducible assumption) | with_reducible exact in_row _ (by decide) (by with_reducible assumption) | with_reducible exact in_row0 (by with_reducible assumption) | with_reducible exact in_slot0 (by with_reducible assumption) | (simp (disch := decide) only [up_k, up_s, up_f] <;> with_reducible assumption)) ?_
      refine tr_iload_n eX1_areTooNear_19 rfl ?_
      refine tr_icmp_ne eX1_areTooNear_20 (fun h20 => ?_) (fun h20 => ?_)
      · skip
        refine tr_iconst eX1_areTooNear_38 (nI 0) ci_0 ?_
        refine tr_istore eX1_areTooNear_39 (by decide) rfl ?_
        refine tr_iload eX1_areTooNear_41 rfl ?_
        refine tr_if_eq eX1_areTooNear_43 (fun _ => ?_) (fun h43 => absurd h43 (by decide))
        refine tr_aload_n eX1_areTooNear_71 rfl ?_
        refine tr_getR eX1_areTooNear_72 fk_X1_18 rfl rfl ?_
        refine tr_iload eX1_areTooNear_75 rfl ?_
        refine tr_iald eX1_areTooNear_77 rfl (by first | with_reducible assumption | with_reducible exact in_slot (by with_reducible assumption) (by with_reducible assumption) | with_reducible exact in_row _ (by decide) (by with_reducible assumption) | with_reducible exact in_row0 (by with_reducible assumption) | with_reducible exact in_slot0 (by with_reducible assumption) | (simp (disch := decide) only [up_k, up_s, up_f] <;> with_reducible assumption)) ?_
        refine tr_iload_n eX1_areTooNear_78 rfl ?_
        refine tr_icmp_ne eX1_areTooNear_79 (fun h79 => ?_) (fun h79 => ?_)
        · skip
          refine tr_iconst eX1_areTooNear_97 (nI 0) ci_0 ?_
          refine tr_istore eX1_areTooNear_98 (by decide) rfl ?_
          refine tr_iload eX1_areTooNear_100 rfl ?_
          refine tr_if_eq eX1_areTooNear_102 (fun _ => ?_) (fun h102 => absurd h102 (by decide))
          refine tr_iinc eX1_areTooNear_130 _ (by first | exact inc_n _ | rfl) rfl (by decide) rfl ?_
          refine tr_goto eX1_areTooNear_133 ?_
          refine TT.fg [6, 7] ?_
          refine lpA (by simp_all) (ih (i + 1) (by omega))
        · skip
          refine tr_aload_n eX1_areTooNear_82 rfl ?_
          refine tr_getR eX1_areTooNear_83 fk_X1_21 rfl rfl ?_
          refine tr_iload eX1_areTooNear_86 rfl ?_
          refine tr_iald eX1_areTooNear_88 rfl (by first | with_reducible assumption | with_reducible exact in_slot (by with_reducible assumption) (by with_reducible assumption) | with_reducible exact in_row _ (by decide) (by with_reducible assumption) | with_reducible exact in_row0 (by with_reducible assumption) | with_reducible exact in_slot0 (by with_reducible assumption) | (simp (disch := decide) only [up_k, up_s, up_f] <;> with_reducible assumption)) ?_
          refine tr_iload_n eX1_areTooNear_89 rfl ?_
          refine tr_icmp_ne eX1_areTooNear_90 (fun h90 => ?_) (fun h90 => ?_)
          · skip
            refine tr_iconst eX1_areTooNear_97 (nI 0) ci_0 ?_
            refine tr_istore eX1_areTooNear_98 (by decide) rfl ?_
            refine tr_iload eX1_areTooNear_100 rfl ?_
            refine tr_if_eq eX1_areTooNear_102 (fun _ => ?_) (fun h102 => absurd h102 (by decide))
            refine tr_iinc eX1_areTooNear_130 _ (by first | exact inc_n _ | rfl) rfl (by decide) rfl ?_
            refine tr_goto eX1_areTooNear_133 ?_
            refine TT.fg [6, 7] ?_
            refine lpA (by simp_all) (ih (i + 1) (by omega))
          · skip
            refine tr_iconst eX1_areTooNear_93 (nI 1) ci_1 ?_
            refine tr_goto eX1_areTooNear_94 ?_
            refine tr_istore eX1_areTooNear_98 (by decide) rfl ?_
            refine tr_iload eX1_areTooNear_100 rfl ?_
            refine tr_if_eq eX1_areTooNear_102 (fun h102 => absurd h102 (by decide)) (fun _ => ?_)
            refine tr_iload_n eX1_areTooNear_105 rfl ?_
            refine tr_aload_n eX1_areTooNear_106 rfl ?_
            refine tr_getR eX1_areTooNear_107 fk_X1_27 rfl rfl ?_
            refine tr_iload eX1_areTooNear_110 rfl ?_
            refine tr_iald eX1_areTooNear_112 rfl (by first | with_reducible assumption | with_reducible exact in_slot (by with_reducible assumption) (by with_reducible assumption) | with_reducible exact in_row _ (by decide) (by with_reducible assumption) | with_reducible exact in_row0 (by with_reducible assumption) | with_reducible exact in_slot0 (by with_reducible assumption) | (simp (disch := decide) only [up_k, up_s, up_f] <;> with_reducible assumption)) ?_
            refine tr_icmp_gt eX1_areTooNear_113 (fun h113 => ?_) (fun h113 => ?_)
            · skip
              refine tr_iconst eX1_areTooNear_128 (nI 1) ci_1 ?_
              refine tr_ret eX1_areTooNear_129 rfl (by first | rfl | exact nar_bi _) ?_
              exact ⟨congrArg some (bi_t (an_t (by simp_all))), rfl⟩
            · skip
              refine tr_iload eX1_areTooNear_116 rfl ?_
              refine tr_aload_n eX1_areTooNear_118 rfl ?_
              refine tr_getR eX1_areTooNear_119 fk_X1_24 rfl rfl ?_
              refine tr_iload eX1_areTooNear_122 rfl ?_
              refine tr_iald eX1_areTooNear_124 rfl (by first | with_reducible assumption | with_reducible exact in_slot (by with_reducible assumption) (by with_reducible assumption) | with_reducible exact in_row _ (by decide) (by with_reducible assumption) | with_reducible exact in_row0 (by with_reducible assumption) | with_reducible exact in_slot0 (by with_reducible assumption) | (simp (disch := decide) only [up_k, up_s, up_f] <;> with_reducible assumption)) ?_
              refine tr_icmp_le eX1_areTooNear_125 (fun h125 => ?_) (fun h125 => ?_)
              · skip
                refine tr_iinc eX1_areTooNear_130 _ (by first | exact inc_n _ | rfl) rfl (by decide) rfl ?_
                refine tr_goto eX1_areTooNear_133 ?_
                refine TT.fg [6, 7] ?_
                refine lpA (by simp_all) (ih (i + 1) (by omega))
              · skip
                refine tr_iconst eX1_areTooNear_128 (nI 1) ci_1 ?_
                refine tr_ret eX1_areTooNear_129 rfl (by first | rfl | exact nar_bi _) ?_
                exact ⟨congrArg some (bi_t (an_t (by simp_all))), rfl⟩
      · skip
        refine tr_aload_n eX1_areTooNear_23 rfl ?_
        refine tr_getR eX1_areTooNear_24 fk_X1_21 rfl rfl ?_
        refine tr_iload eX1_areTooNear_27 rfl ?_
        refine tr_iald eX1_areTooNear_29 rfl (by first | with_reducible assumption | with_reducible exact in_slot (by with_reducible assumption) (by with_reducible assumption) | with_reducible exact in_row _ (by decide) (by with_reducible assumption) | with_reducible exact in_row0 (by with_reducible assumption) | with_reducible exact in_slot0 (by with_reducible assumption) | (simp (disch := decide) only [up_k, up_s, up_f] <;> with_reducible assumption)) ?_
        refine tr_iload_n eX1_areTooNear_30 rfl ?_
        refine tr_icmp_ne eX1_areTooNear_31 (fun h31 => ?_) (fun h31 => ?_)
        · skip
          refine tr_iconst eX1_areTooNear_38 (nI 0) ci_0 ?_
          refine tr_istore eX1_areTooNear_39 (by decide) rfl ?_
          refine tr_iload eX1_areTooNear_41 rfl ?_
          refine tr_if_eq eX1_areTooNear_43 (fun _ => ?_) (fun h43 => absurd h43 (by decide))
          refine tr_aload_n eX1_areTooNear_71 rfl ?_
          refine tr_getR eX1_areTooNear_72 fk_X1_18 rfl rfl ?_
          refine tr_iload eX1_areTooNear_75 rfl ?_
          refine tr_iald eX1_areTooNear_77 rfl (by first | with_reducible assumption | with_reducible exact in_slot (by with_reducible assumption) (by with_reducible assumption) | with_reducible exact in_row _ (by decide) (by with_reducible assumption) | with_reducible exact in_row0 (by with_reducible assumption) | with_reducible exact in_slot0 (by with_reducible assumption) | (simp (disch := decide) only [up_k, up_s, up_f] <;> with_reducible assumption)) ?_
          refine tr_iload_n eX1_areTooNear_78 rfl ?_
          refine tr_icmp_ne eX1_areTooNear_79 (fun h79 => ?_) (fun h79 => ?_)
          · skip
            refine tr_iconst eX1_areTooNear_97 (nI 0) ci_0 ?_
            refine tr_istore eX1_areTooNear_98 (by decide) rfl ?_
            refine tr_iload eX1_areTooNear_100 rfl ?_
            refine tr_if_eq eX1_areTooNear_102 (fun _ => ?_) (fun h102 => absurd h102 (by decide))
            refine tr_iinc eX1_areTooNear_130 _ (by first | exact inc_n _ | rfl) rfl (by decide) rfl ?_
            refine tr_goto eX1_areTooNear_133 ?_
            refine TT.fg [6, 7] ?_
            refine lpA (by simp_all) (ih (i + 1) (by omega))
          · skip
            refine tr_aload_n eX1_areTooNear_82 rfl ?_
            refine tr_getR eX1_areTooNear_83 fk_X1_21 rfl rfl ?_
            refine tr_iload eX1_areTooNear_86 rfl ?_
            refine tr_iald eX1_areTooNear_88 rfl (by first | with_reducible assumption | with_reducible exact in_slot (by with_reducible assumption) (by with_reducible assumption) | with_reducible exact in_row _ (by decide) (by with_reducible assumption) | with_reducible exact in_row0 (by with_reducible assumption) | with_reducible exact in_slot0 (by with_reducible assumption) | (simp (disch := decide) only [up_k, up_s, up_f] <;> with_reducible assumption)) ?_
            refine tr_iload_n eX1_areTooNear_89 rfl ?_
            refine tr_icmp_ne eX1_areTooNear_90 (fun h90 => ?_) (fun h90 => ?_)
            · skip
              refine tr_iconst eX1_areTooNear_97 (nI 0) ci_0 ?_
              refine tr_istore eX1_areTooNear_98 (by decide) rfl ?_
              refine tr_iload eX1_areTooNear_100 rfl ?_
              refine tr_if_eq eX1_areTooNear_102 (fun _ => ?_) (fun h102 => absurd h102 (by decide))
              refine tr_iinc eX1_areTooNear_130 _ (by first | exact inc_n _ | rfl) rfl (by decide) rfl ?_
              refine tr_goto eX1_areTooNear_133 ?_
              refine TT.fg [6, 7] ?_
              refine lpA (by simp_all) (ih (i + 1) (by omega))
            · skip
              refine tr_iconst eX1_areTooNear_93 (nI 1) ci_1 ?_
              refine tr_goto eX1_areTooNear_94 ?_
              refine tr_istore eX1_areTooNear_98 (by decide) rfl ?_
              refine tr_iload eX1_areTooNear_100 rfl ?_
              refine tr_if_eq eX1_areTooNear_102 (fun h102 => absurd h102 (by decide)) (fun _ => ?_)
              refine tr_iload_n eX1_areTooNear_105 rfl ?_
              refine tr_aload_n eX1_areTooNear_106 rfl ?_
              refine tr_getR eX1_areTooNear_107 fk_X1_27 rfl rfl ?_
              refine tr_iload eX1_areTooNear_110 rfl ?_
              refine tr_iald eX1_areTooNear_112 rfl (by first | with_reducible assumption | with_reducible exact in_slot (by with_reducible assumption) (by with_reducible assumption) | with_reducible exact in_row _ (by decide) (by with_reducible assumption) | with_reducible exact in_row0 (by with_reducible assumption) | with_reducible exact in_slot0 (by with_reducible assumption) | (simp (disch := decide) only [up_k, up_s, up_f] <;> with_reducible assumption)) ?_
              refine tr_icmp_gt eX1_areTooNear_113 (fun h113 => ?_) (fun h113 => ?_)
              · skip
                refine tr_iconst eX1_areTooNear_128 (nI 1) ci_1 ?_
                refine tr_ret eX1_areTooNear_129 rfl (by first | rfl | exact nar_bi _) ?_
                exact ⟨congrArg some (bi_t (an_t (by simp_all))), rfl⟩
              · skip
                refine tr_iload eX1_areTooNear_116 rfl ?_
                refine tr_aload_n eX1_areTooNear_118 rfl ?_
                refine tr_getR eX1_areTooNear_119 fk_X1_24 rfl rfl ?_
                refine tr_iload eX1_areTooNear_122 rfl ?_
                refine tr_iald eX1_areTooNear_124 rfl (by first | with_reducible assumption | with_reducible exact in_slot (by with_reducible assumption) (by with_reducible assumption) | with_reducible exact in_row _ (by decide) (by with_reducible assumption) | with_reducible exact in_row0 (by with_reducible assumption) | with_reducible exact in_slot0 (by with_reducible assumption) | (simp (disch := decide) only [up_k, up_s, up_f] <;> with_reducible assumption)) ?_
                refine tr_icmp_le eX1_areTooNear_125 (fun h125 => ?_) (fun h125 => ?_)
                · skip
                  refine tr_iinc eX1_areTooNear_130 _ (by first | exact inc_n _ | rfl) rfl (by decide) rfl ?_
                  refine tr_goto eX1_areTooNear_133 ?_
                  refine TT.fg [6, 7] ?_
                  refine lpA (by simp_all) (ih (i + 1) (by omega))
                · skip
                  refine tr_iconst eX1_areTooNear_128 (nI 1) ci_1 ?_
                  refine tr_ret eX1_areTooNear_129 rfl (by first | rfl | exact nar_bi _) ?_
                  exact ⟨congrArg some (bi_t (an_t (by simp_all))), rfl⟩
        · skip
          refine tr_iconst eX1_areTooNear_34 (nI 1) ci_1 ?_
          refine tr_goto eX1_areTooNear_35 ?_
          refine tr_istore eX1_areTooNear_39 (by decide) rfl ?_
          refine tr_iload eX1_areTooNear_41 rfl ?_
          refine tr_if_eq eX1_areTooNear_43 (fun h43 => absurd h43 (by decide)) (fun _ => ?_)
          refine tr_iload_n eX1_areTooNear_46 rfl ?_
          refine tr_aload_n eX1_areTooNear_47 rfl ?_
          refine tr_getR eX1_areTooNear_48 fk_X1_24 rfl rfl ?_
          refine tr_iload eX1_areTooNear_51 rfl ?_
          refine tr_iald eX1_areTooNear_53 rfl (by first | with_reducible assumption | with_reducible exact in_slot (by with_reducible assumption) (by with_reducible assumption) | with_reducible exact in_row _ (by decide) (by with_reducible assumption) | with_reducible exact in_row0 (by with_reducible assumption) | with_reducible exact in_slot0 (by with_reducible assumption) | (simp (disch := decide) only [up_k, up_s, up_f] <;> with_reducible assumption)) ?_
          refine tr_icmp_gt eX1_areTooNear_54 (fun h54 => ?_) (fun h54 => ?_)
          · skip
            refine tr_iconst eX1_areTooNear_69 (nI 1) ci_1 ?_
            refine tr_ret eX1_areTooNear_70 rfl (by first | rfl | exact nar_bi _) ?_
            exact ⟨congrArg some (bi_t (an_t (by simp_all))), rfl⟩
          · skip
            refine tr_iload eX1_areTooNear_57 rfl ?_
            refine tr_aload_n eX1_areTooNear_59 rfl ?_
            refine tr_getR eX1_areTooNear_60 fk_X1_27 rfl rfl ?_
            refine tr_iload eX1_areTooNear_63 rfl ?_
            refine tr_iald eX1_areTooNear_65 rfl (by first | with_reducible assumption | with_reducible exact in_slot (by with_reducible assumption) (by with_reducible assumption) | with_reducible exact in_row _ (by decide) (by with_reducible assumption) | with_reducible exact in_row0 (by with_reducible assumption) | with_reducible exact in_slot0 (by with_reducible assumption) | (simp (disch := decide) only [up_k, up_s, up_f] <;> with_reducible assumption)) ?_
            refine tr_icmp_le eX1_areTooNear_66 (fun h66 => ?_) (fun h66 => ?_)
            · skip
              refine tr_aload_n eX1_areTooNear_71 rfl ?_
              refine tr_getR eX1_areTooNear_72 fk_X1_18 rfl rfl ?_
              refine tr_iload eX1_areTooNear_75 rfl ?_
              refine tr_iald eX1_areTooNear_77 rfl (by first | with_reducible assumption | with_reducible exact in_slot (by with_reducible assumption) (by with_reducible assumption) | with_reducible exact in_row _ (by decide) (by with_reducible assumption) | with_reducible exact in_row0 (by with_reducible assumption) | with_reducible exact in_slot0 (by with_reducible assumption) | (simp (disch := decide) only [up_k, up_s, up_f] <;> with_reducible assumption)) ?_
              refine tr_iload_n eX1_areTooNear_78 rfl ?_
              refine tr_icmp_ne eX1_areTooNear_79 (fun h79 => ?_) (fun h79 => ?_)
              · skip
                refine tr_iconst eX1_areTooNear_97 (nI 0) ci_0 ?_
                refine tr_istore eX1_areTooNear_98 (by decide) rfl ?_
                refine tr_iload eX1_areTooNear_100 rfl ?_
                refine tr_if_eq eX1_areTooNear_102 (fun _ => ?_) (fun h102 => absurd h102 (by decide))
                refine tr_iinc eX1_areTooNear_130 _ (by first | exact inc_n _ | rfl) rfl (by decide) rfl ?_
                refine tr_goto eX1_areTooNear_133 ?_
                refine TT.fg [6, 7] ?_
                refine lpA (by simp_all) (ih (i + 1) (by omega))
              · skip
                refine tr_aload_n eX1_areTooNear_82 rfl ?_
                refine tr_getR eX1_areTooNear_83 fk_X1_21 rfl rfl ?_
                refine tr_iload eX1_areTooNear_86 rfl ?_
                refine tr_iald eX1_areTooNear_88 rfl (by first | with_reducible assumption | with_reducible exact in_slot (by with_reducible assumption) (by with_reducible assumption) | with_reducible exact in_row _ (by decide) (by with_reducible assumption) | with_reducible exact in_row0 (by with_reducible assumption) | with_reducible exact in_slot0 (by with_reducible assumption) | (simp (disch := decide) only [up_k, up_s, up_f] <;> with_reducible assumption)) ?_
                refine tr_iload_n eX1_areTooNear_89 rfl ?_
                refine tr_icmp_ne eX1_areTooNear_90 (fun h90 => ?_) (fun h90 => ?_)
                · skip
                  refine tr_iconst eX1_areTooNear_97 (nI 0) ci_0 ?_
                  refine tr_istore eX1_areTooNear_98 (by decide) rfl ?_
                  refine tr_iload eX1_areTooNear_100 rfl ?_
                  refine tr_if_eq eX1_areTooNear_102 (fun _ => ?_) (fun h102 => absurd h102 (by decide))
                  refine tr_iinc eX1_areTooNear_130 _ (by first | exact inc_n _ | rfl) rfl (by decide) rfl ?_
                  refine tr_goto eX1_areTooNear_133 ?_
                  refine TT.fg [6, 7] ?_
                  refine lpA (by simp_all) (ih (i + 1) (by omega))
                · skip
                  refine tr_iconst eX1_areTooNear_93 (nI 1) ci_1 ?_
                  refine tr_goto eX1_areTooNear_94 ?_
                  refine tr_istore eX1_areTooNear_98 (by decide) rfl ?_
                  refine tr_iload eX1_areTooNear_100 rfl ?_
                  refine tr_if_eq eX1_areTooNear_102 (fun h102 => absurd h102 (by decide)) (fun _ => ?_)
                  refine tr_iload_n eX1_areTooNear_105 rfl ?_
                  refine tr_aload_n eX1_areTooNear_106 rfl ?_
                  refine tr_getR eX1_areTooNear_107 fk_X1_27 rfl rfl ?_
                  refine tr_iload eX1_areTooNear_110 rfl ?_
                  refine tr_iald eX1_areTooNear_112 rfl (by first | with_reducible assumption | with_reducible exact in_slot (by with_reducible assumption) (by with_reducible assumption) | with_reducible exact in_row _ (by decide) (by with_reducible assumption) | with_reducible exact in_row0 (by with_reducible assumption) | with_reducible exact in_slot0 (by with_reducible assumption) | (simp (disch := decide) only [up_k, up_s, up_f] <;> with_reducible assumption)) ?_
                  refine tr_icmp_gt eX1_areTooNear_113 (fun h113 => ?_) (fun h113 => ?_)
                  · skip
                    refine tr_iconst eX1_areTooNear_128 (nI 1) ci_1 ?_
                    refine tr_ret eX1_areTooNear_129 rfl (by first | rfl | exact nar_bi _) ?_
                    exact ⟨congrArg some (bi_t (an_t (by simp_all))), rfl⟩
                  · skip
                    refine tr_iload eX1_areTooNear_116 rfl ?_
                    refine tr_aload_n eX1_areTooNear_118 rfl ?_
                    refine tr_getR eX1_areTooNear_119 fk_X1_24 rfl rfl ?_
                    refine tr_iload eX1_areTooNear_122 rfl ?_
                    refine tr_iald eX1_areTooNear_124 rfl (by first | with_reducible assumption | with_reducible exact in_slot (by with_reducible assumption) (by with_reducible assumption) | with_reducible exact in_row _ (by decide) (by with_reducible assumption) | with_reducible exact in_row0 (by with_reducible assumption) | with_reducible exact in_slot0 (by with_reducible assumption) | (simp (disch := decide) only [up_k, up_s, up_f] <;> with_reducible assumption)) ?_
                    refine tr_icmp_le eX1_areTooNear_125 (fun h125 => ?_) (fun h125 => ?_)
                    · skip
                      refine tr_iinc eX1_areTooNear_130 _ (by first | exact inc_n _ | rfl) rfl (by decide) rfl ?_
                      refine tr_goto eX1_areTooNear_133 ?_
                      refine TT.fg [6, 7] ?_
                      refine lpA (by simp_all) (ih (i + 1) (by omega))
                    · skip
                      refine tr_iconst eX1_areTooNear_128 (nI 1) ci_1 ?_
                      refine tr_ret eX1_areTooNear_129 rfl (by first | rfl | exact nar_bi _) ?_
                      exact ⟨congrArg some (bi_t (an_t (by simp_all))), rfl⟩
            · skip
              refine tr_iconst eX1_areTooNear_69 (nI 1) ci_1 ?_
              refine tr_ret eX1_areTooNear_70 rfl (by first | rfl | exact nar_bi _) ?_
              exact ⟨congrArg some (bi_t (an_t (by simp_all))), rfl⟩
theorem k_X1_areTooNear {σ : tSt} {s w q x : Int32} {n : Nat} (hn : σ 17 (nI 10) = nI n) (hb : n ≤ 40) : CT mX1_areTooNear [.ref 17, .int s, .int w, .int q, .int x] σ (PE (some (bi (s_near σ n s w q x = true))) σ) := by
  refine CT.of2 3 (by decide) rfl rfl ?_
  refine tr_iconst eX1_areTooNear_0 (nI 0) ci_0 ?_
  refine tr_istore eX1_areTooNear_1 (by decide) rfl ?_
  exact lp_X1_areTooNear_3 hn hb n 0 (by omega)

theorem lp_X5_isThere_3 {σ : tSt} {v s a b : Int32} {n : Nat} (hv : vp_in v 40) (hn : σ 12 v = nI n) (hb : n ≤ 8) : ∀ f i : Nat, i + f = n → TT mX5_isThere 3 [.ref 18, .int v, .int s, .int a, .int b, .int (nI i)] [] σ (PE (some (bi (an (fun k => s_sa σ v k s a b) f i = true))) σ) := by
  intro f
  induction f with
  | zero =>
    intro i hi
    refine tr_iload eX5_isThere_3 rfl ?_
    refine tr_aload_n eX5_isThere_5 rfl ?_
    refine tr_getR eX5_isThere_6 fk_X5_18 rfl rfl ?_
    refine tr_iload_n eX5_isThere_9 rfl ?_
    refine tr_iald eX5_isThere_10 rfl (by first | with_reducible assumption | with_reducible exact in_slot (by with_reducible assumption) (by with_reducible assumption) | with_reducible exact in_row _ (by decide) (by with_reducible assumption) | with_reducible exact in_row0 (by with_reducible assumption) | with_reducible exact in_slot0 (by with_reducible assumption) | (simp (disch := decide) only [up_k, up_s, up_f] <;> with_reducible assumption)) ?_
    refine tr_icmp_ge eX5_isThere_11 (fun h11 => ?_) (fun h11 => ?_)
    · skip
      refine tr_iconst eX5_isThere_36 (nI 0) ci_0 ?_
      refine tr_ret eX5_isThere_37 rfl (by first | rfl | exact nar_bi _) ?_
      exact ⟨congrArg some (bi_f (by simp [an])), rfl⟩
    · skip
      exact absurd (lt_of hn (by omega) (by omega) h11) (by omega)
  | succ f ih =>
    intro i hi
    refine tr_iload eX5_isThere_3 rfl ?_
    refine tr_aload_n eX5_isThere_5 rfl ?_
    refine tr_getR eX5_isThere_6 fk_X5_18 rfl rfl ?_
    refine tr_iload_n eX5_isThere_9 rfl ?_
    refine tr_iald eX5_isThere_10 rfl (by first | with_reducible assumption | with_reducible exact in_slot (by with_reducible assumption) (by with_reducible assumption) | with_reducible exact in_row _ (by decide) (by with_reducible assumption) | with_reducible exact in_row0 (by with_reducible assumption) | with_reducible exact in_slot0 (by with_reducible assumption) | (simp (disch := decide) only [up_k, up_s, up_f] <;> with_reducible assumption)) ?_
    refine tr_icmp_ge eX5_isThere_11 (fun h11 => ?_) (fun h11 => ?_)
    · skip
      exact absurd (ge_of hn (by omega) (by omega) h11) (by omega)
    · skip
      have g11 := lt_of hn (by omega) (by omega) h11
      have hk : vp_in (nI i) 8 := vp_in_nI (by omega) (by decide)
      refine tr_aload_n eX5_isThere_14 rfl ?_
      refine tr_iload_n eX5_isThere_15 rfl ?_
      refine tr_iload eX5_isThere_16 rfl ?_
      refine tr_iload_n eX5_isThere_18 rfl ?_
      refine tr_iload_n eX5_isThere_19 rfl ?_
      refine tr_iload eX5_isThere_20 rfl ?_
      refine tr_ce5 eX5_isThere_22 zv_X5_isStayAt zi_X5_isStayAt lk_X5_54 ⟨rfl, by decide, by decide⟩ rfl rfl rfl (k_X5_isStayAt (by first | with_reducible assumption | with_reducible exact in_slot (by with_reducible assumption) (by with_reducible assumption) | with_reducible exact in_row _ (by decide) (by with_reducible assumption) | with_reducible exact in_row0 (by with_reducible assumption) | with_reducible exact in_slot0 (by with_reducible assumption) | (simp (disch := decide) only [up_k, up_s, up_f] <;> with_reducible assumption)) (by first | with_reducible assumption | with_reducible exact in_slot (by with_reducible assumption) (by with_reducible assumption) | with_reducible exact in_row _ (by decide) (by with_reducible assumption) | with_reducible exact in_row0 (by with_reducible assumption) | with_reducible exact in_slot0 (by with_reducible assumption) | (simp (disch := decide) only [up_k, up_s, up_f] <;> with_reducible assumption))) ?_
      refine tr_if_eq eX5_isThere_25 (fun h25 => ?_) (fun h25 => ?_)
      · skip
        try first | replace h25 := bi_0 h25 | replace h25 := bi_n h25
        refine tr_iinc eX5_isThere_30 _ (by first | exact inc_n _ | rfl) rfl (by decide) rfl ?_
        refine tr_goto eX5_isThere_33 ?_
        refine lpA (by simp_all) (ih (i + 1) (by omega))
      · skip
        try first | replace h25 := bi_0 h25 | replace h25 := bi_n h25
        refine tr_iconst eX5_isThere_28 (nI 1) ci_1 ?_
        refine tr_ret eX5_isThere_29 rfl (by first | rfl | exact nar_bi _) ?_
        exact ⟨congrArg some (bi_t (an_t (by simp_all))), rfl⟩
theorem k_X5_isThere {σ : tSt} {v s a b : Int32} {n : Nat} (hv : vp_in v 40) (hn : σ 12 v = nI n) (hb : n ≤ 8) : CT mX5_isThere [.ref 18, .int v, .int s, .int a, .int b] σ (PE (some (bi (s_there σ v s a b = true))) σ) := by
  refine CT.of2 1 (by decide) rfl rfl ?_
  refine tr_iconst eX5_isThere_0 (nI 0) ci_0 ?_
  refine tr_istore eX5_isThere_1 (by decide) rfl ?_
  rw [s_there, tn_of hn (by omega)]
  exact lp_X5_isThere_3 hv hn hb n 0 (by omega)

def s_place (σ : tSt) (v s a : Int32) : tSt := up (up (up (up (up σ 12 v (nI 0)) 13 (v * nI 8 + nI 0) s) 14 (v * nI 8 + nI 0) a) 15 (v * nI 8 + nI 0) (s_out σ v)) 12 v (nI 0 + nI 1)
theorem s_place_eq (σ : tSt) (v s a : Int32) : s_place σ v s a = s_set σ v s a (s_out σ v) := by
  unfold s_place s_set
  rw [add_n0, show nI 0 + nI 1 = nI 1 from by decide]
  funext k i
  simp only [up]
  by_cases h12 : k = 12
  · subst h12; simp; by_cases hi : i = v <;> simp [hi]
  · simp [h12]
theorem k_X5_place {σ : tSt} {v s a : Int32} (hv : vp_in v 40) : CT mX5_place [.ref 18, .int v, .int s, .int a] σ (PE (some (bi (s ≠ -1))) (if s = -1 then σ else s_set σ v s a (s_out σ v))) := by
  refine CT.of2 0 (by decide) rfl rfl ?_
  refine tr_iload_n eX5_place_0 rfl ?_
  refine tr_iconst eX5_place_1 (-1) ci_m1 ?_
  refine tr_icmp_ne eX5_place_2 (fun h2 => ?_) (fun h2 => ?_)
  · skip
    refine tr_aload_n eX5_place_7 rfl ?_
    refine tr_getR eX5_place_8 fk_X5_18 rfl rfl ?_
    refine tr_iload_n eX5_place_11 rfl ?_
    refine tr_iconst eX5_place_12 (nI 0) ci_0 ?_
    refine tr_iast eX5_place_13 rfl (by first | with_reducible assumption | with_reducible exact in_slot (by with_reducible assumption) (by with_reducible assumption) | with_reducible exact in_row _ (by decide) (by with_reducible assumption) | with_reducible exact in_row0 (by with_reducible assumption) | with_reducible exact in_slot0 (by with_reducible assumption) | (simp (disch := decide) only [up_k, up_s, up_f] <;> with_reducible assumption)) ?_
    refine tr_aload_n eX5_place_14 rfl ?_
    refine tr_iload_n eX5_place_15 rfl ?_
    refine tr_iload_n eX5_place_16 rfl ?_
    refine tr_iload_n eX5_place_17 rfl ?_
    refine tr_ce3 eX5_place_18 zv_X5_addStay zi_X5_addStay lk_X5_58 ⟨rfl, by decide, by decide⟩ rfl rfl rfl (k_X5_addStay (by with_reducible assumption) (by rw [up_s]; exact vp_in_nI (by decide) (by decide))) ?_
    try simp (disch := decide) only [up_k, up_s, up_f]
    refine tr_iconst eX5_place_21 (nI 1) ci_1 ?_
    refine tr_ret eX5_place_22 rfl (by first | rfl | exact nar_bi _) ?_
    exact ⟨congrArg some (bi_t (by simp_all)), by rw [if_neg h2, ← s_place_eq]; rfl⟩
  · skip
    refine tr_iconst eX5_place_5 (nI 0) ci_0 ?_
    refine tr_ret eX5_place_6 rfl (by first | rfl | exact nar_bi _) ?_
    exact ⟨congrArg some (bi_f (by simp_all)), by rw [if_pos h2]⟩

def s_oth (σ : tSt) (u : Int32) : Bool := decide (¬ u = σ 19 (nI 3)) && decide (σ 26 u = 0)
theorem k_X2_isOther {σ : tSt} {u : Int32} (hv : vp_in u 40) : CT mX2_isOther [.ref 19, .int u] σ (PE (some (bi (s_oth σ u = true))) σ) := by
  refine CT.of2 0 (by decide) rfl rfl ?_
  refine tr_iload_n eX2_isOther_0 rfl ?_
  refine tr_aload_n eX2_isOther_1 rfl ?_
  refine tr_getI eX2_isOther_2 fk_X2_33 rfl rfl ?_
  refine tr_icmp_eq eX2_isOther_5 (fun h5 => ?_) (fun h5 => ?_)
  · skip
    refine tr_iconst eX2_isOther_21 (nI 0) ci_0 ?_
    refine tr_ret eX2_isOther_22 rfl (by first | rfl | exact nar_bi _) ?_
    refine ⟨congrArg some ?_, rfl⟩
    first | (refine bi_t ?_; simp_all [s_oth]; done) | (refine bi_f ?_; simp_all [s_oth]; done)
  · skip
    refine tr_aload_n eX2_isOther_8 rfl ?_
    refine tr_getR eX2_isOther_9 fk_X2_9 rfl rfl ?_
    refine tr_iload_n eX2_isOther_12 rfl ?_
    refine tr_zald eX2_isOther_13 rfl (by first | with_reducible assumption | with_reducible exact in_slot (by with_reducible assumption) (by with_reducible assumption) | with_reducible exact in_row _ (by decide) (by with_reducible assumption) | with_reducible exact in_row0 (by with_reducible assumption) | with_reducible exact in_slot0 (by with_reducible assumption) | (simp (disch := decide) only [up_k, up_s, up_f] <;> with_reducible assumption)) ?_
    refine tr_if_ne eX2_isOther_14 (fun h14 => ?_) (fun h14 => ?_)
    · skip
      refine tr_iconst eX2_isOther_21 (nI 0) ci_0 ?_
      refine tr_ret eX2_isOther_22 rfl (by first | rfl | exact nar_bi _) ?_
      refine ⟨congrArg some ?_, rfl⟩
      first | (refine bi_t ?_; simp_all [s_oth]; done) | (refine bi_f ?_; simp_all [s_oth]; done)
    · skip
      refine tr_iconst eX2_isOther_17 (nI 1) ci_1 ?_
      refine tr_goto eX2_isOther_18 ?_
      refine tr_ret eX2_isOther_22 rfl (by first | rfl | exact nar_bi _) ?_
      refine ⟨congrArg some ?_, rfl⟩
      first | (refine bi_t ?_; simp_all [s_oth]; done) | (refine bi_f ?_; simp_all [s_oth]; done)

theorem k_X2_sendAway {σ : tSt} {v : Int32} (hv : vp_in v 40) (hh : ¬ v < 0 ∧ ¬ σ 18 (nI 6) ≤ v) : CT mX2_sendAway [.ref 19, .int v] σ (PE none (up σ 26 v (nI 1))) := by
  refine CT.of2 0 (by decide) rfl rfl ?_
  refine tr_aload_n eX2_sendAway_0 rfl ?_
  refine tr_getR eX2_sendAway_1 fk_X2_19 rfl rfl ?_
  refine tr_iload_n eX2_sendAway_4 rfl ?_
  refine tr_ce1 eX2_sendAway_5 zv_X5_has zi_X5_has lk_X2_27 ⟨rfl, by decide, by decide⟩ rfl rfl rfl k_X5_has ?_
  refine tr_if_eq eX2_sendAway_8 (fun h8 => ?_) (fun h8 => ?_)
  · skip
    try first | replace h8 := bi_0 h8 | replace h8 := bi_n h8
    exact absurd hh h8
  · skip
    try first | replace h8 := bi_0 h8 | replace h8 := bi_n h8
    refine tr_aload_n eX2_sendAway_11 rfl ?_
    refine tr_getR eX2_sendAway_12 fk_X2_9 rfl rfl ?_
    refine tr_iload_n eX2_sendAway_15 rfl ?_
    refine tr_iconst eX2_sendAway_16 (nI 1) ci_1 ?_
    refine tr_zast eX2_sendAway_17 rfl (by first | with_reducible assumption | with_reducible exact in_slot (by with_reducible assumption) (by with_reducible assumption) | with_reducible exact in_row _ (by decide) (by with_reducible assumption) | with_reducible exact in_row0 (by with_reducible assumption) | with_reducible exact in_slot0 (by with_reducible assumption) | (simp (disch := decide) only [up_k, up_s, up_f] <;> with_reducible assumption)) (by decide) ?_
    refine tr_vret eX2_sendAway_18 rfl ?_
    exact ⟨rfl, rfl⟩

theorem k_X2_regard {σ : tSt} {v : Int32} (hv : vp_in v 40) : CT mX2_regard [.ref 19, .int v] σ (PE none (up (up (up (up σ 19 (nI 3) v) 19 (nI 4) (s_kind σ v)) 19 (nI 5) (s_wing σ v)) 19 (nI 6) (s_need σ v))) := by
  refine CT.of2 0 (by decide) rfl rfl ?_
  refine tr_aload_n eX2_regard_0 rfl ?_
  refine tr_iload_n eX2_regard_1 rfl ?_
  refine tr_put eX2_regard_2 fp_X2_33 rfl rfl ?_
  refine tr_aload_n eX2_regard_5 rfl ?_
  refine tr_aload_n eX2_regard_6 rfl ?_
  refine tr_getR eX2_regard_7 fk_X2_19 rfl rfl ?_
  refine tr_iload_n eX2_regard_10 rfl ?_
  refine tr_ce1 eX2_regard_11 zv_X5_kindOf zi_X5_kindOf lk_X2_36 ⟨rfl, by decide, by decide⟩ rfl rfl rfl (k_X5_kindOf (by first | with_reducible assumption | with_reducible exact in_slot (by with_reducible assumption) (by with_reducible assumption) | with_reducible exact in_row _ (by decide) (by with_reducible assumption) | with_reducible exact in_row0 (by with_reducible assumption) | with_reducible exact in_slot0 (by with_reducible assumption) | (simp (disch := decide) only [up_k, up_s, up_f] <;> with_reducible assumption))) ?_
  try simp (disch := decide) only [up_k, up_s, up_f]
  refine tr_put eX2_regard_14 fp_X2_40 rfl rfl ?_
  refine tr_aload_n eX2_regard_17 rfl ?_
  refine tr_aload_n eX2_regard_18 rfl ?_
  refine tr_getR eX2_regard_19 fk_X2_19 rfl rfl ?_
  refine tr_iload_n eX2_regard_22 rfl ?_
  refine tr_ce1 eX2_regard_23 zv_X5_wingOf zi_X5_wingOf lk_X2_43 ⟨rfl, by decide, by decide⟩ rfl rfl rfl (k_X5_wingOf (by first | with_reducible assumption | with_reducible exact in_slot (by with_reducible assumption) (by with_reducible assumption) | with_reducible exact in_row _ (by decide) (by with_reducible assumption) | with_reducible exact in_row0 (by with_reducible assumption) | with_reducible exact in_slot0 (by with_reducible assumption) | (simp (disch := decide) only [up_k, up_s, up_f] <;> with_reducible assumption))) ?_
  try simp (disch := decide) only [up_k, up_s, up_f]
  refine tr_put eX2_regard_26 fp_X2_46 rfl rfl ?_
  refine tr_aload_n eX2_regard_29 rfl ?_
  refine tr_aload_n eX2_regard_30 rfl ?_
  refine tr_getR eX2_regard_31 fk_X2_19 rfl rfl ?_
  refine tr_iload_n eX2_regard_34 rfl ?_
  refine tr_ce1 eX2_regard_35 zv_X5_needOf zi_X5_needOf lk_X2_49 ⟨rfl, by decide, by decide⟩ rfl rfl rfl (k_X5_needOf (by first | with_reducible assumption | with_reducible exact in_slot (by with_reducible assumption) (by with_reducible assumption) | with_reducible exact in_row _ (by decide) (by with_reducible assumption) | with_reducible exact in_row0 (by with_reducible assumption) | with_reducible exact in_slot0 (by with_reducible assumption) | (simp (disch := decide) only [up_k, up_s, up_f] <;> with_reducible assumption))) ?_
  try simp (disch := decide) only [up_k, up_s, up_f]
  refine tr_put eX2_regard_38 fp_X2_52 rfl rfl ?_
  refine tr_vret eX2_regard_41 rfl ?_
  first | with_reducible exact ⟨rfl, rfl⟩ | (refine ⟨congrArg some ?_, rfl⟩; unfold bi; split <;> first | with_reducible rfl | (exfalso; simp_all; done) | (exfalso; simp only [Int32.lt_iff_toInt_lt, Int32.le_iff_toInt_le] at *; omega)) | exact ⟨rfl, rfl⟩

theorem k_X2_regardPlane {σ : tSt} {w : Int32} : CT mX2_regardPlane [.ref 19, .int w] σ (PE none (up (up (up (up σ 19 (nI 3) (-1)) 19 (nI 4) (nI 1)) 19 (nI 5) w) 19 (nI 6) (nI 0))) := by
  refine CT.of2 0 (by decide) rfl rfl ?_
  refine tr_aload_n eX2_regardPlane_0 rfl ?_
  refine tr_iconst eX2_regardPlane_1 (-1) ci_m1 ?_
  refine tr_put eX2_regardPlane_2 fp_X2_33 rfl rfl ?_
  refine tr_aload_n eX2_regardPlane_5 rfl ?_
  refine tr_iconst eX2_regardPlane_6 (nI 1) ci_1 ?_
  refine tr_put eX2_regardPlane_7 fp_X2_40 rfl rfl ?_
  refine tr_aload_n eX2_regardPlane_10 rfl ?_
  refine tr_iload_n eX2_regardPlane_11 rfl ?_
  refine tr_put eX2_regardPlane_12 fp_X2_46 rfl rfl ?_
  refine tr_aload_n eX2_regardPlane_15 rfl ?_
  refine tr_iconst eX2_regardPlane_16 (nI 0) ci_0 ?_
  refine tr_put eX2_regardPlane_17 fp_X2_52 rfl rfl ?_
  refine tr_vret eX2_regardPlane_20 rfl ?_
  first | with_reducible exact ⟨rfl, rfl⟩ | (refine ⟨congrArg some ?_, rfl⟩; unfold bi; split <;> first | with_reducible rfl | (exfalso; simp_all; done) | (exfalso; simp only [Int32.lt_iff_toInt_lt, Int32.le_iff_toInt_le] at *; omega)) | exact ⟨rfl, rfl⟩

