section TLAW3
variable {n : Nat} {xs : Nat → Int32} {pc pc' tgt : Nat} {L st : List Value} {σ τ : tSt}
theorem lr_callX {z : tMS} {as : List Value} {ix k0 ci : Nat} {fs : List (Option Nat)} {Tb : u_T} {N : Nat} {Q' : Option Int32 → tSt → Prop} (d : LC pc (.invokevirtual ix) 3 pc') (hz : tZV z k0) (hzi : tZI z) (hl : tWD (.methodLink "ApronDeskLaw" ix z.1)) (hw : z.2.2.2.2.2 = 0) (hR1 : z.2.2.2.2.1.frames + 1 ≤ room_1.frames) (hR2 : 8 + (z.2.2.1 + 11) + z.2.2.2.2.1.locals ≤ room_1.locals) (hs : shX[0]? = some (.inr (ci, fs))) (hcl : vwCl[ci]? = some (z.1.cls, Tb, N)) (hn : as.length = k0) (has : ∀ v ∈ as, ∃ x, v = .int x) (hst : Nat.ble (st.map fun v => v.category).sum 8 = true)
    (hc : CT z (.ref 0 :: as) σ Q') (kk : ∀ r ω, Q' r ω → LT n xs pc' L (psh r st) ω τ) : LT n xs pc L (as.reverse ++ .ref 1 :: st) σ τ := by
  obtain ⟨hd, rfl⟩ := d
  intro l D ad1 ad2 cA cZ p e s m below meth c H locs ls b hC hP hM hS hL hr hlk
  have hcv : ∀ ad : Nat → Nat, as.map (cv ad) = as := fun ad => by
    conv => rhs; rw [← List.map_id as]
    exact List.map_congr_left (fun v hv => by obtain ⟨x, rfl⟩ := has v hv; rfl)
  have hMt := hc l D ad1 cA cZ H.size
  obtain ⟨z1, z2, z3, z4, z5, z6⟩ := hz
  obtain ⟨hx, hb, hml, hown, hTB, hK, hX, hbl, hI1, hI2, hI12, hA1, hA2, hF⟩ := hC
  rw [hw] at hMt
  have hAW : ∀ q, tAW shX.length ad1 H.size q → s.heap.size ≤ q := fun q h => h.elim (fun ⟨k, hk, e⟩ => by rw [e]; exact hA1 k hk) (fun h => Nat.le_trans hS.1 h)
  have hpx : ∀ U : State, U.heap = H → s.WarmedH U.vm → tPX 0 D ad1 cA cZ σ H.size U := fun U hU hW => by
    have ha : s.vm.Alike U.vm := hW.alike
    refine ⟨by rw [hU], hTB.warm hW, va_K.moved ha hK, hI1, by rw [hU]; exact hP, fun hw0 => ?_⟩
    obtain ⟨⟨a1, a2⟩, a3, a4⟩ := hF rfl
    rw [hU]
    exact ⟨⟨((a1.kept hS.2.1).moved ha).narrow hAW, ((a2.kept hS.2.1).moved ha).narrow hAW⟩, ((a3.kept hS.2.1).moved ha).narrow hAW, ((a4.kept hS.2.1).moved ha).narrow hAW⟩
  have hblind : FrameBlind (va_Pc ((Value.ref 0 :: as).map (cv ad1)) (tPX 0 D ad1 cA cZ σ H.size)) := fun a U g mk q => ⟨q.1, tPX.as (U := U) rfl rfl q.2⟩
  have hrecv := va_recv hK hP hcl (tpic_at hs)
  have hpre : PreV s H z.1.cls (ad1 0) (va_Pc ((Value.ref 0 :: as).map (cv ad1)) (tPX 0 D ad1 cA cZ σ H.size)) as := ⟨hblind, hrecv, fun U hU hW => ⟨by rw [List.map_cons, hcv]; rfl, hpx U hU hW⟩⟩
  have hlen : ∀ sig, parseMethodDescriptor z.1.desc = some sig → k0 = sig.parameters.length := fun sig h => by
    rw [h] at z4; exact (Option.some.inj z4).symm
  have hwarm : ∀ w ∈ [Cond.code z.1 z.2.1 z.2.2.1 z.2.2.2.1], ∀ (a' : Array Value) (U : State), s.WarmedH U.vm → w.before a' U = true := fun w hw a' U hW => by
    rw [List.mem_singleton] at hw; subst hw; exact tTB.use (hTB.warm hW) z1
  have hstk : (F0 m pc ls ((as.reverse ++ .ref 1 :: st).map (cv (ad3 b ad1 ad2)))).stack = as.reverse ++ .ref (ad1 0) :: st.map (cv (ad3 b ad1 ad2)) := by
    show (as.reverse ++ .ref 1 :: st).map (cv (ad3 b ad1 ad2)) = _
    rw [List.map_append, List.map_reverse, hcv]; rfl
  have hW8 : 2 * (F0 m pc ls ((as.reverse ++ .ref 1 :: st).map (cv (ad3 b ad1 ad2)))).monitorRoom + ((st.map (cv (ad3 b ad1 ad2))).map fun v => v.category).sum ≤ 8 := by
    rw [cv_sum]
    exact Nat.le_trans (by simp) (Nat.le_of_ble_eq_true hst)
  have hfix : CallFix p m c code 4 s #[Value.ref b] [] "ApronDeskLaw" := ⟨hx, hb, hml, hown, fun w h => by cases h⟩
  have hrun := va_runV (cells := 55) (slots := 3671) (e := e) (below := below) (meth := meth) (locs := locs) (R := room_1) hfix hMt ⟨⟨z5, z6, hR1, hR2, hwarm, List.mem_singleton_self _, tTB.use hTB z1, tTB.use hTB z2, z3, hlen, tTB.use hTB hl⟩, tTB.use hTB hzi.1, tTB.use hTB hzi.2⟩ hpre rfl hn hL.1 hstk hW8 hd ⟨by decide, by decide⟩
  intro U hU X
  obtain ⟨v, st₀, t, T', Lc, h0, X', hLc, e1, e2, ⟨⟨r, ω, hv, hq, hP'⟩, hzz, hk⟩, stp⟩ := hrun U hU X
  rw [h0] at hzz hk
  have hv' : v = r.map Value.int := Outcome.returned.inj hv
  subst hv'
  have hS' : va_S (fun q => s.heap.size ≤ q) s.heap T'.heap (locs ++ Lc) := by
    refine ⟨Nat.le_trans hS.1 (by rw [e1]; exact hzz), fun q h1 h2 => ?_, fun q hq => ?_⟩
    · rw [e1, hk q (Nat.lt_of_lt_of_le h1 hS.1) (fun zz => h2 (hAW q zz))]
      exact hS.2.1 q h1 h2
    · rcases List.mem_append.mp hq with h | h
      · exact hS.2.2 q h
      · exact hAW _ (hLc q h)
  have hO : va_P D vwCl (tpic ad2 cA cZ shM τ) T'.heap := by
    refine hM.kept (fun k x hx => ?_)
    have hlt := (hM k x hx).lt
    obtain ⟨q', hq', rfl⟩ := tpic_of hx
    rw [e1]
    refine hk _ hlt (fun zz => ?_)
    have hkl : k < shM.length := (List.getElem?_eq_some_iff.mp hq').1
    rcases zz with ⟨j, hj, e⟩ | zz
    · exact hI12 j k hj hkl e.symm
    · exact absurd hlt (Nat.not_lt.mpr zz)
  obtain ⟨t2, a1, b1⟩ := kk r ω hq l D ad1 ad2 cA cZ p e s m below meth c T'.heap (locs ++ Lc) ls b ⟨hx, hb, hml, hown, hTB, hK, hX, hbl, hI1, hI2, hI12, hA1, hA2, hF⟩ (by rw [e1]; exact hP') hO hS' hL hr hlk T' rfl X'
  refine ⟨t2, stp t2 ?_, b1⟩
  cases r <;> exact a1
theorem lr_callM {z : tMS} {as : List Value} {ix k0 ci : Nat} {fs : List (Option Nat)} {Tb : u_T} {N : Nat} {Q' : Option Int32 → tSt → Prop} (d : LC pc (.invokevirtual ix) 3 pc') (hz : tZV z k0) (hzi : tZI z) (hl : tWD (.methodLink "ApronDeskLaw" ix z.1)) (hw : z.2.2.2.2.2 = 1) (hR1 : z.2.2.2.2.1.frames + 1 ≤ room_1.frames) (hR2 : 8 + (z.2.2.1 + 11) + z.2.2.2.2.1.locals ≤ room_1.locals) (hs : shM[0]? = some (.inr (ci, fs))) (hcl : vwCl[ci]? = some (z.1.cls, Tb, N)) (hn : as.length = k0) (has : ∀ v ∈ as, ∃ x, v = .int x) (hst : Nat.ble (st.map fun v => v.category).sum 8 = true)
    (hc : CT z (.ref 0 :: as) τ Q') (kk : ∀ r ω, Q' r ω → LT n xs pc' L (psh r st) σ ω) : LT n xs pc L (as.reverse ++ .ref 2 :: st) σ τ := by
  obtain ⟨hd, rfl⟩ := d
  intro l D ad1 ad2 cA cZ p e s m below meth c H locs ls b hC hP hM hS hL hr hlk
  have hcv : ∀ ad : Nat → Nat, as.map (cv ad) = as := fun ad => by
    conv => rhs; rw [← List.map_id as]
    exact List.map_congr_left (fun v hv => by obtain ⟨x, rfl⟩ := has v hv; rfl)
  have hMt := hc l D ad2 cA cZ H.size
  obtain ⟨z1, z2, z3, z4, z5, z6⟩ := hz
  obtain ⟨hx, hb, hml, hown, hTB, hK, hX, hbl, hI1, hI2, hI12, hA1, hA2, hF⟩ := hC
  rw [hw] at hMt
  have hAW : ∀ q, tAW shM.length ad2 H.size q → s.heap.size ≤ q := fun q h => h.elim (fun ⟨k, hk, e⟩ => by rw [e]; exact hA2 k hk) (fun h => Nat.le_trans hS.1 h)
  have hpx : ∀ U : State, U.heap = H → s.WarmedH U.vm → tPX 1 D ad2 cA cZ τ H.size U := fun U hU hW => by
    have ha : s.vm.Alike U.vm := hW.alike
    refine ⟨by rw [hU], hTB.warm hW, va_K.moved ha hK, hI2, by rw [hU]; exact hM, fun hw0 => ?_⟩
    exact absurd hw0 (by decide)
  have hblind : FrameBlind (va_Pc ((Value.ref 0 :: as).map (cv ad2)) (tPX 1 D ad2 cA cZ τ H.size)) := fun a U g mk q => ⟨q.1, tPX.as (U := U) rfl rfl q.2⟩
  have hrecv := va_recv hK hM hcl (tpic_at hs)
  have hpre : PreV s H z.1.cls (ad2 0) (va_Pc ((Value.ref 0 :: as).map (cv ad2)) (tPX 1 D ad2 cA cZ τ H.size)) as := ⟨hblind, hrecv, fun U hU hW => ⟨by rw [List.map_cons, hcv]; rfl, hpx U hU hW⟩⟩
  have hlen : ∀ sig, parseMethodDescriptor z.1.desc = some sig → k0 = sig.parameters.length := fun sig h => by
    rw [h] at z4; exact (Option.some.inj z4).symm
  have hwarm : ∀ w ∈ [Cond.code z.1 z.2.1 z.2.2.1 z.2.2.2.1], ∀ (a' : Array Value) (U : State), s.WarmedH U.vm → w.before a' U = true := fun w hw a' U hW => by
    rw [List.mem_singleton] at hw; subst hw; exact tTB.use (hTB.warm hW) z1
  have hstk : (F0 m pc ls ((as.reverse ++ .ref 2 :: st).map (cv (ad3 b ad1 ad2)))).stack = as.reverse ++ .ref (ad2 0) :: st.map (cv (ad3 b ad1 ad2)) := by
    show (as.reverse ++ .ref 2 :: st).map (cv (ad3 b ad1 ad2)) = _
    rw [List.map_append, List.map_reverse, hcv]; rfl
  have hW8 : 2 * (F0 m pc ls ((as.reverse ++ .ref 2 :: st).map (cv (ad3 b ad1 ad2)))).monitorRoom + ((st.map (cv (ad3 b ad1 ad2))).map fun v => v.category).sum ≤ 8 := by
    rw [cv_sum]
    exact Nat.le_trans (by simp) (Nat.le_of_ble_eq_true hst)
  have hfix : CallFix p m c code 4 s #[Value.ref b] [] "ApronDeskLaw" := ⟨hx, hb, hml, hown, fun w h => by cases h⟩
  have hrun := va_runV (cells := 55) (slots := 3671) (e := e) (below := below) (meth := meth) (locs := locs) (R := room_1) hfix hMt ⟨⟨z5, z6, hR1, hR2, hwarm, List.mem_singleton_self _, tTB.use hTB z1, tTB.use hTB z2, z3, hlen, tTB.use hTB hl⟩, tTB.use hTB hzi.1, tTB.use hTB hzi.2⟩ hpre rfl hn hL.1 hstk hW8 hd ⟨by decide, by decide⟩
  intro U hU X
  obtain ⟨v, st₀, t, T', Lc, h0, X', hLc, e1, e2, ⟨⟨r, ω, hv, hq, hP'⟩, hzz, hk⟩, stp⟩ := hrun U hU X
  rw [h0] at hzz hk
  have hv' : v = r.map Value.int := Outcome.returned.inj hv
  subst hv'
  have hS' : va_S (fun q => s.heap.size ≤ q) s.heap T'.heap (locs ++ Lc) := by
    refine ⟨Nat.le_trans hS.1 (by rw [e1]; exact hzz), fun q h1 h2 => ?_, fun q hq => ?_⟩
    · rw [e1, hk q (Nat.lt_of_lt_of_le h1 hS.1) (fun zz => h2 (hAW q zz))]
      exact hS.2.1 q h1 h2
    · rcases List.mem_append.mp hq with h | h
      · exact hS.2.2 q h
      · exact hAW _ (hLc q h)
  have hO : va_P D vwCl (tpic ad1 cA cZ shX σ) T'.heap := by
    refine hP.kept (fun k x hx => ?_)
    have hlt := (hP k x hx).lt
    obtain ⟨q', hq', rfl⟩ := tpic_of hx
    rw [e1]
    refine hk _ hlt (fun zz => ?_)
    have hkl : k < shX.length := (List.getElem?_eq_some_iff.mp hq').1
    rcases zz with ⟨j, hj, e⟩ | zz
    · exact hI12 k j hkl hj e
    · exact absurd hlt (Nat.not_lt.mpr zz)
  obtain ⟨t2, a1, b1⟩ := kk r ω hq l D ad1 ad2 cA cZ p e s m below meth c T'.heap (locs ++ Lc) ls b ⟨hx, hb, hml, hown, hTB, hK, hX, hbl, hI1, hI2, hI12, hA1, hA2, hF⟩ hO (by rw [e1]; exact hP') hS' hL hr hlk T' rfl X'
  refine ⟨t2, stp t2 ?_, b1⟩
  cases r <;> exact a1
end TLAW3
