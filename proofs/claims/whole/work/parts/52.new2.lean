theorem arrW {s : State} {args : Array Value} {cA : ClassId} {ty : FieldType} (h1 : ArrOfT s cA ty) (h2 : s.vm.findClass ("[" ++ ty.toString) = some cA) : (Cond.arrayClass ty).before args s = true := by
  obtain ⟨_, k, hk, comp, hkind⟩ := h1 0 (fun _ => .null)
  have hk : s.vm.classes[cA]? = some k := hk
  simp [Cond.before, Cond.holds, Cond.value, h2, hk, hkind]
section TNEW2
variable {y z : tMS} {D : va_G} {cA cZ : ClassId} {pc pc' : Nat} {L st : List Value} {w : va_W} {kc ks : Nat} {Q : va_W → Prop}
theorem nr_newi {N : Nat} (d : DC y pc (.newarray .int) 2 pc') (hN : N ≤ 1000) (hc : kc + 1 ≤ y.2.2.2.2.1.cells) (hs : ks + N ≤ y.2.2.2.2.1.slots) (k : ∀ q, NT y D cA cZ pc' L (.ref q :: st) (w ++ [(q, .inl (cA, N, .inl (fun _ => 0)))]) (kc + 1) (ks + N) Q) : NT y D cA cZ pc L (.int (nI N) :: st) w kc ks Q := by
  intro l p e s m args below meth c H locs ls A hC hP hD hS hA hL
  obtain ⟨hd, rfl⟩ := d
  have hK := hC.2.2.2.2.2.2.2.1
  obtain ⟨k1, k2⟩ := hK.2 0 (cA, .int) rfl
  have k2 : s.vm.findClass ("[" ++ (FieldType.int).toString) = some cA := k2
  refine va_newaK hC.1 hC.2.1 (arrW (ty := newarray.typeOf .int) k1 k2) rfl hd rfl (fun q => absurd (nI_pos' (by omega)) (Int32.not_le.mpr q)) (nI_clamp (by omega)) (by show N * componentBytes .int ≤ _; simp only [componentBytes]; omega) hc hs rfl fun H1 cB e1 z1 o1 hAr hNm => ?_
  have hcb : cA = cB := Option.some.inj (k2.symm.trans hNm)
  subst hcb
  have hk : ∀ (k : Nat) (x : Nat × va_E), w[k]? = some x → H1[x.1]? = H[x.1]? := fun k x hx => o1 x.1 ((hP k x hx).lt)
  refine k H.size l p e s m args below meth c H1 locs ls A hC ((hP.kept hk).app (fun k x hx => ?_)) (hD.push hP rfl (hA _ hS.1)) ⟨Nat.le_trans hS.1 (by omega), fun x h1 h2 => (o1 x (Nat.lt_of_lt_of_le h1 hS.1)).trans (hS.2.1 x h1 h2), hS.2.2⟩ hA hL
  have hz : k < 1 := (List.getElem?_eq_some_iff.mp hx).1
  rw [show k = 0 by omega] at hx
  cases hx
  exact e1
theorem nr_newz {N : Nat} (d : DC y pc (.newarray .boolean) 2 pc') (hN : N ≤ 1000) (hc : kc + 1 ≤ y.2.2.2.2.1.cells) (hs : ks + N ≤ y.2.2.2.2.1.slots) (k : ∀ q, NT y D cA cZ pc' L (.ref q :: st) (w ++ [(q, .inl (cZ, N, .inl (fun _ => 0)))]) (kc + 1) (ks + N) Q) : NT y D cA cZ pc L (.int (nI N) :: st) w kc ks Q := by
  intro l p e s m args below meth c H locs ls A hC hP hD hS hA hL
  obtain ⟨hd, rfl⟩ := d
  have hK := hC.2.2.2.2.2.2.2.1
  obtain ⟨k1, k2⟩ := hK.2 1 (cZ, .boolean) rfl
  have k2 : s.vm.findClass ("[" ++ (FieldType.boolean).toString) = some cZ := k2
  refine va_newaK hC.1 hC.2.1 (arrW (ty := newarray.typeOf .boolean) k1 k2) rfl hd rfl (fun q => absurd (nI_pos' (by omega)) (Int32.not_le.mpr q)) (nI_clamp (by omega)) (by show N * componentBytes .boolean ≤ _; simp only [componentBytes]; omega) hc hs rfl fun H1 cB e1 z1 o1 hAr hNm => ?_
  have hcb : cZ = cB := Option.some.inj (k2.symm.trans hNm)
  subst hcb
  have hk : ∀ (k : Nat) (x : Nat × va_E), w[k]? = some x → H1[x.1]? = H[x.1]? := fun k x hx => o1 x.1 ((hP k x hx).lt)
  refine k H.size l p e s m args below meth c H1 locs ls A hC ((hP.kept hk).app (fun k x hx => ?_)) (hD.push hP rfl (hA _ hS.1)) ⟨Nat.le_trans hS.1 (by omega), fun x h1 h2 => (o1 x (Nat.lt_of_lt_of_le h1 hS.1)).trans (hS.2.1 x h1 h2), hS.2.2⟩ hA hL
  have hz : k < 1 := (List.getElem?_eq_some_iff.mp hx).1
  rw [show k = 0 by omega] at hx
  cases hx
  exact e1
theorem tPN.as {wc : va_W} {sz : Nat} {U V : State} (hv : U.vm = V.vm) (hh : U.heap = V.heap) (h : tPN D cA cZ wc sz U) : tPN D cA cZ wc sz V := by
  obtain ⟨h1, h2, h3, h4, h5⟩ := h
  have ha : U.vm.Alike V.vm := by rw [hv]; exact Vm.Alike.refl _
  exact ⟨by rw [← hh]; exact h1, h2.same hv, va_K.moved ha h3, by rw [← hh]; exact h4, h5⟩
/-- a constructor's call: the callee's cells at isC, the others at isR -/
theorem nr_call {As : List Value} {b ix n : Nat} {wc wr : va_W} {Q' : va_W → Prop} (d : DC y pc (.invokespecial ix) 3 pc') (z1 : tWD (.code z.1 z.2.1 z.2.2.1 none)) (zr : z.2.2.2.1 = none) (z2 : tWD (.initialized z.1.cls)) (z3 : z.1.cls ≠ "java/lang/invoke/MethodHandle" ∧ z.1.cls ≠ "java/lang/invoke/VarHandle") (z4 : (parseMethodDescriptor z.1.desc).map (fun d => d.parameters.length) = some n) (zn : z.1.name = "<init>") (zi : tWD (.instanceMethod z.1)) (hl : tLK y.1.cls ix z) (hR1 : z.2.2.2.2.1.frames + 1 ≤ y.2.2.2.2.1.frames) (hR2 : 8 + (z.2.2.1 + 11) + z.2.2.2.2.1.locals ≤ y.2.2.2.2.1.locals) (hkc : kc + z.2.2.2.2.1.cells ≤ y.2.2.2.2.1.cells) (hks : ks + z.2.2.2.2.1.slots ≤ y.2.2.2.2.1.slots) (hn : As.length = n) (hst : Nat.ble (st.map fun v => v.category).sum 8 = true)
    (isC isR : List Nat) (hC0 : isC.map (fun i => w[i]?) = wc.map some) (hR0 : isR.map (fun i => w[i]?) = wr.map some) (hnC : va_nd isC = true) (hnd : va_nd isR = true) (hdis : ∀ i ∈ isR, i ∉ isC)
    (hc : CN z D cA cZ (.ref b :: As) wc Q') (kk : ∀ w1, Q' w1 → NT y D cA cZ pc' L st (wr ++ w1) (kc + z.2.2.2.2.1.cells) (ks + z.2.2.2.2.1.slots) Q) : NT y D cA cZ pc L (As.reverse ++ .ref b :: st) w kc ks Q := by
  intro l p e s m args below meth c H locs ls A hC hP hD hS hA hL
  obtain ⟨hd, rfl⟩ := d
  have hM := hc l H.size
  have hTB := hC.2.2.2.2.2.2.1
  have hK := hC.2.2.2.2.2.2.2.1
  rw [zr] at hM
  have hblind : FrameBlind (va_Pc (Value.ref b :: As) (tPN D cA cZ wc H.size)) := fun a U g mk q => ⟨q.1, tPN.as (U := U) rfl rfl q.2⟩
  have hPc : va_P D vwCl wc H := hP.sub isC (by
    have := congrArg (List.filterMap id) hC0
    simpa [List.filterMap_map] using this)
  have hDc : va_D A wc := hD.sub isC hnC hC0
  have hFc := va_free (wc := wc) hD hS hA isC hC0
  have hpre : PreS s H (va_Pc (Value.ref b :: As) (tPN D cA cZ wc H.size)) (.ref b :: As) := ⟨hblind, fun U hU hW => ⟨rfl, by rw [hU], hTB.warm hW, va_K.moved hW.alike hK, by rw [hU]; exact hPc, hDc.weaken (fun _ _ _ _ => trivial)⟩⟩
  have hlen : ∀ sig, parseMethodDescriptor z.1.desc = some sig → n = sig.parameters.length := fun sig h => by
    rw [h] at z4; exact (Option.some.inj z4).symm
  have hwarm : ∀ w ∈ [Cond.code z.1 z.2.1 z.2.2.1 none], ∀ (a' : Array Value) (U : State), s.WarmedH U.vm → w.before a' U = true := fun w hw a' U hW => by
    rw [List.mem_singleton] at hw; subst hw; exact tTB.use (hTB.warm hW) z1
  have hfix : CallFix p m c y.2.1 y.2.2.1 s args [] y.1.cls := ⟨hC.1, hC.2.1, hC.2.2.1, hC.2.2.2.2.2.1, fun w h => by cases h⟩
  have hW8 : 2 * (F0 m pc ls (As.reverse ++ .ref b :: st)).monitorRoom + (st.map fun v => v.category).sum ≤ 8 := Nat.le_trans (by simp) (Nat.le_of_ble_eq_true hst)
  have hrun : va_Run p l e y.2.2.2.2.1 s m args below meth c H locs kc ks z.2.2.2.2.1.cells z.2.2.2.2.1.slots (F0 m pc ls (As.reverse ++ .ref b :: st)) st (tQN D (va_A wc H.size) Q' (Value.ref b :: As).toArray) (va_A wc H.size) := by
    rcases hl with hl | hl
    · exact va_runI hfix hM ⟨⟨rfl, rfl, hR1, hR2, hwarm, List.mem_singleton_self _, tTB.use hTB z1, tTB.use hTB z2, z3, hlen, tTB.use hTB hl⟩, zn, tTB.use hTB zi⟩ hpre rfl hn hL.1 rfl hW8 hd ⟨hkc, hks⟩
    · exact va_runIN hfix hM ⟨⟨⟨rfl, rfl, hR1, hR2, hwarm, List.mem_singleton_self _⟩, tTB.use hTB z1, tTB.use hTB z2, z3, hlen, tTB.use hTB hl⟩, zn, tTB.use hTB zi⟩ hpre rfl hn hL.1 rfl hW8 hd ⟨hkc, hks⟩
  refine va_callv hrun hS (fun q _ h => hFc q h) hFc (fun u t H1 locs1 ht hvm hq hB hsz hk1 hS1 => ?_)
  obtain ⟨hP1, hD1⟩ := hB
  rw [ht] at hP1
  obtain ⟨hP2, hD2⟩ := va_join (wr := wr) (w1 := u) hP hD isC isR hC0 hR0 hnd hdis hk1 hFc hP1 hD1
  exact kk u hq l p e s m args below meth c H1 locs1 ls A hC hP2 hD2 hS1 hA hL
end TNEW2
