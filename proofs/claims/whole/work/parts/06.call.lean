/-! CALLS -/
theorem tPX.as {w : Nat} {D : va_G} {ad : Nat → Nat} {cA cZ : ClassId} {σ : tSt} {sz : Nat} {U V : State} (hv : U.vm = V.vm) (hh : U.heap = V.heap) (h : tPX w D ad cA cZ σ sz U) : tPX w D ad cA cZ σ sz V := by
  obtain ⟨h1, h2, h3, h4, h5, h6⟩ := h
  have ha : U.vm.Alike V.vm := by rw [hv]; exact Vm.Alike.refl _
  refine ⟨by rw [← hh]; exact h1, h2.same hv, va_K.moved ha h3, h4, by rw [← hh]; exact h5, fun hw => ?_⟩
  obtain ⟨⟨a1, a2⟩, a3, a4⟩ := h6 hw
  rw [← hh]
  exact ⟨⟨va_Z.moved ha a1, va_T.moved ha a2⟩, va_Z.moved ha a3, va_T.moved ha a4⟩
theorem tAW_in {n : Nat} {ad : Nat → Nat} {a b q : Nat} (h : tAW n ad b q) (hab : a ≤ b) : tAW n ad a q := h.elim Or.inl (fun z => Or.inr (Nat.le_trans hab z))
theorem tPX.call {y : tMS} {D : va_G} {ad : Nat → Nat} {cA cZ : ClassId} {p : Program} {s : State} {m : MethodId} {meth : Method} {c : Code} {σ : tSt} {H : Heap} {locs : List Loc} (hC : tCX y D ad cA cZ p s m meth c) (hP : va_P D vwCl (tpic ad cA cZ (shp y.2.2.2.2.2) σ) H) (hS : va_S (tAW (shp y.2.2.2.2.2).length ad s.heap.size) s.heap H locs) {U : State} (hU : U.heap = H) (hW : s.WarmedH U.vm) : tPX y.2.2.2.2.2 D ad cA cZ σ H.size U := by
  obtain ⟨-, -, -, -, -, -, hTB, hK, hI, hF⟩ := hC
  have ha : s.vm.Alike U.vm := hW.alike
  refine ⟨by rw [hU], hTB.warm hW, va_K.moved ha hK, hI, by rw [hU]; exact hP, fun hw => ?_⟩
  obtain ⟨⟨a1, a2⟩, a3, a4⟩ := hF hw
  rw [hU]
  exact ⟨⟨((a1.kept hS.2.1).moved ha).narrow (fun q h => tAW_in h hS.1), ((a2.kept hS.2.1).moved ha).narrow (fun q h => tAW_in h hS.1)⟩, ((a3.kept hS.2.1).moved ha).narrow (fun q h => tAW_in h hS.1), ((a4.kept hS.2.1).moved ha).narrow (fun q h => tAW_in h hS.1)⟩
def tZV (z : tMS) (n : Nat) : Prop := tWD (.code z.1 z.2.1 z.2.2.1 z.2.2.2.1) ∧ tWD (.initialized z.1.cls) ∧ (z.1.cls ≠ "java/lang/invoke/MethodHandle" ∧ z.1.cls ≠ "java/lang/invoke/VarHandle") ∧ (parseMethodDescriptor z.1.desc).map (fun d => d.parameters.length) = some n ∧ z.2.2.2.2.1.cells = 0 ∧ z.2.2.2.2.1.slots = 0
def tZI (z : tMS) : Prop := tWD (.instanceMethod z.1) ∧ tWD (.selects z.1.cls z.1 z.1)
def tLK (own : String) (ix : Nat) (z : tMS) : Prop := tWD (.methodLink own ix z.1) ∨ tWD (.methodLinkNest own ix z.1 "ApronDesk")
def tRM (y z : tMS) : Prop := y.2.2.2.2.2 = z.2.2.2.2.2 ∧ z.2.2.2.2.1.frames + 1 ≤ y.2.2.2.2.1.frames ∧ 8 + (z.2.2.1 + 11) + z.2.2.2.2.1.locals ≤ y.2.2.2.2.1.locals
section TCALL
variable {y z : tMS} {pc pc' tgt : Nat} {L st : List Value} {σ : tSt} {Q Q' : Option Int32 → tSt → Prop}
theorem tTail {p : Program} {l : Launch} {e : Env} {s : State} {m : MethodId} {args : Array Value} {below : List Frame} {meth : Method} {c : Code} {H : Heap} {locs : List Loc} {ls : Array Slot} {D : va_G} {ad : Nat → Nat} {cA cZ : ClassId} {st0 : List Value} {a : Array Value}
    (hC : tCX y D ad cA cZ p s m meth c) (hS : va_S (tAW (shp y.2.2.2.2.2).length ad s.heap.size) s.heap H locs) (hL : tLR ad ls y.2.2.1 L)
    (hr : va_Run p l e y.2.2.2.2.1 s m args below meth c H locs 0 0 0 0 (F0 m pc ls st0) (st.map (cv ad)) (tQR y.2.2.2.2.2 D ad cA cZ Q' a) (tAW (shp y.2.2.2.2.2).length ad H.size))
    (kk : ∀ r σ', Q' r σ' → TT y (pc + 3) L (psh r st) σ' Q) :
    W p l e y.2.2.2.2.1 s m args below meth c H locs 0 0 (MQ below (tQR y.2.2.2.2.2 D ad cA cZ Q) args s 0 0 (tAW (shp y.2.2.2.2.2).length ad s.heap.size)) (F0 m pc ls st0) := by
  intro T hT X
  obtain ⟨v, st₀, t, T', Lc, h0, X', hLc, e1, e2, ⟨⟨r, σ', hv, hq, hP'⟩, hz, hk⟩, stp⟩ := hr T hT X
  rw [h0] at hz hk
  have hv' : v = r.map Value.int := Outcome.returned.inj hv
  subst hv'
  have hS' : va_S (tAW (shp y.2.2.2.2.2).length ad s.heap.size) s.heap T'.heap (locs ++ Lc) := by
    refine ⟨Nat.le_trans hS.1 (by rw [e1]; exact hz), fun q h1 h2 => ?_, fun q hq => ?_⟩
    · rw [e1, hk q (Nat.lt_of_lt_of_le h1 hS.1) (fun z => h2 (tAW_in z hS.1))]
      exact hS.2.1 q h1 h2
    · rcases List.mem_append.mp hq with h | h
      · exact hS.2.2 q h
      · exact tAW_in (hLc q h) hS.1
  obtain ⟨t2, a1, b1⟩ := kk r σ' hq l D ad cA cZ p e s m args below meth c T'.heap (locs ++ Lc) ls hC (by rw [e1]; exact hP') hS' hL T' rfl X'
  refine ⟨t2, stp t2 ?_, b1⟩
  cases r <;> exact a1
theorem tr_callA {as : List Value} {k ix n ci : Nat} {fs : List (Option Nat)} {T : u_T} {N : Nat} (d : DC y pc (.invokevirtual ix) 3 pc') (hz : tZV z n) (hzi : tZI z) (hl : tLK y.1.cls ix z) (hR : tRM y z) (hs : (shp z.2.2.2.2.2)[k]? = some (.inr (ci, fs))) (hcl : vwCl[ci]? = some (z.1.cls, T, N)) (hn : as.length = n) (hst : Nat.ble (st.map fun v => v.category).sum 8 = true)
    (hc : CT z (.ref k :: as) σ Q') (kk : ∀ r σ', Q' r σ' → TT y pc' L (psh r st) σ' Q) : TT y pc L (as.reverse ++ .ref k :: st) σ Q := by
  obtain ⟨hd, rfl⟩ := d
  intro l D ad cA cZ p e s m args below meth c H locs ls hC hP hS hL
  have hM := hc l D ad cA cZ H.size
  obtain ⟨hw, hR1, hR2⟩ := hR
  obtain ⟨z1, z2, z3, z4, z5, z6⟩ := hz
  have hTB := hC.2.2.2.2.2.2.1
  rw [← hw] at hM hs
  have hblind : FrameBlind (va_Pc ((Value.ref k :: as).map (cv ad)) (tPX y.2.2.2.2.2 D ad cA cZ σ H.size)) := fun a U g mk q => ⟨q.1, tPX.as (U := U) rfl rfl q.2⟩
  have hrecv := va_recv hC.2.2.2.2.2.2.2.1 hP hcl (tpic_at hs)
  have hpre : PreV s H z.1.cls (ad k) (va_Pc ((Value.ref k :: as).map (cv ad)) (tPX y.2.2.2.2.2 D ad cA cZ σ H.size)) (as.map (cv ad)) := ⟨hblind, hrecv, fun U hU hW => ⟨rfl, tPX.call hC hP hS hU hW⟩⟩
  have hlen : ∀ sig, parseMethodDescriptor z.1.desc = some sig → n = sig.parameters.length := fun sig h => by
    rw [h] at z4; exact (Option.some.inj z4).symm
  have hwarm : ∀ w ∈ [Cond.code z.1 z.2.1 z.2.2.1 z.2.2.2.1], ∀ (a' : Array Value) (U : State), s.WarmedH U.vm → w.before a' U = true := fun w hw a' U hW => by
    rw [List.mem_singleton] at hw; subst hw; exact tTB.use (hTB.warm hW) z1
  have hstk : (F0 m pc ls ((as.reverse ++ .ref k :: st).map (cv ad))).stack = (as.map (cv ad)).reverse ++ .ref (ad k) :: st.map (cv ad) := by
    simp [cv]
  have hW8 : 2 * (F0 m pc ls ((as.reverse ++ .ref k :: st).map (cv ad))).monitorRoom + ((st.map (cv ad)).map fun v => v.category).sum ≤ 8 := by
    rw [cv_sum]
    exact Nat.le_trans (by simp) (Nat.le_of_ble_eq_true hst)
  have hfix : CallFix p m c y.2.1 y.2.2.1 s args [] y.1.cls := ⟨hC.1, hC.2.1, hC.2.2.1, hC.2.2.2.2.2.1, fun w h => by cases h⟩
  refine tTail (a := (Value.ref (ad k) :: as.map (cv ad)).toArray) hC hS hL ?_ kk
  rcases hl with hl | hl
  · exact va_runV hfix hM ⟨⟨z5, z6, hR1, hR2, hwarm, List.mem_singleton_self _, tTB.use hTB z1, tTB.use hTB z2, z3, hlen, tTB.use hTB hl⟩, tTB.use hTB hzi.1, tTB.use hTB hzi.2⟩ hpre rfl (by simpa using hn) hL.1 hstk hW8 hd ⟨Nat.zero_le _, Nat.zero_le _⟩
  · exact va_runVN hfix hM ⟨⟨⟨z5, z6, hR1, hR2, hwarm, List.mem_singleton_self _⟩, tTB.use hTB z1, tTB.use hTB z2, z3, hlen, tTB.use hTB hl⟩, tTB.use hTB hzi.1, tTB.use hTB hzi.2⟩ hpre rfl (by simpa using hn) hL.1 hstk hW8 hd ⟨Nat.zero_le _, Nat.zero_le _⟩
theorem tr_callS {as : List Value} {ix n : Nat} (d : DC y pc (.invokestatic ix) 3 pc') (hz : tZV z n) (hzi : tWD (.static z.1)) (hl : tLK y.1.cls ix z) (hR : tRM y z) (hn : as.length = n) (hst : Nat.ble (st.map fun v => v.category).sum 8 = true)
    (hc : CT z as σ Q') (kk : ∀ r σ', Q' r σ' → TT y pc' L (psh r st) σ' Q) : TT y pc L (as.reverse ++ st) σ Q := by
  obtain ⟨hd, rfl⟩ := d
  intro l D ad cA cZ p e s m args below meth c H locs ls hC hP hS hL
  have hM := hc l D ad cA cZ H.size
  obtain ⟨hw, hR1, hR2⟩ := hR
  obtain ⟨z1, z2, z3, z4, z5, z6⟩ := hz
  have hTB := hC.2.2.2.2.2.2.1
  rw [← hw] at hM
  have hblind : FrameBlind (va_Pc (as.map (cv ad)) (tPX y.2.2.2.2.2 D ad cA cZ σ H.size)) := fun a U g mk q => ⟨q.1, tPX.as (U := U) rfl rfl q.2⟩
  have hpre : PreS s H (va_Pc (as.map (cv ad)) (tPX y.2.2.2.2.2 D ad cA cZ σ H.size)) (as.map (cv ad)) := ⟨hblind, fun U hU hW => ⟨rfl, tPX.call hC hP hS hU hW⟩⟩
  have hlen : ∀ sig, parseMethodDescriptor z.1.desc = some sig → n = sig.parameters.length := fun sig h => by
    rw [h] at z4; exact (Option.some.inj z4).symm
  have hwarm : ∀ w ∈ [Cond.code z.1 z.2.1 z.2.2.1 z.2.2.2.1], ∀ (a' : Array Value) (U : State), s.WarmedH U.vm → w.before a' U = true := fun w hw a' U hW => by
    rw [List.mem_singleton] at hw; subst hw; exact tTB.use (hTB.warm hW) z1
  have hstk : (F0 m pc ls ((as.reverse ++ st).map (cv ad))).stack = (as.map (cv ad)).reverse ++ st.map (cv ad) := by
    simp
  have hW8 : 2 * (F0 m pc ls ((as.reverse ++ st).map (cv ad))).monitorRoom + ((st.map (cv ad)).map fun v => v.category).sum ≤ 8 := by
    rw [cv_sum]
    exact Nat.le_trans (by simp) (Nat.le_of_ble_eq_true hst)
  have hfix : CallFix p m c y.2.1 y.2.2.1 s args [] y.1.cls := ⟨hC.1, hC.2.1, hC.2.2.1, hC.2.2.2.2.2.1, fun w h => by cases h⟩
  refine tTail (a := (as.map (cv ad)).toArray) hC hS hL ?_ kk
  rcases hl with hl | hl
  · exact va_runS hfix hM ⟨⟨z5, z6, hR1, hR2, hwarm, List.mem_singleton_self _, tTB.use hTB z1, tTB.use hTB z2, z3, hlen, tTB.use hTB hl⟩, tTB.use hTB hzi⟩ hpre rfl (by simpa using hn) hL.1 hstk hW8 hd ⟨Nat.zero_le _, Nat.zero_le _⟩
  · exact va_runSN hfix hM ⟨⟨⟨z5, z6, hR1, hR2, hwarm, List.mem_singleton_self _⟩, tTB.use hTB z1, tTB.use hTB z2, z3, hlen, tTB.use hTB hl⟩, tTB.use hTB hzi, trivial⟩ hpre rfl (by simpa using hn) hL.1 hstk hW8 hd ⟨Nat.zero_le _, Nat.zero_le _⟩
/-- the answer and the store, told -/
def PE (r : Option Int32) (σ : tSt) : Option Int32 → tSt → Prop := fun r' σ' => r' = r ∧ σ' = σ
theorem tr_cv0 {k ix ci : Nat} {fs : List (Option Nat)} {T : u_T} {N : Nat} {r0 : Option Int32} {σ1 : tSt} (dd : DC y pc (.invokevirtual ix) 3 pc') (hz : tZV z 0) (hzi : tZI z) (hl : tLK y.1.cls ix z) (hR : tRM y z) (hs : (shp z.2.2.2.2.2)[k]? = some (.inr (ci, fs))) (hcl : vwCl[ci]? = some (z.1.cls, T, N)) (hst : Nat.ble (st.map fun v => v.category).sum 8 = true) (hc : CT z [.ref k] σ Q') (kk : ∀ r σ', Q' r σ' → TT y pc' L (psh r st) σ' Q) : TT y pc L (.ref k :: st) σ Q := tr_callA (as := []) dd hz hzi hl hR hs hcl rfl hst hc kk
theorem tr_ce0 {k ix ci : Nat} {fs : List (Option Nat)} {T : u_T} {N : Nat} {r0 : Option Int32} {σ1 : tSt} (dd : DC y pc (.invokevirtual ix) 3 pc') (hz : tZV z 0) (hzi : tZI z) (hl : tLK y.1.cls ix z) (hR : tRM y z) (hs : (shp z.2.2.2.2.2)[k]? = some (.inr (ci, fs))) (hcl : vwCl[ci]? = some (z.1.cls, T, N)) (hst : Nat.ble (st.map fun v => v.category).sum 8 = true) (hc : CT z [.ref k] σ (PE r0 σ1)) (kk : TT y pc' L (psh r0 st) σ1 Q) : TT y pc L (.ref k :: st) σ Q := tr_callA (as := []) dd hz hzi hl hR hs hcl rfl hst hc (fun r σ' h => by obtain ⟨rfl, rfl⟩ := h; exact kk)
theorem tr_cv1 {a : Value} {k ix ci : Nat} {fs : List (Option Nat)} {T : u_T} {N : Nat} {r0 : Option Int32} {σ1 : tSt} (dd : DC y pc (.invokevirtual ix) 3 pc') (hz : tZV z 1) (hzi : tZI z) (hl : tLK y.1.cls ix z) (hR : tRM y z) (hs : (shp z.2.2.2.2.2)[k]? = some (.inr (ci, fs))) (hcl : vwCl[ci]? = some (z.1.cls, T, N)) (hst : Nat.ble (st.map fun v => v.category).sum 8 = true) (hc : CT z [.ref k, a] σ Q') (kk : ∀ r σ', Q' r σ' → TT y pc' L (psh r st) σ' Q) : TT y pc L (a :: .ref k :: st) σ Q := tr_callA (as := [a]) dd hz hzi hl hR hs hcl rfl hst hc kk
theorem tr_ce1 {a : Value} {k ix ci : Nat} {fs : List (Option Nat)} {T : u_T} {N : Nat} {r0 : Option Int32} {σ1 : tSt} (dd : DC y pc (.invokevirtual ix) 3 pc') (hz : tZV z 1) (hzi : tZI z) (hl : tLK y.1.cls ix z) (hR : tRM y z) (hs : (shp z.2.2.2.2.2)[k]? = some (.inr (ci, fs))) (hcl : vwCl[ci]? = some (z.1.cls, T, N)) (hst : Nat.ble (st.map fun v => v.category).sum 8 = true) (hc : CT z [.ref k, a] σ (PE r0 σ1)) (kk : TT y pc' L (psh r0 st) σ1 Q) : TT y pc L (a :: .ref k :: st) σ Q := tr_callA (as := [a]) dd hz hzi hl hR hs hcl rfl hst hc (fun r σ' h => by obtain ⟨rfl, rfl⟩ := h; exact kk)
theorem tr_se1 {a : Value} {ix : Nat} {r0 : Option Int32} {σ1 : tSt} (dd : DC y pc (.invokestatic ix) 3 pc') (hz : tZV z 1) (hzi : tWD (.static z.1)) (hl : tLK y.1.cls ix z) (hR : tRM y z) (hst : Nat.ble (st.map fun v => v.category).sum 8 = true) (hc : CT z [a] σ (PE r0 σ1)) (kk : TT y pc' L (psh r0 st) σ1 Q) : TT y pc L (a :: st) σ Q := tr_callS (as := [a]) dd hz hzi hl hR rfl hst hc (fun r σ' h => by obtain ⟨rfl, rfl⟩ := h; exact kk)
theorem tr_cv2 {a b : Value} {k ix ci : Nat} {fs : List (Option Nat)} {T : u_T} {N : Nat} {r0 : Option Int32} {σ1 : tSt} (dd : DC y pc (.invokevirtual ix) 3 pc') (hz : tZV z 2) (hzi : tZI z) (hl : tLK y.1.cls ix z) (hR : tRM y z) (hs : (shp z.2.2.2.2.2)[k]? = some (.inr (ci, fs))) (hcl : vwCl[ci]? = some (z.1.cls, T, N)) (hst : Nat.ble (st.map fun v => v.category).sum 8 = true) (hc : CT z [.ref k, a, b] σ Q') (kk : ∀ r σ', Q' r σ' → TT y pc' L (psh r st) σ' Q) : TT y pc L (b :: a :: .ref k :: st) σ Q := tr_callA (as := [a, b]) dd hz hzi hl hR hs hcl rfl hst hc kk
theorem tr_ce2 {a b : Value} {k ix ci : Nat} {fs : List (Option Nat)} {T : u_T} {N : Nat} {r0 : Option Int32} {σ1 : tSt} (dd : DC y pc (.invokevirtual ix) 3 pc') (hz : tZV z 2) (hzi : tZI z) (hl : tLK y.1.cls ix z) (hR : tRM y z) (hs : (shp z.2.2.2.2.2)[k]? = some (.inr (ci, fs))) (hcl : vwCl[ci]? = some (z.1.cls, T, N)) (hst : Nat.ble (st.map fun v => v.category).sum 8 = true) (hc : CT z [.ref k, a, b] σ (PE r0 σ1)) (kk : TT y pc' L (psh r0 st) σ1 Q) : TT y pc L (b :: a :: .ref k :: st) σ Q := tr_callA (as := [a, b]) dd hz hzi hl hR hs hcl rfl hst hc (fun r σ' h => by obtain ⟨rfl, rfl⟩ := h; exact kk)
theorem tr_se2 {a b : Value} {ix : Nat} {r0 : Option Int32} {σ1 : tSt} (dd : DC y pc (.invokestatic ix) 3 pc') (hz : tZV z 2) (hzi : tWD (.static z.1)) (hl : tLK y.1.cls ix z) (hR : tRM y z) (hst : Nat.ble (st.map fun v => v.category).sum 8 = true) (hc : CT z [a, b] σ (PE r0 σ1)) (kk : TT y pc' L (psh r0 st) σ1 Q) : TT y pc L (b :: a :: st) σ Q := tr_callS (as := [a, b]) dd hz hzi hl hR rfl hst hc (fun r σ' h => by obtain ⟨rfl, rfl⟩ := h; exact kk)
theorem tr_cv3 {a b c : Value} {k ix ci : Nat} {fs : List (Option Nat)} {T : u_T} {N : Nat} {r0 : Option Int32} {σ1 : tSt} (dd : DC y pc (.invokevirtual ix) 3 pc') (hz : tZV z 3) (hzi : tZI z) (hl : tLK y.1.cls ix z) (hR : tRM y z) (hs : (shp z.2.2.2.2.2)[k]? = some (.inr (ci, fs))) (hcl : vwCl[ci]? = some (z.1.cls, T, N)) (hst : Nat.ble (st.map fun v => v.category).sum 8 = true) (hc : CT z [.ref k, a, b, c] σ Q') (kk : ∀ r σ', Q' r σ' → TT y pc' L (psh r st) σ' Q) : TT y pc L (c :: b :: a :: .ref k :: st) σ Q := tr_callA (as := [a, b, c]) dd hz hzi hl hR hs hcl rfl hst hc kk
theorem tr_ce3 {a b c : Value} {k ix ci : Nat} {fs : List (Option Nat)} {T : u_T} {N : Nat} {r0 : Option Int32} {σ1 : tSt} (dd : DC y pc (.invokevirtual ix) 3 pc') (hz : tZV z 3) (hzi : tZI z) (hl : tLK y.1.cls ix z) (hR : tRM y z) (hs : (shp z.2.2.2.2.2)[k]? = some (.inr (ci, fs))) (hcl : vwCl[ci]? = some (z.1.cls, T, N)) (hst : Nat.ble (st.map fun v => v.category).sum 8 = true) (hc : CT z [.ref k, a, b, c] σ (PE r0 σ1)) (kk : TT y pc' L (psh r0 st) σ1 Q) : TT y pc L (c :: b :: a :: .ref k :: st) σ Q := tr_callA (as := [a, b, c]) dd hz hzi hl hR hs hcl rfl hst hc (fun r σ' h => by obtain ⟨rfl, rfl⟩ := h; exact kk)
theorem tr_se3 {a b c : Value} {ix : Nat} {r0 : Option Int32} {σ1 : tSt} (dd : DC y pc (.invokestatic ix) 3 pc') (hz : tZV z 3) (hzi : tWD (.static z.1)) (hl : tLK y.1.cls ix z) (hR : tRM y z) (hst : Nat.ble (st.map fun v => v.category).sum 8 = true) (hc : CT z [a, b, c] σ (PE r0 σ1)) (kk : TT y pc' L (psh r0 st) σ1 Q) : TT y pc L (c :: b :: a :: st) σ Q := tr_callS (as := [a, b, c]) dd hz hzi hl hR rfl hst hc (fun r σ' h => by obtain ⟨rfl, rfl⟩ := h; exact kk)
theorem tr_cv4 {a b c d : Value} {k ix ci : Nat} {fs : List (Option Nat)} {T : u_T} {N : Nat} {r0 : Option Int32} {σ1 : tSt} (dd : DC y pc (.invokevirtual ix) 3 pc') (hz : tZV z 4) (hzi : tZI z) (hl : tLK y.1.cls ix z) (hR : tRM y z) (hs : (shp z.2.2.2.2.2)[k]? = some (.inr (ci, fs))) (hcl : vwCl[ci]? = some (z.1.cls, T, N)) (hst : Nat.ble (st.map fun v => v.category).sum 8 = true) (hc : CT z [.ref k, a, b, c, d] σ Q') (kk : ∀ r σ', Q' r σ' → TT y pc' L (psh r st) σ' Q) : TT y pc L (d :: c :: b :: a :: .ref k :: st) σ Q := tr_callA (as := [a, b, c, d]) dd hz hzi hl hR hs hcl rfl hst hc kk
theorem tr_ce4 {a b c d : Value} {k ix ci : Nat} {fs : List (Option Nat)} {T : u_T} {N : Nat} {r0 : Option Int32} {σ1 : tSt} (dd : DC y pc (.invokevirtual ix) 3 pc') (hz : tZV z 4) (hzi : tZI z) (hl : tLK y.1.cls ix z) (hR : tRM y z) (hs : (shp z.2.2.2.2.2)[k]? = some (.inr (ci, fs))) (hcl : vwCl[ci]? = some (z.1.cls, T, N)) (hst : Nat.ble (st.map fun v => v.category).sum 8 = true) (hc : CT z [.ref k, a, b, c, d] σ (PE r0 σ1)) (kk : TT y pc' L (psh r0 st) σ1 Q) : TT y pc L (d :: c :: b :: a :: .ref k :: st) σ Q := tr_callA (as := [a, b, c, d]) dd hz hzi hl hR hs hcl rfl hst hc (fun r σ' h => by obtain ⟨rfl, rfl⟩ := h; exact kk)
theorem tr_se4 {a b c d : Value} {ix : Nat} {r0 : Option Int32} {σ1 : tSt} (dd : DC y pc (.invokestatic ix) 3 pc') (hz : tZV z 4) (hzi : tWD (.static z.1)) (hl : tLK y.1.cls ix z) (hR : tRM y z) (hst : Nat.ble (st.map fun v => v.category).sum 8 = true) (hc : CT z [a, b, c, d] σ (PE r0 σ1)) (kk : TT y pc' L (psh r0 st) σ1 Q) : TT y pc L (d :: c :: b :: a :: st) σ Q := tr_callS (as := [a, b, c, d]) dd hz hzi hl hR rfl hst hc (fun r σ' h => by obtain ⟨rfl, rfl⟩ := h; exact kk)
theorem tr_cv5 {a b c d e : Value} {k ix ci : Nat} {fs : List (Option Nat)} {T : u_T} {N : Nat} {r0 : Option Int32} {σ1 : tSt} (dd : DC y pc (.invokevirtual ix) 3 pc') (hz : tZV z 5) (hzi : tZI z) (hl : tLK y.1.cls ix z) (hR : tRM y z) (hs : (shp z.2.2.2.2.2)[k]? = some (.inr (ci, fs))) (hcl : vwCl[ci]? = some (z.1.cls, T, N)) (hst : Nat.ble (st.map fun v => v.category).sum 8 = true) (hc : CT z [.ref k, a, b, c, d, e] σ Q') (kk : ∀ r σ', Q' r σ' → TT y pc' L (psh r st) σ' Q) : TT y pc L (e :: d :: c :: b :: a :: .ref k :: st) σ Q := tr_callA (as := [a, b, c, d, e]) dd hz hzi hl hR hs hcl rfl hst hc kk
theorem tr_ce5 {a b c d e : Value} {k ix ci : Nat} {fs : List (Option Nat)} {T : u_T} {N : Nat} {r0 : Option Int32} {σ1 : tSt} (dd : DC y pc (.invokevirtual ix) 3 pc') (hz : tZV z 5) (hzi : tZI z) (hl : tLK y.1.cls ix z) (hR : tRM y z) (hs : (shp z.2.2.2.2.2)[k]? = some (.inr (ci, fs))) (hcl : vwCl[ci]? = some (z.1.cls, T, N)) (hst : Nat.ble (st.map fun v => v.category).sum 8 = true) (hc : CT z [.ref k, a, b, c, d, e] σ (PE r0 σ1)) (kk : TT y pc' L (psh r0 st) σ1 Q) : TT y pc L (e :: d :: c :: b :: a :: .ref k :: st) σ Q := tr_callA (as := [a, b, c, d, e]) dd hz hzi hl hR hs hcl rfl hst hc (fun r σ' h => by obtain ⟨rfl, rfl⟩ := h; exact kk)
theorem tr_cv6 {a b c d e f : Value} {k ix ci : Nat} {fs : List (Option Nat)} {T : u_T} {N : Nat} {r0 : Option Int32} {σ1 : tSt} (dd : DC y pc (.invokevirtual ix) 3 pc') (hz : tZV z 6) (hzi : tZI z) (hl : tLK y.1.cls ix z) (hR : tRM y z) (hs : (shp z.2.2.2.2.2)[k]? = some (.inr (ci, fs))) (hcl : vwCl[ci]? = some (z.1.cls, T, N)) (hst : Nat.ble (st.map fun v => v.category).sum 8 = true) (hc : CT z [.ref k, a, b, c, d, e, f] σ Q') (kk : ∀ r σ', Q' r σ' → TT y pc' L (psh r st) σ' Q) : TT y pc L (f :: e :: d :: c :: b :: a :: .ref k :: st) σ Q := tr_callA (as := [a, b, c, d, e, f]) dd hz hzi hl hR hs hcl rfl hst hc kk
theorem tr_ce6 {a b c d e f : Value} {k ix ci : Nat} {fs : List (Option Nat)} {T : u_T} {N : Nat} {r0 : Option Int32} {σ1 : tSt} (dd : DC y pc (.invokevirtual ix) 3 pc') (hz : tZV z 6) (hzi : tZI z) (hl : tLK y.1.cls ix z) (hR : tRM y z) (hs : (shp z.2.2.2.2.2)[k]? = some (.inr (ci, fs))) (hcl : vwCl[ci]? = some (z.1.cls, T, N)) (hst : Nat.ble (st.map fun v => v.category).sum 8 = true) (hc : CT z [.ref k, a, b, c, d, e, f] σ (PE r0 σ1)) (kk : TT y pc' L (psh r0 st) σ1 Q) : TT y pc L (f :: e :: d :: c :: b :: a :: .ref k :: st) σ Q := tr_callA (as := [a, b, c, d, e, f]) dd hz hzi hl hR hs hcl rfl hst hc (fun r σ' h => by obtain ⟨rfl, rfl⟩ := h; exact kk)
theorem tr_cv7 {a b c d e f g : Value} {k ix ci : Nat} {fs : List (Option Nat)} {T : u_T} {N : Nat} {r0 : Option Int32} {σ1 : tSt} (dd : DC y pc (.invokevirtual ix) 3 pc') (hz : tZV z 7) (hzi : tZI z) (hl : tLK y.1.cls ix z) (hR : tRM y z) (hs : (shp z.2.2.2.2.2)[k]? = some (.inr (ci, fs))) (hcl : vwCl[ci]? = some (z.1.cls, T, N)) (hst : Nat.ble (st.map fun v => v.category).sum 8 = true) (hc : CT z [.ref k, a, b, c, d, e, f, g] σ Q') (kk : ∀ r σ', Q' r σ' → TT y pc' L (psh r st) σ' Q) : TT y pc L (g :: f :: e :: d :: c :: b :: a :: .ref k :: st) σ Q := tr_callA (as := [a, b, c, d, e, f, g]) dd hz hzi hl hR hs hcl rfl hst hc kk
theorem tr_ce7 {a b c d e f g : Value} {k ix ci : Nat} {fs : List (Option Nat)} {T : u_T} {N : Nat} {r0 : Option Int32} {σ1 : tSt} (dd : DC y pc (.invokevirtual ix) 3 pc') (hz : tZV z 7) (hzi : tZI z) (hl : tLK y.1.cls ix z) (hR : tRM y z) (hs : (shp z.2.2.2.2.2)[k]? = some (.inr (ci, fs))) (hcl : vwCl[ci]? = some (z.1.cls, T, N)) (hst : Nat.ble (st.map fun v => v.category).sum 8 = true) (hc : CT z [.ref k, a, b, c, d, e, f, g] σ (PE r0 σ1)) (kk : TT y pc' L (psh r0 st) σ1 Q) : TT y pc L (g :: f :: e :: d :: c :: b :: a :: .ref k :: st) σ Q := tr_callA (as := [a, b, c, d, e, f, g]) dd hz hzi hl hR hs hcl rfl hst hc (fun r σ' h => by obtain ⟨rfl, rfl⟩ := h; exact kk)
end TCALL
