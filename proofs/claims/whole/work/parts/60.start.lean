/-! THE CLAIM OUT OF ONE WALK OF THE LAW'S BODY. Your part is whole_start (and what it stands on); all else here is the same for every law, but numbers. -/
def R_law : String := "ApronDeskLaw"
def lw_P (b : Addr) (xs : List Int32) (args : Array Value) (s : State) : Prop := args = #[.ref b] ∧ s.IntsAt b xs ∧ xs.length ≤ 3072 ∧ (Jvm.Cond.and given_1 narrow_1).before args s = true
def lw_Q (_ : Array Value) (s : State) (o : Outcome) (t : State) : Prop := o = .returned (some (.int 1)) ∧ Framed s o t [] 55 3671
def lw_Z (below : List Frame) (a : Array Value) (s : State) : State → Prop := fun t => ∃ o, t.status = .running ∧ Ended t below o ∧ lw_Q a s o t
/-- the law's own end, with 1 on the stack, nothing written that was there before, its room as the claim has it -/
theorem lw_ret {p : Program} {l : Launch} {e : Env} {s : State} {m : MethodId} {below : List Frame} {meth : Method} {c : Code} {b : Nat} (hx : p.tables.exec = Jvm.exec) (hb : c.code = code) (hr : meth.sig.returnType = ret) (hlocks : meth.locks = false) {pc : Nat} {H : Heap} {ls : Array Slot} (hdg : decode code pc = .ok (.ireturn, 1)) : W p l e room_1 s m #[Value.ref b] below meth c H [] 55 3671 (lw_Z below #[Value.ref b] s) (F0 m pc ls [.int 1]) := by
  intro T hT X
  obtain ⟨fs, hret, hrun, hended, hW, hframe⟩ := X.leave (v := some (.int 1)) (hlocks := hlocks) (fun h => by rw [hr] at h; cases h)
  have hmeth' : T.vm.method? m = some meth := X.method'
  refine ⟨T.setFrames fs, ?_, .returned (some (.int 1)), hrun, hended, rfl, ⟨_, rfl⟩, hW, hframe⟩
  jvm_step X.here [X.here.top, hx, hb, hdg, hmeth', hr, ret, narrow_b1]
  (try refine ⟨rfl, ?_⟩); (try refine ⟨rfl, ?_⟩)
  first | (intro acts; rw [hret _ acts rfl rfl rfl]) | rw [hret _ _ rfl rfl rfl]
  exact Steps.refl _
/-- what holds at the law's entry: the machine, the code, the tables' words (any of lw_tbl by 'hts w (by decide +kernel)'), the script of L ints xs at the cell b, what the Statement gives of the start (any of its parts by flat_of_before) -/
def lw_At (p : Program) (s : State) (m : MethodId) (meth : Method) (c : Code) (b L : Nat) (xs : Nat → Int32) : Prop :=
  p.tables.exec = Jvm.exec ∧ c.code = code ∧ meth.sig.returnType = ret ∧ c.maxLocals = 4 ∧ s.vm.findClass R_law = some m.cls ∧ (∀ w ∈ lw_tbl, w.before #[Value.ref b] s = true) ∧ va_X b L xs s s.heap ∧ b < s.heap.size ∧ meth.locks = false ∧ (Jvm.Cond.and given_1 narrow_1).before #[Value.ref b] s = true
theorem lw_TB {s : State} {b : Nat} (hts : ∀ w ∈ lw_tbl, w.before #[Value.ref b] s = true) : tTB s := fun w hw hg => va_Nw.of (gw_on hg) (hts w hw)
theorem lw_know {s : State} {b : Nat} (hts : ∀ w ∈ lw_tbl, w.before #[Value.ref b] s = true) : ∃ (D : va_G) (cA cZ : ClassId), va_K D vwCl (tTy cA cZ) s := by
  have hTB := lw_TB hts
  obtain ⟨c0, i0, h0⟩ := u_known (C := RX0) (T := TX0) (N := 5) (n := 5) (ws := u_ws RX0 TX0 5) (args := #[Value.ref b]) (fun w hw => tTB.use hTB (tcf0_w w hw)) (fun _ h => h) (tTB.use hTB (tWD_i 301 (by decide +kernel) (by decide +kernel)))
  obtain ⟨c1, i1, h1⟩ := u_known (C := RX1) (T := TX1) (N := 12) (n := 12) (ws := u_ws RX1 TX1 12) (args := #[Value.ref b]) (fun w hw => tTB.use hTB (tcf1_w w hw)) (fun _ h => h) (tTB.use hTB (tWD_i 117 (by decide +kernel) (by decide +kernel)))
  obtain ⟨c2, i2, h2⟩ := u_known (C := RX2) (T := TX2) (N := 8) (n := 8) (ws := u_ws RX2 TX2 8) (args := #[Value.ref b]) (fun w hw => tTB.use hTB (tcf2_w w hw)) (fun _ h => h) (tTB.use hTB (tWD_i 211 (by decide +kernel) (by decide +kernel)))
  obtain ⟨c3, i3, h3⟩ := u_known (C := RX3) (T := TX3) (N := 2) (n := 2) (ws := u_ws RX3 TX3 2) (args := #[Value.ref b]) (fun w hw => tTB.use hTB (tcf3_w w hw)) (fun _ h => h) (tTB.use hTB (tWD_i 252 (by decide +kernel) (by decide +kernel)))
  obtain ⟨c4, i4, h4⟩ := u_known (C := RX4) (T := TX4) (N := 9) (n := 9) (ws := u_ws RX4 TX4 9) (args := #[Value.ref b]) (fun w hw => tTB.use hTB (tcf4_w w hw)) (fun _ h => h) (tTB.use hTB (tWD_i 246 (by decide +kernel) (by decide +kernel)))
  obtain ⟨c5, i5, h5⟩ := u_known (C := RX5) (T := TX5) (N := 8) (n := 8) (ws := u_ws RX5 TX5 8) (args := #[Value.ref b]) (fun w hw => tTB.use hTB (tcf5_w w hw)) (fun _ h => h) (tTB.use hTB (tWD_i 170 (by decide +kernel) (by decide +kernel)))
  obtain ⟨c6, i6, h6⟩ := u_known (C := RX6) (T := TX6) (N := 10) (n := 10) (ws := u_ws RX6 TX6 10) (args := #[Value.ref b]) (fun w hw => tTB.use hTB (tcf6_w w hw)) (fun _ h => h) (tTB.use hTB (tWD_i 109 (by decide +kernel) (by decide +kernel)))
  obtain ⟨c7, i7, h7⟩ := u_known (C := RX7) (T := TX7) (N := 35) (n := 35) (ws := u_ws RX7 TX7 35) (args := #[Value.ref b]) (fun w hw => tTB.use hTB (tcf7_w w hw)) (fun _ h => h) (tTB.use hTB (tWD_i 807 (by decide +kernel) (by decide +kernel)))
  obtain ⟨cA, kA, pA, a1, a2, a3⟩ := Cond.arrayClass_spec (hts (.arrayClass .int) (List.mem_of_getElem? (i := 168) (by decide +kernel)))
  obtain ⟨cZ, kZ, pZ, z1, z2, z3⟩ := Cond.arrayClass_spec (hts (.arrayClass .boolean) (List.mem_of_getElem? (i := 244) (by decide +kernel)))
  refine ⟨(fun k => match k with | 0 => c0 | 1 => c1 | 2 => c2 | 3 => c3 | 4 => c4 | 5 => c5 | 6 => c6 | _ => c7, fun k => match k with | 0 => i0 | 1 => i1 | 2 => i2 | 3 => i3 | 4 => i4 | 5 => i5 | 6 => i6 | _ => i7), cA, cZ, ?_, ?_⟩
  · intro k q hq
    match k, hq with
    | 0, hq => cases hq; exact h0
    | 1, hq => cases hq; exact h1
    | 2, hq => cases hq; exact h2
    | 3, hq => cases hq; exact h3
    | 4, hq => cases hq; exact h4
    | 5, hq => cases hq; exact h5
    | 6, hq => cases hq; exact h6
    | 7, hq => cases hq; exact h7
    | k + 8, hq => cases hq
  · intro k q hq
    match k, hq with
    | 0, hq => cases hq; exact ⟨fun N z => ⟨(fun k h => by cases h), kA, a2, pA, a3⟩, a1⟩
    | 1, hq => cases hq; exact ⟨fun N z => ⟨(fun k h => by cases h), kZ, z2, pZ, z3⟩, z1⟩
    | k + 2, hq => cases hq
theorem lw_stat {s : State} {b : Nat} (hts : ∀ w ∈ lw_tbl, w.before #[Value.ref b] s = true) (hgv : (Jvm.Cond.and given_1 narrow_1).before #[Value.ref b] s = true) : ∃ t1 t2 : Nat,
    (va_Z "ApronDesk" "FREIGHT_ORDER" "[I" (.ref t1) (fun q => s.heap.size ≤ q) s s.heap ∧ va_T .int t1 3 (fun j => .int (frO (nI j))) (fun q => s.heap.size ≤ q) s s.heap) ∧
    (va_Z "ApronDesk" "COMMON_ORDER" "[I" (.ref t2) (fun q => s.heap.size ≤ q) s s.heap ∧ va_T .int t2 5 (fun j => .int (coO (nI j))) (fun q => s.heap.size ≤ q) s s.heap) := by
  have hs := flat_of_before _ hgv
  have hA : ∀ a : Nat, a < s.heap.size → ¬ (fun q : Nat => s.heap.size ≤ q) a := fun a h => Nat.not_le.mpr h
  obtain ⟨t1, e1, T1⟩ := va_Tof (tm := (Term.static "ApronDesk" "FREIGHT_ORDER" "[I")) (ty := .int) (N := 3) (f := fun j => .int (frO (nI j))) (A := fun q => s.heap.size ≤ q) (by decide) (hs (.arrayOf (Term.static "ApronDesk" "FREIGHT_ORDER" "[I") .int) (by decide +kernel)) (va_eqt (hs (.eq (.length (Term.static "ApronDesk" "FREIGHT_ORDER" "[I")) (.int 3)) (by decide +kernel))) (fun j hj => by
    match j, hj with
    | 0, _ =>
      show (Term.elem (Term.static "ApronDesk" "FREIGHT_ORDER" "[I") (.int 0)).eval #[Value.ref b] s none [] s = some (.int (frO (nI 0)))
      rw [show frO (nI 0) = 4 by decide]
      exact va_eqt (hs (.eq (.elem (Term.static "ApronDesk" "FREIGHT_ORDER" "[I") (.int 0)) (.int 4)) (by decide +kernel))
    | 1, _ =>
      show (Term.elem (Term.static "ApronDesk" "FREIGHT_ORDER" "[I") (.int 1)).eval #[Value.ref b] s none [] s = some (.int (frO (nI 1)))
      rw [show frO (nI 1) = 1 by decide]
      exact va_eqt (hs (.eq (.elem (Term.static "ApronDesk" "FREIGHT_ORDER" "[I") (.int 1)) (.int 1)) (by decide +kernel))
    | 2, _ =>
      show (Term.elem (Term.static "ApronDesk" "FREIGHT_ORDER" "[I") (.int 2)).eval #[Value.ref b] s none [] s = some (.int (frO (nI 2)))
      rw [show frO (nI 2) = 5 by decide]
      exact va_eqt (hs (.eq (.elem (Term.static "ApronDesk" "FREIGHT_ORDER" "[I") (.int 2)) (.int 5)) (by decide +kernel))
    | k + 3, h => exact absurd h (by omega)) hA
  obtain ⟨t2, e2, T2⟩ := va_Tof (tm := (Term.static "ApronDesk" "COMMON_ORDER" "[I")) (ty := .int) (N := 5) (f := fun j => .int (coO (nI j))) (A := fun q => s.heap.size ≤ q) (by decide) (hs (.arrayOf (Term.static "ApronDesk" "COMMON_ORDER" "[I") .int) (by decide +kernel)) (va_eqt (hs (.eq (.length (Term.static "ApronDesk" "COMMON_ORDER" "[I")) (.int 5)) (by decide +kernel))) (fun j hj => by
    match j, hj with
    | 0, _ =>
      show (Term.elem (Term.static "ApronDesk" "COMMON_ORDER" "[I") (.int 0)).eval #[Value.ref b] s none [] s = some (.int (coO (nI 0)))
      rw [show coO (nI 0) = 2 by decide]
      exact va_eqt (hs (.eq (.elem (Term.static "ApronDesk" "COMMON_ORDER" "[I") (.int 0)) (.int 2)) (by decide +kernel))
    | 1, _ =>
      show (Term.elem (Term.static "ApronDesk" "COMMON_ORDER" "[I") (.int 1)).eval #[Value.ref b] s none [] s = some (.int (coO (nI 1)))
      rw [show coO (nI 1) = 3 by decide]
      exact va_eqt (hs (.eq (.elem (Term.static "ApronDesk" "COMMON_ORDER" "[I") (.int 1)) (.int 3)) (by decide +kernel))
    | 2, _ =>
      show (Term.elem (Term.static "ApronDesk" "COMMON_ORDER" "[I") (.int 2)).eval #[Value.ref b] s none [] s = some (.int (coO (nI 2)))
      rw [show coO (nI 2) = 1 by decide]
      exact va_eqt (hs (.eq (.elem (Term.static "ApronDesk" "COMMON_ORDER" "[I") (.int 2)) (.int 1)) (by decide +kernel))
    | 3, _ =>
      show (Term.elem (Term.static "ApronDesk" "COMMON_ORDER" "[I") (.int 3)).eval #[Value.ref b] s none [] s = some (.int (coO (nI 3)))
      rw [show coO (nI 3) = 4 by decide]
      exact va_eqt (hs (.eq (.elem (Term.static "ApronDesk" "COMMON_ORDER" "[I") (.int 3)) (.int 4)) (by decide +kernel))
    | 4, _ =>
      show (Term.elem (Term.static "ApronDesk" "COMMON_ORDER" "[I") (.int 4)).eval #[Value.ref b] s none [] s = some (.int (coO (nI 4)))
      rw [show coO (nI 4) = 5 by decide]
      exact va_eqt (hs (.eq (.elem (Term.static "ApronDesk" "COMMON_ORDER" "[I") (.int 4)) (.int 5)) (by decide +kernel))
    | k + 5, h => exact absurd h (by omega)) hA
  have hini : (Cond.initialized "ApronDesk").before #[Value.ref b] s = true := hts _ (List.mem_of_getElem? (i := 98) (by decide +kernel))
  exact ⟨t1, t2, ⟨va_Zref (hts _ (List.mem_of_getElem? (i := 643) (by decide +kernel))) hini e1 hA, T1⟩, va_Zref (hts _ (List.mem_of_getElem? (i := 645) (by decide +kernel))) hini e2 hA, T2⟩
def σ0 : tSt := fun k i => if k = 0 then (if i = nI 6 then nI 5 else if i = nI 9 then -1 else 0) else if k = 19 then (if i = nI 7 then -1 else 0) else 0
def τ0 : tSt := fun k i => if k = 0 then (if i = nI 2 then -1 else if i = nI 7 then nI 5 else 0) else 0
theorem σ0_k {k : Nat} (h : k ≠ 0) (h2 : k ≠ 19) (i : Int32) : σ0 k i = 0 := by simp [σ0, h, h2]
theorem aX0_k {k : Nat} (h : k ≠ 0 ∧ k ≤ 16) (i : Int32) : aX σ0 k i = 0 := by
  rw [aX_k σ0 h]; exact σ0_k h.1 (by omega) i
theorem aX0_M : aX σ0 = aM τ0 := by
  refine aX_ext (fun i => ?_) (fun k h1 h2 => ?_) (fun k h i => ?_)
  · simp only [aX, aM, if_pos]
    rw [show τ0 0 (nI 3) = σ0 17 (nI 9) by decide, show τ0 0 (nI 4) = σ0 17 (nI 10) by decide, show τ0 0 (nI 5) = σ0 17 (nI 11) by decide, show τ0 0 (nI 6) = σ0 18 (nI 6) by decide, show τ0 0 (nI 8) = σ0 18 (nI 7) by decide, show τ0 0 (nI 7) = σ0 0 (nI 6) by decide, show τ0 0 (nI 0) = σ0 0 (nI 7) by decide, show τ0 0 (nI 1) = σ0 0 (nI 8) by decide, show τ0 0 (nI 2) = σ0 0 (nI 9) by decide, show τ0 0 (nI 34) = σ0 25 (nI 1) by decide]
  · funext i
    rw [σ0_k h1 (by omega)]
    simp [aM, h1, h2, τ0]
  · simp [aM, show k ≠ 0 by omega, show ¬ k ≤ 16 by omega]
theorem aX0_aw : aw0 σ0 := fun u _ => σ0_k (by decide) (by decide) _
theorem nI_nl {k : Nat} (h : k < 8) : ¬ nI k < (0 : Int32) := by
  rw [Int32.lt_iff_toInt_lt, nI_toInt (by omega), show (0 : Int32).toInt = 0 by decide]; omega
theorem aX0_inv : inv (aX σ0) := by
  have h12 : ∀ i, aX σ0 12 i = 0 := aX0_k (by decide)
  have h11 : ∀ i, aX σ0 11 i = 0 := aX0_k (by decide)
  refine ⟨0, 0, 0, 0, ⟨⟨⟨by rw [aX_0]; decide, by decide⟩, ⟨by rw [aX_1]; decide, by decide⟩, ⟨by rw [aX_2]; decide, by decide⟩, ⟨by rw [aX_3]; decide, by decide⟩⟩, ⟨fun u _ => ⟨0, by decide, h12 _⟩, fun u k _ h hk => ?_, fun p h => absurd h (Nat.not_lt_zero _), fun c h => absurd h (Nat.not_lt_zero _)⟩, ⟨fun u h => absurd h (Nat.not_lt_zero _), fun u _ _ => h12 _, fun u _ => ⟨0, by decide, h11 _⟩, fun u _ h => absurd (h12 _) h⟩, fun u k _ h hk => ?_, ⟨⟨0, by decide, by rw [aX_4]; decide⟩, ⟨5, by decide, by decide, by rw [aX_5]; decide⟩, ⟨0, by decide, by rw [aX_9]; decide⟩⟩, fun s h => absurd h (Nat.not_lt_zero _)⟩, fun u k _ h hk => ?_⟩
  all_goals
    rw [h12] at h
    exact absurd h (nI_nl hk)
