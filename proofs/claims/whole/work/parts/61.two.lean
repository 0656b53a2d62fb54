def fldF (ad : Nat → Nat) (f : Int32 → Int32) : Nat → List (Option Nat) → List Value
  | _, [] => []
  | n, o :: r => tfld ad f n o :: fldF ad f (n + 1) r
def entF (ad : Nat → Nat) (cA cZ : ClassId) (f : Int32 → Int32) (q : tSC) : va_E := match q with
  | .inl (b, n) => .inl (bif b then cZ else cA, n, .inl (fun j => f (nI j)))
  | .inr (ci, fs) => .inr (ci, fldF ad f 0 fs)
def picF (ad : Nat → Nat) (cA cZ : ClassId) (σ : tSt) : Nat → tSh → va_W
  | _, [] => []
  | n, q :: r => (ad n, entF ad cA cZ (σ n) q) :: picF ad cA cZ σ (n + 1) r
theorem fldF_eq (ad : Nat → Nat) (f : Int32 → Int32) (fs : List (Option Nat)) : ∀ n, fs.mapIdx (fun i o => tfld ad f (n + i) o) = fldF ad f n fs := by
  induction fs with
  | nil => intro n; rfl
  | cons o r ih =>
    intro n
    rw [List.mapIdx_cons]
    show _ :: _ = _ :: _
    rw [← ih (n + 1)]
    congr 1
    congr 1
    funext i o
    rw [Nat.add_assoc, Nat.add_comm 1 i]
theorem entF_eq (ad : Nat → Nat) (cA cZ : ClassId) (f : Int32 → Int32) (q : tSC) : tent ad cA cZ f q = entF ad cA cZ f q := by
  match q with
  | .inl (b, n) => rfl
  | .inr (ci, fs) =>
    show Sum.inr (ci, fs.mapIdx (tfld ad f)) = Sum.inr (ci, fldF ad f 0 fs)
    rw [← fldF_eq ad f fs 0]
    congr 2
    congr 1
    funext i o
    rw [Nat.zero_add]
theorem picF_eq' (ad : Nat → Nat) (cA cZ : ClassId) (σ : tSt) (sh : tSh) : ∀ n, sh.mapIdx (fun k q => (ad (n + k), tent ad cA cZ (σ (n + k)) q)) = picF ad cA cZ σ n sh := by
  induction sh with
  | nil => intro n; rfl
  | cons q r ih =>
    intro n
    rw [List.mapIdx_cons]
    show _ :: _ = (ad n, entF ad cA cZ (σ n) q) :: _
    rw [← ih (n + 1), ← entF_eq]
    congr 1
    congr 1
    funext i q'
    rw [Nat.add_assoc, Nat.add_comm 1 i]
theorem picF_eq (ad : Nat → Nat) (cA cZ : ClassId) (σ : tSt) (sh : tSh) : tpic ad cA cZ sh σ = picF ad cA cZ σ 0 sh := by
  rw [← picF_eq']
  unfold tpic
  congr 1
  funext k q
  rw [Nat.zero_add]
theorem wX0 (ad : Nat → Nat) (cA cZ : ClassId) : tpic ad cA cZ shX σ0 = [((ad 0), .inr (6, [.ref (ad 17), .ref (ad 18), .ref (ad 19), .ref (ad 20), .ref (ad 21), .ref (ad 22), .int (nI 5), .int (nI 0), .int (nI 0), .int (-1)])), ((ad 1), .inl (cA, 24, .inl (fun _ => 0))), ((ad 2), .inl (cA, 24, .inl (fun _ => 0))), ((ad 3), .inl (cA, 40, .inl (fun _ => 0))), ((ad 4), .inl (cA, 40, .inl (fun _ => 0))), ((ad 5), .inl (cA, 40, .inl (fun _ => 0))), ((ad 6), .inl (cA, 40, .inl (fun _ => 0))), ((ad 7), .inl (cA, 20, .inl (fun _ => 0))), ((ad 8), .inl (cA, 20, .inl (fun _ => 0))), ((ad 9), .inl (cA, 20, .inl (fun _ => 0))), ((ad 10), .inl (cA, 200, .inl (fun _ => 0))), ((ad 11), .inl (cA, 40, .inl (fun _ => 0))), ((ad 12), .inl (cA, 40, .inl (fun _ => 0))), ((ad 13), .inl (cA, 320, .inl (fun _ => 0))), ((ad 14), .inl (cA, 320, .inl (fun _ => 0))), ((ad 15), .inl (cA, 320, .inl (fun _ => 0))), ((ad 16), .inl (cA, 40, .inl (fun _ => 0))), ((ad 17), .inr (1, [.ref (ad 1), .ref (ad 2), .ref (ad 3), .ref (ad 4), .ref (ad 5), .ref (ad 6), .ref (ad 7), .ref (ad 8), .ref (ad 9), .int 0, .int 0, .int 0])), ((ad 18), .inr (5, [.ref (ad 10), .ref (ad 11), .ref (ad 12), .ref (ad 13), .ref (ad 14), .ref (ad 15), .int 0, .int 0])), ((ad 19), .inr (2, [.ref (ad 17), .ref (ad 18), .ref (ad 26), .int 0, .int 0, .int 0, .int 0, .int (-1)])), ((ad 20), .inr (4, [.ref (ad 17), .ref (ad 18), .ref (ad 19), .ref (ad 23), .ref (ad 27), .ref (ad 28), .int 0, .int 0, .int 0])), ((ad 21), .inr (0, [.ref (ad 18), .ref (ad 19), .ref (ad 24), .ref (ad 25), .ref (ad 29)])), ((ad 22), .inr (3, [.ref (ad 30), .int 0])), ((ad 23), .inr (3, [.ref (ad 31), .int 0])), ((ad 24), .inr (3, [.ref (ad 32), .int 0])), ((ad 25), .inr (3, [.ref (ad 16), .int 0])), ((ad 26), .inl (cZ, 40, .inl (fun _ => 0))), ((ad 27), .inl (cA, 40, .inl (fun _ => 0))), ((ad 28), .inl (cA, 40, .inl (fun _ => 0))), ((ad 29), .inl (cA, 40, .inl (fun _ => 0))), ((ad 30), .inl (cA, 40, .inl (fun _ => 0))), ((ad 31), .inl (cA, 40, .inl (fun _ => 0))), ((ad 32), .inl (cA, 40, .inl (fun _ => 0)))] := by
  rw [picF_eq]
  show ([((ad 0), .inr (6, [.ref (ad 17), .ref (ad 18), .ref (ad 19), .ref (ad 20), .ref (ad 21), .ref (ad 22), .int (σ0 0 (nI 6)), .int (σ0 0 (nI 7)), .int (σ0 0 (nI 8)), .int (σ0 0 (nI 9))])), ((ad 1), .inl (cA, 24, .inl (fun j => σ0 1 (nI j)))), ((ad 2), .inl (cA, 24, .inl (fun j => σ0 2 (nI j)))), ((ad 3), .inl (cA, 40, .inl (fun j => σ0 3 (nI j)))), ((ad 4), .inl (cA, 40, .inl (fun j => σ0 4 (nI j)))), ((ad 5), .inl (cA, 40, .inl (fun j => σ0 5 (nI j)))), ((ad 6), .inl (cA, 40, .inl (fun j => σ0 6 (nI j)))), ((ad 7), .inl (cA, 20, .inl (fun j => σ0 7 (nI j)))), ((ad 8), .inl (cA, 20, .inl (fun j => σ0 8 (nI j)))), ((ad 9), .inl (cA, 20, .inl (fun j => σ0 9 (nI j)))), ((ad 10), .inl (cA, 200, .inl (fun j => σ0 10 (nI j)))), ((ad 11), .inl (cA, 40, .inl (fun j => σ0 11 (nI j)))), ((ad 12), .inl (cA, 40, .inl (fun j => σ0 12 (nI j)))), ((ad 13), .inl (cA, 320, .inl (fun j => σ0 13 (nI j)))), ((ad 14), .inl (cA, 320, .inl (fun j => σ0 14 (nI j)))), ((ad 15), .inl (cA, 320, .inl (fun j => σ0 15 (nI j)))), ((ad 16), .inl (cA, 40, .inl (fun j => σ0 16 (nI j)))), ((ad 17), .inr (1, [.ref (ad 1), .ref (ad 2), .ref (ad 3), .ref (ad 4), .ref (ad 5), .ref (ad 6), .ref (ad 7), .ref (ad 8), .ref (ad 9), .int (σ0 17 (nI 9)), .int (σ0 17 (nI 10)), .int (σ0 17 (nI 11))])), ((ad 18), .inr (5, [.ref (ad 10), .ref (ad 11), .ref (ad 12), .ref (ad 13), .ref (ad 14), .ref (ad 15), .int (σ0 18 (nI 6)), .int (σ0 18 (nI 7))])), ((ad 19), .inr (2, [.ref (ad 17), .ref (ad 18), .ref (ad 26), .int (σ0 19 (nI 3)), .int (σ0 19 (nI 4)), .int (σ0 19 (nI 5)), .int (σ0 19 (nI 6)), .int (σ0 19 (nI 7))])), ((ad 20), .inr (4, [.ref (ad 17), .ref (ad 18), .ref (ad 19), .ref (ad 23), .ref (ad 27), .ref (ad 28), .int (σ0 20 (nI 6)), .int (σ0 20 (nI 7)), .int (σ0 20 (nI 8))])), ((ad 21), .inr (0, [.ref (ad 18), .ref (ad 19), .ref (ad 24), .ref (ad 25), .ref (ad 29)])), ((ad 22), .inr (3, [.ref (ad 30), .int (σ0 22 (nI 1))])), ((ad 23), .inr (3, [.ref (ad 31), .int (σ0 23 (nI 1))])), ((ad 24), .inr (3, [.ref (ad 32), .int (σ0 24 (nI 1))])), ((ad 25), .inr (3, [.ref (ad 16), .int (σ0 25 (nI 1))])), ((ad 26), .inl (cZ, 40, .inl (fun j => σ0 26 (nI j)))), ((ad 27), .inl (cA, 40, .inl (fun j => σ0 27 (nI j)))), ((ad 28), .inl (cA, 40, .inl (fun j => σ0 28 (nI j)))), ((ad 29), .inl (cA, 40, .inl (fun j => σ0 29 (nI j)))), ((ad 30), .inl (cA, 40, .inl (fun j => σ0 30 (nI j)))), ((ad 31), .inl (cA, 40, .inl (fun j => σ0 31 (nI j)))), ((ad 32), .inl (cA, 40, .inl (fun j => σ0 32 (nI j))))] : va_W) = _
  rw [show σ0 0 (nI 6) = (nI 5) by decide, show σ0 0 (nI 7) = (nI 0) by decide, show σ0 0 (nI 8) = (nI 0) by decide, show σ0 0 (nI 9) = (-1) by decide, show σ0 19 (nI 3) = 0 by decide, show σ0 19 (nI 4) = 0 by decide, show σ0 19 (nI 5) = 0 by decide, show σ0 19 (nI 6) = 0 by decide, show σ0 19 (nI 7) = (-1) by decide]
  rfl
theorem wM0 (ad : Nat → Nat) (cA cZ : ClassId) : tpic ad cA cZ shM τ0 = [((ad 0), .inr (7, [.int 0, .int 0, .int (-1), .int 0, .int 0, .int 0, .int 0, .int (nI 5), .int 0, .ref (ad 1), .ref (ad 2), .ref (ad 3), .ref (ad 4), .ref (ad 5), .ref (ad 6), .ref (ad 7), .ref (ad 8), .ref (ad 9), .ref (ad 11), .ref (ad 10), .ref (ad 12), .ref (ad 13), .ref (ad 14), .ref (ad 15), .int 0, .ref (ad 17), .int 0, .ref (ad 18), .ref (ad 19), .int 0, .int 0, .ref (ad 20), .ref (ad 21), .ref (ad 16), .int 0])), ((ad 1), .inl (cA, 24, .inl (fun _ => 0))), ((ad 2), .inl (cA, 24, .inl (fun _ => 0))), ((ad 3), .inl (cA, 40, .inl (fun _ => 0))), ((ad 4), .inl (cA, 40, .inl (fun _ => 0))), ((ad 5), .inl (cA, 40, .inl (fun _ => 0))), ((ad 6), .inl (cA, 40, .inl (fun _ => 0))), ((ad 7), .inl (cA, 20, .inl (fun _ => 0))), ((ad 8), .inl (cA, 20, .inl (fun _ => 0))), ((ad 9), .inl (cA, 20, .inl (fun _ => 0))), ((ad 10), .inl (cA, 200, .inl (fun _ => 0))), ((ad 11), .inl (cA, 40, .inl (fun _ => 0))), ((ad 12), .inl (cA, 40, .inl (fun _ => 0))), ((ad 13), .inl (cA, 320, .inl (fun _ => 0))), ((ad 14), .inl (cA, 320, .inl (fun _ => 0))), ((ad 15), .inl (cA, 320, .inl (fun _ => 0))), ((ad 16), .inl (cA, 40, .inl (fun _ => 0))), ((ad 17), .inl (cA, 40, .inl (fun _ => 0))), ((ad 18), .inl (cA, 40, .inl (fun _ => 0))), ((ad 19), .inl (cA, 40, .inl (fun _ => 0))), ((ad 20), .inl (cA, 40, .inl (fun _ => 0))), ((ad 21), .inl (cA, 40, .inl (fun _ => 0)))] := by
  rw [picF_eq]
  show ([((ad 0), .inr (7, [.int (τ0 0 (nI 0)), .int (τ0 0 (nI 1)), .int (τ0 0 (nI 2)), .int (τ0 0 (nI 3)), .int (τ0 0 (nI 4)), .int (τ0 0 (nI 5)), .int (τ0 0 (nI 6)), .int (τ0 0 (nI 7)), .int (τ0 0 (nI 8)), .ref (ad 1), .ref (ad 2), .ref (ad 3), .ref (ad 4), .ref (ad 5), .ref (ad 6), .ref (ad 7), .ref (ad 8), .ref (ad 9), .ref (ad 11), .ref (ad 10), .ref (ad 12), .ref (ad 13), .ref (ad 14), .ref (ad 15), .int (τ0 0 (nI 24)), .ref (ad 17), .int (τ0 0 (nI 26)), .ref (ad 18), .ref (ad 19), .int (τ0 0 (nI 29)), .int (τ0 0 (nI 30)), .ref (ad 20), .ref (ad 21), .ref (ad 16), .int (τ0 0 (nI 34))])), ((ad 1), .inl (cA, 24, .inl (fun j => τ0 1 (nI j)))), ((ad 2), .inl (cA, 24, .inl (fun j => τ0 2 (nI j)))), ((ad 3), .inl (cA, 40, .inl (fun j => τ0 3 (nI j)))), ((ad 4), .inl (cA, 40, .inl (fun j => τ0 4 (nI j)))), ((ad 5), .inl (cA, 40, .inl (fun j => τ0 5 (nI j)))), ((ad 6), .inl (cA, 40, .inl (fun j => τ0 6 (nI j)))), ((ad 7), .inl (cA, 20, .inl (fun j => τ0 7 (nI j)))), ((ad 8), .inl (cA, 20, .inl (fun j => τ0 8 (nI j)))), ((ad 9), .inl (cA, 20, .inl (fun j => τ0 9 (nI j)))), ((ad 10), .inl (cA, 200, .inl (fun j => τ0 10 (nI j)))), ((ad 11), .inl (cA, 40, .inl (fun j => τ0 11 (nI j)))), ((ad 12), .inl (cA, 40, .inl (fun j => τ0 12 (nI j)))), ((ad 13), .inl (cA, 320, .inl (fun j => τ0 13 (nI j)))), ((ad 14), .inl (cA, 320, .inl (fun j => τ0 14 (nI j)))), ((ad 15), .inl (cA, 320, .inl (fun j => τ0 15 (nI j)))), ((ad 16), .inl (cA, 40, .inl (fun j => τ0 16 (nI j)))), ((ad 17), .inl (cA, 40, .inl (fun j => τ0 17 (nI j)))), ((ad 18), .inl (cA, 40, .inl (fun j => τ0 18 (nI j)))), ((ad 19), .inl (cA, 40, .inl (fun j => τ0 19 (nI j)))), ((ad 20), .inl (cA, 40, .inl (fun j => τ0 20 (nI j)))), ((ad 21), .inl (cA, 40, .inl (fun j => τ0 21 (nI j))))] : va_W) = _
  rw [show τ0 0 (nI 0) = 0 by decide, show τ0 0 (nI 1) = 0 by decide, show τ0 0 (nI 2) = (-1) by decide, show τ0 0 (nI 3) = 0 by decide, show τ0 0 (nI 4) = 0 by decide, show τ0 0 (nI 5) = 0 by decide, show τ0 0 (nI 6) = 0 by decide, show τ0 0 (nI 7) = (nI 5) by decide, show τ0 0 (nI 8) = 0 by decide, show τ0 0 (nI 24) = 0 by decide, show τ0 0 (nI 26) = 0 by decide, show τ0 0 (nI 29) = 0 by decide, show τ0 0 (nI 30) = 0 by decide, show τ0 0 (nI 34) = 0 by decide]
  rfl
def adL (l : List Nat) (t1 t2 : Nat) : Nat → Nat := fun k => if k = 100 then t1 else if k = 101 then t2 else l.getD k 0
theorem lw_two {D : va_G} {cA cZ : ClassId} {ad1 ad2 : Nat → Nat} {σ τ : tSt} {H : Heap} {A : Nat → Prop} (hP : va_P D vwCl (tpic ad1 cA cZ shX σ ++ tpic ad2 cA cZ shM τ) H) (hD : va_D A (tpic ad1 cA cZ shX σ ++ tpic ad2 cA cZ shM τ)) :
    va_P D vwCl (tpic ad1 cA cZ shX σ) H ∧ va_P D vwCl (tpic ad2 cA cZ shM τ) H ∧ tInj ad1 shX.length ∧ tInj ad2 shM.length ∧ (∀ i j, i < shX.length → j < shM.length → ad1 i ≠ ad2 j) ∧ (∀ i, i < shX.length → A (ad1 i)) ∧ (∀ j, j < shM.length → A (ad2 j)) := by
  have hl : (tpic ad1 cA cZ shX σ).length = shX.length := by simp [tpic]
  have g1 : ∀ (k : Nat) (q : Nat × va_E), (tpic ad1 cA cZ shX σ)[k]? = some q → (tpic ad1 cA cZ shX σ ++ tpic ad2 cA cZ shM τ)[k]? = some q := fun k q h => by
    rw [List.getElem?_append_left (List.getElem?_eq_some_iff.mp h).1]; exact h
  have g2 : ∀ (k : Nat) (q : Nat × va_E), (tpic ad2 cA cZ shM τ)[k]? = some q → (tpic ad1 cA cZ shX σ ++ tpic ad2 cA cZ shM τ)[shX.length + k]? = some q := fun k q h => by
    rw [List.getElem?_append_right (by omega), hl, Nat.add_sub_cancel_left]; exact h
  have f1 : ∀ i, i < shX.length → ∃ e, (tpic ad1 cA cZ shX σ)[i]? = some (ad1 i, e) := fun i h => ⟨_, tpic_at (List.getElem?_eq_getElem h)⟩
  have f2 : ∀ i, i < shM.length → ∃ e, (tpic ad2 cA cZ shM τ)[i]? = some (ad2 i, e) := fun i h => ⟨_, tpic_at (List.getElem?_eq_getElem h)⟩
  refine ⟨fun k q h => hP k q (g1 k q h), fun k q h => hP _ q (g2 k q h), fun i j hi hj he => ?_, fun i j hi hj he => ?_, fun i j hi hj he => ?_, fun i hi => ?_, fun j hj => ?_⟩
  · obtain ⟨a, ha⟩ := f1 i hi
    obtain ⟨b, hb⟩ := f1 j hj
    exact hD.1 i j _ _ (g1 _ _ ha) (g1 _ _ hb) he
  · obtain ⟨a, ha⟩ := f2 i hi
    obtain ⟨b, hb⟩ := f2 j hj
    exact Nat.add_left_cancel (hD.1 _ _ _ _ (g2 _ _ ha) (g2 _ _ hb) he)
  · obtain ⟨a, ha⟩ := f1 i hi
    obtain ⟨b, hb⟩ := f2 j hj
    have := hD.1 _ _ _ _ (g1 _ _ ha) (g2 _ _ hb) he
    omega
  · obtain ⟨a, ha⟩ := f1 i hi
    exact hD.2 _ _ (g1 _ _ ha)
  · obtain ⟨b, hb⟩ := f2 j hj
    exact hD.2 _ _ (g2 _ _ hb)
theorem lw_end {n : Nat} {xs : Nat → Int32} (i : Nat) (σ τ : tSt) : LT n xs 956 [.ref 0, .ref 1, .ref 2, .int (nI i)] [] σ τ := by
  refine lr_iconst eL_956 1 (by decide) ?_
  intro l D ad1 ad2 cA cZ p e s m below meth c H locs ls b hC hP hM hS hL hr hlk
  exact va_forget (fun q hq => hS.2.2 q hq) (lw_ret hC.1 hC.2.1 hr hlk eL_957.1)
section TCT
variable {p : Program} {l : Launch} {e : Env} {s : State} {m : MethodId} {below : List Frame} {meth : Method} {c : Code} {b : Nat} {D : va_G} {cA cZ : ClassId} {H : Heap} {locs : List Loc} {ls : Array Slot} {kc ks pc ix h0 : Nat} {st : List Value} {w wc wr : va_W} {Q : State → Prop} {Q' : va_W → Prop} {z : tMS}
/-- the law makes an object: its constructor's call -/
theorem lw_ctor (hx : p.tables.exec = Jvm.exec) (hb : c.code = code) (hml : c.maxLocals = 4) (hown : s.vm.findClass "ApronDeskLaw" = some m.cls) (hTB : tTB s) (hK : va_K D vwCl (tTy cA cZ) s) (hd : decode code pc = .ok (.invokespecial ix, 3)) (hls : ls.size = 4)
    (z1 : tWD (.code z.1 z.2.1 z.2.2.1 none)) (zr : z.2.2.2.1 = none) (z2 : tWD (.initialized z.1.cls)) (z3 : z.1.cls ≠ "java/lang/invoke/MethodHandle" ∧ z.1.cls ≠ "java/lang/invoke/VarHandle") (z4 : (parseMethodDescriptor z.1.desc).map (fun d => d.parameters.length) = some 0) (zn : z.1.name = "<init>") (zi : tWD (.instanceMethod z.1)) (hl : tWD (.methodLink "ApronDeskLaw" ix z.1)) (hR1 : z.2.2.2.2.1.frames + 1 ≤ room_1.frames) (hR2 : 8 + (z.2.2.1 + 11) + z.2.2.2.2.1.locals ≤ room_1.locals) (hkc : kc + z.2.2.2.2.1.cells ≤ room_1.cells) (hks : ks + z.2.2.2.2.1.slots ≤ room_1.slots) (hst : Nat.ble (st.map fun v => v.category).sum 8 = true)
    (isC isR : List Nat) (hC0 : isC.map (fun i => w[i]?) = wc.map some) (hR0 : isR.map (fun i => w[i]?) = wr.map some) (hnC : va_nd isC = true) (hnd : va_nd isR = true) (hdis : ∀ i ∈ isR, i ∉ isC)
    (hP : va_P D vwCl w H) (hD : va_D (fun q => s.heap.size ≤ q) w) (hS : va_S (fun q => s.heap.size ≤ q) s.heap H locs) (hc : CN z D cA cZ [.ref h0] wc Q')
    (kk : ∀ w1 H1 locs1, Q' w1 → va_P D vwCl (wr ++ w1) H1 → va_D (fun q => s.heap.size ≤ q) (wr ++ w1) → va_S (fun q => s.heap.size ≤ q) s.heap H1 locs1 → W p l e room_1 s m #[Value.ref b] below meth c H1 locs1 (kc + z.2.2.2.2.1.cells) (ks + z.2.2.2.2.1.slots) Q (F0 m (pc + 3) ls st)) :
    W p l e room_1 s m #[Value.ref b] below meth c H locs kc ks Q (F0 m pc ls (.ref h0 :: st)) := by
  have hM := hc l H.size
  rw [zr] at hM
  have hA : ∀ q : Nat, s.heap.size ≤ q → (fun q : Nat => s.heap.size ≤ q) q := fun _ h => h
  have hblind : FrameBlind (va_Pc ([Value.ref h0]) (tPN D cA cZ wc H.size)) := fun a U g mk q => ⟨q.1, tPN.as (U := U) rfl rfl q.2⟩
  have hPc : va_P D vwCl wc H := hP.sub isC (by
    have := congrArg (List.filterMap id) hC0
    simpa [List.filterMap_map] using this)
  have hDc := hD.sub isC hnC hC0
  have hFc := va_free (wc := wc) hD hS hA isC hC0
  have hpre : PreS s H (va_Pc ([Value.ref h0]) (tPN D cA cZ wc H.size)) ([.ref h0]) := ⟨hblind, fun U hU hW => ⟨rfl, by rw [hU], hTB.warm hW, va_K.moved hW.alike hK, by rw [hU]; exact hPc, hDc.weaken (fun _ _ _ _ => trivial)⟩⟩
  have hlen : ∀ sig, parseMethodDescriptor z.1.desc = some sig → 0 = sig.parameters.length := fun sig h => by
    rw [h] at z4; exact (Option.some.inj z4).symm
  have hwarm : ∀ w ∈ [Cond.code z.1 z.2.1 z.2.2.1 none], ∀ (a' : Array Value) (U : State), s.WarmedH U.vm → w.before a' U = true := fun w hw a' U hW => by
    rw [List.mem_singleton] at hw; subst hw; exact tTB.use (hTB.warm hW) z1
  have hfix : CallFix p m c code 4 s #[Value.ref b] [] "ApronDeskLaw" := ⟨hx, hb, hml, hown, fun w h => by cases h⟩
  have hW8 : 2 * (F0 m pc ls (.ref h0 :: st)).monitorRoom + (st.map fun v => v.category).sum ≤ 8 := Nat.le_trans (by simp) (Nat.le_of_ble_eq_true hst)
  have hrun : va_Run p l e room_1 s m #[Value.ref b] below meth c H locs kc ks z.2.2.2.2.1.cells z.2.2.2.2.1.slots (F0 m pc ls (.ref h0 :: st)) st (tQN D (va_A wc H.size) Q' ([Value.ref h0]).toArray) (va_A wc H.size) :=
    va_runI (As := []) hfix hM ⟨⟨rfl, rfl, hR1, hR2, hwarm, List.mem_singleton_self _, tTB.use hTB z1, tTB.use hTB z2, z3, hlen, tTB.use hTB hl⟩, zn, tTB.use hTB zi⟩ hpre rfl rfl hls rfl hW8 hd ⟨hkc, hks⟩
  refine va_callv hrun hS (fun q _ h => hFc q h) hFc (fun u t H1 locs1 ht hvm hq hB hsz hk1 hS1 => ?_)
  obtain ⟨hP1, hD1⟩ := hB
  rw [ht] at hP1
  obtain ⟨hP2, hD2⟩ := va_join (wr := wr) (w1 := u) hP hD isC isR hC0 hR0 hnd hdis hk1 hFc hP1 hD1
  exact kk u H1 locs1 hq hP2 hD2 hS1
end TCT
