/-! the law's loop -/
section LawLoop
variable {p : Program} {l : Launch} {e : Env} {R : Room} {s : State} {mid : MethodId} {args : Array Value} {below : List Frame} {meth : Method} {c : Code} {dC : Nat → ClassId} {dI : Nat → Nat → Nat} {dA : Nat → ClassId} {ad : Nat → Nat} {b : Nat} {A : Nat → Prop} {Qf : State → Prop} {L : Nat} {xs : Nat → Int32}
set_option maxRecDepth 100000 in
set_option maxHeartbeats 8000000 in
/-- one turn of the law; look is a matter of its own -/
theorem law_step {C S : Nat} {m : MM} {i : Int32} {x5 x6 : Value} (hL : LI m) (hl : L ≤ 4096) (i0 : 0 ≤ i.toInt) (i1 : i.toInt ≤ L)
    (hC : Cx (32, L, xs) mL_law p R s mid args c dC dI dA A C S b) (hR : Rt mL_law (fun r _ => r = some (.int 1)) p l e R s mid args below meth c dC dI dA ad A C S Qf)
    (hC2 : Cx (32, L, xs) mL_law p R s mid args c dC dI dA A (C + 1) (S + 6) b) (hR2 : Rt mL_law (fun r _ => r = some (.int 1)) p l e R s mid args below meth c dC dI dA ad A (C + 1) (S + 6) Qf)
    (hgo : i.toInt + 8 ≤ L → ∀ (m' : MM) (y5 y6 : Value), LI m' → AtC mL_law p l e R s mid args below meth c dC dI dA ad b A C S Qf 23 [.retAddr 0, .ref 6, .ref 1175, .ref 5737, .int (i + 8), y5, y6] [] m')
    (hgo2 : i.toInt + 8 ≤ L → ∀ (m' : MM) (y5 y6 : Value), LI m' → AtC mL_law p l e R s mid args below meth c dC dI dA ad b A (C + 1) (S + 6) Qf 23 [.retAddr 0, .ref 6, .ref 1175, .ref 5737, .int (i + 8), y5, y6] [] m')
    (hlk : ∀ (a0 a1 : Int32) (ls : List Value), ls = [.retAddr 0, .ref 6, .ref 1175, .ref 5737, .int i, x5, x6] → (∀ (k : Int32) (m' : MM), LI m' → AtC mL_law p l e R s mid args below meth c dC dI dA ad b A (C + 1) (S + 6) Qf 333 ls [.int k] m') → AtC mL_law p l e R s mid args below meth c dC dI dA ad b A C S Qf 330 ls [.ref 5737, .int a1, .int a0, .ref 6] m) :
    AtC mL_law p l e R s mid args below meth c dC dI dA ad b A C S Qf 23 [.retAddr 0, .ref 6, .ref 1175, .ref 5737, .int i, x5, x6] [] m := by
  have eL : (Int32.ofNat L).toInt = (L : Int) := Int32.toInt_ofNat_of_lt (by omega)
  have e8 : (8 : Int32).toInt = 8 := rfl
  have eLs : (Int32.ofNat L - 8).toInt = (L : Int) - 8 := by
    have := tI_sub (x := Int32.ofNat L) (y := 8) (by rw [eL, e8]; unfold i32lo; omega) (by rw [eL, e8]; unfold i32hi; omega)
    rw [this, eL, e8]
  refine AtC.lp (K := fun pc ls st m => Stq pc (AtC mL_law p l e R s mid args below meth c dC dI dA ad b A C S Qf pc ls st m)) okL_law hC hR (fun _ _ _ _ h => h.2) 400 ⟨_, _, rfl⟩ ?_
  (conv => whnf)
  refine And.intro (fun h => ?_) (fun h => ?_)
  · exact ⟨Or.inr rfl, rfl⟩
  have h : ¬ Int32.ofNat L - 8 < i := h
  rw [lt_i, eLs] at h
  have hgo := hgo (by omega)
  have hgo2 := hgo2 (by omega)
  have lv0 : vp_in i L := vp_in_iff.mpr ⟨by omega, by omega⟩
  have lv1 : vp_in (i + 1) L := by
    have e := addc (x := i) (c := 1) (n := 1) rfl (by omega) (by omega)
    exact vp_in_iff.mpr ⟨by omega, by omega⟩
  have lv2 : vp_in (i + 2) L := by
    have e := addc (x := i) (c := 2) (n := 2) rfl (by omega) (by omega)
    exact vp_in_iff.mpr ⟨by omega, by omega⟩
  have lv3 : vp_in (i + 3) L := by
    have e := addc (x := i) (c := 3) (n := 3) rfl (by omega) (by omega)
    exact vp_in_iff.mpr ⟨by omega, by omega⟩
  have lv4 : vp_in (i + 4) L := by
    have e := addc (x := i) (c := 4) (n := 4) rfl (by omega) (by omega)
    exact vp_in_iff.mpr ⟨by omega, by omega⟩
  have lv5 : vp_in (i + 5) L := by
    have e := addc (x := i) (c := 5) (n := 5) rfl (by omega) (by omega)
    exact vp_in_iff.mpr ⟨by omega, by omega⟩
  have lv6 : vp_in (i + 6) L := by
    have e := addc (x := i) (c := 6) (n := 6) rfl (by omega) (by omega)
    exact vp_in_iff.mpr ⟨by omega, by omega⟩
  have lv7 : vp_in (i + 7) L := by
    have e := addc (x := i) (c := 7) (n := 7) rfl (by omega) (by omega)
    exact vp_in_iff.mpr ⟨by omega, by omega⟩
  (conv => whnf)
  refine And.intro lv0 ?_
  (conv => whnf)
  refine And.intro (fun _ => ?_) (fun _ => ?_)
  · skip
    (conv => whnf)
    refine And.intro lv1 ?_
    (conv => whnf)
    refine And.intro lv2 ?_
    (conv => whnf)
    refine And.intro lv3 ?_
    (conv => whnf)
    refine And.intro lv4 ?_
    (conv => whnf)
    refine And.intro lv5 ?_
    (conv => whnf)
    refine ⟨3, Nat.le_of_ble_eq_true rfl, _, f_feed6 hL.1, ?_⟩
    intro r1 m1 h1
    skip
    (conv => whnf)
    refine And.intro lv1 ?_
    (conv => whnf)
    refine And.intro lv2 ?_
    (conv => whnf)
    refine And.intro lv3 ?_
    (conv => whnf)
    refine And.intro lv4 ?_
    (conv => whnf)
    refine And.intro lv5 ?_
    (conv => whnf)
    refine ⟨1, Nat.le_of_ble_eq_true rfl, _, f_feed7 h1.1.1, ?_⟩
    intro r2 m2 h2
    obtain ⟨q1, q2⟩ := feedEq hL h1 h2
    (conv => whnf)
    exact And.intro rfl (hgo m2 _ _ q2)
  refine And.intro (fun _ => ?_) (fun _ => ?_)
  · skip
    (conv => whnf)
    refine And.intro lv1 ?_
    (conv => whnf)
    refine ⟨9, Nat.le_of_ble_eq_true rfl, _, book6 hL, ?_⟩
    intro r1 m1 h1
    skip
    (conv => whnf)
    refine And.intro lv1 ?_
    (conv => whnf)
    refine ⟨9, Nat.le_of_ble_eq_true rfl, _, book7 h1, ?_⟩
    intro r2 m2 h2
    obtain ⟨q1, q2⟩ := bookEq hL h1 h2
    (conv => whnf)
    exact And.intro rfl (hgo m2 _ _ q2)
  refine And.intro (fun _ => ?_) (fun _ => ?_)
  · skip
    (conv => whnf)
    refine And.intro lv1 ?_
    (conv => whnf)
    refine ⟨1, Nat.le_of_ble_eq_true rfl, _, fault6 hL, ?_⟩
    rintro r1 m1 ⟨e1, h1⟩
    have e1 := e1.symm
    subst e1
    skip
    (conv => whnf)
    refine And.intro lv1 ?_
    (conv => whnf)
    refine ⟨1, Nat.le_of_ble_eq_true rfl, _, fault7 hL, ?_⟩
    rintro r2 m2 ⟨hL2, h2⟩
    have q1 : r1 = r2 := by rw [h1, h2, hL.2.2.2.2.2.1.1, hL.2.2.2.2.2.1.2]
    (conv => whnf)
    exact And.intro rfl (hgo m2 _ _ hL2)
  refine And.intro (fun _ => ?_) (fun _ => ?_)
  · skip
    (conv => whnf)
    refine And.intro lv1 ?_
    (conv => whnf)
    refine And.intro lv2 ?_
    (conv => whnf)
    refine ⟨2, Nat.le_of_ble_eq_true rfl, _, named6 hL, ?_⟩
    rintro r1 m1 ⟨e1, h1⟩
    have e1 := e1.symm
    subst e1
    skip
    (conv => whnf)
    refine And.intro lv1 ?_
    (conv => whnf)
    refine And.intro lv2 ?_
    (conv => whnf)
    refine ⟨2, Nat.le_of_ble_eq_true rfl, _, named7 hL, ?_⟩
    rintro r2 m2 ⟨hL2, h2⟩
    have q1 : r1 = r2 := Int32.toInt_inj.mp (h1.trans h2.symm)
    (conv => whnf)
    exact And.intro rfl (hgo m2 _ _ hL2)
  refine And.intro (fun _ => ?_) (fun _ => ?_)
  · skip
    (conv => whnf)
    refine And.intro lv1 ?_
    (conv => whnf)
    refine And.intro lv2 ?_
    (conv => whnf)
    refine And.intro rfl (hlk _ _ _ rfl (fun k m1 hL1 => ?_))
    refine AtC.go (K := fun pc ls st m => Stq pc (AtC mL_law p l e R s mid args below meth c dC dI dA ad b A (C + 1) (S + 6) Qf pc ls st m)) okL_law hC2 hR2 (fun _ _ _ _ h => h.2) 400 ?_
    skip
    (conv => whnf)
    refine And.intro lv1 ?_
    (conv => whnf)
    refine And.intro lv2 ?_
    (conv => whnf)
    refine ⟨3, Nat.le_of_ble_eq_true rfl, _, l_X7_look hL1, ?_⟩
    intro r2 m2 hL2
    (conv => whnf)
    exact And.intro rfl (hgo2 m2 _ _ hL2)
  refine And.intro (fun _ => ?_) (fun _ => ?_)
  · skip
    (conv => whnf)
    refine And.intro lv1 ?_
    (conv => whnf)
    refine And.intro lv2 ?_
    (conv => whnf)
    refine ⟨5, Nat.le_of_ble_eq_true rfl, _, firm6 hL, ?_⟩
    rintro r1 m1 ⟨hL1, h1⟩
    skip
    (conv => whnf)
    refine And.intro lv1 ?_
    (conv => whnf)
    refine And.intro lv2 ?_
    (conv => whnf)
    refine ⟨5, Nat.le_of_ble_eq_true rfl, _, firm7 hL1, ?_⟩
    rintro r2 m2 ⟨hL2, h2⟩
    have q1 : r1 = r2 := FiR_1 h1 h2
    (conv => whnf)
    exact And.intro rfl (hgo m2 _ _ hL2)
  refine And.intro (fun _ => ?_) (fun _ => ?_)
  · skip
    (conv => whnf)
    refine And.intro lv1 ?_
    (conv => whnf)
    refine And.intro lv2 ?_
    (conv => whnf)
    refine And.intro lv3 ?_
    (conv => whnf)
    refine And.intro lv4 ?_
    (conv => whnf)
    refine And.intro lv5 ?_
    (conv => whnf)
    refine And.intro lv6 ?_
    (conv => whnf)
    refine And.intro lv7 ?_
    (conv => whnf)
    refine ⟨3, Nat.le_of_ble_eq_true rfl, _, sell6 hL, ?_⟩
    intro r1 m1 h1
    skip
    (conv => whnf)
    refine And.intro lv1 ?_
    (conv => whnf)
    refine And.intro lv2 ?_
    (conv => whnf)
    refine And.intro lv3 ?_
    (conv => whnf)
    refine And.intro lv4 ?_
    (conv => whnf)
    refine And.intro lv5 ?_
    (conv => whnf)
    refine And.intro lv6 ?_
    (conv => whnf)
    refine And.intro lv7 ?_
    (conv => whnf)
    refine ⟨2, Nat.le_of_ble_eq_true rfl, _, sell7 hL h1, ?_⟩
    intro r2 m2 h2
    obtain ⟨q1, q2⟩ := sellEq hL h1 h2
    (conv => whnf)
    exact And.intro rfl (hgo m2 _ _ q2)
  refine And.intro (fun _ => ?_) (fun _ => ?_)
  · skip
    (conv => whnf)
    refine ⟨2, Nat.le_of_ble_eq_true rfl, _, undo6 hL, ?_⟩
    intro r1 m1 h1
    skip
    (conv => whnf)
    refine ⟨1, Nat.le_of_ble_eq_true rfl, _, s_undo, ?_⟩
    intro r2 m2 h2
    obtain ⟨q1, q2⟩ := undoEq hL h1 h2
    (conv => whnf)
    exact And.intro rfl (hgo m2 _ _ q2)
  refine And.intro (fun _ => ?_) (fun _ => ?_)
  · skip
    (conv => whnf)
    refine And.intro lv1 ?_
    (conv => whnf)
    refine And.intro lv2 ?_
    (conv => whnf)
    refine ⟨2, Nat.le_of_ble_eq_true rfl, _, pay6 hL, ?_⟩
    intro r1 m1 h1
    skip
    (conv => whnf)
    refine And.intro lv1 ?_
    (conv => whnf)
    refine And.intro lv2 ?_
    (conv => whnf)
    refine ⟨2, Nat.le_of_ble_eq_true rfl, _, pay7 hL h1, ?_⟩
    intro r2 m2 h2
    obtain ⟨q1, q2⟩ := payEq hL h1 h2
    (conv => whnf)
    exact And.intro rfl (hgo m2 _ _ q2)
  refine And.intro (fun _ => ?_) (fun _ => ?_)
  · skip
    (conv => whnf)
    refine And.intro lv1 ?_
    (conv => whnf)
    refine And.intro lv2 ?_
    (conv => whnf)
    refine And.intro lv3 ?_
    (conv => whnf)
    refine ⟨11, Nat.le_of_ble_eq_true rfl, _, rounds6 hL, ?_⟩
    rintro r1 m1 ⟨hL1, h1⟩
    skip
    (conv => whnf)
    refine And.intro lv1 ?_
    (conv => whnf)
    refine And.intro lv2 ?_
    (conv => whnf)
    refine And.intro lv3 ?_
    (conv => whnf)
    refine ⟨10, Nat.le_of_ble_eq_true rfl, _, rounds7 hL1, ?_⟩
    rintro r2 m2 ⟨hL2, h2⟩
    have q1 : r1 = r2 := AsR_1 h1 h2
    (conv => whnf)
    exact And.intro rfl (hgo m2 _ _ hL2)
  refine And.intro (fun _ => ?_) (fun _ => ?_)
  · skip
    (conv => whnf)
    refine And.intro lv1 ?_
    (conv => whnf)
    refine And.intro lv2 ?_
    (conv => whnf)
    refine And.intro lv3 ?_
    (conv => whnf)
    refine And.intro lv4 ?_
    (conv => whnf)
    refine And.intro lv5 ?_
    (conv => whnf)
    refine ⟨11, Nat.le_of_ble_eq_true rfl, _, l_X6_round hL, ?_⟩
    intro r1 m1 hL1
    skip
    (conv => whnf)
    refine And.intro lv1 ?_
    (conv => whnf)
    refine And.intro lv2 ?_
    (conv => whnf)
    refine And.intro lv3 ?_
    (conv => whnf)
    refine And.intro lv4 ?_
    (conv => whnf)
    refine And.intro lv5 ?_
    (conv => whnf)
    refine ⟨10, Nat.le_of_ble_eq_true rfl, _, l_X7_round hL1, ?_⟩
    intro r2 m2 hL2
    (conv => whnf)
    exact And.intro rfl (hgo m2 _ _ hL2)
  refine And.intro (fun _ => ?_) (fun _ => ?_)
  · skip
    (conv => whnf)
    refine And.intro lv1 ?_
    (conv => whnf)
    refine And.intro lv2 ?_
    (conv => whnf)
    refine And.intro lv3 ?_
    (conv => whnf)
    refine And.intro lv4 ?_
    (conv => whnf)
    refine ⟨3, Nat.le_of_ble_eq_true rfl, _, judge6 hL, ?_⟩
    rintro r1 m1 ⟨e1, h1⟩
    have e1 := e1.symm
    subst e1
    skip
    (conv => whnf)
    refine And.intro lv1 ?_
    (conv => whnf)
    refine And.intro lv2 ?_
    (conv => whnf)
    refine And.intro lv3 ?_
    (conv => whnf)
    refine And.intro lv4 ?_
    (conv => whnf)
    refine ⟨4, Nat.le_of_ble_eq_true rfl, _, judge7 hL, ?_⟩
    rintro r2 m2 ⟨hL2, h2⟩
    have q1 : r1 = r2 := JdR_1 h1 h2
    (conv => whnf)
    exact And.intro rfl (hgo m2 _ _ hL2)
  refine And.intro (fun _ => ?_) (fun _ => ?_)
  · skip
    (conv => whnf)
    refine And.intro lv1 ?_
    (conv => whnf)
    refine And.intro lv2 ?_
    (conv => whnf)
    refine And.intro lv3 ?_
    (conv => whnf)
    refine ⟨11, Nat.le_of_ble_eq_true rfl, _, takes6 hL, ?_⟩
    rintro r1 m1 ⟨hL1, h1⟩
    skip
    (conv => whnf)
    refine And.intro lv1 ?_
    (conv => whnf)
    refine And.intro lv2 ?_
    (conv => whnf)
    refine And.intro lv3 ?_
    (conv => whnf)
    refine ⟨10, Nat.le_of_ble_eq_true rfl, _, takes7 hL1, ?_⟩
    rintro r2 m2 ⟨hL2, h2⟩
    have q1 : r1 = r2 := TkR_1 h1 h2
    (conv => whnf)
    exact And.intro rfl (hgo m2 _ _ hL2)
  refine And.intro (fun _ => ?_) (fun _ => ?_)
  · skip
    (conv => whnf)
    refine And.intro lv1 ?_
    (conv => whnf)
    refine And.intro lv2 ?_
    (conv => whnf)
    refine ⟨5, Nat.le_of_ble_eq_true rfl, _, l_X6_flow hL, ?_⟩
    intro r1 m1 hL1
    skip
    (conv => whnf)
    refine And.intro lv1 ?_
    (conv => whnf)
    refine And.intro lv2 ?_
    (conv => whnf)
    refine ⟨5, Nat.le_of_ble_eq_true rfl, _, l_X7_flow hL1, ?_⟩
    intro r2 m2 hL2
    (conv => whnf)
    exact And.intro rfl (hgo m2 _ _ hL2)
  refine And.intro (fun _ => ?_) (fun _ => ?_)
  · skip
    (conv => whnf)
    refine And.intro lv1 ?_
    (conv => whnf)
    refine And.intro lv2 ?_
    (conv => whnf)
    refine And.intro lv3 ?_
    (conv => whnf)
    refine And.intro lv4 ?_
    (conv => whnf)
    refine And.intro lv5 ?_
    (conv => whnf)
    refine ⟨11, Nat.le_of_ble_eq_true rfl, _, luck6 hL, ?_⟩
    rintro r1 m1 ⟨hL1, h1⟩
    skip
    (conv => whnf)
    refine And.intro lv1 ?_
    (conv => whnf)
    refine And.intro lv2 ?_
    (conv => whnf)
    refine And.intro lv3 ?_
    (conv => whnf)
    refine And.intro lv4 ?_
    (conv => whnf)
    refine And.intro lv5 ?_
    (conv => whnf)
    refine ⟨10, Nat.le_of_ble_eq_true rfl, _, luck7 hL1, ?_⟩
    rintro r2 m2 ⟨hL2, h2⟩
    have q1 : r1 = r2 := LkR_1 h1 h2
    (conv => whnf)
    exact And.intro rfl (hgo m2 _ _ hL2)
  refine And.intro (fun _ => ?_) (fun _ => ?_)
  · skip
    (conv => whnf)
    refine And.intro lv1 ?_
    (conv => whnf)
    refine And.intro lv2 ?_
    (conv => whnf)
    refine And.intro lv3 ?_
    (conv => whnf)
    refine And.intro lv4 ?_
    (conv => whnf)
    refine ⟨11, Nat.le_of_ble_eq_true rfl, _, signs6 hL, ?_⟩
    rintro r1 m1 ⟨hL1, h1⟩
    skip
    (conv => whnf)
    refine And.intro lv1 ?_
    (conv => whnf)
    refine And.intro lv2 ?_
    (conv => whnf)
    refine And.intro lv3 ?_
    (conv => whnf)
    refine And.intro lv4 ?_
    (conv => whnf)
    refine ⟨10, Nat.le_of_ble_eq_true rfl, _, signs7 hL1, ?_⟩
    rintro r2 m2 ⟨hL2, h2⟩
    have q1 : r1 = r2 := SnR_1 h1 h2
    (conv => whnf)
    exact And.intro rfl (hgo m2 _ _ hL2)
  refine And.intro (fun _ => ?_) (fun _ => ?_)
  · skip
    (conv => whnf)
    refine And.intro lv1 ?_
    (conv => whnf)
    refine And.intro lv2 ?_
    (conv => whnf)
    refine And.intro lv3 ?_
    (conv => whnf)
    refine And.intro lv4 ?_
    (conv => whnf)
    refine And.intro lv5 ?_
    (conv => whnf)
    refine ⟨11, Nat.le_of_ble_eq_true rfl, _, knew6 hL, ?_⟩
    rintro r1 m1 ⟨hL1, h1⟩
    skip
    (conv => whnf)
    refine And.intro lv1 ?_
    (conv => whnf)
    refine And.intro lv2 ?_
    (conv => whnf)
    refine And.intro lv3 ?_
    (conv => whnf)
    refine And.intro lv4 ?_
    (conv => whnf)
    refine And.intro lv5 ?_
    (conv => whnf)
    refine ⟨10, Nat.le_of_ble_eq_true rfl, _, knew7 hL1, ?_⟩
    rintro r2 m2 ⟨hL2, h2⟩
    have q1 : r1 = r2 := KwR_1 h1 h2
    (conv => whnf)
    exact And.intro rfl (hgo m2 _ _ hL2)
  refine And.intro (fun _ => ?_) (fun _ => ?_)
  · skip
    (conv => whnf)
    refine ⟨1, Nat.le_of_ble_eq_true rfl, _, hands6 hL, ?_⟩
    rintro r1 m1 ⟨e1, h1⟩
    have e1 := e1.symm
    subst e1
    skip
    (conv => whnf)
    refine ⟨2, Nat.le_of_ble_eq_true rfl, _, hands7 hL, ?_⟩
    rintro r2 m2 ⟨hL2, h2⟩
    have q1 : r1 = r2 := HaR_1 h1 h2
    (conv => whnf)
    exact And.intro rfl (hgo m2 _ _ hL2)
  refine And.intro (fun _ => ?_) (fun _ => ?_)
  · skip
    (conv => whnf)
    refine And.intro lv1 ?_
    (conv => whnf)
    refine ⟨4, Nat.le_of_ble_eq_true rfl, _, lacking6 hL, ?_⟩
    rintro r1 m1 ⟨e1, h1⟩
    have e1 := e1.symm
    subst e1
    skip
    (conv => whnf)
    refine And.intro lv1 ?_
    (conv => whnf)
    refine ⟨1, Nat.le_of_ble_eq_true rfl, _, lacking7 hL, ?_⟩
    rintro r2 m2 ⟨hL2, h2⟩
    have q1 : r1 = r2 := by rw [h1, h2]
    (conv => whnf)
    exact And.intro rfl (hgo m2 _ _ hL2)
  refine And.intro (fun _ => ?_) (fun _ => ?_)
  · skip
    (conv => whnf)
    refine And.intro lv1 ?_
    (conv => whnf)
    refine ⟨2, Nat.le_of_ble_eq_true rfl, _, stop6 hL, ?_⟩
    intro r1 m1 h1
    skip
    (conv => whnf)
    refine And.intro lv1 ?_
    (conv => whnf)
    refine ⟨2, Nat.le_of_ble_eq_true rfl, _, stop7 hL h1, ?_⟩
    intro r2 m2 h2
    obtain ⟨q1, q2⟩ := stopEq hL h1 h2
    (conv => whnf)
    exact And.intro rfl (hgo m2 _ _ q2)
  refine And.intro (fun _ => ?_) (fun _ => ?_)
  · skip
    (conv => whnf)
    refine And.intro lv1 ?_
    (conv => whnf)
    refine And.intro lv2 ?_
    (conv => whnf)
    refine And.intro lv3 ?_
    (conv => whnf)
    refine And.intro lv4 ?_
    (conv => whnf)
    refine And.intro lv5 ?_
    (conv => whnf)
    refine ⟨11, Nat.le_of_ble_eq_true rfl, _, fewest6 hL, ?_⟩
    rintro r1 m1 ⟨hL1, h1⟩
    skip
    (conv => whnf)
    refine And.intro lv1 ?_
    (conv => whnf)
    refine And.intro lv2 ?_
    (conv => whnf)
    refine And.intro lv3 ?_
    (conv => whnf)
    refine And.intro lv4 ?_
    (conv => whnf)
    refine And.intro lv5 ?_
    (conv => whnf)
    refine ⟨10, Nat.le_of_ble_eq_true rfl, _, fewest7 hL1, ?_⟩
    rintro r2 m2 ⟨hL2, h2⟩
    have q1 : r1 = r2 := FwR_1 h1 h2
    (conv => whnf)
    refine And.intro (fun _ => ?_) (fun z => absurd q1 z)
    (conv => whnf)
    exact And.intro rfl (hgo m2 _ _ hL2)
  refine And.intro (fun _ => ?_) (fun _ => ?_)
  · skip
    (conv => whnf)
    refine And.intro lv1 ?_
    (conv => whnf)
    refine ⟨2, Nat.le_of_ble_eq_true rfl, _, rule6 hL, ?_⟩
    intro r1 m1 h1
    skip
    (conv => whnf)
    refine And.intro lv1 ?_
    (conv => whnf)
    refine ⟨2, Nat.le_of_ble_eq_true rfl, _, rule7 hL h1, ?_⟩
    intro r2 m2 h2
    obtain ⟨q1, q2⟩ := ruleEq hL h1 h2
    (conv => whnf)
    exact And.intro rfl (hgo m2 _ _ q2)
  refine And.intro (fun _ => ?_) (fun _ => ?_)
  · skip
    (conv => whnf)
    refine And.intro lv1 ?_
    (conv => whnf)
    refine ⟨5, Nat.le_of_ble_eq_true rfl, _, burden6 hL, ?_⟩
    rintro r1 m1 ⟨⟨hL1, e1⟩, h1⟩
    skip
    (conv => whnf)
    refine And.intro lv1 ?_
    (conv => whnf)
    refine ⟨6, Nat.le_of_ble_eq_true rfl, _, burden7 hL1, ?_⟩
    rintro r2 m2 ⟨hL2, h2⟩
    have q1 : r1 = r2 := by rw [h1, h2, e1]
    (conv => whnf)
    exact And.intro rfl (hgo m2 _ _ hL2)
  refine And.intro (fun _ => ?_) (fun _ => ?_)
  · skip
    (conv => whnf)
    refine And.intro lv1 ?_
    (conv => whnf)
    refine And.intro lv2 ?_
    (conv => whnf)
    refine And.intro lv3 ?_
    (conv => whnf)
    refine And.intro lv4 ?_
    (conv => whnf)
    refine And.intro lv5 ?_
    (conv => whnf)
    refine ⟨11, Nat.le_of_ble_eq_true rfl, _, starve6 hL, ?_⟩
    rintro r1 m1 ⟨hL1, h1⟩
    skip
    (conv => whnf)
    refine And.intro lv1 ?_
    (conv => whnf)
    refine And.intro lv2 ?_
    (conv => whnf)
    refine And.intro lv3 ?_
    (conv => whnf)
    refine And.intro lv4 ?_
    (conv => whnf)
    refine And.intro lv5 ?_
    (conv => whnf)
    refine ⟨10, Nat.le_of_ble_eq_true rfl, _, starve7 hL1, ?_⟩
    rintro r2 m2 ⟨hL2, h2⟩
    have q1 : r1 = r2 := SvR_1 h1 h2
    (conv => whnf)
    exact And.intro rfl (hgo m2 _ _ hL2)
  refine And.intro (fun _ => ?_) (fun _ => ?_)
  · skip
    (conv => whnf)
    refine And.intro lv1 ?_
    (conv => whnf)
    refine ⟨5, Nat.le_of_ble_eq_true rfl, _, count6 hL, ?_⟩
    rintro r1 m1 ⟨⟨hL1, e1⟩, h1⟩
    skip
    (conv => whnf)
    refine And.intro lv1 ?_
    (conv => whnf)
    refine ⟨5, Nat.le_of_ble_eq_true rfl, _, count7 hL1, ?_⟩
    rintro r2 m2 ⟨hL2, h2⟩
    have q1 : r1 = r2 := by rw [h1, h2, e1]
    (conv => whnf)
    exact And.intro rfl (hgo m2 _ _ hL2)
  (conv => whnf)
  exact And.intro rfl (hgo m _ _ hL)
end LawLoop
