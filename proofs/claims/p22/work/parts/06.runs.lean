/-! arrays, the script, ends -/
section OpsD
variable {μ : MI} {pc : Nat}
def oIald : OP := fun _ _ nx _ ls st m => match st with
  | .int i :: .ref a :: r => match Nat.beq (a % 16) 8 with
    | true => vp_in i (a / 4096) ∧ nx ls (.int (gI m a i.toNatClampNeg) :: r) m
    | false => False
  | _ => False
theorem okIald (hd : decode μ.2.1 pc = .ok (.iaload, 1)) : OpOk μ 1 pc oIald := by
  intro E P p l e R s mid args below meth c dC dI dA ad b A C0 S0 Qf hC hR nx jp ls st m hn hj h H locs la hl hs hE hS hL
  unfold oIald at h
  split at h
  · rename_i i a r
    split at h
    · rename_i hb
      have ha : a % 16 = 8 := Nat.eq_of_beq_eq_true hb
      have hs2 := List.forall_mem_cons.mp (List.forall_mem_cons.mp hs).2
      obtain ⟨q0, hq1, hq2⟩ := wsM_at (ad := ad) (dA := dA) hs2.1 m
      rw [cellE_int ha (by decide)] at hq2
      exact va_iald hC.1 hC.2.1 hC.2.2.2.2.2.2.1 hE.1 q0 0 hq2 rfl h.1 hd (hn _ _ _ h.2 H locs la hl (List.forall_mem_cons.mpr ⟨trivial, hs2.2⟩) hE hS hL)
    · exact h.elim
  · exact h.elim
def oJald : OP := fun _ _ nx _ ls st m => match st with
  | .int i :: .ref a :: r => match Nat.beq (a % 16) 9 with
    | true => vp_in i (a / 4096) ∧ nx ls (.long (gJ m a i.toNatClampNeg) :: r) m
    | false => False
  | _ => False
theorem okJald (hd : decode μ.2.1 pc = .ok (.laload, 1)) : OpOk μ 1 pc oJald := by
  intro E P p l e R s mid args below meth c dC dI dA ad b A C0 S0 Qf hC hR nx jp ls st m hn hj h H locs la hl hs hE hS hL
  unfold oJald at h
  split at h
  · rename_i i a r
    split at h
    · rename_i hb
      have ha : a % 16 = 9 := Nat.eq_of_beq_eq_true hb
      have hs2 := List.forall_mem_cons.mp (List.forall_mem_cons.mp hs).2
      obtain ⟨q0, hq1, hq2⟩ := wsM_at (ad := ad) (dA := dA) hs2.1 m
      rw [cellE_long ha] at hq2
      exact va_lald hC.1 hC.2.1 hC.2.2.2.2.2.2.1 hE.1 q0 1 hq2 rfl h.1 hd (hn _ _ _ h.2 H locs la hl (List.forall_mem_cons.mpr ⟨trivial, hs2.2⟩) hE hS hL)
    · exact h.elim
  · exact h.elim
def oBald : OP := fun _ _ nx _ ls st m => match st with
  | .int i :: .ref a :: r => match Nat.beq (a % 16) 10 || Nat.beq (a % 16) 11 with
    | true => vp_in i (a / 4096) ∧ nx ls (.int (gI m a i.toNatClampNeg) :: r) m
    | false => False
  | _ => False
theorem okBald (hd : decode μ.2.1 pc = .ok (.baload, 1)) : OpOk μ 1 pc oBald := by
  intro E P p l e R s mid args below meth c dC dI dA ad b A C0 S0 Qf hC hR nx jp ls st m hn hj h H locs la hl hs hE hS hL
  unfold oBald at h
  split at h
  · rename_i i a r
    split at h
    · rename_i hb
      have hs2 := List.forall_mem_cons.mp (List.forall_mem_cons.mp hs).2
      obtain ⟨q0, hq1, hq2⟩ := wsM_at (ad := ad) (dA := dA) hs2.1 m
      rcases (Bool.or_eq_true _ _).mp hb with hb | hb
      · have ha : a % 16 = 10 := Nat.eq_of_beq_eq_true hb
        rw [cellE_int ha (by decide)] at hq2
        exact va_bald hC.1 hC.2.1 hC.2.2.2.2.2.2.1 hE.1 q0 2 hq2 rfl h.1 hd (hn _ _ _ h.2 H locs la hl (List.forall_mem_cons.mpr ⟨trivial, hs2.2⟩) hE hS hL)
      · have ha : a % 16 = 11 := Nat.eq_of_beq_eq_true hb
        rw [cellE_int ha (by decide)] at hq2
        exact va_zald hC.1 hC.2.1 hC.2.2.2.2.2.2.1 hE.1 q0 3 hq2 rfl h.1 hd (hn _ _ _ h.2 H locs la hl (List.forall_mem_cons.mpr ⟨trivial, hs2.2⟩) hE hS hL)
    · exact h.elim
  · exact h.elim
theorem wsM_stI {ad : Nat → Nat} {dA : Nat → ClassId} {m : MM} {a k q0 kd : Nat} {x : Int32} (hq : cellsL[q0]? = some a) (ha : a % 16 = kd) (hk : kd = 8 ∨ kd = 10 ∨ kd = 11) : (wsM ad dA m).set q0 (ad a, .inl (dA kd, a / 4096, .inl (upd (fun i => gI m a i) k x))) = wsM ad dA (sI m a k x) := by
  refine wsM_set hq (fun b _ hb => cellE_sI_other hb) ?_
  rw [cellE_int ha hk]
  have e : (fun i => gI (sI m a k x) a i) = upd (fun i => gI m a i) k x := by
    funext j
    simp [gI, sI, upd]
  rw [e]
theorem wsM_stJ {ad : Nat → Nat} {dA : Nat → ClassId} {m : MM} {a k q0 : Nat} {x : Int64} (hq : cellsL[q0]? = some a) (ha : a % 16 = 9) : (wsM ad dA m).set q0 (ad a, .inl (dA 9, a / 4096, .inr (.inl (vp_updL (fun i => gJ m a i) k x)))) = wsM ad dA (sJ m a k x) := by
  refine wsM_set hq (fun b _ hb => cellE_sJ_other hb) ?_
  rw [cellE_long ha]
  have e : (fun i => gJ (sJ m a k x) a i) = vp_updL (fun i => gJ m a i) k x := by
    funext j
    simp [gJ, sJ, vp_updL]
  rw [e]
def oIast : OP := fun _ _ nx _ ls st m => match st with
  | .int x :: .int i :: .ref a :: r => match Nat.beq (a % 16) 8 with
    | true => vp_in i (a / 4096) ∧ nx ls r (sI m a i.toNatClampNeg x)
    | false => False
  | _ => False
theorem okIast (hd : decode μ.2.1 pc = .ok (.iastore, 1)) : OpOk μ 1 pc oIast := by
  intro E P p l e R s mid args below meth c dC dI dA ad b A C0 S0 Qf hC hR nx jp ls st m hn hj h H locs la hl hs hE hS hL
  unfold oIast at h
  split at h
  · rename_i x i a r
    split at h
    · rename_i hb
      have ha : a % 16 = 8 := Nat.eq_of_beq_eq_true hb
      have hs2 := List.forall_mem_cons.mp (List.forall_mem_cons.mp (List.forall_mem_cons.mp hs).2).2
      obtain ⟨q0, hq1, hq2⟩ := wsM_at (ad := ad) (dA := dA) hs2.1 m
      rw [cellE_int ha (by decide)] at hq2
      refine va_iast hC.1 hC.2.1 hC.2.2.2.2.2.2.1 hE.1 hE.2.1 hS q0 0 hq2 rfl h.1 hd (fun H1 locs1 hP1 hD1 hS1 => ?_)
      rw [wsM_stI hq1 ha (by decide)] at hP1 hD1
      exact hn _ _ _ h.2 H1 locs1 la hl hs2.2 ⟨hP1, hD1, hE.2.2⟩ hS1 hL
    · exact h.elim
  · exact h.elim
def oJast : OP := fun _ _ nx _ ls st m => match st with
  | .long x :: .int i :: .ref a :: r => match Nat.beq (a % 16) 9 with
    | true => vp_in i (a / 4096) ∧ nx ls r (sJ m a i.toNatClampNeg x)
    | false => False
  | _ => False
theorem okJast (hd : decode μ.2.1 pc = .ok (.lastore, 1)) : OpOk μ 1 pc oJast := by
  intro E P p l e R s mid args below meth c dC dI dA ad b A C0 S0 Qf hC hR nx jp ls st m hn hj h H locs la hl hs hE hS hL
  unfold oJast at h
  split at h
  · rename_i x i a r
    split at h
    · rename_i hb
      have ha : a % 16 = 9 := Nat.eq_of_beq_eq_true hb
      have hs2 := List.forall_mem_cons.mp (List.forall_mem_cons.mp (List.forall_mem_cons.mp hs).2).2
      obtain ⟨q0, hq1, hq2⟩ := wsM_at (ad := ad) (dA := dA) hs2.1 m
      rw [cellE_long ha] at hq2
      refine va_last hC.1 hC.2.1 hC.2.2.2.2.2.2.1 hE.1 hE.2.1 hS q0 1 hq2 rfl h.1 hd (fun H1 locs1 hP1 hD1 hS1 => ?_)
      rw [wsM_stJ hq1 ha] at hP1 hD1
      exact hn _ _ _ h.2 H1 locs1 la hl hs2.2 ⟨hP1, hD1, hE.2.2⟩ hS1 hL
    · exact h.elim
  · exact h.elim
def oBast : OP := fun _ _ nx _ ls st m => match st with
  | .int x :: .int i :: .ref a :: r => match Nat.beq (a % 16) 10 with
    | true => vp_in i (a / 4096) ∧ nx ls r (sI m a i.toNatClampNeg (vp_nar .byte x))
    | false => match Nat.beq (a % 16) 11 with
      | true => vp_in i (a / 4096) ∧ nx ls r (sI m a i.toNatClampNeg (vp_nar .boolean x))
      | false => False
  | _ => False
theorem okBast (hd : decode μ.2.1 pc = .ok (.bastore, 1)) : OpOk μ 1 pc oBast := by
  intro E P p l e R s mid args below meth c dC dI dA ad b A C0 S0 Qf hC hR nx jp ls st m hn hj h H locs la hl hs hE hS hL
  unfold oBast at h
  split at h
  · rename_i x i a r
    have hs2 := List.forall_mem_cons.mp (List.forall_mem_cons.mp (List.forall_mem_cons.mp hs).2).2
    obtain ⟨q0, hq1, hq2⟩ := wsM_at (ad := ad) (dA := dA) hs2.1 m
    split at h
    · rename_i hb
      have ha : a % 16 = 10 := Nat.eq_of_beq_eq_true hb
      rw [cellE_int ha (by decide)] at hq2
      refine va_bast hC.1 hC.2.1 hC.2.2.2.2.2.2.1 hE.1 hE.2.1 hS q0 2 hq2 rfl h.1 hd (fun H1 locs1 hP1 hD1 hS1 => ?_)
      rw [wsM_stI hq1 ha (by decide)] at hP1 hD1
      exact hn _ _ _ h.2 H1 locs1 la hl hs2.2 ⟨hP1, hD1, hE.2.2⟩ hS1 hL
    · split at h
      · rename_i hb
        have ha : a % 16 = 11 := Nat.eq_of_beq_eq_true hb
        rw [cellE_int ha (by decide)] at hq2
        refine va_zast hC.1 hC.2.1 hC.2.2.2.2.2.2.1 hE.1 hE.2.1 hS q0 3 hq2 rfl h.1 hd (fun H1 locs1 hP1 hD1 hS1 => ?_)
        rw [wsM_stI hq1 ha (by decide)] at hP1 hD1
        exact hn _ _ _ h.2 H1 locs1 la hl hs2.2 ⟨hP1, hD1, hE.2.2⟩ hS1 hL
      · exact h.elim
  · exact h.elim
def oLen : OP := fun _ _ nx _ ls st m => match st with
  | .ref a :: r => match Nat.beq (a % 16) 8 with
    | true => nx ls (.int (Int32.ofNat (a / 4096)) :: r) m
    | false => False
  | _ => False
theorem okLen (hd : decode μ.2.1 pc = .ok (.arraylength, 1)) : OpOk μ 1 pc oLen := by
  intro E P p l e R s mid args below meth c dC dI dA ad b A C0 S0 Qf hC hR nx jp ls st m hn hj h H locs la hl hs hE hS hL
  unfold oLen at h
  split at h
  · rename_i a r
    split at h
    · rename_i hb
      have ha : a % 16 = 8 := Nat.eq_of_beq_eq_true hb
      have hs2 := List.forall_mem_cons.mp hs
      obtain ⟨q0, hq1, hq2⟩ := wsM_at (ad := ad) (dA := dA) hs2.1 m
      rw [cellE_int ha (by decide)] at hq2
      exact va_alen hC.1 hC.2.1 hC.2.2.2.2.2.2.1 hE.1 q0 0 hq2 (ty := .int) rfl rfl hd (hn _ _ _ h H locs la hl (List.forall_mem_cons.mpr ⟨trivial, hs2.2⟩) hE hS hL)
    · exact h.elim
  · exact h.elim
def oSld : OP := fun E _ nx _ ls st m => match st with
  | .int i :: .retAddr _ :: r => vp_in i E.2.1 ∧ nx ls (.int (E.2.2 i.toNatClampNeg) :: r) m
  | _ => False
theorem okSld (hw : μ.2.2.2.2 = "SaleRoundsLaw") (hd : decode μ.2.1 pc = .ok (.iaload, 1)) : OpOk μ 1 pc oSld := by
  intro E P p l e R s mid args below meth c dC dI dA ad b A C0 S0 Qf hC hR nx jp ls st m hn hj h H locs la hl hs hE hS hL
  unfold oSld at h
  split at h
  · rename_i i a r
    have hs2 := List.forall_mem_cons.mp (List.forall_mem_cons.mp hs).2
    obtain ⟨hX, hbl, hbA⟩ := hC.2.2.2.2.2.2.2.2.2.1 hw
    exact va_sld hC.1 hC.2.1 hX hbl hbA hS h.1 hd (hn _ _ _ h.2 H locs la hl (List.forall_mem_cons.mpr ⟨trivial, hs2.2⟩) hE hS hL)
  · exact h.elim
def oSlen : OP := fun E _ nx _ ls st m => match st with
  | .retAddr _ :: r => nx ls (.int (Int32.ofNat E.2.1) :: r) m
  | _ => False
theorem okSlen (hw : μ.2.2.2.2 = "SaleRoundsLaw") (hd : decode μ.2.1 pc = .ok (.arraylength, 1)) : OpOk μ 1 pc oSlen := by
  intro E P p l e R s mid args below meth c dC dI dA ad b A C0 S0 Qf hC hR nx jp ls st m hn hj h H locs la hl hs hE hS hL
  unfold oSlen at h
  split at h
  · obtain ⟨hX, hbl, hbA⟩ := hC.2.2.2.2.2.2.2.2.2.1 hw
    exact va_slen hC.1 hC.2.1 hX hbl hbA hS hd (hn _ _ _ h H locs la hl (List.forall_mem_cons.mpr ⟨trivial, (List.forall_mem_cons.mp hs).2⟩) hE hS hL)
  · exact h.elim
def oIret : OP := fun _ P _ _ _ st m => match st with
  | [.int x] => P (some (.int x)) m
  | _ => False
theorem okIret (hd : decode μ.2.1 pc = .ok (.ireturn, 1)) (hr : μ.2.2.2.1 = some .int) : OpOk μ 1 pc oIret := by
  intro E P p l e R s mid args below meth c dC dI dA ad b A C0 S0 Qf hC hR nx jp ls st m hn hj h H locs la hl hs hE hS hL
  unfold oIret at h
  split at h
  · rename_i x
    exact hR (some (.int x)) m H locs la pc h (Or.inl ⟨x, rfl, hd, Or.inl hr⟩) hE hS
  · exact h.elim
def oZret : OP := fun _ P _ _ _ st m => match st with
  | [.int x] => (x = 0 ∨ x = 1) ∧ P (some (.int x)) m
  | _ => False
theorem okZret (hd : decode μ.2.1 pc = .ok (.ireturn, 1)) (hr : μ.2.2.2.1 = some .boolean) : OpOk μ 1 pc oZret := by
  intro E P p l e R s mid args below meth c dC dI dA ad b A C0 S0 Qf hC hR nx jp ls st m hn hj h H locs la hl hs hE hS hL
  unfold oZret at h
  split at h
  · rename_i x
    exact hR (some (.int x)) m H locs la pc h.2 (Or.inl ⟨x, rfl, hd, Or.inr ⟨hr, h.1⟩⟩) hE hS
  · exact h.elim
def oJret : OP := fun _ P _ _ _ st m => match st with
  | [.long x] => P (some (.long x)) m
  | _ => False
theorem okJret (hd : decode μ.2.1 pc = .ok (.lreturn, 1)) (hr : μ.2.2.2.1 = some .long) : OpOk μ 1 pc oJret := by
  intro E P p l e R s mid args below meth c dC dI dA ad b A C0 S0 Qf hC hR nx jp ls st m hn hj h H locs la hl hs hE hS hL
  unfold oJret at h
  split at h
  · rename_i x
    exact hR (some (.long x)) m H locs la pc h (Or.inr (Or.inl ⟨x, rfl, hd, hr⟩)) hE hS
  · exact h.elim
def oVret : OP := fun _ P _ _ _ st m => match st with
  | [] => P none m
  | _ => False
theorem okVret (hd : decode μ.2.1 pc = .ok (.return_, 1)) (hr : μ.2.2.2.1 = none) : OpOk μ 1 pc oVret := by
  intro E P p l e R s mid args below meth c dC dI dA ad b A C0 S0 Qf hC hR nx jp ls st m hn hj h H locs la hl hs hE hS hL
  unfold oVret at h
  split at h
  · exact hR none m H locs la pc h (Or.inr (Or.inr ⟨rfl, hd, hr⟩)) hE hS
  · exact h.elim
/-- an instruction that no walk may reach -/
def oNo : OP := fun _ _ _ _ _ _ _ => False
theorem okNo {len : Nat} : OpOk μ len pc oNo := by
  intro E P p l e R s mid args below meth c dC dI dA ad b A C0 S0 Qf hC hR nx jp ls st m hn hj h
  exact h.elim
def cats : List Value → Nat
  | [] => 0
  | v :: r => v.category + cats r
theorem cats_eq (ad : Nat → Nat) (b : Nat) : ∀ r : List Value, ((r.map (tv ad b)).map fun v => v.category).sum = cats r
  | [] => rfl
  | v :: r => by
    rw [List.map_cons, List.map_cons, List.sum_cons, cats_eq ad b r, tv_cat]
    rfl
def oMin : OP := fun E _ nx _ ls st m => match st with
  | .int y :: .int x :: r => match Nat.ble 1 E.1 && Nat.ble (cats r) 8 with
    | true => nx ls (.int (if y < x then y else x) :: r) m
    | false => False
  | _ => False
def oMax : OP := fun E _ nx _ ls st m => match st with
  | .int y :: .int x :: r => match Nat.ble 1 E.1 && Nat.ble (cats r) 8 with
    | true => nx ls (.int (if x < y then y else x) :: r) m
    | false => False
  | _ => False
theorem okMin {x : Nat} (hd : decode μ.2.1 pc = .ok (.invokestatic x, 3)) (w1 : Cond.methodLink μ.2.2.2.2 x Lib.Math.min.name ∈ wsG) (w2 : Cond.static Lib.Math.min.name ∈ wsG) (w3 : Cond.initialized "java/lang/Math" ∈ wsG) (w4 : Cond.code Lib.Math.min.name Lib.Math.min.code 2 (some .int) ∈ wsG) : OpOk μ 3 pc oMin := by
  intro E P p l e R s mid args below meth c dC dI dA ad b A C0 S0 Qf hC hR nx jp ls st m hn hj h H locs la hl hs hE hS hL
  unfold oMin at h
  split at h
  · rename_i y x r
    split at h
    · rename_i hb
      rw [Bool.and_eq_true] at hb
      have h1 := Nat.le_of_ble_eq_true hb.1
      have h2 := Nat.le_of_ble_eq_true hb.2
      obtain ⟨r1, r2, r3, r4⟩ := hC.2.2.2.2.2.2.2.2.1
      exact va_mmin hC.1 hC.2.1 (by rw [hC.2.2.1]; exact hL.1.symm) hC.2.2.2.1 (hC.2.2.2.2.1 _ w1) (hC.2.2.2.2.1 _ w2) (hC.2.2.2.2.1 _ w3) (hC.2.2.2.2.1 _ w4) (by omega) (by rw [cats_eq]; omega) r3 r4 hd (hn _ _ _ h H locs la hl (List.forall_mem_cons.mpr ⟨trivial, (List.forall_mem_cons.mp (List.forall_mem_cons.mp hs).2).2⟩) hE hS hL)
    · exact h.elim
  · exact h.elim
theorem okMax {x : Nat} (hd : decode μ.2.1 pc = .ok (.invokestatic x, 3)) (w1 : Cond.methodLink μ.2.2.2.2 x Lib.Math.max.name ∈ wsG) (w2 : Cond.static Lib.Math.max.name ∈ wsG) (w3 : Cond.initialized "java/lang/Math" ∈ wsG) (w4 : Cond.code Lib.Math.max.name Lib.Math.max.code 2 (some .int) ∈ wsG) : OpOk μ 3 pc oMax := by
  intro E P p l e R s mid args below meth c dC dI dA ad b A C0 S0 Qf hC hR nx jp ls st m hn hj h H locs la hl hs hE hS hL
  unfold oMax at h
  split at h
  · rename_i y x r
    split at h
    · rename_i hb
      rw [Bool.and_eq_true] at hb
      have h1 := Nat.le_of_ble_eq_true hb.1
      have h2 := Nat.le_of_ble_eq_true hb.2
      obtain ⟨r1, r2, r3, r4⟩ := hC.2.2.2.2.2.2.2.2.1
      exact va_mmax hC.1 hC.2.1 (by rw [hC.2.2.1]; exact hL.1.symm) hC.2.2.2.1 (hC.2.2.2.2.1 _ w1) (hC.2.2.2.2.1 _ w2) (hC.2.2.2.2.1 _ w3) (hC.2.2.2.2.1 _ w4) (by omega) (by rw [cats_eq]; omega) r3 r4 hd (hn _ _ _ h H locs la hl (List.forall_mem_cons.mpr ⟨trivial, (List.forall_mem_cons.mp (List.forall_mem_cons.mp hs).2).2⟩) hE hS hL)
    · exact h.elim
  · exact h.elim
end OpsD
