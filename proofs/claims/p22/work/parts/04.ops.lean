/-! OPERATIONS, second half: arithmetic, branches, fields, arrays, ends, calls -/
section OpsB
variable {μ : MI} {pc : Nat}
def oIadd : OP := fun _ _ nx _ ls st m => match st with
  | .int y :: .int x :: r => nx ls (.int (x + y) :: r) m
  | _ => False
theorem okIadd (hd : decode μ.2.1 pc = .ok (.iadd, 1)) : OpOk μ 1 pc oIadd := by
  intro E P p l e R s mid args below meth c dC dI dA ad b A C0 S0 Qf hC hR nx jp ls st m hn hj h H locs la hl hs hE hS hL
  unfold oIadd at h
  split at h
  · rename_i y x r
    exact lv_iadd hC.1 hC.2.1 hd (hn _ _ _ h H locs la hl (List.forall_mem_cons.mpr ⟨trivial, (List.forall_mem_cons.mp (List.forall_mem_cons.mp hs).2).2⟩) hE hS hL)
  · exact h.elim
def oIsub : OP := fun _ _ nx _ ls st m => match st with
  | .int y :: .int x :: r => nx ls (.int (x - y) :: r) m
  | _ => False
theorem okIsub (hd : decode μ.2.1 pc = .ok (.isub, 1)) : OpOk μ 1 pc oIsub := by
  intro E P p l e R s mid args below meth c dC dI dA ad b A C0 S0 Qf hC hR nx jp ls st m hn hj h H locs la hl hs hE hS hL
  unfold oIsub at h
  split at h
  · rename_i y x r
    exact lv_isub hC.1 hC.2.1 hd (hn _ _ _ h H locs la hl (List.forall_mem_cons.mpr ⟨trivial, (List.forall_mem_cons.mp (List.forall_mem_cons.mp hs).2).2⟩) hE hS hL)
  · exact h.elim
def oImul : OP := fun _ _ nx _ ls st m => match st with
  | .int y :: .int x :: r => nx ls (.int (x * y) :: r) m
  | _ => False
theorem okImul (hd : decode μ.2.1 pc = .ok (.imul, 1)) : OpOk μ 1 pc oImul := by
  intro E P p l e R s mid args below meth c dC dI dA ad b A C0 S0 Qf hC hR nx jp ls st m hn hj h H locs la hl hs hE hS hL
  unfold oImul at h
  split at h
  · rename_i y x r
    exact lv_imul hC.1 hC.2.1 hd (hn _ _ _ h H locs la hl (List.forall_mem_cons.mpr ⟨trivial, (List.forall_mem_cons.mp (List.forall_mem_cons.mp hs).2).2⟩) hE hS hL)
  · exact h.elim
def oIand : OP := fun _ _ nx _ ls st m => match st with
  | .int y :: .int x :: r => nx ls (.int (x &&& y) :: r) m
  | _ => False
theorem okIand (hd : decode μ.2.1 pc = .ok (.iand, 1)) : OpOk μ 1 pc oIand := by
  intro E P p l e R s mid args below meth c dC dI dA ad b A C0 S0 Qf hC hR nx jp ls st m hn hj h H locs la hl hs hE hS hL
  unfold oIand at h
  split at h
  · rename_i y x r
    exact lv_iand hC.1 hC.2.1 hd (hn _ _ _ h H locs la hl (List.forall_mem_cons.mpr ⟨trivial, (List.forall_mem_cons.mp (List.forall_mem_cons.mp hs).2).2⟩) hE hS hL)
  · exact h.elim
def oIor : OP := fun _ _ nx _ ls st m => match st with
  | .int y :: .int x :: r => nx ls (.int (x ||| y) :: r) m
  | _ => False
theorem okIor (hd : decode μ.2.1 pc = .ok (.ior, 1)) : OpOk μ 1 pc oIor := by
  intro E P p l e R s mid args below meth c dC dI dA ad b A C0 S0 Qf hC hR nx jp ls st m hn hj h H locs la hl hs hE hS hL
  unfold oIor at h
  split at h
  · rename_i y x r
    exact lv_ior hC.1 hC.2.1 hd (hn _ _ _ h H locs la hl (List.forall_mem_cons.mpr ⟨trivial, (List.forall_mem_cons.mp (List.forall_mem_cons.mp hs).2).2⟩) hE hS hL)
  · exact h.elim
def oIxor : OP := fun _ _ nx _ ls st m => match st with
  | .int y :: .int x :: r => nx ls (.int (x ^^^ y) :: r) m
  | _ => False
theorem okIxor (hd : decode μ.2.1 pc = .ok (.ixor, 1)) : OpOk μ 1 pc oIxor := by
  intro E P p l e R s mid args below meth c dC dI dA ad b A C0 S0 Qf hC hR nx jp ls st m hn hj h H locs la hl hs hE hS hL
  unfold oIxor at h
  split at h
  · rename_i y x r
    exact lv_ixor hC.1 hC.2.1 hd (hn _ _ _ h H locs la hl (List.forall_mem_cons.mpr ⟨trivial, (List.forall_mem_cons.mp (List.forall_mem_cons.mp hs).2).2⟩) hE hS hL)
  · exact h.elim
def oIshl : OP := fun _ _ nx _ ls st m => match st with
  | .int y :: .int x :: r => nx ls (.int (x <<< (y &&& 31)) :: r) m
  | _ => False
theorem okIshl (hd : decode μ.2.1 pc = .ok (.ishl, 1)) : OpOk μ 1 pc oIshl := by
  intro E P p l e R s mid args below meth c dC dI dA ad b A C0 S0 Qf hC hR nx jp ls st m hn hj h H locs la hl hs hE hS hL
  unfold oIshl at h
  split at h
  · rename_i y x r
    exact lv_ishl hC.1 hC.2.1 hd (hn _ _ _ h H locs la hl (List.forall_mem_cons.mpr ⟨trivial, (List.forall_mem_cons.mp (List.forall_mem_cons.mp hs).2).2⟩) hE hS hL)
  · exact h.elim
def oIshr : OP := fun _ _ nx _ ls st m => match st with
  | .int y :: .int x :: r => nx ls (.int (x >>> (y &&& 31)) :: r) m
  | _ => False
theorem okIshr (hd : decode μ.2.1 pc = .ok (.ishr, 1)) : OpOk μ 1 pc oIshr := by
  intro E P p l e R s mid args below meth c dC dI dA ad b A C0 S0 Qf hC hR nx jp ls st m hn hj h H locs la hl hs hE hS hL
  unfold oIshr at h
  split at h
  · rename_i y x r
    exact lv_ishr hC.1 hC.2.1 hd (hn _ _ _ h H locs la hl (List.forall_mem_cons.mpr ⟨trivial, (List.forall_mem_cons.mp (List.forall_mem_cons.mp hs).2).2⟩) hE hS hL)
  · exact h.elim
def oIushr : OP := fun _ _ nx _ ls st m => match st with
  | .int y :: .int x :: r => nx ls (.int ((x.toUInt32 >>> (y.toUInt32 &&& Int32.toUInt32 31)).toInt32) :: r) m
  | _ => False
theorem okIushr (hd : decode μ.2.1 pc = .ok (.iushr, 1)) : OpOk μ 1 pc oIushr := by
  intro E P p l e R s mid args below meth c dC dI dA ad b A C0 S0 Qf hC hR nx jp ls st m hn hj h H locs la hl hs hE hS hL
  unfold oIushr at h
  split at h
  · rename_i y x r
    exact lv_iushr hC.1 hC.2.1 hd rfl (hn _ _ _ h H locs la hl (List.forall_mem_cons.mpr ⟨trivial, (List.forall_mem_cons.mp (List.forall_mem_cons.mp hs).2).2⟩) hE hS hL)
  · exact h.elim
def oIdiv : OP := fun _ _ nx _ ls st m => match st with
  | .int y :: .int x :: r => (¬ y = 0) ∧ nx ls (.int (x / y) :: r) m
  | _ => False
theorem okIdiv (hd : decode μ.2.1 pc = .ok (.idiv, 1)) : OpOk μ 1 pc oIdiv := by
  intro E P p l e R s mid args below meth c dC dI dA ad b A C0 S0 Qf hC hR nx jp ls st m hn hj h H locs la hl hs hE hS hL
  unfold oIdiv at h
  split at h
  · rename_i y x r
    exact lv_idiv hC.1 hC.2.1 hd h.1 (hn _ _ _ h.2 H locs la hl (List.forall_mem_cons.mpr ⟨trivial, (List.forall_mem_cons.mp (List.forall_mem_cons.mp hs).2).2⟩) hE hS hL)
  · exact h.elim
def oIrem : OP := fun _ _ nx _ ls st m => match st with
  | .int y :: .int x :: r => (¬ y = 0) ∧ nx ls (.int (x - x / y * y) :: r) m
  | _ => False
theorem okIrem (hd : decode μ.2.1 pc = .ok (.irem, 1)) : OpOk μ 1 pc oIrem := by
  intro E P p l e R s mid args below meth c dC dI dA ad b A C0 S0 Qf hC hR nx jp ls st m hn hj h H locs la hl hs hE hS hL
  unfold oIrem at h
  split at h
  · rename_i y x r
    exact lv_irem hC.1 hC.2.1 hd h.1 (hn _ _ _ h.2 H locs la hl (List.forall_mem_cons.mpr ⟨trivial, (List.forall_mem_cons.mp (List.forall_mem_cons.mp hs).2).2⟩) hE hS hL)
  · exact h.elim
def oLadd : OP := fun _ _ nx _ ls st m => match st with
  | .long y :: .long x :: r => nx ls (.long (x + y) :: r) m
  | _ => False
theorem okLadd (hd : decode μ.2.1 pc = .ok (.ladd, 1)) : OpOk μ 1 pc oLadd := by
  intro E P p l e R s mid args below meth c dC dI dA ad b A C0 S0 Qf hC hR nx jp ls st m hn hj h H locs la hl hs hE hS hL
  unfold oLadd at h
  split at h
  · rename_i y x r
    exact lv_ladd hC.1 hC.2.1 hd (hn _ _ _ h H locs la hl (List.forall_mem_cons.mpr ⟨trivial, (List.forall_mem_cons.mp (List.forall_mem_cons.mp hs).2).2⟩) hE hS hL)
  · exact h.elim
def oLsub : OP := fun _ _ nx _ ls st m => match st with
  | .long y :: .long x :: r => nx ls (.long (x - y) :: r) m
  | _ => False
theorem okLsub (hd : decode μ.2.1 pc = .ok (.lsub, 1)) : OpOk μ 1 pc oLsub := by
  intro E P p l e R s mid args below meth c dC dI dA ad b A C0 S0 Qf hC hR nx jp ls st m hn hj h H locs la hl hs hE hS hL
  unfold oLsub at h
  split at h
  · rename_i y x r
    exact lv_lsub hC.1 hC.2.1 hd (hn _ _ _ h H locs la hl (List.forall_mem_cons.mpr ⟨trivial, (List.forall_mem_cons.mp (List.forall_mem_cons.mp hs).2).2⟩) hE hS hL)
  · exact h.elim
def oLmul : OP := fun _ _ nx _ ls st m => match st with
  | .long y :: .long x :: r => nx ls (.long (x * y) :: r) m
  | _ => False
theorem okLmul (hd : decode μ.2.1 pc = .ok (.lmul, 1)) : OpOk μ 1 pc oLmul := by
  intro E P p l e R s mid args below meth c dC dI dA ad b A C0 S0 Qf hC hR nx jp ls st m hn hj h H locs la hl hs hE hS hL
  unfold oLmul at h
  split at h
  · rename_i y x r
    exact lv_lmul hC.1 hC.2.1 hd (hn _ _ _ h H locs la hl (List.forall_mem_cons.mpr ⟨trivial, (List.forall_mem_cons.mp (List.forall_mem_cons.mp hs).2).2⟩) hE hS hL)
  · exact h.elim
def oLand : OP := fun _ _ nx _ ls st m => match st with
  | .long y :: .long x :: r => nx ls (.long (x &&& y) :: r) m
  | _ => False
theorem okLand (hd : decode μ.2.1 pc = .ok (.land, 1)) : OpOk μ 1 pc oLand := by
  intro E P p l e R s mid args below meth c dC dI dA ad b A C0 S0 Qf hC hR nx jp ls st m hn hj h H locs la hl hs hE hS hL
  unfold oLand at h
  split at h
  · rename_i y x r
    exact lv_land hC.1 hC.2.1 hd (hn _ _ _ h H locs la hl (List.forall_mem_cons.mpr ⟨trivial, (List.forall_mem_cons.mp (List.forall_mem_cons.mp hs).2).2⟩) hE hS hL)
  · exact h.elim
def oLor : OP := fun _ _ nx _ ls st m => match st with
  | .long y :: .long x :: r => nx ls (.long (x ||| y) :: r) m
  | _ => False
theorem okLor (hd : decode μ.2.1 pc = .ok (.lor, 1)) : OpOk μ 1 pc oLor := by
  intro E P p l e R s mid args below meth c dC dI dA ad b A C0 S0 Qf hC hR nx jp ls st m hn hj h H locs la hl hs hE hS hL
  unfold oLor at h
  split at h
  · rename_i y x r
    exact lv_lor hC.1 hC.2.1 hd (hn _ _ _ h H locs la hl (List.forall_mem_cons.mpr ⟨trivial, (List.forall_mem_cons.mp (List.forall_mem_cons.mp hs).2).2⟩) hE hS hL)
  · exact h.elim
def oLdiv : OP := fun _ _ nx _ ls st m => match st with
  | .long y :: .long x :: r => (¬ y = 0) ∧ nx ls (.long (x / y) :: r) m
  | _ => False
theorem okLdiv (hd : decode μ.2.1 pc = .ok (.ldiv, 1)) : OpOk μ 1 pc oLdiv := by
  intro E P p l e R s mid args below meth c dC dI dA ad b A C0 S0 Qf hC hR nx jp ls st m hn hj h H locs la hl hs hE hS hL
  unfold oLdiv at h
  split at h
  · rename_i y x r
    exact lv_ldiv hC.1 hC.2.1 hd h.1 (hn _ _ _ h.2 H locs la hl (List.forall_mem_cons.mpr ⟨trivial, (List.forall_mem_cons.mp (List.forall_mem_cons.mp hs).2).2⟩) hE hS hL)
  · exact h.elim
def oLrem : OP := fun _ _ nx _ ls st m => match st with
  | .long y :: .long x :: r => (¬ y = 0) ∧ nx ls (.long (x - x / y * y) :: r) m
  | _ => False
theorem okLrem (hd : decode μ.2.1 pc = .ok (.lrem, 1)) : OpOk μ 1 pc oLrem := by
  intro E P p l e R s mid args below meth c dC dI dA ad b A C0 S0 Qf hC hR nx jp ls st m hn hj h H locs la hl hs hE hS hL
  unfold oLrem at h
  split at h
  · rename_i y x r
    exact lv_lrem hC.1 hC.2.1 hd h.1 (hn _ _ _ h.2 H locs la hl (List.forall_mem_cons.mpr ⟨trivial, (List.forall_mem_cons.mp (List.forall_mem_cons.mp hs).2).2⟩) hE hS hL)
  · exact h.elim
def oLshl : OP := fun _ _ nx _ ls st m => match st with
  | .int y :: .long x :: r => nx ls (.long (x <<< (y.toInt64 &&& 63)) :: r) m
  | _ => False
theorem okLshl (hd : decode μ.2.1 pc = .ok (.lshl, 1)) : OpOk μ 1 pc oLshl := by
  intro E P p l e R s mid args below meth c dC dI dA ad b A C0 S0 Qf hC hR nx jp ls st m hn hj h H locs la hl hs hE hS hL
  unfold oLshl at h
  split at h
  · rename_i y x r
    exact lv_lshl hC.1 hC.2.1 hd rfl (hn _ _ _ h H locs la hl (List.forall_mem_cons.mpr ⟨trivial, (List.forall_mem_cons.mp (List.forall_mem_cons.mp hs).2).2⟩) hE hS hL)
  · exact h.elim
def oLshr : OP := fun _ _ nx _ ls st m => match st with
  | .int y :: .long x :: r => nx ls (.long (x >>> (y.toInt64 &&& 63)) :: r) m
  | _ => False
theorem okLshr (hd : decode μ.2.1 pc = .ok (.lshr, 1)) : OpOk μ 1 pc oLshr := by
  intro E P p l e R s mid args below meth c dC dI dA ad b A C0 S0 Qf hC hR nx jp ls st m hn hj h H locs la hl hs hE hS hL
  unfold oLshr at h
  split at h
  · rename_i y x r
    exact lv_lshr hC.1 hC.2.1 hd rfl (hn _ _ _ h H locs la hl (List.forall_mem_cons.mpr ⟨trivial, (List.forall_mem_cons.mp (List.forall_mem_cons.mp hs).2).2⟩) hE hS hL)
  · exact h.elim
def oLushr : OP := fun _ _ nx _ ls st m => match st with
  | .int y :: .long x :: r => nx ls (.long ((x.toUInt64 >>> (y.toInt64.toUInt64 &&& Int64.toUInt64 63)).toInt64) :: r) m
  | _ => False
theorem okLushr (hd : decode μ.2.1 pc = .ok (.lushr, 1)) : OpOk μ 1 pc oLushr := by
  intro E P p l e R s mid args below meth c dC dI dA ad b A C0 S0 Qf hC hR nx jp ls st m hn hj h H locs la hl hs hE hS hL
  unfold oLushr at h
  split at h
  · rename_i y x r
    exact lv_lushr hC.1 hC.2.1 hd rfl (hn _ _ _ h H locs la hl (List.forall_mem_cons.mpr ⟨trivial, (List.forall_mem_cons.mp (List.forall_mem_cons.mp hs).2).2⟩) hE hS hL)
  · exact h.elim
def oLcmp : OP := fun _ _ nx _ ls st m => match st with
  | .long y :: .long x :: r => nx ls (.int (lg_cmp x y) :: r) m
  | _ => False
theorem okLcmp (hd : decode μ.2.1 pc = .ok (.lcmp, 1)) : OpOk μ 1 pc oLcmp := by
  intro E P p l e R s mid args below meth c dC dI dA ad b A C0 S0 Qf hC hR nx jp ls st m hn hj h H locs la hl hs hE hS hL
  unfold oLcmp at h
  split at h
  · rename_i y x r
    exact W.lcmp hC.1 hC.2.1 hd (hn _ _ _ h H locs la hl (List.forall_mem_cons.mpr ⟨trivial, (List.forall_mem_cons.mp (List.forall_mem_cons.mp hs).2).2⟩) hE hS hL)
  · exact h.elim
def oIneg : OP := fun _ _ nx _ ls st m => match st with
  | .int x :: r => nx ls (.int (0 - x) :: r) m
  | _ => False
theorem okIneg (hd : decode μ.2.1 pc = .ok (.ineg, 1)) : OpOk μ 1 pc oIneg := by
  intro E P p l e R s mid args below meth c dC dI dA ad b A C0 S0 Qf hC hR nx jp ls st m hn hj h H locs la hl hs hE hS hL
  unfold oIneg at h
  split at h
  · rename_i x r
    exact lv_ineg hC.1 hC.2.1 hd (hn _ _ _ h H locs la hl (List.forall_mem_cons.mpr ⟨trivial, (List.forall_mem_cons.mp hs).2⟩) hE hS hL)
  · exact h.elim
def oI2l : OP := fun _ _ nx _ ls st m => match st with
  | .int x :: r => nx ls (.long (x.toInt64) :: r) m
  | _ => False
theorem okI2l (hd : decode μ.2.1 pc = .ok (.i2l, 1)) : OpOk μ 1 pc oI2l := by
  intro E P p l e R s mid args below meth c dC dI dA ad b A C0 S0 Qf hC hR nx jp ls st m hn hj h H locs la hl hs hE hS hL
  unfold oI2l at h
  split at h
  · rename_i x r
    exact lv_i2l hC.1 hC.2.1 hd rfl (hn _ _ _ h H locs la hl (List.forall_mem_cons.mpr ⟨trivial, (List.forall_mem_cons.mp hs).2⟩) hE hS hL)
  · exact h.elim
def oL2i : OP := fun _ _ nx _ ls st m => match st with
  | .long x :: r => nx ls (.int (x.toInt32) :: r) m
  | _ => False
theorem okL2i (hd : decode μ.2.1 pc = .ok (.l2i, 1)) : OpOk μ 1 pc oL2i := by
  intro E P p l e R s mid args below meth c dC dI dA ad b A C0 S0 Qf hC hR nx jp ls st m hn hj h H locs la hl hs hE hS hL
  unfold oL2i at h
  split at h
  · rename_i x r
    exact lv_l2i hC.1 hC.2.1 hd rfl (hn _ _ _ h H locs la hl (List.forall_mem_cons.mpr ⟨trivial, (List.forall_mem_cons.mp hs).2⟩) hE hS hL)
  · exact h.elim
def oI2b : OP := fun _ _ nx _ ls st m => match st with
  | .int x :: r => nx ls (.int (x.toInt8.toInt32) :: r) m
  | _ => False
theorem okI2b (hd : decode μ.2.1 pc = .ok (.i2b, 1)) : OpOk μ 1 pc oI2b := by
  intro E P p l e R s mid args below meth c dC dI dA ad b A C0 S0 Qf hC hR nx jp ls st m hn hj h H locs la hl hs hE hS hL
  unfold oI2b at h
  split at h
  · rename_i x r
    exact lv_i2b hC.1 hC.2.1 hd rfl (hn _ _ _ h H locs la hl (List.forall_mem_cons.mpr ⟨trivial, (List.forall_mem_cons.mp hs).2⟩) hE hS hL)
  · exact h.elim
def oDup : OP := fun _ _ nx _ ls st m => match st with
  | .int x :: r => nx ls (.int x :: .int x :: r) m
  | .ref x :: r => nx ls (.ref x :: .ref x :: r) m
  | _ => False
theorem okDup (hd : decode μ.2.1 pc = .ok (.dup, 1)) : OpOk μ 1 pc oDup := by
  intro E P p l e R s mid args below meth c dC dI dA ad b A C0 S0 Qf hC hR nx jp ls st m hn hj h H locs la hl hs hE hS hL
  unfold oDup at h
  split at h
  · exact lv_dup hC.1 hC.2.1 hd rfl (hn _ _ _ h H locs la hl (List.forall_mem_cons.mpr ⟨trivial, hs⟩) hE hS hL)
  · exact lv_dup hC.1 hC.2.1 hd rfl (hn _ _ _ h H locs la hl (List.forall_mem_cons.mpr ⟨(List.forall_mem_cons.mp hs).1, hs⟩) hE hS hL)
  · exact h.elim
def oDup2 : OP := fun _ _ nx _ ls st m => match st with
  | .int x :: .ref y :: r => nx ls (.int x :: .ref y :: .int x :: .ref y :: r) m
  | _ => False
theorem okDup2 (hd : decode μ.2.1 pc = .ok (.dup2, 1)) : OpOk μ 1 pc oDup2 := by
  intro E P p l e R s mid args below meth c dC dI dA ad b A C0 S0 Qf hC hR nx jp ls st m hn hj h H locs la hl hs hE hS hL
  unfold oDup2 at h
  split at h
  · exact lv_dup2_11 hC.1 hC.2.1 hd rfl rfl (hn _ _ _ h H locs la hl (List.forall_mem_cons.mpr ⟨trivial, List.forall_mem_cons.mpr ⟨(List.forall_mem_cons.mp (List.forall_mem_cons.mp hs).2).1, hs⟩⟩) hE hS hL)
  · exact h.elim
def oPop : OP := fun _ _ nx _ ls st m => match st with
  | .int _ :: r => nx ls r m
  | _ => False
theorem okPop (hd : decode μ.2.1 pc = .ok (.pop, 1)) : OpOk μ 1 pc oPop := by
  intro E P p l e R s mid args below meth c dC dI dA ad b A C0 S0 Qf hC hR nx jp ls st m hn hj h H locs la hl hs hE hS hL
  unfold oPop at h
  split at h
  · exact lv_pop hC.1 hC.2.1 hd rfl (hn _ _ _ h H locs la hl (List.forall_mem_cons.mp hs).2 hE hS hL)
  · exact h.elim
def oPop2 : OP := fun _ _ nx _ ls st m => match st with
  | .long _ :: r => nx ls r m
  | _ => False
theorem okPop2 (hd : decode μ.2.1 pc = .ok (.pop2, 1)) : OpOk μ 1 pc oPop2 := by
  intro E P p l e R s mid args below meth c dC dI dA ad b A C0 S0 Qf hC hR nx jp ls st m hn hj h H locs la hl hs hE hS hL
  unfold oPop2 at h
  split at h
  · exact lv_pop2_2 hC.1 hC.2.1 hd rfl (hn _ _ _ h H locs la hl (List.forall_mem_cons.mp hs).2 hE hS hL)
  · exact h.elim
def oGoto (t : Nat) : OP := fun _ _ _ jp ls st m => jp t ls st m
theorem okGoto {off : Int} {t : Nat} (hd : decode μ.2.1 pc = .ok (.goto off, 3)) (ht : (pc : Int) + off = (t : Int)) : OpOk μ 3 pc (oGoto t) := by
  intro E P p l e R s mid args below meth c dC dI dA ad b A C0 S0 Qf hC hR nx jp ls st m hn hj h H locs la hl hs hE hS hL
  exact lv_goto hC.1 hC.2.1 hd ht (hj _ _ _ _ h H locs la hl hs hE hS hL)
def oIfEq (t : Nat) : OP := fun _ _ nx jp ls st m => match st with
  | .int x :: r => (x = 0 → jp t ls r m) ∧ (¬ (x = 0) → nx ls r m)
  | _ => False
theorem okIfEq {off : Int} {t : Nat} (hd : decode μ.2.1 pc = .ok (.ifCond .eq off, 3)) (ht : (pc : Int) + off = (t : Int)) : OpOk μ 3 pc (oIfEq t) := by
  intro E P p l e R s mid args below meth c dC dI dA ad b A C0 S0 Qf hC hR nx jp ls st m hn hj h H locs la hl hs hE hS hL
  unfold oIfEq at h
  split at h
  · exact lv_if_eq hC.1 hC.2.1 hd ht (fun z => hj _ _ _ _ (h.1 z) H locs la hl (List.forall_mem_cons.mp hs).2 hE hS hL) (fun z => hn _ _ _ (h.2 z) H locs la hl (List.forall_mem_cons.mp hs).2 hE hS hL)
  · exact h.elim
def oCmEq (t : Nat) : OP := fun _ _ nx jp ls st m => match st with
  | .int y :: .int x :: r => (x = y → jp t ls r m) ∧ (¬ (x = y) → nx ls r m)
  | _ => False
theorem okCmEq {off : Int} {t : Nat} (hd : decode μ.2.1 pc = .ok (.if_icmp .eq off, 3)) (ht : (pc : Int) + off = (t : Int)) : OpOk μ 3 pc (oCmEq t) := by
  intro E P p l e R s mid args below meth c dC dI dA ad b A C0 S0 Qf hC hR nx jp ls st m hn hj h H locs la hl hs hE hS hL
  unfold oCmEq at h
  split at h
  · exact lv_icmp_eq hC.1 hC.2.1 hd ht (fun z => hj _ _ _ _ (h.1 z) H locs la hl (List.forall_mem_cons.mp (List.forall_mem_cons.mp hs).2).2 hE hS hL) (fun z => hn _ _ _ (h.2 z) H locs la hl (List.forall_mem_cons.mp (List.forall_mem_cons.mp hs).2).2 hE hS hL)
  · exact h.elim
def oIfNe (t : Nat) : OP := fun _ _ nx jp ls st m => match st with
  | .int x :: r => (¬ x = 0 → jp t ls r m) ∧ (x = 0 → nx ls r m)
  | _ => False
theorem okIfNe {off : Int} {t : Nat} (hd : decode μ.2.1 pc = .ok (.ifCond .ne off, 3)) (ht : (pc : Int) + off = (t : Int)) : OpOk μ 3 pc (oIfNe t) := by
  intro E P p l e R s mid args below meth c dC dI dA ad b A C0 S0 Qf hC hR nx jp ls st m hn hj h H locs la hl hs hE hS hL
  unfold oIfNe at h
  split at h
  · exact lv_if_ne hC.1 hC.2.1 hd ht (fun z => hj _ _ _ _ (h.1 z) H locs la hl (List.forall_mem_cons.mp hs).2 hE hS hL) (fun z => hn _ _ _ (h.2 z) H locs la hl (List.forall_mem_cons.mp hs).2 hE hS hL)
  · exact h.elim
def oCmNe (t : Nat) : OP := fun _ _ nx jp ls st m => match st with
  | .int y :: .int x :: r => (¬ x = y → jp t ls r m) ∧ (x = y → nx ls r m)
  | _ => False
theorem okCmNe {off : Int} {t : Nat} (hd : decode μ.2.1 pc = .ok (.if_icmp .ne off, 3)) (ht : (pc : Int) + off = (t : Int)) : OpOk μ 3 pc (oCmNe t) := by
  intro E P p l e R s mid args below meth c dC dI dA ad b A C0 S0 Qf hC hR nx jp ls st m hn hj h H locs la hl hs hE hS hL
  unfold oCmNe at h
  split at h
  · exact lv_icmp_ne hC.1 hC.2.1 hd ht (fun z => hj _ _ _ _ (h.1 z) H locs la hl (List.forall_mem_cons.mp (List.forall_mem_cons.mp hs).2).2 hE hS hL) (fun z => hn _ _ _ (h.2 z) H locs la hl (List.forall_mem_cons.mp (List.forall_mem_cons.mp hs).2).2 hE hS hL)
  · exact h.elim
def oIfLt (t : Nat) : OP := fun _ _ nx jp ls st m => match st with
  | .int x :: r => (x < 0 → jp t ls r m) ∧ (¬ (x < 0) → nx ls r m)
  | _ => False
theorem okIfLt {off : Int} {t : Nat} (hd : decode μ.2.1 pc = .ok (.ifCond .lt off, 3)) (ht : (pc : Int) + off = (t : Int)) : OpOk μ 3 pc (oIfLt t) := by
  intro E P p l e R s mid args below meth c dC dI dA ad b A C0 S0 Qf hC hR nx jp ls st m hn hj h H locs la hl hs hE hS hL
  unfold oIfLt at h
  split at h
  · exact lv_if_lt hC.1 hC.2.1 hd ht (fun z => hj _ _ _ _ (h.1 z) H locs la hl (List.forall_mem_cons.mp hs).2 hE hS hL) (fun z => hn _ _ _ (h.2 z) H locs la hl (List.forall_mem_cons.mp hs).2 hE hS hL)
  · exact h.elim
def oCmLt (t : Nat) : OP := fun _ _ nx jp ls st m => match st with
  | .int y :: .int x :: r => (x < y → jp t ls r m) ∧ (¬ (x < y) → nx ls r m)
  | _ => False
theorem okCmLt {off : Int} {t : Nat} (hd : decode μ.2.1 pc = .ok (.if_icmp .lt off, 3)) (ht : (pc : Int) + off = (t : Int)) : OpOk μ 3 pc (oCmLt t) := by
  intro E P p l e R s mid args below meth c dC dI dA ad b A C0 S0 Qf hC hR nx jp ls st m hn hj h H locs la hl hs hE hS hL
  unfold oCmLt at h
  split at h
  · exact lv_icmp_lt hC.1 hC.2.1 hd ht (fun z => hj _ _ _ _ (h.1 z) H locs la hl (List.forall_mem_cons.mp (List.forall_mem_cons.mp hs).2).2 hE hS hL) (fun z => hn _ _ _ (h.2 z) H locs la hl (List.forall_mem_cons.mp (List.forall_mem_cons.mp hs).2).2 hE hS hL)
  · exact h.elim
def oIfGe (t : Nat) : OP := fun _ _ nx jp ls st m => match st with
  | .int x :: r => (0 ≤ x → jp t ls r m) ∧ (¬ (0 ≤ x) → nx ls r m)
  | _ => False
theorem okIfGe {off : Int} {t : Nat} (hd : decode μ.2.1 pc = .ok (.ifCond .ge off, 3)) (ht : (pc : Int) + off = (t : Int)) : OpOk μ 3 pc (oIfGe t) := by
  intro E P p l e R s mid args below meth c dC dI dA ad b A C0 S0 Qf hC hR nx jp ls st m hn hj h H locs la hl hs hE hS hL
  unfold oIfGe at h
  split at h
  · exact lv_if_ge hC.1 hC.2.1 hd ht (fun z => hj _ _ _ _ (h.1 z) H locs la hl (List.forall_mem_cons.mp hs).2 hE hS hL) (fun z => hn _ _ _ (h.2 z) H locs la hl (List.forall_mem_cons.mp hs).2 hE hS hL)
  · exact h.elim
def oCmGe (t : Nat) : OP := fun _ _ nx jp ls st m => match st with
  | .int y :: .int x :: r => (y ≤ x → jp t ls r m) ∧ (¬ (y ≤ x) → nx ls r m)
  | _ => False
theorem okCmGe {off : Int} {t : Nat} (hd : decode μ.2.1 pc = .ok (.if_icmp .ge off, 3)) (ht : (pc : Int) + off = (t : Int)) : OpOk μ 3 pc (oCmGe t) := by
  intro E P p l e R s mid args below meth c dC dI dA ad b A C0 S0 Qf hC hR nx jp ls st m hn hj h H locs la hl hs hE hS hL
  unfold oCmGe at h
  split at h
  · exact lv_icmp_ge hC.1 hC.2.1 hd ht (fun z => hj _ _ _ _ (h.1 z) H locs la hl (List.forall_mem_cons.mp (List.forall_mem_cons.mp hs).2).2 hE hS hL) (fun z => hn _ _ _ (h.2 z) H locs la hl (List.forall_mem_cons.mp (List.forall_mem_cons.mp hs).2).2 hE hS hL)
  · exact h.elim
def oIfGt (t : Nat) : OP := fun _ _ nx jp ls st m => match st with
  | .int x :: r => (0 < x → jp t ls r m) ∧ (¬ (0 < x) → nx ls r m)
  | _ => False
theorem okIfGt {off : Int} {t : Nat} (hd : decode μ.2.1 pc = .ok (.ifCond .gt off, 3)) (ht : (pc : Int) + off = (t : Int)) : OpOk μ 3 pc (oIfGt t) := by
  intro E P p l e R s mid args below meth c dC dI dA ad b A C0 S0 Qf hC hR nx jp ls st m hn hj h H locs la hl hs hE hS hL
  unfold oIfGt at h
  split at h
  · exact lv_if_gt hC.1 hC.2.1 hd ht (fun z => hj _ _ _ _ (h.1 z) H locs la hl (List.forall_mem_cons.mp hs).2 hE hS hL) (fun z => hn _ _ _ (h.2 z) H locs la hl (List.forall_mem_cons.mp hs).2 hE hS hL)
  · exact h.elim
def oCmGt (t : Nat) : OP := fun _ _ nx jp ls st m => match st with
  | .int y :: .int x :: r => (y < x → jp t ls r m) ∧ (¬ (y < x) → nx ls r m)
  | _ => False
theorem okCmGt {off : Int} {t : Nat} (hd : decode μ.2.1 pc = .ok (.if_icmp .gt off, 3)) (ht : (pc : Int) + off = (t : Int)) : OpOk μ 3 pc (oCmGt t) := by
  intro E P p l e R s mid args below meth c dC dI dA ad b A C0 S0 Qf hC hR nx jp ls st m hn hj h H locs la hl hs hE hS hL
  unfold oCmGt at h
  split at h
  · exact lv_icmp_gt hC.1 hC.2.1 hd ht (fun z => hj _ _ _ _ (h.1 z) H locs la hl (List.forall_mem_cons.mp (List.forall_mem_cons.mp hs).2).2 hE hS hL) (fun z => hn _ _ _ (h.2 z) H locs la hl (List.forall_mem_cons.mp (List.forall_mem_cons.mp hs).2).2 hE hS hL)
  · exact h.elim
def oIfLe (t : Nat) : OP := fun _ _ nx jp ls st m => match st with
  | .int x :: r => (x ≤ 0 → jp t ls r m) ∧ (¬ (x ≤ 0) → nx ls r m)
  | _ => False
theorem okIfLe {off : Int} {t : Nat} (hd : decode μ.2.1 pc = .ok (.ifCond .le off, 3)) (ht : (pc : Int) + off = (t : Int)) : OpOk μ 3 pc (oIfLe t) := by
  intro E P p l e R s mid args below meth c dC dI dA ad b A C0 S0 Qf hC hR nx jp ls st m hn hj h H locs la hl hs hE hS hL
  unfold oIfLe at h
  split at h
  · exact lv_if_le hC.1 hC.2.1 hd ht (fun z => hj _ _ _ _ (h.1 z) H locs la hl (List.forall_mem_cons.mp hs).2 hE hS hL) (fun z => hn _ _ _ (h.2 z) H locs la hl (List.forall_mem_cons.mp hs).2 hE hS hL)
  · exact h.elim
def oCmLe (t : Nat) : OP := fun _ _ nx jp ls st m => match st with
  | .int y :: .int x :: r => (x ≤ y → jp t ls r m) ∧ (¬ (x ≤ y) → nx ls r m)
  | _ => False
theorem okCmLe {off : Int} {t : Nat} (hd : decode μ.2.1 pc = .ok (.if_icmp .le off, 3)) (ht : (pc : Int) + off = (t : Int)) : OpOk μ 3 pc (oCmLe t) := by
  intro E P p l e R s mid args below meth c dC dI dA ad b A C0 S0 Qf hC hR nx jp ls st m hn hj h H locs la hl hs hE hS hL
  unfold oCmLe at h
  split at h
  · exact lv_icmp_le hC.1 hC.2.1 hd ht (fun z => hj _ _ _ _ (h.1 z) H locs la hl (List.forall_mem_cons.mp (List.forall_mem_cons.mp hs).2).2 hE hS hL) (fun z => hn _ _ _ (h.2 z) H locs la hl (List.forall_mem_cons.mp (List.forall_mem_cons.mp hs).2).2 hE hS hL)
  · exact h.elim
def swP (x : Int32) (jp : Nat → Prop) (dflt : Nat) : List (Int32 × Nat) → Prop
  | [] => jp dflt
  | (k, t) :: r => (x = k → jp t) ∧ (¬ x = k → swP x jp dflt r)
def swS (x : Int32) (dflt : Nat) : List (Int32 × Nat) → Nat
  | [] => dflt
  | (k, t) :: r => if x = k then t else swS x dflt r
theorem swP_go {x : Int32} {jp : Nat → Prop} {dflt : Nat} : ∀ {cs : List (Int32 × Nat)}, swP x jp dflt cs → jp (swS x dflt cs)
  | [], h => h
  | (k, t) :: r, h => by
    by_cases hx : x = k
    · rw [swS, if_pos hx]; exact h.1 hx
    · rw [swS, if_neg hx]; exact swP_go (h.2 hx)
def oSw (cs : List (Int32 × Nat)) (dflt : Nat) : OP := fun _ _ _ jp ls st m => match st with
  | .int x :: r => swP x (fun t => jp t ls r m) dflt cs
  | _ => False
theorem swS_out {x : Int32} {dflt : Nat} : ∀ {cs : List (Int32 × Nat)}, (∀ q ∈ cs, x ≠ q.1) → swS x dflt cs = dflt
  | [], _ => rfl
  | (k, t) :: r, h => by
    rw [swS, if_neg (h (k, t) List.mem_cons_self)]
    exact swS_out (fun q hq => h q (List.mem_cons_of_mem _ hq))
theorem okTsw {dO lo hi : Int} {offs : Array Int} {len : Nat} {cs : List (Int32 × Nat)} {dflt : Nat} (hd : decode μ.2.1 pc = .ok (.tableswitch dO lo hi offs, len))
    (h0 : (pc : Int) + dO = (dflt : Int)) (h1 : ∀ q ∈ cs, lo ≤ q.1.toInt ∧ q.1.toInt ≤ hi) (h2 : hi = lo + (offs.size : Int) - 1 ∧ -2147483648 ≤ lo ∧ hi ≤ 2147483647)
    (h3 : ∀ j, j < offs.size → ∃ off, offs[j]? = some off ∧ (pc : Int) + off = (swS (Int32.ofInt (lo + (j : Int))) dflt cs : Int)) : OpOk μ len pc (oSw cs dflt) := by
  intro E P p l e R s mid args below meth c dC dI dA ad b A C0 S0 Qf hC hR nx jp ls st m hn hj h H locs la hl hs hE hS hL
  unfold oSw at h
  split at h
  · rename_i x r
    have h' := swP_go h
    have hs' := (List.forall_mem_cons.mp hs).2
    by_cases hr : x.toInt < lo ∨ hi < x.toInt
    · rw [swS_out (fun q hq e => by have := h1 q hq; rw [← e] at this; omega)] at h'
      exact lv_tableOut hC.1 hC.2.1 hd hr h0 (hj _ _ _ _ h' H locs la hl hs' hE hS hL)
    · have hb1 : ¬ x.toInt < lo := fun q => hr (Or.inl q)
      have hb2 : ¬ hi < x.toInt := fun q => hr (Or.inr q)
      obtain ⟨off, e1, e2⟩ := h3 (x.toInt - lo).toNat (by omega)
      have e3 : Int32.ofInt (lo + ((x.toInt - lo).toNat : Int)) = x := by
        rw [show lo + ((x.toInt - lo).toNat : Int) = x.toInt by omega]
        exact Int32.ofInt_toInt x
      rw [e3] at e2
      exact lv_tableIn hC.1 hC.2.1 hd hb1 hb2 e1 e2 (hj _ _ _ _ h' H locs la hl hs' hE hS hL)
  · exact h.elim
theorem okLsw_aux {x : Int32} {dO : Int} {dflt : Nat} (h0 : (pc : Int) + dO = (dflt : Int)) : ∀ (ps : List (Int × Int)) (cs : List (Int32 × Nat)), cs.map (fun q => (q.1.toInt, (q.2 : Int))) = ps.map (fun q => (q.1, (pc : Int) + q.2)) →
    (pc : Int) + Op.lookupswitch.offset ps dO x.toInt = (swS x dflt cs : Int)
  | [], [], _ => h0
  | [], _ :: _, h => by simp at h
  | _ :: _, [], h => by simp at h
  | (a, o) :: ps, (k, t) :: cs, h => by
    simp only [List.map_cons, List.cons.injEq, Prod.mk.injEq] at h
    obtain ⟨⟨h1, h2⟩, h3⟩ := h
    by_cases hx : x = k
    · rw [Op.lookupswitch.offset_cons, if_pos (by rw [hx]; exact h1.symm), swS, if_pos hx, h2]
    · rw [lv_osw hx h1, swS, if_neg hx]
      exact okLsw_aux h0 ps cs h3
theorem okLsw {dO : Int} {ps : Array (Int × Int)} {len : Nat} {cs : List (Int32 × Nat)} {dflt : Nat} (hd : decode μ.2.1 pc = .ok (.lookupswitch dO ps, len)) (h0 : (pc : Int) + dO = (dflt : Int))
    (hp : (ps.toList.zip (ps.toList.drop 1)).all (fun (a, next) => a.1 < next.1) = true) (hm : cs.map (fun q => (q.1.toInt, (q.2 : Int))) = ps.toList.map (fun q => (q.1, (pc : Int) + q.2))) : OpOk μ len pc (oSw cs dflt) := by
  intro E P p l e R s mid args below meth c dC dI dA ad b A C0 S0 Qf hC hR nx jp ls st m hn hj h H locs la hl hs hE hS hL
  unfold oSw at h
  split at h
  · rename_i x r
    exact lv_lookup hC.1 hC.2.1 hd hp rfl (okLsw_aux h0 _ _ hm) (hj _ _ _ _ (swP_go h) H locs la hl (List.forall_mem_cons.mp hs).2 hE hS hL)
  · exact h.elim
end OpsB
