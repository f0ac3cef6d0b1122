/-! the operations, one by one -/
section Ar
variable {D : KK} {σ : Nat → Int} {C : CC} {x y : AV} {i j : Int32}
def top32 : AV := (0, i32lo, i32hi)
def fAdd (C : CC) (x y : AV) : AV := if i32lo ≤ (rng C x).1 + (rng C y).1 ∧ (rng C x).2 + (rng C y).2 ≤ i32hi then (if (rng C y).1 = (rng C y).2 ∧ x.1 = 1 then (1, x.2.1, x.2.2 + (rng C y).1) else if (rng C x).1 = (rng C x).2 ∧ y.1 = 1 then (1, y.2.1, y.2.2 + (rng C x).1) else (0, (rng C x).1 + (rng C y).1, (rng C x).2 + (rng C y).2)) else top32
theorem fAdd_ok (hC : okC σ C) (hx : isI x = true) (hy : isI y = true) (gx : gam σ x (.int i)) (gy : gam σ y (.int j)) : gam σ (fAdd C x y) (.int (i + j)) := by
  obtain ⟨x1, x2⟩ := rng_ok hC hx gx
  obtain ⟨y1, y2⟩ := rng_ok hC hy gy
  unfold fAdd
  split
  · rename_i h
    have e : (i + j).toInt = i.toInt + j.toInt := tI_add (by omega) (by omega)
    split
    · rename_i h2
      obtain ⟨t, a, b⟩ := x
      obtain rfl : t = 1 := h2.2
      obtain ⟨i2, e1, e2⟩ := gx
      cases e1
      refine ⟨_, rfl, ?_⟩
      simp only at e2 ⊢
      omega
    · split
      · rename_i h2
        obtain ⟨t, a, b⟩ := y
        obtain rfl : t = 1 := h2.2
        obtain ⟨i2, e1, e2⟩ := gy
        cases e1
        refine ⟨_, rfl, ?_⟩
        simp only at e2 ⊢
        omega
      · exact ⟨_, rfl, by simp only; omega, by simp only; omega⟩
  · exact gam_top _
def fSub (C : CC) (x y : AV) : AV := if i32lo ≤ (rng C x).1 - (rng C y).2 ∧ (rng C x).2 - (rng C y).1 ≤ i32hi then (if (rng C y).1 = (rng C y).2 ∧ x.1 = 1 then (1, x.2.1, x.2.2 - (rng C y).1) else (0, (rng C x).1 - (rng C y).2, (rng C x).2 - (rng C y).1)) else top32
theorem fSub_ok (hC : okC σ C) (hx : isI x = true) (hy : isI y = true) (gx : gam σ x (.int i)) (gy : gam σ y (.int j)) : gam σ (fSub C x y) (.int (i - j)) := by
  obtain ⟨x1, x2⟩ := rng_ok hC hx gx
  obtain ⟨y1, y2⟩ := rng_ok hC hy gy
  unfold fSub
  split
  · rename_i h
    have e : (i - j).toInt = i.toInt - j.toInt := tI_sub (by omega) (by omega)
    split
    · rename_i h2
      obtain ⟨t, a, b⟩ := x
      obtain rfl : t = 1 := h2.2
      obtain ⟨i2, e1, e2⟩ := gx
      cases e1
      refine ⟨_, rfl, ?_⟩
      simp only at e2 ⊢
      omega
    · exact ⟨_, rfl, by simp only; omega, by simp only; omega⟩
  · exact gam_top _
def fMul (C : CC) (x y : AV) : AV := if (0 ≤ (rng C x).1 ∧ 0 ≤ (rng C y).1) ∧ (rng C x).2 * (rng C y).2 ≤ i32hi then (0, (rng C x).1 * (rng C y).1, (rng C x).2 * (rng C y).2) else top32
theorem fMul_ok (hC : okC σ C) (hx : isI x = true) (hy : isI y = true) (gx : gam σ x (.int i)) (gy : gam σ y (.int j)) : gam σ (fMul C x y) (.int (i * j)) := by
  obtain ⟨x1, x2⟩ := rng_ok hC hx gx
  obtain ⟨y1, y2⟩ := rng_ok hC hy gy
  unfold fMul
  split
  · rename_i h
    have l1 : (rng C x).1 * (rng C y).1 ≤ i.toInt * j.toInt := Int.mul_le_mul x1 y1 h.1.2 (by omega)
    have l2 : i.toInt * j.toInt ≤ (rng C x).2 * (rng C y).2 := Int.mul_le_mul x2 y2 (by omega) (by omega)
    have l0 : 0 ≤ (rng C x).1 * (rng C y).1 := Int.mul_nonneg h.1.1 h.1.2
    have e : (i * j).toInt = i.toInt * j.toInt := tI_mul (by unfold i32lo; omega) (by omega)
    exact ⟨_, rfl, by rw [e]; exact l1, by rw [e]; exact l2⟩
  · exact gam_top _
theorem and_rng {i j : Int32} (hj : 0 ≤ j.toInt) : 0 ≤ (i &&& j).toInt ∧ (i &&& j).toInt ≤ j.toInt := by
  have e : (i &&& j).toInt = (i.toBitVec &&& j.toBitVec).toInt := by rw [← Int32.toInt_toBitVec, Int32.toBitVec_and]
  have m1 : j.toBitVec.msb = false := by
    rw [BitVec.msb_eq_toInt, Int32.toInt_toBitVec]
    simp only [decide_eq_false_iff_not]
    omega
  have m2 : (i.toBitVec &&& j.toBitVec).msb = false := by rw [BitVec.msb_and, m1, Bool.and_false]
  rw [e, ← Int32.toInt_toBitVec j, BitVec.toInt_eq_toNat_of_msb m2, BitVec.toInt_eq_toNat_of_msb m1, BitVec.toNat_and]
  have := Nat.and_le_right (n := i.toBitVec.toNat) (m := j.toBitVec.toNat)
  omega
theorem and_comm32 (i j : Int32) : i &&& j = j &&& i := Int32.and_comm i j
def fAnd (C : CC) (x y : AV) : AV := if 0 ≤ (rng C y).1 then (0, 0, (rng C y).2) else if 0 ≤ (rng C x).1 then (0, 0, (rng C x).2) else top32
theorem fAnd_ok (hC : okC σ C) (hx : isI x = true) (hy : isI y = true) (gx : gam σ x (.int i)) (gy : gam σ y (.int j)) : gam σ (fAnd C x y) (.int (i &&& j)) := by
  obtain ⟨x1, x2⟩ := rng_ok hC hx gx
  obtain ⟨y1, y2⟩ := rng_ok hC hy gy
  unfold fAnd
  split
  · have := and_rng (i := i) (j := j) (by omega)
    exact ⟨_, rfl, this.1, by simp only; omega⟩
  · split
    · have := and_rng (i := j) (j := i) (by omega)
      rw [and_comm32 j i] at this
      exact ⟨_, rfl, this.1, by simp only; omega⟩
    · exact gam_top _
theorem shr_rng {i j : Int32} (hi : 0 ≤ i.toInt) : 0 ≤ (i >>> (j &&& 31)).toInt ∧ (i >>> (j &&& 31)).toInt ≤ i.toInt := by
  have e : ∃ n : Nat, (i >>> (j &&& 31)).toInt = i.toInt >>> n := by
    rw [← Int32.toInt_toBitVec, Int32.toBitVec_shiftRight, BitVec.sshiftRight_eq', BitVec.toInt_sshiftRight, Int32.toInt_toBitVec]
    exact ⟨_, rfl⟩
  obtain ⟨n, e⟩ := e
  rw [e, Int.shiftRight_eq_div_pow]
  exact ⟨Int.ediv_nonneg hi (by exact_mod_cast Nat.zero_le _), Int.ediv_le_self _ hi⟩
def fShr (C : CC) (x _ : AV) : AV := if 0 ≤ (rng C x).1 then (0, 0, (rng C x).2) else top32
theorem fShr_ok (hC : okC σ C) (hx : isI x = true) (gx : gam σ x (.int i)) : gam σ (fShr C x y) (.int (i >>> (j &&& 31))) := by
  obtain ⟨x1, x2⟩ := rng_ok hC hx gx
  unfold fShr
  split
  · have := shr_rng (i := i) (j := j) (by omega)
    exact ⟨_, rfl, this.1, by simp only; omega⟩
  · exact gam_top _
def fTop (_ : CC) (_ _ : AV) : AV := top32
def fTop1 (_ : CC) (_ : AV) : AV := top32
theorem div_rng {i j : Int32} (hi : 0 ≤ i.toInt) (hj : 0 < j.toInt) : (i / j).toInt = i.toInt / j.toInt := by
  rw [Int32.toInt_div, Int.tdiv_eq_ediv_of_nonneg hi]
  have h1 : i.toInt / j.toInt ≤ i.toInt := Int.ediv_le_self _ hi
  have h2 : 0 ≤ i.toInt / j.toInt := Int.ediv_nonneg hi (by omega)
  have h3 := tI_hi i
  exact bm_id (by unfold i32lo; omega) (by omega)
def fDiv (C : CC) (x y : AV) : AV := if (rng C y).1 = (rng C y).2 ∧ 0 < (rng C y).1 ∧ 0 ≤ (rng C x).1 then (0, (rng C x).1 / (rng C y).1, (rng C x).2 / (rng C y).1) else top32
theorem fDiv_ok (hC : okC σ C) (hx : isI x = true) (hy : isI y = true) (gx : gam σ x (.int i)) (gy : gam σ y (.int j)) : gam σ (fDiv C x y) (.int (i / j)) := by
  obtain ⟨x1, x2⟩ := rng_ok hC hx gx
  obtain ⟨y1, y2⟩ := rng_ok hC hy gy
  unfold fDiv
  split
  · rename_i h
    have ej : j.toInt = (rng C y).1 := by omega
    have e := div_rng (i := i) (j := j) (by omega) (by omega)
    refine ⟨_, rfl, ?_, ?_⟩
    · rw [e, ej]; exact Int.ediv_le_ediv (by omega) x1
    · rw [e, ej]; exact Int.ediv_le_ediv (by omega) x2
  · exact gam_top _
def fRem (C : CC) (x y : AV) : AV := if (rng C y).1 = (rng C y).2 ∧ 0 < (rng C y).1 ∧ 0 ≤ (rng C x).1 then (0, 0, (rng C y).1 - 1) else if 0 ≤ (rng C x).1 ∧ 0 < (rng C y).1 then (0, 0, (rng C y).2 - 1) else top32
theorem rem_rng {i j : Int32} (hi : 0 ≤ i.toInt) (hj : 0 < j.toInt) : (i - i / j * j).toInt = i.toInt % j.toInt := by
  have e := div_rng hi hj
  have h1 : 0 ≤ i.toInt / j.toInt * j.toInt := Int.mul_nonneg (Int.ediv_nonneg hi (by omega)) (by omega)
  have h2 : i.toInt / j.toInt * j.toInt ≤ i.toInt := Int.ediv_mul_le _ (by omega)
  have h3 := tI_hi i
  have em : (i / j * j).toInt = i.toInt / j.toInt * j.toInt := by
    rw [← e] at h1 h2 ⊢
    exact tI_mul (by unfold i32lo; omega) (by omega)
  rw [tI_sub (by rw [em]; unfold i32lo; omega) (by rw [em]; omega), em, Int.emod_def, Int.mul_comm]
theorem fRem_ok (hC : okC σ C) (hx : isI x = true) (hy : isI y = true) (gx : gam σ x (.int i)) (gy : gam σ y (.int j)) : gam σ (fRem C x y) (.int (i - i / j * j)) := by
  obtain ⟨x1, x2⟩ := rng_ok hC hx gx
  obtain ⟨y1, y2⟩ := rng_ok hC hy gy
  unfold fRem
  split
  · rename_i h
    have e := rem_rng (i := i) (j := j) (by omega) (by omega)
    have h1 := Int.emod_nonneg i.toInt (b := j.toInt) (by omega)
    have h2 := Int.emod_lt_of_pos i.toInt (b := j.toInt) (by omega)
    exact ⟨_, rfl, by simp only; omega, by simp only; omega⟩
  · split
    · rename_i h
      have e := rem_rng (i := i) (j := j) (by omega) (by omega)
      have h1 := Int.emod_nonneg i.toInt (b := j.toInt) (by omega)
      have h2 := Int.emod_lt_of_pos i.toInt (b := j.toInt) (by omega)
      exact ⟨_, rfl, by simp only; omega, by simp only; omega⟩
    · exact gam_top _
def fNeg (C : CC) (x : AV) : AV := nrmI (- (rng C x).2, - (rng C x).1)
theorem fNeg_ok (hC : okC σ C) (hx : isI x = true) (gx : gam σ x (.int i)) : gam σ (fNeg C x) (.int (0 - i)) := by
  obtain ⟨x1, x2⟩ := rng_ok hC hx gx
  refine nrmI_ok (fun h1 h2 => ?_)
  simp only at h1 h2 ⊢
  have e := tI_neg (x := i) (by omega) (by omega)
  omega
theorem sIadd : Snd D oIadd (aBin fAdd) := sBin (f := fun i j => i + j) (fun _ _ _ _ _ _ _ _ _ h => h) (fun _ _ _ _ _ _ h1 h2 h3 h4 h5 => fAdd_ok h1 h2 h3 h4 h5)
theorem sIsub : Snd D oIsub (aBin fSub) := sBin (f := fun i j => i - j) (fun _ _ _ _ _ _ _ _ _ h => h) (fun _ _ _ _ _ _ h1 h2 h3 h4 h5 => fSub_ok h1 h2 h3 h4 h5)
theorem sImul : Snd D oImul (aBin fMul) := sBin (f := fun i j => i * j) (fun _ _ _ _ _ _ _ _ _ h => h) (fun _ _ _ _ _ _ h1 h2 h3 h4 h5 => fMul_ok h1 h2 h3 h4 h5)
theorem sIand : Snd D oIand (aBin fAnd) := sBin (f := fun i j => i &&& j) (fun _ _ _ _ _ _ _ _ _ h => h) (fun _ _ _ _ _ _ h1 h2 h3 h4 h5 => fAnd_ok h1 h2 h3 h4 h5)
theorem sIor : Snd D oIor (aBin fTop) := sBin (f := fun i j => i ||| j) (fun _ _ _ _ _ _ _ _ _ h => h) (fun _ _ _ _ _ _ _ _ _ _ _ => gam_top _)
theorem sIxor : Snd D oIxor (aBin fTop) := sBin (f := fun i j => i ^^^ j) (fun _ _ _ _ _ _ _ _ _ h => h) (fun _ _ _ _ _ _ _ _ _ _ _ => gam_top _)
theorem sIshl : Snd D oIshl (aBin fTop) := sBin (f := fun i j => i <<< (j &&& 31)) (fun _ _ _ _ _ _ _ _ _ h => h) (fun _ _ _ _ _ _ _ _ _ _ _ => gam_top _)
theorem sIshr : Snd D oIshr (aBin fShr) := sBin (f := fun i j => i >>> (j &&& 31)) (fun _ _ _ _ _ _ _ _ _ h => h) (fun _ _ _ _ _ _ h1 h2 _ h4 _ => fShr_ok h1 h2 h4)
theorem sIushr : Snd D oIushr (aBin fTop) := sBin (f := fun i j => (i.toUInt32 >>> (j.toUInt32 &&& Int32.toUInt32 31)).toInt32) (fun _ _ _ _ _ _ _ _ _ h => h) (fun _ _ _ _ _ _ _ _ _ _ _ => gam_top _)
theorem sIneg : Snd D oIneg (aUn fNeg) := sUn (f := fun i => .int (0 - i)) (fun _ _ _ _ _ _ _ _ h => h) (fun _ _ _ _ h1 h2 h3 => fNeg_ok h1 h2 h3)
theorem sI2l : Snd D oI2l (aUn (fun C x => (6, rng C x))) := sUn (f := fun i => .long i.toInt64) (fun _ _ _ _ _ _ _ _ h => h) (fun _ C x i h1 h2 h3 => by
  have h := rng_ok h1 h2 h3
  exact ⟨_, rfl, by rw [Int32.toInt_toInt64]; exact h.1, by rw [Int32.toInt_toInt64]; exact h.2⟩)
theorem sI2b : Snd D oI2b (aUn (fun _ _ => (0, -128, 127))) := sUn (f := fun i => .int i.toInt8.toInt32) (fun _ _ _ _ _ _ _ _ h => h) (fun _ _ _ i _ _ _ => ⟨_, rfl, by
  rw [Int8.toInt_toInt32]; exact Int8.le_toInt _, by
  rw [Int8.toInt_toInt32]; have := Int8.toInt_lt i.toInt8; simp only; omega⟩)
theorem sIfEq {t : Nat} : Snd D (oIfEq t) (aIf bEq bNe t) := sIf (R := fun i j => i = j) (N := fun i j => ¬ i = j) (fun _ _ _ _ _ _ _ _ h => h) rEq rNe
theorem sIfNe {t : Nat} : Snd D (oIfNe t) (aIf bNe bEq t) := sIf (R := fun i j => ¬ i = j) (N := fun i j => i = j) (fun _ _ _ _ _ _ _ _ h => h) rNe rEq
theorem sIfLt {t : Nat} : Snd D (oIfLt t) (aIf bLt (fun C x y => bLe C y x) t) := sIf (R := fun i j => i < j) (N := fun i j => ¬ i < j) (fun _ _ _ _ _ _ _ _ h => h) rLt rNlt
theorem sIfGe {t : Nat} : Snd D (oIfGe t) (aIf (fun C x y => bLe C y x) bLt t) := sIf (R := fun i j => j ≤ i) (N := fun i j => ¬ j ≤ i) (fun _ _ _ _ _ _ _ _ h => h) rGe rNge
theorem sIfGt {t : Nat} : Snd D (oIfGt t) (aIf (fun C x y => bLt C y x) bLe t) := sIf (R := fun i j => j < i) (N := fun i j => ¬ j < i) (fun _ _ _ _ _ _ _ _ h => h) rGt rNgt
theorem sIfLe {t : Nat} : Snd D (oIfLe t) (aIf bLe (fun C x y => bLt C y x) t) := sIf (R := fun i j => i ≤ j) (N := fun i j => ¬ i ≤ j) (fun _ _ _ _ _ _ _ _ h => h) rLe rNle
theorem sCmEq {t : Nat} : Snd D (oCmEq t) (aCm bEq bNe t) := sCm (R := fun i j => i = j) (N := fun i j => ¬ i = j) (fun _ _ _ _ _ _ _ _ _ h => h) rEq rNe
theorem sCmNe {t : Nat} : Snd D (oCmNe t) (aCm bNe bEq t) := sCm (R := fun i j => ¬ i = j) (N := fun i j => i = j) (fun _ _ _ _ _ _ _ _ _ h => h) rNe rEq
theorem sCmLt {t : Nat} : Snd D (oCmLt t) (aCm bLt (fun C x y => bLe C y x) t) := sCm (R := fun i j => i < j) (N := fun i j => ¬ i < j) (fun _ _ _ _ _ _ _ _ _ h => h) rLt rNlt
theorem sCmGe {t : Nat} : Snd D (oCmGe t) (aCm (fun C x y => bLe C y x) bLt t) := sCm (R := fun i j => j ≤ i) (N := fun i j => ¬ j ≤ i) (fun _ _ _ _ _ _ _ _ _ h => h) rGe rNge
theorem sCmGt {t : Nat} : Snd D (oCmGt t) (aCm (fun C x y => bLt C y x) bLe t) := sCm (R := fun i j => j < i) (N := fun i j => ¬ j < i) (fun _ _ _ _ _ _ _ _ _ h => h) rGt rNgt
theorem sCmLe {t : Nat} : Snd D (oCmLe t) (aCm bLe (fun C x y => bLt C y x) t) := sCm (R := fun i j => i ≤ j) (N := fun i j => ¬ i ≤ j) (fun _ _ _ _ _ _ _ _ _ h => h) rLe rNle
def aCmEqS (t : Nat) : AOP := fun nx jp _ A => a2 (fun y x r => gon (bEq A.2.2.1 x y) (fun C => jp t (A.1, r, C, A.2.2.2)) && (gon (bLt A.2.2.1 x y) (fun C => nx (A.1, r, C, A.2.2.2)) && gon (bLt A.2.2.1 y x) (fun C => nx (A.1, r, C, A.2.2.2)))) A.2.1
def aCmNeS (t : Nat) : AOP := fun nx jp _ A => a2 (fun y x r => gon (bEq A.2.2.1 x y) (fun C => nx (A.1, r, C, A.2.2.2)) && (gon (bLt A.2.2.1 x y) (fun C => jp t (A.1, r, C, A.2.2.2)) && gon (bLt A.2.2.1 y x) (fun C => jp t (A.1, r, C, A.2.2.2)))) A.2.1
def aIfEqS (t : Nat) : AOP := fun nx jp _ A => a1 (fun x r => gon (bEq A.2.2.1 x zAV) (fun C => jp t (A.1, r, C, A.2.2.2)) && (gon (bLt A.2.2.1 x zAV) (fun C => nx (A.1, r, C, A.2.2.2)) && gon (bLt A.2.2.1 zAV x) (fun C => nx (A.1, r, C, A.2.2.2)))) A.2.1
def aIfNeS (t : Nat) : AOP := fun nx jp _ A => a1 (fun x r => gon (bEq A.2.2.1 x zAV) (fun C => nx (A.1, r, C, A.2.2.2)) && (gon (bLt A.2.2.1 x zAV) (fun C => jp t (A.1, r, C, A.2.2.2)) && gon (bLt A.2.2.1 zAV x) (fun C => jp t (A.1, r, C, A.2.2.2)))) A.2.1
theorem ne_or {i j : Int32} (q : ¬ i = j) : i < j ∨ j < i := by
  rcases (show i.toInt < j.toInt ∨ j.toInt < i.toInt from by have : i.toInt ≠ j.toInt := fun e => q (Int32.toInt_inj.mp e); omega) with z | z
  · exact Or.inl (Int32.lt_iff_toInt_lt.mpr z)
  · exact Or.inr (Int32.lt_iff_toInt_lt.mpr z)
/-- one of three ways -/
theorem tri {Γ : GG} {σ : Nat → Int} {A : AS} {ls s : List Value} {m : MM} {r : List AV} {x y : AV} {i j : Int32} {kE kN : AS → Bool} (hR : okC σ A.2.2.1 ∧ FA σ A.1 ls ∧ FA σ r s ∧ okM σ A.2.2.2 m.1 ∧ Mok Γ.1 m ∧ m.2.2 = Γ.2.1 ∧ Fr Γ.2.2.1 Γ.2.2.2.1 m ∧ Γ.2.2.2.2.1 ≤ A.2.2.1.length ∧ ∀ i, i < Γ.2.2.2.2.1 → σ i = Γ.2.2.2.2.2 i)
    (ix : isI x = true) (iy : isI y = true) (gx : gam σ x (.int i)) (gy : gam σ y (.int j))
    (h : (gon (bEq A.2.2.1 x y) (fun C => kE (A.1, r, C, A.2.2.2)) && (gon (bLt A.2.2.1 x y) (fun C => kN (A.1, r, C, A.2.2.2)) && gon (bLt A.2.2.1 y x) (fun C => kN (A.1, r, C, A.2.2.2)))) = true) :
    (i = j → ∃ B, kE B = true ∧ Rl Γ B ls s m) ∧ (¬ i = j → ∃ B, kN B = true ∧ Rl Γ B ls s m) := by
  obtain ⟨hC, hL, hF, hM, hm1, hm2, hm3, hn0, hs0⟩ := hR
  rw [Bool.and_eq_true, Bool.and_eq_true] at h
  obtain ⟨k1, k2, k3⟩ := h
  refine ⟨fun q => ?_, fun q => ?_⟩
  · obtain ⟨C', e1, e2, e3⟩ := rEq σ _ x y i j hC ix iy gx gy q
    rw [e1] at k1
    exact ⟨_, k1, ⟨σ, e2, hL, hF, hM, hm1, hm2, hm3, by show _ ≤ C'.length; rw [e3]; exact hn0, hs0⟩⟩
  · rcases ne_or q with z | z
    · obtain ⟨C', e1, e2, e3⟩ := rLt σ _ x y i j hC ix iy gx gy z
      rw [e1] at k2
      exact ⟨_, k2, ⟨σ, e2, hL, hF, hM, hm1, hm2, hm3, by show _ ≤ C'.length; rw [e3]; exact hn0, hs0⟩⟩
    · obtain ⟨C', e1, e2, e3⟩ := rLt σ _ y x j i hC iy ix gy gx z
      rw [e1] at k3
      exact ⟨_, k3, ⟨σ, e2, hL, hF, hM, hm1, hm2, hm3, by show _ ≤ C'.length; rw [e3]; exact hn0, hs0⟩⟩
theorem sCmEqS {t : Nat} : Snd D (oCmEq t) (aCmEqS t) := by
  intro E P Γ hD nx jp nxA jpA rtA hn hj hr A ls st m h hR
  obtain ⟨σ, hC, hL, hS, hM, hm1, hm2, hm3, hn0, hs0⟩ := hR
  obtain ⟨y, x, r, j, i, s, rfl, iy, ix, gy, gx, hF, hk⟩ := a2_ok h hS
  obtain ⟨t1, t2⟩ := tri (Γ := Γ) (kE := jpA t) (kN := nxA) ⟨hC, hL, hF, hM, hm1, hm2, hm3, hn0, hs0⟩ ix iy gx gy hk
  refine ⟨fun q => ?_, fun q => ?_⟩
  · obtain ⟨B, b1, b2⟩ := t1 q
    exact hj _ _ _ _ _ b1 b2
  · obtain ⟨B, b1, b2⟩ := t2 q
    exact hn _ _ _ _ b1 b2
theorem sCmNeS {t : Nat} : Snd D (oCmNe t) (aCmNeS t) := by
  intro E P Γ hD nx jp nxA jpA rtA hn hj hr A ls st m h hR
  obtain ⟨σ, hC, hL, hS, hM, hm1, hm2, hm3, hn0, hs0⟩ := hR
  obtain ⟨y, x, r, j, i, s, rfl, iy, ix, gy, gx, hF, hk⟩ := a2_ok h hS
  obtain ⟨t1, t2⟩ := tri (Γ := Γ) (kE := nxA) (kN := jpA t) ⟨hC, hL, hF, hM, hm1, hm2, hm3, hn0, hs0⟩ ix iy gx gy hk
  refine ⟨fun q => ?_, fun q => ?_⟩
  · obtain ⟨B, b1, b2⟩ := t2 q
    exact hj _ _ _ _ _ b1 b2
  · obtain ⟨B, b1, b2⟩ := t1 q
    exact hn _ _ _ _ b1 b2
theorem sIfEqS {t : Nat} : Snd D (oIfEq t) (aIfEqS t) := by
  intro E P Γ hD nx jp nxA jpA rtA hn hj hr A ls st m h hR
  obtain ⟨σ, hC, hL, hS, hM, hm1, hm2, hm3, hn0, hs0⟩ := hR
  obtain ⟨x, r, i, s, rfl, ix, gx, hF, hk⟩ := a1_ok h hS
  obtain ⟨t1, t2⟩ := tri (Γ := Γ) (kE := jpA t) (kN := nxA) (j := 0) ⟨hC, hL, hF, hM, hm1, hm2, hm3, hn0, hs0⟩ ix rfl gx gam_z hk
  refine ⟨fun q => ?_, fun q => ?_⟩
  · obtain ⟨B, b1, b2⟩ := t1 q
    exact hj _ _ _ _ _ b1 b2
  · obtain ⟨B, b1, b2⟩ := t2 q
    exact hn _ _ _ _ b1 b2
theorem sIfNeS {t : Nat} : Snd D (oIfNe t) (aIfNeS t) := by
  intro E P Γ hD nx jp nxA jpA rtA hn hj hr A ls st m h hR
  obtain ⟨σ, hC, hL, hS, hM, hm1, hm2, hm3, hn0, hs0⟩ := hR
  obtain ⟨x, r, i, s, rfl, ix, gx, hF, hk⟩ := a1_ok h hS
  obtain ⟨t1, t2⟩ := tri (Γ := Γ) (kE := nxA) (kN := jpA t) (j := 0) ⟨hC, hL, hF, hM, hm1, hm2, hm3, hn0, hs0⟩ ix rfl gx gam_z hk
  refine ⟨fun q => ?_, fun q => ?_⟩
  · obtain ⟨B, b1, b2⟩ := t2 q
    exact hj _ _ _ _ _ b1 b2
  · obtain ⟨B, b1, b2⟩ := t1 q
    exact hn _ _ _ _ b1 b2
end Ar
