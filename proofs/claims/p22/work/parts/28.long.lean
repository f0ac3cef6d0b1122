/-! rows of longs whose range is known -/
theorem bm64 {z : Int} (h1 : -9223372036854775808 ≤ z) (h2 : z ≤ 9223372036854775807) : z.bmod (2 ^ 64) = z := Int.bmod_eq_of_le (by omega) (by omega)
theorem lI_hi (x : Int64) : x.toInt ≤ 9223372036854775807 := by
  have := Int64.toInt_lt x
  omega
theorem and_rng64 {i j : Int64} (hj : 0 ≤ j.toInt) : 0 ≤ (i &&& j).toInt ∧ (i &&& j).toInt ≤ j.toInt := by
  have e : (i &&& j).toInt = (i.toBitVec &&& j.toBitVec).toInt := by rw [← Int64.toInt_toBitVec, Int64.toBitVec_and]
  have m1 : j.toBitVec.msb = false := by
    rw [BitVec.msb_eq_toInt, Int64.toInt_toBitVec]
    simp only [decide_eq_false_iff_not]
    omega
  have m2 : (i.toBitVec &&& j.toBitVec).msb = false := by rw [BitVec.msb_and, m1, Bool.and_false]
  rw [e, ← Int64.toInt_toBitVec j, BitVec.toInt_eq_toNat_of_msb m2, BitVec.toInt_eq_toNat_of_msb m1, BitVec.toNat_and]
  have := Nat.and_le_right (n := i.toBitVec.toNat) (m := j.toBitVec.toNat)
  omega
theorem div_rng64 {i j : Int64} (hi : 0 ≤ i.toInt) (hj : 0 < j.toInt) : (i / j).toInt = i.toInt / j.toInt := by
  rw [Int64.toInt_div, Int.tdiv_eq_ediv_of_nonneg hi]
  have h1 : i.toInt / j.toInt ≤ i.toInt := Int.ediv_le_self _ hi
  have h2 : 0 ≤ i.toInt / j.toInt := Int.ediv_nonneg hi (by omega)
  have h3 := lI_hi i
  exact bm64 (by omega) (by omega)
theorem rem_rng64 {i j : Int64} (hi : 0 ≤ i.toInt) (hj : 0 < j.toInt) : (i - i / j * j).toInt = i.toInt % j.toInt := by
  have e := div_rng64 hi hj
  have h1 : 0 ≤ i.toInt / j.toInt * j.toInt := Int.mul_nonneg (Int.ediv_nonneg hi (by omega)) (by omega)
  have h2 : i.toInt / j.toInt * j.toInt ≤ i.toInt := Int.ediv_mul_le _ (by omega)
  have h3 := lI_hi i
  have em : (i / j * j).toInt = i.toInt / j.toInt * j.toInt := by
    rw [Int64.toInt_mul, e]
    exact bm64 (by omega) (by omega)
  rw [Int64.toInt_sub, em, bm64 (by omega) (by omega), Int.emod_def, Int.mul_comm]
theorem l2i_rng {l : Int64} (h1 : i32lo ≤ l.toInt) (h2 : l.toInt ≤ i32hi) : l.toInt32.toInt = l.toInt := by
  unfold i32lo at h1
  unfold i32hi at h2
  rw [Int64.toInt_toInt32]
  exact Int.bmod_eq_of_le (by omega) (by omega)
section Lg
variable {D : KK}
def aLandR : AOP := fun nx _ _ A => match A.2.1 with
  | y :: x :: r => Nat.beq y.1 6 && decide (0 ≤ y.2.1) && isJ x && nx (A.1, (6, 0, y.2.2) :: r, A.2.2)
  | _ => false
theorem sLandR : Snd D oLand aLandR := by
  intro E P Γ hD nx jp nxA jpA rtA hn hj hr A ls st m h hR
  obtain ⟨σ, hC, hL, hS, hrest⟩ := hR
  unfold aLandR at h
  split at h
  · rename_i y x r e
    rw [e] at hS
    simp only [Bool.and_eq_true, decide_eq_true_eq] at h
    obtain ⟨⟨⟨b1, b2⟩, b3⟩, b4⟩ := h
    obtain ⟨w, s, rfl, gy, hF⟩ := FA_cons hS
    obtain ⟨w2, s2, rfl, gx, hF2⟩ := FA_cons hF
    obtain ⟨i, rfl⟩ := gam_long b3 gx
    obtain ⟨t, a, b⟩ := y
    obtain rfl : t = 6 := Nat.eq_of_beq_eq_true b1
    obtain ⟨j, rfl, g1, g2⟩ := gy
    simp only at b2 g1 g2
    have q := and_rng64 (i := i) (j := j) (by omega)
    exact hn _ _ _ _ b4 ⟨σ, hC, hL, ⟨⟨_, rfl, q.1, by simp only; omega⟩, hF2⟩, hrest⟩
  · cases h
def aLdivR : AOP := fun nx _ _ A => match A.2.1 with
  | y :: x :: r => Nat.beq y.1 6 && decide (0 < y.2.1) && decide (y.2.1 = y.2.2) && Nat.beq x.1 6 && decide (0 ≤ x.2.1) && nx (A.1, (6, x.2.1 / y.2.1, x.2.2 / y.2.1) :: r, A.2.2)
  | _ => false
theorem sLdivR : Snd D oLdiv aLdivR := by
  intro E P Γ hD nx jp nxA jpA rtA hn hj hr A ls st m h hR
  obtain ⟨σ, hC, hL, hS, hrest⟩ := hR
  unfold aLdivR at h
  split at h
  · rename_i y x r e
    rw [e] at hS
    simp only [Bool.and_eq_true, decide_eq_true_eq] at h
    obtain ⟨⟨⟨⟨⟨b1, b2⟩, b3⟩, b4⟩, b5⟩, b6⟩ := h
    obtain ⟨w, s, rfl, gy, hF⟩ := FA_cons hS
    obtain ⟨w2, s2, rfl, gx, hF2⟩ := FA_cons hF
    obtain ⟨t, a, b⟩ := y
    obtain rfl : t = 6 := Nat.eq_of_beq_eq_true b1
    obtain ⟨t, a2, b2'⟩ := x
    obtain rfl : t = 6 := Nat.eq_of_beq_eq_true b4
    obtain ⟨j, rfl, g1, g2⟩ := gy
    obtain ⟨i, rfl, g3, g4⟩ := gx
    simp only at b2 b3 b5 g1 g2 g3 g4
    have ej : j.toInt = a := by omega
    have q := div_rng64 (i := i) (j := j) (by omega) (by omega)
    refine ⟨fun z => ?_, hn _ _ _ _ b6 ⟨σ, hC, hL, ⟨⟨_, rfl, ?_, ?_⟩, hF2⟩, hrest⟩⟩
    · rw [z] at ej
      have : (0 : Int64).toInt = 0 := rfl
      omega
    · rw [q, ej]; exact Int.ediv_le_ediv (by omega) g3
    · rw [q, ej]; exact Int.ediv_le_ediv (by omega) g4
  · cases h
def aLremR : AOP := fun nx _ _ A => match A.2.1 with
  | y :: x :: r => Nat.beq y.1 6 && decide (0 < y.2.1) && Nat.beq x.1 6 && decide (0 ≤ x.2.1) && nx (A.1, (6, 0, y.2.2 - 1) :: r, A.2.2)
  | _ => false
theorem sLremR : Snd D oLrem aLremR := by
  intro E P Γ hD nx jp nxA jpA rtA hn hj hr A ls st m h hR
  obtain ⟨σ, hC, hL, hS, hrest⟩ := hR
  unfold aLremR at h
  split at h
  · rename_i y x r e
    rw [e] at hS
    simp only [Bool.and_eq_true, decide_eq_true_eq] at h
    obtain ⟨⟨⟨⟨b1, b2⟩, b4⟩, b5⟩, b6⟩ := h
    obtain ⟨w, s, rfl, gy, hF⟩ := FA_cons hS
    obtain ⟨w2, s2, rfl, gx, hF2⟩ := FA_cons hF
    obtain ⟨t, a, b⟩ := y
    obtain rfl : t = 6 := Nat.eq_of_beq_eq_true b1
    obtain ⟨t, a2, b2'⟩ := x
    obtain rfl : t = 6 := Nat.eq_of_beq_eq_true b4
    obtain ⟨j, rfl, g1, g2⟩ := gy
    obtain ⟨i, rfl, g3, g4⟩ := gx
    simp only at b2 b5 g1 g2 g3 g4
    have q := rem_rng64 (i := i) (j := j) (by omega) (by omega)
    have h1 := Int.emod_nonneg i.toInt (b := j.toInt) (by omega)
    have h2 := Int.emod_lt_of_pos i.toInt (b := j.toInt) (by omega)
    refine ⟨fun z => ?_, hn _ _ _ _ b6 ⟨σ, hC, hL, ⟨⟨_, rfl, ?_, ?_⟩, hF2⟩, hrest⟩⟩
    · rw [z] at g1
      have : (0 : Int64).toInt = 0 := rfl
      omega
    · rw [q]; exact h1
    · rw [q]; simp only; omega
  · cases h
def aL2iR : AOP := fun nx _ _ A => match A.2.1 with
  | x :: r => Nat.beq x.1 6 && decide (i32lo ≤ x.2.1) && decide (x.2.2 ≤ i32hi) && nx (A.1, (0, x.2.1, x.2.2) :: r, A.2.2)
  | _ => false
theorem sL2iR : Snd D oL2i aL2iR := by
  intro E P Γ hD nx jp nxA jpA rtA hn hj hr A ls st m h hR
  obtain ⟨σ, hC, hL, hS, hrest⟩ := hR
  unfold aL2iR at h
  split at h
  · rename_i x r e
    rw [e] at hS
    simp only [Bool.and_eq_true, decide_eq_true_eq] at h
    obtain ⟨⟨⟨b1, b2⟩, b3⟩, b4⟩ := h
    obtain ⟨w, s, rfl, gx, hF⟩ := FA_cons hS
    obtain ⟨t, a, b⟩ := x
    obtain rfl : t = 6 := Nat.eq_of_beq_eq_true b1
    obtain ⟨l, rfl, g1, g2⟩ := gx
    simp only at b2 b3 g1 g2
    have q := l2i_rng (l := l) (by omega) (by omega)
    exact hn _ _ _ _ b4 ⟨σ, hC, hL, ⟨⟨_, rfl, by rw [q]; exact g1, by rw [q]; exact g2⟩, hF⟩, hrest⟩
  · cases h
end Lg
