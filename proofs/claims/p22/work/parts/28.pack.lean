/-! rows of sales, packed sale by sale -/
theorem shl_all : ∀ d : Fin 40, ∀ L : Fin 6, ((Int64.ofNat d.val) <<< ((Int32.ofNat (6 * L.val)).toInt64 &&& 63)).toInt = (d.val : Int) * 64 ^ L.val := by decide +kernel
theorem or_add {x y : Int64} {L : Nat} {d : Int} (hL : L ≤ 5) (hx0 : 0 ≤ x.toInt) (hx : x.toInt < 64 ^ L) (hd0 : 0 ≤ d) (hd : d < 40) (hy : y.toInt = d * 64 ^ L) : (x ||| y).toInt = x.toInt + d * 64 ^ L := by
  have hp : (64 : Int) ^ L ≤ 64 ^ 5 := by exact_mod_cast Nat.pow_le_pow_right (by decide) hL
  have hp0 : (0 : Int) < 64 ^ L := by exact_mod_cast Nat.pow_pos (n := L) (show 0 < 64 by decide)
  have hy0 : 0 ≤ y.toInt := by rw [hy]; exact Int.mul_nonneg hd0 (by omega)
  have hyu : y.toInt ≤ 39 * 64 ^ L := by rw [hy]; exact Int.mul_le_mul_of_nonneg_right (by omega) (by omega)
  have ex := i64_nat hx0
  have ey := i64_nat hy0
  have e64 : ((64 ^ L : Nat) : Int) = 64 ^ L := by rw [Int.natCast_pow]; rfl
  have e2 : 64 ^ L = 2 ^ (6 * L) := by rw [Nat.pow_mul]
  have hn : y.toBitVec.toNat = 2 ^ (6 * L) * d.toNat := by
    have : ((2 ^ (6 * L) * d.toNat : Nat) : Int) = y.toInt := by
      rw [Int.natCast_mul, ← e2, e64, hy, Int.toNat_of_nonneg hd0, Int.mul_comm]
    omega
  have hor : (x ||| y).toBitVec.toNat = 2 ^ (6 * L) * d.toNat + x.toBitVec.toNat := by
    rw [Int64.toBitVec_or, BitVec.toNat_or, hn, Nat.or_comm]
    exact (Nat.two_pow_add_eq_or_of_lt (by rw [← e2]; omega) d.toNat).symm
  have e5 : (64 : Int) ^ 5 = 1073741824 := by decide
  rw [← Int64.toInt_toBitVec, BitVec.toInt_eq_toNat_of_lt (by rw [hor, ← hn]; omega), hor, ← hn]
  omega
theorem PK_or {x y : Int64} {L : Nat} (hL : L ≤ 5) (hx : PKn (10 + L) x) (hy : ShP L y) : PKn (11 + L) (x ||| y) := by
  obtain ⟨x0, x1, x2⟩ := hx.2.2 (by omega)
  obtain ⟨d, d0, d1, ey⟩ := hy
  rw [Nat.add_sub_cancel_left] at x1
  have e := or_add hL x0 x1 d0 d1 ey
  have hp0 : (0 : Int) < 64 ^ L := by exact_mod_cast Nat.pow_pos (n := L) (show 0 < 64 by decide)
  have hm0 : 0 ≤ d * 64 ^ L := Int.mul_nonneg d0 (by omega)
  have hm1 : d * 64 ^ L ≤ 39 * 64 ^ L := Int.mul_le_mul_of_nonneg_right (by omega) (by omega)
  refine ⟨fun q => absurd q (by omega), fun _ q => absurd q (by omega), fun _ => ⟨by rw [e]; omega, ?_, fun j => ?_⟩⟩
  · rw [e, show 11 + L - 10 = L + 1 by omega, Int.pow_succ]
    omega
  · rw [e]
    by_cases hj : j < L
    · obtain ⟨k, rfl⟩ : ∃ k, L = j + 1 + k := ⟨L - j - 1, by omega⟩
      have hq : (0 : Int) < 64 ^ j := by exact_mod_cast Nat.pow_pos (n := j) (show 0 < 64 by decide)
      have e1 : d * 64 ^ (j + 1 + k) = (64 * (d * 64 ^ k)) * 64 ^ j := by
        rw [Int.pow_add, Int.pow_succ]
        ac_rfl
      rw [e1, Int.add_mul_ediv_right _ _ (by omega), Int.add_mul_emod_self_left]
      exact x2 j
    · by_cases hj2 : j = L
      · subst hj2
        rw [Int.add_mul_ediv_right _ _ (by omega), Int.ediv_eq_zero_of_lt x0 x1, Int.zero_add]
        have := Int.emod_eq_of_lt d0 (show d < 64 by omega)
        omega
      · have hle : (64 : Int) ^ (L + 1) ≤ 64 ^ j := by exact_mod_cast Nat.pow_le_pow_right (show 0 < 64 by decide) (show L + 1 ≤ j by omega)
        rw [Int.pow_succ] at hle
        rw [Int.ediv_eq_zero_of_lt (by omega) (by omega)]
        decide
section Pk
variable {D : KK}
def aLshlP : AOP := fun nx _ _ A => match A.2.1 with
  | y :: x :: r => Nat.beq y.1 0 && decide (y.2.1 = y.2.2) && decide (0 ≤ y.2.1) && decide (y.2.1 % 6 = 0) && decide (y.2.1 ≤ 30) && Nat.beq x.1 6 && decide (0 ≤ x.2.1) && decide (x.2.2 ≤ 39) && nx (A.1, (7, 0, y.2.1 / 6) :: r, A.2.2)
  | _ => false
theorem sLshlP : Snd D oLshl aLshlP := by
  intro E P Γ hD nx jp nxA jpA rtA hn hj hr A ls st m h hR
  obtain ⟨σ, hC, hL, hS, hrest⟩ := hR
  unfold aLshlP at h
  split at h
  · rename_i y x r e
    rw [e] at hS
    simp only [Bool.and_eq_true, decide_eq_true_eq] at h
    obtain ⟨⟨⟨⟨⟨⟨⟨⟨b1, b2⟩, b3⟩, b4⟩, b5⟩, b6⟩, b7⟩, b8⟩, b9⟩ := h
    obtain ⟨w, s, rfl, gy, hF⟩ := FA_cons hS
    obtain ⟨w2, s2, rfl, gx, hF2⟩ := FA_cons hF
    obtain ⟨t, lo, hi⟩ := y
    obtain rfl : t = 0 := Nat.eq_of_beq_eq_true b1
    obtain ⟨t2, lo2, hi2⟩ := x
    obtain rfl : t2 = 6 := Nat.eq_of_beq_eq_true b6
    obtain ⟨i, rfl, g1, g2⟩ := gy
    obtain ⟨l, rfl, g3, g4⟩ := gx
    simp only at b2 b3 b4 b5 b7 b8 g1 g2 g3 g4
    refine hn _ _ _ _ b9 ⟨σ, hC, hL, ⟨⟨_, rfl, ?_⟩, hF2⟩, hrest⟩
    have hl : l = Int64.ofNat l.toInt.toNat := Int64.toInt_inj.mp (by rw [Int64.toInt_ofNat_of_lt (by omega)]; omega)
    have hi2 : i = Int32.ofNat (6 * (lo / 6).toNat) := Int32.toInt_inj.mp (by rw [Int32.toInt_ofNat_of_lt (by omega)]; omega)
    have key := shl_all ⟨l.toInt.toNat, by omega⟩ ⟨(lo / 6).toNat, by omega⟩
    refine ⟨l.toInt, by omega, by omega, ?_⟩
    simp only at key
    rw [← hl, ← hi2] at key
    rw [key]
    show ((l.toInt.toNat : Nat) : Int) * _ = _
    rw [Int.toNat_of_nonneg (by omega)]
  · cases h
def aLorP : AOP := fun nx _ _ A => match A.2.1 with
  | y :: x :: r => Nat.beq y.1 7 && Nat.beq x.1 5 && decide (x.2.2 = y.2.2 + 10) && decide (0 ≤ y.2.2) && decide (y.2.2 ≤ 5) && nx (A.1, (5, 0, y.2.2 + 11) :: r, A.2.2)
  | _ => false
theorem sLorP : Snd D oLor aLorP := by
  intro E P Γ hD nx jp nxA jpA rtA hn hj hr A ls st m h hR
  obtain ⟨σ, hC, hL, hS, hrest⟩ := hR
  unfold aLorP at h
  split at h
  · rename_i y x r e
    rw [e] at hS
    simp only [Bool.and_eq_true, decide_eq_true_eq] at h
    obtain ⟨⟨⟨⟨⟨b1, b2⟩, b3⟩, b4⟩, b5⟩, b6⟩ := h
    obtain ⟨w, s, rfl, gy, hF⟩ := FA_cons hS
    obtain ⟨w2, s2, rfl, gx, hF2⟩ := FA_cons hF
    obtain ⟨t, a, b⟩ := y
    obtain rfl : t = 7 := Nat.eq_of_beq_eq_true b1
    obtain ⟨t2, a2, b2'⟩ := x
    obtain rfl : t2 = 5 := Nat.eq_of_beq_eq_true b2
    obtain ⟨i, rfl, g1⟩ := gy
    obtain ⟨l, rfl, g2⟩ := gx
    simp only at b3 b4 b5 g1 g2
    subst b3
    refine hn _ _ _ _ b6 ⟨σ, hC, hL, ⟨⟨_, rfl, ?_⟩, hF2⟩, hrest⟩
    have e1 : (b + 10).toNat = 10 + b.toNat := by omega
    have e2 : (b + 11).toNat = 11 + b.toNat := by omega
    rw [e1] at g2
    show PKn (b + 11).toNat _
    rw [e2]
    exact PK_or (by omega) g2 g1
  · cases h
end Pk
