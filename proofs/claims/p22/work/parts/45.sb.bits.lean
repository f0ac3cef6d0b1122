/-! bits of a word; more stops in a walk; rows that stay -/
def stops (S : List Nat) : List CE → List CE
  | [] => []
  | q :: r => match elm q.1 S && !(Nat.beq q.2.1 0) with
    | true => (q.1, 0, none) :: q :: stops S r
    | false => q :: stops S r
theorem stops_in (S : List Nat) : ∀ (l : List CE) (q : CE), q ∈ stops S l → q ∈ l ∨ q.2.2 = none
  | [], q, h => by cases h
  | x :: r, q, h => by
    unfold stops at h
    split at h
    · rcases List.mem_cons.mp h with h | h
      · exact Or.inr (by rw [h])
      · rcases List.mem_cons.mp h with h | h
        · exact Or.inl (h ▸ List.mem_cons_self)
        · exact (stops_in S r q h).elim (fun z => Or.inl (List.mem_cons_of_mem _ z)) Or.inr
    · rcases List.mem_cons.mp h with h | h
      · exact Or.inl (h ▸ List.mem_cons_self)
      · exact (stops_in S r q h).elim (fun z => Or.inl (List.mem_cons_of_mem _ z)) Or.inr
theorem CodeOk.st {μ : MI} {full : List CE} (h : CodeOk μ full) (S : List Nat) (hc : chn (stops S full) = true) : CodeOk μ (stops S full) :=
  ⟨hc, fun q hq op ho => (stops_in S full q hq).elim (fun z => h.2 q z op ho) (fun z => by rw [z] at ho; cases ho)⟩
theorem row1 {W : List Nat} {m m' : MM} {a k : Nat} (h : Fr W m m') (h8 : Nat.ble 8 (a % 16) = true) (hW : elm a W = false) : gI m' a k = gI m a k :=
  fr1 h (fun q => by
    rw [wk_row h8] at q
    have : elm a W = true := List.any_eq_true.mpr ⟨a, q, Nat.beq_refl _⟩
    rw [this] at hW
    cases hW)
theorem nI_or (a b : Nat) : nI a ||| nI b = nI (a ||| b) := by
  apply Int32.toBitVec_inj.1
  show BitVec.ofNat 32 a ||| BitVec.ofNat 32 b = BitVec.ofNat 32 (a ||| b)
  apply BitVec.eq_of_getLsbD_eq
  intro i hi
  simp [hi]
theorem nI_back {x : Int32} {n : Nat} (h : x.toInt = n) : x = nI n := by
  have hx := tI_hi x
  unfold i32hi at hx
  exact Int32.toInt_inj.mp (by rw [h, nI_toInt (by omega)])
theorem orI_add {x y : Int32} (k a c : Nat) (hx : x.toInt = ((2 ^ k * a : Nat) : Int)) (hy : y.toInt = c) (h1 : c < 2 ^ k) (hs : 2 ^ k * a + c < 2147483648) : (x ||| y).toInt = x.toInt + y.toInt := by
  rw [nI_back hx, nI_back hy, nI_or, ← Nat.two_pow_add_eq_or_of_lt h1, nI_toInt hs, nI_toInt (by omega), nI_toInt (by omega)]
  omega
theorem shl_mul {x s : Int32} (k a : Nat) (hs : (s.toBitVec.smod 32).toNat = k) (hx : x.toInt = a) (h : a * 2 ^ k < 2147483648) : (x <<< s).toInt = ((a * 2 ^ k : Nat) : Int) := by
  rw [nI_back hx, pk_shlN s k hs (by omega), nI_toInt (by omega)]
theorem lt6_in {b : BT} {s n : Nat} (hl : ∀ j, j < n → isL (b (s + j)) = true) (j : Nat) : 0 ≤ lt6 b s n j ∧ lt6 b s n j ≤ 26 := by
  unfold lt6
  split
  · rename_i h
    have := isL_i.mp (hl j h)
    omega
  · omega
theorem lt6_go {b : BT} {s n j : Nat} (h : j < n) : lt6 b s (n + 1) j = lt6 b s n j := by
  unfold lt6
  rw [if_pos h, if_pos (by omega)]
theorem lt6_at {b : BT} {s n : Nat} : lt6 b s (n + 1) n = b (s + n) - 96 := by
  unfold lt6
  rw [if_pos (by omega)]
theorem lt6_no {b : BT} {s n j : Nat} (h : n ≤ j) : lt6 b s n j = 0 := by
  unfold lt6
  rw [if_neg (by omega)]
theorem wv_in {b : BT} {s n : Nat} (hl : ∀ j, j < n → isL (b (s + j)) = true) : 0 ≤ wv b s n ∧ wv b s n < 1073741824 := by
  have h0 := lt6_in hl 0
  have h1 := lt6_in hl 1
  have h2 := lt6_in hl 2
  have h3 := lt6_in hl 3
  have h4 := lt6_in hl 4
  have h5 := lt6_in hl 5
  unfold wv
  omega
theorem wv_six {b : BT} {s n : Nat} (h : 6 ≤ n) : wv b s (n + 1) = wv b s n := by
  unfold wv
  rw [lt6_go (j := 0) (by omega), lt6_go (j := 1) (by omega), lt6_go (j := 2) (by omega), lt6_go (j := 3) (by omega), lt6_go (j := 4) (by omega), lt6_go (j := 5) (by omega)]
theorem or_step {b : BT} {s n : Nat} {x c k : Int32} (hn : n < 6) (hk : k.toInt = n) (hx : x.toInt = wv b s n) (hl : ∀ j, j < n → isL (b (s + j)) = true) (hc : c.toInt = b (s + n)) (hcl : isL (b (s + n)) = true) : (x ||| ((c - 97 + 1) <<< ((25 - 5 * k) &&& 31))).toInt = wv b s (n + 1) := by
  have hcl := isL_i.mp hcl
  have e97 : (97 : Int32).toInt = 97 := rfl
  have e1 : (c - 97).toInt = c.toInt - 97 := by
    rw [tI_sub (by unfold i32lo; omega) (by unfold i32hi; omega), e97]
  have e2 : (c - 97 + 1).toInt = c.toInt - 96 := by
    rw [inc1 (by omega), e1]; omega
  have e3 : (c - 97 + 1).toInt = ((c.toInt - 96).toNat : Nat) := by omega
  have h0 := lt6_in hl 0
  have h1 := lt6_in hl 1
  have h2 := lt6_in hl 2
  have h3 := lt6_in hl 3
  have h4 := lt6_in hl 4
  have h5 := lt6_in hl 5
  rcases (by omega : n = 0 ∨ n = 1 ∨ n = 2 ∨ n = 3 ∨ n = 4 ∨ n = 5) with rfl | rfl | rfl | rfl | rfl | rfl
  · obtain rfl : k = 0 := Int32.toInt_inj.mp hk
    have e4 := shl_mul (s := (25 - 5 * 0) &&& 31) 25 _ (by decide) e3 (by omega)
    have hx' : x.toInt = ((2 ^ 30 * 0 : Nat) : Int) := by
      rw [hx]; unfold wv; rw [lt6_no (j := 0) (by omega), lt6_no (j := 1) (by omega), lt6_no (j := 2) (by omega), lt6_no (j := 3) (by omega), lt6_no (j := 4) (by omega), lt6_no (j := 5) (by omega)]; rfl
    rw [orI_add 30 0 _ hx' e4 (by omega) (by omega), e4, hx]
    unfold wv
    rw [lt6_at (n := 0), lt6_no (n := 0) (j := 0) (by omega), lt6_no (j := 1) (by omega), lt6_no (j := 2) (by omega), lt6_no (j := 3) (by omega), lt6_no (j := 4) (by omega), lt6_no (j := 5) (by omega), lt6_no (j := 1) (by omega), lt6_no (j := 2) (by omega), lt6_no (j := 3) (by omega), lt6_no (j := 4) (by omega), lt6_no (j := 5) (by omega)]
    omega
  · obtain rfl : k = 1 := Int32.toInt_inj.mp hk
    have e4 := shl_mul (s := (25 - 5 * 1) &&& 31) 20 _ (by decide) e3 (by omega)
    have hx' : x.toInt = ((2 ^ 25 * (lt6 b s 1 0).toNat : Nat) : Int) := by
      rw [hx]; unfold wv; rw [lt6_no (j := 1) (by omega), lt6_no (j := 2) (by omega), lt6_no (j := 3) (by omega), lt6_no (j := 4) (by omega), lt6_no (j := 5) (by omega)]; omega
    rw [orI_add 25 _ _ hx' e4 (by omega) (by omega), e4, hx]
    unfold wv
    rw [lt6_at (n := 1), lt6_go (n := 1) (j := 0) (by omega), lt6_no (n := 1) (j := 1) (by omega), lt6_no (j := 2) (by omega), lt6_no (j := 3) (by omega), lt6_no (j := 4) (by omega), lt6_no (j := 5) (by omega), lt6_no (j := 2) (by omega), lt6_no (j := 3) (by omega), lt6_no (j := 4) (by omega), lt6_no (j := 5) (by omega)]
    omega
  · obtain rfl : k = 2 := Int32.toInt_inj.mp hk
    have e4 := shl_mul (s := (25 - 5 * 2) &&& 31) 15 _ (by decide) e3 (by omega)
    have hx' : x.toInt = ((2 ^ 20 * (lt6 b s 2 0 * 32 + lt6 b s 2 1).toNat : Nat) : Int) := by
      rw [hx]; unfold wv; rw [lt6_no (j := 2) (by omega), lt6_no (j := 3) (by omega), lt6_no (j := 4) (by omega), lt6_no (j := 5) (by omega)]; omega
    rw [orI_add 20 _ _ hx' e4 (by omega) (by omega), e4, hx]
    unfold wv
    rw [lt6_at (n := 2), lt6_go (n := 2) (j := 0) (by omega), lt6_go (n := 2) (j := 1) (by omega), lt6_no (n := 2) (j := 2) (by omega), lt6_no (j := 3) (by omega), lt6_no (j := 4) (by omega), lt6_no (j := 5) (by omega), lt6_no (j := 3) (by omega), lt6_no (j := 4) (by omega), lt6_no (j := 5) (by omega)]
    omega
  · obtain rfl : k = 3 := Int32.toInt_inj.mp hk
    have e4 := shl_mul (s := (25 - 5 * 3) &&& 31) 10 _ (by decide) e3 (by omega)
    have hx' : x.toInt = ((2 ^ 15 * (lt6 b s 3 0 * 1024 + lt6 b s 3 1 * 32 + lt6 b s 3 2).toNat : Nat) : Int) := by
      rw [hx]; unfold wv; rw [lt6_no (j := 3) (by omega), lt6_no (j := 4) (by omega), lt6_no (j := 5) (by omega)]; omega
    rw [orI_add 15 _ _ hx' e4 (by omega) (by omega), e4, hx]
    unfold wv
    rw [lt6_at (n := 3), lt6_go (n := 3) (j := 0) (by omega), lt6_go (n := 3) (j := 1) (by omega), lt6_go (n := 3) (j := 2) (by omega), lt6_no (n := 3) (j := 3) (by omega), lt6_no (j := 4) (by omega), lt6_no (j := 5) (by omega), lt6_no (j := 4) (by omega), lt6_no (j := 5) (by omega)]
    omega
  · obtain rfl : k = 4 := Int32.toInt_inj.mp hk
    have e4 := shl_mul (s := (25 - 5 * 4) &&& 31) 5 _ (by decide) e3 (by omega)
    have hx' : x.toInt = ((2 ^ 10 * (lt6 b s 4 0 * 32768 + lt6 b s 4 1 * 1024 + lt6 b s 4 2 * 32 + lt6 b s 4 3).toNat : Nat) : Int) := by
      rw [hx]; unfold wv; rw [lt6_no (j := 4) (by omega), lt6_no (j := 5) (by omega)]; omega
    rw [orI_add 10 _ _ hx' e4 (by omega) (by omega), e4, hx]
    unfold wv
    rw [lt6_at (n := 4), lt6_go (n := 4) (j := 0) (by omega), lt6_go (n := 4) (j := 1) (by omega), lt6_go (n := 4) (j := 2) (by omega), lt6_go (n := 4) (j := 3) (by omega), lt6_no (n := 4) (j := 4) (by omega), lt6_no (j := 5) (by omega), lt6_no (j := 5) (by omega)]
    omega
  · obtain rfl : k = 5 := Int32.toInt_inj.mp hk
    have e4 := shl_mul (s := (25 - 5 * 5) &&& 31) 0 _ (by decide) e3 (by omega)
    have hx' : x.toInt = ((2 ^ 5 * (lt6 b s 5 0 * 1048576 + lt6 b s 5 1 * 32768 + lt6 b s 5 2 * 1024 + lt6 b s 5 3 * 32 + lt6 b s 5 4).toNat : Nat) : Int) := by
      rw [hx]; unfold wv; rw [lt6_no (j := 5) (by omega)]; omega
    rw [orI_add 5 _ _ hx' e4 (by omega) (by omega), e4, hx]
    unfold wv
    rw [lt6_at (n := 5), lt6_go (n := 5) (j := 0) (by omega), lt6_go (n := 5) (j := 1) (by omega), lt6_go (n := 5) (j := 2) (by omega), lt6_go (n := 5) (j := 3) (by omega), lt6_go (n := 5) (j := 4) (by omega), lt6_no (n := 5) (j := 5) (by omega)]
    omega
