/-! leaves: what small methods answer, in full -/
set_option maxRecDepth 100000 in
theorem r_has_354 {m : MM} {x : Int32} : CI 1 mX2_has [.ref 354, .int x] m (fun r m' => m' = m ∧ z1 (0 ≤ x.toInt ∧ x.toInt < (gI m 354 1).toInt) r) := by
  have e0 : (0 : Int32).toInt = 0 := rfl
  refine At.gs okX2_has 40 ?_
  (conv => whnf)
  refine And.intro (fun h1 => ?_) (fun h1 => ?_)
  · rw [lt_i] at h1
    exact ⟨Or.inl rfl, rfl, Or.inr ⟨by omega, rfl⟩⟩
  · rw [lt_i] at h1
    (conv => whnf)
    refine And.intro (fun h2 => ?_) (fun h2 => ?_)
    · have h2 : gI m 354 1 ≤ x := h2
      rw [le_i] at h2
      exact ⟨Or.inl rfl, rfl, Or.inr ⟨by omega, rfl⟩⟩
    · have h2 : ¬ gI m 354 1 ≤ x := h2
      rw [le_i] at h2
      exact ⟨Or.inr rfl, rfl, Or.inl ⟨by omega, rfl⟩⟩
set_option maxRecDepth 100000 in
theorem r_has_386 {m : MM} {x : Int32} : CI 1 mX2_has [.ref 386, .int x] m (fun r m' => m' = m ∧ z1 (0 ≤ x.toInt ∧ x.toInt < (gI m 386 1).toInt) r) := by
  have e0 : (0 : Int32).toInt = 0 := rfl
  refine At.gs okX2_has 40 ?_
  (conv => whnf)
  refine And.intro (fun h1 => ?_) (fun h1 => ?_)
  · rw [lt_i] at h1
    exact ⟨Or.inl rfl, rfl, Or.inr ⟨by omega, rfl⟩⟩
  · rw [lt_i] at h1
    (conv => whnf)
    refine And.intro (fun h2 => ?_) (fun h2 => ?_)
    · have h2 : gI m 386 1 ≤ x := h2
      rw [le_i] at h2
      exact ⟨Or.inl rfl, rfl, Or.inr ⟨by omega, rfl⟩⟩
    · have h2 : ¬ gI m 386 1 ≤ x := h2
      rw [le_i] at h2
      exact ⟨Or.inr rfl, rfl, Or.inl ⟨by omega, rfl⟩⟩
set_option maxRecDepth 100000 in
theorem r_has_418 {m : MM} {x : Int32} : CI 1 mX2_has [.ref 418, .int x] m (fun r m' => m' = m ∧ z1 (0 ≤ x.toInt ∧ x.toInt < (gI m 418 1).toInt) r) := by
  have e0 : (0 : Int32).toInt = 0 := rfl
  refine At.gs okX2_has 40 ?_
  (conv => whnf)
  refine And.intro (fun h1 => ?_) (fun h1 => ?_)
  · rw [lt_i] at h1
    exact ⟨Or.inl rfl, rfl, Or.inr ⟨by omega, rfl⟩⟩
  · rw [lt_i] at h1
    (conv => whnf)
    refine And.intro (fun h2 => ?_) (fun h2 => ?_)
    · have h2 : gI m 418 1 ≤ x := h2
      rw [le_i] at h2
      exact ⟨Or.inl rfl, rfl, Or.inr ⟨by omega, rfl⟩⟩
    · have h2 : ¬ gI m 418 1 ≤ x := h2
      rw [le_i] at h2
      exact ⟨Or.inr rfl, rfl, Or.inl ⟨by omega, rfl⟩⟩
set_option maxRecDepth 100000 in
theorem r_has_738 {m : MM} {x : Int32} : CI 1 mX2_has [.ref 738, .int x] m (fun r m' => m' = m ∧ z1 (0 ≤ x.toInt ∧ x.toInt < (gI m 738 1).toInt) r) := by
  have e0 : (0 : Int32).toInt = 0 := rfl
  refine At.gs okX2_has 40 ?_
  (conv => whnf)
  refine And.intro (fun h1 => ?_) (fun h1 => ?_)
  · rw [lt_i] at h1
    exact ⟨Or.inl rfl, rfl, Or.inr ⟨by omega, rfl⟩⟩
  · rw [lt_i] at h1
    (conv => whnf)
    refine And.intro (fun h2 => ?_) (fun h2 => ?_)
    · have h2 : gI m 738 1 ≤ x := h2
      rw [le_i] at h2
      exact ⟨Or.inl rfl, rfl, Or.inr ⟨by omega, rfl⟩⟩
    · have h2 : ¬ gI m 738 1 ≤ x := h2
      rw [le_i] at h2
      exact ⟨Or.inr rfl, rfl, Or.inl ⟨by omega, rfl⟩⟩
set_option maxRecDepth 100000 in
theorem r_has_770 {m : MM} {x : Int32} : CI 1 mX2_has [.ref 770, .int x] m (fun r m' => m' = m ∧ z1 (0 ≤ x.toInt ∧ x.toInt < (gI m 770 1).toInt) r) := by
  have e0 : (0 : Int32).toInt = 0 := rfl
  refine At.gs okX2_has 40 ?_
  (conv => whnf)
  refine And.intro (fun h1 => ?_) (fun h1 => ?_)
  · rw [lt_i] at h1
    exact ⟨Or.inl rfl, rfl, Or.inr ⟨by omega, rfl⟩⟩
  · rw [lt_i] at h1
    (conv => whnf)
    refine And.intro (fun h2 => ?_) (fun h2 => ?_)
    · have h2 : gI m 770 1 ≤ x := h2
      rw [le_i] at h2
      exact ⟨Or.inl rfl, rfl, Or.inr ⟨by omega, rfl⟩⟩
    · have h2 : ¬ gI m 770 1 ≤ x := h2
      rw [le_i] at h2
      exact ⟨Or.inr rfl, rfl, Or.inl ⟨by omega, rfl⟩⟩
set_option maxRecDepth 100000 in
theorem r_has_802 {m : MM} {x : Int32} : CI 1 mX2_has [.ref 802, .int x] m (fun r m' => m' = m ∧ z1 (0 ≤ x.toInt ∧ x.toInt < (gI m 802 1).toInt) r) := by
  have e0 : (0 : Int32).toInt = 0 := rfl
  refine At.gs okX2_has 40 ?_
  (conv => whnf)
  refine And.intro (fun h1 => ?_) (fun h1 => ?_)
  · rw [lt_i] at h1
    exact ⟨Or.inl rfl, rfl, Or.inr ⟨by omega, rfl⟩⟩
  · rw [lt_i] at h1
    (conv => whnf)
    refine And.intro (fun h2 => ?_) (fun h2 => ?_)
    · have h2 : gI m 802 1 ≤ x := h2
      rw [le_i] at h2
      exact ⟨Or.inl rfl, rfl, Or.inr ⟨by omega, rfl⟩⟩
    · have h2 : ¬ gI m 802 1 ≤ x := h2
      rw [le_i] at h2
      exact ⟨Or.inr rfl, rfl, Or.inl ⟨by omega, rfl⟩⟩
set_option maxRecDepth 100000 in
theorem r_has_452 {m : MM} {x : Int32} : CI 1 mX4_has [.ref 452, .int x] m (fun r m' => m' = m ∧ z1 (0 ≤ x.toInt ∧ x.toInt < (gI m 452 7).toInt) r) := by
  have e0 : (0 : Int32).toInt = 0 := rfl
  refine At.gs okX4_has 40 ?_
  (conv => whnf)
  refine And.intro (fun h1 => ?_) (fun h1 => ?_)
  · rw [lt_i] at h1
    exact ⟨Or.inl rfl, rfl, Or.inr ⟨by omega, rfl⟩⟩
  · rw [lt_i] at h1
    (conv => whnf)
    refine And.intro (fun h2 => ?_) (fun h2 => ?_)
    · have h2 : gI m 452 7 ≤ x := h2
      rw [le_i] at h2
      exact ⟨Or.inl rfl, rfl, Or.inr ⟨by omega, rfl⟩⟩
    · have h2 : ¬ gI m 452 7 ≤ x := h2
      rw [le_i] at h2
      exact ⟨Or.inr rfl, rfl, Or.inl ⟨by omega, rfl⟩⟩
set_option maxRecDepth 100000 in
theorem r_has_836 {m : MM} {x : Int32} : CI 1 mX4_has [.ref 836, .int x] m (fun r m' => m' = m ∧ z1 (0 ≤ x.toInt ∧ x.toInt < (gI m 836 7).toInt) r) := by
  have e0 : (0 : Int32).toInt = 0 := rfl
  refine At.gs okX4_has 40 ?_
  (conv => whnf)
  refine And.intro (fun h1 => ?_) (fun h1 => ?_)
  · rw [lt_i] at h1
    exact ⟨Or.inl rfl, rfl, Or.inr ⟨by omega, rfl⟩⟩
  · rw [lt_i] at h1
    (conv => whnf)
    refine And.intro (fun h2 => ?_) (fun h2 => ?_)
    · have h2 : gI m 836 7 ≤ x := h2
      rw [le_i] at h2
      exact ⟨Or.inl rfl, rfl, Or.inr ⟨by omega, rfl⟩⟩
    · have h2 : ¬ gI m 836 7 ≤ x := h2
      rw [le_i] at h2
      exact ⟨Or.inr rfl, rfl, Or.inl ⟨by omega, rfl⟩⟩
set_option maxRecDepth 100000 in
theorem s_isFirm {m : MM} {x : Int32} : CI 1 mX7_isFirm [.ref 1175, .int x] m (fun r m' => m' = m ∧ z1 (0 ≤ x.toInt ∧ x.toInt < (gI m 1175 5).toInt) r) := by
  have e0 : (0 : Int32).toInt = 0 := rfl
  refine At.gs okX7_isFirm 40 ?_
  (conv => whnf)
  refine And.intro (fun h1 => ?_) (fun h1 => ?_)
  · rw [lt_i] at h1
    exact ⟨Or.inl rfl, rfl, Or.inr ⟨by omega, rfl⟩⟩
  · rw [lt_i] at h1
    (conv => whnf)
    refine And.intro (fun h2 => ?_) (fun h2 => ?_)
    · have h2 : gI m 1175 5 ≤ x := h2
      rw [le_i] at h2
      exact ⟨Or.inl rfl, rfl, Or.inr ⟨by omega, rfl⟩⟩
    · have h2 : ¬ gI m 1175 5 ≤ x := h2
      rw [le_i] at h2
      exact ⟨Or.inr rfl, rfl, Or.inl ⟨by omega, rfl⟩⟩
set_option maxRecDepth 100000 in
theorem s_isSale {m : MM} {x : Int32} : CI 1 mX7_isSale [.ref 1175, .int x] m (fun r m' => m' = m ∧ z1 (0 ≤ x.toInt ∧ x.toInt < (gI m 1175 6).toInt) r) := by
  have e0 : (0 : Int32).toInt = 0 := rfl
  refine At.gs okX7_isSale 40 ?_
  (conv => whnf)
  refine And.intro (fun h1 => ?_) (fun h1 => ?_)
  · rw [lt_i] at h1
    exact ⟨Or.inl rfl, rfl, Or.inr ⟨by omega, rfl⟩⟩
  · rw [lt_i] at h1
    (conv => whnf)
    refine And.intro (fun h2 => ?_) (fun h2 => ?_)
    · have h2 : gI m 1175 6 ≤ x := h2
      rw [le_i] at h2
      exact ⟨Or.inl rfl, rfl, Or.inr ⟨by omega, rfl⟩⟩
    · have h2 : ¬ gI m 1175 6 ≤ x := h2
      rw [le_i] at h2
      exact ⟨Or.inr rfl, rfl, Or.inl ⟨by omega, rfl⟩⟩
set_option maxRecDepth 100000 in
theorem r_areBits {m : MM} {x n : Int32} : CI 1 mX6_areBits [.int x, .int n] m (fun r m' => m' = m ∧ z1 (x &&& ((-1 : Int32) <<< (n &&& 31)) = 0) r) := by
  refine At.gs okX6_areBits 40 ?_
  (conv => whnf)
  refine And.intro (fun h1 => ?_) (fun h1 => ?_)
  · exact ⟨Or.inl rfl, rfl, Or.inr ⟨h1, rfl⟩⟩
  · exact ⟨Or.inr rfl, rfl, Or.inl ⟨h1, rfl⟩⟩
def ush (x y : Int32) : Int32 := (x.toUInt32 >>> (y.toUInt32 &&& Int32.toUInt32 31)).toInt32
def bc1 (x : Int32) : Int32 := x - (ush x 1 &&& 1431655765)
def bc2 (x : Int32) : Int32 := (x &&& 858993459) + (ush x 2 &&& 858993459)
def bc3 (x : Int32) : Int32 := (x + ush x 4) &&& 252645135
def bc4 (x : Int32) : Int32 := x + ush x 8
def bc5 (x : Int32) : Int32 := x + ush x 16
def bcE (x : Int32) : Int32 := bc5 (bc4 (bc3 (bc2 (bc1 x)))) &&& 63
set_option maxRecDepth 100000 in
theorem r_bitC {m : MM} {x : Int32} : CI 1 mJ6_bitCount_0f7a4 [.int x] m (fun r m' => m' = m ∧ r = bcE x) := by
  refine At.gs okJ6_bitCount_0f7a4 80 ?_
  exact ⟨rfl, rfl⟩
set_option maxRecDepth 20000 in
theorem bc_all : ((List.range 64).all fun a => (List.range 64).all fun b => decide (bcE (nI (64 * a + b)) = nI (popS (64 * a + b) 31))) = true := by decide +kernel
theorem bc_ok {N : Nat} (h : N < 4096) : bcE (nI N) = nI (popS N 31) := by
  have h1 := List.all_eq_true.mp (List.all_eq_true.mp bc_all (N / 64) (List.mem_range.mpr (by omega))) (N % 64) (List.mem_range.mpr (by omega))
  have e : 64 * (N / 64) + N % 64 = N := by omega
  rw [e] at h1
  exact of_decide_eq_true h1
set_option maxRecDepth 100000 in
set_option maxHeartbeats 4000000 in
theorem s_bits {m : MM} {N : Nat} (hN : N < 2 ^ 31) : CI 1 mX7_bits [.int (nI N)] m (fun r m' => m' = m ∧ r = nI (popS N 31)) := by
  have e31 : (31 : Int32).toInt = 31 := rfl
  have lp : ∀ (n k : Nat) (kI a : Int32), kI = nI k → k + n = 31 → a = nI (popS N k) → At (E0 1) mX7_bits (qi (fun r m' => m' = m ∧ r = nI (popS N 31))) 4 [.int (nI N), .int a, .int kI] [] m := by
    intro n
    induction n with
    | zero =>
      intro k kI a hk hn ha
      obtain rfl : k = 31 := by omega
      refine At.ls okX7_bits 40 ⟨_, _, rfl⟩ ?_
      (conv => whnf)
      refine And.intro (fun h => ?_) (fun h => ?_)
      · exact ⟨rfl, ha⟩
      · rw [hk, le_i, nI_toInt (by omega)] at h
        omega
    | succ n ih =>
      intro k kI a hk hn ha
      refine At.ls okX7_bits 40 ⟨_, _, rfl⟩ ?_
      (conv => whnf)
      refine And.intro (fun h => ?_) (fun h => ?_)
      · rw [hk, le_i, nI_toInt (by omega)] at h
        omega
      · (conv => whnf)
        refine And.intro rfl (ih (k + 1) (kI + 1) _ (by rw [hk, nI_1]) (by omega) ?_)
        show a + bt (nI N) kI = _
        rw [ha, hk, bt_N hN (by omega), nI_add]
        rfl
  refine At.gs okX7_bits 40 ?_
  (conv => whnf)
  exact And.intro rfl (lp 31 0 0 0 rfl rfl rfl)
set_option maxRecDepth 100000 in
set_option maxHeartbeats 4000000 in
theorem s_find_42168 {m : MM} {mn v : Int32} {c : Nat} (hc : mn.toInt = c) (h1 : c ≤ 5) : CI 1 mX7_found [.ref 42168, .int 0, .int mn, .int v] m (fun r m' => m' = m ∧ r.toInt = fIx (fun i => (gI m 42168 i).toInt) v.toInt c 0) := by
  have lp : ∀ (n j : Nat) (i : Int32), i.toInt = j → j + n = c → fIx (fun i => (gI m 42168 i).toInt) v.toInt n j = fIx (fun i => (gI m 42168 i).toInt) v.toInt c 0 → At (E0 1) mX7_found (qi (fun r m' => m' = m ∧ r.toInt = fIx (fun i => (gI m 42168 i).toInt) v.toInt c 0)) 3 [.ref 42168, .int 0, .int mn, .int v, .int i] [] m := by
    intro n
    induction n with
    | zero =>
      intro j i hi hn hx
      refine At.ls okX7_found 40 ⟨_, _, rfl⟩ ?_
      (conv => whnf)
      refine And.intro (fun h => ?_) (fun h => ?_)
      · exact ⟨rfl, hx⟩
      · rw [le_i] at h
        omega
    | succ n ih =>
      intro j i hi hn hx
      have e1 : (i + 1).toInt = (j + 1 : Nat) := by rw [inc1 (by omega), hi]; omega
      have ez : (0 : Int32) + i = i := Int32.zero_add i
      refine At.ls okX7_found 40 ⟨_, _, rfl⟩ ?_
      (conv => whnf)
      refine And.intro (fun h => ?_) (fun h => ?_)
      · rw [le_i] at h
        omega
      · (conv => whnf)
        refine And.intro (by rw [ez]; exact vp_in_iff.mpr ⟨by omega, show i.toInt < ((10 : Nat) : Int) by omega⟩) ?_
        (conv => whnf)
        have hx : (if (gI m 42168 j).toInt = v.toInt then (j : Int) else fIx (fun i => (gI m 42168 i).toInt) v.toInt n (j + 1)) = fIx (fun i => (gI m 42168 i).toInt) v.toInt c 0 := hx
        refine And.intro (fun h2 => ?_) (fun h2 => ?_)
        · have h2 : ¬ gI m 42168 ((0 : Int32) + i).toNatClampNeg = v := h2
          rw [ez, nat_c hi] at h2
          rw [if_neg (fun z => h2 (Int32.toInt_inj.mp z))] at hx
          (conv => whnf)
          exact And.intro rfl (ih (j + 1) (i + 1) e1 (by omega) hx)
        · have h2 : gI m 42168 ((0 : Int32) + i).toNatClampNeg = v := h2
          rw [ez, nat_c hi] at h2
          rw [if_pos (by rw [h2])] at hx
          exact ⟨rfl, by rw [hi]; exact hx⟩
  refine At.gs okX7_found 40 ?_
  (conv => whnf)
  exact And.intro rfl (lp c 0 0 rfl (by omega) rfl)
set_option maxRecDepth 100000 in
set_option maxHeartbeats 4000000 in
theorem s_find_34008 {m : MM} {mn v : Int32} {c : Nat} (hc : mn.toInt = c) (h1 : c ≤ 4) : CI 1 mX7_found [.ref 34008, .int 0, .int mn, .int v] m (fun r m' => m' = m ∧ r.toInt = fIx (fun i => (gI m 34008 i).toInt) v.toInt c 0) := by
  have lp : ∀ (n j : Nat) (i : Int32), i.toInt = j → j + n = c → fIx (fun i => (gI m 34008 i).toInt) v.toInt n j = fIx (fun i => (gI m 34008 i).toInt) v.toInt c 0 → At (E0 1) mX7_found (qi (fun r m' => m' = m ∧ r.toInt = fIx (fun i => (gI m 34008 i).toInt) v.toInt c 0)) 3 [.ref 34008, .int 0, .int mn, .int v, .int i] [] m := by
    intro n
    induction n with
    | zero =>
      intro j i hi hn hx
      refine At.ls okX7_found 40 ⟨_, _, rfl⟩ ?_
      (conv => whnf)
      refine And.intro (fun h => ?_) (fun h => ?_)
      · exact ⟨rfl, hx⟩
      · rw [le_i] at h
        omega
    | succ n ih =>
      intro j i hi hn hx
      have e1 : (i + 1).toInt = (j + 1 : Nat) := by rw [inc1 (by omega), hi]; omega
      have ez : (0 : Int32) + i = i := Int32.zero_add i
      refine At.ls okX7_found 40 ⟨_, _, rfl⟩ ?_
      (conv => whnf)
      refine And.intro (fun h => ?_) (fun h => ?_)
      · rw [le_i] at h
        omega
      · (conv => whnf)
        refine And.intro (by rw [ez]; exact vp_in_iff.mpr ⟨by omega, show i.toInt < ((8 : Nat) : Int) by omega⟩) ?_
        (conv => whnf)
        have hx : (if (gI m 34008 j).toInt = v.toInt then (j : Int) else fIx (fun i => (gI m 34008 i).toInt) v.toInt n (j + 1)) = fIx (fun i => (gI m 34008 i).toInt) v.toInt c 0 := hx
        refine And.intro (fun h2 => ?_) (fun h2 => ?_)
        · have h2 : ¬ gI m 34008 ((0 : Int32) + i).toNatClampNeg = v := h2
          rw [ez, nat_c hi] at h2
          rw [if_neg (fun z => h2 (Int32.toInt_inj.mp z))] at hx
          (conv => whnf)
          exact And.intro rfl (ih (j + 1) (i + 1) e1 (by omega) hx)
        · have h2 : gI m 34008 ((0 : Int32) + i).toNatClampNeg = v := h2
          rw [ez, nat_c hi] at h2
          rw [if_pos (by rw [h2])] at hx
          exact ⟨rfl, by rw [hi]; exact hx⟩
  refine At.gs okX7_found 40 ?_
  (conv => whnf)
  exact And.intro rfl (lp c 0 0 rfl (by omega) rfl)
set_option maxRecDepth 100000 in
set_option maxHeartbeats 4000000 in
theorem s_find_99560 {m : MM} {mn v : Int32} {c : Nat} (hc : mn.toInt = c) (h1 : c ≤ 12) : CI 1 mX7_found [.ref 99560, .int 0, .int mn, .int v] m (fun r m' => m' = m ∧ r.toInt = fIx (fun i => (gI m 99560 i).toInt) v.toInt c 0) := by
  have lp : ∀ (n j : Nat) (i : Int32), i.toInt = j → j + n = c → fIx (fun i => (gI m 99560 i).toInt) v.toInt n j = fIx (fun i => (gI m 99560 i).toInt) v.toInt c 0 → At (E0 1) mX7_found (qi (fun r m' => m' = m ∧ r.toInt = fIx (fun i => (gI m 99560 i).toInt) v.toInt c 0)) 3 [.ref 99560, .int 0, .int mn, .int v, .int i] [] m := by
    intro n
    induction n with
    | zero =>
      intro j i hi hn hx
      refine At.ls okX7_found 40 ⟨_, _, rfl⟩ ?_
      (conv => whnf)
      refine And.intro (fun h => ?_) (fun h => ?_)
      · exact ⟨rfl, hx⟩
      · rw [le_i] at h
        omega
    | succ n ih =>
      intro j i hi hn hx
      have e1 : (i + 1).toInt = (j + 1 : Nat) := by rw [inc1 (by omega), hi]; omega
      have ez : (0 : Int32) + i = i := Int32.zero_add i
      refine At.ls okX7_found 40 ⟨_, _, rfl⟩ ?_
      (conv => whnf)
      refine And.intro (fun h => ?_) (fun h => ?_)
      · rw [le_i] at h
        omega
      · (conv => whnf)
        refine And.intro (by rw [ez]; exact vp_in_iff.mpr ⟨by omega, show i.toInt < ((24 : Nat) : Int) by omega⟩) ?_
        (conv => whnf)
        have hx : (if (gI m 99560 j).toInt = v.toInt then (j : Int) else fIx (fun i => (gI m 99560 i).toInt) v.toInt n (j + 1)) = fIx (fun i => (gI m 99560 i).toInt) v.toInt c 0 := hx
        refine And.intro (fun h2 => ?_) (fun h2 => ?_)
        · have h2 : ¬ gI m 99560 ((0 : Int32) + i).toNatClampNeg = v := h2
          rw [ez, nat_c hi] at h2
          rw [if_neg (fun z => h2 (Int32.toInt_inj.mp z))] at hx
          (conv => whnf)
          exact And.intro rfl (ih (j + 1) (i + 1) e1 (by omega) hx)
        · have h2 : gI m 99560 ((0 : Int32) + i).toNatClampNeg = v := h2
          rw [ez, nat_c hi] at h2
          rw [if_pos (by rw [h2])] at hx
          exact ⟨rfl, by rw [hi]; exact hx⟩
  refine At.gs okX7_found 40 ?_
  (conv => whnf)
  exact And.intro rfl (lp c 0 0 rfl (by omega) rfl)
