/-! taxes, owes, who is missing; bits (pure) -/
/-- bit l of a set, as both programs take it -/
def bt (x l : Int32) : Int32 := (x >>> (l &&& 31)) &&& 1
theorem and1 (x : Int32) : x &&& 1 = nI (x.toBitVec.toNat % 2) := pk_and x 1 (by decide)
theorem bt01 (x l : Int32) : bt x l = 0 ∨ bt x l = 1 := by
  unfold bt
  rw [and1]
  rcases Nat.mod_two_eq_zero_or_one (x >>> (l &&& 31)).toBitVec.toNat with q | q
  · rw [q]; exact Or.inl rfl
  · rw [q]; exact Or.inr rfl
theorem sh_ix : ∀ i, i < 32 → ((nI i &&& 31).toBitVec.smod 32).toNat = i := by decide +kernel
theorem bt_N {N i : Nat} (hN : N < 2 ^ 31) (hi : i < 31) : bt (nI N) (nI i) = nI (N / 2 ^ i % 2) := by
  unfold bt
  rw [pk_shrN hN _ i (sh_ix i (by omega)), and1]
  have hq : N / 2 ^ i < 2 ^ 32 := Nat.lt_of_le_of_lt (Nat.div_le_self _ _) (by omega)
  rw [pk_tn hq]
/-- a set of places below n -/
def bsN (p : Nat → Bool) : Nat → Nat
  | 0 => 0
  | n + 1 => bsN p n + (if p n = true then 2 ^ n else 0)
theorem bsN_lt (p : Nat → Bool) : ∀ n, bsN p n < 2 ^ n
  | 0 => Nat.one_pos
  | n + 1 => by
    have h := bsN_lt p n
    show bsN p n + (if p n = true then 2 ^ n else 0) < 2 ^ (n + 1)
    rw [Nat.pow_succ]
    split <;> omega
theorem bsN_bit (p : Nat → Bool) (i : Nat) : ∀ n, bsN p n / 2 ^ i % 2 = if i < n ∧ p i = true then 1 else 0
  | 0 => by
    show 0 / 2 ^ i % 2 = _
    rw [Nat.zero_div, if_neg (fun z => by omega)]
  | n + 1 => by
    have ih := bsN_bit p i n
    have hlt := bsN_lt p n
    show (bsN p n + (if p n = true then 2 ^ n else 0)) / 2 ^ i % 2 = _
    have hp : 0 < 2 ^ i := Nat.pow_pos (by decide)
    by_cases hpn : p n = true
    · rw [if_pos hpn]
      rcases Nat.lt_trichotomy i n with h | h | h
      · obtain ⟨k, rfl⟩ : ∃ k, n = i + (k + 1) := ⟨n - i - 1, by omega⟩
        have e : 2 ^ (i + (k + 1)) = 2 ^ i * (2 * 2 ^ k) := by rw [Nat.pow_add, Nat.pow_succ, Nat.mul_comm (2 ^ k)]
        rw [e, Nat.add_mul_div_left _ _ hp, Nat.add_mul_mod_self_left, ih]
        by_cases q : p i = true
        · rw [if_pos ⟨by omega, q⟩, if_pos ⟨by omega, q⟩]
        · rw [if_neg (fun z => q z.2), if_neg (fun z => q z.2)]
      · subst h
        rw [if_pos ⟨by omega, hpn⟩]
        have : (bsN p i + 2 ^ i) / 2 ^ i = 1 := by
          rw [Nat.add_div_right _ hp, Nat.div_eq_of_lt hlt]
        rw [this]
      · have : 2 ^ (n + 1) ≤ 2 ^ i := Nat.pow_le_pow_right (by decide) h
        rw [Nat.pow_succ] at this
        rw [Nat.div_eq_of_lt (by omega), if_neg (fun z => by omega)]
    · rw [if_neg hpn, Nat.add_zero, ih]
      by_cases q : p i = true
      · by_cases h : i < n
        · rw [if_pos ⟨h, q⟩, if_pos ⟨by omega, q⟩]
        · rw [if_neg (fun z => h z.1), if_neg (fun z => by
            have : i = n := by omega
            rw [this] at q
            exact hpn q)]
      · rw [if_neg (fun z => q z.2), if_neg (fun z => q z.2)]
theorem bt_bs {p : Nat → Bool} {n i : Nat} (hn : n ≤ 31) (hi : i < n) : bt (nI (bsN p n)) (nI i) = if p i = true then 1 else 0 := by
  have h1 : bsN p n < 2 ^ 31 := Nat.lt_of_lt_of_le (bsN_lt p n) (Nat.pow_le_pow_right (by decide) hn)
  rw [bt_N h1 (by omega), bsN_bit]
  by_cases q : p i = true
  · rw [if_pos ⟨hi, q⟩, if_pos q]; rfl
  · rw [if_neg (fun z => q z.2), if_neg q]; rfl
theorem bs_or {p : Nat → Bool} {n : Nat} (hn : n < 31) : nI (bsN p n) ||| (if p n = true then nI (2 ^ n) else 0) = nI (bsN p (n + 1)) := by
  show _ = nI (bsN p n + (if p n = true then 2 ^ n else 0))
  by_cases q : p n = true
  · rw [if_pos q, if_pos q, nI_or]
    congr 1
    rw [Nat.or_comm]
    have := Nat.two_pow_add_eq_or_of_lt (bsN_lt p n) 1
    rw [Nat.mul_one] at this
    rw [← this, Nat.add_comm]
  · rw [if_neg q, if_neg q]
    show nI (bsN p n) ||| nI 0 = _
    rw [nI_or, Nat.or_zero, Nat.add_zero]
theorem shl1 {n : Nat} (h : n < 31) : (1 : Int32) <<< (nI n &&& 31) = nI (2 ^ n) := by
  have := pk_shlN (n := 1) (nI n &&& 31) n (sh_ix n (by omega)) (by rw [Nat.one_mul]; exact Nat.pow_lt_pow_right (by decide) (by omega))
  rw [Nat.one_mul] at this
  exact this
/-- how many bits -/
def popS (N : Nat) : Nat → Nat
  | 0 => 0
  | k + 1 => popS N k + N / 2 ^ k % 2
theorem popS_le (N : Nat) : ∀ k, popS N k ≤ k
  | 0 => Nat.le_refl _
  | k + 1 => by
    have := popS_le N k
    show popS N k + N / 2 ^ k % 2 ≤ k + 1
    omega
def cntB (p : Nat → Bool) : Nat → Nat
  | 0 => 0
  | n + 1 => cntB p n + (if p n = true then 1 else 0)
theorem cntB_le (p : Nat → Bool) : ∀ n, cntB p n ≤ n
  | 0 => Nat.le_refl _
  | n + 1 => by
    have := cntB_le p n
    show cntB p n + (if p n = true then 1 else 0) ≤ n + 1
    split <;> omega
theorem popS_bs (p : Nat → Bool) (n : Nat) : ∀ k, popS (bsN p n) k = cntB p (min k n)
  | 0 => by rw [Nat.zero_min]; rfl
  | k + 1 => by
    show popS (bsN p n) k + bsN p n / 2 ^ k % 2 = _
    rw [popS_bs p n k, bsN_bit]
    by_cases h : k < n
    · rw [show min k n = k by omega, show min (k + 1) n = k + 1 by omega]
      show _ = cntB p k + (if p k = true then 1 else 0)
      by_cases q : p k = true
      · rw [if_pos ⟨h, q⟩, if_pos q]
      · rw [if_neg (fun z => q z.2), if_neg q]
    · rw [show min k n = n by omega, show min (k + 1) n = n by omega, if_neg (fun z => h z.1), Nat.add_zero]
section Tx
variable (V : VW)
/-- the lands of seller and buyer of a sale -/
def lanS (s : Nat) : Int32 := V.2 4 (V.2 10 s).toNatClampNeg
def lanB (s : Nat) : Int32 := V.2 4 (V.2 11 s).toNatClampNeg
def rateP (ru : Int32) (s : Nat) : Int32 := if lanS V s = lanB V s ∧ bt ru (lanS V s) = 0 then V.2 1 (lanS V s).toNatClampNeg else 0
def taxP (ru : Int32) (s : Nat) : Int32 := V.2 12 s * V.2 14 s * rateP V ru s
/-- what a firm owes by the first n sales -/
def owesP (ru f : Int32) : Nat → Int32
  | 0 => 0
  | n + 1 => owesP ru f n + (if V.2 10 n = f then taxP V ru n else if V.2 11 n = f then 0 - taxP V ru n else 0)
/-- whether a firm is missing -/
def misB (ru : Int32) (f : Nat) : Bool := decide (100 * V.2 8 f < owesP V ru (nI f) (V.1 3))
end Tx
theorem misB_t {V : VW} {ru : Int32} {f : Nat} : misB V ru f = true ↔ 100 * V.2 8 f < owesP V ru (nI f) (V.1 3) := decide_eq_true_iff
section WfU
variable {V : VW}
theorem Wf.frm (h : Wf V) {s : Nat} (hs : s < V.1 3) : ∃ f, f < V.1 2 ∧ V.2 10 s = nI f ∧ (V.2 10 s).toNatClampNeg = f := by
  have y := (h.2.2.2 s hs).1
  have e : (V.2 10 s).toInt = ((V.2 10 s).toInt.toNat : Nat) := by omega
  exact ⟨(V.2 10 s).toInt.toNat, by omega, nI_back e, rfl⟩
theorem Wf.tom (h : Wf V) {s : Nat} (hs : s < V.1 3) : ∃ f, f < V.1 2 ∧ V.2 11 s = nI f ∧ (V.2 11 s).toNatClampNeg = f := by
  have y := (h.2.2.2 s hs).2.1
  have e : (V.2 11 s).toInt = ((V.2 11 s).toInt.toNat : Nat) := by omega
  exact ⟨(V.2 11 s).toInt.toNat, by omega, nI_back e, rfl⟩
theorem Wf.lan (h : Wf V) {f : Nat} (hf : f < V.1 2) : ∃ l, l < V.1 0 ∧ V.2 4 f = nI l ∧ (V.2 4 f).toNatClampNeg = l := by
  have y := (h.2.2.1 f hf).1
  have e : (V.2 4 f).toInt = ((V.2 4 f).toInt.toNat : Nat) := by omega
  exact ⟨(V.2 4 f).toInt.toNat, by omega, nI_back e, rfl⟩
end WfU
theorem nI_inj {a b : Nat} (ha : a < 2147483648) (hb : b < 2147483648) (h : nI a = nI b) : a = b := (nI_eq (by omega) (by omega)).mp h
