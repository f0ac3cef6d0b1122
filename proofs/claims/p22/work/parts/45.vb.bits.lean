/-! bits of longs; what the finder holds -/
def tb (x : Int64) (i : Nat) : Bool := x.toBitVec.getLsbD i
theorem tb_or {x y : Int64} {i : Nat} : tb (x ||| y) i = (tb x i || tb y i) := by
  unfold tb
  rw [Int64.toBitVec_or, BitVec.getLsbD_or]
theorem tb_and {x y : Int64} {i : Nat} : tb (x &&& y) i = (tb x i && tb y i) := by
  unfold tb
  rw [Int64.toBitVec_and, BitVec.getLsbD_and]
theorem tb_0 {i : Nat} : tb 0 i = false := by
  show (0#64).getLsbD i = false
  exact BitVec.getLsbD_zero
theorem tb_1 : ∀ i, i < 64 → tb 1 i = decide (i = 0) := by decide +kernel
theorem tb_ext {x y : Int64} (h : ∀ i, i < 64 → tb x i = tb y i) : x = y := Int64.toBitVec_inj.mp (BitVec.eq_of_getLsbD_eq (fun i hi => h i hi))
theorem tb_shl : ∀ j, j < 40 → ∀ i, i < 64 → tb ((1 : Int64) <<< ((nI j).toInt64 &&& 63)) i = decide (i = j) := by decide +kernel
def ushJ (x : Int64) (y : Int32) : Int64 := (x.toUInt64 >>> (y.toInt64.toUInt64 &&& Int64.toUInt64 63)).toInt64
theorem ush_k : ∀ j, j < 64 → ((nI j).toInt64.toUInt64 &&& Int64.toUInt64 63).toBitVec.toNat % 64 = j := by decide +kernel
theorem tb_ush {x : Int64} {j i : Nat} (hj : j < 64) : tb (ushJ x (nI j)) i = tb x (j + i) := by
  have e : (ushJ x (nI j)).toBitVec = x.toBitVec >>> j := by
    show (x.toUInt64 >>> ((nI j).toInt64.toUInt64 &&& Int64.toUInt64 63)).toBitVec = _
    rw [UInt64.toBitVec_shiftRight]
    show x.toBitVec >>> (((nI j).toInt64.toUInt64 &&& Int64.toUInt64 63).toBitVec.toNat % 64) = _
    rw [ush_k j hj]
  unfold tb
  rw [e, BitVec.getLsbD_ushiftRight]
theorem tb_ge {x : Int64} {i : Nat} (h : 64 ≤ i) : tb x i = false := BitVec.getLsbD_of_ge _ _ h
theorem lgc_eq (x y : Int64) : lg_cmp x y = 0 ↔ x = y := by
  constructor
  · intro h
    unfold lg_cmp at h
    split at h
    · exact absurd h (by decide)
    · split at h
      · assumption
      · exact absurd h (by decide)
  · intro h
    subst h
    unfold lg_cmp
    rw [if_neg (fun z => absurd (Int64.lt_iff_toInt_lt.mp z) (Int.lt_irrefl _)), if_pos rfl]
theorem tb_test {x : Int64} {j : Nat} (hj : j < 64) : lg_cmp (ushJ x (nI j) &&& 1) 0 = 0 ↔ tb x j = false := by
  rw [lgc_eq]
  constructor
  · intro h
    have e : tb (ushJ x (nI j) &&& 1) 0 = tb 0 0 := by rw [h]
    rw [tb_and, tb_0, tb_ush hj, tb_1 0 (by decide), Nat.add_zero] at e
    cases hq : tb x j with
    | false => rfl
    | true => rw [hq] at e; exact absurd e (by decide)
  · intro h
    refine tb_ext (fun i hi => ?_)
    rw [tb_and, tb_0, tb_ush hj, tb_1 i hi]
    by_cases q : i = 0
    · rw [q, Nat.add_zero, h]; rfl
    · rw [decide_eq_false q, Bool.and_false]
theorem tb_none {x : Int64} {j : Nat} (hj : j < 64) (h : lg_cmp (ushJ x (nI j)) 0 = 0) : ∀ i, j ≤ i → tb x i = false := by
  intro i hi
  have h := (lgc_eq _ _).mp h
  have e : tb (ushJ x (nI j)) (i - j) = tb 0 (i - j) := by rw [h]
  rw [tb_ush hj, tb_0, show j + (i - j) = i by omega] at e
  exact e
theorem tb_meet {x y : Int64} : lg_cmp (x &&& y) 0 = 0 ↔ ∀ i, i < 64 → ¬ (tb x i = true ∧ tb y i = true) := by
  rw [lgc_eq]
  constructor
  · intro h i _ z
    have e : tb (x &&& y) i = tb 0 i := by rw [h]
    rw [tb_and, tb_0, z.1, z.2] at e
    exact absurd e (by decide)
  · intro h
    refine tb_ext (fun i hi => ?_)
    rw [tb_and, tb_0]
    have := h i hi
    cases h1 : tb x i with
    | false => rfl
    | true =>
      cases h2 : tb y i with
      | false => rfl
      | true => exact absurd ⟨h1, h2⟩ this
theorem rowJ1 {W : List Nat} {m m' : MM} {a k : Nat} (h : Fr W m m') (h8 : Nat.ble 8 (a % 16) = true) (hW : elm a W = false) : gJ m' a k = gJ m a k :=
  (h.1 a k (fun q => by
    rw [wk_row h8] at q
    have : elm a W = true := List.any_eq_true.mpr ⟨a, q, Nat.beq_refl _⟩
    rw [this] at hW
    cases hW)).2
theorem St.rowJ {W : List Nat} {m0 m1 : MM} {a k : Nat} {v : Int64} (h : St W m0 m1) (h8 : Nat.ble 8 (a % 16) = true) (ha : a ∈ W) (hp : a = kF_rows → PK v) : St W m0 (sJ m1 a k v) :=
  ⟨Mok_sJ h.1 hp, h.2.1, Fr_sJ h.2.2 (by rw [wk_row h8]; exact ha)⟩
theorem PK_enc {x : Int64} {row : List Nat} (hx : x.toInt = encN row) (hr : ∀ i, i < row.length → row.getD i 0 < 40) (h6 : row.length ≤ 6) : PK x := by
  have h64 : ∀ i, i < row.length → row.getD i 0 < 64 := fun i hi => by have := hr i hi; omega
  refine PK_of10 (b := 16) (by omega) (by omega) ⟨fun q => absurd q (by decide), fun _ q => absurd q (by decide), fun _ => ⟨by rw [hx]; omega, ?_, fun j => ?_⟩⟩
  · rw [hx]
    have h1 := encN_lt row h64
    have h2 : 64 ^ row.length ≤ 64 ^ 6 := Nat.pow_le_pow_right (by decide) h6
    have h3 : encN row < 64 ^ 6 := by omega
    show ((encN row : Nat) : Int) < 64 ^ 6
    exact_mod_cast h3
  · rw [hx]
    have h1 := encN_dig row j h64
    have h2 : row.getD j 0 < 40 := by
      by_cases q : j < row.length
      · exact hr j q
      · rw [List.getD_eq_getElem?_getD, List.getElem?_eq_none (by omega)]
        decide
    have h3 : encN row / 64 ^ j % 64 < 40 := by omega
    exact_mod_cast h3
/-- the finder's rows hold the first of L -/
def FS (L : List (List Nat)) (m : MM) : Prop := gI m 49 9 = nI (min L.length 201) ∧ ∀ i, i < 200 → i < L.length → (gJ m 819273 i).toInt = encN (L.getD i []) ∧ gI m 819288 i = nI (L.getD i []).length
theorem gL_l {L M : List (List Nat)} {i : Nat} (h : i < L.length) : (L ++ M).getD i [] = L.getD i [] := by
  rw [List.getD_eq_getElem?_getD, List.getD_eq_getElem?_getD, List.getElem?_append_left h]
theorem gL_r {L : List (List Nat)} {x : List Nat} : (L ++ [x]).getD L.length [] = x := by
  rw [List.getD_eq_getElem?_getD, List.getElem?_append_right (Nat.le_refl _), Nat.sub_self]
  rfl
theorem FS.more {L M : List (List Nat)} {m : MM} (h : FS L m) (hl : 200 < L.length) : FS (L ++ M) m := by
  refine ⟨?_, fun i hi _ => ?_⟩
  · rw [h.1, List.length_append, show min L.length 201 = min (L.length + M.length) 201 by omega]
  · rw [gL_l (by omega)]
    exact h.2 i hi (by omega)
theorem FS.fr {L : List (List Nat)} {W : List Nat} {m m' : MM} (h : FS L m) (hF : Fr W m m') (hW : (!(elm (wk 49 9) W) && !(elm 819273 W) && !(elm 819288 W)) = true) : FS L m' := by
  simp only [Bool.and_eq_true] at hW
  obtain ⟨⟨w1, w2⟩, w3⟩ := hW
  refine ⟨by rw [fr1 hF (nelm6 w1 : ¬ wk 49 9 ∈ W)]; exact h.1, fun i hi hl => ?_⟩
  rw [rowJ1 hF rfl (elm_no w2), row1 hF rfl (elm_no w3)]
  exact h.2 i hi hl
def wKe : List Nat := [819273, 819288, 42949673009]
set_option maxRecDepth 100000 in
set_option maxHeartbeats 4000000 in
theorem r_keep {L : List (List Nat)} {row : List Nat} {x : Int64} {m : MM} (hM : Mok TYg m) (h : FS L m) (hL : L.length ≤ 200) (hx : x.toInt = encN row) (hr : ∀ i, i < row.length → row.getD i 0 < 40) (h6 : row.length ≤ 6) : CV 1 mX1_keep [.ref 49, .long x, .int (nI row.length)] m (fun m' => St wKe m m' ∧ FS (L ++ [row]) m') := by
  have hf : gI m 49 9 = nI L.length := by rw [h.1, show min L.length 201 = L.length by omega]
  have e200 : (200 : Int32).toInt = 200 := rfl
  have tf : (gI m 49 9).toInt = L.length := by rw [hf, nI_toInt (by omega)]
  have e1 : gI m 49 9 + 1 = nI (L.length + 1) := by rw [hf, nI_1]
  have hn : min (L ++ [row]).length 201 = L.length + 1 := by
    rw [List.length_append]
    show min (L.length + 1) 201 = _
    omega
  have SE : ∀ m1, St wKe m m1 → St wKe m (sI m1 49 9 (gI m 49 9 + 1)) := fun m1 hS => hS.fld (by decide) (show (0 : Int) ≤ _ by rw [e1, nI_toInt (by omega)]; omega) (show _ ≤ (201 : Int) by rw [e1, nI_toInt (by omega)]; omega) (fun _ z => by omega)
  refine At.gs okX1_keep 60 ?_
  (conv => whnf)
  refine And.intro (fun q => ?_) (fun q => ?_)
  · have q : (200 : Int32) ≤ gI m 49 9 := q
    rw [le_i, tf, e200] at q
    have key : St wKe m (sI m 49 9 (gI m 49 9 + 1)) ∧ FS (L ++ [row]) (sI m 49 9 (gI m 49 9 + 1)) := by
      refine ⟨SE m (St.rf hM), ?_, fun i hi _ => ?_⟩
      · rw [hn, gI_if, if_pos ⟨rfl, rfl⟩, e1]
      · rw [gL_l (by omega), gI_if, if_neg (fun z => absurd z.1 (by decide))]
        exact h.2 i hi (by omega)
    exact key
  · have q : ¬ (200 : Int32) ≤ gI m 49 9 := q
    rw [le_i, tf, e200] at q
    have v : vp_in (gI m 49 9) 200 := by rw [hf]; exact vp_in_nI (by omega) (by decide)
    have ec : (gI m 49 9).toNatClampNeg = L.length := by rw [hf, nI_clamp (by omega)]
    (conv => whnf)
    refine And.intro v ?_
    (conv => whnf)
    refine And.intro v ?_
    have SJ : St wKe m (sJ m 819273 (gI m 49 9).toNatClampNeg x) := (St.rf hM).rowJ rfl (by decide) (fun _ => PK_enc hx hr h6)
    have SI : St wKe m (sI (sJ m 819273 (gI m 49 9).toNatClampNeg x) 819288 (gI m 49 9).toNatClampNeg (nI row.length)) := SJ.row rfl (by decide) (show (0 : Int) ≤ _ by rw [nI_toInt (by omega)]; omega) (show _ ≤ (6 : Int) by rw [nI_toInt (by omega)]; omega)
    have key : St wKe m (sI (sI (sJ m 819273 (gI m 49 9).toNatClampNeg x) 819288 (gI m 49 9).toNatClampNeg (nI row.length)) 49 9 (gI m 49 9 + 1)) ∧ FS (L ++ [row]) (sI (sI (sJ m 819273 (gI m 49 9).toNatClampNeg x) 819288 (gI m 49 9).toNatClampNeg (nI row.length)) 49 9 (gI m 49 9 + 1)) := by
      refine ⟨SE _ SI, ?_, fun i hi hl => ?_⟩
      · rw [hn, gI_if, if_pos ⟨rfl, rfl⟩, e1]
      · rw [gI_if, if_neg (fun z => absurd z.1 (by decide)), gI_if, ec]
        show (gJ (sJ m 819273 L.length x) 819273 i).toInt = _ ∧ _
        rw [gJ_sJ]
        rw [List.length_append] at hl
        have hl : i < L.length + 1 := hl
        by_cases z : i = L.length
        · rw [if_pos ⟨rfl, z⟩, if_pos ⟨rfl, z⟩, z, gL_r]
          exact ⟨hx, rfl⟩
        · rw [if_neg (fun y => z y.2), if_neg (fun y => z y.2), gL_l (by omega)]
          exact h.2 i hi (by omega)
    exact key
