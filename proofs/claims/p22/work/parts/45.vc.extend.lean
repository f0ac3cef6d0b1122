/-! extend of the class: all that grows out of a row, pruned -/
/-- sellers and buyers are firms -/
def GW (n : Nat) (f : Nat → Int32) : Prop := ∀ s, s < n → ∃ t, t < 12 ∧ f s = nI t
/-- what the finder holds while it seeks rounds that come home to f -/
def FX (V : VW) (g : Nat → Int32) (st wy : Int32) (k f : Nat) (late : Int) (m : MM) : Prop :=
  (gI m 49 8 = nI (V.1 3) ∧ gI m 49 10 = nI k ∧ gI m 49 11 = nI f ∧ (gI m 49 12).toInt = late) ∧
  (∀ s, s < V.1 3 → gI m 163960 s = g s ∧ gI m 163976 s = V.2 15 s) ∧
  (∀ s, s < V.1 3 → ∀ j, j < 64 → (tb (gJ m 164009 s) j = true ↔ j < V.1 3 ∧ rnL V g st wy s j)) ∧
  (∀ t, 1 ≤ t → t < k → ∀ j, j < 64 → (tb (gJ m 295097 (f * 6 + t)) j = true ↔ j < V.1 3 ∧ rnN (V.1 3) g (nI f) (rnL V g st wy) (rnK V st wy) (t - 1) j))
def fxFree (W : List Nat) : Bool := !(elm (wk 49 8) W) && !(elm (wk 49 10) W) && !(elm (wk 49 11) W) && !(elm (wk 49 12) W) && !(elm 163960 W) && !(elm 163976 W) && !(elm 164009 W) && !(elm 295097 W)
theorem FX.fr {V : VW} {g : Nat → Int32} {st wy : Int32} {k f : Nat} {late : Int} {W : List Nat} {m m' : MM} (h : FX V g st wy k f late m) (hF : Fr W m m') (hW : fxFree W = true) : FX V g st wy k f late m' := by
  unfold fxFree at hW
  simp only [Bool.and_eq_true] at hW
  obtain ⟨⟨⟨⟨⟨⟨⟨w1, w2⟩, w3⟩, w4⟩, w5⟩, w6⟩, w7⟩, w8⟩ := hW
  refine ⟨?_, fun s hs => ?_, fun s hs => ?_, fun t h1 h2 => ?_⟩
  · rw [fr1 hF (nelm6 w1 : ¬ wk 49 8 ∈ W), fr1 hF (nelm6 w2 : ¬ wk 49 10 ∈ W), fr1 hF (nelm6 w3 : ¬ wk 49 11 ∈ W), fr1 hF (nelm6 w4 : ¬ wk 49 12 ∈ W)]
    exact h.1
  · rw [row1 hF rfl (elm_no w5), row1 hF rfl (elm_no w6)]
    exact h.2.1 s hs
  · rw [rowJ1 hF rfl (elm_no w7)]
    exact h.2.2.1 s hs
  · rw [rowJ1 hF rfl (elm_no w8)]
    exact h.2.2.2 t h1 h2
/-- those that sell in a row, as bits -/
def SvX (V : VW) (row : List Nat) (X : Nat) : Prop := X < 4096 ∧ ∀ t, t < 12 → (X.testBit t = false ↔ ∀ i, i < row.length → V.2 10 (row.getD i 0) ≠ nI t)
theorem or_tb {X f t : Nat} : (X ||| 2 ^ f).testBit t = (X.testBit t || decide (f = t)) := by
  rw [Nat.testBit_or, Nat.testBit_two_pow]
theorem SvX.go {V : VW} {row : List Nat} {X s f : Nat} (h : SvX V row X) (hf : f < 12) (hs : V.2 10 s = nI f) : SvX V (row ++ [s]) (X ||| 2 ^ f) := by
  refine ⟨?_, fun t ht => ?_⟩
  · have h1 : 2 ^ f < 2 ^ 12 := Nat.pow_lt_pow_right (by decide) hf
    have := Nat.or_lt_two_pow (show X < 2 ^ 12 from h.1) h1
    exact this
  · rw [or_tb, Bool.or_eq_false_iff, h.2 t ht]
    constructor
    · intro z i hi
      rw [len_r] at hi
      by_cases y : i < row.length
      · rw [gD_l y]; exact z.1 i y
      · rw [show i = row.length by omega, gD_r, hs]
        intro u
        have := nI_inj (by omega) (by omega) u
        exact absurd z.2 (by rw [decide_eq_true this]; decide)
    · intro z
      refine ⟨fun i hi => ?_, ?_⟩
      · have := z i (by rw [len_r]; omega)
        rw [gD_l hi] at this
        exact this
      · have := z row.length (by rw [len_r]; omega)
        rw [gD_r, hs] at this
        exact decide_eq_false (fun u => this (by rw [u]))
theorem shl_d : ∀ d, d < 40 → ∀ L, L < 6 → (((nI d).toInt64) <<< ((6 * nI L).toInt64 &&& 63)).toInt = (d : Int) * 64 ^ L := by decide +kernel
theorem enc_go {x : Int64} {row : List Nat} {s : Nat} (hx : x.toInt = encN row) (hr : ∀ i, i < row.length → row.getD i 0 < 40) (h5 : row.length ≤ 5) (hs : s < 40) : (x ||| ((nI s).toInt64 <<< ((6 * nI row.length).toInt64 &&& 63))).toInt = encN (row ++ [s]) := by
  have h1 := encN_lt row (fun i hi => by have := hr i hi; omega)
  have h2 : ((encN row : Nat) : Int) < 64 ^ row.length := by exact_mod_cast h1
  rw [or_add h5 (by rw [hx]; omega) (by rw [hx]; exact h2) (show (0 : Int) ≤ s by omega) (show (s : Int) < 40 by omega) (shl_d s hs row.length (by omega)), hx, encN_app]
  push_cast
  rfl
/-- what grows out of a row by sale s -/
noncomputable def rnG (V : VW) (g : Nat → Int32) (st wy hm : Int32) (late : Int) (n : Nat) (row : List Nat) (last s : Nat) : List (List Nat) := rnP (rnC V g st wy hm late n last s) (rnO (V.1 3) (V.2 10) g hm (rnC V g st wy hm late) n (row ++ [s]) s)
theorem rnG_n {V : VW} {g : Nat → Int32} {st wy hm : Int32} {late : Int} {n : Nat} {row : List Nat} {last s : Nat} (h : ¬ rnC V g st wy hm late n last s) : rnG V g st wy hm late n row last s = [] := rnP_n h
theorem rnG_y {V : VW} {g : Nat → Int32} {st wy hm : Int32} {late : Int} {n : Nat} {row : List Nat} {last s : Nat} (h : rnC V g st wy hm late n last s) : rnG V g st wy hm late n row last s = rnO (V.1 3) (V.2 10) g hm (rnC V g st wy hm late) n (row ++ [s]) s := rnP_y h
section Ex
variable {V : VW} {g : Nat → Int32} {st wy : Int32} {k f : Nat} {late : Int} {m0 : MM}
theorem rnO_home {N : Nat} {fr g : Nat → Int32} {hm : Int32} {cd : Nat → Nat → Nat → Prop} {row : List Nat} {last : Nat} (h : g last = hm) : ∀ n, rnO N fr g hm cd n row last = rnP (2 ≤ row.length) [row]
  | 0 => rnP_cg ⟨fun z => z.2, fun z => ⟨h, z⟩⟩ (fun _ => rfl)
  | n + 1 => by
    show rnP _ _ ++ rnP _ _ = _
    rw [rnP_n (fun z : ¬ g last = hm ∧ ∀ i, i < row.length → fr (row.getD i 0) ≠ g last => z.1 h), List.append_nil]
    exact rnP_cg ⟨fun z => z.2, fun z => ⟨h, z⟩⟩ (fun _ => rfl)
set_option maxRecDepth 100000 in
set_option maxHeartbeats 16000000 in
theorem r_extend (hX0 : FX V g st wy k f late m0) (hW : Wf V) (hG : GW (V.1 3) g) (k6 : k ≤ 6) (f12 : f < 12) : ∀ (n : Nat) (row : List Nat) (last : Nat) (x : Int64) (L : List (List Nat)) (X : Nat) (m1 : MM), St wKe m0 m1 → FS L m1 → L.length ≤ 200 → row.length + n = k → 1 ≤ row.length → x.toInt = encN row → (∀ i, i < row.length → row.getD i 0 < V.1 3) → last < V.1 3 → SvX V row X →
    CV (n + 2) mX1_extend [.ref 49, .long x, .int (nI row.length), .int (nI last), .int (nI X)] m1 (fun m' => St wKe m0 m' ∧ FS (L ++ rnO (V.1 3) (V.2 10) g (nI f) (rnC V g st wy (nI f) late) n row last) m') := by
  have h40 := hW.1.2.2.2
  have e2 : (2 : Int32).toInt = 2 := rfl
  have e6 : (6 : Int32).toInt = 6 := rfl
  have e200 : (200 : Int32).toInt = 200 := rfl
  intro n
  induction n with
  | zero =>
    intro row last x L X m1 hS hF hL hk h1 hx hr hl hX
    have hX1 : FX V g st wy k f late m1 := hX0.fr hS.2.2 (by decide)
    have v4 : vp_in (nI last) 40 := vp_in_nI (by omega) (by decide)
    have ec : (nI last).toNatClampNeg = last := nI_clamp (by omega)
    have g1 : gI m1 163960 (nI last).toNatClampNeg = g last := by rw [ec]; exact (hX1.2.1 last hl).1
    refine At.gs okX1_extend 120 ?_
    (conv => whnf)
    refine And.intro v4 ?_
    (conv => whnf)
    refine And.intro (fun q => ?_) (fun q => ?_)
    · have q : ¬ gI m1 163960 (nI last).toNatClampNeg = gI m1 49 11 := q
      rw [g1, hX1.1.2.2.1] at q
      (conv => whnf)
      refine And.intro (fun q2 => ?_) (fun q2 => ?_)
      · have key : St wKe m0 m1 ∧ FS (L ++ rnO (V.1 3) (V.2 10) g (nI f) (rnC V g st wy (nI f) late) 0 row last) m1 := by
          refine ⟨hS, ?_⟩
          rw [show rnO (V.1 3) (V.2 10) g (nI f) (rnC V g st wy (nI f) late) 0 row last = [] from rnP_n (fun z => q z.1), List.append_nil]
          exact hF
        exact key
      · have q2 : ¬ gI m1 49 10 ≤ nI row.length := q2
        rw [hX1.1.2.1, le_i, nI_toInt (by omega), nI_toInt (by omega)] at q2
        omega
    · have q : gI m1 163960 (nI last).toNatClampNeg = gI m1 49 11 := q
      rw [g1, hX1.1.2.2.1] at q
      (conv => whnf)
      refine And.intro (fun q2 => ?_) (fun q2 => ?_)
      · have q2 : nI row.length < 2 := q2
        rw [lt_i, nI_toInt (by omega), e2] at q2
        have key : St wKe m0 m1 ∧ FS (L ++ rnO (V.1 3) (V.2 10) g (nI f) (rnC V g st wy (nI f) late) 0 row last) m1 := by
          refine ⟨hS, ?_⟩
          rw [rnO_home q, rnP_n (by omega), List.append_nil]
          exact hF
        exact key
      · have q2 : ¬ nI row.length < 2 := q2
        rw [lt_i, nI_toInt (by omega), e2] at q2
        (conv => whnf)
        refine ⟨1, (show 1 < 0 + 2 by decide), _, r_keep hS.1 hF hL hx (fun i hi => by have := hr i hi; omega) (by omega), ?_⟩
        rintro m2 ⟨S2, F2⟩
        have key : St wKe m0 m2 ∧ FS (L ++ rnO (V.1 3) (V.2 10) g (nI f) (rnC V g st wy (nI f) late) 0 row last) m2 := by
          refine ⟨hS.tr S2 (fun _ z => z), ?_⟩
          rw [rnO_home q, rnP_y (by omega)]
          exact F2
        exact key
  | succ n ih =>
    intro row last x L X m1 hS hF hL hk h1 hx hr hl hX
    have hX1 : FX V g st wy k f late m1 := hX0.fr hS.2.2 (by decide)
    have v4 : vp_in (nI last) 40 := vp_in_nI (by omega) (by decide)
    have ec : (nI last).toNatClampNeg = last := nI_clamp (by omega)
    have g1 : gI m1 163960 (nI last).toNatClampNeg = g last := by rw [ec]; exact (hX1.2.1 last hl).1
    obtain ⟨t, t12, ht⟩ := hG last hl
    have hX31 : X < 2 ^ 31 := by have := hX.1; omega
    refine At.gs okX1_extend 160 ?_
    (conv => whnf)
    refine And.intro v4 ?_
    (conv => whnf)
    refine And.intro (fun q => ?_) (fun q => ?_)
    case refine_2 =>
      have q : gI m1 163960 (nI last).toNatClampNeg = gI m1 49 11 := q
      rw [g1, hX1.1.2.2.1] at q
      (conv => whnf)
      refine And.intro (fun q2 => ?_) (fun q2 => ?_)
      · have q2 : nI row.length < 2 := q2
        rw [lt_i, nI_toInt (by omega), e2] at q2
        have key : St wKe m0 m1 ∧ FS (L ++ rnO (V.1 3) (V.2 10) g (nI f) (rnC V g st wy (nI f) late) (n + 1) row last) m1 := by
          refine ⟨hS, ?_⟩
          rw [rnO_home q, rnP_n (by omega), List.append_nil]
          exact hF
        exact key
      · have q2 : ¬ nI row.length < 2 := q2
        rw [lt_i, nI_toInt (by omega), e2] at q2
        (conv => whnf)
        refine ⟨1, (show 1 < n + 1 + 2 by omega), _, r_keep hS.1 hF hL hx (fun i hi => by have := hr i hi; omega) (by omega), ?_⟩
        rintro m2 ⟨S2, F2⟩
        have key : St wKe m0 m2 ∧ FS (L ++ rnO (V.1 3) (V.2 10) g (nI f) (rnC V g st wy (nI f) late) (n + 1) row last) m2 := by
          refine ⟨hS.tr S2 (fun _ z => z), ?_⟩
          rw [rnO_home q, rnP_y (by omega)]
          exact F2
        exact key
    have q : ¬ gI m1 163960 (nI last).toNatClampNeg = gI m1 49 11 := q
    rw [g1, hX1.1.2.2.1] at q
    have eO : rnO (V.1 3) (V.2 10) g (nI f) (rnC V g st wy (nI f) late) (n + 1) row last = rnP (¬ g last = nI f ∧ ∀ i, i < row.length → V.2 10 (row.getD i 0) ≠ g last) (rnF (rnG V g st wy (nI f) late n row last) (V.1 3)) := by
      show rnP _ _ ++ rnP _ _ = _
      rw [rnP_n (fun z : g last = nI f ∧ 2 ≤ row.length => q z.1), List.nil_append]
      rfl
    (conv => whnf)
    refine And.intro (fun q2 => ?_) (fun q2 => ?_)
    · have q2 : gI m1 49 10 ≤ nI row.length := q2
      rw [hX1.1.2.1, le_i, nI_toInt (by omega), nI_toInt (by omega)] at q2
      omega
    (conv => whnf)
    refine And.intro (fun q3 => ?_) (fun q3 => ?_)
    · have q3 : 6 ≤ nI row.length := q3
      rw [le_i, nI_toInt (by omega), e6] at q3
      omega
    (conv => whnf)
    refine And.intro v4 ?_
    (conv => whnf)
    have tX : bt (nI X) (gI m1 163960 (nI last).toNatClampNeg) = 0 ↔ ∀ i, i < row.length → V.2 10 (row.getD i 0) ≠ g last := by
      rw [g1, ht, bt_tb hX31 (by omega), hX.2 t t12]
    refine And.intro (fun q4 => ?_) (fun q4 => ?_)
    case refine_2 =>
      have q4 : ¬ bt (nI X) (gI m1 163960 (nI last).toNatClampNeg) = 0 := q4
      have key : St wKe m0 m1 ∧ FS (L ++ rnO (V.1 3) (V.2 10) g (nI f) (rnC V g st wy (nI f) late) (n + 1) row last) m1 := by
        refine ⟨hS, ?_⟩
        rw [eO, rnP_n (fun z => q4 (tX.mpr z.2)), List.append_nil]
        exact hF
      exact key
    have q4 : bt (nI X) (gI m1 163960 (nI last).toNatClampNeg) = 0 := q4
    have nd := tX.mp q4
    rw [rnP_y ⟨q, nd⟩] at eO
    rw [eO]
    have ix : gI m1 49 11 * 6 + gI m1 49 10 - nI row.length = nI (f * 6 + (n + 1)) := by
      rw [hX1.1.2.2.1, hX1.1.2.1]
      show nI f * nI 6 + nI k - nI row.length = _
      rw [pk_mul, nI_add, pk_sub (by omega), show f * 6 + k - row.length = f * 6 + (n + 1) by omega]
    have v72 : vp_in (gI m1 49 11 * 6 + gI m1 49 10 - nI row.length) 72 := by rw [ix]; exact vp_in_nI (by omega) (by decide)
    have ixc : (gI m1 49 11 * 6 + gI m1 49 10 - nI row.length).toNatClampNeg = f * 6 + (n + 1) := by rw [ix]; exact nI_clamp (by omega)
    (conv => whnf)
    refine And.intro v4 ?_
    (conv => whnf)
    refine And.intro v72 ?_
    (conv => whnf)
    have lp : ∀ (j s : Nat) (m2 : MM), s + j = V.1 3 → St wKe m0 m2 → FS (L ++ rnF (rnG V g st wy (nI f) late n row last) s) m2 →
        At (E0 (n + 1 + 2)) mX1_extend (qv (fun m' => St wKe m0 m' ∧ FS (L ++ rnF (rnG V g st wy (nI f) late n row last) (V.1 3)) m')) 88 [.ref 49, .long x, .null, .int (nI row.length), .int (nI last), .int (nI X), .long (gJ m1 164009 (nI last).toNatClampNeg &&& gJ m1 295097 (gI m1 49 11 * 6 + gI m1 49 10 - nI row.length).toNatClampNeg), .null, .int (nI s)] [] m2 := by
      have nx : ∀ i, i < 64 → (tb (gJ m1 164009 (nI last).toNatClampNeg &&& gJ m1 295097 (gI m1 49 11 * 6 + gI m1 49 10 - nI row.length).toNatClampNeg) i = true ↔ i < V.1 3 ∧ rnL V g st wy last i ∧ rnN (V.1 3) g (nI f) (rnL V g st wy) (rnK V st wy) n i) := by
        intro i hi
        rw [tb_and, Bool.and_eq_true, ec, ixc, hX1.2.2.1 last hl i hi, hX1.2.2.2 (n + 1) (by omega) (by omega) i hi, Nat.add_sub_cancel]
        exact ⟨fun z => ⟨z.1.1, z.1.2, z.2.2⟩, fun z => ⟨⟨z.1, z.2.1⟩, z.1, z.2.2⟩⟩
      generalize gJ m1 164009 (nI last).toNatClampNeg &&& gJ m1 295097 (gI m1 49 11 * 6 + gI m1 49 10 - nI row.length).toNatClampNeg = y at nx
      intro j
      induction j with
      | zero =>
        intro s m2 hs hS2 hF2
        have hX2 : FX V g st wy k f late m2 := hX0.fr hS2.2.2 (by decide)
        refine At.ls okX1_extend 60 ⟨_, _, rfl⟩ ?_
        (conv => whnf)
        refine And.intro (fun p => ?_) (fun p => ?_)
        · rw [show s = V.1 3 by omega] at hF2
          exact ⟨hS2, hF2⟩
        · have p : ¬ gI m2 49 8 ≤ nI s := p
          rw [hX2.1.1, le_i, nI_toInt (by omega), nI_toInt (by omega)] at p
          omega
      | succ j ihj =>
        intro s m2 hs hS2 hF2
        have hX2 : FX V g st wy k f late m2 := hX0.fr hS2.2.2 (by decide)
        have vs : vp_in (nI s) 40 := vp_in_nI (by omega) (by decide)
        have sc : (nI s).toNatClampNeg = s := nI_clamp (by omega)
        have next : ∀ (m3 : MM), St wKe m0 m3 → FS (L ++ (rnF (rnG V g st wy (nI f) late n row last) s ++ rnG V g st wy (nI f) late n row last s)) m3 →
            At (E0 (n + 1 + 2)) mX1_extend (qv (fun m' => St wKe m0 m' ∧ FS (L ++ rnF (rnG V g st wy (nI f) late n row last) (V.1 3)) m')) 88 [.ref 49, .long x, .null, .int (nI row.length), .int (nI last), .int (nI X), .long y, .null, .int (nI s + 1)] [] m3 := by
          intro m3 hS3 hF3
          have z := ihj (s + 1) m3 (by omega) hS3 hF3
          rw [← nI_1] at z
          exact z
        refine At.ls okX1_extend 120 ⟨_, _, rfl⟩ ?_
        (conv => whnf)
        refine And.intro (fun p => ?_) (fun p => ?_)
        · have p : gI m2 49 8 ≤ nI s := p
          rw [hX2.1.1, le_i, nI_toInt (by omega), nI_toInt (by omega)] at p
          omega
        (conv => whnf)
        refine And.intro (fun p1 => ?_) (fun p1 => ?_)
        · have p1 : lg_cmp (ushJ y (nI s)) 0 = 0 := p1
          have none := tb_none (by omega) p1
          have key : St wKe m0 m2 ∧ FS (L ++ rnF (rnG V g st wy (nI f) late n row last) (V.1 3)) m2 := by
            refine ⟨hS2, ?_⟩
            rw [rnF_to (V.1 3) (show s ≤ V.1 3 by omega) (fun i i1 i2 => rnG_n (fun z => ?_))]
            · exact hF2
            · have := (nx i (by omega)).mpr ⟨i2, z.1, z.2.1⟩
              rw [none i i1] at this
              cases this
          exact key
        (conv => whnf)
        refine And.intro (fun p2 => ?_) (fun p2 => ?_)
        · have p2 : (200 : Int32) < gI m2 49 9 := p2
          rw [hF2.1, lt_i, e200, nI_toInt (by omega)] at p2
          have key : St wKe m0 m2 ∧ FS (L ++ rnF (rnG V g st wy (nI f) late n row last) (V.1 3)) m2 := by
            refine ⟨hS2, ?_⟩
            obtain ⟨r, hr2⟩ := rnF_pre (f := fun s => rnG V g st wy (nI f) late n row last s) (V.1 3) (show s ≤ V.1 3 by omega)
            rw [hr2, ← List.append_assoc]
            exact hF2.more (by omega)
          exact key
        have p2 : ¬ (200 : Int32) < gI m2 49 9 := p2
        rw [hF2.1, lt_i, e200, nI_toInt (by omega)] at p2
        (conv => whnf)
        refine And.intro (fun p3 => ?_) (fun p3 => ?_)
        · have p3 : lg_cmp (ushJ y (nI s) &&& 1) 0 = 0 := p3
          rw [tb_test (by omega)] at p3
          (conv => whnf)
          refine And.intro rfl (next m2 hS2 ?_)
          rw [rnG_n (fun z => ?_), List.append_nil]
          · exact hF2
          · have := (nx s (by omega)).mpr ⟨by omega, z.1, z.2.1⟩
            rw [p3] at this
            cases this
        have p3 : ¬ lg_cmp (ushJ y (nI s) &&& 1) 0 = 0 := p3
        rw [tb_test (by omega), Bool.not_eq_false] at p3
        obtain ⟨-, b1, b2⟩ := (nx s (by omega)).mp p3
        (conv => whnf)
        refine And.intro vs ?_
        (conv => whnf)
        have d15 : gI m2 163976 (nI s).toNatClampNeg = V.2 15 s := by rw [sc]; exact (hX2.2.1 s (by omega)).2
        refine And.intro (fun p4 => ?_) (fun p4 => ?_)
        · have p4 : gI m2 49 12 < gI m2 163976 (nI s).toNatClampNeg := p4
          rw [d15, lt_i, hX2.1.2.2.2] at p4
          (conv => whnf)
          refine And.intro rfl (next m2 hS2 ?_)
          rw [rnG_n (fun z => ?_), List.append_nil]
          · exact hF2
          · have := z.2.2
            omega
        have p4 : ¬ gI m2 49 12 < gI m2 163976 (nI s).toNatClampNeg := p4
        rw [d15, lt_i, hX2.1.2.2.2] at p4
        have cs : rnC V g st wy (nI f) late n last s := ⟨b1, b2, by omega⟩
        have g2 : gI m2 163960 (nI last).toNatClampNeg = nI t := by rw [ec, (hX2.2.1 last hl).1, ht]
        have sv : nI X ||| (1 : Int32) <<< (gI m2 163960 (nI last).toNatClampNeg &&& 31) = nI (X ||| 2 ^ t) := by rw [g2, shl1 (by omega), nI_or]
        have es : V.2 10 s = nI t := by rw [b1.2.2.1]; exact ht
        have ll : nI row.length + 1 = nI (row ++ [s]).length := by rw [len_r, nI_1]
        have hc : CV (n + 2) mX1_extend [.ref 49, .long (x ||| ((nI s).toInt64 <<< ((6 * nI row.length).toInt64 &&& 63))), .int (nI row.length + 1), .int (nI s), .int (nI X ||| (1 : Int32) <<< (gI m2 163960 (nI last).toNatClampNeg &&& 31))] m2 (fun m' => St wKe m0 m' ∧ FS ((L ++ rnF (rnG V g st wy (nI f) late n row last) s) ++ rnO (V.1 3) (V.2 10) g (nI f) (rnC V g st wy (nI f) late) n (row ++ [s]) s) m') := by
          rw [sv, ll]
          exact ih (row ++ [s]) s _ _ (X ||| 2 ^ t) m2 hS2 hF2 (by omega) (by rw [len_r]; omega) (by rw [len_r]; omega) (enc_go hx (fun i hi => by have := hr i hi; omega) (by omega) (by omega)) (fun i hi => by
            rw [len_r] at hi
            by_cases z : i < row.length
            · rw [gD_l z]; exact hr i z
            · rw [show i = row.length by omega, gD_r]; omega) (by omega) (hX.go t12 es)
        (conv => whnf)
        refine And.intro v4 ?_
        (conv => whnf)
        refine ⟨n + 2, (show n + 2 < n + 1 + 2 by omega), _, hc, ?_⟩
        rintro m3 ⟨S3, F3⟩
        (conv => whnf)
        refine And.intro rfl (next m3 S3 ?_)
        rw [rnG_y cs, ← List.append_assoc]
        exact F3
    exact And.intro rfl (lp (V.1 3) 0 m1 (by omega) hS (by rw [show rnF _ 0 = [] from rfl, List.append_nil]; exact hF))
end Ex
