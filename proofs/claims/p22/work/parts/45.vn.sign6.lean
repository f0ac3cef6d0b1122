/-! signs of a firm: of both -/
/-- sold for less than it was bought for -/
def SG1 (V : VW) (f : Nat) : Prop := ∃ s, s < V.1 3 ∧ V.2 10 s = nI f ∧ ∃ b, b < V.1 3 ∧ V.2 11 b = nI f ∧ V.2 13 b = V.2 13 s ∧ (V.2 15 b).toInt ≤ (V.2 15 s).toInt ∧ (V.2 14 s).toInt < (V.2 14 b).toInt
/-- bought from one that is missing -/
def BFM (V : VW) (ru : Int32) (f : Int32) : Prop := ∃ s, s < V.1 3 ∧ V.2 11 s = f ∧ misB V ru (V.2 10 s).toNatClampNeg = true
def SG2 (V : VW) (ru : Int32) (f : Nat) : Prop := (∃ s, s < V.1 3 ∧ V.2 11 s = nI f) ∧ ∀ s, s < V.1 3 → V.2 11 s = nI f → misB V ru (V.2 10 s).toNatClampNeg = true ∨ BFM V ru (V.2 10 s)
/-- in how many rounds -/
def rwP (V : VW) (f : Nat) (L : List (List Nat)) : Nat → Int32
  | 0 => 0
  | n + 1 => rwP V f L n + bt (frmP V (L.getD n []) (L.getD n []).length) (nI f)
def SG4 (V : VW) (f : Nat) (L : List (List Nat)) : Prop := 2 ≤ (rwP V f L L.length).toInt
def SG8 (V : VW) (p : Nat → Nat) (ru : Int32) (f : Nat) : Prop := ∃ t, t < V.1 2 ∧ t ≠ f ∧ p t = p f ∧ misB V ru t = true
def sgN (a b c d : Bool) : Nat := (if a = true then 1 else 0) + (if b = true then 2 else 0) + (if c = true then 4 else 0) + (if d = true then 8 else 0)
theorem sgN_lt (a b c d : Bool) : sgN a b c d < 16 := by cases a <;> cases b <;> cases c <;> cases d <;> decide
/-- the signs of a firm -/
def SgR (V : VW) (p : Nat → Nat) (ru : Int32) (L : List (List Nat)) (f : Nat) (r : Int32) : Prop := ∃ a b c d : Bool, (a = true ↔ SG1 V f) ∧ (b = true ↔ SG2 V ru f) ∧ (c = true ↔ SG4 V f L) ∧ (d = true ↔ SG8 V p ru f) ∧ r = nI (sgN a b c d)
theorem bool_1 {a b : Bool} {P : Prop} (h1 : a = true ↔ P) (h2 : b = true ↔ P) : a = b := by
  cases a with
  | true => exact (h2.mpr (h1.mp rfl)).symm
  | false =>
    cases b with
    | false => rfl
    | true => exact absurd (h1.mpr (h2.mp rfl)) (by decide)
theorem SG8_1 {V : VW} {p p' : Nat → Nat} {ru : Int32} {f : Nat} (hf : f < V.1 2) (h : ∀ f, f < V.1 2 → p f = p' f) : SG8 V p ru f ↔ SG8 V p' ru f := by
  constructor
  · rintro ⟨t, a, b, c, d⟩
    exact ⟨t, a, b, by rw [← h t a, ← h f hf]; exact c, d⟩
  · rintro ⟨t, a, b, c, d⟩
    exact ⟨t, a, b, by rw [h t a, h f hf]; exact c, d⟩
theorem SgR_1 {V : VW} {p p' : Nat → Nat} {ru : Int32} {L : List (List Nat)} {f : Nat} {r1 r2 : Int32} (hf : f < V.1 2) (h : ∀ f, f < V.1 2 → p f = p' f) (h1 : SgR V p ru L f r1) (h2 : SgR V p' ru L f r2) : r1 = r2 := by
  obtain ⟨a, b, c, d, a1, b1, c1, d1, e1⟩ := h1
  obtain ⟨a', b', c', d', a2, b2, c2, d2, e2⟩ := h2
  rw [e1, e2, bool_1 a1 a2, bool_1 b1 b2, bool_1 c1 c2, bool_1 d1 ((d2.trans (SG8_1 hf h).symm))]
theorem SgR_to {V : VW} {p p' : Nat → Nat} {ru : Int32} {L : List (List Nat)} {f : Nat} {r : Int32} (hf : f < V.1 2) (h : ∀ f, f < V.1 2 → p f = p' f) (h1 : SgR V p ru L f r) : SgR V p' ru L f r := by
  obtain ⟨a, b, c, d, a1, b1, c1, d1, e1⟩ := h1
  exact ⟨a, b, c, d, a1, b1, c1, d1.trans (SG8_1 hf h), e1⟩
theorem nI_andN (a b : Nat) : nI a &&& nI b = nI (a &&& b) := by
  apply Int32.toBitVec_inj.1
  show BitVec.ofNat 32 a &&& BitVec.ofNat 32 b = BitVec.ofNat 32 (a &&& b)
  apply BitVec.eq_of_getLsbD_eq
  intro i hi
  simp [hi]
/-- a set of firms in an int -/
def StX (X : Nat) (c : Nat → Prop) : Prop := X < 4096 ∧ ∀ t, t < 12 → (X.testBit t = true ↔ c t)
theorem StX.bt {X : Nat} {c : Nat → Prop} (h : StX X c) {t : Nat} (ht : t < 12) : ¬ bt (nI X) (nI t) = 0 ↔ c t := by
  rw [bt_tb (by have := h.1; omega) (by omega), Bool.not_eq_false]
  exact h.2 t ht
theorem StX.put {X f : Nat} {c c' : Nat → Prop} (h : StX X c) (hf : f < 12) (hc : ∀ t, t < 12 → (c' t ↔ c t ∨ t = f)) : StX (X ||| 2 ^ f) c' := by
  refine ⟨?_, fun t ht => ?_⟩
  · have h1 : 2 ^ f < 2 ^ 12 := Nat.pow_lt_pow_right (by decide) hf
    exact Nat.or_lt_two_pow (show X < 2 ^ 12 from h.1) h1
  · rw [or_tb, Bool.or_eq_true, h.2 t ht, decide_eq_true_iff, hc t ht]
    constructor
    · rintro (z | z)
      · exact Or.inl z
      · exact Or.inr z.symm
    · rintro (z | z)
      · exact Or.inl z
      · exact Or.inr z.symm
theorem StX.cg {X : Nat} {c c' : Nat → Prop} (h : StX X c) (hc : ∀ t, t < 12 → (c' t ↔ c t)) : StX X c' := ⟨h.1, fun t ht => (h.2 t ht).trans (hc t ht).symm⟩
theorem StX.no {c : Nat → Prop} (hc : ∀ t, t < 12 → ¬ c t) : StX 0 c := ⟨by decide, fun t ht => by
  rw [Nat.zero_testBit]
  exact ⟨fun z => (by cases z), fun z => absurd z (hc t ht)⟩⟩
theorem StX.or {X Y : Nat} {c e : Nat → Prop} (h : StX X c) (h2 : StX Y e) : StX (X ||| Y) (fun t => c t ∨ e t) := ⟨Nat.or_lt_two_pow (show X < 2 ^ 12 from h.1) (show Y < 2 ^ 12 from h2.1), fun t ht => by rw [Nat.testBit_or, Bool.or_eq_true, h.2 t ht, h2.2 t ht]⟩
theorem StX.meet {X Y : Nat} {c e : Nat → Prop} (h : StX X c) (h2 : StX Y e) : nI X &&& nI Y = 0 ↔ ¬ ∃ t, t < 12 ∧ c t ∧ e t := by
  rw [nI_andN]
  have hlt : X &&& Y < 4096 := Nat.lt_of_le_of_lt Nat.and_le_left h.1
  constructor
  · rintro z ⟨t, t1, t2, t3⟩
    have z : X &&& Y = 0 := nI_inj (b := 0) (by omega) (by omega) z
    have : (X &&& Y).testBit t = true := by rw [Nat.testBit_and, (h.2 t t1).mpr t2, (h2.2 t t1).mpr t3]; rfl
    rw [z, Nat.zero_testBit] at this
    cases this
  · intro z
    have e0 : X &&& Y = 0 := by
      refine Nat.eq_of_testBit_eq (fun t => ?_)
      rw [Nat.zero_testBit, Nat.testBit_and]
      by_cases q : t < 12
      · cases h3 : X.testBit t with
        | false => rfl
        | true =>
          cases h4 : Y.testBit t with
          | false => rfl
          | true => exact absurd ⟨t, q, (h.2 t q).mp h3, (h2.2 t q).mp h4⟩ z
      · have : X.testBit t = false := Nat.testBit_lt_two_pow (Nat.lt_of_lt_of_le h.1 (show 2 ^ 12 ≤ 2 ^ t from Nat.pow_le_pow_right (by decide) (by omega)))
        rw [this]
        rfl
    rw [e0]
    rfl
theorem StX.bs {p : Nat → Bool} {n : Nat} (hn : n ≤ 12) : StX (bsN p n) (fun t => t < n ∧ p t = true) := by
  refine ⟨Nat.lt_of_lt_of_le (bsN_lt p n) (show 2 ^ n ≤ 2 ^ 12 from Nat.pow_le_pow_right (by decide) hn), fun t _ => ?_⟩
  rw [Nat.testBit_eq_decide_div_mod_eq, bsN_bit, decide_eq_true_iff]
  by_cases q : t < n ∧ p t = true
  · rw [if_pos q]; exact ⟨fun _ => q, fun _ => rfl⟩
  · rw [if_neg q]; exact ⟨fun z => absurd z (by decide), fun z => absurd z q⟩
section SgC
variable {m : MM} {f : Nat}
set_option maxRecDepth 100000 in
set_option maxHeartbeats 8000000 in
theorem r_dearer_336 (hM : Mok TYg m) (h : SB 336 m) {s : Nat} (hs : s < (vw m).1 3) : CI 1 mX4_boughtDearer [.ref 452, .int (nI f), .int (nI s)] m (fun r m' => m' = m ∧ z1 (∃ b, b < (vw m).1 3 ∧ (vw m).2 11 b = nI f ∧ (vw m).2 13 b = (vw m).2 13 s ∧ ((vw m).2 15 b).toInt ≤ ((vw m).2 15 s).toInt ∧ ((vw m).2 14 s).toInt < ((vw m).2 14 b).toInt) r) := by
  have h40 := h.2.2.2.2.2.1.2.2.2
  have e2 : gI m 452 7 = gI m 1175 6 := h.1 3 (by decide)
  have c2 : gI m 452 7 = nI ((vw m).1 3) := nI_back (by rw [e2]; exact vw3 hM)
  have rr : ∀ r i, r < 17 → r ≠ 9 → own r = 3 → i < (vw m).1 3 → gI m (rowC 336 r) (nI i).toNatClampNeg = (vw m).2 r i := fun r i hr h9 ho hi => by
    rw [nI_clamp (by omega)]
    exact h.2.1 r hr h9 i (by rw [ho]; exact hi)
  have vs : vp_in (nI s) 40 := vp_in_nI (by omega) (by decide)
  have s13 : gI m 164360 (nI s).toNatClampNeg = (vw m).2 13 s := rr 13 s (by decide) (by decide) rfl hs
  have s14 : gI m 164376 (nI s).toNatClampNeg = (vw m).2 14 s := rr 14 s (by decide) (by decide) rfl hs
  have s15 : gI m 164392 (nI s).toNatClampNeg = (vw m).2 15 s := rr 15 s (by decide) (by decide) rfl hs
  have lp : ∀ (d b : Nat) (v4 : Value), b + d = (vw m).1 3 → (∀ j, j < b → ¬ ((vw m).2 11 j = nI f ∧ (vw m).2 13 j = (vw m).2 13 s ∧ ((vw m).2 15 j).toInt ≤ ((vw m).2 15 s).toInt ∧ ((vw m).2 14 s).toInt < ((vw m).2 14 j).toInt)) → At (E0 1) mX4_boughtDearer (qi (fun r m' => m' = m ∧ z1 (∃ b, b < (vw m).1 3 ∧ (vw m).2 11 b = nI f ∧ (vw m).2 13 b = (vw m).2 13 s ∧ ((vw m).2 15 b).toInt ≤ ((vw m).2 15 s).toInt ∧ ((vw m).2 14 s).toInt < ((vw m).2 14 b).toInt) r)) 2 [.ref 452, .int (nI f), .int (nI s), .int (nI b), v4] [] m := by
    intro d
    induction d with
    | zero =>
      intro b v4 hd hn
      refine At.ls okX4_boughtDearer 60 ⟨_, _, rfl⟩ ?_
      (conv => whnf)
      refine And.intro (fun p => ?_) (fun p => ?_)
      · refine ⟨Or.inl rfl, rfl, Or.inr ⟨?_, rfl⟩⟩
        rintro ⟨j, j1, j2⟩
        exact hn j (by omega) j2
      · have p : ¬ gI m 452 7 ≤ nI b := p
        rw [c2, le_i, nI_toInt (by omega), nI_toInt (by omega)] at p
        omega
    | succ d ih =>
      intro b v4 hd hn
      have hb : b < (vw m).1 3 := by omega
      have vb : vp_in (nI b) 40 := vp_in_nI (by omega) (by decide)
      have b11 : gI m 164328 (nI b).toNatClampNeg = (vw m).2 11 b := rr 11 b (by decide) (by decide) rfl hb
      have b13 : gI m 164360 (nI b).toNatClampNeg = (vw m).2 13 b := rr 13 b (by decide) (by decide) rfl hb
      have b14 : gI m 164376 (nI b).toNatClampNeg = (vw m).2 14 b := rr 14 b (by decide) (by decide) rfl hb
      have b15 : gI m 164392 (nI b).toNatClampNeg = (vw m).2 15 b := rr 15 b (by decide) (by decide) rfl hb
      have next : ∀ v : Value, ¬ ((vw m).2 11 b = nI f ∧ (vw m).2 13 b = (vw m).2 13 s ∧ ((vw m).2 15 b).toInt ≤ ((vw m).2 15 s).toInt ∧ ((vw m).2 14 s).toInt < ((vw m).2 14 b).toInt) → At (E0 1) mX4_boughtDearer (qi (fun r m' => m' = m ∧ z1 (∃ b, b < (vw m).1 3 ∧ (vw m).2 11 b = nI f ∧ (vw m).2 13 b = (vw m).2 13 s ∧ ((vw m).2 15 b).toInt ≤ ((vw m).2 15 s).toInt ∧ ((vw m).2 14 s).toInt < ((vw m).2 14 b).toInt) r)) 2 [.ref 452, .int (nI f), .int (nI s), .int (nI b + 1), v] [] m := by
        intro v hb2
        have z := ih (b + 1) v (by omega) (fun j hj => by
          by_cases q : j = b
          · rw [q]; exact hb2
          · exact hn j (by omega))
        rw [← nI_1] at z
        exact z
      refine At.ls okX4_boughtDearer 100 ⟨_, _, rfl⟩ ?_
      (conv => whnf)
      refine And.intro (fun p => ?_) (fun p => ?_)
      · have p : gI m 452 7 ≤ nI b := p
        rw [c2, le_i, nI_toInt (by omega), nI_toInt (by omega)] at p
        omega
      (conv => whnf)
      refine And.intro vb ?_
      (conv => whnf)
      refine And.intro (fun p1 => ?_) (fun p1 => ?_)
      · have p1 : ¬ gI m 164328 (nI b).toNatClampNeg = nI f := p1
        rw [b11] at p1
        (conv => whnf)
        refine And.intro (fun _ => ?_) (fun z => absurd rfl z)
        (conv => whnf)
        exact And.intro rfl (next _ (fun z => p1 z.1))
      have p1 : gI m 164328 (nI b).toNatClampNeg = nI f := p1
      rw [b11] at p1
      (conv => whnf)
      refine And.intro vb ?_
      (conv => whnf)
      refine And.intro vs ?_
      (conv => whnf)
      refine And.intro (fun p2 => ?_) (fun p2 => ?_)
      · have p2 : ¬ gI m 164360 (nI b).toNatClampNeg = gI m 164360 (nI s).toNatClampNeg := p2
        rw [b13, s13] at p2
        (conv => whnf)
        refine And.intro (fun _ => ?_) (fun z => absurd rfl z)
        (conv => whnf)
        exact And.intro rfl (next _ (fun z => p2 z.2.1))
      have p2 : gI m 164360 (nI b).toNatClampNeg = gI m 164360 (nI s).toNatClampNeg := p2
      rw [b13, s13] at p2
      (conv => whnf)
      refine And.intro (fun z => absurd z (by decide)) (fun _ => ?_)
      (conv => whnf)
      refine And.intro vb ?_
      (conv => whnf)
      refine And.intro vs ?_
      (conv => whnf)
      refine And.intro (fun p3 => ?_) (fun p3 => ?_)
      · have p3 : gI m 164392 (nI s).toNatClampNeg < gI m 164392 (nI b).toNatClampNeg := p3
        rw [b15, s15, lt_i] at p3
        (conv => whnf)
        exact And.intro rfl (next _ (fun z => by have := z.2.2.1; omega))
      have p3 : ¬ gI m 164392 (nI s).toNatClampNeg < gI m 164392 (nI b).toNatClampNeg := p3
      rw [b15, s15, lt_i] at p3
      (conv => whnf)
      refine And.intro vb ?_
      (conv => whnf)
      refine And.intro vs ?_
      (conv => whnf)
      refine And.intro (fun p4 => ?_) (fun p4 => ?_)
      · have p4 : gI m 164376 (nI b).toNatClampNeg ≤ gI m 164376 (nI s).toNatClampNeg := p4
        rw [b14, s14, le_i] at p4
        (conv => whnf)
        exact And.intro rfl (next _ (fun z => by have := z.2.2.2; omega))
      · have p4 : ¬ gI m 164376 (nI b).toNatClampNeg ≤ gI m 164376 (nI s).toNatClampNeg := p4
        rw [b14, s14, le_i] at p4
        exact ⟨Or.inr rfl, rfl, Or.inl ⟨⟨b, hb, p1, p2, by omega, by omega⟩, rfl⟩⟩
  refine At.gs okX4_boughtDearer 60 ?_
  (conv => whnf)
  exact And.intro rfl (lp ((vw m).1 3) 0 _ (by omega) (fun j hj => absurd hj (Nat.not_lt_zero _)))
set_option maxRecDepth 100000 in
set_option maxHeartbeats 8000000 in
theorem r_below_336 (hM : Mok TYg m) (h : SB 336 m) : CI 2 mX4_soldBelow [.ref 452, .int (nI f)] m (fun r m' => m' = m ∧ z1 (SG1 (vw m) f) r) := by
  have h40 := h.2.2.2.2.2.1.2.2.2
  have e2 : gI m 452 7 = gI m 1175 6 := h.1 3 (by decide)
  have c2 : gI m 452 7 = nI ((vw m).1 3) := nI_back (by rw [e2]; exact vw3 hM)
  have lp : ∀ (d s : Nat), s + d = (vw m).1 3 → (∀ j, j < s → ¬ ((vw m).2 10 j = nI f ∧ ∃ b, b < (vw m).1 3 ∧ (vw m).2 11 b = nI f ∧ (vw m).2 13 b = (vw m).2 13 j ∧ ((vw m).2 15 b).toInt ≤ ((vw m).2 15 j).toInt ∧ ((vw m).2 14 j).toInt < ((vw m).2 14 b).toInt)) → At (E0 2) mX4_soldBelow (qi (fun r m' => m' = m ∧ z1 (SG1 (vw m) f) r)) 2 [.ref 452, .int (nI f), .int (nI s)] [] m := by
    intro d
    induction d with
    | zero =>
      intro s hd hn
      refine At.ls okX4_soldBelow 60 ⟨_, _, rfl⟩ ?_
      (conv => whnf)
      refine And.intro (fun p => ?_) (fun p => ?_)
      · refine ⟨Or.inl rfl, rfl, Or.inr ⟨?_, rfl⟩⟩
        rintro ⟨j, j1, j2⟩
        exact hn j (by omega) j2
      · have p : ¬ gI m 452 7 ≤ nI s := p
        rw [c2, le_i, nI_toInt (by omega), nI_toInt (by omega)] at p
        omega
    | succ d ih =>
      intro s hd hn
      have hs : s < (vw m).1 3 := by omega
      have c10 : gI m 164312 (nI s).toNatClampNeg = (vw m).2 10 s := by
        rw [nI_clamp (by omega)]
        exact h.2.1 10 (by decide) (by decide) s hs
      have next : ¬ ((vw m).2 10 s = nI f ∧ ∃ b, b < (vw m).1 3 ∧ (vw m).2 11 b = nI f ∧ (vw m).2 13 b = (vw m).2 13 s ∧ ((vw m).2 15 b).toInt ≤ ((vw m).2 15 s).toInt ∧ ((vw m).2 14 s).toInt < ((vw m).2 14 b).toInt) → At (E0 2) mX4_soldBelow (qi (fun r m' => m' = m ∧ z1 (SG1 (vw m) f) r)) 2 [.ref 452, .int (nI f), .int (nI s + 1)] [] m := by
        intro hb2
        have z := ih (s + 1) (by omega) (fun j hj => by
          by_cases q : j = s
          · rw [q]; exact hb2
          · exact hn j (by omega))
        rw [← nI_1] at z
        exact z
      refine At.ls okX4_soldBelow 60 ⟨_, _, rfl⟩ ?_
      (conv => whnf)
      refine And.intro (fun p => ?_) (fun p => ?_)
      · have p : gI m 452 7 ≤ nI s := p
        rw [c2, le_i, nI_toInt (by omega), nI_toInt (by omega)] at p
        omega
      (conv => whnf)
      refine And.intro (show vp_in (nI s) 40 from vp_in_nI (by omega) (by decide)) ?_
      (conv => whnf)
      refine And.intro (fun p1 => ?_) (fun p1 => ?_)
      · have p1 : ¬ gI m 164312 (nI s).toNatClampNeg = nI f := p1
        rw [c10] at p1
        (conv => whnf)
        exact And.intro rfl (next (fun z => p1 z.1))
      have p1 : gI m 164312 (nI s).toNatClampNeg = nI f := p1
      rw [c10] at p1
      (conv => whnf)
      refine ⟨1, by decide, _, r_dearer_336 (f := f) hM h hs, ?_⟩
      rintro r m' ⟨hmm, hr⟩; have hmm := hmm.symm; subst hmm
      (conv => whnf)
      refine And.intro (fun q => ?_) (fun q => ?_)
      · have q : r = 0 := q
        rcases hr with ⟨y1, y2⟩ | ⟨y1, y2⟩
        · rw [y2] at q; exact absurd q (by decide)
        · (conv => whnf)
          exact And.intro rfl (next (fun z => y1 z.2))
      · rcases hr with ⟨y1, y2⟩ | ⟨y1, y2⟩
        · exact ⟨Or.inr rfl, rfl, Or.inl ⟨⟨s, hs, p1, y1⟩, rfl⟩⟩
        · exact absurd y2 q
  refine At.gs okX4_soldBelow 60 ?_
  (conv => whnf)
  exact And.intro rfl (lp ((vw m).1 3) 0 (by omega) (fun j hj => absurd hj (Nat.not_lt_zero _)))
set_option maxRecDepth 100000 in
set_option maxHeartbeats 8000000 in
theorem r_buyers_336 (hM : Mok TYg m) (h : SB 336 m) {ms : Int32} : CI 1 mX4_buyersFrom [.ref 452, .int ms] m (fun r m' => m' = m ∧ ∃ X, r = nI X ∧ StX X (fun t => ∃ s, s < (vw m).1 3 ∧ ¬ bt ms ((vw m).2 10 s) = 0 ∧ (vw m).2 11 s = nI t)) := by
  have hW := h.2.2.2.2.2
  have h40 := hW.1.2.2.2
  have h12 := hW.1.2.2.1
  have e2 : gI m 452 7 = gI m 1175 6 := h.1 3 (by decide)
  have c2 : gI m 452 7 = nI ((vw m).1 3) := nI_back (by rw [e2]; exact vw3 hM)
  have lp : ∀ (d s X : Nat), s + d = (vw m).1 3 → StX X (fun t => ∃ j, j < s ∧ ¬ bt ms ((vw m).2 10 j) = 0 ∧ (vw m).2 11 j = nI t) → At (E0 1) mX4_buyersFrom (qi (fun r m' => m' = m ∧ ∃ X, r = nI X ∧ StX X (fun t => ∃ s, s < (vw m).1 3 ∧ ¬ bt ms ((vw m).2 10 s) = 0 ∧ (vw m).2 11 s = nI t))) 4 [.ref 452, .int ms, .int (nI X), .int (nI s)] [] m := by
    intro d
    induction d with
    | zero =>
      intro s X hd hX
      refine At.ls okX4_buyersFrom 60 ⟨_, _, rfl⟩ ?_
      (conv => whnf)
      refine And.intro (fun p => ?_) (fun p => ?_)
      · rw [show s = (vw m).1 3 by omega] at hX
        exact ⟨rfl, X, rfl, hX⟩
      · have p : ¬ gI m 452 7 ≤ nI s := p
        rw [c2, le_i, nI_toInt (by omega), nI_toInt (by omega)] at p
        omega
    | succ d ih =>
      intro s X hd hX
      have hs : s < (vw m).1 3 := by omega
      have vs : vp_in (nI s) 40 := vp_in_nI (by omega) (by decide)
      have c10 : gI m 164312 (nI s).toNatClampNeg = (vw m).2 10 s := by
        rw [nI_clamp (by omega)]
        exact h.2.1 10 (by decide) (by decide) s hs
      obtain ⟨t, t1, t2, t3⟩ := hW.tom hs
      have c11 : gI m 164328 (nI s).toNatClampNeg = nI t := by
        rw [nI_clamp (by omega), ← t2]
        exact h.2.1 11 (by decide) (by decide) s hs
      refine At.ls okX4_buyersFrom 80 ⟨_, _, rfl⟩ ?_
      (conv => whnf)
      refine And.intro (fun p => ?_) (fun p => ?_)
      · have p : gI m 452 7 ≤ nI s := p
        rw [c2, le_i, nI_toInt (by omega), nI_toInt (by omega)] at p
        omega
      (conv => whnf)
      refine And.intro vs ?_
      (conv => whnf)
      refine And.intro (fun q => ?_) (fun q => ?_)
      · have q : bt ms (gI m 164312 (nI s).toNatClampNeg) = 0 := q
        rw [c10] at q
        (conv => whnf)
        have z := ih (s + 1) X (by omega) (hX.cg (fun u _ => ⟨fun ⟨j, j1, j2, j3⟩ => ⟨j, by
          by_cases y : j = s
          · rw [y] at j2; exact absurd q j2
          · omega, j2, j3⟩, fun ⟨j, j1, j2, j3⟩ => ⟨j, by omega, j2, j3⟩⟩))
        rw [← nI_1] at z
        exact And.intro rfl z
      have q : ¬ bt ms (gI m 164312 (nI s).toNatClampNeg) = 0 := q
      rw [c10] at q
      (conv => whnf)
      refine And.intro vs ?_
      (conv => whnf)
      have z := ih (s + 1) (X ||| 2 ^ t) (by omega) (hX.put (show t < 12 by omega) (fun u hu => ⟨fun ⟨j, j1, j2, j3⟩ => by
        by_cases y : j = s
        · rw [y, t2] at j3
          exact Or.inr (nI_inj (by omega) (by omega) j3).symm
        · exact Or.inl ⟨j, by omega, j2, j3⟩, fun z => by
        rcases z with ⟨j, j1, j2, j3⟩ | z
        · exact ⟨j, by omega, j2, j3⟩
        · exact ⟨s, by omega, q, by rw [z]; exact t2⟩⟩))
      have e : nI X ||| (1 : Int32) <<< (gI m 164328 (nI s).toNatClampNeg &&& 31) = nI (X ||| 2 ^ t) := by rw [c11, shl1 (by omega), nI_or]
      rw [← e, ← nI_1] at z
      exact And.intro rfl z
  refine At.gs okX4_buyersFrom 60 ?_
  (conv => whnf)
  exact And.intro rfl (lp ((vw m).1 3) 0 0 (by omega) (StX.no (fun t _ z => by obtain ⟨j, j1, -⟩ := z; omega)))
set_option maxRecDepth 100000 in
set_option maxHeartbeats 8000000 in
theorem r_only_336 (hM : Mok TYg m) (h : SB 336 m) {S : Int32} : CI 1 mX4_boughtOnlyFrom [.ref 452, .int (nI f), .int S] m (fun r m' => m' = m ∧ z1 ((∃ s, s < (vw m).1 3 ∧ (vw m).2 11 s = nI f) ∧ ∀ s, s < (vw m).1 3 → (vw m).2 11 s = nI f → ¬ bt S ((vw m).2 10 s) = 0) r) := by
  have h40 := h.2.2.2.2.2.1.2.2.2
  have e2 : gI m 452 7 = gI m 1175 6 := h.1 3 (by decide)
  have c2 : gI m 452 7 = nI ((vw m).1 3) := nI_back (by rw [e2]; exact vw3 hM)
  have lp : ∀ (d s : Nat) (x : Int32), s + d = (vw m).1 3 → z1 (∃ j, j < s ∧ (vw m).2 11 j = nI f) x → (∀ j, j < s → (vw m).2 11 j = nI f → ¬ bt S ((vw m).2 10 j) = 0) → At (E0 1) mX4_boughtOnlyFrom (qi (fun r m' => m' = m ∧ z1 ((∃ s, s < (vw m).1 3 ∧ (vw m).2 11 s = nI f) ∧ ∀ s, s < (vw m).1 3 → (vw m).2 11 s = nI f → ¬ bt S ((vw m).2 10 s) = 0) r)) 5 [.ref 452, .int (nI f), .int S, .int x, .int (nI s)] [] m := by
    intro d
    induction d with
    | zero =>
      intro s x hd hx hn
      have es : s = (vw m).1 3 := by omega
      rw [es] at hx hn
      refine At.ls okX4_boughtOnlyFrom 60 ⟨_, _, rfl⟩ ?_
      (conv => whnf)
      refine And.intro (fun p => ?_) (fun p => ?_)
      · rcases hx with ⟨y1, y2⟩ | ⟨y1, y2⟩
        · rw [y2]; exact ⟨Or.inr rfl, rfl, Or.inl ⟨⟨y1, hn⟩, rfl⟩⟩
        · rw [y2]; exact ⟨Or.inl rfl, rfl, Or.inr ⟨fun z => y1 z.1, rfl⟩⟩
      · have p : ¬ gI m 452 7 ≤ nI s := p
        rw [c2, le_i, nI_toInt (by omega), nI_toInt (by omega)] at p
        omega
    | succ d ih =>
      intro s x hd hx hn
      have hs : s < (vw m).1 3 := by omega
      have vs : vp_in (nI s) 40 := vp_in_nI (by omega) (by decide)
      have c10 : gI m 164312 (nI s).toNatClampNeg = (vw m).2 10 s := by
        rw [nI_clamp (by omega)]
        exact h.2.1 10 (by decide) (by decide) s hs
      have c11 : gI m 164328 (nI s).toNatClampNeg = (vw m).2 11 s := by
        rw [nI_clamp (by omega)]
        exact h.2.1 11 (by decide) (by decide) s hs
      refine At.ls okX4_boughtOnlyFrom 80 ⟨_, _, rfl⟩ ?_
      (conv => whnf)
      refine And.intro (fun p => ?_) (fun p => ?_)
      · have p : gI m 452 7 ≤ nI s := p
        rw [c2, le_i, nI_toInt (by omega), nI_toInt (by omega)] at p
        omega
      (conv => whnf)
      refine And.intro vs ?_
      (conv => whnf)
      refine And.intro (fun p1 => ?_) (fun p1 => ?_)
      · have p1 : ¬ gI m 164328 (nI s).toNatClampNeg = nI f := p1
        rw [c11] at p1
        (conv => whnf)
        have z := ih (s + 1) x (by omega) (by
          rcases hx with ⟨⟨j, j1, j2⟩, y2⟩ | ⟨y1, y2⟩
          · exact Or.inl ⟨⟨j, by omega, j2⟩, y2⟩
          · refine Or.inr ⟨?_, y2⟩
            rintro ⟨j, j1, j2⟩
            by_cases y : j = s
            · rw [y] at j2; exact p1 j2
            · exact y1 ⟨j, by omega, j2⟩) (fun j j1 j2 => by
          by_cases y : j = s
          · rw [y] at j2; exact absurd j2 p1
          · exact hn j (by omega) j2)
        rw [← nI_1] at z
        exact And.intro rfl z
      have p1 : gI m 164328 (nI s).toNatClampNeg = nI f := p1
      rw [c11] at p1
      (conv => whnf)
      refine And.intro vs ?_
      (conv => whnf)
      refine And.intro (fun q => ?_) (fun q => ?_)
      · have q : ¬ bt S (gI m 164312 (nI s).toNatClampNeg) = 0 := q
        rw [c10] at q
        (conv => whnf)
        have z := ih (s + 1) 1 (by omega) (Or.inl ⟨⟨s, by omega, p1⟩, rfl⟩) (fun j j1 j2 => by
          by_cases y : j = s
          · rw [y]; exact q
          · exact hn j (by omega) j2)
        rw [← nI_1] at z
        exact And.intro rfl z
      · have q : bt S (gI m 164312 (nI s).toNatClampNeg) = 0 := q
        rw [c10] at q
        exact ⟨Or.inl rfl, rfl, Or.inr ⟨fun z => z.2 s hs p1 q, rfl⟩⟩
  refine At.gs okX4_boughtOnlyFrom 60 ?_
  (conv => whnf)
  exact And.intro rfl (lp ((vw m).1 3) 0 0 (by omega) (Or.inr ⟨fun z => by obtain ⟨j, j1, -⟩ := z; omega, rfl⟩) (fun j hj => absurd hj (Nat.not_lt_zero _)))
set_option maxRecDepth 100000 in
set_option maxHeartbeats 8000000 in
theorem r_partners_336 (hM : Mok TYg m) (h : SB 336 m) {p : Nat → Nat} (hp : ∀ f, f < (vw m).1 2 → gI m 49848 f = nI (p f)) (hpl : ∀ f, f < (vw m).1 2 → p f ≤ f) (hf : f < (vw m).1 2) : CI 1 mX0_partners [.ref 336, .int (nI f)] m (fun r m' => m' = m ∧ ∃ X, r = nI X ∧ StX X (fun t => t < (vw m).1 2 ∧ t ≠ f ∧ p t = p f)) := by
  have hW := h.2.2.2.2.2
  have h12 := hW.1.2.2.1
  have e2 : gI m 418 1 = gI m 1175 5 := h.1 2 (by decide)
  have c2 : gI m 418 1 = nI ((vw m).1 2) := nI_back (by rw [e2]; exact vw2 hM)
  have vf : vp_in (nI f) 12 := vp_in_nI (by omega) (by decide)
  have pf : gI m 49848 (nI f).toNatClampNeg = nI (p f) := by rw [nI_clamp (by omega)]; exact hp f hf
  have lp : ∀ (d t X : Nat), t + d = (vw m).1 2 → StX X (fun u => u < t ∧ u ≠ f ∧ p u = p f) → At (E0 1) mX0_partners (qi (fun r m' => m' = m ∧ ∃ X, r = nI X ∧ StX X (fun t => t < (vw m).1 2 ∧ t ≠ f ∧ p t = p f))) 4 [.ref 336, .int (nI f), .int (nI X), .int (nI t)] [] m := by
    intro d
    induction d with
    | zero =>
      intro t X hd hX
      refine At.ls okX0_partners 60 ⟨_, _, rfl⟩ ?_
      (conv => whnf)
      refine And.intro (fun q => ?_) (fun q => ?_)
      · rw [show t = (vw m).1 2 by omega] at hX
        exact ⟨rfl, X, rfl, hX⟩
      · have q : ¬ gI m 418 1 ≤ nI t := q
        rw [c2, le_i, nI_toInt (by omega), nI_toInt (by omega)] at q
        omega
    | succ d ih =>
      intro t X hd hX
      have vt : vp_in (nI t) 12 := vp_in_nI (by omega) (by decide)
      have pt : gI m 49848 (nI t).toNatClampNeg = nI (p t) := by rw [nI_clamp (by omega)]; exact hp t (by omega)
      have lt1 := hpl t (by omega)
      have lf1 := hpl f hf
      have skip : ¬ (t ≠ f ∧ p t = p f) → At (E0 1) mX0_partners (qi (fun r m' => m' = m ∧ ∃ X, r = nI X ∧ StX X (fun t => t < (vw m).1 2 ∧ t ≠ f ∧ p t = p f))) 4 [.ref 336, .int (nI f), .int (nI X), .int (nI t + 1)] [] m := by
        intro hn
        have z := ih (t + 1) X (by omega) (hX.cg (fun u _ => ⟨fun y => ⟨by
          by_cases e : u = t
          · rw [e] at y; exact absurd y.2 hn
          · omega, y.2⟩, fun y => ⟨by omega, y.2⟩⟩))
        rw [← nI_1] at z
        exact z
      refine At.ls okX0_partners 80 ⟨_, _, rfl⟩ ?_
      (conv => whnf)
      refine And.intro (fun q => ?_) (fun q => ?_)
      · have q : gI m 418 1 ≤ nI t := q
        rw [c2, le_i, nI_toInt (by omega), nI_toInt (by omega)] at q
        omega
      (conv => whnf)
      refine And.intro (fun q1 => ?_) (fun q1 => ?_)
      · have q1 : nI t = nI f := q1
        (conv => whnf)
        exact And.intro rfl (skip (fun z => z.1 (nI_inj (by omega) (by omega) q1)))
      have q1 : ¬ nI t = nI f := q1
      have q1 : t ≠ f := fun z => q1 (by rw [z])
      (conv => whnf)
      refine And.intro vt ?_
      (conv => whnf)
      refine And.intro vf ?_
      (conv => whnf)
      refine And.intro (fun q2 => ?_) (fun q2 => ?_)
      · have q2 : ¬ gI m 49848 (nI t).toNatClampNeg = gI m 49848 (nI f).toNatClampNeg := q2
        rw [pt, pf] at q2
        (conv => whnf)
        exact And.intro rfl (skip (fun z => q2 (by rw [z.2])))
      · have q2 : gI m 49848 (nI t).toNatClampNeg = gI m 49848 (nI f).toNatClampNeg := q2
        rw [pt, pf] at q2
        have q2 := nI_inj (by omega) (by omega) q2
        (conv => whnf)
        have z := ih (t + 1) (X ||| 2 ^ t) (by omega) (hX.put (show t < 12 by omega) (fun u hu => ⟨fun y => by
          by_cases e : u = t
          · exact Or.inr e
          · exact Or.inl ⟨by omega, y.2⟩, fun y => by
          rcases y with y | y
          · exact ⟨by omega, y.2⟩
          · rw [y]; exact ⟨by omega, q1, q2⟩⟩))
        have e : nI X ||| (1 : Int32) <<< (nI t &&& 31) = nI (X ||| 2 ^ t) := by rw [shl1 (by omega), nI_or]
        rw [← e, ← nI_1] at z
        exact And.intro rfl z
  refine At.gs okX0_partners 60 ?_
  (conv => whnf)
  exact And.intro rfl (lp ((vw m).1 2) 0 0 (by omega) (StX.no (fun t _ z => absurd z.1 (Nat.not_lt_zero _))))
set_option maxRecDepth 100000 in
set_option maxHeartbeats 8000000 in
theorem r_rWith_336 {L : List (List Nat)} (h : SB 336 m) (hc : m.2.2 = (336, 720)) (hF : FS L m) (hl : L.length ≤ 200) (hr : ∀ i, i < L.length → (L.getD i []).length ≤ 6 ∧ ∀ j, j < (L.getD i []).length → (L.getD i []).getD j 0 < (vw m).1 3) : CI 3 mX6_roundsWith [.ref 6, .int (nI f), .int (nI L.length)] m (fun r m' => m' = m ∧ r = rwP (vw m) f L L.length) := by
  obtain ⟨ff, g, c⟩ := m
  obtain rfl : c = (336, 720) := hc
  have lp : ∀ (d i : Nat), i + d = L.length → At (E0 3) mX6_roundsWith (qi (fun r m' => m' = (ff, g, (336, 720)) ∧ r = rwP (vw (ff, g, (336, 720))) f L L.length)) 5 [.ref 6, .int (nI f), .int (nI L.length), .int (rwP (vw (ff, g, (336, 720))) f L i), .int (nI i)] [] (ff, g, (336, 720)) := by
    intro d
    induction d with
    | zero =>
      intro i hd
      refine At.ls okX6_roundsWith 60 ⟨_, _, rfl⟩ ?_
      (conv => whnf)
      refine And.intro (fun p => ?_) (fun p => ?_)
      · exact ⟨rfl, by rw [show i = L.length by omega]⟩
      · have p : ¬ nI L.length ≤ nI i := p
        rw [le_i, nI_toInt (by omega), nI_toInt (by omega)] at p
        omega
    | succ d ih =>
      intro i hd
      have ic : (nI i).toNatClampNeg = i := nI_clamp (by omega)
      have vi : vp_in (nI i) 200 := vp_in_nI (by omega) (by decide)
      obtain ⟨y1, y2⟩ := hF.2 i (by omega) (by omega)
      obtain ⟨w2, w3⟩ := hr i (by omega)
      have hc : CI 2 mX0_firmsOf [.ref 336, .long (gJ (ff, g, (336, 720)) 819273 (nI i).toNatClampNeg), .int (gI (ff, g, (336, 720)) 819288 (nI i).toNatClampNeg)] (ff, g, (336, 720)) (fun r m' => m' = (ff, g, (336, 720)) ∧ r = frmP (vw (ff, g, (336, 720))) (L.getD i []) (L.getD i []).length) := by
        rw [ic, y2]
        exact r_firmsOf_336 h y1 w3 w2
      refine At.ls okX6_roundsWith 80 ⟨_, _, rfl⟩ ?_
      (conv => whnf)
      refine And.intro (fun p => ?_) (fun p => ?_)
      · have p : nI L.length ≤ nI i := p
        rw [le_i, nI_toInt (by omega), nI_toInt (by omega)] at p
        omega
      (conv => whnf)
      dsimp only
      (conv => whnf)
      refine And.intro vi ?_
      (conv => whnf)
      refine And.intro vi ?_
      (conv => whnf)
      refine ⟨2, by decide, _, hc, ?_⟩
      rintro r m' ⟨hmm, hq⟩; have hmm := hmm.symm; subst hmm
      (conv => whnf)
      have z := ih (i + 1) (by omega)
      rw [show rwP (vw (ff, g, (336, 720))) f L (i + 1) = rwP (vw (ff, g, (336, 720))) f L i + bt (frmP (vw (ff, g, (336, 720))) (L.getD i []) (L.getD i []).length) (nI f) from rfl, ← hq, ← nI_1] at z
      exact And.intro rfl z
  refine At.gs okX6_roundsWith 60 ?_
  (conv => whnf)
  exact And.intro rfl (lp L.length 0 (by omega))
def cdSb336 : List CE := stops [23, 56, 72, 92] cdX6_signBits
set_option maxRecDepth 20000 in
theorem okSb336 : CodeOk mX6_signBits cdSb336 := okX6_signBits.st [23, 56, 72, 92] (by rfl)
set_option maxRecDepth 100000 in
set_option maxHeartbeats 8000000 in
theorem r_signBits_336 {L : List (List Nat)} {p : Nat → Nat} {ru : Int32} (hM : Mok TYg m) (h : SB 336 m) (hc : m.2.2 = (336, 720)) (hF : FS L m) (hl : L.length ≤ 200) (hr : ∀ i, i < L.length → (L.getD i []).length ≤ 6 ∧ ∀ j, j < (L.getD i []).length → (L.getD i []).getD j 0 < (vw m).1 3) (hp : ∀ f, f < (vw m).1 2 → gI m 49848 f = nI (p f)) (hpl : ∀ f, f < (vw m).1 2 → p f ≤ f) (hf : f < (vw m).1 2) : CI 4 mX6_signBits [.ref 6, .int (nI f), .int (nI (bsN (misB (vw m) ru) ((vw m).1 2))), .int (nI L.length)] m (fun r m' => m' = m ∧ SgR (vw m) p ru L f r) := by
  obtain ⟨ff, g, c⟩ := m
  obtain rfl : c = (336, 720) := hc
  have hW := h.2.2.2.2.2
  have h12 := hW.1.2.2.1
  have mB := StX.bs (p := misB (vw (ff, g, (336, 720))) ru) h12
  have e2 : (2 : Int32).toInt = 2 := rfl
  have orN : ∀ a b : Nat, nI a ||| nI b = nI (a ||| b) := nI_or
  have at92 : ∀ a b c d : Bool, (a = true ↔ SG1 (vw (ff, g, (336, 720))) f) → (b = true ↔ SG2 (vw (ff, g, (336, 720))) ru f) → (c = true ↔ SG4 (vw (ff, g, (336, 720))) f L) → (d = true ↔ SG8 (vw (ff, g, (336, 720))) p ru f) → At (E0 4) mX6_signBits (qi (fun r m' => m' = (ff, g, (336, 720)) ∧ SgR (vw (ff, g, (336, 720))) p ru L f r)) 92 [.ref 6, .int (nI f), .int (nI (bsN (misB (vw (ff, g, (336, 720))) ru) ((vw (ff, g, (336, 720))).1 2))), .int (nI L.length), .int (nI (sgN a b c d))] [] (ff, g, (336, 720)) := by
    intro a b c d ha hb hc hd
    refine At.ls okSb336 40 ⟨_, _, rfl⟩ ?_
    (conv => whnf)
    exact ⟨rfl, a, b, c, d, ha, hb, hc, hd, rfl⟩
  have at72 : ∀ a b c : Bool, (a = true ↔ SG1 (vw (ff, g, (336, 720))) f) → (b = true ↔ SG2 (vw (ff, g, (336, 720))) ru f) → (c = true ↔ SG4 (vw (ff, g, (336, 720))) f L) → At (E0 4) mX6_signBits (qi (fun r m' => m' = (ff, g, (336, 720)) ∧ SgR (vw (ff, g, (336, 720))) p ru L f r)) 72 [.ref 6, .int (nI f), .int (nI (bsN (misB (vw (ff, g, (336, 720))) ru) ((vw (ff, g, (336, 720))).1 2))), .int (nI L.length), .int (nI (sgN a b c false))] [] (ff, g, (336, 720)) := by
    intro a b c ha hb hc
    refine At.ls okSb336 60 ⟨_, _, rfl⟩ ?_
    (conv => whnf)
    dsimp only
    (conv => whnf)
    refine ⟨1, by decide, _, r_partners_336 hM h hp hpl hf, ?_⟩
    rintro r m' ⟨hmm, X, hX, hS⟩; have hmm := hmm.symm; subst hmm
    subst hX
    have mt := mB.meet hS
    have e8 : (¬ ∃ t, t < 12 ∧ (t < (vw (ff, g, (336, 720))).1 2 ∧ misB (vw (ff, g, (336, 720))) ru t = true) ∧ (t < (vw (ff, g, (336, 720))).1 2 ∧ t ≠ f ∧ p t = p f)) ↔ ¬ SG8 (vw (ff, g, (336, 720))) p ru f :=
      ⟨fun z ⟨t, y1, y2, y3, y4⟩ => z ⟨t, by omega, ⟨y1, y4⟩, y1, y2, y3⟩, fun z ⟨t, y1, y2, y3⟩ => z ⟨t, y2.1, y3.2.1, y3.2.2, y2.2⟩⟩
    (conv => whnf)
    refine And.intro (fun q => ?_) (fun q => ?_)
    · have q : nI (bsN (misB (vw (ff, g, (336, 720))) ru) ((vw (ff, g, (336, 720))).1 2)) &&& nI X = 0 := q
      rw [mt, e8] at q
      exact And.intro rfl (at92 a b c false ha hb hc ⟨fun z => (by cases z), fun z => absurd z q⟩)
    · have q : ¬ nI (bsN (misB (vw (ff, g, (336, 720))) ru) ((vw (ff, g, (336, 720))).1 2)) &&& nI X = 0 := q
      rw [mt, e8, Classical.not_not] at q
      (conv => whnf)
      have z := at92 a b c true ha hb hc ⟨fun _ => q, fun _ => rfl⟩
      rw [show nI (sgN a b c true) = nI (sgN a b c false) ||| 8 by cases a <;> cases b <;> cases c <;> decide] at z
      exact And.intro rfl z
  have at56 : ∀ a b : Bool, (a = true ↔ SG1 (vw (ff, g, (336, 720))) f) → (b = true ↔ SG2 (vw (ff, g, (336, 720))) ru f) → At (E0 4) mX6_signBits (qi (fun r m' => m' = (ff, g, (336, 720)) ∧ SgR (vw (ff, g, (336, 720))) p ru L f r)) 56 [.ref 6, .int (nI f), .int (nI (bsN (misB (vw (ff, g, (336, 720))) ru) ((vw (ff, g, (336, 720))).1 2))), .int (nI L.length), .int (nI (sgN a b false false))] [] (ff, g, (336, 720)) := by
    intro a b ha hb
    refine At.ls okSb336 60 ⟨_, _, rfl⟩ ?_
    (conv => whnf)
    refine ⟨3, by decide, _, r_rWith_336 (f := f) h rfl hF hl hr, ?_⟩
    rintro r m' ⟨hmm, hq⟩; have hmm := hmm.symm; subst hmm
    subst hq
    (conv => whnf)
    refine And.intro (fun q => ?_) (fun q => ?_)
    · have q : rwP (vw (ff, g, (336, 720))) f L L.length < 2 := q
      rw [lt_i, e2] at q
      exact And.intro rfl (at72 a b false ha hb ⟨fun z => (by cases z), fun z => by unfold SG4 at z; omega⟩)
    · have q : ¬ rwP (vw (ff, g, (336, 720))) f L L.length < 2 := q
      rw [lt_i, e2] at q
      (conv => whnf)
      have z := at72 a b true ha hb ⟨fun _ => by unfold SG4; omega, fun _ => rfl⟩
      rw [show nI (sgN a b true false) = nI (sgN a b false false) ||| 4 by cases a <;> cases b <;> decide] at z
      exact And.intro rfl z
  have at23 : ∀ a : Bool, (a = true ↔ SG1 (vw (ff, g, (336, 720))) f) → At (E0 4) mX6_signBits (qi (fun r m' => m' = (ff, g, (336, 720)) ∧ SgR (vw (ff, g, (336, 720))) p ru L f r)) 23 [.ref 6, .int (nI f), .int (nI (bsN (misB (vw (ff, g, (336, 720))) ru) ((vw (ff, g, (336, 720))).1 2))), .int (nI L.length), .int (nI (sgN a false false false))] [] (ff, g, (336, 720)) := by
    intro a ha
    refine At.ls okSb336 80 ⟨_, _, rfl⟩ ?_
    (conv => whnf)
    dsimp only
    (conv => whnf)
    refine ⟨1, by decide, _, r_buyers_336 hM h, ?_⟩
    rintro r m' ⟨hmm, X, hX, hS⟩; have hmm := hmm.symm; subst hmm
    subst hX
    have hO := mB.or hS
    have hOr := orN (bsN (misB (vw (ff, g, (336, 720))) ru) ((vw (ff, g, (336, 720))).1 2)) X
    (conv => whnf)
    refine ⟨1, by decide, _, r_only_336 (f := f) (S := nI (bsN (misB (vw (ff, g, (336, 720))) ru) ((vw (ff, g, (336, 720))).1 2)) ||| nI X) hM h, ?_⟩
    rintro r2 m' ⟨hmm, hz⟩; have hmm := hmm.symm; subst hmm
    rw [hOr] at hz
    have key : ∀ s, s < (vw (ff, g, (336, 720))).1 3 → (¬ bt (nI (bsN (misB (vw (ff, g, (336, 720))) ru) ((vw (ff, g, (336, 720))).1 2) ||| X)) ((vw (ff, g, (336, 720))).2 10 s) = 0 ↔ misB (vw (ff, g, (336, 720))) ru ((vw (ff, g, (336, 720))).2 10 s).toNatClampNeg = true ∨ BFM (vw (ff, g, (336, 720))) ru ((vw (ff, g, (336, 720))).2 10 s)) := by
      intro s hs
      obtain ⟨u, u1, u2, u3⟩ := hW.frm hs
      rw [u3, u2, hO.bt (show u < 12 by omega)]
      constructor
      · rintro (z | ⟨j, j1, j2, j3⟩)
        · exact Or.inl z.2
        · refine Or.inr ⟨j, j1, j3, ?_⟩
          obtain ⟨x, x1, x2, x3⟩ := hW.frm j1
          rw [x3]
          rw [x2, mB.bt (show x < 12 by omega)] at j2
          exact j2.2
      · rintro (z | ⟨j, j1, j3, j2⟩)
        · exact Or.inl ⟨u1, z⟩
        · refine Or.inr ⟨j, j1, ?_, j3⟩
          obtain ⟨x, x1, x2, x3⟩ := hW.frm j1
          rw [x3] at j2
          rw [x2, mB.bt (show x < 12 by omega)]
          exact ⟨x1, j2⟩
    have e2' : ((∃ s, s < (vw (ff, g, (336, 720))).1 3 ∧ (vw (ff, g, (336, 720))).2 11 s = nI f) ∧ ∀ s, s < (vw (ff, g, (336, 720))).1 3 → (vw (ff, g, (336, 720))).2 11 s = nI f → ¬ bt (nI (bsN (misB (vw (ff, g, (336, 720))) ru) ((vw (ff, g, (336, 720))).1 2) ||| X)) ((vw (ff, g, (336, 720))).2 10 s) = 0) ↔ SG2 (vw (ff, g, (336, 720))) ru f :=
      ⟨fun z => ⟨z.1, fun s s1 s2 => (key s s1).mp (z.2 s s1 s2)⟩, fun z => ⟨z.1, fun s s1 s2 => (key s s1).mpr (z.2 s s1 s2)⟩⟩
    rw [z1_cg e2'] at hz
    (conv => whnf)
    refine And.intro (fun q => ?_) (fun q => ?_)
    · have q : r2 = 0 := q
      rcases hz with ⟨y1, y2⟩ | ⟨y1, y2⟩
      · rw [y2] at q; exact absurd q (by decide)
      · exact And.intro rfl (at56 a false ha ⟨fun z => (by cases z), fun z => absurd z y1⟩)
    · rcases hz with ⟨y1, y2⟩ | ⟨y1, y2⟩
      · (conv => whnf)
        have z := at56 a true ha ⟨fun _ => y1, fun _ => rfl⟩
        rw [show nI (sgN a true false false) = nI (sgN a false false false) ||| 2 by cases a <;> decide] at z
        exact And.intro rfl z
      · exact absurd y2 q
  refine At.gs okSb336 60 ?_
  (conv => whnf)
  dsimp only
  (conv => whnf)
  refine ⟨2, by decide, _, r_below_336 (f := f) hM h, ?_⟩
  rintro r m' ⟨hmm, hz⟩; have hmm := hmm.symm; subst hmm
  (conv => whnf)
  refine And.intro (fun q => ?_) (fun q => ?_)
  · have q : r = 0 := q
    rcases hz with ⟨y1, y2⟩ | ⟨y1, y2⟩
    · rw [y2] at q; exact absurd q (by decide)
    · exact And.intro rfl (at23 false ⟨fun z => (by cases z), fun z => absurd z y1⟩)
  · rcases hz with ⟨y1, y2⟩ | ⟨y1, y2⟩
    · (conv => whnf)
      exact And.intro rfl (at23 true ⟨fun _ => y1, fun _ => rfl⟩)
    · exact absurd y2 q
set_option maxRecDepth 100000 in
set_option maxHeartbeats 8000000 in
theorem r_dearer_720 (hM : Mok TYg m) (h : SB 720 m) {s : Nat} (hs : s < (vw m).1 3) : CI 1 mX4_boughtDearer [.ref 836, .int (nI f), .int (nI s)] m (fun r m' => m' = m ∧ z1 (∃ b, b < (vw m).1 3 ∧ (vw m).2 11 b = nI f ∧ (vw m).2 13 b = (vw m).2 13 s ∧ ((vw m).2 15 b).toInt ≤ ((vw m).2 15 s).toInt ∧ ((vw m).2 14 s).toInt < ((vw m).2 14 b).toInt) r) := by
  have h40 := h.2.2.2.2.2.1.2.2.2
  have e2 : gI m 836 7 = gI m 1175 6 := h.1 3 (by decide)
  have c2 : gI m 836 7 = nI ((vw m).1 3) := nI_back (by rw [e2]; exact vw3 hM)
  have rr : ∀ r i, r < 17 → r ≠ 9 → own r = 3 → i < (vw m).1 3 → gI m (rowC 720 r) (nI i).toNatClampNeg = (vw m).2 r i := fun r i hr h9 ho hi => by
    rw [nI_clamp (by omega)]
    exact h.2.1 r hr h9 i (by rw [ho]; exact hi)
  have vs : vp_in (nI s) 40 := vp_in_nI (by omega) (by decide)
  have s13 : gI m 164744 (nI s).toNatClampNeg = (vw m).2 13 s := rr 13 s (by decide) (by decide) rfl hs
  have s14 : gI m 164760 (nI s).toNatClampNeg = (vw m).2 14 s := rr 14 s (by decide) (by decide) rfl hs
  have s15 : gI m 164776 (nI s).toNatClampNeg = (vw m).2 15 s := rr 15 s (by decide) (by decide) rfl hs
  have lp : ∀ (d b : Nat) (v4 : Value), b + d = (vw m).1 3 → (∀ j, j < b → ¬ ((vw m).2 11 j = nI f ∧ (vw m).2 13 j = (vw m).2 13 s ∧ ((vw m).2 15 j).toInt ≤ ((vw m).2 15 s).toInt ∧ ((vw m).2 14 s).toInt < ((vw m).2 14 j).toInt)) → At (E0 1) mX4_boughtDearer (qi (fun r m' => m' = m ∧ z1 (∃ b, b < (vw m).1 3 ∧ (vw m).2 11 b = nI f ∧ (vw m).2 13 b = (vw m).2 13 s ∧ ((vw m).2 15 b).toInt ≤ ((vw m).2 15 s).toInt ∧ ((vw m).2 14 s).toInt < ((vw m).2 14 b).toInt) r)) 2 [.ref 836, .int (nI f), .int (nI s), .int (nI b), v4] [] m := by
    intro d
    induction d with
    | zero =>
      intro b v4 hd hn
      refine At.ls okX4_boughtDearer 60 ⟨_, _, rfl⟩ ?_
      (conv => whnf)
      refine And.intro (fun p => ?_) (fun p => ?_)
      · refine ⟨Or.inl rfl, rfl, Or.inr ⟨?_, rfl⟩⟩
        rintro ⟨j, j1, j2⟩
        exact hn j (by omega) j2
      · have p : ¬ gI m 836 7 ≤ nI b := p
        rw [c2, le_i, nI_toInt (by omega), nI_toInt (by omega)] at p
        omega
    | succ d ih =>
      intro b v4 hd hn
      have hb : b < (vw m).1 3 := by omega
      have vb : vp_in (nI b) 40 := vp_in_nI (by omega) (by decide)
      have b11 : gI m 164712 (nI b).toNatClampNeg = (vw m).2 11 b := rr 11 b (by decide) (by decide) rfl hb
      have b13 : gI m 164744 (nI b).toNatClampNeg = (vw m).2 13 b := rr 13 b (by decide) (by decide) rfl hb
      have b14 : gI m 164760 (nI b).toNatClampNeg = (vw m).2 14 b := rr 14 b (by decide) (by decide) rfl hb
      have b15 : gI m 164776 (nI b).toNatClampNeg = (vw m).2 15 b := rr 15 b (by decide) (by decide) rfl hb
      have next : ∀ v : Value, ¬ ((vw m).2 11 b = nI f ∧ (vw m).2 13 b = (vw m).2 13 s ∧ ((vw m).2 15 b).toInt ≤ ((vw m).2 15 s).toInt ∧ ((vw m).2 14 s).toInt < ((vw m).2 14 b).toInt) → At (E0 1) mX4_boughtDearer (qi (fun r m' => m' = m ∧ z1 (∃ b, b < (vw m).1 3 ∧ (vw m).2 11 b = nI f ∧ (vw m).2 13 b = (vw m).2 13 s ∧ ((vw m).2 15 b).toInt ≤ ((vw m).2 15 s).toInt ∧ ((vw m).2 14 s).toInt < ((vw m).2 14 b).toInt) r)) 2 [.ref 836, .int (nI f), .int (nI s), .int (nI b + 1), v] [] m := by
        intro v hb2
        have z := ih (b + 1) v (by omega) (fun j hj => by
          by_cases q : j = b
          · rw [q]; exact hb2
          · exact hn j (by omega))
        rw [← nI_1] at z
        exact z
      refine At.ls okX4_boughtDearer 100 ⟨_, _, rfl⟩ ?_
      (conv => whnf)
      refine And.intro (fun p => ?_) (fun p => ?_)
      · have p : gI m 836 7 ≤ nI b := p
        rw [c2, le_i, nI_toInt (by omega), nI_toInt (by omega)] at p
        omega
      (conv => whnf)
      refine And.intro vb ?_
      (conv => whnf)
      refine And.intro (fun p1 => ?_) (fun p1 => ?_)
      · have p1 : ¬ gI m 164712 (nI b).toNatClampNeg = nI f := p1
        rw [b11] at p1
        (conv => whnf)
        refine And.intro (fun _ => ?_) (fun z => absurd rfl z)
        (conv => whnf)
        exact And.intro rfl (next _ (fun z => p1 z.1))
      have p1 : gI m 164712 (nI b).toNatClampNeg = nI f := p1
      rw [b11] at p1
      (conv => whnf)
      refine And.intro vb ?_
      (conv => whnf)
      refine And.intro vs ?_
      (conv => whnf)
      refine And.intro (fun p2 => ?_) (fun p2 => ?_)
      · have p2 : ¬ gI m 164744 (nI b).toNatClampNeg = gI m 164744 (nI s).toNatClampNeg := p2
        rw [b13, s13] at p2
        (conv => whnf)
        refine And.intro (fun _ => ?_) (fun z => absurd rfl z)
        (conv => whnf)
        exact And.intro rfl (next _ (fun z => p2 z.2.1))
      have p2 : gI m 164744 (nI b).toNatClampNeg = gI m 164744 (nI s).toNatClampNeg := p2
      rw [b13, s13] at p2
      (conv => whnf)
      refine And.intro (fun z => absurd z (by decide)) (fun _ => ?_)
      (conv => whnf)
      refine And.intro vb ?_
      (conv => whnf)
      refine And.intro vs ?_
      (conv => whnf)
      refine And.intro (fun p3 => ?_) (fun p3 => ?_)
      · have p3 : gI m 164776 (nI s).toNatClampNeg < gI m 164776 (nI b).toNatClampNeg := p3
        rw [b15, s15, lt_i] at p3
        (conv => whnf)
        exact And.intro rfl (next _ (fun z => by have := z.2.2.1; omega))
      have p3 : ¬ gI m 164776 (nI s).toNatClampNeg < gI m 164776 (nI b).toNatClampNeg := p3
      rw [b15, s15, lt_i] at p3
      (conv => whnf)
      refine And.intro vb ?_
      (conv => whnf)
      refine And.intro vs ?_
      (conv => whnf)
      refine And.intro (fun p4 => ?_) (fun p4 => ?_)
      · have p4 : gI m 164760 (nI b).toNatClampNeg ≤ gI m 164760 (nI s).toNatClampNeg := p4
        rw [b14, s14, le_i] at p4
        (conv => whnf)
        exact And.intro rfl (next _ (fun z => by have := z.2.2.2; omega))
      · have p4 : ¬ gI m 164760 (nI b).toNatClampNeg ≤ gI m 164760 (nI s).toNatClampNeg := p4
        rw [b14, s14, le_i] at p4
        exact ⟨Or.inr rfl, rfl, Or.inl ⟨⟨b, hb, p1, p2, by omega, by omega⟩, rfl⟩⟩
  refine At.gs okX4_boughtDearer 60 ?_
  (conv => whnf)
  exact And.intro rfl (lp ((vw m).1 3) 0 _ (by omega) (fun j hj => absurd hj (Nat.not_lt_zero _)))
set_option maxRecDepth 100000 in
set_option maxHeartbeats 8000000 in
theorem r_below_720 (hM : Mok TYg m) (h : SB 720 m) : CI 2 mX4_soldBelow [.ref 836, .int (nI f)] m (fun r m' => m' = m ∧ z1 (SG1 (vw m) f) r) := by
  have h40 := h.2.2.2.2.2.1.2.2.2
  have e2 : gI m 836 7 = gI m 1175 6 := h.1 3 (by decide)
  have c2 : gI m 836 7 = nI ((vw m).1 3) := nI_back (by rw [e2]; exact vw3 hM)
  have lp : ∀ (d s : Nat), s + d = (vw m).1 3 → (∀ j, j < s → ¬ ((vw m).2 10 j = nI f ∧ ∃ b, b < (vw m).1 3 ∧ (vw m).2 11 b = nI f ∧ (vw m).2 13 b = (vw m).2 13 j ∧ ((vw m).2 15 b).toInt ≤ ((vw m).2 15 j).toInt ∧ ((vw m).2 14 j).toInt < ((vw m).2 14 b).toInt)) → At (E0 2) mX4_soldBelow (qi (fun r m' => m' = m ∧ z1 (SG1 (vw m) f) r)) 2 [.ref 836, .int (nI f), .int (nI s)] [] m := by
    intro d
    induction d with
    | zero =>
      intro s hd hn
      refine At.ls okX4_soldBelow 60 ⟨_, _, rfl⟩ ?_
      (conv => whnf)
      refine And.intro (fun p => ?_) (fun p => ?_)
      · refine ⟨Or.inl rfl, rfl, Or.inr ⟨?_, rfl⟩⟩
        rintro ⟨j, j1, j2⟩
        exact hn j (by omega) j2
      · have p : ¬ gI m 836 7 ≤ nI s := p
        rw [c2, le_i, nI_toInt (by omega), nI_toInt (by omega)] at p
        omega
    | succ d ih =>
      intro s hd hn
      have hs : s < (vw m).1 3 := by omega
      have c10 : gI m 164696 (nI s).toNatClampNeg = (vw m).2 10 s := by
        rw [nI_clamp (by omega)]
        exact h.2.1 10 (by decide) (by decide) s hs
      have next : ¬ ((vw m).2 10 s = nI f ∧ ∃ b, b < (vw m).1 3 ∧ (vw m).2 11 b = nI f ∧ (vw m).2 13 b = (vw m).2 13 s ∧ ((vw m).2 15 b).toInt ≤ ((vw m).2 15 s).toInt ∧ ((vw m).2 14 s).toInt < ((vw m).2 14 b).toInt) → At (E0 2) mX4_soldBelow (qi (fun r m' => m' = m ∧ z1 (SG1 (vw m) f) r)) 2 [.ref 836, .int (nI f), .int (nI s + 1)] [] m := by
        intro hb2
        have z := ih (s + 1) (by omega) (fun j hj => by
          by_cases q : j = s
          · rw [q]; exact hb2
          · exact hn j (by omega))
        rw [← nI_1] at z
        exact z
      refine At.ls okX4_soldBelow 60 ⟨_, _, rfl⟩ ?_
      (conv => whnf)
      refine And.intro (fun p => ?_) (fun p => ?_)
      · have p : gI m 836 7 ≤ nI s := p
        rw [c2, le_i, nI_toInt (by omega), nI_toInt (by omega)] at p
        omega
      (conv => whnf)
      refine And.intro (show vp_in (nI s) 40 from vp_in_nI (by omega) (by decide)) ?_
      (conv => whnf)
      refine And.intro (fun p1 => ?_) (fun p1 => ?_)
      · have p1 : ¬ gI m 164696 (nI s).toNatClampNeg = nI f := p1
        rw [c10] at p1
        (conv => whnf)
        exact And.intro rfl (next (fun z => p1 z.1))
      have p1 : gI m 164696 (nI s).toNatClampNeg = nI f := p1
      rw [c10] at p1
      (conv => whnf)
      refine ⟨1, by decide, _, r_dearer_720 (f := f) hM h hs, ?_⟩
      rintro r m' ⟨hmm, hr⟩; have hmm := hmm.symm; subst hmm
      (conv => whnf)
      refine And.intro (fun q => ?_) (fun q => ?_)
      · have q : r = 0 := q
        rcases hr with ⟨y1, y2⟩ | ⟨y1, y2⟩
        · rw [y2] at q; exact absurd q (by decide)
        · (conv => whnf)
          exact And.intro rfl (next (fun z => y1 z.2))
      · rcases hr with ⟨y1, y2⟩ | ⟨y1, y2⟩
        · exact ⟨Or.inr rfl, rfl, Or.inl ⟨⟨s, hs, p1, y1⟩, rfl⟩⟩
        · exact absurd y2 q
  refine At.gs okX4_soldBelow 60 ?_
  (conv => whnf)
  exact And.intro rfl (lp ((vw m).1 3) 0 (by omega) (fun j hj => absurd hj (Nat.not_lt_zero _)))
set_option maxRecDepth 100000 in
set_option maxHeartbeats 8000000 in
theorem r_buyers_720 (hM : Mok TYg m) (h : SB 720 m) {ms : Int32} : CI 1 mX4_buyersFrom [.ref 836, .int ms] m (fun r m' => m' = m ∧ ∃ X, r = nI X ∧ StX X (fun t => ∃ s, s < (vw m).1 3 ∧ ¬ bt ms ((vw m).2 10 s) = 0 ∧ (vw m).2 11 s = nI t)) := by
  have hW := h.2.2.2.2.2
  have h40 := hW.1.2.2.2
  have h12 := hW.1.2.2.1
  have e2 : gI m 836 7 = gI m 1175 6 := h.1 3 (by decide)
  have c2 : gI m 836 7 = nI ((vw m).1 3) := nI_back (by rw [e2]; exact vw3 hM)
  have lp : ∀ (d s X : Nat), s + d = (vw m).1 3 → StX X (fun t => ∃ j, j < s ∧ ¬ bt ms ((vw m).2 10 j) = 0 ∧ (vw m).2 11 j = nI t) → At (E0 1) mX4_buyersFrom (qi (fun r m' => m' = m ∧ ∃ X, r = nI X ∧ StX X (fun t => ∃ s, s < (vw m).1 3 ∧ ¬ bt ms ((vw m).2 10 s) = 0 ∧ (vw m).2 11 s = nI t))) 4 [.ref 836, .int ms, .int (nI X), .int (nI s)] [] m := by
    intro d
    induction d with
    | zero =>
      intro s X hd hX
      refine At.ls okX4_buyersFrom 60 ⟨_, _, rfl⟩ ?_
      (conv => whnf)
      refine And.intro (fun p => ?_) (fun p => ?_)
      · rw [show s = (vw m).1 3 by omega] at hX
        exact ⟨rfl, X, rfl, hX⟩
      · have p : ¬ gI m 836 7 ≤ nI s := p
        rw [c2, le_i, nI_toInt (by omega), nI_toInt (by omega)] at p
        omega
    | succ d ih =>
      intro s X hd hX
      have hs : s < (vw m).1 3 := by omega
      have vs : vp_in (nI s) 40 := vp_in_nI (by omega) (by decide)
      have c10 : gI m 164696 (nI s).toNatClampNeg = (vw m).2 10 s := by
        rw [nI_clamp (by omega)]
        exact h.2.1 10 (by decide) (by decide) s hs
      obtain ⟨t, t1, t2, t3⟩ := hW.tom hs
      have c11 : gI m 164712 (nI s).toNatClampNeg = nI t := by
        rw [nI_clamp (by omega), ← t2]
        exact h.2.1 11 (by decide) (by decide) s hs
      refine At.ls okX4_buyersFrom 80 ⟨_, _, rfl⟩ ?_
      (conv => whnf)
      refine And.intro (fun p => ?_) (fun p => ?_)
      · have p : gI m 836 7 ≤ nI s := p
        rw [c2, le_i, nI_toInt (by omega), nI_toInt (by omega)] at p
        omega
      (conv => whnf)
      refine And.intro vs ?_
      (conv => whnf)
      refine And.intro (fun q => ?_) (fun q => ?_)
      · have q : bt ms (gI m 164696 (nI s).toNatClampNeg) = 0 := q
        rw [c10] at q
        (conv => whnf)
        have z := ih (s + 1) X (by omega) (hX.cg (fun u _ => ⟨fun ⟨j, j1, j2, j3⟩ => ⟨j, by
          by_cases y : j = s
          · rw [y] at j2; exact absurd q j2
          · omega, j2, j3⟩, fun ⟨j, j1, j2, j3⟩ => ⟨j, by omega, j2, j3⟩⟩))
        rw [← nI_1] at z
        exact And.intro rfl z
      have q : ¬ bt ms (gI m 164696 (nI s).toNatClampNeg) = 0 := q
      rw [c10] at q
      (conv => whnf)
      refine And.intro vs ?_
      (conv => whnf)
      have z := ih (s + 1) (X ||| 2 ^ t) (by omega) (hX.put (show t < 12 by omega) (fun u hu => ⟨fun ⟨j, j1, j2, j3⟩ => by
        by_cases y : j = s
        · rw [y, t2] at j3
          exact Or.inr (nI_inj (by omega) (by omega) j3).symm
        · exact Or.inl ⟨j, by omega, j2, j3⟩, fun z => by
        rcases z with ⟨j, j1, j2, j3⟩ | z
        · exact ⟨j, by omega, j2, j3⟩
        · exact ⟨s, by omega, q, by rw [z]; exact t2⟩⟩))
      have e : nI X ||| (1 : Int32) <<< (gI m 164712 (nI s).toNatClampNeg &&& 31) = nI (X ||| 2 ^ t) := by rw [c11, shl1 (by omega), nI_or]
      rw [← e, ← nI_1] at z
      exact And.intro rfl z
  refine At.gs okX4_buyersFrom 60 ?_
  (conv => whnf)
  exact And.intro rfl (lp ((vw m).1 3) 0 0 (by omega) (StX.no (fun t _ z => by obtain ⟨j, j1, -⟩ := z; omega)))
set_option maxRecDepth 100000 in
set_option maxHeartbeats 8000000 in
theorem r_only_720 (hM : Mok TYg m) (h : SB 720 m) {S : Int32} : CI 1 mX4_boughtOnlyFrom [.ref 836, .int (nI f), .int S] m (fun r m' => m' = m ∧ z1 ((∃ s, s < (vw m).1 3 ∧ (vw m).2 11 s = nI f) ∧ ∀ s, s < (vw m).1 3 → (vw m).2 11 s = nI f → ¬ bt S ((vw m).2 10 s) = 0) r) := by
  have h40 := h.2.2.2.2.2.1.2.2.2
  have e2 : gI m 836 7 = gI m 1175 6 := h.1 3 (by decide)
  have c2 : gI m 836 7 = nI ((vw m).1 3) := nI_back (by rw [e2]; exact vw3 hM)
  have lp : ∀ (d s : Nat) (x : Int32), s + d = (vw m).1 3 → z1 (∃ j, j < s ∧ (vw m).2 11 j = nI f) x → (∀ j, j < s → (vw m).2 11 j = nI f → ¬ bt S ((vw m).2 10 j) = 0) → At (E0 1) mX4_boughtOnlyFrom (qi (fun r m' => m' = m ∧ z1 ((∃ s, s < (vw m).1 3 ∧ (vw m).2 11 s = nI f) ∧ ∀ s, s < (vw m).1 3 → (vw m).2 11 s = nI f → ¬ bt S ((vw m).2 10 s) = 0) r)) 5 [.ref 836, .int (nI f), .int S, .int x, .int (nI s)] [] m := by
    intro d
    induction d with
    | zero =>
      intro s x hd hx hn
      have es : s = (vw m).1 3 := by omega
      rw [es] at hx hn
      refine At.ls okX4_boughtOnlyFrom 60 ⟨_, _, rfl⟩ ?_
      (conv => whnf)
      refine And.intro (fun p => ?_) (fun p => ?_)
      · rcases hx with ⟨y1, y2⟩ | ⟨y1, y2⟩
        · rw [y2]; exact ⟨Or.inr rfl, rfl, Or.inl ⟨⟨y1, hn⟩, rfl⟩⟩
        · rw [y2]; exact ⟨Or.inl rfl, rfl, Or.inr ⟨fun z => y1 z.1, rfl⟩⟩
      · have p : ¬ gI m 836 7 ≤ nI s := p
        rw [c2, le_i, nI_toInt (by omega), nI_toInt (by omega)] at p
        omega
    | succ d ih =>
      intro s x hd hx hn
      have hs : s < (vw m).1 3 := by omega
      have vs : vp_in (nI s) 40 := vp_in_nI (by omega) (by decide)
      have c10 : gI m 164696 (nI s).toNatClampNeg = (vw m).2 10 s := by
        rw [nI_clamp (by omega)]
        exact h.2.1 10 (by decide) (by decide) s hs
      have c11 : gI m 164712 (nI s).toNatClampNeg = (vw m).2 11 s := by
        rw [nI_clamp (by omega)]
        exact h.2.1 11 (by decide) (by decide) s hs
      refine At.ls okX4_boughtOnlyFrom 80 ⟨_, _, rfl⟩ ?_
      (conv => whnf)
      refine And.intro (fun p => ?_) (fun p => ?_)
      · have p : gI m 836 7 ≤ nI s := p
        rw [c2, le_i, nI_toInt (by omega), nI_toInt (by omega)] at p
        omega
      (conv => whnf)
      refine And.intro vs ?_
      (conv => whnf)
      refine And.intro (fun p1 => ?_) (fun p1 => ?_)
      · have p1 : ¬ gI m 164712 (nI s).toNatClampNeg = nI f := p1
        rw [c11] at p1
        (conv => whnf)
        have z := ih (s + 1) x (by omega) (by
          rcases hx with ⟨⟨j, j1, j2⟩, y2⟩ | ⟨y1, y2⟩
          · exact Or.inl ⟨⟨j, by omega, j2⟩, y2⟩
          · refine Or.inr ⟨?_, y2⟩
            rintro ⟨j, j1, j2⟩
            by_cases y : j = s
            · rw [y] at j2; exact p1 j2
            · exact y1 ⟨j, by omega, j2⟩) (fun j j1 j2 => by
          by_cases y : j = s
          · rw [y] at j2; exact absurd j2 p1
          · exact hn j (by omega) j2)
        rw [← nI_1] at z
        exact And.intro rfl z
      have p1 : gI m 164712 (nI s).toNatClampNeg = nI f := p1
      rw [c11] at p1
      (conv => whnf)
      refine And.intro vs ?_
      (conv => whnf)
      refine And.intro (fun q => ?_) (fun q => ?_)
      · have q : ¬ bt S (gI m 164696 (nI s).toNatClampNeg) = 0 := q
        rw [c10] at q
        (conv => whnf)
        have z := ih (s + 1) 1 (by omega) (Or.inl ⟨⟨s, by omega, p1⟩, rfl⟩) (fun j j1 j2 => by
          by_cases y : j = s
          · rw [y]; exact q
          · exact hn j (by omega) j2)
        rw [← nI_1] at z
        exact And.intro rfl z
      · have q : bt S (gI m 164696 (nI s).toNatClampNeg) = 0 := q
        rw [c10] at q
        exact ⟨Or.inl rfl, rfl, Or.inr ⟨fun z => z.2 s hs p1 q, rfl⟩⟩
  refine At.gs okX4_boughtOnlyFrom 60 ?_
  (conv => whnf)
  exact And.intro rfl (lp ((vw m).1 3) 0 0 (by omega) (Or.inr ⟨fun z => by obtain ⟨j, j1, -⟩ := z; omega, rfl⟩) (fun j hj => absurd hj (Nat.not_lt_zero _)))
set_option maxRecDepth 100000 in
set_option maxHeartbeats 8000000 in
theorem r_partners_720 (hM : Mok TYg m) (h : SB 720 m) {p : Nat → Nat} (hp : ∀ f, f < (vw m).1 2 → gI m 50232 f = nI (p f)) (hpl : ∀ f, f < (vw m).1 2 → p f ≤ f) (hf : f < (vw m).1 2) : CI 1 mX0_partners [.ref 720, .int (nI f)] m (fun r m' => m' = m ∧ ∃ X, r = nI X ∧ StX X (fun t => t < (vw m).1 2 ∧ t ≠ f ∧ p t = p f)) := by
  have hW := h.2.2.2.2.2
  have h12 := hW.1.2.2.1
  have e2 : gI m 802 1 = gI m 1175 5 := h.1 2 (by decide)
  have c2 : gI m 802 1 = nI ((vw m).1 2) := nI_back (by rw [e2]; exact vw2 hM)
  have vf : vp_in (nI f) 12 := vp_in_nI (by omega) (by decide)
  have pf : gI m 50232 (nI f).toNatClampNeg = nI (p f) := by rw [nI_clamp (by omega)]; exact hp f hf
  have lp : ∀ (d t X : Nat), t + d = (vw m).1 2 → StX X (fun u => u < t ∧ u ≠ f ∧ p u = p f) → At (E0 1) mX0_partners (qi (fun r m' => m' = m ∧ ∃ X, r = nI X ∧ StX X (fun t => t < (vw m).1 2 ∧ t ≠ f ∧ p t = p f))) 4 [.ref 720, .int (nI f), .int (nI X), .int (nI t)] [] m := by
    intro d
    induction d with
    | zero =>
      intro t X hd hX
      refine At.ls okX0_partners 60 ⟨_, _, rfl⟩ ?_
      (conv => whnf)
      refine And.intro (fun q => ?_) (fun q => ?_)
      · rw [show t = (vw m).1 2 by omega] at hX
        exact ⟨rfl, X, rfl, hX⟩
      · have q : ¬ gI m 802 1 ≤ nI t := q
        rw [c2, le_i, nI_toInt (by omega), nI_toInt (by omega)] at q
        omega
    | succ d ih =>
      intro t X hd hX
      have vt : vp_in (nI t) 12 := vp_in_nI (by omega) (by decide)
      have pt : gI m 50232 (nI t).toNatClampNeg = nI (p t) := by rw [nI_clamp (by omega)]; exact hp t (by omega)
      have lt1 := hpl t (by omega)
      have lf1 := hpl f hf
      have skip : ¬ (t ≠ f ∧ p t = p f) → At (E0 1) mX0_partners (qi (fun r m' => m' = m ∧ ∃ X, r = nI X ∧ StX X (fun t => t < (vw m).1 2 ∧ t ≠ f ∧ p t = p f))) 4 [.ref 720, .int (nI f), .int (nI X), .int (nI t + 1)] [] m := by
        intro hn
        have z := ih (t + 1) X (by omega) (hX.cg (fun u _ => ⟨fun y => ⟨by
          by_cases e : u = t
          · rw [e] at y; exact absurd y.2 hn
          · omega, y.2⟩, fun y => ⟨by omega, y.2⟩⟩))
        rw [← nI_1] at z
        exact z
      refine At.ls okX0_partners 80 ⟨_, _, rfl⟩ ?_
      (conv => whnf)
      refine And.intro (fun q => ?_) (fun q => ?_)
      · have q : gI m 802 1 ≤ nI t := q
        rw [c2, le_i, nI_toInt (by omega), nI_toInt (by omega)] at q
        omega
      (conv => whnf)
      refine And.intro (fun q1 => ?_) (fun q1 => ?_)
      · have q1 : nI t = nI f := q1
        (conv => whnf)
        exact And.intro rfl (skip (fun z => z.1 (nI_inj (by omega) (by omega) q1)))
      have q1 : ¬ nI t = nI f := q1
      have q1 : t ≠ f := fun z => q1 (by rw [z])
      (conv => whnf)
      refine And.intro vt ?_
      (conv => whnf)
      refine And.intro vf ?_
      (conv => whnf)
      refine And.intro (fun q2 => ?_) (fun q2 => ?_)
      · have q2 : ¬ gI m 50232 (nI t).toNatClampNeg = gI m 50232 (nI f).toNatClampNeg := q2
        rw [pt, pf] at q2
        (conv => whnf)
        exact And.intro rfl (skip (fun z => q2 (by rw [z.2])))
      · have q2 : gI m 50232 (nI t).toNatClampNeg = gI m 50232 (nI f).toNatClampNeg := q2
        rw [pt, pf] at q2
        have q2 := nI_inj (by omega) (by omega) q2
        (conv => whnf)
        have z := ih (t + 1) (X ||| 2 ^ t) (by omega) (hX.put (show t < 12 by omega) (fun u hu => ⟨fun y => by
          by_cases e : u = t
          · exact Or.inr e
          · exact Or.inl ⟨by omega, y.2⟩, fun y => by
          rcases y with y | y
          · exact ⟨by omega, y.2⟩
          · rw [y]; exact ⟨by omega, q1, q2⟩⟩))
        have e : nI X ||| (1 : Int32) <<< (nI t &&& 31) = nI (X ||| 2 ^ t) := by rw [shl1 (by omega), nI_or]
        rw [← e, ← nI_1] at z
        exact And.intro rfl z
  refine At.gs okX0_partners 60 ?_
  (conv => whnf)
  exact And.intro rfl (lp ((vw m).1 2) 0 0 (by omega) (StX.no (fun t _ z => absurd z.1 (Nat.not_lt_zero _))))
set_option maxRecDepth 100000 in
set_option maxHeartbeats 8000000 in
theorem r_rWith_720 {L : List (List Nat)} (h : SB 720 m) (hc : m.2.2 = (720, 336)) (hF : FS L m) (hl : L.length ≤ 200) (hr : ∀ i, i < L.length → (L.getD i []).length ≤ 6 ∧ ∀ j, j < (L.getD i []).length → (L.getD i []).getD j 0 < (vw m).1 3) : CI 3 mX6_roundsWith [.ref 6, .int (nI f), .int (nI L.length)] m (fun r m' => m' = m ∧ r = rwP (vw m) f L L.length) := by
  obtain ⟨ff, g, c⟩ := m
  obtain rfl : c = (720, 336) := hc
  have lp : ∀ (d i : Nat), i + d = L.length → At (E0 3) mX6_roundsWith (qi (fun r m' => m' = (ff, g, (720, 336)) ∧ r = rwP (vw (ff, g, (720, 336))) f L L.length)) 5 [.ref 6, .int (nI f), .int (nI L.length), .int (rwP (vw (ff, g, (720, 336))) f L i), .int (nI i)] [] (ff, g, (720, 336)) := by
    intro d
    induction d with
    | zero =>
      intro i hd
      refine At.ls okX6_roundsWith 60 ⟨_, _, rfl⟩ ?_
      (conv => whnf)
      refine And.intro (fun p => ?_) (fun p => ?_)
      · exact ⟨rfl, by rw [show i = L.length by omega]⟩
      · have p : ¬ nI L.length ≤ nI i := p
        rw [le_i, nI_toInt (by omega), nI_toInt (by omega)] at p
        omega
    | succ d ih =>
      intro i hd
      have ic : (nI i).toNatClampNeg = i := nI_clamp (by omega)
      have vi : vp_in (nI i) 200 := vp_in_nI (by omega) (by decide)
      obtain ⟨y1, y2⟩ := hF.2 i (by omega) (by omega)
      obtain ⟨w2, w3⟩ := hr i (by omega)
      have hc : CI 2 mX0_firmsOf [.ref 720, .long (gJ (ff, g, (720, 336)) 819273 (nI i).toNatClampNeg), .int (gI (ff, g, (720, 336)) 819288 (nI i).toNatClampNeg)] (ff, g, (720, 336)) (fun r m' => m' = (ff, g, (720, 336)) ∧ r = frmP (vw (ff, g, (720, 336))) (L.getD i []) (L.getD i []).length) := by
        rw [ic, y2]
        exact r_firmsOf_720 h y1 w3 w2
      refine At.ls okX6_roundsWith 80 ⟨_, _, rfl⟩ ?_
      (conv => whnf)
      refine And.intro (fun p => ?_) (fun p => ?_)
      · have p : nI L.length ≤ nI i := p
        rw [le_i, nI_toInt (by omega), nI_toInt (by omega)] at p
        omega
      (conv => whnf)
      dsimp only
      (conv => whnf)
      refine And.intro vi ?_
      (conv => whnf)
      refine And.intro vi ?_
      (conv => whnf)
      refine ⟨2, by decide, _, hc, ?_⟩
      rintro r m' ⟨hmm, hq⟩; have hmm := hmm.symm; subst hmm
      (conv => whnf)
      have z := ih (i + 1) (by omega)
      rw [show rwP (vw (ff, g, (720, 336))) f L (i + 1) = rwP (vw (ff, g, (720, 336))) f L i + bt (frmP (vw (ff, g, (720, 336))) (L.getD i []) (L.getD i []).length) (nI f) from rfl, ← hq, ← nI_1] at z
      exact And.intro rfl z
  refine At.gs okX6_roundsWith 60 ?_
  (conv => whnf)
  exact And.intro rfl (lp L.length 0 (by omega))
def cdSb720 : List CE := stops [23, 56, 72, 92] cdX6_signBits
set_option maxRecDepth 20000 in
theorem okSb720 : CodeOk mX6_signBits cdSb720 := okX6_signBits.st [23, 56, 72, 92] (by rfl)
set_option maxRecDepth 100000 in
set_option maxHeartbeats 8000000 in
theorem r_signBits_720 {L : List (List Nat)} {p : Nat → Nat} {ru : Int32} (hM : Mok TYg m) (h : SB 720 m) (hc : m.2.2 = (720, 336)) (hF : FS L m) (hl : L.length ≤ 200) (hr : ∀ i, i < L.length → (L.getD i []).length ≤ 6 ∧ ∀ j, j < (L.getD i []).length → (L.getD i []).getD j 0 < (vw m).1 3) (hp : ∀ f, f < (vw m).1 2 → gI m 50232 f = nI (p f)) (hpl : ∀ f, f < (vw m).1 2 → p f ≤ f) (hf : f < (vw m).1 2) : CI 4 mX6_signBits [.ref 6, .int (nI f), .int (nI (bsN (misB (vw m) ru) ((vw m).1 2))), .int (nI L.length)] m (fun r m' => m' = m ∧ SgR (vw m) p ru L f r) := by
  obtain ⟨ff, g, c⟩ := m
  obtain rfl : c = (720, 336) := hc
  have hW := h.2.2.2.2.2
  have h12 := hW.1.2.2.1
  have mB := StX.bs (p := misB (vw (ff, g, (720, 336))) ru) h12
  have e2 : (2 : Int32).toInt = 2 := rfl
  have orN : ∀ a b : Nat, nI a ||| nI b = nI (a ||| b) := nI_or
  have at92 : ∀ a b c d : Bool, (a = true ↔ SG1 (vw (ff, g, (720, 336))) f) → (b = true ↔ SG2 (vw (ff, g, (720, 336))) ru f) → (c = true ↔ SG4 (vw (ff, g, (720, 336))) f L) → (d = true ↔ SG8 (vw (ff, g, (720, 336))) p ru f) → At (E0 4) mX6_signBits (qi (fun r m' => m' = (ff, g, (720, 336)) ∧ SgR (vw (ff, g, (720, 336))) p ru L f r)) 92 [.ref 6, .int (nI f), .int (nI (bsN (misB (vw (ff, g, (720, 336))) ru) ((vw (ff, g, (720, 336))).1 2))), .int (nI L.length), .int (nI (sgN a b c d))] [] (ff, g, (720, 336)) := by
    intro a b c d ha hb hc hd
    refine At.ls okSb720 40 ⟨_, _, rfl⟩ ?_
    (conv => whnf)
    exact ⟨rfl, a, b, c, d, ha, hb, hc, hd, rfl⟩
  have at72 : ∀ a b c : Bool, (a = true ↔ SG1 (vw (ff, g, (720, 336))) f) → (b = true ↔ SG2 (vw (ff, g, (720, 336))) ru f) → (c = true ↔ SG4 (vw (ff, g, (720, 336))) f L) → At (E0 4) mX6_signBits (qi (fun r m' => m' = (ff, g, (720, 336)) ∧ SgR (vw (ff, g, (720, 336))) p ru L f r)) 72 [.ref 6, .int (nI f), .int (nI (bsN (misB (vw (ff, g, (720, 336))) ru) ((vw (ff, g, (720, 336))).1 2))), .int (nI L.length), .int (nI (sgN a b c false))] [] (ff, g, (720, 336)) := by
    intro a b c ha hb hc
    refine At.ls okSb720 60 ⟨_, _, rfl⟩ ?_
    (conv => whnf)
    dsimp only
    (conv => whnf)
    refine ⟨1, by decide, _, r_partners_720 hM h hp hpl hf, ?_⟩
    rintro r m' ⟨hmm, X, hX, hS⟩; have hmm := hmm.symm; subst hmm
    subst hX
    have mt := mB.meet hS
    have e8 : (¬ ∃ t, t < 12 ∧ (t < (vw (ff, g, (720, 336))).1 2 ∧ misB (vw (ff, g, (720, 336))) ru t = true) ∧ (t < (vw (ff, g, (720, 336))).1 2 ∧ t ≠ f ∧ p t = p f)) ↔ ¬ SG8 (vw (ff, g, (720, 336))) p ru f :=
      ⟨fun z ⟨t, y1, y2, y3, y4⟩ => z ⟨t, by omega, ⟨y1, y4⟩, y1, y2, y3⟩, fun z ⟨t, y1, y2, y3⟩ => z ⟨t, y2.1, y3.2.1, y3.2.2, y2.2⟩⟩
    (conv => whnf)
    refine And.intro (fun q => ?_) (fun q => ?_)
    · have q : nI (bsN (misB (vw (ff, g, (720, 336))) ru) ((vw (ff, g, (720, 336))).1 2)) &&& nI X = 0 := q
      rw [mt, e8] at q
      exact And.intro rfl (at92 a b c false ha hb hc ⟨fun z => (by cases z), fun z => absurd z q⟩)
    · have q : ¬ nI (bsN (misB (vw (ff, g, (720, 336))) ru) ((vw (ff, g, (720, 336))).1 2)) &&& nI X = 0 := q
      rw [mt, e8, Classical.not_not] at q
      (conv => whnf)
      have z := at92 a b c true ha hb hc ⟨fun _ => q, fun _ => rfl⟩
      rw [show nI (sgN a b c true) = nI (sgN a b c false) ||| 8 by cases a <;> cases b <;> cases c <;> decide] at z
      exact And.intro rfl z
  have at56 : ∀ a b : Bool, (a = true ↔ SG1 (vw (ff, g, (720, 336))) f) → (b = true ↔ SG2 (vw (ff, g, (720, 336))) ru f) → At (E0 4) mX6_signBits (qi (fun r m' => m' = (ff, g, (720, 336)) ∧ SgR (vw (ff, g, (720, 336))) p ru L f r)) 56 [.ref 6, .int (nI f), .int (nI (bsN (misB (vw (ff, g, (720, 336))) ru) ((vw (ff, g, (720, 336))).1 2))), .int (nI L.length), .int (nI (sgN a b false false))] [] (ff, g, (720, 336)) := by
    intro a b ha hb
    refine At.ls okSb720 60 ⟨_, _, rfl⟩ ?_
    (conv => whnf)
    refine ⟨3, by decide, _, r_rWith_720 (f := f) h rfl hF hl hr, ?_⟩
    rintro r m' ⟨hmm, hq⟩; have hmm := hmm.symm; subst hmm
    subst hq
    (conv => whnf)
    refine And.intro (fun q => ?_) (fun q => ?_)
    · have q : rwP (vw (ff, g, (720, 336))) f L L.length < 2 := q
      rw [lt_i, e2] at q
      exact And.intro rfl (at72 a b false ha hb ⟨fun z => (by cases z), fun z => by unfold SG4 at z; omega⟩)
    · have q : ¬ rwP (vw (ff, g, (720, 336))) f L L.length < 2 := q
      rw [lt_i, e2] at q
      (conv => whnf)
      have z := at72 a b true ha hb ⟨fun _ => by unfold SG4; omega, fun _ => rfl⟩
      rw [show nI (sgN a b true false) = nI (sgN a b false false) ||| 4 by cases a <;> cases b <;> decide] at z
      exact And.intro rfl z
  have at23 : ∀ a : Bool, (a = true ↔ SG1 (vw (ff, g, (720, 336))) f) → At (E0 4) mX6_signBits (qi (fun r m' => m' = (ff, g, (720, 336)) ∧ SgR (vw (ff, g, (720, 336))) p ru L f r)) 23 [.ref 6, .int (nI f), .int (nI (bsN (misB (vw (ff, g, (720, 336))) ru) ((vw (ff, g, (720, 336))).1 2))), .int (nI L.length), .int (nI (sgN a false false false))] [] (ff, g, (720, 336)) := by
    intro a ha
    refine At.ls okSb720 80 ⟨_, _, rfl⟩ ?_
    (conv => whnf)
    dsimp only
    (conv => whnf)
    refine ⟨1, by decide, _, r_buyers_720 hM h, ?_⟩
    rintro r m' ⟨hmm, X, hX, hS⟩; have hmm := hmm.symm; subst hmm
    subst hX
    have hO := mB.or hS
    have hOr := orN (bsN (misB (vw (ff, g, (720, 336))) ru) ((vw (ff, g, (720, 336))).1 2)) X
    (conv => whnf)
    refine ⟨1, by decide, _, r_only_720 (f := f) (S := nI (bsN (misB (vw (ff, g, (720, 336))) ru) ((vw (ff, g, (720, 336))).1 2)) ||| nI X) hM h, ?_⟩
    rintro r2 m' ⟨hmm, hz⟩; have hmm := hmm.symm; subst hmm
    rw [hOr] at hz
    have key : ∀ s, s < (vw (ff, g, (720, 336))).1 3 → (¬ bt (nI (bsN (misB (vw (ff, g, (720, 336))) ru) ((vw (ff, g, (720, 336))).1 2) ||| X)) ((vw (ff, g, (720, 336))).2 10 s) = 0 ↔ misB (vw (ff, g, (720, 336))) ru ((vw (ff, g, (720, 336))).2 10 s).toNatClampNeg = true ∨ BFM (vw (ff, g, (720, 336))) ru ((vw (ff, g, (720, 336))).2 10 s)) := by
      intro s hs
      obtain ⟨u, u1, u2, u3⟩ := hW.frm hs
      rw [u3, u2, hO.bt (show u < 12 by omega)]
      constructor
      · rintro (z | ⟨j, j1, j2, j3⟩)
        · exact Or.inl z.2
        · refine Or.inr ⟨j, j1, j3, ?_⟩
          obtain ⟨x, x1, x2, x3⟩ := hW.frm j1
          rw [x3]
          rw [x2, mB.bt (show x < 12 by omega)] at j2
          exact j2.2
      · rintro (z | ⟨j, j1, j3, j2⟩)
        · exact Or.inl ⟨u1, z⟩
        · refine Or.inr ⟨j, j1, ?_, j3⟩
          obtain ⟨x, x1, x2, x3⟩ := hW.frm j1
          rw [x3] at j2
          rw [x2, mB.bt (show x < 12 by omega)]
          exact ⟨x1, j2⟩
    have e2' : ((∃ s, s < (vw (ff, g, (720, 336))).1 3 ∧ (vw (ff, g, (720, 336))).2 11 s = nI f) ∧ ∀ s, s < (vw (ff, g, (720, 336))).1 3 → (vw (ff, g, (720, 336))).2 11 s = nI f → ¬ bt (nI (bsN (misB (vw (ff, g, (720, 336))) ru) ((vw (ff, g, (720, 336))).1 2) ||| X)) ((vw (ff, g, (720, 336))).2 10 s) = 0) ↔ SG2 (vw (ff, g, (720, 336))) ru f :=
      ⟨fun z => ⟨z.1, fun s s1 s2 => (key s s1).mp (z.2 s s1 s2)⟩, fun z => ⟨z.1, fun s s1 s2 => (key s s1).mpr (z.2 s s1 s2)⟩⟩
    rw [z1_cg e2'] at hz
    (conv => whnf)
    refine And.intro (fun q => ?_) (fun q => ?_)
    · have q : r2 = 0 := q
      rcases hz with ⟨y1, y2⟩ | ⟨y1, y2⟩
      · rw [y2] at q; exact absurd q (by decide)
      · exact And.intro rfl (at56 a false ha ⟨fun z => (by cases z), fun z => absurd z y1⟩)
    · rcases hz with ⟨y1, y2⟩ | ⟨y1, y2⟩
      · (conv => whnf)
        have z := at56 a true ha ⟨fun _ => y1, fun _ => rfl⟩
        rw [show nI (sgN a true false false) = nI (sgN a false false false) ||| 2 by cases a <;> decide] at z
        exact And.intro rfl z
      · exact absurd y2 q
  refine At.gs okSb720 60 ?_
  (conv => whnf)
  dsimp only
  (conv => whnf)
  refine ⟨2, by decide, _, r_below_720 (f := f) hM h, ?_⟩
  rintro r m' ⟨hmm, hz⟩; have hmm := hmm.symm; subst hmm
  (conv => whnf)
  refine And.intro (fun q => ?_) (fun q => ?_)
  · have q : r = 0 := q
    rcases hz with ⟨y1, y2⟩ | ⟨y1, y2⟩
    · rw [y2] at q; exact absurd q (by decide)
    · exact And.intro rfl (at23 false ⟨fun z => (by cases z), fun z => absurd z y1⟩)
  · rcases hz with ⟨y1, y2⟩ | ⟨y1, y2⟩
    · (conv => whnf)
      exact And.intro rfl (at23 true ⟨fun _ => y1, fun _ => rfl⟩)
    · exact absurd y2 q
end SgC
