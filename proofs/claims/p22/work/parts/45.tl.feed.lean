/-! feed: what comes behind the tapes -/
/-- a byte of the class beside one of the model -/
def BR (x y : Int32) : Prop := 0 ≤ y.toInt ∧ y.toInt ≤ 255 ∧ x.toInt = if y.toInt < 128 then y.toInt else y.toInt - 256
theorem byteR (v : Int32) : BR (vp_nar .byte v.toInt8.toInt32) (v &&& 255) := by
  have hy : v &&& 255 = nI (v.toBitVec.toNat % 2 ^ 8) := pk_and v 8 (by decide)
  have hyI : (v &&& 255).toInt = ((v.toBitVec.toNat % 256 : Nat) : Int) := by
    rw [hy, nI_toInt (by have := Nat.mod_lt v.toBitVec.toNat (show 0 < 2 ^ 8 by decide); omega)]
  have hx : (vp_nar .byte v.toInt8.toInt32).toInt = v.toInt.bmod 256 := by
    show (v.toInt8.toInt32.toInt8.toInt32).toInt = _
    simp
  have hv : v.toInt = Int.bmod (v.toBitVec.toNat : Int) (2 ^ 32) := BitVec.toInt_eq_toNat_bmod v.toBitVec
  have hb : v.toInt.bmod 256 = Int.bmod (v.toBitVec.toNat : Int) 256 := by
    rw [hv]
    exact Int.bmod_bmod_of_dvd (by decide)
  have hd := Int.bmod_def (v.toBitVec.toNat : Int) 256
  refine ⟨by omega, by omega, ?_⟩
  rw [hx, hb, hd, hyI]
  split <;> split <;> omega
/-- the word that stands behind place k of twenty -/
def wdK (a b c d e : Int32) (k : Nat) : Int32 := if k < 4 then a else if k < 8 then b else if k < 12 then c else if k < 16 then d else e
def shK (q : Nat) : Int32 := nI (24 - 8 * q)
def pbK (x : Int32) (q : Nat) : Int32 := vp_nar .byte ((x >>> shK q).toInt8.toInt32)
def mbK (x : Int32) (q : Nat) : Int32 := (x >>> shK q) &&& 255
theorem sh0 (x : Int32) : x >>> shK 3 = x := by
  have : shK 3 = 0 := rfl
  rw [this]
  simp
theorem shI : ∀ k, k < 20 → (24 - 8 * (nI k - nI k / 4 * 4)) &&& 31 = shK (k % 4) := by decide +kernel
set_option maxRecDepth 100000 in
theorem f_push {m : MM} {x : Int32} {s : Nat} (hM : Mok TYg m) (hs : (gI m 19 1).toInt = s) (h8 : s ≤ 796) : CV 2 mX3_push [.ref 19, .int x] m (fun m' => St wF6 m m' ∧ (gI m' 19 1).toInt = ((s + 4 : Nat) : Int) ∧ (∀ i, i < s → gI m' 3276842 i = gI m 3276842 i) ∧ ∀ q, q < 4 → gI m' 3276842 (s + q) = pbK x q) := by
  have q1 : (0 : Int) ≤ (gI m 19 1).toInt ∧ (gI m 19 1).toInt ≤ 800 := hM.1 19 1
  have e1 := addc (x := gI m 19 1) (c := 1) (n := 1) rfl (by omega) (by omega)
  have e2 := addc (x := gI m 19 1) (c := 2) (n := 2) rfl (by omega) (by omega)
  have e3 := addc (x := gI m 19 1) (c := 3) (n := 3) rfl (by omega) (by omega)
  have e4 := addc (x := gI m 19 1) (c := 4) (n := 4) rfl (by omega) (by omega)
  have st : ∀ (m1 : MM) (k : Nat) (v : Int32), St wF6 m m1 → St wF6 m (sI m1 3276842 k (vp_nar .byte v)) := fun m1 k v h => h.row rfl (by decide) (show (-128 : Int) ≤ _ from (nar_byte v).1) (show _ ≤ (127 : Int) from (nar_byte v).2)
  have fin : ∀ (m1 : MM), St wF6 m m1 → St wF6 m (sI m1 19 1 (gI m 19 1 + 4)) := fun m1 h => h.fld (by decide) (show (0 : Int) ≤ _ by omega) (show _ ≤ (800 : Int) by omega) (fun _ q => by omega)
  have n0 : (gI m 19 1).toNatClampNeg = s := nat_c hs
  have n1 : (gI m 19 1 + 1).toNatClampNeg = s + 1 := nat_c (by omega)
  have n2 : (gI m 19 1 + 2).toNatClampNeg = s + 2 := nat_c (by omega)
  have n3 : (gI m 19 1 + 3).toNatClampNeg = s + 3 := nat_c (by omega)
  refine At.gs okX3_push 90 ?_
  (conv => whnf)
  refine ⟨1, by decide, _, h_space4 hM, ?_⟩
  rintro r m' ⟨hmm, hr⟩
  have hmm := hmm.symm
  subst hmm
  (conv => whnf)
  refine And.intro (fun h0 => ?_) (fun h0 => ?_)
  · rcases hr with ⟨p1, p2⟩ | ⟨p1, p2⟩
    · rw [p2] at h0; exact absurd h0 (by decide)
    · exact absurd (by omega) p1
  · (conv => whnf)
    refine And.intro (vp_in_iff.mpr ⟨show 0 ≤ (gI m 19 1).toInt by omega, show (gI m 19 1).toInt < _ by omega⟩) ?_
    (conv => whnf)
    refine And.intro (vp_in_iff.mpr ⟨show 0 ≤ (gI m 19 1 + 1).toInt by omega, show (gI m 19 1 + 1).toInt < _ by omega⟩) ?_
    (conv => whnf)
    refine And.intro (vp_in_iff.mpr ⟨show 0 ≤ (gI m 19 1 + 2).toInt by omega, show (gI m 19 1 + 2).toInt < _ by omega⟩) ?_
    (conv => whnf)
    refine And.intro (vp_in_iff.mpr ⟨show 0 ≤ (gI m 19 1 + 3).toInt by omega, show (gI m 19 1 + 3).toInt < _ by omega⟩) ?_
    (conv => whnf)
    have eX : ∀ i, gI (sI (sI (sI (sI (sI m 3276842 (gI m 19 1).toNatClampNeg (vp_nar .byte ((x >>> ((24 : Int32) &&& 31)).toInt8.toInt32))) 3276842 (gI m 19 1 + 1).toNatClampNeg (vp_nar .byte ((x >>> ((16 : Int32) &&& 31)).toInt8.toInt32))) 3276842 (gI m 19 1 + 2).toNatClampNeg (vp_nar .byte ((x >>> ((8 : Int32) &&& 31)).toInt8.toInt32))) 3276842 (gI m 19 1 + 3).toNatClampNeg (vp_nar .byte (x.toInt8.toInt32))) 19 1 (gI m 19 1 + 4)) 3276842 i = if i = s + 3 then pbK x 3 else if i = s + 2 then pbK x 2 else if i = s + 1 then pbK x 1 else if i = s then pbK x 0 else gI m 3276842 i := fun i => by
      have t3 : vp_nar .byte (x.toInt8.toInt32) = pbK x 3 := by unfold pbK; rw [sh0]
      rw [n0, n1, n2, n3, t3]
      show gI (sI (sI (sI (sI m 3276842 s (pbK x 0)) 3276842 (s + 1) (pbK x 1)) 3276842 (s + 2) (pbK x 2)) 3276842 (s + 3) (pbK x 3)) 3276842 i = _
      rw [gI_if, gI_if, gI_if, gI_if]
      simp
    refine ⟨fin _ (st _ _ _ (st _ _ _ (st _ _ _ (st _ _ _ (St.rf hM))))), e4.trans (by omega), fun i hi => (eX i).trans ?_, fun q hq => (eX (s + q)).trans ?_⟩
    · rw [if_neg (by omega), if_neg (by omega), if_neg (by omega), if_neg (by omega)]
    · rcases (by omega : q = 0 ∨ q = 1 ∨ q = 2 ∨ q = 3) with rfl | rfl | rfl | rfl
      · rw [if_neg (by omega), if_neg (by omega), if_neg (by omega), if_pos (by omega)]
      · rw [if_neg (by omega), if_neg (by omega), if_pos (by omega)]
      · rw [if_neg (by omega), if_pos (by omega)]
      · rw [if_pos (by omega)]
/-- what feed of the class leaves -/
def Fd6 (a b c d e : Int32) (m : MM) (r : Int32) (m' : MM) : Prop := St wF6 m m' ∧ (((gI m 19 1).toInt ≤ 780 ∧ r.toInt = (gI m 19 1).toInt + 20 ∧ (gI m' 19 1).toInt = (gI m 19 1).toInt + 20 ∧ (∀ i : Nat, (i : Int) < (gI m 19 1).toInt → gI m' 3276842 i = gI m 3276842 i) ∧ ∀ k, k < 20 → gI m' 3276842 ((gI m 19 1).toInt.toNat + k) = pbK (wdK a b c d e k) (k % 4)) ∨ (780 < (gI m 19 1).toInt ∧ r = -1 ∧ m' = m))
set_option maxRecDepth 100000 in
set_option maxHeartbeats 4000000 in
theorem f_feed6 {m : MM} {a b c d e : Int32} (hM : Mok TYg m) : CI 3 mX6_feed [.ref 6, .int a, .int b, .int c, .int d, .int e] m (Fd6 a b c d e m) := by
  have q1 : (0 : Int) ≤ (gI m 19 1).toInt ∧ (gI m 19 1).toInt ≤ 800 := hM.1 19 1
  refine At.gs okX6_feed 90 ?_
  (conv => whnf)
  refine ⟨1, by decide, _, h_space20 hM, ?_⟩
  rintro r m' ⟨hmm, hr⟩
  have hmm := hmm.symm
  subst hmm
  (conv => whnf)
  refine And.intro (fun h0 => ?_) (fun h0 => ?_)
  · have hle : (gI m 19 1).toInt + 20 ≤ 800 := by
      rcases hr with ⟨p1, p2⟩ | ⟨p1, p2⟩
      · exact p1
      · exact absurd p2 h0
    have hs : (gI m 19 1).toInt = (((gI m 19 1).toInt.toNat : Nat) : Int) := by omega
    generalize hS : (gI m 19 1).toInt.toNat = s at hs
    (conv => whnf)
    refine ⟨2, by decide, _, f_push (s := s) hM hs (by omega), ?_⟩
    rintro m1 ⟨S1, z1, k1, v1⟩
    (conv => whnf)
    refine ⟨2, by decide, _, f_push (s := s + 4) S1.1 z1 (by omega), ?_⟩
    rintro m2 ⟨S2, z2, k2, v2⟩
    (conv => whnf)
    refine ⟨2, by decide, _, f_push (s := s + 4 + 4) S2.1 z2 (by omega), ?_⟩
    rintro m3 ⟨S3, z3, k3, v3⟩
    (conv => whnf)
    refine ⟨2, by decide, _, f_push (s := s + 4 + 4 + 4) S3.1 z3 (by omega), ?_⟩
    rintro m4 ⟨S4, z4, k4, v4⟩
    (conv => whnf)
    refine ⟨2, by decide, _, f_push (s := s + 4 + 4 + 4 + 4) S4.1 z4 (by omega), ?_⟩
    rintro m5 ⟨S5, z5, k5, v5⟩
    have z5 : (gI m5 19 1).toInt = (gI m 19 1).toInt + 20 := by omega
    refine ⟨(((S1.tr S2 (fun _ h => h)).tr S3 (fun _ h => h)).tr S4 (fun _ h => h)).tr S5 (fun _ h => h), Or.inl ⟨by omega, z5, z5, fun i hi => ?_, fun k hk => ?_⟩⟩
    · rw [k5 i (by omega), k4 i (by omega), k3 i (by omega), k2 i (by omega), k1 i (by omega)]
    · rw [hS]
      have hq := Nat.mod_lt k (show 0 < 4 by omega)
      unfold wdK
      rcases Nat.lt_or_ge k 4 with y | y
      · rw [if_pos y, k5 _ (by omega), k4 _ (by omega), k3 _ (by omega), k2 _ (by omega), show k % 4 = k by omega]
        exact v1 k y
      · rw [if_neg (by omega)]
        rcases Nat.lt_or_ge k 8 with y2 | y2
        · rw [if_pos y2, k5 _ (by omega), k4 _ (by omega), k3 _ (by omega), show s + k = s + 4 + k % 4 by omega]
          exact v2 _ hq
        · rw [if_neg (by omega)]
          rcases Nat.lt_or_ge k 12 with y3 | y3
          · rw [if_pos y3, k5 _ (by omega), k4 _ (by omega), show s + k = s + 4 + 4 + k % 4 by omega]
            exact v3 _ hq
          · rw [if_neg (by omega)]
            rcases Nat.lt_or_ge k 16 with y4 | y4
            · rw [if_pos y4, k5 _ (by omega), show s + k = s + 4 + 4 + 4 + k % 4 by omega]
              exact v4 _ hq
            · rw [if_neg (by omega), show s + k = s + 4 + 4 + 4 + 4 + k % 4 by omega]
              exact v5 _ hq
  · have hle : ¬ (gI m 19 1).toInt + 20 ≤ 800 := by
      rcases hr with ⟨p1, p2⟩ | ⟨p1, p2⟩
      · rw [p2] at h0; exact absurd h0 (by decide)
      · exact p1
    exact ⟨St.rf hM, Or.inr ⟨by omega, rfl, rfl⟩⟩
/-- what feed of the model leaves -/
def Fd7 (a b c d e : Int32) (m : MM) (r : Int32) (m' : MM) : Prop := St wF7 m m' ∧ (((gI m 1175 2).toInt ≤ 780 ∧ r.toInt = (gI m 1175 2).toInt + 20 ∧ (gI m' 1175 2).toInt = (gI m 1175 2).toInt + 20 ∧ (∀ i : Nat, (i : Int) < (gI m 1175 2).toInt → gI m' 3277992 i = gI m 3277992 i) ∧ ∀ k, k < 20 → gI m' 3277992 ((gI m 1175 2).toInt.toNat + k) = mbK (wdK a b c d e k) (k % 4)) ∨ (780 < (gI m 1175 2).toInt ∧ r = -1 ∧ gI m' 1175 2 = gI m 1175 2 ∧ ∀ i : Nat, gI m' 3277992 i = gI m 3277992 i))
set_option maxRecDepth 100000 in
set_option maxHeartbeats 4000000 in
theorem f_feed7 {m : MM} {a b c d e : Int32} (hM : Mok TYg m) : CI 1 mX7_feed [.ref 1175, .int a, .int b, .int c, .int d, .int e] m (Fd7 a b c d e m) := by
  have q2 : (0 : Int) ≤ (gI m 1175 2).toInt ∧ (gI m 1175 2).toInt ≤ 800 := hM.1 1175 2
  have hS0 : St wF7 m (sI m 1175 0 0) := (St.rf hM).fld (by decide) (by decide) (by decide) (fun _ q => by omega)
  have e7 : (780 : Int32).toInt = 780 := rfl
  have e20 : (20 : Int32).toInt = 20 := rfl
  have e4 : (4 : Int32).toInt = 4 := rfl
  have e8 : (8 : Int32).toInt = 8 := rfl
  have e12 : (12 : Int32).toInt = 12 := rfl
  have e16 : (16 : Int32).toInt = 16 := rfl
  have lp : (gI m 1175 2).toInt ≤ 780 → ∀ (n j : Nat) (k : Int32) (m1 : MM) (w : Value), k.toInt = j → j + n = 20 → St wF7 m m1 → gI m1 1175 2 = gI m 1175 2 → (∀ i : Nat, (i : Int) < (gI m 1175 2).toInt → gI m1 3277992 i = gI m 3277992 i) → (∀ k, k < j → gI m1 3277992 ((gI m 1175 2).toInt.toNat + k) = mbK (wdK a b c d e k) (k % 4)) → At (E0 1) mX7_feed (qi (Fd7 a b c d e m)) 20 [.ref 1175, .int a, .int b, .int c, .int d, .int e, .int k, w] [] m1 := by
    intro hle n
    have ee := addc (x := gI m 1175 2) (c := 20) (n := 20) rfl (by omega) (by omega)
    induction n with
    | zero =>
      intro j k m1 w hk hj hS hz hA hB
      refine At.ls okX7_feed 60 ⟨_, _, rfl⟩ ?_
      (conv => whnf)
      refine And.intro (fun h => ?_) (fun h => absurd (le_i.mpr (by omega)) h)
      have hv : (gI m1 1175 2 + 20).toInt = (gI m 1175 2).toInt + 20 := by rw [hz]; exact ee
      exact ⟨hS.fld (by decide) (show (0 : Int) ≤ (gI m1 1175 2 + 20).toInt by omega) (show (gI m1 1175 2 + 20).toInt ≤ (800 : Int) by omega) (fun _ q => by omega), Or.inl ⟨hle, hv, hv, hA, fun k hk => hB k (by omega)⟩⟩
    | succ n ih =>
      intro j k m1 w hk hj hS hz hA hB
      have e1 : (k + 1).toInt = ((j + 1 : Nat) : Int) := by rw [inc1 (by omega), hk]; omega
      have ek : (gI m1 1175 2 + k).toInt = (((gI m 1175 2).toInt.toNat + j : Nat) : Int) := by
        rw [hz]
        exact (addc hk (by omega) (by omega)).trans (by omega)
      have hkN : k = nI j := nI_back hk
      have hsh : (24 - 8 * (k - k / 4 * 4)) &&& 31 = shK (j % 4) := by rw [hkN]; exact shI j (by omega)
      have go : ∀ v w : Int32, v = wdK a b c d e j → At (E0 1) mX7_feed (qi (Fd7 a b c d e m)) 20 [.ref 1175, .int a, .int b, .int c, .int d, .int e, .int (k + 1), .int w] [] (sI m1 3277992 (gI m1 1175 2 + k).toNatClampNeg (v >>> ((24 - 8 * (k - k / 4 * 4)) &&& 31) &&& 255)) := fun v w hv => by
        rw [nat_c ek, hsh]
        have hr := and_rng (i := v >>> shK (j % 4)) (j := 255) (by decide)
        refine ih (j + 1) (k + 1) _ (.int w) e1 (by omega) (hS.row rfl (by decide) (show (0 : Int) ≤ _ from hr.1) (show _ ≤ (255 : Int) from hr.2)) hz (fun i hi => ?_) (fun k' hk' => ?_)
        · rw [gI_if, if_neg (fun z => by have := z.2; omega)]
          exact hA i hi
        · rw [gI_if]
          by_cases y : k' = j
          · rw [if_pos ⟨rfl, by rw [y]⟩, y, hv]; rfl
          · rw [if_neg (fun z => by have := z.2; omega)]
            exact hB k' (by omega)
      have hvp : vp_in (gI m1 1175 2 + k) 800 := vp_in_iff.mpr ⟨by omega, show (gI m1 1175 2 + k).toInt < ((800 : Nat) : Int) by omega⟩
      refine At.ls okX7_feed 60 ⟨_, _, rfl⟩ ?_
      (conv => whnf)
      refine And.intro (fun h => absurd (le_i.mp h) (by omega)) (fun h => ?_)
      (conv => whnf)
      refine And.intro (fun h4 => ?_) (fun h4 => ?_)
      · rw [le_i] at h4
        (conv => whnf)
        refine And.intro (fun h8 => ?_) (fun h8 => ?_)
        · rw [le_i] at h8
          (conv => whnf)
          refine And.intro (fun h12 => ?_) (fun h12 => ?_)
          · rw [le_i] at h12
            (conv => whnf)
            refine And.intro (fun h16 => ?_) (fun h16 => ?_)
            · rw [le_i] at h16
              (conv => whnf)
              refine And.intro (by decide) ?_
              (conv => whnf)
              refine And.intro hvp ?_
              (conv => whnf)
              exact And.intro rfl (go _ _ (by unfold wdK; rw [if_neg (by omega), if_neg (by omega), if_neg (by omega), if_neg (by omega)]))
            · rw [le_i] at h16
              (conv => whnf)
              refine And.intro (by decide) ?_
              (conv => whnf)
              refine And.intro hvp ?_
              (conv => whnf)
              exact And.intro rfl (go _ _ (by unfold wdK; rw [if_neg (by omega), if_neg (by omega), if_neg (by omega), if_pos (by omega)]))
          · rw [le_i] at h12
            (conv => whnf)
            refine And.intro (by decide) ?_
            (conv => whnf)
            refine And.intro hvp ?_
            (conv => whnf)
            exact And.intro rfl (go _ _ (by unfold wdK; rw [if_neg (by omega), if_neg (by omega), if_pos (by omega)]))
        · rw [le_i] at h8
          (conv => whnf)
          refine And.intro (by decide) ?_
          (conv => whnf)
          refine And.intro hvp ?_
          (conv => whnf)
          exact And.intro rfl (go _ _ (by unfold wdK; rw [if_neg (by omega), if_pos (by omega)]))
      · rw [le_i] at h4
        (conv => whnf)
        refine And.intro (by decide) ?_
        (conv => whnf)
        refine And.intro hvp ?_
        (conv => whnf)
        exact And.intro rfl (go _ _ (by unfold wdK; rw [if_pos (by omega)]))
  refine At.gs okX7_feed 60 ?_
  (conv => whnf)
  refine And.intro (fun h => ?_) (fun h => ?_)
  · have h : gI m 1175 2 ≤ 780 := h
    rw [le_i] at h
    (conv => whnf)
    exact And.intro rfl (lp (by omega) 20 0 0 _ .null rfl rfl hS0 rfl (fun i _ => rfl) (fun k hk => absurd hk (Nat.not_lt_zero k)))
  · have h : ¬ gI m 1175 2 ≤ 780 := h
    rw [le_i] at h
    exact ⟨hS0, Or.inr ⟨by omega, rfl, rfl, fun i => rfl⟩⟩
