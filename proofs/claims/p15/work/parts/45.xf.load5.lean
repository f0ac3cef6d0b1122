/-! the class's streams: the sales that count, in order -/
def ctL (p : Nat → Bool) : Nat → List Nat
  | 0 => []
  | n + 1 => if p n = true then ctL p n ++ [n] else ctL p n
theorem ctL_y {p : Nat → Bool} {n : Nat} (h : p n = true) : ctL p (n + 1) = ctL p n ++ [n] := if_pos h
theorem ctL_n {p : Nat → Bool} {n : Nat} (h : ¬ p n = true) : ctL p (n + 1) = ctL p n := if_neg h
theorem ctL_len (p : Nat → Bool) : ∀ n, (ctL p n).length ≤ n
  | 0 => Nat.le_refl 0
  | n + 1 => by
    have ih := ctL_len p n
    by_cases q : p n = true
    · rw [ctL_y q, List.length_append, List.length_singleton]; omega
    · rw [ctL_n q]; omega
theorem ctL_at (p : Nat → Bool) : ∀ n j, j < (ctL p n).length → (ctL p n).getD j 0 < n ∧ p ((ctL p n).getD j 0) = true
  | 0, j, h => absurd h (Nat.not_lt_zero _)
  | n + 1, j, h => by
    by_cases q : p n = true
    · rw [ctL_y q] at h ⊢
      rw [List.length_append, List.length_singleton] at h
      by_cases y : j = (ctL p n).length
      · rw [y, gD_r]; exact ⟨by omega, q⟩
      · rw [gD_l (by omega)]
        have := ctL_at p n j (by omega)
        exact ⟨by omega, this.2⟩
    · rw [ctL_n q] at h ⊢
      have := ctL_at p n j h
      exact ⟨by omega, this.2⟩
theorem ctL_lt (p : Nat → Bool) : ∀ n i j, i < j → j < (ctL p n).length → (ctL p n).getD i 0 < (ctL p n).getD j 0
  | 0, i, j, _, h => absurd h (Nat.not_lt_zero _)
  | n + 1, i, j, hij, h => by
    by_cases q : p n = true
    · rw [ctL_y q] at h ⊢
      rw [List.length_append, List.length_singleton] at h
      by_cases y : j = (ctL p n).length
      · rw [y, gD_r, gD_l (by omega)]
        exact (ctL_at p n i (by omega)).1
      · rw [gD_l (by omega), gD_l (by omega)]
        exact ctL_lt p n i j hij (by omega)
    · rw [ctL_n q] at h ⊢
      exact ctL_lt p n i j hij h
theorem ctL_in (p : Nat → Bool) : ∀ n s, s < n → p s = true → ∃ j, j < (ctL p n).length ∧ (ctL p n).getD j 0 = s
  | 0, s, h, _ => absurd h (Nat.not_lt_zero _)
  | n + 1, s, h, hp => by
    by_cases y : s = n
    · have q : p n = true := by rw [← y]; exact hp
      refine ⟨(ctL p n).length, ?_, ?_⟩
      · rw [ctL_y q, List.length_append, List.length_singleton]; omega
      · rw [ctL_y q, gD_r, y]
    · obtain ⟨j, j1, j2⟩ := ctL_in p n s (by omega) hp
      by_cases q : p n = true
      · refine ⟨j, ?_, ?_⟩
        · rw [ctL_y q, List.length_append, List.length_singleton]; omega
        · rw [ctL_y q, gD_l j1]; exact j2
      · rw [ctL_n q]; exact ⟨j, j1, j2⟩
/-- one bit of an int -/
theorem bt_lsb (x : Int32) {i : Nat} (hi : i < 31) : bt x (nI i) = 0 ↔ x.toBitVec.getLsbD i = false := by
  have e : bt x (nI i) = nI ((x >>> (nI i &&& 31)).toBitVec.toNat % 2) := and1 _
  have e2 : (x >>> (nI i &&& 31)).toBitVec = x.toBitVec.sshiftRight i := by
    rw [Int32.toBitVec_shiftRight, BitVec.sshiftRight_eq', sh_ix i (by omega)]
  have e3 : (x.toBitVec.sshiftRight i).getLsbD 0 = x.toBitVec.getLsbD i := by
    rw [BitVec.getLsbD_sshiftRight, if_pos (by omega)]
    simp
  have e4 : (x.toBitVec.sshiftRight i).getLsbD 0 = decide ((x.toBitVec.sshiftRight i).toNat % 2 = 1) := Nat.testBit_zero _
  rw [e, e2, ← e3, e4]
  rcases Nat.mod_two_eq_zero_or_one (x.toBitVec.sshiftRight i).toNat with z | z
  · rw [z]; exact ⟨fun _ => rfl, fun _ => rfl⟩
  · rw [z]; exact ⟨fun q => absurd q (by decide), fun q => absurd q (by decide)⟩
theorem par_0 {st : Int32} {a b : Nat} (ha : a < 12) (hb : b < 12) : (((1 : Int32) <<< (nI a &&& 31)) ||| ((1 : Int32) <<< (nI b &&& 31))) &&& st = 0 ↔ bt st (nI a) = 0 ∧ bt st (nI b) = 0 := by
  rw [shl1 (by omega), shl1 (by omega), nI_or, bt_lsb st (by omega), bt_lsb st (by omega)]
  have key : ∀ i, i < 32 → (nI (2 ^ a ||| 2 ^ b)).toBitVec.getLsbD i = (decide (a = i) || decide (b = i)) := fun i hi => by
    show (BitVec.ofNat 32 (2 ^ a ||| 2 ^ b)).getLsbD i = _
    rw [BitVec.getLsbD_ofNat, Nat.testBit_or, Nat.testBit_two_pow, Nat.testBit_two_pow, decide_eq_true hi, Bool.true_and]
  constructor
  · intro h
    have hb2 : (nI (2 ^ a ||| 2 ^ b)).toBitVec &&& st.toBitVec = 0#32 := by
      have := congrArg Int32.toBitVec h
      rw [Int32.toBitVec_and] at this
      exact this
    have bit : ∀ i, i < 32 → ((decide (a = i) || decide (b = i)) && st.toBitVec.getLsbD i) = false := fun i hi => by
      have := congrArg (fun z => BitVec.getLsbD z i) hb2
      simp only [BitVec.getLsbD_and, BitVec.getLsbD_zero] at this
      rw [key i hi] at this
      exact this
    constructor
    · have := bit a (by omega)
      rw [decide_eq_true rfl, Bool.true_or, Bool.true_and] at this
      exact this
    · have := bit b (by omega)
      rw [decide_eq_true (rfl : b = b), Bool.or_true, Bool.true_and] at this
      exact this
  · rintro ⟨h1, h2⟩
    apply Int32.toBitVec_inj.1
    rw [Int32.toBitVec_and]
    apply BitVec.eq_of_getLsbD_eq
    intro i hi
    rw [BitVec.getLsbD_and, key i hi]
    show _ = (0#32).getLsbD i
    rw [BitVec.getLsbD_zero]
    by_cases q1 : a = i
    · rw [← q1, h1, Bool.and_false]
    · by_cases q2 : b = i
      · rw [← q2, h2, Bool.and_false]
      · rw [decide_eq_false q1, decide_eq_false q2]; rfl
/-- the streams hold the sales of L -/
def SX (V : VW) (L : List Nat) (m : MM) : Prop := gI m 197 8 = nI L.length ∧ ∀ j, j < L.length → gI m 164056 j = V.2 10 (L.getD j 0) ∧ gI m 164072 j = V.2 11 (L.getD j 0) ∧ gI m 164088 j = V.2 15 (L.getD j 0) ∧ gI m 164104 j = V.2 12 (L.getD j 0)
def wLd : List Nat := [164056, 164072, 164088, 164104, 164120, 6553896, 38654705861]
set_option maxRecDepth 100000 in
set_option maxHeartbeats 8000000 in
theorem r_load5_336 {m : MM} {w st : Int32} (hM : Mok TYg m) (h : SB 336 m) : CV 1 mX5_load [.ref 197, .ref 452, .int w, .int st] m (fun m' => St wLd m m' ∧ SX (vw m) (ctL (ctB (vw m) st w) ((vw m).1 3)) m' ∧ (∀ j, j < (ctL (ctB (vw m) st w) ((vw m).1 3)).length → gI m' 164120 j = 0) ∧ ∀ j, j < (ctL (ctB (vw m) st w) ((vw m).1 3)).length * (ctL (ctB (vw m) st w) ((vw m).1 3)).length → gI m' 6553896 j = 0) := by
  have hW := h.2.2.2.2.2
  have h40 := hW.1.2.2.2
  have h12 := hW.1.2.2.1
  have e2 : gI m 452 7 = gI m 1175 6 := h.1 3 (by decide)
  have c2 : gI m 452 7 = nI ((vw m).1 3) := nI_back (by rw [e2]; exact vw3 hM)
  have zr : ∀ (L : List Nat), L = ctL (ctB (vw m) st w) ((vw m).1 3) → ∀ (d j : Nat) (v5 : Value) (m1 : MM), j + d = L.length * L.length → St wLd m m1 → SX (vw m) L m1 → (∀ i, i < L.length → gI m1 164120 i = 0) → (∀ i, i < j → gI m1 6553896 i = 0) → At (E0 1) mX5_load (qv (fun m' => St wLd m m' ∧ SX (vw m) (ctL (ctB (vw m) st w) ((vw m).1 3)) m' ∧ (∀ j, j < (ctL (ctB (vw m) st w) ((vw m).1 3)).length → gI m' 164120 j = 0) ∧ ∀ j, j < (ctL (ctB (vw m) st w) ((vw m).1 3)).length * (ctL (ctB (vw m) st w) ((vw m).1 3)).length → gI m' 6553896 j = 0)) 149 [.ref 197, .ref 452, .int w, .int st, .int (nI j), v5] [] m1 := by
    intro L hL d
    have hl : L.length ≤ 40 := by
      have := ctL_len (ctB (vw m) st w) ((vw m).1 3)
      rw [hL]; omega
    have hl2 : L.length * L.length ≤ 40 * 40 := Nat.mul_le_mul hl hl
    induction d with
    | zero =>
      intro j v5 m1 hj hS hX hc hz
      have cz : gI m1 197 8 * gI m1 197 8 = nI (L.length * L.length) := by rw [hX.1, pk_mul]
      refine At.ls okX5_load 60 ⟨_, _, rfl⟩ ?_
      (conv => whnf)
      refine And.intro (fun p => ?_) (fun p => ?_)
      · rw [← hL]
        exact ⟨hS, hX, hc, fun i hi => hz i (by omega)⟩
      · have p : ¬ gI m1 197 8 * gI m1 197 8 ≤ nI j := p
        rw [cz, le_i, nI_toInt (by omega), nI_toInt (by omega)] at p
        omega
    | succ d ih =>
      intro j v5 m1 hj hS hX hc hz
      have cz : gI m1 197 8 * gI m1 197 8 = nI (L.length * L.length) := by rw [hX.1, pk_mul]
      have jc : (nI j).toNatClampNeg = j := nI_clamp (by omega)
      have S2 : St wLd m (sI m1 6553896 (nI j).toNatClampNeg 0) := hS.row (a := 6553896) rfl (by decide) (tI_lo _) (tI_hi _)
      have z := ih (j + 1) v5 _ (by omega) S2 (by
        refine ⟨hX.1, fun i hi => ?_⟩
        rw [gI_if, if_neg (fun u => absurd u.1 (by decide)), gI_if, if_neg (fun u => absurd u.1 (by decide)), gI_if, if_neg (fun u => absurd u.1 (by decide)), gI_if, if_neg (fun u => absurd u.1 (by decide))]
        exact hX.2 i hi) (fun i hi => by
        rw [gI_if, if_neg (fun u => absurd u.1 (by decide))]
        exact hc i hi) (fun i hi => by
        rw [gI_if, jc]
        by_cases q : i = j
        · rw [if_pos ⟨rfl, q⟩]
        · rw [if_neg (fun u => q u.2)]
          exact hz i (by omega))
      rw [show nI (j + 1) = nI j + 1 from (nI_1 j).symm] at z
      refine At.ls okX5_load 60 ⟨_, _, rfl⟩ ?_
      (conv => whnf)
      refine And.intro (fun p => ?_) (fun p => ?_)
      · have p : gI m1 197 8 * gI m1 197 8 ≤ nI j := p
        rw [cz, le_i, nI_toInt (by omega), nI_toInt (by omega)] at p
        omega
      (conv => whnf)
      refine And.intro (vp_in_nI (by omega) (by decide)) ?_
      (conv => whnf)
      exact And.intro rfl z
  have lp : ∀ (d i : Nat) (v5 : Value) (m1 : MM), i + d = (vw m).1 3 → St wLd m m1 → SX (vw m) (ctL (ctB (vw m) st w) i) m1 → (∀ j, j < (ctL (ctB (vw m) st w) i).length → gI m1 164120 j = 0) → At (E0 1) mX5_load (qv (fun m' => St wLd m m' ∧ SX (vw m) (ctL (ctB (vw m) st w) ((vw m).1 3)) m' ∧ (∀ j, j < (ctL (ctB (vw m) st w) ((vw m).1 3)).length → gI m' 164120 j = 0) ∧ ∀ j, j < (ctL (ctB (vw m) st w) ((vw m).1 3)).length * (ctL (ctB (vw m) st w) ((vw m).1 3)).length → gI m' 6553896 j = 0)) 8 [.ref 197, .ref 452, .int w, .int st, .int (nI i), v5] [] m1 := by
    intro d
    induction d with
    | zero =>
      intro i v5 m1 hi hS hX hc
      have c3 : gI m1 452 7 = nI ((vw m).1 3) := by rw [fr1 hS.2.2 (by decide)]; exact c2
      rw [show i = (vw m).1 3 by omega] at hX hc
      refine At.ls okX5_load 60 ⟨_, _, rfl⟩ ?_
      (conv => whnf)
      refine And.intro (fun p => ?_) (fun p => ?_)
      · (conv => whnf)
        exact And.intro rfl (zr _ rfl ((ctL (ctB (vw m) st w) ((vw m).1 3)).length * (ctL (ctB (vw m) st w) ((vw m).1 3)).length) 0 _ m1 (by omega) hS hX hc (fun j hj => absurd hj (Nat.not_lt_zero _)))
      · have p : ¬ gI m1 452 7 ≤ nI i := p
        rw [c3, le_i, nI_toInt (by omega), nI_toInt (by omega)] at p
        omega
    | succ d ih =>
      intro i v5 m1 hi hS hX hc
      have c3 : gI m1 452 7 = nI ((vw m).1 3) := by rw [fr1 hS.2.2 (by decide)]; exact c2
      have vi : vp_in (nI i) 40 := vp_in_nI (by omega) (by decide)
      have ic : (nI i).toNatClampNeg = i := nI_clamp (by omega)
      have rr : ∀ r, r < 17 → r ≠ 9 → own r = 3 → gI m1 (rowC 336 r) i = (vw m).2 r i := fun r hr h9 ho => by
        rw [row1 hS.2.2 (rowC_8 (by unfold isBk; omega) r hr) ?_]
        · exact h.2.1 r hr h9 i (by rw [ho]; omega)
        · have : ∀ r, r < 17 → elm (rowC 336 r) wLd = false := by decide +kernel
          exact this r hr
      have c10 : gI m1 164312 (nI i).toNatClampNeg = (vw m).2 10 i := by rw [ic]; exact rr 10 (by decide) (by decide) rfl
      have c11 : gI m1 164328 (nI i).toNatClampNeg = (vw m).2 11 i := by rw [ic]; exact rr 11 (by decide) (by decide) rfl
      have c12 : gI m1 164344 (nI i).toNatClampNeg = (vw m).2 12 i := by rw [ic]; exact rr 12 (by decide) (by decide) rfl
      have c13 : gI m1 164360 (nI i).toNatClampNeg = (vw m).2 13 i := by rw [ic]; exact rr 13 (by decide) (by decide) rfl
      have c15 : gI m1 164392 (nI i).toNatClampNeg = (vw m).2 15 i := by rw [ic]; exact rr 15 (by decide) (by decide) rfl
      obtain ⟨f, f1, f2, -⟩ := hW.frm (s := i) (by omega)
      obtain ⟨t, t1, t2, -⟩ := hW.tom (s := i) (by omega)
      have nm := (hW.2.2.2 i (by omega)).2.2.2.1
      have hln := ctL_len (ctB (vw m) st w) i
      have par : ((1 : Int32) <<< (gI m1 164312 (nI i).toNatClampNeg &&& 31) ||| (1 : Int32) <<< (gI m1 164328 (nI i).toNatClampNeg &&& 31)) &&& st = 0 ↔ bt st ((vw m).2 10 i) = 0 ∧ bt st ((vw m).2 11 i) = 0 := by
        rw [c10, c11, f2, t2]
        exact par_0 (by omega) (by omega)
      have skip : ∀ v : Value, ¬ ctB (vw m) st w i = true → At (E0 1) mX5_load (qv (fun m' => St wLd m m' ∧ SX (vw m) (ctL (ctB (vw m) st w) ((vw m).1 3)) m' ∧ (∀ j, j < (ctL (ctB (vw m) st w) ((vw m).1 3)).length → gI m' 164120 j = 0) ∧ ∀ j, j < (ctL (ctB (vw m) st w) ((vw m).1 3)).length * (ctL (ctB (vw m) st w) ((vw m).1 3)).length → gI m' 6553896 j = 0)) 8 [.ref 197, .ref 452, .int w, .int st, .int (nI i + 1), v] [] m1 := fun v hn => by
        have z := ih (i + 1) v m1 (by omega) hS (by rw [ctL_n hn]; exact hX) (by rw [ctL_n hn]; exact hc)
        rw [show nI (i + 1) = nI i + 1 from (nI_1 i).symm] at z
        exact z
      refine At.ls okX5_load 200 ⟨_, _, rfl⟩ ?_
      (conv => whnf)
      refine And.intro (fun p => ?_) (fun p => ?_)
      · have p : gI m1 452 7 ≤ nI i := p
        rw [c3, le_i, nI_toInt (by omega), nI_toInt (by omega)] at p
        omega
      (conv => whnf)
      refine And.intro vi ?_
      (conv => whnf)
      refine And.intro vi ?_
      (conv => whnf)
      refine And.intro vi ?_
      (conv => whnf)
      refine And.intro (fun q => ?_) (fun q => ?_)
      · have q : ¬ gI m1 164360 (nI i).toNatClampNeg = w := q
        rw [c13] at q
        (conv => whnf)
        refine And.intro rfl (skip _ (fun z => ?_))
        unfold ctB at z
        rw [decide_eq_false q] at z
        cases z
      have q : gI m1 164360 (nI i).toNatClampNeg = w := q
      rw [c13] at q
      (conv => whnf)
      refine And.intro (fun q2 => ?_) (fun q2 => ?_)
      · have q2 : ¬ ((1 : Int32) <<< (gI m1 164312 (nI i).toNatClampNeg &&& 31) ||| (1 : Int32) <<< (gI m1 164328 (nI i).toNatClampNeg &&& 31)) &&& st = 0 := q2
        rw [par] at q2
        (conv => whnf)
        refine And.intro rfl (skip _ (fun z => q2 ?_))
        unfold ctB at z
        rw [Bool.and_eq_true, Bool.and_eq_true] at z
        exact ⟨of_decide_eq_true z.1.2, of_decide_eq_true z.2⟩
      have q2 : ((1 : Int32) <<< (gI m1 164312 (nI i).toNatClampNeg &&& 31) ||| (1 : Int32) <<< (gI m1 164328 (nI i).toNatClampNeg &&& 31)) &&& st = 0 := q2
      rw [par] at q2
      have hct : ctB (vw m) st w i = true := by
        unfold ctB
        rw [decide_eq_true q, decide_eq_true q2.1, decide_eq_true q2.2]
        rfl
      obtain ⟨K, hK⟩ : ∃ K, K = (ctL (ctB (vw m) st w) i).length := ⟨_, rfl⟩
      have e8 : gI m1 197 8 = nI K := by rw [hK]; exact hX.1
      have vk : vp_in (gI m1 197 8) 40 := by rw [e8]; exact vp_in_nI (by omega) (by decide)
      have kc : (gI m1 197 8).toNatClampNeg = K := by rw [e8]; exact nI_clamp (by omega)
      obtain ⟨m2, hm2⟩ : ∃ y, y = sI (sI (sI (sI (sI (sI m1 164056 (gI m1 197 8).toNatClampNeg (gI m1 164312 (nI i).toNatClampNeg)) 164072 (gI m1 197 8).toNatClampNeg (gI m1 164328 (nI i).toNatClampNeg)) 164088 (gI m1 197 8).toNatClampNeg (gI m1 164392 (nI i).toNatClampNeg)) 164104 (gI m1 197 8).toNatClampNeg (gI m1 164344 (nI i).toNatClampNeg)) 164120 (gI m1 197 8).toNatClampNeg 0) 197 8 (gI m1 197 8 + 1) := ⟨_, rfl⟩
      have S2 : St wLd m m2 := by
        rw [hm2]
        exact (((((hS.row (a := 164056) rfl (by decide) (tI_lo _) (tI_hi _)).row (a := 164072) rfl (by decide) (tI_lo _) (tI_hi _)).row (a := 164088) rfl (by decide) (tI_lo _) (tI_hi _)).row (a := 164104) rfl (by decide) (tI_lo _) (tI_hi _)).row (a := 164120) rfl (by decide) (tI_lo _) (tI_hi _)).fld (a := 197) (k := 8) (by decide) (show (0 : Int) ≤ _ by rw [e8, nI_1, nI_toInt (by omega)]; omega) (show _ ≤ (40 : Int) by rw [e8, nI_1, nI_toInt (by omega)]; omega) (fun _ z => by omega)
      have g2 : ∀ b v, gI m2 b v = if b = 197 ∧ v = 8 then nI (K + 1) else if b = 164120 ∧ v = K then 0 else if b = 164104 ∧ v = K then (vw m).2 12 i else if b = 164088 ∧ v = K then (vw m).2 15 i else if b = 164072 ∧ v = K then (vw m).2 11 i else if b = 164056 ∧ v = K then (vw m).2 10 i else gI m1 b v := fun b v => by
        rw [hm2, gI_if, gI_if, gI_if, gI_if, gI_if, gI_if, kc, c10, c11, c12, c15, e8, nI_1]
      have z := ih (i + 1) (.int ((1 : Int32) <<< (gI m1 164312 (nI i).toNatClampNeg &&& 31) ||| (1 : Int32) <<< (gI m1 164328 (nI i).toNatClampNeg &&& 31))) m2 (by omega) S2 (by
        rw [ctL_y hct]
        refine ⟨?_, fun j hj => ?_⟩
        · rw [g2, if_pos ⟨rfl, rfl⟩, List.length_append, List.length_singleton, ← hK]
        · rw [List.length_append, List.length_singleton, ← hK] at hj
          rw [g2, g2, g2, g2]
          by_cases y : j = K
          · rw [y, hK, gD_r, ← hK]
            refine ⟨?_, ?_, ?_, ?_⟩
            · rw [if_neg (fun u => absurd u.1 (by decide)), if_neg (fun u => absurd u.1 (by decide)), if_neg (fun u => absurd u.1 (by decide)), if_neg (fun u => absurd u.1 (by decide)), if_neg (fun u => absurd u.1 (by decide)), if_pos ⟨rfl, rfl⟩]
            · rw [if_neg (fun u => absurd u.1 (by decide)), if_neg (fun u => absurd u.1 (by decide)), if_neg (fun u => absurd u.1 (by decide)), if_neg (fun u => absurd u.1 (by decide)), if_pos ⟨rfl, rfl⟩]
            · rw [if_neg (fun u => absurd u.1 (by decide)), if_neg (fun u => absurd u.1 (by decide)), if_neg (fun u => absurd u.1 (by decide)), if_pos ⟨rfl, rfl⟩]
            · rw [if_neg (fun u => absurd u.1 (by decide)), if_neg (fun u => absurd u.1 (by decide)), if_pos ⟨rfl, rfl⟩]
          · rw [gD_l (by omega)]
            have x := hX.2 j (by omega)
            refine ⟨?_, ?_, ?_, ?_⟩
            · rw [if_neg (fun u => absurd u.1 (by decide)), if_neg (fun u => y u.2), if_neg (fun u => y u.2), if_neg (fun u => y u.2), if_neg (fun u => y u.2), if_neg (fun u => y u.2)]; exact x.1
            · rw [if_neg (fun u => absurd u.1 (by decide)), if_neg (fun u => y u.2), if_neg (fun u => y u.2), if_neg (fun u => y u.2), if_neg (fun u => y u.2), if_neg (fun u => y u.2)]; exact x.2.1
            · rw [if_neg (fun u => absurd u.1 (by decide)), if_neg (fun u => y u.2), if_neg (fun u => y u.2), if_neg (fun u => y u.2), if_neg (fun u => y u.2), if_neg (fun u => y u.2)]; exact x.2.2.1
            · rw [if_neg (fun u => absurd u.1 (by decide)), if_neg (fun u => y u.2), if_neg (fun u => y u.2), if_neg (fun u => y u.2), if_neg (fun u => y u.2), if_neg (fun u => y u.2)]; exact x.2.2.2) (fun j hj => by
        rw [ctL_y hct, List.length_append, List.length_singleton, ← hK] at hj
        rw [g2, if_neg (fun u => absurd u.1 (by decide))]
        by_cases y : j = K
        · rw [if_pos ⟨rfl, y⟩]
        · rw [if_neg (fun u => y u.2), if_neg (fun u => y u.2), if_neg (fun u => y u.2), if_neg (fun u => y u.2), if_neg (fun u => y u.2)]
          exact hc j (by omega))
      rw [show nI (i + 1) = nI i + 1 from (nI_1 i).symm, hm2] at z
      (conv => whnf)
      refine And.intro vi ?_
      (conv => whnf)
      refine And.intro vk ?_
      (conv => whnf)
      refine And.intro vi ?_
      (conv => whnf)
      refine And.intro vk ?_
      (conv => whnf)
      refine And.intro vi ?_
      (conv => whnf)
      refine And.intro vk ?_
      (conv => whnf)
      refine And.intro vi ?_
      (conv => whnf)
      refine And.intro vk ?_
      (conv => whnf)
      refine And.intro vk ?_
      (conv => whnf)
      exact And.intro rfl z
  have S8 : St wLd m (sI m 197 8 0) := (St.rf hM).fld (a := 197) (k := 8) (v := 0) (by decide) (by decide) (by decide) (fun _ z => by omega)
  refine At.gs okX5_load 60 ?_
  (conv => whnf)
  exact And.intro rfl (lp ((vw m).1 3) 0 _ _ (by omega) S8 ⟨by rw [gI_if, if_pos ⟨rfl, rfl⟩]; rfl, fun j hj => absurd hj (Nat.not_lt_zero _)⟩ (fun j hj => absurd hj (Nat.not_lt_zero _)))
set_option maxRecDepth 100000 in
set_option maxHeartbeats 8000000 in
theorem r_load5_720 {m : MM} {w st : Int32} (hM : Mok TYg m) (h : SB 720 m) : CV 1 mX5_load [.ref 197, .ref 836, .int w, .int st] m (fun m' => St wLd m m' ∧ SX (vw m) (ctL (ctB (vw m) st w) ((vw m).1 3)) m' ∧ (∀ j, j < (ctL (ctB (vw m) st w) ((vw m).1 3)).length → gI m' 164120 j = 0) ∧ ∀ j, j < (ctL (ctB (vw m) st w) ((vw m).1 3)).length * (ctL (ctB (vw m) st w) ((vw m).1 3)).length → gI m' 6553896 j = 0) := by
  have hW := h.2.2.2.2.2
  have h40 := hW.1.2.2.2
  have h12 := hW.1.2.2.1
  have e2 : gI m 836 7 = gI m 1175 6 := h.1 3 (by decide)
  have c2 : gI m 836 7 = nI ((vw m).1 3) := nI_back (by rw [e2]; exact vw3 hM)
  have zr : ∀ (L : List Nat), L = ctL (ctB (vw m) st w) ((vw m).1 3) → ∀ (d j : Nat) (v5 : Value) (m1 : MM), j + d = L.length * L.length → St wLd m m1 → SX (vw m) L m1 → (∀ i, i < L.length → gI m1 164120 i = 0) → (∀ i, i < j → gI m1 6553896 i = 0) → At (E0 1) mX5_load (qv (fun m' => St wLd m m' ∧ SX (vw m) (ctL (ctB (vw m) st w) ((vw m).1 3)) m' ∧ (∀ j, j < (ctL (ctB (vw m) st w) ((vw m).1 3)).length → gI m' 164120 j = 0) ∧ ∀ j, j < (ctL (ctB (vw m) st w) ((vw m).1 3)).length * (ctL (ctB (vw m) st w) ((vw m).1 3)).length → gI m' 6553896 j = 0)) 149 [.ref 197, .ref 836, .int w, .int st, .int (nI j), v5] [] m1 := by
    intro L hL d
    have hl : L.length ≤ 40 := by
      have := ctL_len (ctB (vw m) st w) ((vw m).1 3)
      rw [hL]; omega
    have hl2 : L.length * L.length ≤ 40 * 40 := Nat.mul_le_mul hl hl
    induction d with
    | zero =>
      intro j v5 m1 hj hS hX hc hz
      have cz : gI m1 197 8 * gI m1 197 8 = nI (L.length * L.length) := by rw [hX.1, pk_mul]
      refine At.ls okX5_load 60 ⟨_, _, rfl⟩ ?_
      (conv => whnf)
      refine And.intro (fun p => ?_) (fun p => ?_)
      · rw [← hL]
        exact ⟨hS, hX, hc, fun i hi => hz i (by omega)⟩
      · have p : ¬ gI m1 197 8 * gI m1 197 8 ≤ nI j := p
        rw [cz, le_i, nI_toInt (by omega), nI_toInt (by omega)] at p
        omega
    | succ d ih =>
      intro j v5 m1 hj hS hX hc hz
      have cz : gI m1 197 8 * gI m1 197 8 = nI (L.length * L.length) := by rw [hX.1, pk_mul]
      have jc : (nI j).toNatClampNeg = j := nI_clamp (by omega)
      have S2 : St wLd m (sI m1 6553896 (nI j).toNatClampNeg 0) := hS.row (a := 6553896) rfl (by decide) (tI_lo _) (tI_hi _)
      have z := ih (j + 1) v5 _ (by omega) S2 (by
        refine ⟨hX.1, fun i hi => ?_⟩
        rw [gI_if, if_neg (fun u => absurd u.1 (by decide)), gI_if, if_neg (fun u => absurd u.1 (by decide)), gI_if, if_neg (fun u => absurd u.1 (by decide)), gI_if, if_neg (fun u => absurd u.1 (by decide))]
        exact hX.2 i hi) (fun i hi => by
        rw [gI_if, if_neg (fun u => absurd u.1 (by decide))]
        exact hc i hi) (fun i hi => by
        rw [gI_if, jc]
        by_cases q : i = j
        · rw [if_pos ⟨rfl, q⟩]
        · rw [if_neg (fun u => q u.2)]
          exact hz i (by omega))
      rw [show nI (j + 1) = nI j + 1 from (nI_1 j).symm] at z
      refine At.ls okX5_load 60 ⟨_, _, rfl⟩ ?_
      (conv => whnf)
      refine And.intro (fun p => ?_) (fun p => ?_)
      · have p : gI m1 197 8 * gI m1 197 8 ≤ nI j := p
        rw [cz, le_i, nI_toInt (by omega), nI_toInt (by omega)] at p
        omega
      (conv => whnf)
      refine And.intro (vp_in_nI (by omega) (by decide)) ?_
      (conv => whnf)
      exact And.intro rfl z
  have lp : ∀ (d i : Nat) (v5 : Value) (m1 : MM), i + d = (vw m).1 3 → St wLd m m1 → SX (vw m) (ctL (ctB (vw m) st w) i) m1 → (∀ j, j < (ctL (ctB (vw m) st w) i).length → gI m1 164120 j = 0) → At (E0 1) mX5_load (qv (fun m' => St wLd m m' ∧ SX (vw m) (ctL (ctB (vw m) st w) ((vw m).1 3)) m' ∧ (∀ j, j < (ctL (ctB (vw m) st w) ((vw m).1 3)).length → gI m' 164120 j = 0) ∧ ∀ j, j < (ctL (ctB (vw m) st w) ((vw m).1 3)).length * (ctL (ctB (vw m) st w) ((vw m).1 3)).length → gI m' 6553896 j = 0)) 8 [.ref 197, .ref 836, .int w, .int st, .int (nI i), v5] [] m1 := by
    intro d
    induction d with
    | zero =>
      intro i v5 m1 hi hS hX hc
      have c3 : gI m1 836 7 = nI ((vw m).1 3) := by rw [fr1 hS.2.2 (by decide)]; exact c2
      rw [show i = (vw m).1 3 by omega] at hX hc
      refine At.ls okX5_load 60 ⟨_, _, rfl⟩ ?_
      (conv => whnf)
      refine And.intro (fun p => ?_) (fun p => ?_)
      · (conv => whnf)
        exact And.intro rfl (zr _ rfl ((ctL (ctB (vw m) st w) ((vw m).1 3)).length * (ctL (ctB (vw m) st w) ((vw m).1 3)).length) 0 _ m1 (by omega) hS hX hc (fun j hj => absurd hj (Nat.not_lt_zero _)))
      · have p : ¬ gI m1 836 7 ≤ nI i := p
        rw [c3, le_i, nI_toInt (by omega), nI_toInt (by omega)] at p
        omega
    | succ d ih =>
      intro i v5 m1 hi hS hX hc
      have c3 : gI m1 836 7 = nI ((vw m).1 3) := by rw [fr1 hS.2.2 (by decide)]; exact c2
      have vi : vp_in (nI i) 40 := vp_in_nI (by omega) (by decide)
      have ic : (nI i).toNatClampNeg = i := nI_clamp (by omega)
      have rr : ∀ r, r < 17 → r ≠ 9 → own r = 3 → gI m1 (rowC 720 r) i = (vw m).2 r i := fun r hr h9 ho => by
        rw [row1 hS.2.2 (rowC_8 (by unfold isBk; omega) r hr) ?_]
        · exact h.2.1 r hr h9 i (by rw [ho]; omega)
        · have : ∀ r, r < 17 → elm (rowC 720 r) wLd = false := by decide +kernel
          exact this r hr
      have c10 : gI m1 164696 (nI i).toNatClampNeg = (vw m).2 10 i := by rw [ic]; exact rr 10 (by decide) (by decide) rfl
      have c11 : gI m1 164712 (nI i).toNatClampNeg = (vw m).2 11 i := by rw [ic]; exact rr 11 (by decide) (by decide) rfl
      have c12 : gI m1 164728 (nI i).toNatClampNeg = (vw m).2 12 i := by rw [ic]; exact rr 12 (by decide) (by decide) rfl
      have c13 : gI m1 164744 (nI i).toNatClampNeg = (vw m).2 13 i := by rw [ic]; exact rr 13 (by decide) (by decide) rfl
      have c15 : gI m1 164776 (nI i).toNatClampNeg = (vw m).2 15 i := by rw [ic]; exact rr 15 (by decide) (by decide) rfl
      obtain ⟨f, f1, f2, -⟩ := hW.frm (s := i) (by omega)
      obtain ⟨t, t1, t2, -⟩ := hW.tom (s := i) (by omega)
      have nm := (hW.2.2.2 i (by omega)).2.2.2.1
      have hln := ctL_len (ctB (vw m) st w) i
      have par : ((1 : Int32) <<< (gI m1 164696 (nI i).toNatClampNeg &&& 31) ||| (1 : Int32) <<< (gI m1 164712 (nI i).toNatClampNeg &&& 31)) &&& st = 0 ↔ bt st ((vw m).2 10 i) = 0 ∧ bt st ((vw m).2 11 i) = 0 := by
        rw [c10, c11, f2, t2]
        exact par_0 (by omega) (by omega)
      have skip : ∀ v : Value, ¬ ctB (vw m) st w i = true → At (E0 1) mX5_load (qv (fun m' => St wLd m m' ∧ SX (vw m) (ctL (ctB (vw m) st w) ((vw m).1 3)) m' ∧ (∀ j, j < (ctL (ctB (vw m) st w) ((vw m).1 3)).length → gI m' 164120 j = 0) ∧ ∀ j, j < (ctL (ctB (vw m) st w) ((vw m).1 3)).length * (ctL (ctB (vw m) st w) ((vw m).1 3)).length → gI m' 6553896 j = 0)) 8 [.ref 197, .ref 836, .int w, .int st, .int (nI i + 1), v] [] m1 := fun v hn => by
        have z := ih (i + 1) v m1 (by omega) hS (by rw [ctL_n hn]; exact hX) (by rw [ctL_n hn]; exact hc)
        rw [show nI (i + 1) = nI i + 1 from (nI_1 i).symm] at z
        exact z
      refine At.ls okX5_load 200 ⟨_, _, rfl⟩ ?_
      (conv => whnf)
      refine And.intro (fun p => ?_) (fun p => ?_)
      · have p : gI m1 836 7 ≤ nI i := p
        rw [c3, le_i, nI_toInt (by omega), nI_toInt (by omega)] at p
        omega
      (conv => whnf)
      refine And.intro vi ?_
      (conv => whnf)
      refine And.intro vi ?_
      (conv => whnf)
      refine And.intro vi ?_
      (conv => whnf)
      refine And.intro (fun q => ?_) (fun q => ?_)
      · have q : ¬ gI m1 164744 (nI i).toNatClampNeg = w := q
        rw [c13] at q
        (conv => whnf)
        refine And.intro rfl (skip _ (fun z => ?_))
        unfold ctB at z
        rw [decide_eq_false q] at z
        cases z
      have q : gI m1 164744 (nI i).toNatClampNeg = w := q
      rw [c13] at q
      (conv => whnf)
      refine And.intro (fun q2 => ?_) (fun q2 => ?_)
      · have q2 : ¬ ((1 : Int32) <<< (gI m1 164696 (nI i).toNatClampNeg &&& 31) ||| (1 : Int32) <<< (gI m1 164712 (nI i).toNatClampNeg &&& 31)) &&& st = 0 := q2
        rw [par] at q2
        (conv => whnf)
        refine And.intro rfl (skip _ (fun z => q2 ?_))
        unfold ctB at z
        rw [Bool.and_eq_true, Bool.and_eq_true] at z
        exact ⟨of_decide_eq_true z.1.2, of_decide_eq_true z.2⟩
      have q2 : ((1 : Int32) <<< (gI m1 164696 (nI i).toNatClampNeg &&& 31) ||| (1 : Int32) <<< (gI m1 164712 (nI i).toNatClampNeg &&& 31)) &&& st = 0 := q2
      rw [par] at q2
      have hct : ctB (vw m) st w i = true := by
        unfold ctB
        rw [decide_eq_true q, decide_eq_true q2.1, decide_eq_true q2.2]
        rfl
      obtain ⟨K, hK⟩ : ∃ K, K = (ctL (ctB (vw m) st w) i).length := ⟨_, rfl⟩
      have e8 : gI m1 197 8 = nI K := by rw [hK]; exact hX.1
      have vk : vp_in (gI m1 197 8) 40 := by rw [e8]; exact vp_in_nI (by omega) (by decide)
      have kc : (gI m1 197 8).toNatClampNeg = K := by rw [e8]; exact nI_clamp (by omega)
      obtain ⟨m2, hm2⟩ : ∃ y, y = sI (sI (sI (sI (sI (sI m1 164056 (gI m1 197 8).toNatClampNeg (gI m1 164696 (nI i).toNatClampNeg)) 164072 (gI m1 197 8).toNatClampNeg (gI m1 164712 (nI i).toNatClampNeg)) 164088 (gI m1 197 8).toNatClampNeg (gI m1 164776 (nI i).toNatClampNeg)) 164104 (gI m1 197 8).toNatClampNeg (gI m1 164728 (nI i).toNatClampNeg)) 164120 (gI m1 197 8).toNatClampNeg 0) 197 8 (gI m1 197 8 + 1) := ⟨_, rfl⟩
      have S2 : St wLd m m2 := by
        rw [hm2]
        exact (((((hS.row (a := 164056) rfl (by decide) (tI_lo _) (tI_hi _)).row (a := 164072) rfl (by decide) (tI_lo _) (tI_hi _)).row (a := 164088) rfl (by decide) (tI_lo _) (tI_hi _)).row (a := 164104) rfl (by decide) (tI_lo _) (tI_hi _)).row (a := 164120) rfl (by decide) (tI_lo _) (tI_hi _)).fld (a := 197) (k := 8) (by decide) (show (0 : Int) ≤ _ by rw [e8, nI_1, nI_toInt (by omega)]; omega) (show _ ≤ (40 : Int) by rw [e8, nI_1, nI_toInt (by omega)]; omega) (fun _ z => by omega)
      have g2 : ∀ b v, gI m2 b v = if b = 197 ∧ v = 8 then nI (K + 1) else if b = 164120 ∧ v = K then 0 else if b = 164104 ∧ v = K then (vw m).2 12 i else if b = 164088 ∧ v = K then (vw m).2 15 i else if b = 164072 ∧ v = K then (vw m).2 11 i else if b = 164056 ∧ v = K then (vw m).2 10 i else gI m1 b v := fun b v => by
        rw [hm2, gI_if, gI_if, gI_if, gI_if, gI_if, gI_if, kc, c10, c11, c12, c15, e8, nI_1]
      have z := ih (i + 1) (.int ((1 : Int32) <<< (gI m1 164696 (nI i).toNatClampNeg &&& 31) ||| (1 : Int32) <<< (gI m1 164712 (nI i).toNatClampNeg &&& 31))) m2 (by omega) S2 (by
        rw [ctL_y hct]
        refine ⟨?_, fun j hj => ?_⟩
        · rw [g2, if_pos ⟨rfl, rfl⟩, List.length_append, List.length_singleton, ← hK]
        · rw [List.length_append, List.length_singleton, ← hK] at hj
          rw [g2, g2, g2, g2]
          by_cases y : j = K
          · rw [y, hK, gD_r, ← hK]
            refine ⟨?_, ?_, ?_, ?_⟩
            · rw [if_neg (fun u => absurd u.1 (by decide)), if_neg (fun u => absurd u.1 (by decide)), if_neg (fun u => absurd u.1 (by decide)), if_neg (fun u => absurd u.1 (by decide)), if_neg (fun u => absurd u.1 (by decide)), if_pos ⟨rfl, rfl⟩]
            · rw [if_neg (fun u => absurd u.1 (by decide)), if_neg (fun u => absurd u.1 (by decide)), if_neg (fun u => absurd u.1 (by decide)), if_neg (fun u => absurd u.1 (by decide)), if_pos ⟨rfl, rfl⟩]
            · rw [if_neg (fun u => absurd u.1 (by decide)), if_neg (fun u => absurd u.1 (by decide)), if_neg (fun u => absurd u.1 (by decide)), if_pos ⟨rfl, rfl⟩]
            · rw [if_neg (fun u => absurd u.1 (by decide)), if_neg (fun u => absurd u.1 (by decide)), if_pos ⟨rfl, rfl⟩]
          · rw [gD_l (by omega)]
            have x := hX.2 j (by omega)
            refine ⟨?_, ?_, ?_, ?_⟩
            · rw [if_neg (fun u => absurd u.1 (by decide)), if_neg (fun u => y u.2), if_neg (fun u => y u.2), if_neg (fun u => y u.2), if_neg (fun u => y u.2), if_neg (fun u => y u.2)]; exact x.1
            · rw [if_neg (fun u => absurd u.1 (by decide)), if_neg (fun u => y u.2), if_neg (fun u => y u.2), if_neg (fun u => y u.2), if_neg (fun u => y u.2), if_neg (fun u => y u.2)]; exact x.2.1
            · rw [if_neg (fun u => absurd u.1 (by decide)), if_neg (fun u => y u.2), if_neg (fun u => y u.2), if_neg (fun u => y u.2), if_neg (fun u => y u.2), if_neg (fun u => y u.2)]; exact x.2.2.1
            · rw [if_neg (fun u => absurd u.1 (by decide)), if_neg (fun u => y u.2), if_neg (fun u => y u.2), if_neg (fun u => y u.2), if_neg (fun u => y u.2), if_neg (fun u => y u.2)]; exact x.2.2.2) (fun j hj => by
        rw [ctL_y hct, List.length_append, List.length_singleton, ← hK] at hj
        rw [g2, if_neg (fun u => absurd u.1 (by decide))]
        by_cases y : j = K
        · rw [if_pos ⟨rfl, y⟩]
        · rw [if_neg (fun u => y u.2), if_neg (fun u => y u.2), if_neg (fun u => y u.2), if_neg (fun u => y u.2), if_neg (fun u => y u.2)]
          exact hc j (by omega))
      rw [show nI (i + 1) = nI i + 1 from (nI_1 i).symm, hm2] at z
      (conv => whnf)
      refine And.intro vi ?_
      (conv => whnf)
      refine And.intro vk ?_
      (conv => whnf)
      refine And.intro vi ?_
      (conv => whnf)
      refine And.intro vk ?_
      (conv => whnf)
      refine And.intro vi ?_
      (conv => whnf)
      refine And.intro vk ?_
      (conv => whnf)
      refine And.intro vi ?_
      (conv => whnf)
      refine And.intro vk ?_
      (conv => whnf)
      refine And.intro vk ?_
      (conv => whnf)
      exact And.intro rfl z
  have S8 : St wLd m (sI m 197 8 0) := (St.rf hM).fld (a := 197) (k := 8) (v := 0) (by decide) (by decide) (by decide) (fun _ z => by omega)
  refine At.gs okX5_load 60 ?_
  (conv => whnf)
  exact And.intro rfl (lp ((vw m).1 3) 0 _ _ (by omega) S8 ⟨by rw [gI_if, if_pos ⟨rfl, rfl⟩]; rfl, fun j hj => absurd hj (Nat.not_lt_zero _)⟩ (fun j hj => absurd hj (Nat.not_lt_zero _)))
