/-! judge of the model -/
theorem sg_grp (l : Int64) {i : Nat} (hi : i < 6) : sg l (nI i) = grp l (nI i) := by
  have key : ∀ i, i < 6 → (((6 * nI i).toInt64 &&& 63).toBitVec.smod 64).toNat = 6 * i ∧ ((6 * nI i).toInt64.toUInt64 &&& Int64.toUInt64 63).toBitVec.toNat % 64 = 6 * i := by decide +kernel
  obtain ⟨k1, k2⟩ := key i hi
  unfold sg grp
  congr 1
  apply Int64.toBitVec_inj.mp
  rw [Int64.toBitVec_and, Int64.toBitVec_and]
  apply BitVec.eq_of_getLsbD_eq
  intro j hj
  rw [BitVec.getLsbD_and, BitVec.getLsbD_and]
  by_cases h6 : j < 6
  · have e1 : (l >>> ((6 * nI i).toInt64 &&& 63)).toBitVec = l.toBitVec.sshiftRight (6 * i) := by
      rw [Int64.toBitVec_shiftRight, BitVec.sshiftRight_eq', k1]
    have e2 : ((l.toUInt64 >>> ((6 * nI i).toInt64.toUInt64 &&& Int64.toUInt64 63)).toInt64).toBitVec = l.toBitVec >>> (6 * i) := by
      show (l.toUInt64 >>> ((6 * nI i).toInt64.toUInt64 &&& Int64.toUInt64 63)).toBitVec = _
      rw [UInt64.toBitVec_shiftRight]
      show l.toBitVec >>> (((6 * nI i).toInt64.toUInt64 &&& Int64.toUInt64 63).toBitVec.toNat % 64) = _
      rw [k2]
    rw [e1, e2, BitVec.getLsbD_sshiftRight, BitVec.getLsbD_ushiftRight]
    rw [if_pos (show 6 * i + j < 64 by omega), decide_eq_false (show ¬ 64 ≤ j by omega)]
    rfl
  · have : (63 : Int64).toBitVec.getLsbD j = false := by
      have : ∀ j, j < 64 → 6 ≤ j → (63 : Int64).toBitVec.getLsbD j = false := by decide +kernel
      exact this j hj (by omega)
    rw [this, Bool.and_false, Bool.and_false]
/-- what is asked of a sale that goes on behind a row of k -/
def fitP (V : VW) (g : Nat → Int32) (st wy : Int32) (t : Nat → Nat) (k s : Nat) : Prop := V.2 10 s ≠ g s ∧ (bt st (V.2 10 s) = 0 ∧ bt st (g s) = 0) ∧ V.2 10 s = g (t (k - 1)) ∧ V.2 13 s = V.2 13 (t 0) ∧ (wy = 0 → V.2 16 s = V.2 16 (t 0)) ∧ (V.2 15 (t (k - 1))).toInt ≤ (V.2 15 s).toInt ∧ ∀ i, i < k → V.2 10 (t i) ≠ V.2 10 s
theorem jd_of {V : VW} {st wy : Int32} {n : Nat} {t : Nat → Nat} (hW : Wf V) (n2 : 2 ≤ n) (ht : ∀ i, i < n → t i < V.1 3) (hw : wy = 0 ∨ wy = 1) : jdP V st wy n t ↔ ((bt st (V.2 10 (t 0)) = 0 ∧ bt st (V.2 11 (t 0)) = 0) ∧ (wy = 0 → V.2 16 (t 0) ≠ 0) ∧ (∀ k, 1 ≤ k → k < n → fitP V (V.2 11) st wy t k (t k)) ∧ V.2 11 (t (n - 1)) = V.2 10 (t 0)) := by
  have p0 : prvI n 0 = n - 1 := rfl
  have ps : ∀ j, prvI n (j + 1) = j := fun j => by unfold prvI; rw [if_neg (by omega)]; rfl
  constructor
  · intro h
    have hto : ∀ j, j + 1 < n → V.2 11 (t j) = V.2 10 (t (j + 1)) := fun j hj => by
      have := (h (j + 1) hj).1
      rw [ps] at this
      exact this
    have hlast : V.2 11 (t (n - 1)) = V.2 10 (t 0) := (h 0 (by omega)).1
    have hbt : ∀ j, j < n → bt st (V.2 10 (t j)) = 0 := fun j hj => (h j hj).2.2.2.1
    have hbt2 : ∀ j, j < n → bt st (V.2 11 (t j)) = 0 := fun j hj => by
      by_cases z : j + 1 < n
      · rw [hto j z]; exact hbt _ z
      · rw [show j = n - 1 by omega, hlast]; exact hbt 0 (by omega)
    have hal : ∀ j, j < n → V.2 13 (t j) = V.2 13 (t 0) ∧ (wy = 0 → V.2 16 (t j) = V.2 16 (t 0)) := fun j => by
      induction j with
      | zero => exact fun _ => ⟨rfl, fun _ => rfl⟩
      | succ j ih =>
        intro hj
        have i1 := ih (by omega)
        have a1 := (h (j + 1) hj).2.2.1
        rw [ps] at a1
        refine ⟨a1.1.symm.trans i1.1, fun z => ?_⟩
        rcases a1.2 with y | y
        · rw [z] at y; exact absurd y (by decide)
        · exact y.1.symm.trans (i1.2 z)
    refine ⟨⟨hbt 0 (by omega), hbt2 0 (by omega)⟩, fun z => ?_, fun k k1 kn => ?_, hlast⟩
    · have a1 := (h 1 (by omega)).2.2.1
      rw [ps 0] at a1
      rcases a1.2 with y | y
      · rw [z] at y; exact absurd y (by decide)
      · exact y.2
    · obtain ⟨j, rfl⟩ : ∃ j, k = j + 1 := ⟨k - 1, by omega⟩
      have c := h (j + 1) kn
      unfold jdC at c
      rw [ps] at c
      refine ⟨(hW.2.2.2 _ (ht _ kn)).2.2.1, ⟨hbt _ kn, hbt2 _ kn⟩, (hto j kn).symm, (hal _ kn).1, (hal _ kn).2, ?_, c.2.2.2.2⟩
      rcases c.2.1 with y | y
      · omega
      · exact y
  · rintro ⟨⟨b1, b2⟩, hm, hf, hlast⟩
    have hal : ∀ j, j < n → V.2 13 (t j) = V.2 13 (t 0) ∧ (wy = 0 → V.2 16 (t j) = V.2 16 (t 0)) := fun j hj => by
      by_cases z : j = 0
      · rw [z]; exact ⟨rfl, fun _ => rfl⟩
      · have := hf j (by omega) hj
        exact ⟨this.2.2.2.1, this.2.2.2.2.1⟩
    have ha : ∀ a b, a < n → b < n → aliP V wy (t a) (t b) := fun a b ha hb => by
      refine ⟨(hal a ha).1.trans (hal b hb).1.symm, ?_⟩
      rcases hw with z | z
      · exact Or.inr ⟨((hal a ha).2 z).trans ((hal b hb).2 z).symm, by rw [(hal a ha).2 z]; exact hm z⟩
      · exact Or.inl z
    intro j hj
    by_cases z : j = 0
    · subst z
      exact ⟨hlast, Or.inl rfl, ha _ _ (by rw [p0]; omega) hj, b1, fun i hi => absurd hi (Nat.not_lt_zero _)⟩
    · obtain ⟨i, rfl⟩ : ∃ i, j = i + 1 := ⟨j - 1, by omega⟩
      have c := hf (i + 1) (by omega) hj
      unfold jdC
      rw [ps]
      exact ⟨c.2.2.1.symm, Or.inr c.2.2.2.2.2.1, ha _ _ (by omega) hj, c.2.1.1, c.2.2.2.2.2.2⟩
section JgM
variable {m : MM} {wy : Int32}
set_option maxRecDepth 100000 in
set_option maxHeartbeats 4000000 in
theorem s_isStopped {s : Nat} (hs : s < 40) : CI 1 mX7_isStopped [.ref 1175, .int (nI s)] m (fun r m' => m' = m ∧ z1 (¬ (bt (gI m 1175 39) (gI m 329048 s) = 0 ∧ bt (gI m 1175 39) (gI m 165384 s) = 0)) r) := by
  have v1 : vp_in (nI s) 80 := vp_in_nI (by omega) (by decide)
  have v2 : vp_in (nI s) 40 := vp_in_nI (by omega) (by decide)
  have ec : (nI s).toNatClampNeg = s := nI_clamp (by omega)
  refine At.gs okX7_isStopped 60 ?_
  (conv => whnf)
  refine And.intro v1 ?_
  (conv => whnf)
  refine And.intro (fun q => ?_) (fun q => ?_)
  · have q : bt (gI m 1175 39) (gI m 329048 (nI s).toNatClampNeg) = 1 := q
    rw [ec] at q
    exact ⟨Or.inr rfl, rfl, Or.inl ⟨fun z => by rw [q] at z; exact absurd z.1 (by decide), rfl⟩⟩
  have q : ¬ bt (gI m 1175 39) (gI m 329048 (nI s).toNatClampNeg) = 1 := q
  rw [ec] at q
  (conv => whnf)
  refine And.intro v2 ?_
  (conv => whnf)
  refine And.intro (fun q2 => ?_) (fun q2 => ?_)
  · have q2 : ¬ bt (gI m 1175 39) (gI m 165384 (nI s).toNatClampNeg) = 1 := q2
    rw [ec] at q2
    exact ⟨Or.inl rfl, rfl, Or.inr ⟨fun z => z ⟨(bt01 _ _).resolve_right q, (bt01 _ _).resolve_right q2⟩, rfl⟩⟩
  · have q2 : bt (gI m 1175 39) (gI m 165384 (nI s).toNatClampNeg) = 1 := q2
    rw [ec] at q2
    exact ⟨Or.inr rfl, rfl, Or.inl ⟨fun z => by rw [q2] at z; exact absurd z.2 (by decide), rfl⟩⟩
set_option maxRecDepth 100000 in
set_option maxHeartbeats 8000000 in
theorem s_fits {k s : Nat} {t : Nat → Nat} (k1 : 1 ≤ k) (k6 : k ≤ 6) (hs : s < 40) (ht : ∀ i, i < k → gI m 26104 i = nI (t i) ∧ t i < 40) : CI 2 mX7_fits [.ref 1175, .int (nI k), .int (nI s)] m (fun r m' => m' = m ∧ z1 (fitP (vw m) (fun i => gI m 165384 i) (gI m 1175 39) (gI m 1175 48) t k s) r) := by
  have ec : (nI s).toNatClampNeg = s := nI_clamp (by omega)
  have v80 : ∀ {i : Nat}, i < 40 → vp_in (nI i) 80 := fun hi => vp_in_nI (by omega) (by decide)
  have v40 : ∀ {i : Nat}, i < 40 → vp_in (nI i) 40 := fun hi => vp_in_nI (by omega) (by decide)
  obtain ⟨f1, f2⟩ := ht 0 (by omega)
  obtain ⟨l1, l2⟩ := ht (k - 1) (by omega)
  have ck : nI k - 1 = nI (k - 1) := pk_sub (a := k) (b := 1) k1
  have lp : (vw m).2 10 s ≠ gI m 165384 s → (bt (gI m 1175 39) ((vw m).2 10 s) = 0 ∧ bt (gI m 1175 39) (gI m 165384 s) = 0) → (vw m).2 10 s = gI m 165384 (t (k - 1)) → (vw m).2 13 s = (vw m).2 13 (t 0) → (gI m 1175 48 = 0 → (vw m).2 16 s = (vw m).2 16 (t 0)) → ((vw m).2 15 (t (k - 1))).toInt ≤ ((vw m).2 15 s).toInt → ∀ (n j : Nat), j + n = k → (∀ i, i < j → (vw m).2 10 (t i) ≠ (vw m).2 10 s) → At (E0 2) mX7_fits (qi (fun r m' => m' = m ∧ z1 (fitP (vw m) (fun i => gI m 165384 i) (gI m 1175 39) (gI m 1175 48) t k s) r)) 116 [.ref 1175, .int (nI k), .int (nI s), .int (nI (t 0)), .int (nI (t (k - 1))), .int (nI j)] [] m := by
    intro g1 g2 g3 g4 g5 g6 n
    induction n with
    | zero =>
      intro j hj hA
      obtain rfl : j = k := by omega
      refine At.ls okX7_fits 60 ⟨_, _, rfl⟩ ?_
      (conv => whnf)
      refine And.intro (fun q => ?_) (fun q => ?_)
      · exact ⟨Or.inr rfl, rfl, Or.inl ⟨⟨g1, g2, g3, g4, g5, g6, hA⟩, rfl⟩⟩
      · rw [le_i] at q
        omega
    | succ n ih =>
      intro j hj hA
      obtain ⟨j1, j2⟩ := ht j (by omega)
      have ej : (nI j).toNatClampNeg = j := nI_clamp (by omega)
      have ejt : (nI (t j)).toNatClampNeg = t j := nI_clamp (by omega)
      have hr : gI m 26104 (nI j).toNatClampNeg = nI (t j) := by rw [ej]; exact j1
      refine At.ls okX7_fits 80 ⟨_, _, rfl⟩ ?_
      (conv => whnf)
      refine And.intro (fun q => ?_) (fun q => ?_)
      · rw [le_i, nI_toInt (by omega), nI_toInt (by omega)] at q
        omega
      (conv => whnf)
      refine And.intro (show vp_in (nI j) 6 from vp_in_nI (by omega) (by decide)) ?_
      (conv => whnf)
      refine And.intro (by rw [hr]; exact v80 j2) ?_
      (conv => whnf)
      refine And.intro (v80 hs) ?_
      (conv => whnf)
      refine And.intro (fun q2 => ?_) (fun q2 => ?_)
      · have q2 : ¬ gI m 329048 (gI m 26104 (nI j).toNatClampNeg).toNatClampNeg = gI m 329048 (nI s).toNatClampNeg := q2
        rw [hr, ejt, ec] at q2
        (conv => whnf)
        refine And.intro rfl ?_
        have y := ih (j + 1) (by omega) (fun i hi => by
          by_cases z : i = j
          · rw [z]; exact q2
          · exact hA i (by omega))
        rw [← nI_1] at y
        exact y
      · have q2 : gI m 329048 (gI m 26104 (nI j).toNatClampNeg).toNatClampNeg = gI m 329048 (nI s).toNatClampNeg := q2
        rw [hr, ejt, ec] at q2
        exact ⟨Or.inl rfl, rfl, Or.inr ⟨fun z => z.2.2.2.2.2.2 j (by omega) q2, rfl⟩⟩
  refine At.gs okX7_fits 80 ?_
  (conv => whnf)
  refine And.intro (v80 hs) ?_
  (conv => whnf)
  refine And.intro (v40 hs) ?_
  (conv => whnf)
  refine And.intro (fun q => ?_) (fun q => ?_)
  · have q : gI m 329048 (nI s).toNatClampNeg = gI m 165384 (nI s).toNatClampNeg := q
    rw [ec] at q
    exact ⟨Or.inl rfl, rfl, Or.inr ⟨fun z => z.1 q, rfl⟩⟩
  have q : ¬ gI m 329048 (nI s).toNatClampNeg = gI m 165384 (nI s).toNatClampNeg := q
  rw [ec] at q
  (conv => whnf)
  refine ⟨1, by decide, _, s_isStopped hs, ?_⟩
  rintro r m' ⟨hmm, hr⟩; have hmm := hmm.symm; subst hmm
  (conv => whnf)
  refine And.intro (fun q2 => ?_) (fun q2 => ?_)
  case refine_2 =>
    rcases hr with ⟨y1, y2⟩ | ⟨y1, y2⟩
    · exact ⟨Or.inl rfl, rfl, Or.inr ⟨fun z => y1 z.2.1, rfl⟩⟩
    · exact absurd y2 q2
  have hst : bt (gI m 1175 39) ((vw m).2 10 s) = 0 ∧ bt (gI m 1175 39) (gI m 165384 s) = 0 := by
    rcases hr with ⟨y1, y2⟩ | ⟨y1, y2⟩
    · rw [y2] at q2; exact absurd q2 (by decide)
    · exact Decidable.byContradiction y1
  have r0 : gI m 26104 (Int32.toNatClampNeg 0) = nI (t 0) := f1
  have rl : gI m 26104 (nI k - 1).toNatClampNeg = nI (t (k - 1)) := by rw [ck, nI_clamp (by omega)]; exact l1
  (conv => whnf)
  refine And.intro (vp_in_iff.mpr (by decide)) ?_
  (conv => whnf)
  refine And.intro (by rw [ck]; exact vp_in_nI (by omega) (by decide)) ?_
  rw [r0, rl]
  have et0 : (nI (t 0)).toNatClampNeg = t 0 := nI_clamp (by omega)
  have etl : (nI (t (k - 1))).toNatClampNeg = t (k - 1) := nI_clamp (by omega)
  (conv => whnf)
  refine And.intro (v80 hs) ?_
  (conv => whnf)
  refine And.intro (v40 l2) ?_
  (conv => whnf)
  refine And.intro (fun q3 => ?_) (fun q3 => ?_)
  · have q3 : ¬ gI m 329048 (nI s).toNatClampNeg = gI m 165384 (nI (t (k - 1))).toNatClampNeg := q3
    rw [ec, etl] at q3
    exact ⟨Or.inl rfl, rfl, Or.inr ⟨fun z => q3 z.2.2.1, rfl⟩⟩
  have q3 : gI m 329048 (nI s).toNatClampNeg = gI m 165384 (nI (t (k - 1))).toNatClampNeg := q3
  rw [ec, etl] at q3
  (conv => whnf)
  refine And.intro (v80 hs) ?_
  (conv => whnf)
  refine And.intro (v80 f2) ?_
  (conv => whnf)
  refine And.intro (fun q4 => ?_) (fun q4 => ?_)
  · have q4 : ¬ gI m 329096 (nI s).toNatClampNeg = gI m 329096 (nI (t 0)).toNatClampNeg := q4
    rw [ec, et0] at q4
    exact ⟨Or.inl rfl, rfl, Or.inr ⟨fun z => q4 z.2.2.2.1, rfl⟩⟩
  have q4 : gI m 329096 (nI s).toNatClampNeg = gI m 329096 (nI (t 0)).toNatClampNeg := q4
  rw [ec, et0] at q4
  have rest : (gI m 1175 48 = 0 → (vw m).2 16 s = (vw m).2 16 (t 0)) → (gI m 329128 (nI (t (k - 1))).toNatClampNeg ≤ gI m 329128 (nI s).toNatClampNeg) → At (E0 2) mX7_fits (qi (fun r m' => m' = m ∧ z1 (fitP (vw m) (fun i => gI m 165384 i) (gI m 1175 39) (gI m 1175 48) t k s) r)) 116 [.ref 1175, .int (nI k), .int (nI s), .int (nI (t 0)), .int (nI (t (k - 1))), .int (nI 0)] [] m := fun hm hd => by
    rw [ec, etl, le_i] at hd
    exact lp q hst q3 q4 hm hd k 0 (Nat.zero_add _) (fun i hi => absurd hi (Nat.not_lt_zero _))
  have late : ¬ (gI m 329128 (nI (t (k - 1))).toNatClampNeg ≤ gI m 329128 (nI s).toNatClampNeg) → ¬ fitP (vw m) (fun i => gI m 165384 i) (gI m 1175 39) (gI m 1175 48) t k s := fun hd z => by
    rw [ec, etl, le_i] at hd
    exact hd z.2.2.2.2.2.1
  (conv => whnf)
  refine And.intro (fun q5 => ?_) (fun q5 => ?_)
  · have q5 : ¬ gI m 1175 48 = 0 := q5
    (conv => whnf)
    refine And.intro (v80 hs) ?_
    (conv => whnf)
    refine And.intro (v80 l2) ?_
    (conv => whnf)
    refine And.intro (fun q7 => ?_) (fun q7 => ?_)
    · (conv => whnf)
      exact And.intro rfl (rest (fun z => absurd z q5) q7)
    · exact ⟨Or.inl rfl, rfl, Or.inr ⟨late q7, rfl⟩⟩
  · have q5 : gI m 1175 48 = 0 := q5
    (conv => whnf)
    refine And.intro (v80 hs) ?_
    (conv => whnf)
    refine And.intro (v80 f2) ?_
    (conv => whnf)
    refine And.intro (fun q6 => ?_) (fun q6 => ?_)
    · have q6 : ¬ gI m 329144 (nI s).toNatClampNeg = gI m 329144 (nI (t 0)).toNatClampNeg := q6
      rw [ec, et0] at q6
      exact ⟨Or.inl rfl, rfl, Or.inr ⟨fun z => q6 (z.2.2.2.2.1 q5), rfl⟩⟩
    have q6 : gI m 329144 (nI s).toNatClampNeg = gI m 329144 (nI (t 0)).toNatClampNeg := q6
    rw [ec, et0] at q6
    (conv => whnf)
    refine And.intro (v80 hs) ?_
    (conv => whnf)
    refine And.intro (v80 l2) ?_
    (conv => whnf)
    refine And.intro (fun q7 => ?_) (fun q7 => ?_)
    · (conv => whnf)
      exact And.intro rfl (rest (fun _ => q6) q7)
    · exact ⟨Or.inl rfl, rfl, Or.inr ⟨late q7, rfl⟩⟩
end JgM
