/-! judge of the class, by hand -/
set_option maxRecDepth 100000 in
theorem h_within {m : MM} {x l h : Int32} : CI 1 mX6_within [.int x, .int l, .int h] m (fun r m' => m' = m ∧ ((r = 1 ∧ l ≤ x ∧ x ≤ h) ∨ r = 0)) := by
  refine At.gs okX6_within 40 ?_
  (conv => whnf)
  refine And.intro (fun h1 => ?_) (fun h1 => ?_)
  · exact ⟨Or.inl rfl, rfl, Or.inr rfl⟩
  · (conv => whnf)
    refine And.intro (fun h2 => ?_) (fun h2 => ?_)
    · exact ⟨Or.inl rfl, rfl, Or.inr rfl⟩
    · exact ⟨Or.inr rfl, rfl, Or.inl ⟨rfl, by rw [lt_i] at h1; rw [le_i]; omega, by rw [lt_i] at h2; rw [le_i]; omega⟩⟩
set_option maxRecDepth 100000 in
theorem h_saleAt {m : MM} {l : Int64} {i : Int32} : CI 1 mX6_saleAt [.long l, .int i] m (fun r m' => m' = m ∧ r = grp l i) := by
  refine At.go okX6_saleAt 12 ?_
  exact ⟨rfl, rfl⟩
set_option maxRecDepth 100000 in
theorem h_has452 {m : MM} {x : Int32} : CI 1 mX4_has [.ref 452, .int x] m (fun r m' => m' = m ∧ ((r = 1 ∧ 0 ≤ x.toInt ∧ x.toInt < (gI m 452 7).toInt) ∨ r = 0)) := by
  refine At.gs okX4_has 40 ?_
  (conv => whnf)
  refine And.intro (fun h1 => ?_) (fun h1 => ?_)
  · exact ⟨Or.inl rfl, rfl, Or.inr rfl⟩
  · (conv => whnf)
    refine And.intro (fun h2 => ?_) (fun h2 => ?_)
    · exact ⟨Or.inl rfl, rfl, Or.inr rfl⟩
    · rw [lt_i] at h1
      rw [le_i] at h2
      have e0 : (0 : Int32).toInt = 0 := rfl
      exact ⟨Or.inr rfl, rfl, Or.inl ⟨rfl, by omega, by omega⟩⟩
set_option maxRecDepth 100000 in
theorem h_has836 {m : MM} {x : Int32} : CI 1 mX4_has [.ref 836, .int x] m (fun r m' => m' = m ∧ ((r = 1 ∧ 0 ≤ x.toInt ∧ x.toInt < (gI m 836 7).toInt) ∨ r = 0)) := by
  refine At.gs okX4_has 40 ?_
  (conv => whnf)
  refine And.intro (fun h1 => ?_) (fun h1 => ?_)
  · exact ⟨Or.inl rfl, rfl, Or.inr rfl⟩
  · (conv => whnf)
    refine And.intro (fun h2 => ?_) (fun h2 => ?_)
    · exact ⟨Or.inl rfl, rfl, Or.inr rfl⟩
    · rw [lt_i] at h1
      rw [le_i] at h2
      have e0 : (0 : Int32).toInt = 0 := rfl
      exact ⟨Or.inr rfl, rfl, Or.inl ⟨rfl, by omega, by omega⟩⟩
def acJudge6 : AC := ([(2, 6, 0), (0, -2147483648, 2147483647), (0, -2147483648, 2147483647), (8, 0, 0)], 4, [((0, -1, 1), [], [])], [], [])
theorem jEnd {m m' : MM} {as : List Value} {r : Int32} (hM : Mok TYg m') (hb : m'.2.2 = m.2.2) (hF : Fr [] m m') (h1 : -1 ≤ r.toInt) (h2 : r.toInt ≤ 1) : PC TYg acJudge6 m as (some (.int r)) m' :=
  ⟨hM, hb, hF, _, List.mem_singleton.mpr rfl, ⟨by decide, ⟨_, rfl, h1, h2⟩⟩, (fun _ h => by cases h), (fun _ h => by cases h)⟩
set_option maxRecDepth 100000 in
set_option maxHeartbeats 4000000 in
theorem hpJudge6A : SafeC TYg cA mX6_judge acJudge6 := by
  intro as m hF hM hc _
  match as, hF with
  | [x0, x1, x2, x3], hF =>
   obtain ⟨e0, ⟨w, rfl, -⟩, ⟨n, rfl, -⟩, ⟨sa, rfl⟩, _⟩ := hF
   have e0 : x0 = .ref 6 := e0
   subst e0
   obtain ⟨f, g, c⟩ := m
   obtain rfl : c = (336, 720) := hc
   have hsz := hM.1 452 7
   have hsz : (0 : Int) ≤ (f 452 7).toInt ∧ (f 452 7).toInt ≤ 40 := hsz
   have body : ∀ (k : Nat) (i : Int32), 0 ≤ w.toInt → w.toInt ≤ 1 → 2 ≤ n.toInt → n.toInt ≤ 6 → 0 ≤ i.toInt → i.toInt ≤ n.toInt → (n.toInt - i.toInt).toNat = k → (∀ j : Nat, (j : Int) < i.toInt → 0 ≤ (grp sa (nI j)).toInt ∧ (grp sa (nI j)).toInt < 40) → At (E0 4) mX6_judge (PC TYg acJudge6 (f, g, (336, 720)) [.ref 6, .int w, .int n, .long sa]) 24 [.ref 6, .int w, .int n, .long sa, .null, .int i] [] (f, g, (336, 720)) := by
    intro k
    induction k with
    | zero =>
      intro i w0 w1 n0 n1 i0 i1 hk hall
      refine At.ls okX6_judge 60 ⟨_, _, rfl⟩ ?_
      (conv => whnf)
      refine And.intro (fun h => ?_) (fun h => absurd (le_i.mpr (by omega)) h)
      have hall : ∀ j : Nat, j < n.toInt.toNat → 0 ≤ (grp sa (nI j)).toInt ∧ (grp sa (nI j)).toInt < 40 := fun j hj => hall j (by omega)
      (conv => whnf)
      rcases (show n.toInt = 2 ∨ n.toInt = 3 ∨ n.toInt = 4 ∨ n.toInt = 5 ∨ n.toInt = 6 by omega) with q | q | q | q | q
      · obtain rfl : n = 2 := Int32.toInt_inj.mp (show n.toInt = 2 from q)
        refine ⟨2, by decide, _, SafeC.ci (sfX4_goRound cA (Or.inl rfl) ([(2, 452, 0), (0, 0, 1), (0, 2, 2), (5, 0, 2), (0, -2147483648, 2147483647)], 2, [((0, 0, 0), [], []), ((0, 1, 1), [], [])], [], []) (by unfold csX4_goRound; decide)) (by decide) ⟨rfl, ⟨w, rfl, w0, w1⟩, ⟨_, rfl, by decide, by decide⟩, ⟨sa, rfl, (fun q => absurd q (by decide)), (fun _ _ j hj => hall j hj), (fun q => absurd q (by decide))⟩, top_in, trivial⟩ hM rfl noPre, ?_⟩
        intro r m' hP
        (conv => whnf)
        exact And.intro (fun _ => jEnd hP.1 hP.2.1 hP.2.2.1 (by decide) (by decide)) (fun _ => jEnd hP.1 hP.2.1 hP.2.2.1 (by decide) (by decide))
      · obtain rfl : n = 3 := Int32.toInt_inj.mp (show n.toInt = 3 from q)
        refine ⟨2, by decide, _, SafeC.ci (sfX4_goRound cA (Or.inl rfl) ([(2, 452, 0), (0, 0, 1), (0, 3, 3), (5, 0, 3), (0, -2147483648, 2147483647)], 2, [((0, 0, 0), [], []), ((0, 1, 1), [], [])], [], []) (by unfold csX4_goRound; decide)) (by decide) ⟨rfl, ⟨w, rfl, w0, w1⟩, ⟨_, rfl, by decide, by decide⟩, ⟨sa, rfl, (fun q => absurd q (by decide)), (fun _ _ j hj => hall j hj), (fun q => absurd q (by decide))⟩, top_in, trivial⟩ hM rfl noPre, ?_⟩
        intro r m' hP
        (conv => whnf)
        exact And.intro (fun _ => jEnd hP.1 hP.2.1 hP.2.2.1 (by decide) (by decide)) (fun _ => jEnd hP.1 hP.2.1 hP.2.2.1 (by decide) (by decide))
      · obtain rfl : n = 4 := Int32.toInt_inj.mp (show n.toInt = 4 from q)
        refine ⟨2, by decide, _, SafeC.ci (sfX4_goRound cA (Or.inl rfl) ([(2, 452, 0), (0, 0, 1), (0, 4, 4), (5, 0, 4), (0, -2147483648, 2147483647)], 2, [((0, 0, 0), [], []), ((0, 1, 1), [], [])], [], []) (by unfold csX4_goRound; decide)) (by decide) ⟨rfl, ⟨w, rfl, w0, w1⟩, ⟨_, rfl, by decide, by decide⟩, ⟨sa, rfl, (fun q => absurd q (by decide)), (fun _ _ j hj => hall j hj), (fun q => absurd q (by decide))⟩, top_in, trivial⟩ hM rfl noPre, ?_⟩
        intro r m' hP
        (conv => whnf)
        exact And.intro (fun _ => jEnd hP.1 hP.2.1 hP.2.2.1 (by decide) (by decide)) (fun _ => jEnd hP.1 hP.2.1 hP.2.2.1 (by decide) (by decide))
      · obtain rfl : n = 5 := Int32.toInt_inj.mp (show n.toInt = 5 from q)
        refine ⟨2, by decide, _, SafeC.ci (sfX4_goRound cA (Or.inl rfl) ([(2, 452, 0), (0, 0, 1), (0, 5, 5), (5, 0, 5), (0, -2147483648, 2147483647)], 2, [((0, 0, 0), [], []), ((0, 1, 1), [], [])], [], []) (by unfold csX4_goRound; decide)) (by decide) ⟨rfl, ⟨w, rfl, w0, w1⟩, ⟨_, rfl, by decide, by decide⟩, ⟨sa, rfl, (fun q => absurd q (by decide)), (fun _ _ j hj => hall j hj), (fun q => absurd q (by decide))⟩, top_in, trivial⟩ hM rfl noPre, ?_⟩
        intro r m' hP
        (conv => whnf)
        exact And.intro (fun _ => jEnd hP.1 hP.2.1 hP.2.2.1 (by decide) (by decide)) (fun _ => jEnd hP.1 hP.2.1 hP.2.2.1 (by decide) (by decide))
      · obtain rfl : n = 6 := Int32.toInt_inj.mp (show n.toInt = 6 from q)
        refine ⟨2, by decide, _, SafeC.ci (sfX4_goRound cA (Or.inl rfl) ([(2, 452, 0), (0, 0, 1), (0, 6, 6), (5, 0, 6), (0, -2147483648, 2147483647)], 2, [((0, 0, 0), [], []), ((0, 1, 1), [], [])], [], []) (by unfold csX4_goRound; decide)) (by decide) ⟨rfl, ⟨w, rfl, w0, w1⟩, ⟨_, rfl, by decide, by decide⟩, ⟨sa, rfl, (fun q => absurd q (by decide)), (fun _ _ j hj => hall j hj), (fun q => absurd q (by decide))⟩, top_in, trivial⟩ hM rfl noPre, ?_⟩
        intro r m' hP
        (conv => whnf)
        exact And.intro (fun _ => jEnd hP.1 hP.2.1 hP.2.2.1 (by decide) (by decide)) (fun _ => jEnd hP.1 hP.2.1 hP.2.2.1 (by decide) (by decide))
    | succ k ih =>
      intro i w0 w1 n0 n1 i0 i1 hk hall
      refine At.ls okX6_judge 60 ⟨_, _, rfl⟩ ?_
      (conv => whnf)
      refine And.intro (fun h => absurd (le_i.mp h) (by omega)) (fun h => ?_)
      rw [le_i] at h
      (conv => whnf)
      refine ⟨1, by decide, _, h_saleAt, ?_⟩
      rintro r m' ⟨rfl, rfl⟩
      (conv => whnf)
      refine ⟨1, by decide, _, h_has452, ?_⟩
      rintro r m' ⟨rfl, hr⟩
      (conv => whnf)
      refine And.intro (fun h2 => ?_) (fun h2 => ?_)
      · (conv => whnf)
        refine And.intro rfl (ih (i + 1) w0 w1 n0 n1 ?_ ?_ ?_ ?_)
        · rw [inc1 (by omega)]; omega
        · rw [inc1 (by omega)]; omega
        · rw [inc1 (by omega)]; omega
        · intro j hj
          rw [inc1 (by omega)] at hj
          by_cases hji : (j : Int) < i.toInt
          · exact hall j hji
          · have ej : nI j = i := Int32.toInt_inj.mp (by
              show (Int32.ofNat j).toInt = _
              rw [Int32.toInt_ofNat_of_lt (by omega)]
              omega)
            rw [ej]
            rcases hr with ⟨q1, q2, q3⟩ | q
            · exact ⟨q2, by have : (gI (f, g, (336, 720)) 452 7) = f 452 7 := rfl; rw [this] at q3; omega⟩
            · exact absurd q h2
      · exact jEnd hM rfl (Fr_rfl _ _) (by decide) (by decide)
   refine At.gs okX6_judge 60 ?_
   (conv => whnf)
   refine ⟨1, by decide, _, h_within, ?_⟩
   rintro r m' ⟨rfl, hr⟩
   (conv => whnf)
   refine And.intro (fun h2 => jEnd hM rfl (Fr_rfl _ _) (by decide) (by decide)) (fun h2 => ?_)
   (conv => whnf)
   refine ⟨1, by decide, _, h_within, ?_⟩
   rintro r2 m' ⟨rfl, hr2⟩
   (conv => whnf)
   refine And.intro (fun h3 => ?_) (fun h3 => jEnd hM rfl (Fr_rfl _ _) (by decide) (by decide))
   (conv => whnf)
   have e2 : (2 : Int32).toInt = 2 := rfl
   have e6 : (6 : Int32).toInt = 6 := rfl
   have e0 : (0 : Int32).toInt = 0 := rfl
   rcases hr with ⟨q1, q2, q3⟩ | q
   · rcases hr2 with ⟨p1, p2, p3⟩ | p
     · rw [le_i] at q2 q3 p2 p3
       exact And.intro rfl (body _ 0 (by omega) (by rw [tI_1] at p3; omega) (by omega) (by omega) (by omega) (by omega) rfl (fun j hj => by omega))
     · exact absurd p h3
   · exact absurd q h2
set_option maxRecDepth 100000 in
set_option maxHeartbeats 4000000 in
theorem hpJudge6B : SafeC TYg cB mX6_judge acJudge6 := by
  intro as m hF hM hc _
  match as, hF with
  | [x0, x1, x2, x3], hF =>
   obtain ⟨e0, ⟨w, rfl, -⟩, ⟨n, rfl, -⟩, ⟨sa, rfl⟩, _⟩ := hF
   have e0 : x0 = .ref 6 := e0
   subst e0
   obtain ⟨f, g, c⟩ := m
   obtain rfl : c = (720, 336) := hc
   have hsz := hM.1 836 7
   have hsz : (0 : Int) ≤ (f 836 7).toInt ∧ (f 836 7).toInt ≤ 40 := hsz
   have body : ∀ (k : Nat) (i : Int32), 0 ≤ w.toInt → w.toInt ≤ 1 → 2 ≤ n.toInt → n.toInt ≤ 6 → 0 ≤ i.toInt → i.toInt ≤ n.toInt → (n.toInt - i.toInt).toNat = k → (∀ j : Nat, (j : Int) < i.toInt → 0 ≤ (grp sa (nI j)).toInt ∧ (grp sa (nI j)).toInt < 40) → At (E0 4) mX6_judge (PC TYg acJudge6 (f, g, (720, 336)) [.ref 6, .int w, .int n, .long sa]) 24 [.ref 6, .int w, .int n, .long sa, .null, .int i] [] (f, g, (720, 336)) := by
    intro k
    induction k with
    | zero =>
      intro i w0 w1 n0 n1 i0 i1 hk hall
      refine At.ls okX6_judge 60 ⟨_, _, rfl⟩ ?_
      (conv => whnf)
      refine And.intro (fun h => ?_) (fun h => absurd (le_i.mpr (by omega)) h)
      have hall : ∀ j : Nat, j < n.toInt.toNat → 0 ≤ (grp sa (nI j)).toInt ∧ (grp sa (nI j)).toInt < 40 := fun j hj => hall j (by omega)
      (conv => whnf)
      rcases (show n.toInt = 2 ∨ n.toInt = 3 ∨ n.toInt = 4 ∨ n.toInt = 5 ∨ n.toInt = 6 by omega) with q | q | q | q | q
      · obtain rfl : n = 2 := Int32.toInt_inj.mp (show n.toInt = 2 from q)
        refine ⟨2, by decide, _, SafeC.ci (sfX4_goRound cB (Or.inr rfl) ([(2, 836, 0), (0, 0, 1), (0, 2, 2), (5, 0, 2), (0, -2147483648, 2147483647)], 2, [((0, 0, 0), [], []), ((0, 1, 1), [], [])], [], []) (by unfold csX4_goRound; decide)) (by decide) ⟨rfl, ⟨w, rfl, w0, w1⟩, ⟨_, rfl, by decide, by decide⟩, ⟨sa, rfl, (fun q => absurd q (by decide)), (fun _ _ j hj => hall j hj), (fun q => absurd q (by decide))⟩, top_in, trivial⟩ hM rfl noPre, ?_⟩
        intro r m' hP
        (conv => whnf)
        exact And.intro (fun _ => jEnd hP.1 hP.2.1 hP.2.2.1 (by decide) (by decide)) (fun _ => jEnd hP.1 hP.2.1 hP.2.2.1 (by decide) (by decide))
      · obtain rfl : n = 3 := Int32.toInt_inj.mp (show n.toInt = 3 from q)
        refine ⟨2, by decide, _, SafeC.ci (sfX4_goRound cB (Or.inr rfl) ([(2, 836, 0), (0, 0, 1), (0, 3, 3), (5, 0, 3), (0, -2147483648, 2147483647)], 2, [((0, 0, 0), [], []), ((0, 1, 1), [], [])], [], []) (by unfold csX4_goRound; decide)) (by decide) ⟨rfl, ⟨w, rfl, w0, w1⟩, ⟨_, rfl, by decide, by decide⟩, ⟨sa, rfl, (fun q => absurd q (by decide)), (fun _ _ j hj => hall j hj), (fun q => absurd q (by decide))⟩, top_in, trivial⟩ hM rfl noPre, ?_⟩
        intro r m' hP
        (conv => whnf)
        exact And.intro (fun _ => jEnd hP.1 hP.2.1 hP.2.2.1 (by decide) (by decide)) (fun _ => jEnd hP.1 hP.2.1 hP.2.2.1 (by decide) (by decide))
      · obtain rfl : n = 4 := Int32.toInt_inj.mp (show n.toInt = 4 from q)
        refine ⟨2, by decide, _, SafeC.ci (sfX4_goRound cB (Or.inr rfl) ([(2, 836, 0), (0, 0, 1), (0, 4, 4), (5, 0, 4), (0, -2147483648, 2147483647)], 2, [((0, 0, 0), [], []), ((0, 1, 1), [], [])], [], []) (by unfold csX4_goRound; decide)) (by decide) ⟨rfl, ⟨w, rfl, w0, w1⟩, ⟨_, rfl, by decide, by decide⟩, ⟨sa, rfl, (fun q => absurd q (by decide)), (fun _ _ j hj => hall j hj), (fun q => absurd q (by decide))⟩, top_in, trivial⟩ hM rfl noPre, ?_⟩
        intro r m' hP
        (conv => whnf)
        exact And.intro (fun _ => jEnd hP.1 hP.2.1 hP.2.2.1 (by decide) (by decide)) (fun _ => jEnd hP.1 hP.2.1 hP.2.2.1 (by decide) (by decide))
      · obtain rfl : n = 5 := Int32.toInt_inj.mp (show n.toInt = 5 from q)
        refine ⟨2, by decide, _, SafeC.ci (sfX4_goRound cB (Or.inr rfl) ([(2, 836, 0), (0, 0, 1), (0, 5, 5), (5, 0, 5), (0, -2147483648, 2147483647)], 2, [((0, 0, 0), [], []), ((0, 1, 1), [], [])], [], []) (by unfold csX4_goRound; decide)) (by decide) ⟨rfl, ⟨w, rfl, w0, w1⟩, ⟨_, rfl, by decide, by decide⟩, ⟨sa, rfl, (fun q => absurd q (by decide)), (fun _ _ j hj => hall j hj), (fun q => absurd q (by decide))⟩, top_in, trivial⟩ hM rfl noPre, ?_⟩
        intro r m' hP
        (conv => whnf)
        exact And.intro (fun _ => jEnd hP.1 hP.2.1 hP.2.2.1 (by decide) (by decide)) (fun _ => jEnd hP.1 hP.2.1 hP.2.2.1 (by decide) (by decide))
      · obtain rfl : n = 6 := Int32.toInt_inj.mp (show n.toInt = 6 from q)
        refine ⟨2, by decide, _, SafeC.ci (sfX4_goRound cB (Or.inr rfl) ([(2, 836, 0), (0, 0, 1), (0, 6, 6), (5, 0, 6), (0, -2147483648, 2147483647)], 2, [((0, 0, 0), [], []), ((0, 1, 1), [], [])], [], []) (by unfold csX4_goRound; decide)) (by decide) ⟨rfl, ⟨w, rfl, w0, w1⟩, ⟨_, rfl, by decide, by decide⟩, ⟨sa, rfl, (fun q => absurd q (by decide)), (fun _ _ j hj => hall j hj), (fun q => absurd q (by decide))⟩, top_in, trivial⟩ hM rfl noPre, ?_⟩
        intro r m' hP
        (conv => whnf)
        exact And.intro (fun _ => jEnd hP.1 hP.2.1 hP.2.2.1 (by decide) (by decide)) (fun _ => jEnd hP.1 hP.2.1 hP.2.2.1 (by decide) (by decide))
    | succ k ih =>
      intro i w0 w1 n0 n1 i0 i1 hk hall
      refine At.ls okX6_judge 60 ⟨_, _, rfl⟩ ?_
      (conv => whnf)
      refine And.intro (fun h => absurd (le_i.mp h) (by omega)) (fun h => ?_)
      rw [le_i] at h
      (conv => whnf)
      refine ⟨1, by decide, _, h_saleAt, ?_⟩
      rintro r m' ⟨rfl, rfl⟩
      (conv => whnf)
      refine ⟨1, by decide, _, h_has836, ?_⟩
      rintro r m' ⟨rfl, hr⟩
      (conv => whnf)
      refine And.intro (fun h2 => ?_) (fun h2 => ?_)
      · (conv => whnf)
        refine And.intro rfl (ih (i + 1) w0 w1 n0 n1 ?_ ?_ ?_ ?_)
        · rw [inc1 (by omega)]; omega
        · rw [inc1 (by omega)]; omega
        · rw [inc1 (by omega)]; omega
        · intro j hj
          rw [inc1 (by omega)] at hj
          by_cases hji : (j : Int) < i.toInt
          · exact hall j hji
          · have ej : nI j = i := Int32.toInt_inj.mp (by
              show (Int32.ofNat j).toInt = _
              rw [Int32.toInt_ofNat_of_lt (by omega)]
              omega)
            rw [ej]
            rcases hr with ⟨q1, q2, q3⟩ | q
            · exact ⟨q2, by have : (gI (f, g, (720, 336)) 836 7) = f 836 7 := rfl; rw [this] at q3; omega⟩
            · exact absurd q h2
      · exact jEnd hM rfl (Fr_rfl _ _) (by decide) (by decide)
   refine At.gs okX6_judge 60 ?_
   (conv => whnf)
   refine ⟨1, by decide, _, h_within, ?_⟩
   rintro r m' ⟨rfl, hr⟩
   (conv => whnf)
   refine And.intro (fun h2 => jEnd hM rfl (Fr_rfl _ _) (by decide) (by decide)) (fun h2 => ?_)
   (conv => whnf)
   refine ⟨1, by decide, _, h_within, ?_⟩
   rintro r2 m' ⟨rfl, hr2⟩
   (conv => whnf)
   refine And.intro (fun h3 => ?_) (fun h3 => jEnd hM rfl (Fr_rfl _ _) (by decide) (by decide))
   (conv => whnf)
   have e2 : (2 : Int32).toInt = 2 := rfl
   have e6 : (6 : Int32).toInt = 6 := rfl
   have e0 : (0 : Int32).toInt = 0 := rfl
   rcases hr with ⟨q1, q2, q3⟩ | q
   · rcases hr2 with ⟨p1, p2, p3⟩ | p
     · rw [le_i] at q2 q3 p2 p3
       exact And.intro rfl (body _ 0 (by omega) (by rw [tI_1] at p3; omega) (by omega) (by omega) (by omega) (by omega) rfl (fun j hj => by omega))
     · exact absurd p h3
   · exact absurd q h2
