/-! told, by hand -/
set_option maxRecDepth 100000 in
theorem h_wrong {m : MM} {k : Int32} : CV 1 mX7_wrong [.ref 1175, .int k] m (fun m' => (gI m 1175 35 ≠ 0 ∧ m' = m) ∨ (gI m 1175 35 = 0 ∧ m' = sI (sI m 1175 35 k) 1175 36 (gI m 1175 32))) := by
  refine At.gs okX7_wrong 40 ?_
  (conv => whnf)
  refine And.intro (fun h => ?_) (fun h => ?_)
  · exact Or.inr ⟨h, rfl⟩
  · exact Or.inl ⟨h, rfl⟩
def frW : List Nat := [154618823831, 158913791127]
theorem wrFr {m : MM} {k v : Int32} : Fr frW m (sI (sI m 1175 35 k) 1175 36 v) := Fr_sI (Fr_sI (Fr_rfl _ _) (by decide) (fun _ q => by omega)) (by decide) (fun _ q => by omega)
theorem wrMok {m : MM} {k v : Int32} (h : Mok TYg m) (h1 : 0 ≤ k.toInt) (h2 : k.toInt ≤ 5) : Mok TYg (sI (sI m 1175 35 k) 1175 36 v) := Mok_sI (Mok_sI h (show (0 : Int) ≤ _ from h1) (show _ ≤ (5 : Int) from h2)) (tI_lo v) (tI_hi v)
def acTold42168 : AC := ([(2, 1175, 0), (2, 42168, 0), (0, 5, 5), (0, 0, 5)], 3, [((0, 0, 4), [], [])], frW, [])
theorem tEnd42168 {m m' : MM} {as : List Value} {r : Int32} (hM : Mok TYg m') (hb : m'.2.2 = m.2.2) (hF : Fr frW m m') (h1 : 0 ≤ r.toInt) (h2 : r.toInt ≤ 4) : PC TYg acTold42168 m as (some (.int r)) m' :=
  ⟨hM, hb, hF, _, List.mem_singleton.mpr rfl, ⟨by decide, ⟨_, rfl, h1, h2⟩⟩, (fun _ h => by cases h), (fun _ h => by cases h)⟩
set_option maxRecDepth 100000 in
set_option maxHeartbeats 4000000 in
theorem hpTold42168 (c : Nat × Nat) : SafeC TYg c mX7_told acTold42168 := by
  intro as m hF hM hc _
  match as, hF with
  | [x0, x1, x2, x3], hF =>
    obtain ⟨e0, e1, ⟨i2, rfl, g1, g2⟩, ⟨mn, rfl, g3, g4⟩, _⟩ := hF
    have e0 : x0 = .ref 1175 := e0
    have e1 : x1 = .ref 42168 := e1
    subst e0 e1
    simp only at g3 g4
    obtain rfl : i2 = 5 := Int32.toInt_inj.mp (show i2.toInt = 5 by simp only at g1 g2; omega)
    refine At.gs okX7_told 80 ?_
    (conv => whnf)
    refine And.intro (fun h => ?_) (fun h => ?_)
    · (conv => whnf)
      refine And.intro (fun hs => ?_) (fun hs => ?_)
      · (conv => whnf)
        refine ⟨1, by decide, _, hfd_42168 g3 g4, ?_⟩
        rintro r m' ⟨rfl, hr⟩
        (conv => whnf)
        refine And.intro (fun hn => ?_) (fun hn => ?_)
        · (conv => whnf)
          refine And.intro (fun h5 => ?_) (fun h5 => ?_)
          · (conv => whnf)
            refine ⟨1, by decide, _, hfd_42168 g3 g4, ?_⟩
            rintro r2 m2 ⟨rfl, hr2⟩
            refine tEnd42168 hM rfl (Fr_rfl _ _) ?_ ?_
            · rcases hr2 with ⟨q1, q2⟩ | ⟨q1, q2, q3⟩
              · rcases hr with ⟨p1, p2⟩ | ⟨p1, p2, p3⟩
                · exact absurd (Int32.toInt_inj.mp (show r.toInt = -1 from p1)) hn
                · exact absurd p3 (q2 _ (by omega))
              · exact q1
            · rcases hr2 with ⟨q1, q2⟩ | ⟨q1, q2, q3⟩
              · omega
              · omega
          · exact absurd h h5
        · (conv => whnf)
          refine ⟨1, by decide, _, h_wrong, ?_⟩
          rintro m' (⟨q1, rfl⟩ | ⟨q1, rfl⟩)
          · exact absurd h q1
          · (conv => whnf)
            refine And.intro (fun h5 => ?_) (fun h5 => ?_)
            · exact absurd h5 (by simp [gI, sI])
            · exact tEnd42168 (wrMok hM (by decide) (by decide)) rfl wrFr (by decide) (by decide)
      · (conv => whnf)
        refine ⟨1, by decide, _, h_wrong, ?_⟩
        rintro m' (⟨q1, rfl⟩ | ⟨q1, rfl⟩)
        · exact absurd h q1
        · (conv => whnf)
          refine And.intro (fun h5 => ?_) (fun h5 => ?_)
          · exact absurd h5 (by simp [gI, sI])
          · exact tEnd42168 (wrMok hM (by decide) (by decide)) rfl wrFr (by decide) (by decide)
    · exact tEnd42168 hM rfl (Fr_rfl _ _) (by decide) (by decide)
def acTold34008 : AC := ([(2, 1175, 0), (2, 34008, 0), (0, 4, 4), (0, 0, 4)], 3, [((0, 0, 3), [], [])], frW, [])
theorem tEnd34008 {m m' : MM} {as : List Value} {r : Int32} (hM : Mok TYg m') (hb : m'.2.2 = m.2.2) (hF : Fr frW m m') (h1 : 0 ≤ r.toInt) (h2 : r.toInt ≤ 3) : PC TYg acTold34008 m as (some (.int r)) m' :=
  ⟨hM, hb, hF, _, List.mem_singleton.mpr rfl, ⟨by decide, ⟨_, rfl, h1, h2⟩⟩, (fun _ h => by cases h), (fun _ h => by cases h)⟩
set_option maxRecDepth 100000 in
set_option maxHeartbeats 4000000 in
theorem hpTold34008 (c : Nat × Nat) : SafeC TYg c mX7_told acTold34008 := by
  intro as m hF hM hc _
  match as, hF with
  | [x0, x1, x2, x3], hF =>
    obtain ⟨e0, e1, ⟨i2, rfl, g1, g2⟩, ⟨mn, rfl, g3, g4⟩, _⟩ := hF
    have e0 : x0 = .ref 1175 := e0
    have e1 : x1 = .ref 34008 := e1
    subst e0 e1
    simp only at g3 g4
    obtain rfl : i2 = 4 := Int32.toInt_inj.mp (show i2.toInt = 4 by simp only at g1 g2; omega)
    refine At.gs okX7_told 80 ?_
    (conv => whnf)
    refine And.intro (fun h => ?_) (fun h => ?_)
    · (conv => whnf)
      refine And.intro (fun hs => ?_) (fun hs => ?_)
      · (conv => whnf)
        refine ⟨1, by decide, _, hfd_34008 g3 g4, ?_⟩
        rintro r m' ⟨rfl, hr⟩
        (conv => whnf)
        refine And.intro (fun hn => ?_) (fun hn => ?_)
        · (conv => whnf)
          refine And.intro (fun h5 => ?_) (fun h5 => ?_)
          · (conv => whnf)
            refine ⟨1, by decide, _, hfd_34008 g3 g4, ?_⟩
            rintro r2 m2 ⟨rfl, hr2⟩
            refine tEnd34008 hM rfl (Fr_rfl _ _) ?_ ?_
            · rcases hr2 with ⟨q1, q2⟩ | ⟨q1, q2, q3⟩
              · rcases hr with ⟨p1, p2⟩ | ⟨p1, p2, p3⟩
                · exact absurd (Int32.toInt_inj.mp (show r.toInt = -1 from p1)) hn
                · exact absurd p3 (q2 _ (by omega))
              · exact q1
            · rcases hr2 with ⟨q1, q2⟩ | ⟨q1, q2, q3⟩
              · omega
              · omega
          · exact absurd h h5
        · (conv => whnf)
          refine ⟨1, by decide, _, h_wrong, ?_⟩
          rintro m' (⟨q1, rfl⟩ | ⟨q1, rfl⟩)
          · exact absurd h q1
          · (conv => whnf)
            refine And.intro (fun h5 => ?_) (fun h5 => ?_)
            · exact absurd h5 (by simp [gI, sI])
            · exact tEnd34008 (wrMok hM (by decide) (by decide)) rfl wrFr (by decide) (by decide)
      · (conv => whnf)
        refine ⟨1, by decide, _, h_wrong, ?_⟩
        rintro m' (⟨q1, rfl⟩ | ⟨q1, rfl⟩)
        · exact absurd h q1
        · (conv => whnf)
          refine And.intro (fun h5 => ?_) (fun h5 => ?_)
          · exact absurd h5 (by simp [gI, sI])
          · exact tEnd34008 (wrMok hM (by decide) (by decide)) rfl wrFr (by decide) (by decide)
    · exact tEnd34008 hM rfl (Fr_rfl _ _) (by decide) (by decide)
def acTold99560 : AC := ([(2, 1175, 0), (2, 99560, 0), (0, 12, 12), (0, 0, 12)], 3, [((0, 0, 11), [], [])], frW, [])
theorem tEnd99560 {m m' : MM} {as : List Value} {r : Int32} (hM : Mok TYg m') (hb : m'.2.2 = m.2.2) (hF : Fr frW m m') (h1 : 0 ≤ r.toInt) (h2 : r.toInt ≤ 11) : PC TYg acTold99560 m as (some (.int r)) m' :=
  ⟨hM, hb, hF, _, List.mem_singleton.mpr rfl, ⟨by decide, ⟨_, rfl, h1, h2⟩⟩, (fun _ h => by cases h), (fun _ h => by cases h)⟩
set_option maxRecDepth 100000 in
set_option maxHeartbeats 4000000 in
theorem hpTold99560 (c : Nat × Nat) : SafeC TYg c mX7_told acTold99560 := by
  intro as m hF hM hc _
  match as, hF with
  | [x0, x1, x2, x3], hF =>
    obtain ⟨e0, e1, ⟨i2, rfl, g1, g2⟩, ⟨mn, rfl, g3, g4⟩, _⟩ := hF
    have e0 : x0 = .ref 1175 := e0
    have e1 : x1 = .ref 99560 := e1
    subst e0 e1
    simp only at g3 g4
    obtain rfl : i2 = 12 := Int32.toInt_inj.mp (show i2.toInt = 12 by simp only at g1 g2; omega)
    refine At.gs okX7_told 80 ?_
    (conv => whnf)
    refine And.intro (fun h => ?_) (fun h => ?_)
    · (conv => whnf)
      refine And.intro (fun hs => ?_) (fun hs => ?_)
      · (conv => whnf)
        refine ⟨1, by decide, _, hfd_99560 g3 g4, ?_⟩
        rintro r m' ⟨rfl, hr⟩
        (conv => whnf)
        refine And.intro (fun hn => ?_) (fun hn => ?_)
        · (conv => whnf)
          refine And.intro (fun h5 => ?_) (fun h5 => ?_)
          · (conv => whnf)
            refine ⟨1, by decide, _, hfd_99560 g3 g4, ?_⟩
            rintro r2 m2 ⟨rfl, hr2⟩
            refine tEnd99560 hM rfl (Fr_rfl _ _) ?_ ?_
            · rcases hr2 with ⟨q1, q2⟩ | ⟨q1, q2, q3⟩
              · rcases hr with ⟨p1, p2⟩ | ⟨p1, p2, p3⟩
                · exact absurd (Int32.toInt_inj.mp (show r.toInt = -1 from p1)) hn
                · exact absurd p3 (q2 _ (by omega))
              · exact q1
            · rcases hr2 with ⟨q1, q2⟩ | ⟨q1, q2, q3⟩
              · omega
              · omega
          · exact absurd h h5
        · (conv => whnf)
          refine ⟨1, by decide, _, h_wrong, ?_⟩
          rintro m' (⟨q1, rfl⟩ | ⟨q1, rfl⟩)
          · exact absurd h q1
          · (conv => whnf)
            refine And.intro (fun h5 => ?_) (fun h5 => ?_)
            · exact absurd h5 (by simp [gI, sI])
            · exact tEnd99560 (wrMok hM (by decide) (by decide)) rfl wrFr (by decide) (by decide)
      · (conv => whnf)
        refine ⟨1, by decide, _, h_wrong, ?_⟩
        rintro m' (⟨q1, rfl⟩ | ⟨q1, rfl⟩)
        · exact absurd h q1
        · (conv => whnf)
          refine And.intro (fun h5 => ?_) (fun h5 => ?_)
          · exact absurd h5 (by simp [gI, sI])
          · exact tEnd99560 (wrMok hM (by decide) (by decide)) rfl wrFr (by decide) (by decide)
    · exact tEnd99560 hM rfl (Fr_rfl _ _) (by decide) (by decide)
