/-! by hand: the memory's state on the way; judge of the model; undo -/
theorem nI_of_int {i : Int32} {j : Nat} (h0 : 0 ≤ i.toInt) (e : (j : Int) = i.toInt) : nI j = i := Int32.toInt_inj.mp (by
  have := tI_hi i
  unfold i32hi at this
  show (Int32.ofNat j).toInt = _
  rw [Int32.toInt_ofNat_of_lt (by omega)]
  omega)
/-- place i of a row that is told -/
def sg (l : Int64) (i : Int32) : Int32 := ((l >>> ((6 * i).toInt64 &&& 63)) &&& 63).toInt32
theorem sg0 (l : Int64) : sg l (nI 0) = (l &&& 63).toInt32 := by
  have e : (6 * nI 0).toInt64 &&& 63 = 0 := by decide
  unfold sg
  rw [e, Int64.shiftRight_zero]
def wJ7 : List Nat := [4294968471, 165384, 26104, 210453398679]
def acJudge7 : AC := ([(2, 1175, 0), (0, -2147483648, 2147483647), (0, -2147483648, 2147483647), (8, 0, 0)], 4, [((0, -1, 1), [], [])], wJ7, [])
theorem j7End {m m' : MM} {as : List Value} {r : Int32} (h : St wJ7 m m') (h1 : -1 ≤ r.toInt) (h2 : r.toInt ≤ 1) : PC TYg acJudge7 m as (some (.int r)) m' :=
  ⟨h.1, h.2.1, h.2.2, _, List.mem_singleton.mpr rfl, ⟨by decide, ⟨_, rfl, h1, h2⟩⟩, (fun _ h => by cases h), (fun _ h => by cases h)⟩
set_option maxRecDepth 100000 in
theorem h_isSale {m : MM} {x : Int32} : CI 1 mX7_isSale [.ref 1175, .int x] m (fun r m' => m' = m ∧ ((r = 1 ∧ 0 ≤ x.toInt ∧ x.toInt < (gI m 1175 6).toInt) ∨ r = 0)) := by
  refine At.gs okX7_isSale 40 ?_
  (conv => whnf)
  refine And.intro (fun h1 => ?_) (fun h1 => ?_)
  · exact ⟨Or.inl rfl, rfl, Or.inr rfl⟩
  · (conv => whnf)
    refine And.intro (fun h2 => ?_) (fun h2 => ?_)
    · exact ⟨Or.inl rfl, rfl, Or.inr rfl⟩
    · rw [lt_i] at h1
      rw [le_i] at h2
      have e0 : (0 : Int32).toInt = 0 := rfl
      exact ⟨Or.inr rfl, rfl, Or.inl ⟨rfl, by omega, by omega⟩⟩
section J7
variable {m : MM} {w n : Int32} {sa : Int64} {c : Nat × Nat}
def P7 (m : MM) (w n : Int32) (sa : Int64) : QQ := PC TYg acJudge7 m [.ref 1175, .int w, .int n, .long sa]
/-- the last loop -/
theorem j7c (hc : c = cA ∨ c = cB) (hb : m.2.2 = c) (n0 : 2 ≤ n.toInt) (n1 : n.toInt ≤ 6) (hall : ∀ j : Nat, (j : Int) < n.toInt → 0 ≤ (sg sa (nI j)).toInt ∧ (sg sa (nI j)).toInt < 40) :
    ∀ (k : Nat) (i : Int32) (m1 : MM), St wJ7 m m1 → 1 ≤ i.toInt → i.toInt ≤ n.toInt → (n.toInt - i.toInt).toNat = k → At (E0 4) mX7_judge (P7 m w n sa) 148 [.ref 1175, .int w, .int n, .long sa, .null, .int i] [] m1 := by
  intro k
  induction k with
  | zero =>
    intro i m1 hS i0 i1 hk
    refine At.ls okX7_judge 80 ⟨_, _, rfl⟩ ?_
    (conv => whnf)
    refine And.intro (fun h => ?_) (fun h => absurd (le_i.mpr (by omega)) h)
    have en : (n - 1).toInt = n.toInt - 1 := by
      have := tI_sub (x := n) (y := 1) (by rw [tI_1]; unfold i32lo; omega) (by rw [tI_1]; unfold i32hi; omega)
      rw [this, tI_1]
    have hr : ∀ q, (0 : Int) ≤ (gI m1 26104 q).toInt ∧ (gI m1 26104 q).toInt ≤ 39 := fun q => hS.1.1 26104 q
    (conv => whnf)
    refine And.intro (vp_in_iff.mpr ⟨by omega, by omega⟩) ?_
    (conv => whnf)
    refine And.intro (vp_in_iff.mpr ⟨(hr _).1, by have := (hr (n - 1).toNatClampNeg).2; omega⟩) ?_
    (conv => whnf)
    refine And.intro (vp_in_iff.mpr (by decide)) ?_
    (conv => whnf)
    refine And.intro (vp_in_iff.mpr ⟨(hr _).1, by have := (hr (Int32.toNatClampNeg 0)).2; omega⟩) ?_
    (conv => whnf)
    exact And.intro (fun _ => j7End hS (by decide) (by decide)) (fun _ => j7End hS (by decide) (by decide))
  | succ k ih =>
    intro i m1 hS i0 i1 hk
    refine At.ls okX7_judge 80 ⟨_, _, rfl⟩ ?_
    (conv => whnf)
    refine And.intro (fun h => absurd (le_i.mp h) (by omega)) (fun h => ?_)
    rw [le_i] at h
    have hv := hall i.toInt.toNat (by omega)
    rw [nI_of_int (i := i) (by omega) (by omega)] at hv
    (conv => whnf)
    refine And.intro (vp_in_iff.mpr ⟨by omega, by omega⟩) ?_
    have hS2 : St wJ7 m (sI m1 26104 i.toNatClampNeg (sg sa i)) := hS.row rfl (by decide) (show (0 : Int) ≤ _ from hv.1) (show _ ≤ (39 : Int) by omega)
    have hr : ∀ q, (0 : Int) ≤ (gI (sI m1 26104 i.toNatClampNeg (sg sa i)) 26104 q).toInt ∧ (gI (sI m1 26104 i.toNatClampNeg (sg sa i)) 26104 q).toInt ≤ 39 := fun q => hS2.1.1 26104 q
    (conv => whnf)
    refine And.intro (vp_in_iff.mpr ⟨by omega, by omega⟩) ?_
    (conv => whnf)
    refine ⟨2, by decide, _, SafeC.ci (sfX7_fits c hc ([(2, 1175, 0), (0, 1, 5), (0, 0, 39)], 2, [((0, 0, 0), [], []), ((0, 1, 1), [], [])], [], []) (by unfold csX7_fits; decide)) (by decide) ⟨rfl, ⟨i, rfl, i0, by show _ ≤ (5 : Int); omega⟩, ⟨_, rfl, (hr _).1, (hr _).2⟩, trivial⟩ hS2.1 (hS2.2.1.trans hb) noPre, ?_⟩
    intro r m2 hP
    have hS3 := hS2.call hP (fun _ h => by cases h)
    (conv => whnf)
    refine And.intro (fun _ => ?_) (fun _ => j7End hS3 (by decide) (by decide))
    (conv => whnf)
    exact And.intro rfl (ih (i + 1) m2 hS3 (by rw [inc1 (by omega)]; omega) (by rw [inc1 (by omega)]; omega) (by rw [inc1 (by omega)]; omega))
/-- the copy of those to whom sales go, and what comes behind it -/
theorem j7b (hc : c = cA ∨ c = cB) (hb : m.2.2 = c) (n0 : 2 ≤ n.toInt) (n1 : n.toInt ≤ 6) (hall : ∀ j : Nat, (j : Int) < n.toInt → 0 ≤ (sg sa (nI j)).toInt ∧ (sg sa (nI j)).toInt < 40) :
    ∀ (k : Nat) (i : Int32) (m1 : MM), St wJ7 m m1 → 0 ≤ i.toInt → (40 - i.toInt).toNat = k → At (E0 4) mX7_judge (P7 m w n sa) 66 [.ref 1175, .int w, .int n, .long sa, .null, .int i] [] m1 := by
  have step : ∀ (i : Int32) (m1 : MM), St wJ7 m m1 → 0 ≤ i.toInt → (i.toInt < 40 → ∀ m2, St wJ7 m m2 → At (E0 4) mX7_judge (P7 m w n sa) 66 [.ref 1175, .int w, .int n, .long sa, .null, .int (i + 1)] [] m2) → At (E0 4) mX7_judge (P7 m w n sa) 66 [.ref 1175, .int w, .int n, .long sa, .null, .int i] [] m1 := by
    intro i m1 hS i0 hgo
    have hsz : (0 : Int) ≤ (gI m1 1175 6).toInt ∧ (gI m1 1175 6).toInt ≤ 40 := hS.1.1 1175 6
    refine At.ls okX7_judge 80 ⟨_, _, rfl⟩ ?_
    (conv => whnf)
    refine And.intro (fun hge => ?_) (fun hge => ?_)
    case refine_2 =>
      rw [le_i] at hge
      have hto : (0 : Int) ≤ (gI m1 329064 i.toNatClampNeg).toInt ∧ (gI m1 329064 i.toNatClampNeg).toInt ≤ 11 := hS.1.1 329064 _
      (conv => whnf)
      refine And.intro (vp_in_iff.mpr ⟨by omega, by omega⟩) ?_
      (conv => whnf)
      refine And.intro (vp_in_iff.mpr ⟨by omega, by omega⟩) ?_
      (conv => whnf)
      exact And.intro rfl (hgo (by omega) _ (hS.row rfl (by decide) hto.1 hto.2))
    have hv := hall 0 (by omega)
    rw [sg0] at hv
    have hS1 : St wJ7 m (sI m1 1175 48 w) := hS.fld (by decide) (tI_lo w) (tI_hi w) (fun _ q => by omega)
    have hS2 : St wJ7 m (sI (sI m1 1175 48 w) 26104 (Int32.toNatClampNeg 0) (sa &&& 63).toInt32) := hS1.row rfl (by decide) (show (0 : Int) ≤ _ from hv.1) (show _ ≤ (39 : Int) by omega)
    generalize hm2 : sI (sI m1 1175 48 w) 26104 (Int32.toNatClampNeg 0) (sa &&& 63).toInt32 = m2 at hS2
    have hr : ∀ q, (0 : Int) ≤ (gI m2 26104 q).toInt ∧ (gI m2 26104 q).toInt ≤ 39 := fun q => hS2.1.1 26104 q
    (conv => whnf)
    refine And.intro (vp_in_iff.mpr (by decide)) ?_
    (conv => whnf)
    refine And.intro (vp_in_iff.mpr (by decide)) ?_
    rw [hm2]
    (conv => whnf)
    refine ⟨1, by decide, _, SafeC.ci (sfX7_isStopped c hc ([(2, 1175, 0), (0, 0, 39)], 1, [((0, 0, 0), [], []), ((0, 1, 1), [], [])], [], []) (by unfold csX7_isStopped; decide)) (by decide) ⟨rfl, ⟨_, rfl, (hr _).1, (hr _).2⟩, trivial⟩ hS2.1 (hS2.2.1.trans hb) noPre, ?_⟩
    intro r m3 hP
    have hS3 := hS2.call hP (fun _ h => by cases h)
    have hr3 : ∀ q, (0 : Int) ≤ (gI m3 26104 q).toInt ∧ (gI m3 26104 q).toInt ≤ 39 := fun q => hS3.1.1 26104 q
    have lp := j7c (w := w) (sa := sa) hc hb n0 n1 hall
    (conv => whnf)
    refine And.intro (fun _ => j7End hS3 (by decide) (by decide)) (fun _ => ?_)
    (conv => whnf)
    refine And.intro (fun _ => ?_) (fun _ => ?_)
    · (conv => whnf)
      exact And.intro rfl (lp _ 1 m3 hS3 (by decide) (by rw [tI_1]; omega) rfl)
    · (conv => whnf)
      refine And.intro (vp_in_iff.mpr (by decide)) ?_
      (conv => whnf)
      refine And.intro (vp_in_iff.mpr ⟨(hr3 _).1, by have := (hr3 (Int32.toNatClampNeg 0)).2; omega⟩) ?_
      (conv => whnf)
      refine And.intro (fun _ => ?_) (fun _ => j7End hS3 (by decide) (by decide))
      (conv => whnf)
      exact And.intro rfl (lp _ 1 m3 hS3 (by decide) (by rw [tI_1]; omega) rfl)
  intro k
  induction k with
  | zero =>
    intro i m1 hS i0 hk
    exact step i m1 hS i0 (fun h => by omega)
  | succ k ih =>
    intro i m1 hS i0 hk
    exact step i m1 hS i0 (fun h m2 hS2 => ih (i + 1) m2 hS2 (by rw [inc1 (by omega)]; omega) (by rw [inc1 (by omega)]; omega))
end J7
set_option maxRecDepth 100000 in
set_option maxHeartbeats 4000000 in
theorem hpJudge7 (c : Nat × Nat) (hc : c = cA ∨ c = cB) : SafeC TYg c mX7_judge acJudge7 := by
  intro as m hF hM hb _
  match as, hF with
  | [x0, x1, x2, x3], hF =>
   obtain ⟨e0, ⟨w, rfl, -⟩, ⟨n, rfl, -⟩, ⟨sa, rfl⟩, _⟩ := hF
   have e0 : x0 = .ref 1175 := e0
   subst e0
   have hS0 : St wJ7 m (sI m 1175 0 0) := (St.rf hM).fld (by decide) (by decide) (by decide) (fun _ q => by omega)
   have lp : 2 ≤ n.toInt → n.toInt ≤ 6 → ∀ (k : Nat) (i : Int32), 0 ≤ i.toInt → i.toInt ≤ n.toInt → (n.toInt - i.toInt).toNat = k → (∀ j : Nat, (j : Int) < i.toInt → 0 ≤ (sg sa (nI j)).toInt ∧ (sg sa (nI j)).toInt < 40) → At (E0 4) mX7_judge (P7 m w n sa) 30 [.ref 1175, .int w, .int n, .long sa, .null, .int i] [] (sI m 1175 0 0) := by
    intro n0 n1 k
    have hsz : (0 : Int) ≤ (gI (sI m 1175 0 0) 1175 6).toInt ∧ (gI (sI m 1175 0 0) 1175 6).toInt ≤ 40 := hS0.1.1 1175 6
    induction k with
    | zero =>
      intro i i0 i1 hk hall
      refine At.ls okX7_judge 80 ⟨_, _, rfl⟩ ?_
      (conv => whnf)
      refine And.intro (fun h => ?_) (fun h => absurd (le_i.mpr (by omega)) h)
      (conv => whnf)
      exact And.intro rfl (j7b hc hb n0 n1 (fun j hj => hall j (by omega)) _ 0 _ hS0 (by decide) rfl)
    | succ k ih =>
      intro i i0 i1 hk hall
      refine At.ls okX7_judge 80 ⟨_, _, rfl⟩ ?_
      (conv => whnf)
      refine And.intro (fun h => absurd (le_i.mp h) (by omega)) (fun h => ?_)
      rw [le_i] at h
      (conv => whnf)
      refine ⟨1, by decide, _, h_isSale, ?_⟩
      rintro r m' ⟨rfl, hr⟩
      (conv => whnf)
      refine And.intro (fun h2 => ?_) (fun h2 => j7End hS0 (by decide) (by decide))
      (conv => whnf)
      refine And.intro rfl (ih (i + 1) (by rw [inc1 (by omega)]; omega) (by rw [inc1 (by omega)]; omega) (by rw [inc1 (by omega)]; omega) (fun j hj => ?_))
      rw [inc1 (by omega)] at hj
      by_cases hji : (j : Int) < i.toInt
      · exact hall j hji
      · rw [nI_of_int (i := i) (by omega) (by omega)]
        rcases hr with ⟨q1, q2, q3⟩ | q
        · have q3 : (sg sa i).toInt < (gI (sI m 1175 0 0) 1175 6).toInt := q3
          exact ⟨q2, by omega⟩
        · exact absurd q h2
   have e2 : (2 : Int32).toInt = 2 := rfl
   have e6 : (6 : Int32).toInt = 6 := rfl
   refine At.gs okX7_judge 80 ?_
   (conv => whnf)
   refine And.intro (fun _ => j7End hS0 (by decide) (by decide)) (fun _ => ?_)
   (conv => whnf)
   refine And.intro (fun _ => j7End hS0 (by decide) (by decide)) (fun _ => ?_)
   (conv => whnf)
   refine And.intro (fun _ => j7End hS0 (by decide) (by decide)) (fun h1 => ?_)
   (conv => whnf)
   refine And.intro (fun h2 => ?_) (fun _ => j7End hS0 (by decide) (by decide))
   rw [lt_i] at h1
   rw [le_i] at h2
   (conv => whnf)
   exact And.intro rfl (lp (by omega) (by omega) _ 0 (by decide) (by have : (0 : Int32).toInt = 0 := rfl; omega) rfl (fun j hj => by have : (0 : Int32).toInt = 0 := rfl; omega))
/-! undo of the model: sales are never fewer than those booked -/
def wU7 : List Nat := [4294968471, 30064772247]
set_option maxRecDepth 100000 in
theorem hpUndo7 {m : MM} (hM : Mok TYg m) (hb : (gI m 1175 7).toInt ≤ (gI m 1175 6).toInt) : CI 1 mX7_undo [.ref 1175] m (fun _ m' => St wU7 m m' ∧ (gI m' 1175 7).toInt ≤ (gI m' 1175 6).toInt) := by
  have hS0 : St wU7 m (sI m 1175 0 0) := (St.rf hM).fld (by decide) (by decide) (by decide) (fun _ q => by omega)
  have h6 : (0 : Int) ≤ (gI m 1175 6).toInt ∧ (gI m 1175 6).toInt ≤ 40 := hM.1 1175 6
  have h7 : (0 : Int) ≤ (gI m 1175 7).toInt ∧ (gI m 1175 7).toInt ≤ 40 := hM.1 1175 7
  refine At.gs okX7_undo 60 ?_
  (conv => whnf)
  refine And.intro (fun h => ?_) (fun h => ?_)
  · have h : ¬ gI m 1175 6 = gI m 1175 7 := h
    have hne : (gI m 1175 6).toInt ≠ (gI m 1175 7).toInt := fun q => h (Int32.toInt_inj.mp q)
    have e : (gI m 1175 6 - 1).toInt = (gI m 1175 6).toInt - 1 := by
      have := tI_sub (x := gI m 1175 6) (y := 1) (by rw [tI_1]; unfold i32lo; omega) (by rw [tI_1]; unfold i32hi; omega)
      rw [this, tI_1]
    have hS1 : St wU7 m (sI (sI m 1175 0 0) 1175 6 (gI m 1175 6 - 1)) := hS0.fld (by decide) (show (0 : Int) ≤ _ by omega) (show _ ≤ (40 : Int) by omega) (fun _ q => by omega)
    refine ⟨hS1, ?_⟩
    show (gI m 1175 7).toInt ≤ (gI m 1175 6 - 1).toInt
    omega
  · exact ⟨hS0, hb⟩
