/-! book of the class, by hand -/
def wRdA : List Nat := [21448, 49912, 49944, 49976, 50136, 50152, 50168, 50184, 50200, 50219, 164696, 164712, 164728, 164744, 164760, 164776, 164792, 8589935330, 8589935362, 8589935394, 12884901907, 17179869203, 21474836499, 25769803795, 30064771091, 34359738387, 34359739204, 38654705683]
def wReA : List Nat := 8589934611 :: wRdA
def acRdA : AC := ([(2, 19, 0), (0, 0, 800), (2, 720, 0)], 7, [((0, -1, -1), [], []), ((0, 0, 800), [], [])], wRdA, [])
set_option maxRecDepth 100000 in
set_option maxHeartbeats 4000000 in
theorem rdLoopA {m : MM} {as : List Value} {n : Int32} (hM : Mok TYg m) (hc : m.2.2 = (336, 720)) (h0 : 0 ≤ n.toInt) (h1 : n.toInt ≤ 800) : At (E0 7) mX3_read (PC TYg acRdA m as) 41 [.ref 19, .int n, .ref 720, .int 0, .int 1] [] m :=
  loop_of (Ty := TYg) (c := (336, 720)) (ac := acRdA) (ann := [(41, [(2, 19, 0), (0, 0, 800), (2, 720, 0), (0, 0, 800), (0, 0, 1)], [(0, 3, 0, 4294967296)])]) (fuel := 600) okX3_read (snX3_read _ _ cA (Or.inl rfl)) (List.forall_mem_cons.mpr ⟨⟨_, _, rfl⟩, (fun q hq => by cases hq)⟩) (by decide +kernel) (41, [(2, 19, 0), (0, 0, 800), (2, 720, 0), (0, 0, 800), (0, 0, 1)], [(0, 3, 0, 4294967296)]) List.mem_cons_self rfl ⟨rfl, ⟨n, rfl, h0, h1⟩, rfl, ⟨0, rfl, by decide, by decide⟩, ⟨1, rfl, by decide, by decide⟩, trivial⟩ hM hc
set_option maxRecDepth 100000 in
set_option maxHeartbeats 4000000 in
theorem hpReadA {m : MM} {n : Int32} (hM : Mok TYg m) (hc : m.2.2 = (336, 720)) (h0 : 0 ≤ n.toInt) (h1 : n.toInt ≤ 800) : CI 7 mX3_read [.ref 19, .int n, .ref 720] m (fun r m' => St wReA m m' ∧ gI m' 19 1 = 0) := by
  refine At.gs okX3_read 60 ?_
  have hsz : (0 : Int) ≤ (gI m 19 1).toInt ∧ (gI m 19 1).toInt ≤ 800 := hM.1 19 1
  have S1 := fun (v : Int32) (q1 : 0 ≤ v.toInt) (q2 : v.toInt ≤ 800) => (St.rf (W := wReA) hM).fld (a := 19) (k := 4) (v := v) (by decide) (show (0 : Int) ≤ _ from q1) (show _ ≤ (800 : Int) from q2) (fun _ q => by omega)
  have key : ∀ v : Int32, 0 ≤ v.toInt → v.toInt ≤ 800 → St wReA m (sI (sI (sI (sI (sI m 19 4 v) 19 1 0) 19 5 0) 19 2 0) 19 3 (-1)) := fun v q1 q2 =>
    ((((S1 v q1 q2).fld (a := 19) (k := 1) (v := 0) (by decide) (by decide) (by decide) (fun _ q => by omega)).fld (a := 19) (k := 5) (v := 0) (by decide) (by decide) (by decide) (fun _ q => by omega)).fld (a := 19) (k := 2) (v := 0) (by decide) (by decide) (by decide) (fun _ q => by omega)).fld (a := 19) (k := 3) (v := -1) (by decide) (by decide) (by decide) (fun _ q => by omega)
  have hv : 0 ≤ (if gI m 19 1 < n then gI m 19 1 else n : Int32).toInt ∧ (if gI m 19 1 < n then gI m 19 1 else n : Int32).toInt ≤ 800 := by split <;> omega
  have hS := key _ hv.1 hv.2
  (conv => whnf)
  refine ⟨3, by decide, _, SafeC.cv (sfX3_advance cA (Or.inl rfl) _ (List.mem_singleton.mpr rfl)) (by decide) ⟨rfl, trivial⟩ hS.1 (hS.2.1.trans hc) noPre, ?_⟩
  intro m2 hP
  have hS2 := hS.call hP (by decide)
  have e2 : gI m2 19 1 = 0 := (fr1 hP.2.2.1 (by decide)).trans rfl
  (conv => whnf)
  refine And.intro rfl (At.mono (rdLoopA (as := []) hS2.1 (hS2.2.1.trans hc) h0 h1) (fun r m' q => ?_))
  obtain ⟨i, rfl⟩ := PC_int q (by decide)
  exact ⟨hS2.call q (fun x hx => List.mem_cons_of_mem _ hx), (fr1 q.2.2.1 (by decide)).trans e2⟩
set_option maxRecDepth 100000 in
set_option maxHeartbeats 4000000 in
theorem hpBook6A {m : MM} {n : Int32} (hM : Mok TYg m) (hc : m.2.2 = (336, 720)) : CI 9 mX6_book [.ref 6, .int n] m (fun r m' => Mok TYg m' ∧ (m'.2.2 = cA ∨ m'.2.2 = cB) ∧ (∀ k, gI m' 1175 k = gI m 1175 k) ∧ (((n.toInt < 0 ∨ (gI m 19 1).toInt < n.toInt) ∧ gI m' 19 1 = gI m 19 1) ∨ ((0 ≤ n.toInt ∧ n.toInt ≤ (gI m 19 1).toInt) ∧ gI m' 19 1 = 0))) := by
  obtain ⟨f, g, c⟩ := m
  obtain rfl : c = (336, 720) := hc
  have hsz : (0 : Int) ≤ (gI (f, g, (336, 720)) 19 1).toInt ∧ (gI (f, g, (336, 720)) 19 1).toInt ≤ 800 := hM.1 19 1
  have e0 : (0 : Int32).toInt = 0 := rfl
  refine At.gs okX6_book 80 ?_
  (conv => whnf)
  refine And.intro (fun h => ?_) (fun h => ?_)
  · rw [lt_i] at h
    exact ⟨hM, Or.inl rfl, fun _ => rfl, Or.inl ⟨Or.inl (by omega), rfl⟩⟩
  · rw [lt_i] at h
    (conv => whnf)
    refine And.intro (fun h2 => ?_) (fun h2 => ?_)
    · have h2 : n ≤ gI (f, g, (336, 720)) 19 1 := h2
      rw [le_i] at h2
      (conv => whnf)
      dsimp only
      (conv => whnf)
      refine ⟨1, by decide, _, SafeC.cv (sfX0_clear cA (Or.inl rfl) ([(2, 720, 0)], 1, [((9, 0, 0), [((738, 1), (0, 0)), ((770, 1), (0, 0)), ((802, 1), (0, 0)), ((836, 7), (0, 0)), ((836, 8), (0, 0))], [])], [8589935330, 8589935362, 8589935394, 34359739204, 38654706500], []) (by unfold csX0_clear; decide)) (by decide) ⟨rfl, trivial⟩ hM rfl noPre, ?_⟩
      intro m1 hP1
      have k1 := frK hP1.2.2.1 (by decide)
      have z1 : gI m1 19 1 = gI (f, g, (336, 720)) 19 1 := fr1 hP1.2.2.1 (by decide)
      obtain ⟨f1, g1, c1⟩ := m1
      obtain rfl : c1 = (336, 720) := hP1.2.1
      (conv => whnf)
      refine ⟨7, by decide, _, hpReadA hP1.1 rfl (by omega) (by omega), ?_⟩
      rintro r m2 ⟨hS2, z2⟩
      have k2 := frK hS2.2.2 (by decide)
      obtain ⟨f2, g2, c2⟩ := m2
      obtain rfl : c2 = (336, 720) := hS2.2.1
      (conv => whnf)
      refine And.intro (fun h3 => ?_) (fun h3 => ?_)
      · exact ⟨hS2.1, Or.inl rfl, fun k => (k2 k).trans (k1 k), Or.inr ⟨⟨by omega, h2⟩, z2⟩⟩
      · (conv => whnf)
        dsimp only [sNw_c, sSp_c]
        (conv => whnf)
        refine ⟨2, by decide, _, SafeC.cv (sfX0_joinParties cB (Or.inr rfl) ([(2, 720, 0)], 2, [((9, 0, 0), [], [])], [50232], []) (by unfold csX0_joinParties; decide)) (by decide) ⟨rfl, trivial⟩ (m := (f2, g2, (720, 336))) hS2.1 rfl noPre, ?_⟩
        intro m3 hP3
        have k3 := frK hP3.2.2.1 (by decide)
        have z3 : gI m3 19 1 = gI (f2, g2, (720, 336)) 19 1 := fr1 hP3.2.2.1 (by decide)
        obtain ⟨f3, g3, c3⟩ := m3
        obtain rfl : c3 = (720, 336) := hP3.2.1
        have hM4 : Mok TYg (sI (sI (f3, g3, (720, 336)) 6 5 0) 6 6 0) := Mok_sI (Mok_sI hP3.1 (by decide) (by decide)) (by decide) (by decide)
        (conv => whnf)
        refine ⟨1, by decide, _, SafeC.cv (sfX1_forget cB (Or.inr rfl) _ (List.mem_singleton.mpr rfl)) (by decide) ⟨rfl, trivial⟩ hM4 rfl noPre, ?_⟩
        intro m5 hP5
        have k5 := frK hP5.2.2.1 (by decide)
        have z5 : gI m5 19 1 = gI (f3, g3, (720, 336)) 19 1 := (fr1 hP5.2.2.1 (by decide)).trans rfl
        refine ⟨hP5.1, Or.inr hP5.2.1, fun k => (k5 k).trans (Eq.trans rfl ((k3 k).trans (Eq.trans rfl ((k2 k).trans (k1 k))))), Or.inr ⟨⟨by omega, h2⟩, ?_⟩⟩
        exact z5.trans (z3.trans (Eq.trans rfl z2))
    · have h2 : ¬ n ≤ gI (f, g, (336, 720)) 19 1 := h2
      rw [le_i] at h2
      exact ⟨hM, Or.inl rfl, fun _ => rfl, Or.inl ⟨Or.inr (by omega), rfl⟩⟩
def wRdB : List Nat := [21064, 49528, 49560, 49592, 49752, 49768, 49784, 49800, 49816, 49835, 164312, 164328, 164344, 164360, 164376, 164392, 164408, 8589934946, 8589934978, 8589935010, 12884901907, 17179869203, 21474836499, 25769803795, 30064771091, 34359738387, 34359738820, 38654705683]
def wReB : List Nat := 8589934611 :: wRdB
def acRdB : AC := ([(2, 19, 0), (0, 0, 800), (2, 336, 0)], 7, [((0, -1, -1), [], []), ((0, 0, 800), [], [])], wRdB, [])
set_option maxRecDepth 100000 in
set_option maxHeartbeats 4000000 in
theorem rdLoopB {m : MM} {as : List Value} {n : Int32} (hM : Mok TYg m) (hc : m.2.2 = (720, 336)) (h0 : 0 ≤ n.toInt) (h1 : n.toInt ≤ 800) : At (E0 7) mX3_read (PC TYg acRdB m as) 41 [.ref 19, .int n, .ref 336, .int 0, .int 1] [] m :=
  loop_of (Ty := TYg) (c := (720, 336)) (ac := acRdB) (ann := [(41, [(2, 19, 0), (0, 0, 800), (2, 336, 0), (0, 0, 800), (0, 0, 1)], [(0, 3, 0, 4294967296)])]) (fuel := 600) okX3_read (snX3_read _ _ cB (Or.inr rfl)) (List.forall_mem_cons.mpr ⟨⟨_, _, rfl⟩, (fun q hq => by cases hq)⟩) (by decide +kernel) (41, [(2, 19, 0), (0, 0, 800), (2, 336, 0), (0, 0, 800), (0, 0, 1)], [(0, 3, 0, 4294967296)]) List.mem_cons_self rfl ⟨rfl, ⟨n, rfl, h0, h1⟩, rfl, ⟨0, rfl, by decide, by decide⟩, ⟨1, rfl, by decide, by decide⟩, trivial⟩ hM hc
set_option maxRecDepth 100000 in
set_option maxHeartbeats 4000000 in
theorem hpReadB {m : MM} {n : Int32} (hM : Mok TYg m) (hc : m.2.2 = (720, 336)) (h0 : 0 ≤ n.toInt) (h1 : n.toInt ≤ 800) : CI 7 mX3_read [.ref 19, .int n, .ref 336] m (fun r m' => St wReB m m' ∧ gI m' 19 1 = 0) := by
  refine At.gs okX3_read 60 ?_
  have hsz : (0 : Int) ≤ (gI m 19 1).toInt ∧ (gI m 19 1).toInt ≤ 800 := hM.1 19 1
  have S1 := fun (v : Int32) (q1 : 0 ≤ v.toInt) (q2 : v.toInt ≤ 800) => (St.rf (W := wReB) hM).fld (a := 19) (k := 4) (v := v) (by decide) (show (0 : Int) ≤ _ from q1) (show _ ≤ (800 : Int) from q2) (fun _ q => by omega)
  have key : ∀ v : Int32, 0 ≤ v.toInt → v.toInt ≤ 800 → St wReB m (sI (sI (sI (sI (sI m 19 4 v) 19 1 0) 19 5 0) 19 2 0) 19 3 (-1)) := fun v q1 q2 =>
    ((((S1 v q1 q2).fld (a := 19) (k := 1) (v := 0) (by decide) (by decide) (by decide) (fun _ q => by omega)).fld (a := 19) (k := 5) (v := 0) (by decide) (by decide) (by decide) (fun _ q => by omega)).fld (a := 19) (k := 2) (v := 0) (by decide) (by decide) (by decide) (fun _ q => by omega)).fld (a := 19) (k := 3) (v := -1) (by decide) (by decide) (by decide) (fun _ q => by omega)
  have hv : 0 ≤ (if gI m 19 1 < n then gI m 19 1 else n : Int32).toInt ∧ (if gI m 19 1 < n then gI m 19 1 else n : Int32).toInt ≤ 800 := by split <;> omega
  have hS := key _ hv.1 hv.2
  (conv => whnf)
  refine ⟨3, by decide, _, SafeC.cv (sfX3_advance cB (Or.inr rfl) _ (List.mem_singleton.mpr rfl)) (by decide) ⟨rfl, trivial⟩ hS.1 (hS.2.1.trans hc) noPre, ?_⟩
  intro m2 hP
  have hS2 := hS.call hP (by decide)
  have e2 : gI m2 19 1 = 0 := (fr1 hP.2.2.1 (by decide)).trans rfl
  (conv => whnf)
  refine And.intro rfl (At.mono (rdLoopB (as := []) hS2.1 (hS2.2.1.trans hc) h0 h1) (fun r m' q => ?_))
  obtain ⟨i, rfl⟩ := PC_int q (by decide)
  exact ⟨hS2.call q (fun x hx => List.mem_cons_of_mem _ hx), (fr1 q.2.2.1 (by decide)).trans e2⟩
set_option maxRecDepth 100000 in
set_option maxHeartbeats 4000000 in
theorem hpBook6B {m : MM} {n : Int32} (hM : Mok TYg m) (hc : m.2.2 = (720, 336)) : CI 9 mX6_book [.ref 6, .int n] m (fun r m' => Mok TYg m' ∧ (m'.2.2 = cA ∨ m'.2.2 = cB) ∧ (∀ k, gI m' 1175 k = gI m 1175 k) ∧ (((n.toInt < 0 ∨ (gI m 19 1).toInt < n.toInt) ∧ gI m' 19 1 = gI m 19 1) ∨ ((0 ≤ n.toInt ∧ n.toInt ≤ (gI m 19 1).toInt) ∧ gI m' 19 1 = 0))) := by
  obtain ⟨f, g, c⟩ := m
  obtain rfl : c = (720, 336) := hc
  have hsz : (0 : Int) ≤ (gI (f, g, (720, 336)) 19 1).toInt ∧ (gI (f, g, (720, 336)) 19 1).toInt ≤ 800 := hM.1 19 1
  have e0 : (0 : Int32).toInt = 0 := rfl
  refine At.gs okX6_book 80 ?_
  (conv => whnf)
  refine And.intro (fun h => ?_) (fun h => ?_)
  · rw [lt_i] at h
    exact ⟨hM, Or.inr rfl, fun _ => rfl, Or.inl ⟨Or.inl (by omega), rfl⟩⟩
  · rw [lt_i] at h
    (conv => whnf)
    refine And.intro (fun h2 => ?_) (fun h2 => ?_)
    · have h2 : n ≤ gI (f, g, (720, 336)) 19 1 := h2
      rw [le_i] at h2
      (conv => whnf)
      dsimp only
      (conv => whnf)
      refine ⟨1, by decide, _, SafeC.cv (sfX0_clear cB (Or.inr rfl) ([(2, 336, 0)], 1, [((9, 0, 0), [((354, 1), (0, 0)), ((386, 1), (0, 0)), ((418, 1), (0, 0)), ((452, 7), (0, 0)), ((452, 8), (0, 0))], [])], [8589934946, 8589934978, 8589935010, 34359738820, 38654706116], []) (by unfold csX0_clear; decide)) (by decide) ⟨rfl, trivial⟩ hM rfl noPre, ?_⟩
      intro m1 hP1
      have k1 := frK hP1.2.2.1 (by decide)
      have z1 : gI m1 19 1 = gI (f, g, (720, 336)) 19 1 := fr1 hP1.2.2.1 (by decide)
      obtain ⟨f1, g1, c1⟩ := m1
      obtain rfl : c1 = (720, 336) := hP1.2.1
      (conv => whnf)
      refine ⟨7, by decide, _, hpReadB hP1.1 rfl (by omega) (by omega), ?_⟩
      rintro r m2 ⟨hS2, z2⟩
      have k2 := frK hS2.2.2 (by decide)
      obtain ⟨f2, g2, c2⟩ := m2
      obtain rfl : c2 = (720, 336) := hS2.2.1
      (conv => whnf)
      refine And.intro (fun h3 => ?_) (fun h3 => ?_)
      · exact ⟨hS2.1, Or.inr rfl, fun k => (k2 k).trans (k1 k), Or.inr ⟨⟨by omega, h2⟩, z2⟩⟩
      · (conv => whnf)
        dsimp only [sNw_c, sSp_c]
        (conv => whnf)
        refine ⟨2, by decide, _, SafeC.cv (sfX0_joinParties cA (Or.inl rfl) ([(2, 336, 0)], 2, [((9, 0, 0), [], [])], [49848], []) (by unfold csX0_joinParties; decide)) (by decide) ⟨rfl, trivial⟩ (m := (f2, g2, (336, 720))) hS2.1 rfl noPre, ?_⟩
        intro m3 hP3
        have k3 := frK hP3.2.2.1 (by decide)
        have z3 : gI m3 19 1 = gI (f2, g2, (336, 720)) 19 1 := fr1 hP3.2.2.1 (by decide)
        obtain ⟨f3, g3, c3⟩ := m3
        obtain rfl : c3 = (336, 720) := hP3.2.1
        have hM4 : Mok TYg (sI (sI (f3, g3, (336, 720)) 6 5 0) 6 6 0) := Mok_sI (Mok_sI hP3.1 (by decide) (by decide)) (by decide) (by decide)
        (conv => whnf)
        refine ⟨1, by decide, _, SafeC.cv (sfX1_forget cA (Or.inl rfl) _ (List.mem_singleton.mpr rfl)) (by decide) ⟨rfl, trivial⟩ hM4 rfl noPre, ?_⟩
        intro m5 hP5
        have k5 := frK hP5.2.2.1 (by decide)
        have z5 : gI m5 19 1 = gI (f3, g3, (336, 720)) 19 1 := (fr1 hP5.2.2.1 (by decide)).trans rfl
        refine ⟨hP5.1, Or.inl hP5.2.1, fun k => (k5 k).trans (Eq.trans rfl ((k3 k).trans (Eq.trans rfl ((k2 k).trans (k1 k))))), Or.inr ⟨⟨by omega, h2⟩, ?_⟩⟩
        exact z5.trans (z3.trans (Eq.trans rfl z2))
    · have h2 : ¬ n ≤ gI (f, g, (720, 336)) 19 1 := h2
      rw [le_i] at h2
      exact ⟨hM, Or.inr rfl, fun _ => rfl, Or.inl ⟨Or.inr (by omega), rfl⟩⟩
