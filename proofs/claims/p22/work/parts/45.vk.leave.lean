/-! the class's other methods that seek rounds: what they leave -/
def wAl : List Nat := [163944, 163960, 163976, 163992, 38654705713, 164009, 295097, 819273, 819288, 42949673009, 47244640305, 51539607601, 55834574897, 60129542193, 64424509489, 68719476785, 73014444081, 49864, 50248, 21625, 21640, 820312, 820328]
def wSc : List Nat := [49864, 50248, 21625, 21640, 820312, 820328]
/-- what is left behind a walk -/
def FmP (m m' : MM) : Prop := St wAl m m' ∧ FM (vw m) m'
theorem FmP.rf {m : MM} (hM : Mok TYg m) (hF : FM (vw m) m) : FmP m m := ⟨St.rf hM, hF⟩
theorem FmP.sc {W : List Nat} {m m1 m2 : MM} (h : FmP m m1) (S : St W m1 m2) (hs : ∀ x ∈ W, x ∈ wAl) (hW : fmFree W = true) : FmP m m2 := ⟨h.1.tr S hs, h.2.fr S.2.2 hW⟩
theorem St.wd {W W' : List Nat} {m m' : MM} (h : St W m m') (hs : ∀ x ∈ W, x ∈ W') : St W' m m' := ⟨h.1, h.2.1, Fr_tr (Fr_rfl _ _) h.2.2 hs⟩
theorem PC.st {ac : AC} {as : List Value} {r : Option Value} {m m' : MM} (h : PC TYg ac m as r m') : St ac.2.2.2.1 m m' := ⟨h.1, h.2.1, h.2.2.1⟩
/-- what gather leaves, for a walk that goes on -/
theorem ga_of {wy k d r : Int32} {m m' : MM} (hM : Mok TYg m) (hF : FM (vw m) m) (h : (¬ AsP wy k d ∧ r = -1 ∧ m' = m) ∨ (AsP wy k d ∧ FnQ (vw m) (gI m 1175 39) wy k.toNatClampNeg d.toInt m r m')) : FmP m m' ∧ (0 ≤ r.toInt → AsP wy k d ∧ r.toInt ≤ 200) := by
  have e1 : (-1 : Int32).toInt = -1 := rfl
  have e2 : (-2 : Int32).toInt = -2 := rfl
  rcases h with ⟨q1, q2, q3⟩ | ⟨q1, q2, q3, q4, q5⟩
  · rw [q3, q2, e1]
    exact ⟨FmP.rf hM hF, fun z => by omega⟩
  · refine ⟨⟨q2.wd (by decide), q3⟩, fun z => ⟨q1, ?_⟩⟩
    rw [q5] at z ⊢
    unfold spR at z ⊢
    by_cases y : 200 < (rnAC (vw m) ((vw m).2 11) (gI m 1175 39) wy k.toNatClampNeg d.toInt).length
    · rw [if_pos y, e2] at z; omega
    · rw [if_neg y, nI_toInt (by omega)]; omega
theorem gm_i {lo hi : Int} {i : Int32} (h1 : lo ≤ i.toInt) (h2 : i.toInt ≤ hi) : gam (fun _ => 0) (0, lo, hi) (.int i) := ⟨i, rfl, h1, h2⟩
theorem qj_pc {ac : AC} {m m' : MM} {as : List Value} {r : Option Value} {Q : Int64 → MM → Prop} (h : PC TYg ac m as r m') (hI : ac.2.2.1.all (fun o => isJ o.1) = true) (hQ : ∀ x, Q x m') : qj Q r m' := by
  obtain ⟨p1, p2, p3, o, ho, oo1, oo2⟩ := h
  have hi := List.all_eq_true.mp hI o ho
  cases r with
  | none =>
    have e9 : o.1.1 = 9 := oo1
    unfold isJ at hi
    rw [e9] at hi
    cases hi
  | some x =>
    obtain ⟨n9, g⟩ := oo1
    obtain ⟨i, rfl⟩ := gam_long hi g
    exact hQ i
theorem qi_pc {ac : AC} {m m' : MM} {as : List Value} {r : Option Value} {Q : Int32 → MM → Prop} (h : PC TYg ac m as r m') (hI : ac.2.2.1.all (fun o => isI o.1) = true) (hQ : ∀ x, Q x m') : qi Q r m' := by
  obtain ⟨x, rfl⟩ := PC_int h hI
  exact hQ x
theorem sf_cj {c : Nat × Nat} {μ : MI} {ac : AC} (h : SafeC TYg c μ ac) (hI : ac.2.2.1.all (fun o => isJ o.1) = true) {as : List Value} {m : MM} (hF : FA (fun _ => 0) ac.1 as) (hM : Mok TYg m) (hc : m.2.2 = c) (hp : ∀ q ∈ ac.2.2.2.2, q.2.1 ≤ (gI m q.1.1 q.1.2).toInt ∧ (gI m q.1.1 q.1.2).toInt ≤ q.2.2) : CJ ac.2.1 μ as m (fun _ m' => St ac.2.2.2.1 m m') :=
  At.mono (h as m hF hM hc hp) (fun r m' hP => qj_pc hP hI (fun _ => hP.st))
theorem gm_l {l : Int64} : gam (fun _ => 0) (8, 0, 0) (.long l) := ⟨l, rfl⟩
def acTk336 : AC := ([(2, 6, 0)], 11, [((8, 0, 0), [], [])], [], [])
set_option maxRecDepth 100000 in
set_option maxHeartbeats 8000000 in
theorem f_takes_336 {m : MM} {wy k d : Int32} (hM : Mok TYg m) (h : SB 336 m) (hc : m.2.2 = (336, 720)) (hF : FM (vw m) m) : CJ 11 mX6_takes [.ref 6, .int wy, .int k, .int d] m (fun _ m' => FmP m m') := by
  obtain ⟨ff, g, c⟩ := m
  obtain rfl : c = (336, 720) := hc
  have e0 : (0 : Int32).toInt = 0 := rfl
  refine At.gs okX6_takes 60 ?_
  (conv => whnf)
  refine ⟨10, by decide, _, r_gather_336 hM h rfl hF, ?_⟩
  rintro r m1 hq
  obtain ⟨P1, A1⟩ := ga_of hM hF hq
  have hc1 : m1.2.2 = (336, 720) := P1.1.2.1
  obtain ⟨f1, g1, c1⟩ := m1
  obtain rfl : c1 = (336, 720) := hc1
  (conv => whnf)
  refine And.intro (fun q => ?_) (fun q => ?_)
  case refine_2 =>
    exact P1
  have q : 0 ≤ r := q
  rw [le_i, e0] at q
  obtain ⟨hA, h200⟩ := A1 (by omega)
  (conv => whnf)
  dsimp only
  (conv => whnf)
  refine ⟨4, by decide, _, SafeC.ci (sfX0_missing cA (Or.inl rfl) _ (List.mem_of_getElem? (i := 2) rfl)) (by decide) ⟨rfl, top_in, trivial⟩ P1.1.1 rfl noPre, ?_⟩
  intro mi m2 hP2
  have P2 : FmP (ff, g, (336, 720)) m2 := P1.sc (W := [49864]) hP2.st (by decide) (by decide)
  have hc2 : m2.2.2 = (336, 720) := P2.1.2.1
  clear hP2
  obtain ⟨f2, g2, c2⟩ := m2
  obtain rfl : c2 = (336, 720) := hc2
  (conv => whnf)
  refine And.intro rfl ?_
  exact At.mono (loop_of (Ty := TYg) (c := cA) (ac := acTk336) (as := []) (ann := [(37, [(2, 6, 0), (0, 0, 1), (0, 2, 6), (0, 0, 400), (0, 0, 200), (0, -2147483648, 2147483647), (8, 0, 0), (4, 0, 0), (0, 0, 200)], [(0, 8, 0, 4294967296)])]) (fuel := 600) okX6_takes (snX6_takes _ _ cA (Or.inl rfl)) (List.forall_mem_cons.mpr ⟨⟨_, _, rfl⟩, (fun q hq => by cases hq)⟩) (by decide +kernel) (37, [(2, 6, 0), (0, 0, 1), (0, 2, 6), (0, 0, 400), (0, 0, 200), (0, -2147483648, 2147483647), (8, 0, 0), (4, 0, 0), (0, 0, 200)], [(0, 8, 0, 4294967296)]) (List.mem_cons_self) rfl ⟨rfl, gm_i hA.1.1 hA.1.2, gm_i hA.2.1.1 hA.2.1.2, gm_i hA.2.2.1 hA.2.2.2, gm_i (by omega) h200, top_in, gm_l, trivial, gm_i (by decide) (by decide), trivial⟩ P2.1.1 rfl) (fun r3 m3 hP3 => qj_pc hP3 (by decide) (fun x => P2.sc (W := []) hP3.st (by decide) (by decide)))
def acTk720 : AC := ([(2, 6, 0)], 11, [((8, 0, 0), [], [])], [], [])
set_option maxRecDepth 100000 in
set_option maxHeartbeats 8000000 in
theorem f_takes_720 {m : MM} {wy k d : Int32} (hM : Mok TYg m) (h : SB 720 m) (hc : m.2.2 = (720, 336)) (hF : FM (vw m) m) : CJ 11 mX6_takes [.ref 6, .int wy, .int k, .int d] m (fun _ m' => FmP m m') := by
  obtain ⟨ff, g, c⟩ := m
  obtain rfl : c = (720, 336) := hc
  have e0 : (0 : Int32).toInt = 0 := rfl
  refine At.gs okX6_takes 60 ?_
  (conv => whnf)
  refine ⟨10, by decide, _, r_gather_720 hM h rfl hF, ?_⟩
  rintro r m1 hq
  obtain ⟨P1, A1⟩ := ga_of hM hF hq
  have hc1 : m1.2.2 = (720, 336) := P1.1.2.1
  obtain ⟨f1, g1, c1⟩ := m1
  obtain rfl : c1 = (720, 336) := hc1
  (conv => whnf)
  refine And.intro (fun q => ?_) (fun q => ?_)
  case refine_2 =>
    exact P1
  have q : 0 ≤ r := q
  rw [le_i, e0] at q
  obtain ⟨hA, h200⟩ := A1 (by omega)
  (conv => whnf)
  dsimp only
  (conv => whnf)
  refine ⟨4, by decide, _, SafeC.ci (sfX0_missing cB (Or.inr rfl) _ (List.mem_of_getElem? (i := 3) rfl)) (by decide) ⟨rfl, top_in, trivial⟩ P1.1.1 rfl noPre, ?_⟩
  intro mi m2 hP2
  have P2 : FmP (ff, g, (720, 336)) m2 := P1.sc (W := [50248]) hP2.st (by decide) (by decide)
  have hc2 : m2.2.2 = (720, 336) := P2.1.2.1
  clear hP2
  obtain ⟨f2, g2, c2⟩ := m2
  obtain rfl : c2 = (720, 336) := hc2
  (conv => whnf)
  refine And.intro rfl ?_
  exact At.mono (loop_of (Ty := TYg) (c := cB) (ac := acTk720) (as := []) (ann := [(37, [(2, 6, 0), (0, 0, 1), (0, 2, 6), (0, 0, 400), (0, 0, 200), (0, -2147483648, 2147483647), (8, 0, 0), (4, 0, 0), (0, 0, 200)], [(0, 8, 0, 4294967296)])]) (fuel := 600) okX6_takes (snX6_takes _ _ cB (Or.inr rfl)) (List.forall_mem_cons.mpr ⟨⟨_, _, rfl⟩, (fun q hq => by cases hq)⟩) (by decide +kernel) (37, [(2, 6, 0), (0, 0, 1), (0, 2, 6), (0, 0, 400), (0, 0, 200), (0, -2147483648, 2147483647), (8, 0, 0), (4, 0, 0), (0, 0, 200)], [(0, 8, 0, 4294967296)]) (List.mem_cons_self) rfl ⟨rfl, gm_i hA.1.1 hA.1.2, gm_i hA.2.1.1 hA.2.1.2, gm_i hA.2.2.1 hA.2.2.2, gm_i (by omega) h200, top_in, gm_l, trivial, gm_i (by decide) (by decide), trivial⟩ P2.1.1 rfl) (fun r3 m3 hP3 => qj_pc hP3 (by decide) (fun x => P2.sc (W := []) hP3.st (by decide) (by decide)))
set_option maxRecDepth 100000 in
set_option maxHeartbeats 8000000 in
theorem f_signs_336 {m : MM} {f wy k d : Int32} (hM : Mok TYg m) (h : SB 336 m) (hc : m.2.2 = (336, 720)) (hF : FM (vw m) m) : CI 11 mX6_signs [.ref 6, .int f, .int wy, .int k, .int d] m (fun _ m' => FmP m m') := by
  obtain ⟨ff, g, c⟩ := m
  obtain rfl : c = (336, 720) := hc
  have e0 : (0 : Int32).toInt = 0 := rfl
  have n12 : (gI (ff, g, (336, 720)) 418 1).toInt ≤ 12 := (hM.1 418 1).2
  refine At.gs okX6_signs 80 ?_
  (conv => whnf)
  refine ⟨1, by decide, _, r_has_418, ?_⟩
  rintro rh mh ⟨hmm, hr⟩; have hmm := hmm.symm; subst hmm
  (conv => whnf)
  refine And.intro (fun qh => ?_) (fun qh => ?_)
  case refine_2 =>
    exact FmP.rf hM hF
  rcases hr with ⟨y1, y2⟩ | ⟨y1, y2⟩
  case inr => exact absurd y2 qh
  (conv => whnf)
  refine ⟨10, by decide, _, r_gather_336 hM h rfl hF, ?_⟩
  rintro r m1 hq
  obtain ⟨P1, A1⟩ := ga_of hM hF hq
  have hc1 : m1.2.2 = (336, 720) := P1.1.2.1
  obtain ⟨f1, g1, c1⟩ := m1
  obtain rfl : c1 = (336, 720) := hc1
  (conv => whnf)
  refine And.intro (fun q => ?_) (fun q => ?_)
  case refine_2 =>
    (conv => whnf)
    exact P1
  have q : 0 ≤ r := q
  rw [le_i, e0] at q
  obtain ⟨hA, h200⟩ := A1 (by omega)
  (conv => whnf)
  dsimp only
  (conv => whnf)
  refine ⟨4, by decide, _, SafeC.ci (sfX0_missing cA (Or.inl rfl) _ (List.mem_of_getElem? (i := 2) rfl)) (by decide) ⟨rfl, top_in, trivial⟩ P1.1.1 rfl noPre, ?_⟩
  intro mi m2 hP2
  have P2 : FmP (ff, g, (336, 720)) m2 := P1.sc (W := [49864]) hP2.st (by decide) (by decide)
  have hc2 : m2.2.2 = (336, 720) := P2.1.2.1
  clear hP2
  obtain ⟨f2, g2, c2⟩ := m2
  obtain rfl : c2 = (336, 720) := hc2
  (conv => whnf)
  refine ⟨4, by decide, _, SafeC.ci (sfX6_signBits cA (Or.inl rfl) _ (List.mem_of_getElem? (i := 1) rfl)) (by decide) ⟨rfl, gm_i y1.1 (by omega), top_in, gm_i (by omega) h200, trivial⟩ P2.1.1 rfl noPre, ?_⟩
  intro r3 m3 hP3
  exact P2.sc (W := []) hP3.st (by decide) (by decide)
set_option maxRecDepth 100000 in
set_option maxHeartbeats 8000000 in
theorem f_signs_720 {m : MM} {f wy k d : Int32} (hM : Mok TYg m) (h : SB 720 m) (hc : m.2.2 = (720, 336)) (hF : FM (vw m) m) : CI 11 mX6_signs [.ref 6, .int f, .int wy, .int k, .int d] m (fun _ m' => FmP m m') := by
  obtain ⟨ff, g, c⟩ := m
  obtain rfl : c = (720, 336) := hc
  have e0 : (0 : Int32).toInt = 0 := rfl
  have n12 : (gI (ff, g, (720, 336)) 802 1).toInt ≤ 12 := (hM.1 802 1).2
  refine At.gs okX6_signs 80 ?_
  (conv => whnf)
  refine ⟨1, by decide, _, r_has_802, ?_⟩
  rintro rh mh ⟨hmm, hr⟩; have hmm := hmm.symm; subst hmm
  (conv => whnf)
  refine And.intro (fun qh => ?_) (fun qh => ?_)
  case refine_2 =>
    exact FmP.rf hM hF
  rcases hr with ⟨y1, y2⟩ | ⟨y1, y2⟩
  case inr => exact absurd y2 qh
  (conv => whnf)
  refine ⟨10, by decide, _, r_gather_720 hM h rfl hF, ?_⟩
  rintro r m1 hq
  obtain ⟨P1, A1⟩ := ga_of hM hF hq
  have hc1 : m1.2.2 = (720, 336) := P1.1.2.1
  obtain ⟨f1, g1, c1⟩ := m1
  obtain rfl : c1 = (720, 336) := hc1
  (conv => whnf)
  refine And.intro (fun q => ?_) (fun q => ?_)
  case refine_2 =>
    (conv => whnf)
    exact P1
  have q : 0 ≤ r := q
  rw [le_i, e0] at q
  obtain ⟨hA, h200⟩ := A1 (by omega)
  (conv => whnf)
  dsimp only
  (conv => whnf)
  refine ⟨4, by decide, _, SafeC.ci (sfX0_missing cB (Or.inr rfl) _ (List.mem_of_getElem? (i := 3) rfl)) (by decide) ⟨rfl, top_in, trivial⟩ P1.1.1 rfl noPre, ?_⟩
  intro mi m2 hP2
  have P2 : FmP (ff, g, (720, 336)) m2 := P1.sc (W := [50248]) hP2.st (by decide) (by decide)
  have hc2 : m2.2.2 = (720, 336) := P2.1.2.1
  clear hP2
  obtain ⟨f2, g2, c2⟩ := m2
  obtain rfl : c2 = (720, 336) := hc2
  (conv => whnf)
  refine ⟨4, by decide, _, SafeC.ci (sfX6_signBits cB (Or.inr rfl) _ (List.mem_of_getElem? (i := 1) rfl)) (by decide) ⟨rfl, gm_i y1.1 (by omega), top_in, gm_i (by omega) h200, trivial⟩ P2.1.1 rfl noPre, ?_⟩
  intro r3 m3 hP3
  exact P2.sc (W := []) hP3.st (by decide) (by decide)
def acKn336 : AC := ([(2, 6, 0)], 11, [((0, -2147483648, 2147483647), [], [])], [], [])
set_option maxRecDepth 100000 in
set_option maxHeartbeats 8000000 in
theorem f_knew_336 {m : MM} {sg wy k d wt : Int32} (hM : Mok TYg m) (h : SB 336 m) (hc : m.2.2 = (336, 720)) (hF : FM (vw m) m) : CI 11 mX6_knew [.ref 6, .int sg, .int wy, .int k, .int d, .int wt] m (fun _ m' => FmP m m') := by
  obtain ⟨ff, g, c⟩ := m
  obtain rfl : c = (336, 720) := hc
  have e0 : (0 : Int32).toInt = 0 := rfl
  have e1 : (1 : Int32).toInt = 1 := rfl
  have e15 : (15 : Int32).toInt = 15 := rfl
  refine At.gs okX6_knew 100 ?_
  (conv => whnf)
  refine ⟨1, by decide, _, r_within, ?_⟩
  rintro w1 mw ⟨hmm, hw1⟩; have hmm := hmm.symm; subst hmm
  rw [e1, e15] at hw1
  (conv => whnf)
  refine And.intro (fun z1 => ?_) (fun z1 => ?_)
  · exact FmP.rf hM hF
  rcases hw1 with ⟨y1, y2⟩ | ⟨y1, y2⟩
  case inr => exact absurd y2 z1
  (conv => whnf)
  refine ⟨1, by decide, _, r_within, ?_⟩
  rintro w2 mw ⟨hmm, hw2⟩; have hmm := hmm.symm; subst hmm
  rw [e0, e1] at hw2
  (conv => whnf)
  refine And.intro (fun z2 => ?_) (fun z2 => ?_)
  case refine_2 =>
    exact FmP.rf hM hF
  rcases hw2 with ⟨y3, y4⟩ | ⟨y3, y4⟩
  case inr => exact absurd y4 z2
  (conv => whnf)
  refine ⟨10, by decide, _, r_gather_336 hM h rfl hF, ?_⟩
  rintro r m1 hq
  obtain ⟨P1, A1⟩ := ga_of hM hF hq
  have hc1 : m1.2.2 = (336, 720) := P1.1.2.1
  obtain ⟨f1, g1, c1⟩ := m1
  obtain rfl : c1 = (336, 720) := hc1
  (conv => whnf)
  refine And.intro (fun q => ?_) (fun q => ?_)
  case refine_2 =>
    exact P1
  have q : 0 ≤ r := q
  rw [le_i, e0] at q
  obtain ⟨hA, h200⟩ := A1 (by omega)
  (conv => whnf)
  dsimp only
  (conv => whnf)
  refine ⟨4, by decide, _, SafeC.ci (sfX0_missing cA (Or.inl rfl) _ (List.mem_of_getElem? (i := 2) rfl)) (by decide) ⟨rfl, top_in, trivial⟩ P1.1.1 rfl noPre, ?_⟩
  intro mi m2 hP2
  have P2 : FmP (ff, g, (336, 720)) m2 := P1.sc (W := [49864]) hP2.st (by decide) (by decide)
  have hc2 : m2.2.2 = (336, 720) := P2.1.2.1
  clear hP2
  obtain ⟨f2, g2, c2⟩ := m2
  obtain rfl : c2 = (336, 720) := hc2
  (conv => whnf)
  refine And.intro rfl ?_
  exact At.mono (loop_of (Ty := TYg) (c := cA) (ac := acKn336) (as := []) (ann := [(59, [(2, 6, 0), (0, 1, 15), (0, 0, 1), (0, 2, 6), (0, 0, 400), (0, 0, 1), (0, 0, 200), (0, -2147483648, 2147483647), (0, -2147483648, 2147483647), (0, 0, 12), (4, 0, 0), (4, 0, 0)], [(0, 9, 0, 4294967296)])]) (fuel := 600) okX6_knew (snX6_knew _ _ cA (Or.inl rfl)) (List.forall_mem_cons.mpr ⟨⟨_, _, rfl⟩, (fun q hq => by cases hq)⟩) (by decide +kernel) (59, [(2, 6, 0), (0, 1, 15), (0, 0, 1), (0, 2, 6), (0, 0, 400), (0, 0, 1), (0, 0, 200), (0, -2147483648, 2147483647), (0, -2147483648, 2147483647), (0, 0, 12), (4, 0, 0), (4, 0, 0)], [(0, 9, 0, 4294967296)]) (List.mem_cons_self) rfl ⟨rfl, gm_i y1.1 y1.2, gm_i hA.1.1 hA.1.2, gm_i hA.2.1.1 hA.2.1.2, gm_i hA.2.2.1 hA.2.2.2, gm_i y3.1 y3.2, gm_i (by omega) h200, top_in, top_in, gm_i (by decide) (by decide), trivial, trivial, trivial⟩ P2.1.1 rfl) (fun r3 m3 hP3 => qi_pc hP3 (by decide) (fun x => P2.sc (W := []) hP3.st (by decide) (by decide)))
def acKn720 : AC := ([(2, 6, 0)], 11, [((0, -2147483648, 2147483647), [], [])], [], [])
set_option maxRecDepth 100000 in
set_option maxHeartbeats 8000000 in
theorem f_knew_720 {m : MM} {sg wy k d wt : Int32} (hM : Mok TYg m) (h : SB 720 m) (hc : m.2.2 = (720, 336)) (hF : FM (vw m) m) : CI 11 mX6_knew [.ref 6, .int sg, .int wy, .int k, .int d, .int wt] m (fun _ m' => FmP m m') := by
  obtain ⟨ff, g, c⟩ := m
  obtain rfl : c = (720, 336) := hc
  have e0 : (0 : Int32).toInt = 0 := rfl
  have e1 : (1 : Int32).toInt = 1 := rfl
  have e15 : (15 : Int32).toInt = 15 := rfl
  refine At.gs okX6_knew 100 ?_
  (conv => whnf)
  refine ⟨1, by decide, _, r_within, ?_⟩
  rintro w1 mw ⟨hmm, hw1⟩; have hmm := hmm.symm; subst hmm
  rw [e1, e15] at hw1
  (conv => whnf)
  refine And.intro (fun z1 => ?_) (fun z1 => ?_)
  · exact FmP.rf hM hF
  rcases hw1 with ⟨y1, y2⟩ | ⟨y1, y2⟩
  case inr => exact absurd y2 z1
  (conv => whnf)
  refine ⟨1, by decide, _, r_within, ?_⟩
  rintro w2 mw ⟨hmm, hw2⟩; have hmm := hmm.symm; subst hmm
  rw [e0, e1] at hw2
  (conv => whnf)
  refine And.intro (fun z2 => ?_) (fun z2 => ?_)
  case refine_2 =>
    exact FmP.rf hM hF
  rcases hw2 with ⟨y3, y4⟩ | ⟨y3, y4⟩
  case inr => exact absurd y4 z2
  (conv => whnf)
  refine ⟨10, by decide, _, r_gather_720 hM h rfl hF, ?_⟩
  rintro r m1 hq
  obtain ⟨P1, A1⟩ := ga_of hM hF hq
  have hc1 : m1.2.2 = (720, 336) := P1.1.2.1
  obtain ⟨f1, g1, c1⟩ := m1
  obtain rfl : c1 = (720, 336) := hc1
  (conv => whnf)
  refine And.intro (fun q => ?_) (fun q => ?_)
  case refine_2 =>
    exact P1
  have q : 0 ≤ r := q
  rw [le_i, e0] at q
  obtain ⟨hA, h200⟩ := A1 (by omega)
  (conv => whnf)
  dsimp only
  (conv => whnf)
  refine ⟨4, by decide, _, SafeC.ci (sfX0_missing cB (Or.inr rfl) _ (List.mem_of_getElem? (i := 3) rfl)) (by decide) ⟨rfl, top_in, trivial⟩ P1.1.1 rfl noPre, ?_⟩
  intro mi m2 hP2
  have P2 : FmP (ff, g, (720, 336)) m2 := P1.sc (W := [50248]) hP2.st (by decide) (by decide)
  have hc2 : m2.2.2 = (720, 336) := P2.1.2.1
  clear hP2
  obtain ⟨f2, g2, c2⟩ := m2
  obtain rfl : c2 = (720, 336) := hc2
  (conv => whnf)
  refine And.intro rfl ?_
  exact At.mono (loop_of (Ty := TYg) (c := cB) (ac := acKn720) (as := []) (ann := [(59, [(2, 6, 0), (0, 1, 15), (0, 0, 1), (0, 2, 6), (0, 0, 400), (0, 0, 1), (0, 0, 200), (0, -2147483648, 2147483647), (0, -2147483648, 2147483647), (0, 0, 12), (4, 0, 0), (4, 0, 0)], [(0, 9, 0, 4294967296)])]) (fuel := 600) okX6_knew (snX6_knew _ _ cB (Or.inr rfl)) (List.forall_mem_cons.mpr ⟨⟨_, _, rfl⟩, (fun q hq => by cases hq)⟩) (by decide +kernel) (59, [(2, 6, 0), (0, 1, 15), (0, 0, 1), (0, 2, 6), (0, 0, 400), (0, 0, 1), (0, 0, 200), (0, -2147483648, 2147483647), (0, -2147483648, 2147483647), (0, 0, 12), (4, 0, 0), (4, 0, 0)], [(0, 9, 0, 4294967296)]) (List.mem_cons_self) rfl ⟨rfl, gm_i y1.1 y1.2, gm_i hA.1.1 hA.1.2, gm_i hA.2.1.1 hA.2.1.2, gm_i hA.2.2.1 hA.2.2.2, gm_i y3.1 y3.2, gm_i (by omega) h200, top_in, top_in, gm_i (by decide) (by decide), trivial, trivial, trivial⟩ P2.1.1 rfl) (fun r3 m3 hP3 => qi_pc hP3 (by decide) (fun x => P2.sc (W := []) hP3.st (by decide) (by decide)))
def acFe336 : AC := ([(2, 6, 0)], 11, [((0, -2147483648, 2147483647), [], [])], [], [])
set_option maxRecDepth 100000 in
set_option maxHeartbeats 8000000 in
theorem f_fewest_336 {m : MM} {wy k d : Int32} {t : Int64} (hM : Mok TYg m) (h : SB 336 m) (hc : m.2.2 = (336, 720)) (hF : FM (vw m) m) : CI 11 mX6_fewest [.ref 6, .int wy, .int k, .int d, .long t] m (fun _ m' => FmP m m') := by
  obtain ⟨ff, g, c⟩ := m
  obtain rfl : c = (336, 720) := hc
  have e0 : (0 : Int32).toInt = 0 := rfl
  refine At.gs okX6_fewest 100 ?_
  (conv => whnf)
  refine And.intro (fun z1 => ?_) (fun z1 => ?_)
  case refine_2 =>
    exact FmP.rf hM hF
  (conv => whnf)
  refine ⟨10, by decide, _, r_gather_336 hM h rfl hF, ?_⟩
  rintro r m1 hq
  obtain ⟨P1, A1⟩ := ga_of hM hF hq
  have hc1 : m1.2.2 = (336, 720) := P1.1.2.1
  obtain ⟨f1, g1, c1⟩ := m1
  obtain rfl : c1 = (336, 720) := hc1
  (conv => whnf)
  refine And.intro (fun q => ?_) (fun q => ?_)
  case refine_2 =>
    exact P1
  have q : 0 ≤ r := q
  rw [le_i, e0] at q
  obtain ⟨hA, h200⟩ := A1 (by omega)
  (conv => whnf)
  refine ⟨5, by decide, _, SafeC.ci (sfX6_keepWorthy cA (Or.inl rfl) ([(2, 6, 0), (0, 0, 200)], 5, [((0, 0, 200), [], [])], [49864, 50248, 820312, 820328], []) (List.mem_of_getElem? (i := 0) rfl)) (by decide) ⟨rfl, gm_i (by omega) h200, trivial⟩ P1.1.1 rfl noPre, ?_⟩
  intro mi m2 hP2
  have P2 : FmP (ff, g, (336, 720)) m2 := P1.sc (W := [49864, 50248, 820312, 820328]) hP2.st (by decide) (by decide)
  have hc2 : m2.2.2 = (336, 720) := P2.1.2.1
  obtain ⟨oo, ho, ⟨-, ho1⟩, -⟩ := hP2.2.2.2
  rw [List.mem_singleton.mp ho] at ho1
  obtain ⟨mi2, hmi, k0, k1⟩ := ho1
  obtain rfl : mi = mi2 := by injection hmi
  have n12 : 0 ≤ (gI m2 418 1).toInt ∧ (gI m2 418 1).toInt ≤ 12 := P2.1.1.1 418 1
  clear hP2
  obtain ⟨f2, g2, c2⟩ := m2
  obtain rfl : c2 = (336, 720) := hc2
  (conv => whnf)
  dsimp only
  (conv => whnf)
  refine And.intro rfl ?_
  exact At.mono (loop_of (Ty := TYg) (c := cA) (ac := acFe336) (as := []) (ann := [(49, [(2, 6, 0), (0, 0, 1), (0, 2, 6), (0, 0, 400), (8, 0, 0), (4, 0, 0), (0, 0, 200), (0, 0, 200), (0, 0, 12), (0, 0, 12), (4, 0, 0)], [(0, 9, 0, 4294967296), (3, 0, 0, 2)]), (59, [(2, 6, 0), (0, 0, 1), (0, 2, 6), (0, 0, 400), (8, 0, 0), (4, 0, 0), (0, 0, 200), (0, 0, 200), (0, 1, 12), (0, 0, 11), (0, 0, 2147483647)], [(0, 9, 0, 4294967296), (3, 0, 0, 1), (0, 10, 0, 4294967296)])]) (fuel := 600) okX6_fewest (snX6_fewest _ _ cA (Or.inl rfl)) (List.forall_mem_cons.mpr ⟨⟨_, _, rfl⟩, List.forall_mem_cons.mpr ⟨⟨_, _, rfl⟩, (fun q hq => by cases hq)⟩⟩) (by decide +kernel) (49, [(2, 6, 0), (0, 0, 1), (0, 2, 6), (0, 0, 400), (8, 0, 0), (4, 0, 0), (0, 0, 200), (0, 0, 200), (0, 0, 12), (0, 0, 12), (4, 0, 0)], [(0, 9, 0, 4294967296), (3, 0, 0, 2)]) (List.mem_cons_self) rfl ⟨rfl, gm_i hA.1.1 hA.1.2, gm_i hA.2.1.1 hA.2.1.2, gm_i hA.2.2.1 hA.2.2.2, gm_l, trivial, gm_i (by omega) h200, gm_i k0 k1, gm_i n12.1 n12.2, gm_i (by decide) (by decide), trivial, trivial⟩ P2.1.1 rfl) (fun r3 m3 hP3 => qi_pc hP3 (by decide) (fun x => P2.sc (W := []) hP3.st (by decide) (by decide)))
def acFe720 : AC := ([(2, 6, 0)], 11, [((0, -2147483648, 2147483647), [], [])], [], [])
set_option maxRecDepth 100000 in
set_option maxHeartbeats 8000000 in
theorem f_fewest_720 {m : MM} {wy k d : Int32} {t : Int64} (hM : Mok TYg m) (h : SB 720 m) (hc : m.2.2 = (720, 336)) (hF : FM (vw m) m) : CI 11 mX6_fewest [.ref 6, .int wy, .int k, .int d, .long t] m (fun _ m' => FmP m m') := by
  obtain ⟨ff, g, c⟩ := m
  obtain rfl : c = (720, 336) := hc
  have e0 : (0 : Int32).toInt = 0 := rfl
  refine At.gs okX6_fewest 100 ?_
  (conv => whnf)
  refine And.intro (fun z1 => ?_) (fun z1 => ?_)
  case refine_2 =>
    exact FmP.rf hM hF
  (conv => whnf)
  refine ⟨10, by decide, _, r_gather_720 hM h rfl hF, ?_⟩
  rintro r m1 hq
  obtain ⟨P1, A1⟩ := ga_of hM hF hq
  have hc1 : m1.2.2 = (720, 336) := P1.1.2.1
  obtain ⟨f1, g1, c1⟩ := m1
  obtain rfl : c1 = (720, 336) := hc1
  (conv => whnf)
  refine And.intro (fun q => ?_) (fun q => ?_)
  case refine_2 =>
    exact P1
  have q : 0 ≤ r := q
  rw [le_i, e0] at q
  obtain ⟨hA, h200⟩ := A1 (by omega)
  (conv => whnf)
  refine ⟨5, by decide, _, SafeC.ci (sfX6_keepWorthy cB (Or.inr rfl) ([(2, 6, 0), (0, 0, 200)], 5, [((0, 0, 200), [], [])], [49864, 50248, 820312, 820328], []) (List.mem_of_getElem? (i := 0) rfl)) (by decide) ⟨rfl, gm_i (by omega) h200, trivial⟩ P1.1.1 rfl noPre, ?_⟩
  intro mi m2 hP2
  have P2 : FmP (ff, g, (720, 336)) m2 := P1.sc (W := [49864, 50248, 820312, 820328]) hP2.st (by decide) (by decide)
  have hc2 : m2.2.2 = (720, 336) := P2.1.2.1
  obtain ⟨oo, ho, ⟨-, ho1⟩, -⟩ := hP2.2.2.2
  rw [List.mem_singleton.mp ho] at ho1
  obtain ⟨mi2, hmi, k0, k1⟩ := ho1
  obtain rfl : mi = mi2 := by injection hmi
  have n12 : 0 ≤ (gI m2 802 1).toInt ∧ (gI m2 802 1).toInt ≤ 12 := P2.1.1.1 802 1
  clear hP2
  obtain ⟨f2, g2, c2⟩ := m2
  obtain rfl : c2 = (720, 336) := hc2
  (conv => whnf)
  dsimp only
  (conv => whnf)
  refine And.intro rfl ?_
  exact At.mono (loop_of (Ty := TYg) (c := cB) (ac := acFe720) (as := []) (ann := [(49, [(2, 6, 0), (0, 0, 1), (0, 2, 6), (0, 0, 400), (8, 0, 0), (4, 0, 0), (0, 0, 200), (0, 0, 200), (0, 0, 12), (0, 0, 12), (4, 0, 0)], [(0, 9, 0, 4294967296), (3, 0, 0, 2)]), (59, [(2, 6, 0), (0, 0, 1), (0, 2, 6), (0, 0, 400), (8, 0, 0), (4, 0, 0), (0, 0, 200), (0, 0, 200), (0, 1, 12), (0, 0, 11), (0, 0, 2147483647)], [(0, 9, 0, 4294967296), (3, 0, 0, 1), (0, 10, 0, 4294967296)])]) (fuel := 600) okX6_fewest (snX6_fewest _ _ cB (Or.inr rfl)) (List.forall_mem_cons.mpr ⟨⟨_, _, rfl⟩, List.forall_mem_cons.mpr ⟨⟨_, _, rfl⟩, (fun q hq => by cases hq)⟩⟩) (by decide +kernel) (49, [(2, 6, 0), (0, 0, 1), (0, 2, 6), (0, 0, 400), (8, 0, 0), (4, 0, 0), (0, 0, 200), (0, 0, 200), (0, 0, 12), (0, 0, 12), (4, 0, 0)], [(0, 9, 0, 4294967296), (3, 0, 0, 2)]) (List.mem_cons_self) rfl ⟨rfl, gm_i hA.1.1 hA.1.2, gm_i hA.2.1.1 hA.2.1.2, gm_i hA.2.2.1 hA.2.2.2, gm_l, trivial, gm_i (by omega) h200, gm_i k0 k1, gm_i n12.1 n12.2, gm_i (by decide) (by decide), trivial, trivial⟩ P2.1.1 rfl) (fun r3 m3 hP3 => qi_pc hP3 (by decide) (fun x => P2.sc (W := []) hP3.st (by decide) (by decide)))
set_option maxRecDepth 100000 in
set_option maxHeartbeats 8000000 in
theorem f_starve_336 {m : MM} {wy k d pu wt : Int32} (hM : Mok TYg m) (h : SB 336 m) (hc : m.2.2 = (336, 720)) (hF : FM (vw m) m) : CJ 11 mX6_starve [.ref 6, .int wy, .int k, .int d, .int pu, .int wt] m (fun _ m' => FmP m m') := by
  obtain ⟨ff, g, c⟩ := m
  obtain rfl : c = (336, 720) := hc
  have e0 : (0 : Int32).toInt = 0 := rfl
  have e2 : (2 : Int32).toInt = 2 := rfl
  refine At.gs okX6_starve 120 ?_
  (conv => whnf)
  refine And.intro (fun z0 => ?_) (fun z0 => ?_)
  · exact FmP.rf hM hF
  rw [lt_i, e0] at z0
  (conv => whnf)
  refine ⟨1, by decide, _, r_within, ?_⟩
  rintro w1 mw ⟨hmm, hw1⟩; have hmm := hmm.symm; subst hmm
  rw [e0, e2] at hw1
  (conv => whnf)
  refine And.intro (fun z1 => ?_) (fun z1 => ?_)
  case refine_2 =>
    exact FmP.rf hM hF
  (conv => whnf)
  refine ⟨10, by decide, _, r_gather_336 hM h rfl hF, ?_⟩
  rintro r m1 hq
  obtain ⟨P1, A1⟩ := ga_of hM hF hq
  have hc1 : m1.2.2 = (336, 720) := P1.1.2.1
  obtain ⟨f1, g1, c1⟩ := m1
  obtain rfl : c1 = (336, 720) := hc1
  (conv => whnf)
  refine And.intro (fun q => ?_) (fun q => ?_)
  case refine_2 =>
    exact P1
  have q : 0 ≤ r := q
  rw [le_i, e0] at q
  obtain ⟨hA, h200⟩ := A1 (by omega)
  (conv => whnf)
  refine ⟨5, by decide, _, SafeC.cv (sfX6_weighLands cA (Or.inl rfl) ([(2, 6, 0), (0, 0, 200)], 5, [((9, 0, 0), [], [])], [21625, 21640, 49864, 50248], []) (List.mem_of_getElem? (i := 0) rfl)) (by decide) ⟨rfl, gm_i (by omega) h200, trivial⟩ P1.1.1 rfl noPre, ?_⟩
  intro m2 hP2
  have P2 : FmP (ff, g, (336, 720)) m2 := P1.sc (W := [21625, 21640, 49864, 50248]) hP2.st (by decide) (by decide)
  have hc2 : m2.2.2 = (336, 720) := P2.1.2.1
  clear hP2
  (conv => whnf)
  refine ⟨2, by decide, _, SafeC.ci (sfX6_bestLands cA (Or.inl rfl) ([(2, 6, 0), (0, 0, 2147483647)], 2, [((0, 0, 2147483646), [], [])], [], []) (List.mem_of_getElem? (i := 0) rfl)) (by decide) ⟨rfl, gm_i (by omega) (tI_hi _), trivial⟩ P2.1.1 hc2 noPre, ?_⟩
  intro b m3 hP3
  have P3 : FmP (ff, g, (336, 720)) m3 := P2.sc (W := []) hP3.st (by decide) (by decide)
  obtain ⟨oo, ho, ⟨-, ho1⟩, -⟩ := hP3.2.2.2
  rw [List.mem_singleton.mp ho] at ho1
  obtain ⟨b2, hb, k0, k1⟩ := ho1
  obtain rfl : b = b2 := by injection hb
  have hc3 : m3.2.2 = (336, 720) := P3.1.2.1
  clear hP3
  (conv => whnf)
  refine And.intro (fun s0 => ?_) (fun s0 => ?_)
  · exact P3
  refine And.intro (fun s1 => ?_) (fun s1 => ?_)
  · (conv => whnf)
    refine ⟨1, by decide, _, sf_cj (sfX6_takesOutside cA (Or.inl rfl) ([(2, 6, 0), (0, 0, 2147483646)], 1, [((8, 0, 0), [], [])], [], []) (List.mem_of_getElem? (i := 2) rfl)) (by decide) ⟨rfl, gm_i k0 k1, trivial⟩ P3.1.1 hc3 noPre, ?_⟩
    intro l m4 hP4
    exact P3.sc (W := []) hP4 (by decide) (by decide)
  · (conv => whnf)
    refine ⟨1, by decide, _, SafeC.ci (sfX6_burdenInside cA (Or.inl rfl) ([(2, 6, 0), (0, 0, 2147483646)], 1, [((0, -2147483648, 2147483647), [], [])], [], []) (List.mem_of_getElem? (i := 2) rfl)) (by decide) ⟨rfl, gm_i k0 k1, trivial⟩ P3.1.1 hc3 noPre, ?_⟩
    intro l m4 hP4
    exact P3.sc (W := []) hP4.st (by decide) (by decide)
set_option maxRecDepth 100000 in
set_option maxHeartbeats 8000000 in
theorem f_starve_720 {m : MM} {wy k d pu wt : Int32} (hM : Mok TYg m) (h : SB 720 m) (hc : m.2.2 = (720, 336)) (hF : FM (vw m) m) : CJ 11 mX6_starve [.ref 6, .int wy, .int k, .int d, .int pu, .int wt] m (fun _ m' => FmP m m') := by
  obtain ⟨ff, g, c⟩ := m
  obtain rfl : c = (720, 336) := hc
  have e0 : (0 : Int32).toInt = 0 := rfl
  have e2 : (2 : Int32).toInt = 2 := rfl
  refine At.gs okX6_starve 120 ?_
  (conv => whnf)
  refine And.intro (fun z0 => ?_) (fun z0 => ?_)
  · exact FmP.rf hM hF
  rw [lt_i, e0] at z0
  (conv => whnf)
  refine ⟨1, by decide, _, r_within, ?_⟩
  rintro w1 mw ⟨hmm, hw1⟩; have hmm := hmm.symm; subst hmm
  rw [e0, e2] at hw1
  (conv => whnf)
  refine And.intro (fun z1 => ?_) (fun z1 => ?_)
  case refine_2 =>
    exact FmP.rf hM hF
  (conv => whnf)
  refine ⟨10, by decide, _, r_gather_720 hM h rfl hF, ?_⟩
  rintro r m1 hq
  obtain ⟨P1, A1⟩ := ga_of hM hF hq
  have hc1 : m1.2.2 = (720, 336) := P1.1.2.1
  obtain ⟨f1, g1, c1⟩ := m1
  obtain rfl : c1 = (720, 336) := hc1
  (conv => whnf)
  refine And.intro (fun q => ?_) (fun q => ?_)
  case refine_2 =>
    exact P1
  have q : 0 ≤ r := q
  rw [le_i, e0] at q
  obtain ⟨hA, h200⟩ := A1 (by omega)
  (conv => whnf)
  refine ⟨5, by decide, _, SafeC.cv (sfX6_weighLands cB (Or.inr rfl) ([(2, 6, 0), (0, 0, 200)], 5, [((9, 0, 0), [], [])], [21625, 21640, 49864, 50248], []) (List.mem_of_getElem? (i := 0) rfl)) (by decide) ⟨rfl, gm_i (by omega) h200, trivial⟩ P1.1.1 rfl noPre, ?_⟩
  intro m2 hP2
  have P2 : FmP (ff, g, (720, 336)) m2 := P1.sc (W := [21625, 21640, 49864, 50248]) hP2.st (by decide) (by decide)
  have hc2 : m2.2.2 = (720, 336) := P2.1.2.1
  clear hP2
  (conv => whnf)
  refine ⟨2, by decide, _, SafeC.ci (sfX6_bestLands cB (Or.inr rfl) ([(2, 6, 0), (0, 0, 2147483647)], 2, [((0, 0, 2147483646), [], [])], [], []) (List.mem_of_getElem? (i := 0) rfl)) (by decide) ⟨rfl, gm_i (by omega) (tI_hi _), trivial⟩ P2.1.1 hc2 noPre, ?_⟩
  intro b m3 hP3
  have P3 : FmP (ff, g, (720, 336)) m3 := P2.sc (W := []) hP3.st (by decide) (by decide)
  obtain ⟨oo, ho, ⟨-, ho1⟩, -⟩ := hP3.2.2.2
  rw [List.mem_singleton.mp ho] at ho1
  obtain ⟨b2, hb, k0, k1⟩ := ho1
  obtain rfl : b = b2 := by injection hb
  have hc3 : m3.2.2 = (720, 336) := P3.1.2.1
  clear hP3
  (conv => whnf)
  refine And.intro (fun s0 => ?_) (fun s0 => ?_)
  · exact P3
  refine And.intro (fun s1 => ?_) (fun s1 => ?_)
  · (conv => whnf)
    refine ⟨1, by decide, _, sf_cj (sfX6_takesOutside cB (Or.inr rfl) ([(2, 6, 0), (0, 0, 2147483646)], 1, [((8, 0, 0), [], [])], [], []) (List.mem_of_getElem? (i := 2) rfl)) (by decide) ⟨rfl, gm_i k0 k1, trivial⟩ P3.1.1 hc3 noPre, ?_⟩
    intro l m4 hP4
    exact P3.sc (W := []) hP4 (by decide) (by decide)
  · (conv => whnf)
    refine ⟨1, by decide, _, SafeC.ci (sfX6_burdenInside cB (Or.inr rfl) ([(2, 6, 0), (0, 0, 2147483646)], 1, [((0, -2147483648, 2147483647), [], [])], [], []) (List.mem_of_getElem? (i := 2) rfl)) (by decide) ⟨rfl, gm_i k0 k1, trivial⟩ P3.1.1 hc3 noPre, ?_⟩
    intro l m4 hP4
    exact P3.sc (W := []) hP4.st (by decide) (by decide)
def acLu336 : AC := ([(2, 6, 0)], 11, [((0, -2147483648, 2147483647), [], [])], [163944, 163960, 163976, 163992, 164009, 295097, 819273, 819288, 38654705713, 42949673009, 47244640305, 51539607601, 55834574897], [])
set_option maxRecDepth 100000 in
set_option maxHeartbeats 8000000 in
theorem f_luck_336 {m : MM} {wy k d se dr : Int32} (hM : Mok TYg m) (h : SB 336 m) (hc : m.2.2 = (336, 720)) (hF : FM (vw m) m) : CI 11 mX6_luck [.ref 6, .int wy, .int k, .int d, .int se, .int dr] m (fun _ m' => FmP m m') := by
  obtain ⟨ff, g, c⟩ := m
  obtain rfl : c = (336, 720) := hc
  have e0 : (0 : Int32).toInt = 0 := rfl
  have e1 : (1 : Int32).toInt = 1 := rfl
  have e10 : (10 : Int32).toInt = 10 := rfl
  refine At.gs okX6_luck 120 ?_
  (conv => whnf)
  refine And.intro (fun z0 => ?_) (fun z0 => ?_)
  · exact FmP.rf hM hF
  rw [lt_i, e0] at z0
  (conv => whnf)
  refine ⟨1, by decide, _, r_within, ?_⟩
  rintro w1 mw ⟨hmm, hw1⟩; have hmm := hmm.symm; subst hmm
  rw [e1, e10] at hw1
  (conv => whnf)
  refine And.intro (fun z1 => ?_) (fun z1 => ?_)
  case refine_2 =>
    exact FmP.rf hM hF
  rcases hw1 with ⟨y1, y2⟩ | ⟨y1, y2⟩
  case inr => exact absurd y2 z1
  (conv => whnf)
  refine ⟨10, by decide, _, r_gather_336 hM h rfl hF, ?_⟩
  rintro r m1 hq
  obtain ⟨P1, A1⟩ := ga_of hM hF hq
  have hc1 : m1.2.2 = (336, 720) := P1.1.2.1
  obtain ⟨f1, g1, c1⟩ := m1
  obtain rfl : c1 = (336, 720) := hc1
  (conv => whnf)
  refine And.intro (fun q => ?_) (fun q => ?_)
  case refine_2 =>
    exact P1
  have q : 0 ≤ r := q
  rw [le_i, e0] at q
  obtain ⟨hA, h200⟩ := A1 (by omega)
  (conv => whnf)
  refine ⟨1, by decide, _, r_forget, ?_⟩
  rintro m2 hm2
  have S2 : St wAl (ff, g, (336, 720)) (sI (f1, g1, (336, 720)) 49 13 0) := P1.1.fld (a := 49) (k := 13) (v := 0) (by decide) (by decide) (by decide) (fun _ z => by omega)
  rw [← hm2] at S2
  have z2 : gI m2 49 13 = 0 := by rw [hm2, gI_if, if_pos ⟨rfl, rfl⟩]
  have hc2 : m2.2.2 = (336, 720) := S2.2.1
  (conv => whnf)
  refine And.intro rfl ?_
  exact At.mono (loop_of (Ty := TYg) (c := cA) (ac := acLu336) (as := []) (ann := [(53, [(2, 6, 0), (0, 0, 1), (0, 2, 6), (0, 0, 400), (0, 0, 2147483647), (0, 1, 10), (0, 0, 200), (8, 0, 0), (4, 0, 0), (0, -2147483648, 2147483647), (0, 0, 10), (4, 0, 0)], [(0, 10, 0, 4294967296)])]) (fuel := 600) okX6_luck (snX6_luck _ _ cA (Or.inl rfl)) (List.forall_mem_cons.mpr ⟨⟨_, _, rfl⟩, (fun q hq => by cases hq)⟩) (by decide +kernel) (53, [(2, 6, 0), (0, 0, 1), (0, 2, 6), (0, 0, 400), (0, 0, 2147483647), (0, 1, 10), (0, 0, 200), (8, 0, 0), (4, 0, 0), (0, -2147483648, 2147483647), (0, 0, 10), (4, 0, 0)], [(0, 10, 0, 4294967296)]) (List.mem_cons_self) rfl ⟨rfl, gm_i hA.1.1 hA.1.2, gm_i hA.2.1.1 hA.2.1.2, gm_i hA.2.2.1 hA.2.2.2, gm_i (by omega) (tI_hi _), gm_i y1.1 y1.2, gm_i (by omega) h200, gm_l, trivial, top_in, gm_i (by decide) (by decide), trivial, trivial⟩ S2.1 hc2) (fun r3 m3 hP3 => qi_pc hP3 (by decide) (fun x => ⟨S2.tr hP3.st (by decide), fun z => absurd ((fr1 hP3.st.2.2 (by decide)).trans z2) z⟩))
def acLu720 : AC := ([(2, 6, 0)], 11, [((0, -2147483648, 2147483647), [], [])], [163944, 163960, 163976, 163992, 164009, 295097, 819273, 819288, 38654705713, 42949673009, 47244640305, 51539607601, 55834574897], [])
set_option maxRecDepth 100000 in
set_option maxHeartbeats 8000000 in
theorem f_luck_720 {m : MM} {wy k d se dr : Int32} (hM : Mok TYg m) (h : SB 720 m) (hc : m.2.2 = (720, 336)) (hF : FM (vw m) m) : CI 11 mX6_luck [.ref 6, .int wy, .int k, .int d, .int se, .int dr] m (fun _ m' => FmP m m') := by
  obtain ⟨ff, g, c⟩ := m
  obtain rfl : c = (720, 336) := hc
  have e0 : (0 : Int32).toInt = 0 := rfl
  have e1 : (1 : Int32).toInt = 1 := rfl
  have e10 : (10 : Int32).toInt = 10 := rfl
  refine At.gs okX6_luck 120 ?_
  (conv => whnf)
  refine And.intro (fun z0 => ?_) (fun z0 => ?_)
  · exact FmP.rf hM hF
  rw [lt_i, e0] at z0
  (conv => whnf)
  refine ⟨1, by decide, _, r_within, ?_⟩
  rintro w1 mw ⟨hmm, hw1⟩; have hmm := hmm.symm; subst hmm
  rw [e1, e10] at hw1
  (conv => whnf)
  refine And.intro (fun z1 => ?_) (fun z1 => ?_)
  case refine_2 =>
    exact FmP.rf hM hF
  rcases hw1 with ⟨y1, y2⟩ | ⟨y1, y2⟩
  case inr => exact absurd y2 z1
  (conv => whnf)
  refine ⟨10, by decide, _, r_gather_720 hM h rfl hF, ?_⟩
  rintro r m1 hq
  obtain ⟨P1, A1⟩ := ga_of hM hF hq
  have hc1 : m1.2.2 = (720, 336) := P1.1.2.1
  obtain ⟨f1, g1, c1⟩ := m1
  obtain rfl : c1 = (720, 336) := hc1
  (conv => whnf)
  refine And.intro (fun q => ?_) (fun q => ?_)
  case refine_2 =>
    exact P1
  have q : 0 ≤ r := q
  rw [le_i, e0] at q
  obtain ⟨hA, h200⟩ := A1 (by omega)
  (conv => whnf)
  refine ⟨1, by decide, _, r_forget, ?_⟩
  rintro m2 hm2
  have S2 : St wAl (ff, g, (720, 336)) (sI (f1, g1, (720, 336)) 49 13 0) := P1.1.fld (a := 49) (k := 13) (v := 0) (by decide) (by decide) (by decide) (fun _ z => by omega)
  rw [← hm2] at S2
  have z2 : gI m2 49 13 = 0 := by rw [hm2, gI_if, if_pos ⟨rfl, rfl⟩]
  have hc2 : m2.2.2 = (720, 336) := S2.2.1
  (conv => whnf)
  refine And.intro rfl ?_
  exact At.mono (loop_of (Ty := TYg) (c := cB) (ac := acLu720) (as := []) (ann := [(53, [(2, 6, 0), (0, 0, 1), (0, 2, 6), (0, 0, 400), (0, 0, 2147483647), (0, 1, 10), (0, 0, 200), (8, 0, 0), (4, 0, 0), (0, -2147483648, 2147483647), (0, 0, 10), (4, 0, 0)], [(0, 10, 0, 4294967296)])]) (fuel := 600) okX6_luck (snX6_luck _ _ cB (Or.inr rfl)) (List.forall_mem_cons.mpr ⟨⟨_, _, rfl⟩, (fun q hq => by cases hq)⟩) (by decide +kernel) (53, [(2, 6, 0), (0, 0, 1), (0, 2, 6), (0, 0, 400), (0, 0, 2147483647), (0, 1, 10), (0, 0, 200), (8, 0, 0), (4, 0, 0), (0, -2147483648, 2147483647), (0, 0, 10), (4, 0, 0)], [(0, 10, 0, 4294967296)]) (List.mem_cons_self) rfl ⟨rfl, gm_i hA.1.1 hA.1.2, gm_i hA.2.1.1 hA.2.1.2, gm_i hA.2.2.1 hA.2.2.2, gm_i (by omega) (tI_hi _), gm_i y1.1 y1.2, gm_i (by omega) h200, gm_l, trivial, top_in, gm_i (by decide) (by decide), trivial, trivial⟩ S2.1 hc2) (fun r3 m3 hP3 => qi_pc hP3 (by decide) (fun x => ⟨S2.tr hP3.st (by decide), fun z => absurd ((fr1 hP3.st.2.2 (by decide)).trans z2) z⟩))
set_option maxRecDepth 100000 in
set_option maxHeartbeats 8000000 in
theorem f_round_336 {m : MM} {wy k d i wt : Int32} (hM : Mok TYg m) (h : SB 336 m) (hc : m.2.2 = (336, 720)) (hF : FM (vw m) m) : CI 11 mX6_round [.ref 6, .int wy, .int k, .int d, .int i, .int wt] m (fun _ m' => FmP m m') := by
  obtain ⟨ff, g, c⟩ := m
  obtain rfl : c = (336, 720) := hc
  have e0 : (0 : Int32).toInt = 0 := rfl
  refine At.gs okX6_round 160 ?_
  (conv => whnf)
  refine ⟨10, by decide, _, r_gather_336 hM h rfl hF, ?_⟩
  rintro r m1 hq
  obtain ⟨P1, A1⟩ := ga_of hM hF hq
  have hc1 : m1.2.2 = (336, 720) := P1.1.2.1
  obtain ⟨f1, g1, c1⟩ := m1
  obtain rfl : c1 = (336, 720) := hc1
  (conv => whnf)
  refine And.intro (fun q => ?_) (fun q => ?_)
  case refine_2 =>
    exact P1
  have q : 0 ≤ r := q
  rw [le_i, e0] at q
  obtain ⟨hA, h200⟩ := A1 (by omega)
  (conv => whnf)
  refine And.intro (fun q1 => ?_) (fun q1 => ?_)
  · exact P1
  rw [lt_i, e0] at q1
  (conv => whnf)
  refine And.intro (fun q2 => ?_) (fun q2 => ?_)
  · exact P1
  have q2 : ¬ r ≤ i := q2
  rw [le_i] at q2
  (conv => whnf)
  refine And.intro (fun q3 => ?_) (fun q3 => ?_)
  case refine_2 =>
    exact P1
  have q3 : 0 ≤ wt := q3
  rw [le_i, e0] at q3
  have vi : vp_in i 200 := vp_in_iff.mpr ⟨by omega, show i.toInt < ((200 : Nat) : Int) by omega⟩
  have hpk : PK (gJ (f1, g1, (336, 720)) 819273 i.toNatClampNeg) := P1.1.1.2 _
  have hle : 0 ≤ (gI (f1, g1, (336, 720)) 819288 i.toNatClampNeg).toInt ∧ (gI (f1, g1, (336, 720)) 819288 i.toNatClampNeg).toInt ≤ 6 := P1.1.1.1 819288 _
  have gp : gam (fun _ => 0) (5, 0, 0) (.long (gJ (f1, g1, (336, 720)) 819273 i.toNatClampNeg)) := ⟨_, rfl, fun _ => hpk, fun q => absurd q (by decide), fun q => absurd q (by decide)⟩
  have gl6 : gam (fun _ => 0) (0, 0, 6) (.int (gI (f1, g1, (336, 720)) 819288 i.toNatClampNeg)) := gm_i hle.1 hle.2
  (conv => whnf)
  refine And.intro vi ?_
  (conv => whnf)
  refine And.intro vi ?_
  (conv => whnf)
  refine And.intro (fun s0 => ?_) (fun s0 => ?_)
  · exact P1
  refine And.intro (fun s1 => ?_) (fun s1 => ?_)
  · (conv => whnf)
    dsimp only
    (conv => whnf)
    refine ⟨2, by decide, _, SafeC.ci (sfX0_carriedBy cA (Or.inl rfl) ([(2, 336, 0), (5, 0, 0), (0, 0, 6)], 2, [((0, -2147483648, 999), [], [])], [], []) (List.mem_of_getElem? (i := 2) rfl)) (by decide) ⟨rfl, gp, gl6, trivial⟩ P1.1.1 rfl noPre, ?_⟩
    intro l m4 hP4
    exact P1.sc (W := []) hP4.st (by decide) (by decide)
  refine And.intro (fun s2 => ?_) (fun s2 => ?_)
  · have hpk2 := hpk
    have hle2 := hle
    (conv => whnf)
    dsimp only
    (conv => whnf)
    refine ⟨4, by decide, _, SafeC.ci (sfX0_missing cA (Or.inl rfl) _ (List.mem_of_getElem? (i := 2) rfl)) (by decide) ⟨rfl, top_in, trivial⟩ P1.1.1 rfl noPre, ?_⟩
    intro mi m2 hP2
    have P2 : FmP (ff, g, (336, 720)) m2 := P1.sc (W := [49864]) hP2.st (by decide) (by decide)
    have hc2 : m2.2.2 = (336, 720) := P2.1.2.1
    clear hP2
    obtain ⟨f2, g2, c2⟩ := m2
    obtain rfl : c2 = (336, 720) := hc2
    (conv => whnf)
    refine ⟨3, by decide, _, SafeC.ci (sfX0_takenBy cA (Or.inl rfl) ([(2, 336, 0), (5, 0, 0), (0, 0, 6), (0, -2147483648, 2147483647), (0, -2147483648, 2147483647)], 3, [((0, -2147483648, 2147483647), [], [])], [], []) (List.mem_of_getElem? (i := 2) rfl)) (by decide) ⟨rfl, gp, gl6, top_in, top_in, trivial⟩ P2.1.1 rfl noPre, ?_⟩
    intro l m4 hP4
    exact P2.sc (W := []) hP4.st (by decide) (by decide)
  refine And.intro (fun s3 => ?_) (fun s3 => ?_)
  · (conv => whnf)
    dsimp only
    (conv => whnf)
    refine ⟨2, by decide, _, SafeC.ci (sfX0_firmsOf cA (Or.inl rfl) ([(2, 336, 0), (5, 0, 0), (0, 0, 6)], 2, [((0, -2147483648, 2147483647), [], [])], [], []) (List.mem_of_getElem? (i := 0) rfl)) (by decide) ⟨rfl, gp, gl6, trivial⟩ P1.1.1 rfl noPre, ?_⟩
    intro l m4 hP4
    exact P1.sc (W := []) hP4.st (by decide) (by decide)
  · (conv => whnf)
    refine And.intro (fun s4 => ?_) (fun s4 => ?_)
    · exact P1
    (conv => whnf)
    refine ⟨1, by decide, _, h_saleAt, ?_⟩
    rintro l m4 ⟨hmm, -⟩; have hmm := hmm.symm; subst hmm
    exact P1
set_option maxRecDepth 100000 in
set_option maxHeartbeats 8000000 in
theorem f_round_720 {m : MM} {wy k d i wt : Int32} (hM : Mok TYg m) (h : SB 720 m) (hc : m.2.2 = (720, 336)) (hF : FM (vw m) m) : CI 11 mX6_round [.ref 6, .int wy, .int k, .int d, .int i, .int wt] m (fun _ m' => FmP m m') := by
  obtain ⟨ff, g, c⟩ := m
  obtain rfl : c = (720, 336) := hc
  have e0 : (0 : Int32).toInt = 0 := rfl
  refine At.gs okX6_round 160 ?_
  (conv => whnf)
  refine ⟨10, by decide, _, r_gather_720 hM h rfl hF, ?_⟩
  rintro r m1 hq
  obtain ⟨P1, A1⟩ := ga_of hM hF hq
  have hc1 : m1.2.2 = (720, 336) := P1.1.2.1
  obtain ⟨f1, g1, c1⟩ := m1
  obtain rfl : c1 = (720, 336) := hc1
  (conv => whnf)
  refine And.intro (fun q => ?_) (fun q => ?_)
  case refine_2 =>
    exact P1
  have q : 0 ≤ r := q
  rw [le_i, e0] at q
  obtain ⟨hA, h200⟩ := A1 (by omega)
  (conv => whnf)
  refine And.intro (fun q1 => ?_) (fun q1 => ?_)
  · exact P1
  rw [lt_i, e0] at q1
  (conv => whnf)
  refine And.intro (fun q2 => ?_) (fun q2 => ?_)
  · exact P1
  have q2 : ¬ r ≤ i := q2
  rw [le_i] at q2
  (conv => whnf)
  refine And.intro (fun q3 => ?_) (fun q3 => ?_)
  case refine_2 =>
    exact P1
  have q3 : 0 ≤ wt := q3
  rw [le_i, e0] at q3
  have vi : vp_in i 200 := vp_in_iff.mpr ⟨by omega, show i.toInt < ((200 : Nat) : Int) by omega⟩
  have hpk : PK (gJ (f1, g1, (720, 336)) 819273 i.toNatClampNeg) := P1.1.1.2 _
  have hle : 0 ≤ (gI (f1, g1, (720, 336)) 819288 i.toNatClampNeg).toInt ∧ (gI (f1, g1, (720, 336)) 819288 i.toNatClampNeg).toInt ≤ 6 := P1.1.1.1 819288 _
  have gp : gam (fun _ => 0) (5, 0, 0) (.long (gJ (f1, g1, (720, 336)) 819273 i.toNatClampNeg)) := ⟨_, rfl, fun _ => hpk, fun q => absurd q (by decide), fun q => absurd q (by decide)⟩
  have gl6 : gam (fun _ => 0) (0, 0, 6) (.int (gI (f1, g1, (720, 336)) 819288 i.toNatClampNeg)) := gm_i hle.1 hle.2
  (conv => whnf)
  refine And.intro vi ?_
  (conv => whnf)
  refine And.intro vi ?_
  (conv => whnf)
  refine And.intro (fun s0 => ?_) (fun s0 => ?_)
  · exact P1
  refine And.intro (fun s1 => ?_) (fun s1 => ?_)
  · (conv => whnf)
    dsimp only
    (conv => whnf)
    refine ⟨2, by decide, _, SafeC.ci (sfX0_carriedBy cB (Or.inr rfl) ([(2, 720, 0), (5, 0, 0), (0, 0, 6)], 2, [((0, -2147483648, 999), [], [])], [], []) (List.mem_of_getElem? (i := 3) rfl)) (by decide) ⟨rfl, gp, gl6, trivial⟩ P1.1.1 rfl noPre, ?_⟩
    intro l m4 hP4
    exact P1.sc (W := []) hP4.st (by decide) (by decide)
  refine And.intro (fun s2 => ?_) (fun s2 => ?_)
  · have hpk2 := hpk
    have hle2 := hle
    (conv => whnf)
    dsimp only
    (conv => whnf)
    refine ⟨4, by decide, _, SafeC.ci (sfX0_missing cB (Or.inr rfl) _ (List.mem_of_getElem? (i := 3) rfl)) (by decide) ⟨rfl, top_in, trivial⟩ P1.1.1 rfl noPre, ?_⟩
    intro mi m2 hP2
    have P2 : FmP (ff, g, (720, 336)) m2 := P1.sc (W := [50248]) hP2.st (by decide) (by decide)
    have hc2 : m2.2.2 = (720, 336) := P2.1.2.1
    clear hP2
    obtain ⟨f2, g2, c2⟩ := m2
    obtain rfl : c2 = (720, 336) := hc2
    (conv => whnf)
    refine ⟨3, by decide, _, SafeC.ci (sfX0_takenBy cB (Or.inr rfl) ([(2, 720, 0), (5, 0, 0), (0, 0, 6), (0, -2147483648, 2147483647), (0, -2147483648, 2147483647)], 3, [((0, -2147483648, 2147483647), [], [])], [], []) (List.mem_of_getElem? (i := 3) rfl)) (by decide) ⟨rfl, gp, gl6, top_in, top_in, trivial⟩ P2.1.1 rfl noPre, ?_⟩
    intro l m4 hP4
    exact P2.sc (W := []) hP4.st (by decide) (by decide)
  refine And.intro (fun s3 => ?_) (fun s3 => ?_)
  · (conv => whnf)
    dsimp only
    (conv => whnf)
    refine ⟨2, by decide, _, SafeC.ci (sfX0_firmsOf cB (Or.inr rfl) ([(2, 720, 0), (5, 0, 0), (0, 0, 6)], 2, [((0, -2147483648, 2147483647), [], [])], [], []) (List.mem_of_getElem? (i := 1) rfl)) (by decide) ⟨rfl, gp, gl6, trivial⟩ P1.1.1 rfl noPre, ?_⟩
    intro l m4 hP4
    exact P1.sc (W := []) hP4.st (by decide) (by decide)
  · (conv => whnf)
    refine And.intro (fun s4 => ?_) (fun s4 => ?_)
    · exact P1
    (conv => whnf)
    refine ⟨1, by decide, _, h_saleAt, ?_⟩
    rintro l m4 ⟨hmm, -⟩; have hmm := hmm.symm; subst hmm
    exact P1
