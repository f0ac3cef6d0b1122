/-! load, find, gather of the class -/
/-- the kind of a sale, as load has it -/
def kdV (V : VW) (wy : Int32) (s : Nat) : Int32 := V.2 13 s + (if wy = 0 then 4 * V.2 16 s else 0)
def KdS (V : VW) (st wy : Int32) (s : Nat) (m : MM) : Prop := (rnK V st wy s ∧ gI m 163992 s = kdV V wy s) ∨ (¬ rnK V st wy s ∧ gI m 163992 s = -1)
def LoI (V : VW) (st wy : Int32) (n : Nat) (m : MM) : Prop := ∀ s, s < n → gI m 163944 s = V.2 10 s ∧ gI m 163960 s = V.2 11 s ∧ gI m 163976 s = V.2 15 s ∧ KdS V st wy s m
theorem kdV_t {V : VW} {wy : Int32} {s : Nat} (hW : Wf V) (hs : s < V.1 3) : (kdV V wy s).toInt = (V.2 13 s).toInt + (if wy = 0 then 4 * (V.2 16 s).toInt else 0) := by
  obtain ⟨-, -, -, -, y1, -, -, y2⟩ := hW.2.2.2 s hs
  have h4 := hW.1.2.1
  have e4 : (4 : Int32).toInt = 4 := rfl
  have e0 : (0 : Int32).toInt = 0 := rfl
  unfold kdV
  by_cases q : wy = 0
  · rw [if_pos q, if_pos q]
    have t4 : (4 * V.2 16 s).toInt = 4 * (V.2 16 s).toInt := by
      rw [tI_mul (by rw [e4]; unfold i32lo; omega) (by rw [e4]; unfold i32hi; omega), e4]
    rw [tI_add (by rw [t4]; unfold i32lo; omega) (by rw [t4]; unfold i32hi; omega), t4]
  · rw [if_neg q, if_neg q, tI_add (by rw [e0]; unfold i32lo; omega) (by rw [e0]; unfold i32hi; omega), e0]
theorem LoI.fy {V : VW} {st wy : Int32} {m : MM} (hW : Wf V) (h : LoI V st wy (V.1 3) m) (h8 : gI m 49 8 = nI (V.1 3)) : FY V (V.2 11) st wy m := by
  have e1 : (-1 : Int32).toInt = -1 := rfl
  have pos : ∀ s, s < V.1 3 → 0 ≤ (kdV V wy s).toInt := fun s hs => by
    obtain ⟨-, -, -, -, y1, -, -, y2⟩ := hW.2.2.2 s hs
    rw [kdV_t hW hs]
    split <;> omega
  refine ⟨h8, fun s hs => ?_, fun a b ha hb ka => ?_⟩
  · obtain ⟨h1, h2, h3, h4⟩ := h s hs
    refine ⟨h1, h2, h3, ?_⟩
    rcases h4 with ⟨k1, k2⟩ | ⟨k1, k2⟩
    · rw [k2]
      exact ⟨fun _ => k1, fun _ => pos s hs⟩
    · rw [k2, e1]
      exact ⟨fun u => by omega, fun u => absurd u k1⟩
  · have hA : gI m 163992 a = kdV V wy a := by
      rcases (h a ha).2.2.2 with q | q
      · exact q.2
      · exact absurd ka q.1
    rw [hA]
    obtain ⟨-, -, -, -, a1, -, -, a2⟩ := hW.2.2.2 a ha
    obtain ⟨-, -, -, -, b1, -, -, b2⟩ := hW.2.2.2 b hb
    have h4 := hW.1.2.1
    rcases (h b hb).2.2.2 with ⟨q1, q2⟩ | ⟨q1, q2⟩
    · rw [q2]
      constructor
      · intro z
        have z := congrArg Int32.toInt z
        rw [kdV_t hW ha, kdV_t hW hb] at z
        by_cases y : wy = 0
        · rw [if_pos y, if_pos y] at z
          exact ⟨q1, Int32.toInt_inj.mp (by omega), fun _ => Int32.toInt_inj.mp (by omega)⟩
        · rw [if_neg y, if_neg y] at z
          exact ⟨q1, Int32.toInt_inj.mp (by omega), fun u => absurd u y⟩
      · rintro ⟨-, z1, z2⟩
        unfold kdV
        rw [z1]
        by_cases y : wy = 0
        · rw [if_pos y, if_pos y, z2 y]
        · rw [if_neg y, if_neg y]
    · rw [q2]
      constructor
      · intro z
        have z := congrArg Int32.toInt z
        have := pos a ha
        rw [e1] at z
        omega
      · intro z
        exact absurd z.1 q1
def wLo : List Nat := [163944, 163960, 163976, 163992, 38654705713]
/-- the finder's memory of what was sought last -/
def FM (V : VW) (m : MM) : Prop := ¬ gI m 49 13 = 0 → FS (rnAC V (V.2 11) (gI m 49 16) (gI m 49 14) (gI m 49 10).toNatClampNeg (gI m 49 15).toInt) m
def fmFree (W : List Nat) : Bool := !(elm (wk 49 9) W) && !(elm 819273 W) && !(elm 819288 W) && !(elm (wk 49 10) W) && !(elm (wk 49 13) W) && !(elm (wk 49 14) W) && !(elm (wk 49 15) W) && !(elm (wk 49 16) W)
theorem FM.fr {V : VW} {W : List Nat} {m m' : MM} (h : FM V m) (hF : Fr W m m') (hW : fmFree W = true) : FM V m' := by
  unfold fmFree at hW
  simp only [Bool.and_eq_true] at hW
  obtain ⟨⟨⟨⟨⟨⟨⟨w1, w2⟩, w3⟩, w4⟩, w5⟩, w6⟩, w7⟩, w8⟩ := hW
  intro hz
  rw [fr1 hF (nelm6 w5 : ¬ wk 49 13 ∈ W)] at hz
  rw [fr1 hF (nelm6 w8 : ¬ wk 49 16 ∈ W), fr1 hF (nelm6 w6 : ¬ wk 49 14 ∈ W), fr1 hF (nelm6 w4 : ¬ wk 49 10 ∈ W), fr1 hF (nelm6 w7 : ¬ wk 49 15 ∈ W)]
  exact (h hz).fr hF (by simp only [Bool.and_eq_true]; exact ⟨⟨w1, w2⟩, w3⟩)
def wFn : List Nat := [163944, 163960, 163976, 163992, 38654705713, 164009, 295097, 819273, 819288, 42949673009, 47244640305, 51539607601, 55834574897, 60129542193, 64424509489, 68719476785, 73014444081]
def FnQ (V : VW) (st wy : Int32) (k : Nat) (d : Int) (m : MM) (r : Int32) (m' : MM) : Prop := St wFn m m' ∧ FM V m' ∧ FS (rnAC V (V.2 11) st wy k d) m' ∧ r = spR (rnAC V (V.2 11) st wy k d)
theorem GW_of {V : VW} (hW : Wf V) : GW (V.1 3) (V.2 11) := fun s hs => by
  obtain ⟨t, t1, t2, -⟩ := hW.tom hs
  have := hW.1.2.2.1
  exact ⟨t, by omega, t2⟩
def cdFj : List CE := stops [39, 73] cdX1_find
set_option maxRecDepth 20000 in
theorem okFj : CodeOk mX1_find cdFj := okX1_find.st [39, 73] (by rfl)
/-- what may be asked -/
def AsP (wy k d : Int32) : Prop := (0 ≤ wy.toInt ∧ wy.toInt ≤ 1) ∧ (2 ≤ k.toInt ∧ k.toInt ≤ 6) ∧ (0 ≤ d.toInt ∧ d.toInt ≤ 400)
set_option maxRecDepth 100000 in
set_option maxHeartbeats 16000000 in
theorem r_load_336 {m : MM} {wy st : Int32} (hM : Mok TYg m) (h : SB 336 m) : CV 1 mX1_load [.ref 49, .ref 452, .int wy, .int st] m (fun m' => St wLo m m' ∧ FY (vw m) ((vw m).2 11) st wy m') := by
  have hW := h.2.2.2.2.2
  have h40 := hW.1.2.2.2
  have h12 := hW.1.2.2.1
  have e2 : gI m 452 7 = gI m 1175 6 := h.1 3 (by decide)
  have c2 : gI m 452 7 = nI ((vw m).1 3) := nI_back (by rw [e2]; exact vw3 hM)
  have lp : ∀ (d i : Nat) (v5 : Value) (m1 : MM), i + d = (vw m).1 3 → St wLo m m1 → gI m1 49 8 = nI ((vw m).1 3) → LoI (vw m) st wy i m1 → At (E0 1) mX1_load (qv (fun m' => St wLo m m' ∧ FY (vw m) ((vw m).2 11) st wy m')) 11 [.ref 49, .ref 452, .int wy, .int st, .int (nI i), v5] [] m1 := by
    intro d
    induction d with
    | zero =>
      intro i v5 m1 hd hS h8 hI
      refine At.ls okX1_load 60 ⟨_, _, rfl⟩ ?_
      (conv => whnf)
      refine And.intro (fun p => ?_) (fun p => ?_)
      · rw [show i = (vw m).1 3 by omega] at hI
        exact ⟨hS, hI.fy hW h8⟩
      · have p : ¬ gI m1 49 8 ≤ nI i := p
        rw [h8, le_i, nI_toInt (by omega), nI_toInt (by omega)] at p
        omega
    | succ d ih =>
      intro i v5 m1 hd hS h8 hI
      have vi : vp_in (nI i) 40 := vp_in_nI (by omega) (by decide)
      have ic : (nI i).toNatClampNeg = i := nI_clamp (by omega)
      have rr : ∀ r, r < 17 → r ≠ 9 → own r = 3 → gI m1 (rowC 336 r) i = (vw m).2 r i := fun r hr h9 ho => by
        rw [row1 hS.2.2 (rowC_8 (by unfold isBk; omega) r hr) ?_]
        · exact h.2.1 r hr h9 i (by rw [ho]; omega)
        · have : ∀ r, r < 17 → elm (rowC 336 r) wLo = false := by decide +kernel
          exact this r hr
      have c10 : gI m1 164312 (nI i).toNatClampNeg = (vw m).2 10 i := by rw [ic]; exact rr 10 (by decide) (by decide) rfl
      have c11 : gI m1 164328 (nI i).toNatClampNeg = (vw m).2 11 i := by rw [ic]; exact rr 11 (by decide) (by decide) rfl
      have c13 : gI m1 164360 (nI i).toNatClampNeg = (vw m).2 13 i := by rw [ic]; exact rr 13 (by decide) (by decide) rfl
      have c15 : gI m1 164392 (nI i).toNatClampNeg = (vw m).2 15 i := by rw [ic]; exact rr 15 (by decide) (by decide) rfl
      have c16 : gI m1 164408 (nI i).toNatClampNeg = (vw m).2 16 i := by rw [ic]; exact rr 16 (by decide) (by decide) rfl
      obtain ⟨f, f1, f2, -⟩ := hW.frm (s := i) (by omega)
      obtain ⟨t, t1, t2, -⟩ := hW.tom (s := i) (by omega)
      have SA : ∀ kd : Int32, St wLo m (sI (sI (sI (sI m1 163944 (nI i).toNatClampNeg (gI m1 164312 (nI i).toNatClampNeg)) 163960 (nI i).toNatClampNeg (gI m1 164328 (nI i).toNatClampNeg)) 163976 (nI i).toNatClampNeg (gI m1 164392 (nI i).toNatClampNeg)) 163992 (nI i).toNatClampNeg kd) := fun kd => (((hS.row (a := 163944) rfl (by decide) (show (0 : Int) ≤ _ by rw [c10, f2, nI_toInt (by omega)]; omega) (show _ ≤ (11 : Int) by rw [c10, f2, nI_toInt (by omega)]; omega)).row (a := 163960) rfl (by decide) (show (0 : Int) ≤ _ by rw [c11, t2, nI_toInt (by omega)]; omega) (show _ ≤ (11 : Int) by rw [c11, t2, nI_toInt (by omega)]; omega)).row (a := 163976) rfl (by decide) (tI_lo _) (tI_hi _)).row (a := 163992) rfl (by decide) (tI_lo _) (tI_hi _)
      have low : ∀ kd : Int32, ∀ m2 : MM, m2 = sI (sI (sI (sI m1 163944 (nI i).toNatClampNeg (gI m1 164312 (nI i).toNatClampNeg)) 163960 (nI i).toNatClampNeg (gI m1 164328 (nI i).toNatClampNeg)) 163976 (nI i).toNatClampNeg (gI m1 164392 (nI i).toNatClampNeg)) 163992 (nI i).toNatClampNeg kd → ∀ s, s < i + 1 → gI m2 163944 s = (vw m).2 10 s ∧ gI m2 163960 s = (vw m).2 11 s ∧ gI m2 163976 s = (vw m).2 15 s ∧ (s < i → gI m2 163992 s = gI m1 163992 s) ∧ (s = i → gI m2 163992 s = kd) := by
        intro kd m2 hm2 s hs
        rw [hm2, ic]
        rw [ic] at c10 c11 c15
        have g1 : ∀ b v, gI (sI (sI (sI (sI m1 163944 i (gI m1 164312 i)) 163960 i (gI m1 164328 i)) 163976 i (gI m1 164392 i)) 163992 i kd) b v = if b = 163992 ∧ v = i then kd else if b = 163976 ∧ v = i then gI m1 164392 i else if b = 163960 ∧ v = i then gI m1 164328 i else if b = 163944 ∧ v = i then gI m1 164312 i else gI m1 b v := fun b v => by
          rw [gI_if, gI_if, gI_if, gI_if]
        rw [g1, g1, g1, g1]
        by_cases q : s = i
        · rw [q, c10, c11, c15]
          refine ⟨?_, ?_, ?_, fun u => by omega, fun _ => ?_⟩
          · rw [if_neg (fun u => absurd u.1 (by decide)), if_neg (fun u => absurd u.1 (by decide)), if_neg (fun u => absurd u.1 (by decide)), if_pos ⟨rfl, rfl⟩]
          · rw [if_neg (fun u => absurd u.1 (by decide)), if_neg (fun u => absurd u.1 (by decide)), if_pos ⟨rfl, rfl⟩]
          · rw [if_neg (fun u => absurd u.1 (by decide)), if_pos ⟨rfl, rfl⟩]
          · rw [if_pos ⟨rfl, rfl⟩]
        · have y := hI s (by omega)
          rw [if_neg (fun u => q u.2), if_neg (fun u => q u.2), if_neg (fun u => q u.2), if_neg (fun u => q u.2), if_neg (fun u => q u.2), if_neg (fun u => q u.2), if_neg (fun u => q u.2), if_neg (fun u => q u.2), if_neg (fun u => q u.2), if_neg (fun u => q u.2), if_neg (fun u => q u.2), if_neg (fun u => q u.2), if_neg (fun u => q u.2), if_neg (fun u => q u.2), if_neg (fun u => q u.2), if_neg (fun u => q u.2)]
          exact ⟨y.1, y.2.1, y.2.2.1, fun _ => rfl, fun u => absurd u q⟩
      have fromA : ∀ kd : Int32, gI (sI (sI (sI (sI m1 163944 (nI i).toNatClampNeg (gI m1 164312 (nI i).toNatClampNeg)) 163960 (nI i).toNatClampNeg (gI m1 164328 (nI i).toNatClampNeg)) 163976 (nI i).toNatClampNeg (gI m1 164392 (nI i).toNatClampNeg)) 163992 (nI i).toNatClampNeg kd) 163944 (nI i).toNatClampNeg = (vw m).2 10 i := fun kd => by
        have y := (low kd _ rfl i (by omega)).1
        rw [ic] at y ⊢
        exact y
      have KO : ∀ {s : Nat} {m2 : MM}, s < i → gI m2 163992 s = gI m1 163992 s → KdS (vw m) st wy s m2 := fun {s m2} hs he => by
        have y := (hI s hs).2.2.2
        unfold KdS at y ⊢
        rw [he]
        exact y
      have nextK : ∀ (kd : Int32), rnK (vw m) st wy i → kd = kdV (vw m) wy i → ∀ v : Value, At (E0 1) mX1_load (qv (fun m' => St wLo m m' ∧ FY (vw m) ((vw m).2 11) st wy m')) 11 [.ref 49, .ref 452, .int wy, .int st, .int (nI i + 1), v] [] (sI (sI (sI (sI m1 163944 (nI i).toNatClampNeg (gI m1 164312 (nI i).toNatClampNeg)) 163960 (nI i).toNatClampNeg (gI m1 164328 (nI i).toNatClampNeg)) 163976 (nI i).toNatClampNeg (gI m1 164392 (nI i).toNatClampNeg)) 163992 (nI i).toNatClampNeg kd) := by
        intro kd hk hkd v
        have z := ih (i + 1) v (sI (sI (sI (sI m1 163944 (nI i).toNatClampNeg (gI m1 164312 (nI i).toNatClampNeg)) 163960 (nI i).toNatClampNeg (gI m1 164328 (nI i).toNatClampNeg)) 163976 (nI i).toNatClampNeg (gI m1 164392 (nI i).toNatClampNeg)) 163992 (nI i).toNatClampNeg kd) (by omega) (SA kd) (by rw [gI_if, gI_if, gI_if, gI_if, if_neg (fun u => absurd u.1 (by decide)), if_neg (fun u => absurd u.1 (by decide)), if_neg (fun u => absurd u.1 (by decide)), if_neg (fun u => absurd u.1 (by decide))]; exact h8) (fun s hs => by
          obtain ⟨y1, y2, y3, y4, y5⟩ := low kd _ rfl s hs
          refine ⟨y1, y2, y3, ?_⟩
          by_cases q : s = i
          · rw [q] at y5 ⊢
            exact Or.inl ⟨hk, (y5 rfl).trans hkd⟩
          · exact KO (by omega) (y4 (by omega)))
        rw [← nI_1] at z
        exact z
      have nextM : ∀ (kd : Int32), ¬ rnK (vw m) st wy i → ∀ v : Value, At (E0 1) mX1_load (qv (fun m' => St wLo m m' ∧ FY (vw m) ((vw m).2 11) st wy m')) 11 [.ref 49, .ref 452, .int wy, .int st, .int (nI i + 1), v] [] (sI (sI (sI (sI (sI m1 163944 (nI i).toNatClampNeg (gI m1 164312 (nI i).toNatClampNeg)) 163960 (nI i).toNatClampNeg (gI m1 164328 (nI i).toNatClampNeg)) 163976 (nI i).toNatClampNeg (gI m1 164392 (nI i).toNatClampNeg)) 163992 (nI i).toNatClampNeg kd) 163992 (nI i).toNatClampNeg (-1)) := by
        intro kd hk v
        have z := ih (i + 1) v (sI (sI (sI (sI (sI m1 163944 (nI i).toNatClampNeg (gI m1 164312 (nI i).toNatClampNeg)) 163960 (nI i).toNatClampNeg (gI m1 164328 (nI i).toNatClampNeg)) 163976 (nI i).toNatClampNeg (gI m1 164392 (nI i).toNatClampNeg)) 163992 (nI i).toNatClampNeg kd) 163992 (nI i).toNatClampNeg (-1)) (by omega) ((SA kd).row (a := 163992) rfl (by decide) (tI_lo _) (tI_hi _)) (by rw [gI_if, gI_if, gI_if, gI_if, gI_if, if_neg (fun u => absurd u.1 (by decide)), if_neg (fun u => absurd u.1 (by decide)), if_neg (fun u => absurd u.1 (by decide)), if_neg (fun u => absurd u.1 (by decide)), if_neg (fun u => absurd u.1 (by decide))]; exact h8) (fun s hs => by
          obtain ⟨y1, y2, y3, y4, y5⟩ := low kd _ rfl s hs
          rw [gI_if (b := 163944), if_neg (fun u => absurd u.1 (by decide)), gI_if (b := 163960), if_neg (fun u => absurd u.1 (by decide)), gI_if (b := 163976), if_neg (fun u => absurd u.1 (by decide))]
          refine ⟨y1, y2, y3, ?_⟩
          by_cases q : s = i
          · refine Or.inr ⟨by rw [q]; exact hk, ?_⟩
            rw [gI_if, if_pos ⟨rfl, by rw [q, ic]⟩]
          · refine KO (by omega) ?_
            rw [gI_if, if_neg (fun u => q (by rw [u.2, ic]))]
            exact y4 (by omega))
        rw [← nI_1] at z
        exact z
      refine At.ls okX1_load 160 ⟨_, _, rfl⟩ ?_
      (conv => whnf)
      refine And.intro (fun p => ?_) (fun p => ?_)
      · have p : gI m1 49 8 ≤ nI i := p
        rw [h8, le_i, nI_toInt (by omega), nI_toInt (by omega)] at p
        omega
      (conv => whnf)
      refine And.intro vi ?_
      (conv => whnf)
      refine And.intro vi ?_
      (conv => whnf)
      refine And.intro vi ?_
      (conv => whnf)
      refine And.intro vi ?_
      (conv => whnf)
      refine And.intro vi ?_
      (conv => whnf)
      refine And.intro vi ?_
      (conv => whnf)
      refine And.intro vi ?_
      (conv => whnf)
      refine And.intro (fun p1 => ?_) (fun p1 => ?_)
      · have p1 : ¬ wy = 0 := p1
        have HM : wy = 0 → (vw m).2 16 i ≠ 0 := fun u => absurd u p1
        have KV : (gI m1 164360 (nI i).toNatClampNeg + 0) = kdV (vw m) wy i := by unfold kdV; rw [if_neg p1, c13]
        (conv => whnf)
        refine And.intro vi ?_
        (conv => whnf)
        refine And.intro (fun p2 => ?_) (fun p2 => ?_)
        case refine_2 => exact absurd p2 p1
        (conv => whnf)
        refine And.intro (fun z => absurd rfl z) (fun _ => ?_)
        (conv => whnf)
        refine And.intro vi ?_
        (conv => whnf)
        refine And.intro (fun p3 => ?_) (fun p3 => ?_)
        · have p3 : bt st (gI (sI (sI (sI (sI m1 163944 (nI i).toNatClampNeg (gI m1 164312 (nI i).toNatClampNeg)) 163960 (nI i).toNatClampNeg (gI m1 164328 (nI i).toNatClampNeg)) 163976 (nI i).toNatClampNeg (gI m1 164392 (nI i).toNatClampNeg)) 163992 (nI i).toNatClampNeg (gI m1 164360 (nI i).toNatClampNeg + 0)) 163944 (nI i).toNatClampNeg) = 0 := p3
          rw [fromA] at p3
          (conv => whnf)
          exact And.intro rfl (nextK (gI m1 164360 (nI i).toNatClampNeg + 0) ⟨p3, fun u => HM u⟩ KV (.int 0))
        · have p3 : ¬ bt st (gI (sI (sI (sI (sI m1 163944 (nI i).toNatClampNeg (gI m1 164312 (nI i).toNatClampNeg)) 163960 (nI i).toNatClampNeg (gI m1 164328 (nI i).toNatClampNeg)) 163976 (nI i).toNatClampNeg (gI m1 164392 (nI i).toNatClampNeg)) 163992 (nI i).toNatClampNeg (gI m1 164360 (nI i).toNatClampNeg + 0)) 163944 (nI i).toNatClampNeg) = 0 := p3
          rw [fromA] at p3
          (conv => whnf)
          refine And.intro vi ?_
          (conv => whnf)
          exact And.intro rfl (nextM (gI m1 164360 (nI i).toNatClampNeg + 0) (fun u => p3 u.1) (.int 0))
      · have p1 : wy = 0 := p1
        have KV : (gI m1 164360 (nI i).toNatClampNeg + 4 * gI m1 164408 (nI i).toNatClampNeg) = kdV (vw m) wy i := by unfold kdV; rw [if_pos p1, c13, c16]
        (conv => whnf)
        refine And.intro vi ?_
        (conv => whnf)
        refine And.intro vi ?_
        (conv => whnf)
        refine And.intro (fun p2 => ?_) (fun p2 => ?_)
        case refine_1 => exact absurd p1 p2
        (conv => whnf)
        refine And.intro vi ?_
        (conv => whnf)
        refine And.intro (fun p4 => ?_) (fun p4 => ?_)
        · have p4 : ¬ gI m1 164408 (nI i).toNatClampNeg = 0 := p4
          rw [c16] at p4
          have HM : wy = 0 → (vw m).2 16 i ≠ 0 := fun _ => p4
          (conv => whnf)
          refine And.intro (fun z => absurd rfl z) (fun _ => ?_)
          (conv => whnf)
          refine And.intro vi ?_
          (conv => whnf)
          refine And.intro (fun p3 => ?_) (fun p3 => ?_)
          · have p3 : bt st (gI (sI (sI (sI (sI m1 163944 (nI i).toNatClampNeg (gI m1 164312 (nI i).toNatClampNeg)) 163960 (nI i).toNatClampNeg (gI m1 164328 (nI i).toNatClampNeg)) 163976 (nI i).toNatClampNeg (gI m1 164392 (nI i).toNatClampNeg)) 163992 (nI i).toNatClampNeg (gI m1 164360 (nI i).toNatClampNeg + 4 * gI m1 164408 (nI i).toNatClampNeg)) 163944 (nI i).toNatClampNeg) = 0 := p3
            rw [fromA] at p3
            (conv => whnf)
            exact And.intro rfl (nextK (gI m1 164360 (nI i).toNatClampNeg + 4 * gI m1 164408 (nI i).toNatClampNeg) ⟨p3, fun u => HM u⟩ KV (.int 0))
          · have p3 : ¬ bt st (gI (sI (sI (sI (sI m1 163944 (nI i).toNatClampNeg (gI m1 164312 (nI i).toNatClampNeg)) 163960 (nI i).toNatClampNeg (gI m1 164328 (nI i).toNatClampNeg)) 163976 (nI i).toNatClampNeg (gI m1 164392 (nI i).toNatClampNeg)) 163992 (nI i).toNatClampNeg (gI m1 164360 (nI i).toNatClampNeg + 4 * gI m1 164408 (nI i).toNatClampNeg)) 163944 (nI i).toNatClampNeg) = 0 := p3
            rw [fromA] at p3
            (conv => whnf)
            refine And.intro vi ?_
            (conv => whnf)
            exact And.intro rfl (nextM (gI m1 164360 (nI i).toNatClampNeg + 4 * gI m1 164408 (nI i).toNatClampNeg) (fun u => p3 u.1) (.int 0))
        · have p4 : gI m1 164408 (nI i).toNatClampNeg = 0 := p4
          rw [c16] at p4
          (conv => whnf)
          refine And.intro (fun _ => ?_) (fun z => absurd z (by decide))
          (conv => whnf)
          refine And.intro vi ?_
          (conv => whnf)
          exact And.intro rfl (nextM (gI m1 164360 (nI i).toNatClampNeg + 4 * gI m1 164408 (nI i).toNatClampNeg) (fun u => u.2 p1 p4) (.int 1))
  have S8 : St wLo m (sI m 49 8 (gI m 452 7)) := (St.rf hM).fld (a := 49) (k := 8) (by decide) (show (0 : Int) ≤ _ by rw [c2, nI_toInt (by omega)]; omega) (show _ ≤ (40 : Int) by rw [c2, nI_toInt (by omega)]; omega) (fun _ z => by omega)
  refine At.gs okX1_load 60 ?_
  (conv => whnf)
  exact And.intro rfl (lp ((vw m).1 3) 0 _ _ (by omega) S8 (by rw [gI_if, if_pos ⟨rfl, rfl⟩]; exact c2) (fun s hs => absurd hs (Nat.not_lt_zero _)))
set_option maxRecDepth 100000 in
set_option maxHeartbeats 8000000 in
theorem r_find_336 {m : MM} {wy st d : Int32} {k : Nat} (hM : Mok TYg m) (h : SB 336 m) (hF : FM (vw m) m) (k2 : 2 ≤ k) (k6 : k ≤ 6) (d0 : 0 ≤ d.toInt) (d4 : d.toInt ≤ 400) : CI 9 mX1_find [.ref 49, .ref 452, .int wy, .int (nI k), .int d, .int st] m (FnQ (vw m) st wy k d.toInt m) := by
  have hW := h.2.2.2.2.2
  have e200 : (200 : Int32).toInt = 200 := rfl
  have anew : ∀ v : Value, At (E0 9) mX1_find (qi (FnQ (vw m) st wy k d.toInt m)) 73 [.ref 49, .ref 452, .int wy, .int (nI k), .int d, .int st, v] [] m := by
    intro v
    refine At.ls okFj 80 ⟨_, _, rfl⟩ ?_
    (conv => whnf)
    refine ⟨1, by decide, _, r_load_336 hM h, ?_⟩
    rintro m1 ⟨S1, Y1⟩
    have T1 : St wFn m m1 := (St.rf hM).tr S1 (by decide)
    have T4 : St wFn m (sI (sI (sI (sI m1 49 14 wy) 49 15 d) 49 16 st) 49 13 1) := (((T1.fld (a := 49) (k := 14) (v := wy) (by decide) (tI_lo _) (tI_hi _) (fun _ z => by omega)).fld (a := 49) (k := 15) (v := d) (by decide) (tI_lo _) (tI_hi _) (fun _ z => by omega)).fld (a := 49) (k := 16) (v := st) (by decide) (tI_lo _) (tI_hi _) (fun _ z => by omega)).fld (a := 49) (k := 13) (v := 1) (by decide) (by decide) (by decide) (fun _ z => by omega)
    have F4 : Fr [60129542193, 64424509489, 68719476785, 73014444081] m1 (sI (sI (sI (sI m1 49 14 wy) 49 15 d) 49 16 st) 49 13 1) := Fr_sI (Fr_sI (Fr_sI (Fr_sI (Fr_rfl _ _) (by decide) (fun _ z => by omega)) (by decide) (fun _ z => by omega)) (by decide) (fun _ z => by omega)) (by decide) (fun _ z => by omega)
    (conv => whnf)
    refine And.intro (Or.inr rfl) ?_
    (conv => whnf)
    refine ⟨8, by decide, _, r_search (m0 := sI (sI (sI (sI m1 49 14 wy) 49 15 d) 49 16 st) 49 13 1) (V := vw m) (g := (vw m).2 11) (st := st) (wy := wy) T4.1 hW (GW_of hW) k2 k6 d0 d4 (Y1.fr F4 (by decide)), ?_⟩
    rintro r m5 ⟨S5, h10, F5, hr⟩
    refine ⟨T4.tr S5 (by decide), ?_, F5, hr⟩
    intro _
    rw [fr1 S5.2.2 (by decide : ¬ wk 49 16 ∈ wSe), fr1 S5.2.2 (by decide : ¬ wk 49 14 ∈ wSe), fr1 S5.2.2 (by decide : ¬ wk 49 15 ∈ wSe), h10, nI_clamp (by omega)]
    exact F5
  have at39 : ∀ b : Int32, (b = 0 ∨ (b = 1 ∧ gI m 49 14 = wy ∧ gI m 49 10 = nI k ∧ gI m 49 15 = d ∧ gI m 49 16 = st)) → At (E0 9) mX1_find (qi (FnQ (vw m) st wy k d.toInt m)) 39 [.ref 49, .ref 452, .int wy, .int (nI k), .int d, .int st, .null] [.int b] m := by
    intro b hb
    refine At.ls okFj 80 ⟨_, _, rfl⟩ ?_
    (conv => whnf)
    refine And.intro (fun p => ?_) (fun p => ?_)
    · (conv => whnf)
      exact And.intro rfl (anew _)
    have p : ¬ gI m 49 13 = 0 := p
    (conv => whnf)
    refine And.intro (fun q => ?_) (fun q => ?_)
    · (conv => whnf)
      exact And.intro rfl (anew _)
    have q : ¬ b = 0 := q
    obtain ⟨-, q1, q2, q3, q4⟩ : b = 1 ∧ gI m 49 14 = wy ∧ gI m 49 10 = nI k ∧ gI m 49 15 = d ∧ gI m 49 16 = st := Or.elim hb (fun z => absurd z q) (fun z => z)
    have hS := hF p
    rw [q1, q2, q3, q4, nI_clamp (by omega)] at hS
    have e9 := hS.1
    (conv => whnf)
    refine And.intro (fun z => ?_) (fun z => ?_)
    · have z : gI m 49 9 ≤ 200 := z
      rw [e9, le_i, nI_toInt (by omega), e200] at z
      (conv => whnf)
      refine ⟨St.rf hM, hF, hS, ?_⟩
      rw [e9]
      unfold spR
      rw [if_neg (by omega), show min (rnAC (vw m) ((vw m).2 11) st wy k d.toInt).length 201 = (rnAC (vw m) ((vw m).2 11) st wy k d.toInt).length by omega]
    · have z : ¬ gI m 49 9 ≤ 200 := z
      rw [e9, le_i, nI_toInt (by omega), e200] at z
      (conv => whnf)
      refine ⟨St.rf hM, hF, hS, ?_⟩
      unfold spR
      rw [if_pos (by omega)]
  refine At.gs okFj 80 ?_
  (conv => whnf)
  refine And.intro (fun q1 => ?_) (fun q1 => ?_)
  · (conv => whnf)
    exact And.intro rfl (at39 0 (Or.inl rfl))
  have q1 : wy = gI m 49 14 := q1
  (conv => whnf)
  refine And.intro (fun q2 => ?_) (fun q2 => ?_)
  · (conv => whnf)
    exact And.intro rfl (at39 0 (Or.inl rfl))
  have q2 : nI k = gI m 49 10 := q2
  (conv => whnf)
  refine And.intro (fun q3 => ?_) (fun q3 => ?_)
  · (conv => whnf)
    exact And.intro rfl (at39 0 (Or.inl rfl))
  have q3 : d = gI m 49 15 := q3
  (conv => whnf)
  refine And.intro (fun q4 => ?_) (fun q4 => ?_)
  · (conv => whnf)
    exact And.intro rfl (at39 0 (Or.inl rfl))
  have q4 : st = gI m 49 16 := q4
  (conv => whnf)
  exact And.intro rfl (at39 1 (Or.inr ⟨rfl, q1.symm, q2.symm, q3.symm, q4.symm⟩))
/-! what gather answers: not asked, or all rounds are in the finder -/
set_option maxRecDepth 100000 in
set_option maxHeartbeats 4000000 in
theorem r_gather_336 {m : MM} {wy k d : Int32} (hM : Mok TYg m) (h : SB 336 m) (hc : m.2.2 = (336, 720)) (hF : FM (vw m) m) : CI 10 mX6_gather [.ref 6, .int wy, .int k, .int d] m (fun r m' => (¬ AsP wy k d ∧ r = -1 ∧ m' = m) ∨ (AsP wy k d ∧ FnQ (vw m) (gI m 1175 39) wy k.toNatClampNeg d.toInt m r m')) := by
  obtain ⟨ff, g, c⟩ := m
  obtain rfl : c = (336, 720) := hc
  have e0 : (0 : Int32).toInt = 0 := rfl
  have e1 : (1 : Int32).toInt = 1 := rfl
  have e2 : (2 : Int32).toInt = 2 := rfl
  have e6 : (6 : Int32).toInt = 6 := rfl
  have e4 : (400 : Int32).toInt = 400 := rfl
  have no : ¬ AsP wy k d → (¬ AsP wy k d ∧ (-1 : Int32) = -1 ∧ (ff, g, (336, 720)) = (ff, g, (336, 720))) ∨ (AsP wy k d ∧ FnQ (vw (ff, g, (336, 720))) (gI (ff, g, (336, 720)) 1175 39) wy k.toNatClampNeg d.toInt (ff, g, (336, 720)) (-1) (ff, g, (336, 720))) := fun z => Or.inl ⟨z, rfl, rfl⟩
  refine At.gs okX6_gather 80 ?_
  (conv => whnf)
  refine ⟨1, by decide, _, r_within, ?_⟩
  rintro r1 m1 ⟨hmm, h1⟩; have hmm := hmm.symm; subst hmm
  rw [e0, e1] at h1
  (conv => whnf)
  refine And.intro (fun q => ?_) (fun q => ?_)
  · rcases h1 with ⟨y1, y2⟩ | ⟨y1, y2⟩
    · rw [y2] at q; exact absurd q (by decide)
    · exact no (fun z => y1 z.1)
  rcases h1 with ⟨y1, y2⟩ | ⟨y1, y2⟩
  case inr => exact absurd y2 q
  (conv => whnf)
  refine ⟨1, by decide, _, r_within, ?_⟩
  rintro r2 m2 ⟨hmm, h2⟩; have hmm := hmm.symm; subst hmm
  rw [e2, e6] at h2
  (conv => whnf)
  refine And.intro (fun q2 => ?_) (fun q2 => ?_)
  · rcases h2 with ⟨y3, y4⟩ | ⟨y3, y4⟩
    · rw [y4] at q2; exact absurd q2 (by decide)
    · exact no (fun z => y3 z.2.1)
  rcases h2 with ⟨y3, y4⟩ | ⟨y3, y4⟩
  case inr => exact absurd y4 q2
  (conv => whnf)
  refine ⟨1, by decide, _, r_within, ?_⟩
  rintro r3 m3 ⟨hmm, h3⟩; have hmm := hmm.symm; subst hmm
  rw [e0, e4] at h3
  (conv => whnf)
  refine And.intro (fun q3 => ?_) (fun q3 => ?_)
  · have q3 : ¬ r3 = 0 := q3
    rcases h3 with ⟨y5, y6⟩ | ⟨y5, y6⟩
    case inr => exact absurd y6 q3
    have hA : AsP wy k d := ⟨y1, y3, y5⟩
    have ek : k = nI k.toNatClampNeg := nI_back (by rw [clamp_toNat]; omega)
    have est : gI (ff, g, (336, 720)) 6 5 = gI (ff, g, (336, 720)) 1175 39 := h.2.2.2.1
    have hf := r_find_336 (m := (ff, g, (336, 720))) (wy := wy) (st := gI (ff, g, (336, 720)) 1175 39) (d := d) (k := k.toNatClampNeg) hM h hF (by rw [clamp_toNat]; omega) (by rw [clamp_toNat]; omega) y5.1 y5.2
    rw [← ek, ← est] at hf
    (conv => whnf)
    dsimp only
    (conv => whnf)
    refine ⟨9, by decide, _, hf, ?_⟩
    rintro r4 m4 h4
    rw [est] at h4
    exact Or.inr ⟨hA, h4⟩
  · have q3 : r3 = 0 := q3
    rcases h3 with ⟨y5, y6⟩ | ⟨y5, y6⟩
    · rw [y6] at q3; exact absurd q3 (by decide)
    · exact no (fun z => y5 z.2.2)
set_option maxRecDepth 100000 in
theorem r_rounds_336 {m : MM} {wy k d : Int32} (hM : Mok TYg m) (h : SB 336 m) (hc : m.2.2 = (336, 720)) (hF : FM (vw m) m) : CI 11 mX6_rounds [.ref 6, .int wy, .int k, .int d] m (fun r m' => (¬ AsP wy k d ∧ r = -1 ∧ m' = m) ∨ (AsP wy k d ∧ FnQ (vw m) (gI m 1175 39) wy k.toNatClampNeg d.toInt m r m')) := by
  refine At.gs okX6_rounds 40 ?_
  (conv => whnf)
  refine ⟨10, by decide, _, r_gather_336 hM h hc hF, ?_⟩
  intro r m' hq
  exact hq
set_option maxRecDepth 100000 in
set_option maxHeartbeats 16000000 in
theorem r_load_720 {m : MM} {wy st : Int32} (hM : Mok TYg m) (h : SB 720 m) : CV 1 mX1_load [.ref 49, .ref 836, .int wy, .int st] m (fun m' => St wLo m m' ∧ FY (vw m) ((vw m).2 11) st wy m') := by
  have hW := h.2.2.2.2.2
  have h40 := hW.1.2.2.2
  have h12 := hW.1.2.2.1
  have e2 : gI m 836 7 = gI m 1175 6 := h.1 3 (by decide)
  have c2 : gI m 836 7 = nI ((vw m).1 3) := nI_back (by rw [e2]; exact vw3 hM)
  have lp : ∀ (d i : Nat) (v5 : Value) (m1 : MM), i + d = (vw m).1 3 → St wLo m m1 → gI m1 49 8 = nI ((vw m).1 3) → LoI (vw m) st wy i m1 → At (E0 1) mX1_load (qv (fun m' => St wLo m m' ∧ FY (vw m) ((vw m).2 11) st wy m')) 11 [.ref 49, .ref 836, .int wy, .int st, .int (nI i), v5] [] m1 := by
    intro d
    induction d with
    | zero =>
      intro i v5 m1 hd hS h8 hI
      refine At.ls okX1_load 60 ⟨_, _, rfl⟩ ?_
      (conv => whnf)
      refine And.intro (fun p => ?_) (fun p => ?_)
      · rw [show i = (vw m).1 3 by omega] at hI
        exact ⟨hS, hI.fy hW h8⟩
      · have p : ¬ gI m1 49 8 ≤ nI i := p
        rw [h8, le_i, nI_toInt (by omega), nI_toInt (by omega)] at p
        omega
    | succ d ih =>
      intro i v5 m1 hd hS h8 hI
      have vi : vp_in (nI i) 40 := vp_in_nI (by omega) (by decide)
      have ic : (nI i).toNatClampNeg = i := nI_clamp (by omega)
      have rr : ∀ r, r < 17 → r ≠ 9 → own r = 3 → gI m1 (rowC 720 r) i = (vw m).2 r i := fun r hr h9 ho => by
        rw [row1 hS.2.2 (rowC_8 (by unfold isBk; omega) r hr) ?_]
        · exact h.2.1 r hr h9 i (by rw [ho]; omega)
        · have : ∀ r, r < 17 → elm (rowC 720 r) wLo = false := by decide +kernel
          exact this r hr
      have c10 : gI m1 164696 (nI i).toNatClampNeg = (vw m).2 10 i := by rw [ic]; exact rr 10 (by decide) (by decide) rfl
      have c11 : gI m1 164712 (nI i).toNatClampNeg = (vw m).2 11 i := by rw [ic]; exact rr 11 (by decide) (by decide) rfl
      have c13 : gI m1 164744 (nI i).toNatClampNeg = (vw m).2 13 i := by rw [ic]; exact rr 13 (by decide) (by decide) rfl
      have c15 : gI m1 164776 (nI i).toNatClampNeg = (vw m).2 15 i := by rw [ic]; exact rr 15 (by decide) (by decide) rfl
      have c16 : gI m1 164792 (nI i).toNatClampNeg = (vw m).2 16 i := by rw [ic]; exact rr 16 (by decide) (by decide) rfl
      obtain ⟨f, f1, f2, -⟩ := hW.frm (s := i) (by omega)
      obtain ⟨t, t1, t2, -⟩ := hW.tom (s := i) (by omega)
      have SA : ∀ kd : Int32, St wLo m (sI (sI (sI (sI m1 163944 (nI i).toNatClampNeg (gI m1 164696 (nI i).toNatClampNeg)) 163960 (nI i).toNatClampNeg (gI m1 164712 (nI i).toNatClampNeg)) 163976 (nI i).toNatClampNeg (gI m1 164776 (nI i).toNatClampNeg)) 163992 (nI i).toNatClampNeg kd) := fun kd => (((hS.row (a := 163944) rfl (by decide) (show (0 : Int) ≤ _ by rw [c10, f2, nI_toInt (by omega)]; omega) (show _ ≤ (11 : Int) by rw [c10, f2, nI_toInt (by omega)]; omega)).row (a := 163960) rfl (by decide) (show (0 : Int) ≤ _ by rw [c11, t2, nI_toInt (by omega)]; omega) (show _ ≤ (11 : Int) by rw [c11, t2, nI_toInt (by omega)]; omega)).row (a := 163976) rfl (by decide) (tI_lo _) (tI_hi _)).row (a := 163992) rfl (by decide) (tI_lo _) (tI_hi _)
      have low : ∀ kd : Int32, ∀ m2 : MM, m2 = sI (sI (sI (sI m1 163944 (nI i).toNatClampNeg (gI m1 164696 (nI i).toNatClampNeg)) 163960 (nI i).toNatClampNeg (gI m1 164712 (nI i).toNatClampNeg)) 163976 (nI i).toNatClampNeg (gI m1 164776 (nI i).toNatClampNeg)) 163992 (nI i).toNatClampNeg kd → ∀ s, s < i + 1 → gI m2 163944 s = (vw m).2 10 s ∧ gI m2 163960 s = (vw m).2 11 s ∧ gI m2 163976 s = (vw m).2 15 s ∧ (s < i → gI m2 163992 s = gI m1 163992 s) ∧ (s = i → gI m2 163992 s = kd) := by
        intro kd m2 hm2 s hs
        rw [hm2, ic]
        rw [ic] at c10 c11 c15
        have g1 : ∀ b v, gI (sI (sI (sI (sI m1 163944 i (gI m1 164696 i)) 163960 i (gI m1 164712 i)) 163976 i (gI m1 164776 i)) 163992 i kd) b v = if b = 163992 ∧ v = i then kd else if b = 163976 ∧ v = i then gI m1 164776 i else if b = 163960 ∧ v = i then gI m1 164712 i else if b = 163944 ∧ v = i then gI m1 164696 i else gI m1 b v := fun b v => by
          rw [gI_if, gI_if, gI_if, gI_if]
        rw [g1, g1, g1, g1]
        by_cases q : s = i
        · rw [q, c10, c11, c15]
          refine ⟨?_, ?_, ?_, fun u => by omega, fun _ => ?_⟩
          · rw [if_neg (fun u => absurd u.1 (by decide)), if_neg (fun u => absurd u.1 (by decide)), if_neg (fun u => absurd u.1 (by decide)), if_pos ⟨rfl, rfl⟩]
          · rw [if_neg (fun u => absurd u.1 (by decide)), if_neg (fun u => absurd u.1 (by decide)), if_pos ⟨rfl, rfl⟩]
          · rw [if_neg (fun u => absurd u.1 (by decide)), if_pos ⟨rfl, rfl⟩]
          · rw [if_pos ⟨rfl, rfl⟩]
        · have y := hI s (by omega)
          rw [if_neg (fun u => q u.2), if_neg (fun u => q u.2), if_neg (fun u => q u.2), if_neg (fun u => q u.2), if_neg (fun u => q u.2), if_neg (fun u => q u.2), if_neg (fun u => q u.2), if_neg (fun u => q u.2), if_neg (fun u => q u.2), if_neg (fun u => q u.2), if_neg (fun u => q u.2), if_neg (fun u => q u.2), if_neg (fun u => q u.2), if_neg (fun u => q u.2), if_neg (fun u => q u.2), if_neg (fun u => q u.2)]
          exact ⟨y.1, y.2.1, y.2.2.1, fun _ => rfl, fun u => absurd u q⟩
      have fromA : ∀ kd : Int32, gI (sI (sI (sI (sI m1 163944 (nI i).toNatClampNeg (gI m1 164696 (nI i).toNatClampNeg)) 163960 (nI i).toNatClampNeg (gI m1 164712 (nI i).toNatClampNeg)) 163976 (nI i).toNatClampNeg (gI m1 164776 (nI i).toNatClampNeg)) 163992 (nI i).toNatClampNeg kd) 163944 (nI i).toNatClampNeg = (vw m).2 10 i := fun kd => by
        have y := (low kd _ rfl i (by omega)).1
        rw [ic] at y ⊢
        exact y
      have KO : ∀ {s : Nat} {m2 : MM}, s < i → gI m2 163992 s = gI m1 163992 s → KdS (vw m) st wy s m2 := fun {s m2} hs he => by
        have y := (hI s hs).2.2.2
        unfold KdS at y ⊢
        rw [he]
        exact y
      have nextK : ∀ (kd : Int32), rnK (vw m) st wy i → kd = kdV (vw m) wy i → ∀ v : Value, At (E0 1) mX1_load (qv (fun m' => St wLo m m' ∧ FY (vw m) ((vw m).2 11) st wy m')) 11 [.ref 49, .ref 836, .int wy, .int st, .int (nI i + 1), v] [] (sI (sI (sI (sI m1 163944 (nI i).toNatClampNeg (gI m1 164696 (nI i).toNatClampNeg)) 163960 (nI i).toNatClampNeg (gI m1 164712 (nI i).toNatClampNeg)) 163976 (nI i).toNatClampNeg (gI m1 164776 (nI i).toNatClampNeg)) 163992 (nI i).toNatClampNeg kd) := by
        intro kd hk hkd v
        have z := ih (i + 1) v (sI (sI (sI (sI m1 163944 (nI i).toNatClampNeg (gI m1 164696 (nI i).toNatClampNeg)) 163960 (nI i).toNatClampNeg (gI m1 164712 (nI i).toNatClampNeg)) 163976 (nI i).toNatClampNeg (gI m1 164776 (nI i).toNatClampNeg)) 163992 (nI i).toNatClampNeg kd) (by omega) (SA kd) (by rw [gI_if, gI_if, gI_if, gI_if, if_neg (fun u => absurd u.1 (by decide)), if_neg (fun u => absurd u.1 (by decide)), if_neg (fun u => absurd u.1 (by decide)), if_neg (fun u => absurd u.1 (by decide))]; exact h8) (fun s hs => by
          obtain ⟨y1, y2, y3, y4, y5⟩ := low kd _ rfl s hs
          refine ⟨y1, y2, y3, ?_⟩
          by_cases q : s = i
          · rw [q] at y5 ⊢
            exact Or.inl ⟨hk, (y5 rfl).trans hkd⟩
          · exact KO (by omega) (y4 (by omega)))
        rw [← nI_1] at z
        exact z
      have nextM : ∀ (kd : Int32), ¬ rnK (vw m) st wy i → ∀ v : Value, At (E0 1) mX1_load (qv (fun m' => St wLo m m' ∧ FY (vw m) ((vw m).2 11) st wy m')) 11 [.ref 49, .ref 836, .int wy, .int st, .int (nI i + 1), v] [] (sI (sI (sI (sI (sI m1 163944 (nI i).toNatClampNeg (gI m1 164696 (nI i).toNatClampNeg)) 163960 (nI i).toNatClampNeg (gI m1 164712 (nI i).toNatClampNeg)) 163976 (nI i).toNatClampNeg (gI m1 164776 (nI i).toNatClampNeg)) 163992 (nI i).toNatClampNeg kd) 163992 (nI i).toNatClampNeg (-1)) := by
        intro kd hk v
        have z := ih (i + 1) v (sI (sI (sI (sI (sI m1 163944 (nI i).toNatClampNeg (gI m1 164696 (nI i).toNatClampNeg)) 163960 (nI i).toNatClampNeg (gI m1 164712 (nI i).toNatClampNeg)) 163976 (nI i).toNatClampNeg (gI m1 164776 (nI i).toNatClampNeg)) 163992 (nI i).toNatClampNeg kd) 163992 (nI i).toNatClampNeg (-1)) (by omega) ((SA kd).row (a := 163992) rfl (by decide) (tI_lo _) (tI_hi _)) (by rw [gI_if, gI_if, gI_if, gI_if, gI_if, if_neg (fun u => absurd u.1 (by decide)), if_neg (fun u => absurd u.1 (by decide)), if_neg (fun u => absurd u.1 (by decide)), if_neg (fun u => absurd u.1 (by decide)), if_neg (fun u => absurd u.1 (by decide))]; exact h8) (fun s hs => by
          obtain ⟨y1, y2, y3, y4, y5⟩ := low kd _ rfl s hs
          rw [gI_if (b := 163944), if_neg (fun u => absurd u.1 (by decide)), gI_if (b := 163960), if_neg (fun u => absurd u.1 (by decide)), gI_if (b := 163976), if_neg (fun u => absurd u.1 (by decide))]
          refine ⟨y1, y2, y3, ?_⟩
          by_cases q : s = i
          · refine Or.inr ⟨by rw [q]; exact hk, ?_⟩
            rw [gI_if, if_pos ⟨rfl, by rw [q, ic]⟩]
          · refine KO (by omega) ?_
            rw [gI_if, if_neg (fun u => q (by rw [u.2, ic]))]
            exact y4 (by omega))
        rw [← nI_1] at z
        exact z
      refine At.ls okX1_load 160 ⟨_, _, rfl⟩ ?_
      (conv => whnf)
      refine And.intro (fun p => ?_) (fun p => ?_)
      · have p : gI m1 49 8 ≤ nI i := p
        rw [h8, le_i, nI_toInt (by omega), nI_toInt (by omega)] at p
        omega
      (conv => whnf)
      refine And.intro vi ?_
      (conv => whnf)
      refine And.intro vi ?_
      (conv => whnf)
      refine And.intro vi ?_
      (conv => whnf)
      refine And.intro vi ?_
      (conv => whnf)
      refine And.intro vi ?_
      (conv => whnf)
      refine And.intro vi ?_
      (conv => whnf)
      refine And.intro vi ?_
      (conv => whnf)
      refine And.intro (fun p1 => ?_) (fun p1 => ?_)
      · have p1 : ¬ wy = 0 := p1
        have HM : wy = 0 → (vw m).2 16 i ≠ 0 := fun u => absurd u p1
        have KV : (gI m1 164744 (nI i).toNatClampNeg + 0) = kdV (vw m) wy i := by unfold kdV; rw [if_neg p1, c13]
        (conv => whnf)
        refine And.intro vi ?_
        (conv => whnf)
        refine And.intro (fun p2 => ?_) (fun p2 => ?_)
        case refine_2 => exact absurd p2 p1
        (conv => whnf)
        refine And.intro (fun z => absurd rfl z) (fun _ => ?_)
        (conv => whnf)
        refine And.intro vi ?_
        (conv => whnf)
        refine And.intro (fun p3 => ?_) (fun p3 => ?_)
        · have p3 : bt st (gI (sI (sI (sI (sI m1 163944 (nI i).toNatClampNeg (gI m1 164696 (nI i).toNatClampNeg)) 163960 (nI i).toNatClampNeg (gI m1 164712 (nI i).toNatClampNeg)) 163976 (nI i).toNatClampNeg (gI m1 164776 (nI i).toNatClampNeg)) 163992 (nI i).toNatClampNeg (gI m1 164744 (nI i).toNatClampNeg + 0)) 163944 (nI i).toNatClampNeg) = 0 := p3
          rw [fromA] at p3
          (conv => whnf)
          exact And.intro rfl (nextK (gI m1 164744 (nI i).toNatClampNeg + 0) ⟨p3, fun u => HM u⟩ KV (.int 0))
        · have p3 : ¬ bt st (gI (sI (sI (sI (sI m1 163944 (nI i).toNatClampNeg (gI m1 164696 (nI i).toNatClampNeg)) 163960 (nI i).toNatClampNeg (gI m1 164712 (nI i).toNatClampNeg)) 163976 (nI i).toNatClampNeg (gI m1 164776 (nI i).toNatClampNeg)) 163992 (nI i).toNatClampNeg (gI m1 164744 (nI i).toNatClampNeg + 0)) 163944 (nI i).toNatClampNeg) = 0 := p3
          rw [fromA] at p3
          (conv => whnf)
          refine And.intro vi ?_
          (conv => whnf)
          exact And.intro rfl (nextM (gI m1 164744 (nI i).toNatClampNeg + 0) (fun u => p3 u.1) (.int 0))
      · have p1 : wy = 0 := p1
        have KV : (gI m1 164744 (nI i).toNatClampNeg + 4 * gI m1 164792 (nI i).toNatClampNeg) = kdV (vw m) wy i := by unfold kdV; rw [if_pos p1, c13, c16]
        (conv => whnf)
        refine And.intro vi ?_
        (conv => whnf)
        refine And.intro vi ?_
        (conv => whnf)
        refine And.intro (fun p2 => ?_) (fun p2 => ?_)
        case refine_1 => exact absurd p1 p2
        (conv => whnf)
        refine And.intro vi ?_
        (conv => whnf)
        refine And.intro (fun p4 => ?_) (fun p4 => ?_)
        · have p4 : ¬ gI m1 164792 (nI i).toNatClampNeg = 0 := p4
          rw [c16] at p4
          have HM : wy = 0 → (vw m).2 16 i ≠ 0 := fun _ => p4
          (conv => whnf)
          refine And.intro (fun z => absurd rfl z) (fun _ => ?_)
          (conv => whnf)
          refine And.intro vi ?_
          (conv => whnf)
          refine And.intro (fun p3 => ?_) (fun p3 => ?_)
          · have p3 : bt st (gI (sI (sI (sI (sI m1 163944 (nI i).toNatClampNeg (gI m1 164696 (nI i).toNatClampNeg)) 163960 (nI i).toNatClampNeg (gI m1 164712 (nI i).toNatClampNeg)) 163976 (nI i).toNatClampNeg (gI m1 164776 (nI i).toNatClampNeg)) 163992 (nI i).toNatClampNeg (gI m1 164744 (nI i).toNatClampNeg + 4 * gI m1 164792 (nI i).toNatClampNeg)) 163944 (nI i).toNatClampNeg) = 0 := p3
            rw [fromA] at p3
            (conv => whnf)
            exact And.intro rfl (nextK (gI m1 164744 (nI i).toNatClampNeg + 4 * gI m1 164792 (nI i).toNatClampNeg) ⟨p3, fun u => HM u⟩ KV (.int 0))
          · have p3 : ¬ bt st (gI (sI (sI (sI (sI m1 163944 (nI i).toNatClampNeg (gI m1 164696 (nI i).toNatClampNeg)) 163960 (nI i).toNatClampNeg (gI m1 164712 (nI i).toNatClampNeg)) 163976 (nI i).toNatClampNeg (gI m1 164776 (nI i).toNatClampNeg)) 163992 (nI i).toNatClampNeg (gI m1 164744 (nI i).toNatClampNeg + 4 * gI m1 164792 (nI i).toNatClampNeg)) 163944 (nI i).toNatClampNeg) = 0 := p3
            rw [fromA] at p3
            (conv => whnf)
            refine And.intro vi ?_
            (conv => whnf)
            exact And.intro rfl (nextM (gI m1 164744 (nI i).toNatClampNeg + 4 * gI m1 164792 (nI i).toNatClampNeg) (fun u => p3 u.1) (.int 0))
        · have p4 : gI m1 164792 (nI i).toNatClampNeg = 0 := p4
          rw [c16] at p4
          (conv => whnf)
          refine And.intro (fun _ => ?_) (fun z => absurd z (by decide))
          (conv => whnf)
          refine And.intro vi ?_
          (conv => whnf)
          exact And.intro rfl (nextM (gI m1 164744 (nI i).toNatClampNeg + 4 * gI m1 164792 (nI i).toNatClampNeg) (fun u => u.2 p1 p4) (.int 1))
  have S8 : St wLo m (sI m 49 8 (gI m 836 7)) := (St.rf hM).fld (a := 49) (k := 8) (by decide) (show (0 : Int) ≤ _ by rw [c2, nI_toInt (by omega)]; omega) (show _ ≤ (40 : Int) by rw [c2, nI_toInt (by omega)]; omega) (fun _ z => by omega)
  refine At.gs okX1_load 60 ?_
  (conv => whnf)
  exact And.intro rfl (lp ((vw m).1 3) 0 _ _ (by omega) S8 (by rw [gI_if, if_pos ⟨rfl, rfl⟩]; exact c2) (fun s hs => absurd hs (Nat.not_lt_zero _)))
set_option maxRecDepth 100000 in
set_option maxHeartbeats 8000000 in
theorem r_find_720 {m : MM} {wy st d : Int32} {k : Nat} (hM : Mok TYg m) (h : SB 720 m) (hF : FM (vw m) m) (k2 : 2 ≤ k) (k6 : k ≤ 6) (d0 : 0 ≤ d.toInt) (d4 : d.toInt ≤ 400) : CI 9 mX1_find [.ref 49, .ref 836, .int wy, .int (nI k), .int d, .int st] m (FnQ (vw m) st wy k d.toInt m) := by
  have hW := h.2.2.2.2.2
  have e200 : (200 : Int32).toInt = 200 := rfl
  have anew : ∀ v : Value, At (E0 9) mX1_find (qi (FnQ (vw m) st wy k d.toInt m)) 73 [.ref 49, .ref 836, .int wy, .int (nI k), .int d, .int st, v] [] m := by
    intro v
    refine At.ls okFj 80 ⟨_, _, rfl⟩ ?_
    (conv => whnf)
    refine ⟨1, by decide, _, r_load_720 hM h, ?_⟩
    rintro m1 ⟨S1, Y1⟩
    have T1 : St wFn m m1 := (St.rf hM).tr S1 (by decide)
    have T4 : St wFn m (sI (sI (sI (sI m1 49 14 wy) 49 15 d) 49 16 st) 49 13 1) := (((T1.fld (a := 49) (k := 14) (v := wy) (by decide) (tI_lo _) (tI_hi _) (fun _ z => by omega)).fld (a := 49) (k := 15) (v := d) (by decide) (tI_lo _) (tI_hi _) (fun _ z => by omega)).fld (a := 49) (k := 16) (v := st) (by decide) (tI_lo _) (tI_hi _) (fun _ z => by omega)).fld (a := 49) (k := 13) (v := 1) (by decide) (by decide) (by decide) (fun _ z => by omega)
    have F4 : Fr [60129542193, 64424509489, 68719476785, 73014444081] m1 (sI (sI (sI (sI m1 49 14 wy) 49 15 d) 49 16 st) 49 13 1) := Fr_sI (Fr_sI (Fr_sI (Fr_sI (Fr_rfl _ _) (by decide) (fun _ z => by omega)) (by decide) (fun _ z => by omega)) (by decide) (fun _ z => by omega)) (by decide) (fun _ z => by omega)
    (conv => whnf)
    refine And.intro (Or.inr rfl) ?_
    (conv => whnf)
    refine ⟨8, by decide, _, r_search (m0 := sI (sI (sI (sI m1 49 14 wy) 49 15 d) 49 16 st) 49 13 1) (V := vw m) (g := (vw m).2 11) (st := st) (wy := wy) T4.1 hW (GW_of hW) k2 k6 d0 d4 (Y1.fr F4 (by decide)), ?_⟩
    rintro r m5 ⟨S5, h10, F5, hr⟩
    refine ⟨T4.tr S5 (by decide), ?_, F5, hr⟩
    intro _
    rw [fr1 S5.2.2 (by decide : ¬ wk 49 16 ∈ wSe), fr1 S5.2.2 (by decide : ¬ wk 49 14 ∈ wSe), fr1 S5.2.2 (by decide : ¬ wk 49 15 ∈ wSe), h10, nI_clamp (by omega)]
    exact F5
  have at39 : ∀ b : Int32, (b = 0 ∨ (b = 1 ∧ gI m 49 14 = wy ∧ gI m 49 10 = nI k ∧ gI m 49 15 = d ∧ gI m 49 16 = st)) → At (E0 9) mX1_find (qi (FnQ (vw m) st wy k d.toInt m)) 39 [.ref 49, .ref 836, .int wy, .int (nI k), .int d, .int st, .null] [.int b] m := by
    intro b hb
    refine At.ls okFj 80 ⟨_, _, rfl⟩ ?_
    (conv => whnf)
    refine And.intro (fun p => ?_) (fun p => ?_)
    · (conv => whnf)
      exact And.intro rfl (anew _)
    have p : ¬ gI m 49 13 = 0 := p
    (conv => whnf)
    refine And.intro (fun q => ?_) (fun q => ?_)
    · (conv => whnf)
      exact And.intro rfl (anew _)
    have q : ¬ b = 0 := q
    obtain ⟨-, q1, q2, q3, q4⟩ : b = 1 ∧ gI m 49 14 = wy ∧ gI m 49 10 = nI k ∧ gI m 49 15 = d ∧ gI m 49 16 = st := Or.elim hb (fun z => absurd z q) (fun z => z)
    have hS := hF p
    rw [q1, q2, q3, q4, nI_clamp (by omega)] at hS
    have e9 := hS.1
    (conv => whnf)
    refine And.intro (fun z => ?_) (fun z => ?_)
    · have z : gI m 49 9 ≤ 200 := z
      rw [e9, le_i, nI_toInt (by omega), e200] at z
      (conv => whnf)
      refine ⟨St.rf hM, hF, hS, ?_⟩
      rw [e9]
      unfold spR
      rw [if_neg (by omega), show min (rnAC (vw m) ((vw m).2 11) st wy k d.toInt).length 201 = (rnAC (vw m) ((vw m).2 11) st wy k d.toInt).length by omega]
    · have z : ¬ gI m 49 9 ≤ 200 := z
      rw [e9, le_i, nI_toInt (by omega), e200] at z
      (conv => whnf)
      refine ⟨St.rf hM, hF, hS, ?_⟩
      unfold spR
      rw [if_pos (by omega)]
  refine At.gs okFj 80 ?_
  (conv => whnf)
  refine And.intro (fun q1 => ?_) (fun q1 => ?_)
  · (conv => whnf)
    exact And.intro rfl (at39 0 (Or.inl rfl))
  have q1 : wy = gI m 49 14 := q1
  (conv => whnf)
  refine And.intro (fun q2 => ?_) (fun q2 => ?_)
  · (conv => whnf)
    exact And.intro rfl (at39 0 (Or.inl rfl))
  have q2 : nI k = gI m 49 10 := q2
  (conv => whnf)
  refine And.intro (fun q3 => ?_) (fun q3 => ?_)
  · (conv => whnf)
    exact And.intro rfl (at39 0 (Or.inl rfl))
  have q3 : d = gI m 49 15 := q3
  (conv => whnf)
  refine And.intro (fun q4 => ?_) (fun q4 => ?_)
  · (conv => whnf)
    exact And.intro rfl (at39 0 (Or.inl rfl))
  have q4 : st = gI m 49 16 := q4
  (conv => whnf)
  exact And.intro rfl (at39 1 (Or.inr ⟨rfl, q1.symm, q2.symm, q3.symm, q4.symm⟩))
/-! what gather answers: not asked, or all rounds are in the finder -/
set_option maxRecDepth 100000 in
set_option maxHeartbeats 4000000 in
theorem r_gather_720 {m : MM} {wy k d : Int32} (hM : Mok TYg m) (h : SB 720 m) (hc : m.2.2 = (720, 336)) (hF : FM (vw m) m) : CI 10 mX6_gather [.ref 6, .int wy, .int k, .int d] m (fun r m' => (¬ AsP wy k d ∧ r = -1 ∧ m' = m) ∨ (AsP wy k d ∧ FnQ (vw m) (gI m 1175 39) wy k.toNatClampNeg d.toInt m r m')) := by
  obtain ⟨ff, g, c⟩ := m
  obtain rfl : c = (720, 336) := hc
  have e0 : (0 : Int32).toInt = 0 := rfl
  have e1 : (1 : Int32).toInt = 1 := rfl
  have e2 : (2 : Int32).toInt = 2 := rfl
  have e6 : (6 : Int32).toInt = 6 := rfl
  have e4 : (400 : Int32).toInt = 400 := rfl
  have no : ¬ AsP wy k d → (¬ AsP wy k d ∧ (-1 : Int32) = -1 ∧ (ff, g, (720, 336)) = (ff, g, (720, 336))) ∨ (AsP wy k d ∧ FnQ (vw (ff, g, (720, 336))) (gI (ff, g, (720, 336)) 1175 39) wy k.toNatClampNeg d.toInt (ff, g, (720, 336)) (-1) (ff, g, (720, 336))) := fun z => Or.inl ⟨z, rfl, rfl⟩
  refine At.gs okX6_gather 80 ?_
  (conv => whnf)
  refine ⟨1, by decide, _, r_within, ?_⟩
  rintro r1 m1 ⟨hmm, h1⟩; have hmm := hmm.symm; subst hmm
  rw [e0, e1] at h1
  (conv => whnf)
  refine And.intro (fun q => ?_) (fun q => ?_)
  · rcases h1 with ⟨y1, y2⟩ | ⟨y1, y2⟩
    · rw [y2] at q; exact absurd q (by decide)
    · exact no (fun z => y1 z.1)
  rcases h1 with ⟨y1, y2⟩ | ⟨y1, y2⟩
  case inr => exact absurd y2 q
  (conv => whnf)
  refine ⟨1, by decide, _, r_within, ?_⟩
  rintro r2 m2 ⟨hmm, h2⟩; have hmm := hmm.symm; subst hmm
  rw [e2, e6] at h2
  (conv => whnf)
  refine And.intro (fun q2 => ?_) (fun q2 => ?_)
  · rcases h2 with ⟨y3, y4⟩ | ⟨y3, y4⟩
    · rw [y4] at q2; exact absurd q2 (by decide)
    · exact no (fun z => y3 z.2.1)
  rcases h2 with ⟨y3, y4⟩ | ⟨y3, y4⟩
  case inr => exact absurd y4 q2
  (conv => whnf)
  refine ⟨1, by decide, _, r_within, ?_⟩
  rintro r3 m3 ⟨hmm, h3⟩; have hmm := hmm.symm; subst hmm
  rw [e0, e4] at h3
  (conv => whnf)
  refine And.intro (fun q3 => ?_) (fun q3 => ?_)
  · have q3 : ¬ r3 = 0 := q3
    rcases h3 with ⟨y5, y6⟩ | ⟨y5, y6⟩
    case inr => exact absurd y6 q3
    have hA : AsP wy k d := ⟨y1, y3, y5⟩
    have ek : k = nI k.toNatClampNeg := nI_back (by rw [clamp_toNat]; omega)
    have est : gI (ff, g, (720, 336)) 6 5 = gI (ff, g, (720, 336)) 1175 39 := h.2.2.2.1
    have hf := r_find_720 (m := (ff, g, (720, 336))) (wy := wy) (st := gI (ff, g, (720, 336)) 1175 39) (d := d) (k := k.toNatClampNeg) hM h hF (by rw [clamp_toNat]; omega) (by rw [clamp_toNat]; omega) y5.1 y5.2
    rw [← ek, ← est] at hf
    (conv => whnf)
    dsimp only
    (conv => whnf)
    refine ⟨9, by decide, _, hf, ?_⟩
    rintro r4 m4 h4
    rw [est] at h4
    exact Or.inr ⟨hA, h4⟩
  · have q3 : r3 = 0 := q3
    rcases h3 with ⟨y5, y6⟩ | ⟨y5, y6⟩
    · rw [y6] at q3; exact absurd q3 (by decide)
    · exact no (fun z => y5 z.2.2)
set_option maxRecDepth 100000 in
theorem r_rounds_720 {m : MM} {wy k d : Int32} (hM : Mok TYg m) (h : SB 720 m) (hc : m.2.2 = (720, 336)) (hF : FM (vw m) m) : CI 11 mX6_rounds [.ref 6, .int wy, .int k, .int d] m (fun r m' => (¬ AsP wy k d ∧ r = -1 ∧ m' = m) ∨ (AsP wy k d ∧ FnQ (vw m) (gI m 1175 39) wy k.toNatClampNeg d.toInt m r m')) := by
  refine At.gs okX6_rounds 40 ?_
  (conv => whnf)
  refine ⟨10, by decide, _, r_gather_720 hM h hc hF, ?_⟩
  intro r m' hq
  exact hq
