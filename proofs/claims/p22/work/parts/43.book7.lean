/-! book of the model, by hand -/
/-- from a stop on, without loops, with what is known of fields -/
theorem seg_of {Ty : TY} {c : Nat × Nat} {μ : MI} {ac : AC} {full : List CE} {fa : List ACE} {pc fuel : Nat} {L : List AV} {pre : List ((Nat × Nat) × (Int × Int))} (hok : CodeOk μ full) (hS : SndAll (ac.2.1, Ty, c, ac.2.2.2.1) full fa) (hz : ∃ o r, seek pc full = (pc, 0, o) :: r)
    (h : (noSym L && rfM pre (iniA Ty L []) (fun B => ax (fun _ => false) (fun _ _ => false) (rtc Ty false ac) fa fuel (aseek pc fa).tail B)) = true) {ls as : List Value} {m : MM} (hF : FA (fun _ => 0) L ls) (hM : Mok Ty m) (hc : m.2.2 = c) (hpre : ∀ q ∈ pre, q.2.1 ≤ (gI m q.1.1 q.1.2).toInt ∧ (gI m q.1.1 q.1.2).toInt ≤ q.2.2) : At (E0 ac.2.1) μ (PC Ty ac m as) pc ls [] m := by
  rw [Bool.and_eq_true] at h
  have hst := start_ok (c := c) (W := ac.2.2.2.1) (mz := m) (sp := []) h.1 hF hM hc (Fr_rfl _ _)
  obtain ⟨B, hB, hent⟩ := rfM_ok (Γ := (Ty, c, ac.2.2.2.1, m, L.length + 0, iniS Ty L [] ls m)) pre _ _ hst hpre h.2
  refine At.lp hok fuel hz ?_
  refine ax_ok (D := (ac.2.1, Ty, c, ac.2.2.2.1)) (Γ := (Ty, c, ac.2.2.2.1, m, L.length + 0, iniS Ty L [] ls m)) (fun n pc ls st m1 hp _ => by cases hp) ⟨rfl, rfl, rfl, rfl⟩ hS (fun pc A ls st m1 hs _ => by cases hs) (fun A ls2 st2 m2 hs hR => rtc_ok (m0 := m) ⟨rfl, hc.symm, rfl, rfl⟩ hR (fun z => by cases z) hs) fuel _ _ (tail_snd (seek_snd pc hS)) _ ls [] m hent hB
def wLn : List Nat := [34008, 42168, 42184, 99560, 99576, 99592, 99608, 99624, 99640, 99659, 329048, 329064, 329080, 329096, 329112, 329128, 329144, 111669150871, 115964118167, 120259085463, 124554052759, 128849020055, 137438954647, 141733921943, 146028889239, 150323856535, 154618823831, 158913791127]
theorem nextV (c : Nat × Nat) (hc : c = cA ∨ c = cB) {m : MM} (hM : Mok TYg m) (hb : m.2.2 = c) : CV 4 mX7_next [.ref 1175] m (fun m' => QN m none m') := At.mono (nextQ c hc hM hb) (fun r m' q => by
  obtain ⟨⟨p1, p2, p3, o, ho, oo1, oo2⟩, h2⟩ := q
  have ho9 : o.1.1 = 9 := by rw [List.mem_singleton.mp ho]
  cases r with
  | none => exact ⟨⟨p1, p2, p3, o, ho, oo1, oo2⟩, h2⟩
  | some x => exact absurd ho9 oo1.1)
def acLn : AC := ([(2, 1175, 0)], 7, [((9, 0, 0), [], [])], wLn, [])
/-- a line: a fault, or the reader is farther on -/
def QL (m : MM) : MM → Prop := fun m' => St wLn m m' ∧ (gI m' 1175 35 ≠ 0 ∨ psi m' < psi m)
theorem lWr {m : MM} {k : Int32} (hM : Mok TYg m) (h1 : 1 ≤ k.toInt) (h2 : k.toInt ≤ 5) : QL m (sI (sI m 1175 35 k) 1175 36 (gI m 1175 32)) := by
  refine ⟨((St.rf hM).fld (by decide) (show (0 : Int) ≤ _ by omega) (show _ ≤ (5 : Int) by omega) (fun _ q => by omega)).fld (by decide) (tI_lo _) (tI_hi _) (fun _ q => by omega), Or.inl ?_⟩
  show k ≠ 0
  intro q
  subst q
  exact absurd h1 (by decide)
set_option maxRecDepth 100000 in
set_option maxHeartbeats 4000000 in
theorem lnA0 {m : MM} {as : List Value} {w : Int32} (hM : Mok TYg m) (hc : m.2.2 = cA) (hw : gam (fun _ => 0) (0, 0, 0) (.int w)) (hp : ∀ q ∈ ([((1175, 25), (0, 4))] : List ((Nat × Nat) × (Int × Int))), q.2.1 ≤ (gI m q.1.1 q.1.2).toInt ∧ (gI m q.1.1 q.1.2).toInt ≤ q.2.2) : At (E0 7) mX7_line (PC TYg acLn m as) 89 [.ref 1175, .int w] [] m :=
  seg_of (Ty := TYg) (c := cA) (ac := acLn) (L := [(2, 1175, 0), (0, 0, 0)]) (pre := [((1175, 25), (0, 4))]) (fuel := 4000) okX7_line (snX7_line _ _ cA (Or.inl rfl)) ⟨_, _, rfl⟩ (by decide +kernel) ⟨rfl, hw, trivial⟩ hM hc hp
set_option maxRecDepth 100000 in
set_option maxHeartbeats 4000000 in
theorem lnA1 {m : MM} {as : List Value} {w : Int32} (hM : Mok TYg m) (hc : m.2.2 = cA) (hw : gam (fun _ => 0) (0, 1, 1) (.int w)) (hp : ∀ q ∈ ([((1175, 26), (0, 3))] : List ((Nat × Nat) × (Int × Int))), q.2.1 ≤ (gI m q.1.1 q.1.2).toInt ∧ (gI m q.1.1 q.1.2).toInt ≤ q.2.2) : At (E0 7) mX7_line (PC TYg acLn m as) 89 [.ref 1175, .int w] [] m :=
  seg_of (Ty := TYg) (c := cA) (ac := acLn) (L := [(2, 1175, 0), (0, 1, 1)]) (pre := [((1175, 26), (0, 3))]) (fuel := 4000) okX7_line (snX7_line _ _ cA (Or.inl rfl)) ⟨_, _, rfl⟩ (by decide +kernel) ⟨rfl, hw, trivial⟩ hM hc hp
set_option maxRecDepth 100000 in
set_option maxHeartbeats 4000000 in
theorem lnA2 {m : MM} {as : List Value} {w : Int32} (hM : Mok TYg m) (hc : m.2.2 = cA) (hw : gam (fun _ => 0) (0, 2, 2) (.int w)) (hp : ∀ q ∈ ([((1175, 27), (0, 11))] : List ((Nat × Nat) × (Int × Int))), q.2.1 ≤ (gI m q.1.1 q.1.2).toInt ∧ (gI m q.1.1 q.1.2).toInt ≤ q.2.2) : At (E0 7) mX7_line (PC TYg acLn m as) 89 [.ref 1175, .int w] [] m :=
  seg_of (Ty := TYg) (c := cA) (ac := acLn) (L := [(2, 1175, 0), (0, 2, 2)]) (pre := [((1175, 27), (0, 11))]) (fuel := 4000) okX7_line (snX7_line _ _ cA (Or.inl rfl)) ⟨_, _, rfl⟩ (by decide +kernel) ⟨rfl, hw, trivial⟩ hM hc hp
set_option maxRecDepth 100000 in
set_option maxHeartbeats 4000000 in
theorem lnA3 {m : MM} {as : List Value} {w : Int32} (hM : Mok TYg m) (hc : m.2.2 = cA) (hw : gam (fun _ => 0) (0, 3, 3) (.int w)) (hp : ∀ q ∈ ([((1175, 28), (0, 29))] : List ((Nat × Nat) × (Int × Int))), q.2.1 ≤ (gI m q.1.1 q.1.2).toInt ∧ (gI m q.1.1 q.1.2).toInt ≤ q.2.2) : At (E0 7) mX7_line (PC TYg acLn m as) 89 [.ref 1175, .int w] [] m :=
  seg_of (Ty := TYg) (c := cA) (ac := acLn) (L := [(2, 1175, 0), (0, 3, 3)]) (pre := [((1175, 28), (0, 29))]) (fuel := 4000) okX7_line (snX7_line _ _ cA (Or.inl rfl)) ⟨_, _, rfl⟩ (by decide +kernel) ⟨rfl, hw, trivial⟩ hM hc hp
set_option maxRecDepth 100000 in
set_option maxHeartbeats 4000000 in
theorem lnA4 {m : MM} {as : List Value} {w : Int32} (hM : Mok TYg m) (hc : m.2.2 = cA) (hw : gam (fun _ => 0) (0, 4, 4) (.int w)) (hp : ∀ q ∈ ([] : List ((Nat × Nat) × (Int × Int))), q.2.1 ≤ (gI m q.1.1 q.1.2).toInt ∧ (gI m q.1.1 q.1.2).toInt ≤ q.2.2) : At (E0 7) mX7_line (PC TYg acLn m as) 89 [.ref 1175, .int w] [] m :=
  seg_of (Ty := TYg) (c := cA) (ac := acLn) (L := [(2, 1175, 0), (0, 4, 4)]) (pre := []) (fuel := 4000) okX7_line (snX7_line _ _ cA (Or.inl rfl)) ⟨_, _, rfl⟩ (by decide +kernel) ⟨rfl, hw, trivial⟩ hM hc hp
set_option maxRecDepth 100000 in
set_option maxHeartbeats 4000000 in
theorem lnAn {m : MM} {as : List Value} {w : Int32} (hM : Mok TYg m) (hc : m.2.2 = cA) (hw : gam (fun _ => 0) (0, -2147483648, -1) (.int w)) (hp : ∀ q ∈ ([] : List ((Nat × Nat) × (Int × Int))), q.2.1 ≤ (gI m q.1.1 q.1.2).toInt ∧ (gI m q.1.1 q.1.2).toInt ≤ q.2.2) : At (E0 7) mX7_line (PC TYg acLn m as) 89 [.ref 1175, .int w] [] m :=
  seg_of (Ty := TYg) (c := cA) (ac := acLn) (L := [(2, 1175, 0), (0, -2147483648, -1)]) (pre := []) (fuel := 4000) okX7_line (snX7_line _ _ cA (Or.inl rfl)) ⟨_, _, rfl⟩ (by decide +kernel) ⟨rfl, hw, trivial⟩ hM hc hp
set_option maxRecDepth 100000 in
set_option maxHeartbeats 4000000 in
theorem lineQA {m : MM} (hM : Mok TYg m) (hc : m.2.2 = cA) (hf : gI m 1175 35 = 0) (hs : gI m 1175 33 ≠ 4) : CV 7 mX7_line [.ref 1175] m (QL m) := by
  have q25 : (0 : Int) ≤ (gI m 1175 25).toInt ∧ (gI m 1175 25).toInt ≤ 5 := hM.1 1175 25
  have q26 : (0 : Int) ≤ (gI m 1175 26).toInt ∧ (gI m 1175 26).toInt ≤ 4 := hM.1 1175 26
  have q27 : (0 : Int) ≤ (gI m 1175 27).toInt ∧ (gI m 1175 27).toInt ≤ 12 := hM.1 1175 27
  have q28 : (0 : Int) ≤ (gI m 1175 28).toInt ∧ (gI m 1175 28).toInt ≤ 30 := hM.1 1175 28
  have wr : ∀ (k : Int32) (m' : MM), 1 ≤ k.toInt → k.toInt ≤ 5 → ((gI m 1175 35 ≠ 0 ∧ m' = m) ∨ (gI m 1175 35 = 0 ∧ m' = sI (sI m 1175 35 k) 1175 36 (gI m 1175 32))) → QL m m' := by
    rintro k m' k1 k2 (⟨q, -⟩ | ⟨-, rfl⟩)
    · exact absurd hf q
    · exact lWr hM k1 k2
  have e0 : (0 : Int32).toInt = 0 := rfl
  have e4 : (4 : Int32).toInt = 4 := rfl
  have e5 : (5 : Int32).toInt = 5 := rfl
  have e12 : (12 : Int32).toInt = 12 := rfl
  have e30 : (30 : Int32).toInt = 30 := rfl
  have nx : ∀ (w : Int32), w.toInt ≤ 4 → (w = 0 → (gI m 1175 25).toInt ≤ 4) → (w = 1 → (gI m 1175 26).toInt ≤ 3) → (w = 2 → (gI m 1175 27).toInt ≤ 11) → (w = 3 → (gI m 1175 28).toInt ≤ 29) → ∀ m1, QN m none m1 → At (E0 7) mX7_line (qv (QL m)) 89 [.ref 1175, .int w] [] m1 := by
    intro w h4 g0 g1 g2 g3 m1 hQ
    have k25 : gI m1 1175 25 = gI m 1175 25 := fr1 hQ.1.2.2.1 (by decide)
    have k26 : gI m1 1175 26 = gI m 1175 26 := fr1 hQ.1.2.2.1 (by decide)
    have k27 : gI m1 1175 27 = gI m 1175 27 := fr1 hQ.1.2.2.1 (by decide)
    have k28 : gI m1 1175 28 = gI m 1175 28 := fr1 hQ.1.2.2.1 (by decide)
    have hb1 := hQ.1.2.1.trans hc
    have fin : At (E0 7) mX7_line (PC TYg acLn m1 []) 89 [.ref 1175, .int w] [] m1 → At (E0 7) mX7_line (qv (QL m)) 89 [.ref 1175, .int w] [] m1 := fun hA => At.mono hA (fun r m' q => by
      have hS := (St.rf (W := wLn) hM).call hQ.1 (by decide)
      have hS2 := hS.call q (fun _ h => h)
      have h1 := q.2.2.1.2 (by decide)
      have h2 := hQ.2 hs
      obtain ⟨p1, p2, p3, o, ho, oo1, oo2⟩ := q
      have ho9 : o.1.1 = 9 := by rw [List.mem_singleton.mp ho]
      cases r with
      | none => exact ⟨hS2, Or.inr (by omega)⟩
      | some x => exact absurd ho9 oo1.1)
    rcases (show w.toInt = 0 ∨ w.toInt = 1 ∨ w.toInt = 2 ∨ w.toInt = 3 ∨ w.toInt = 4 ∨ w.toInt < 0 by omega) with q | q | q | q | q | q
    · obtain rfl : w = 0 := Int32.toInt_inj.mp q
      exact fin (lnA0 hQ.1.1 hb1 ⟨0, rfl, by decide, by decide⟩ (fun z hz => by rw [List.mem_singleton.mp hz]; show (0 : Int) ≤ (gI m1 1175 25).toInt ∧ (gI m1 1175 25).toInt ≤ 4; rw [k25]; exact ⟨q25.1, g0 rfl⟩))
    · obtain rfl : w = 1 := Int32.toInt_inj.mp q
      exact fin (lnA1 hQ.1.1 hb1 ⟨1, rfl, by decide, by decide⟩ (fun z hz => by rw [List.mem_singleton.mp hz]; show (0 : Int) ≤ (gI m1 1175 26).toInt ∧ (gI m1 1175 26).toInt ≤ 3; rw [k26]; exact ⟨q26.1, g1 rfl⟩))
    · obtain rfl : w = 2 := Int32.toInt_inj.mp q
      exact fin (lnA2 hQ.1.1 hb1 ⟨2, rfl, by decide, by decide⟩ (fun z hz => by rw [List.mem_singleton.mp hz]; show (0 : Int) ≤ (gI m1 1175 27).toInt ∧ (gI m1 1175 27).toInt ≤ 11; rw [k27]; exact ⟨q27.1, g2 rfl⟩))
    · obtain rfl : w = 3 := Int32.toInt_inj.mp q
      exact fin (lnA3 hQ.1.1 hb1 ⟨3, rfl, by decide, by decide⟩ (fun z hz => by rw [List.mem_singleton.mp hz]; show (0 : Int) ≤ (gI m1 1175 28).toInt ∧ (gI m1 1175 28).toInt ≤ 29; rw [k28]; exact ⟨q28.1, g3 rfl⟩))
    · obtain rfl : w = 4 := Int32.toInt_inj.mp q
      exact fin (lnA4 hQ.1.1 hb1 ⟨4, rfl, by decide, by decide⟩ (fun z hz => by cases hz))
    · exact fin (lnAn hQ.1.1 hb1 ⟨w, rfl, tI_lo w, by show w.toInt ≤ (-1 : Int); omega⟩ (fun z hz => by cases hz))
  refine At.gs okX7_line 120 ?_
  (conv => whnf)
  refine And.intro (fun h1 => ?_) (fun h1 => ?_)
  · (conv => whnf)
    refine ⟨1, by decide, _, h_wrong, ?_⟩
    intro m' hm'
    exact wr 1 m' (by decide) (by decide) hm'
  · (conv => whnf)
    refine And.intro (fun h2 => ?_) (fun h2 => ?_)
    · have h2 : gI m 1175 34 ≤ 4 := h2
      rw [le_i] at h2
      rcases (show (gI m 1175 34).toInt = 0 ∨ (gI m 1175 34).toInt = 1 ∨ (gI m 1175 34).toInt = 2 ∨ (gI m 1175 34).toInt = 3 ∨ ((gI m 1175 34).toInt ≠ 0 ∧ (gI m 1175 34).toInt ≠ 1 ∧ (gI m 1175 34).toInt ≠ 2 ∧ (gI m 1175 34).toInt ≠ 3) by omega) with q | q | q | q | q
      · have hw : gI m 1175 34 = 0 := Int32.toInt_inj.mp (show (gI m 1175 34).toInt = (0 : Int32).toInt from q)
        have n1 : ¬ gI m 1175 34 = 1 := fun z => by have := congrArg Int32.toInt z; have ez : (1 : Int32).toInt = 1 := rfl; omega
        have n2 : ¬ gI m 1175 34 = 2 := fun z => by have := congrArg Int32.toInt z; have ez : (2 : Int32).toInt = 2 := rfl; omega
        have n3 : ¬ gI m 1175 34 = 3 := fun z => by have := congrArg Int32.toInt z; have ez : (3 : Int32).toInt = 3 := rfl; omega
        (conv => whnf)
        refine And.intro (fun z => absurd hw z) (fun _ => ?_)
        (conv => whnf)
        refine And.intro (fun _ => ?_) (fun hcn => ?_)
        · (conv => whnf)
          refine ⟨1, by decide, _, h_wrong, ?_⟩
          intro m' hm'
          exact wr 2 m' (by decide) (by decide) hm'
        have hcn : ¬ gI m 1175 25 = 5 := hcn
        (conv => whnf)
        refine And.intro (fun _ => ?_) (fun z => absurd z n1)
        (conv => whnf)
        refine And.intro (fun _ => ?_) (fun z => absurd z n2)
        (conv => whnf)
        refine And.intro (fun _ => ?_) (fun z => absurd z n3)
        (conv => whnf)
        refine ⟨4, by decide, _, nextV cA (Or.inl rfl) hM hc, ?_⟩
        intro m1 hQ
        (conv => whnf)
        exact And.intro rfl (nx _ (by omega) (fun _ => by have hne : (gI m 1175 25).toInt ≠ 5 := fun z => hcn (Int32.toInt_inj.mp z); omega) (fun z => absurd z n1) (fun z => absurd z n2) (fun z => absurd z n3) m1 hQ)
      · have hw : gI m 1175 34 = 1 := Int32.toInt_inj.mp (show (gI m 1175 34).toInt = (1 : Int32).toInt from q)
        have n0 : ¬ gI m 1175 34 = 0 := fun z => by have := congrArg Int32.toInt z; have ez : (0 : Int32).toInt = 0 := rfl; omega
        have n2 : ¬ gI m 1175 34 = 2 := fun z => by have := congrArg Int32.toInt z; have ez : (2 : Int32).toInt = 2 := rfl; omega
        have n3 : ¬ gI m 1175 34 = 3 := fun z => by have := congrArg Int32.toInt z; have ez : (3 : Int32).toInt = 3 := rfl; omega
        (conv => whnf)
        refine And.intro (fun _ => ?_) (fun z => absurd z n0)
        (conv => whnf)
        refine And.intro (fun z => absurd hw z) (fun _ => ?_)
        (conv => whnf)
        refine And.intro (fun _ => ?_) (fun hcn => ?_)
        · (conv => whnf)
          refine ⟨1, by decide, _, h_wrong, ?_⟩
          intro m' hm'
          exact wr 2 m' (by decide) (by decide) hm'
        have hcn : ¬ gI m 1175 26 = 4 := hcn
        (conv => whnf)
        refine And.intro (fun _ => ?_) (fun z => absurd z n2)
        (conv => whnf)
        refine And.intro (fun _ => ?_) (fun z => absurd z n3)
        (conv => whnf)
        refine ⟨4, by decide, _, nextV cA (Or.inl rfl) hM hc, ?_⟩
        intro m1 hQ
        (conv => whnf)
        exact And.intro rfl (nx _ (by omega) (fun z => absurd z n0) (fun _ => by have hne : (gI m 1175 26).toInt ≠ 4 := fun z => hcn (Int32.toInt_inj.mp z); omega) (fun z => absurd z n2) (fun z => absurd z n3) m1 hQ)
      · have hw : gI m 1175 34 = 2 := Int32.toInt_inj.mp (show (gI m 1175 34).toInt = (2 : Int32).toInt from q)
        have n0 : ¬ gI m 1175 34 = 0 := fun z => by have := congrArg Int32.toInt z; have ez : (0 : Int32).toInt = 0 := rfl; omega
        have n1 : ¬ gI m 1175 34 = 1 := fun z => by have := congrArg Int32.toInt z; have ez : (1 : Int32).toInt = 1 := rfl; omega
        have n3 : ¬ gI m 1175 34 = 3 := fun z => by have := congrArg Int32.toInt z; have ez : (3 : Int32).toInt = 3 := rfl; omega
        (conv => whnf)
        refine And.intro (fun _ => ?_) (fun z => absurd z n0)
        (conv => whnf)
        refine And.intro (fun _ => ?_) (fun z => absurd z n1)
        (conv => whnf)
        refine And.intro (fun z => absurd hw z) (fun _ => ?_)
        (conv => whnf)
        refine And.intro (fun _ => ?_) (fun hcn => ?_)
        · (conv => whnf)
          refine ⟨1, by decide, _, h_wrong, ?_⟩
          intro m' hm'
          exact wr 2 m' (by decide) (by decide) hm'
        have hcn : ¬ gI m 1175 27 = 12 := hcn
        (conv => whnf)
        refine And.intro (fun _ => ?_) (fun z => absurd z n3)
        (conv => whnf)
        refine ⟨4, by decide, _, nextV cA (Or.inl rfl) hM hc, ?_⟩
        intro m1 hQ
        (conv => whnf)
        exact And.intro rfl (nx _ (by omega) (fun z => absurd z n0) (fun z => absurd z n1) (fun _ => by have hne : (gI m 1175 27).toInt ≠ 12 := fun z => hcn (Int32.toInt_inj.mp z); omega) (fun z => absurd z n3) m1 hQ)
      · have hw : gI m 1175 34 = 3 := Int32.toInt_inj.mp (show (gI m 1175 34).toInt = (3 : Int32).toInt from q)
        have n0 : ¬ gI m 1175 34 = 0 := fun z => by have := congrArg Int32.toInt z; have ez : (0 : Int32).toInt = 0 := rfl; omega
        have n1 : ¬ gI m 1175 34 = 1 := fun z => by have := congrArg Int32.toInt z; have ez : (1 : Int32).toInt = 1 := rfl; omega
        have n2 : ¬ gI m 1175 34 = 2 := fun z => by have := congrArg Int32.toInt z; have ez : (2 : Int32).toInt = 2 := rfl; omega
        (conv => whnf)
        refine And.intro (fun _ => ?_) (fun z => absurd z n0)
        (conv => whnf)
        refine And.intro (fun _ => ?_) (fun z => absurd z n1)
        (conv => whnf)
        refine And.intro (fun _ => ?_) (fun z => absurd z n2)
        (conv => whnf)
        refine And.intro (fun z => absurd hw z) (fun _ => ?_)
        (conv => whnf)
        refine And.intro (fun hcn => ?_) (fun _ => ?_)
        case refine_2 =>
          (conv => whnf)
          refine ⟨1, by decide, _, h_wrong, ?_⟩
          intro m' hm'
          exact wr 2 m' (by decide) (by decide) hm'
        have hcn : ¬ gI m 1175 28 = 30 := hcn
        (conv => whnf)
        refine ⟨4, by decide, _, nextV cA (Or.inl rfl) hM hc, ?_⟩
        intro m1 hQ
        (conv => whnf)
        exact And.intro rfl (nx _ (by omega) (fun z => absurd z n0) (fun z => absurd z n1) (fun z => absurd z n2) (fun _ => by have hne : (gI m 1175 28).toInt ≠ 30 := fun z => hcn (Int32.toInt_inj.mp z); omega) m1 hQ)
      · have n0 : ¬ gI m 1175 34 = 0 := fun z => by have := congrArg Int32.toInt z; have ez : (0 : Int32).toInt = 0 := rfl; omega
        have n1 : ¬ gI m 1175 34 = 1 := fun z => by have := congrArg Int32.toInt z; have ez : (1 : Int32).toInt = 1 := rfl; omega
        have n2 : ¬ gI m 1175 34 = 2 := fun z => by have := congrArg Int32.toInt z; have ez : (2 : Int32).toInt = 2 := rfl; omega
        have n3 : ¬ gI m 1175 34 = 3 := fun z => by have := congrArg Int32.toInt z; have ez : (3 : Int32).toInt = 3 := rfl; omega
        (conv => whnf)
        refine And.intro (fun _ => ?_) (fun z => absurd z n0)
        (conv => whnf)
        refine And.intro (fun _ => ?_) (fun z => absurd z n1)
        (conv => whnf)
        refine And.intro (fun _ => ?_) (fun z => absurd z n2)
        (conv => whnf)
        refine And.intro (fun _ => ?_) (fun z => absurd z n3)
        (conv => whnf)
        refine ⟨4, by decide, _, nextV cA (Or.inl rfl) hM hc, ?_⟩
        intro m1 hQ
        (conv => whnf)
        exact And.intro rfl (nx _ (by omega) (fun z => absurd z n0) (fun z => absurd z n1) (fun z => absurd z n2) (fun z => absurd z n3) m1 hQ)
    · (conv => whnf)
      refine ⟨1, by decide, _, h_wrong, ?_⟩
      intro m' hm'
      exact wr 1 m' (by decide) (by decide) hm'
set_option maxRecDepth 100000 in
set_option maxHeartbeats 4000000 in
theorem lnB0 {m : MM} {as : List Value} {w : Int32} (hM : Mok TYg m) (hc : m.2.2 = cB) (hw : gam (fun _ => 0) (0, 0, 0) (.int w)) (hp : ∀ q ∈ ([((1175, 25), (0, 4))] : List ((Nat × Nat) × (Int × Int))), q.2.1 ≤ (gI m q.1.1 q.1.2).toInt ∧ (gI m q.1.1 q.1.2).toInt ≤ q.2.2) : At (E0 7) mX7_line (PC TYg acLn m as) 89 [.ref 1175, .int w] [] m :=
  seg_of (Ty := TYg) (c := cB) (ac := acLn) (L := [(2, 1175, 0), (0, 0, 0)]) (pre := [((1175, 25), (0, 4))]) (fuel := 4000) okX7_line (snX7_line _ _ cB (Or.inr rfl)) ⟨_, _, rfl⟩ (by decide +kernel) ⟨rfl, hw, trivial⟩ hM hc hp
set_option maxRecDepth 100000 in
set_option maxHeartbeats 4000000 in
theorem lnB1 {m : MM} {as : List Value} {w : Int32} (hM : Mok TYg m) (hc : m.2.2 = cB) (hw : gam (fun _ => 0) (0, 1, 1) (.int w)) (hp : ∀ q ∈ ([((1175, 26), (0, 3))] : List ((Nat × Nat) × (Int × Int))), q.2.1 ≤ (gI m q.1.1 q.1.2).toInt ∧ (gI m q.1.1 q.1.2).toInt ≤ q.2.2) : At (E0 7) mX7_line (PC TYg acLn m as) 89 [.ref 1175, .int w] [] m :=
  seg_of (Ty := TYg) (c := cB) (ac := acLn) (L := [(2, 1175, 0), (0, 1, 1)]) (pre := [((1175, 26), (0, 3))]) (fuel := 4000) okX7_line (snX7_line _ _ cB (Or.inr rfl)) ⟨_, _, rfl⟩ (by decide +kernel) ⟨rfl, hw, trivial⟩ hM hc hp
set_option maxRecDepth 100000 in
set_option maxHeartbeats 4000000 in
theorem lnB2 {m : MM} {as : List Value} {w : Int32} (hM : Mok TYg m) (hc : m.2.2 = cB) (hw : gam (fun _ => 0) (0, 2, 2) (.int w)) (hp : ∀ q ∈ ([((1175, 27), (0, 11))] : List ((Nat × Nat) × (Int × Int))), q.2.1 ≤ (gI m q.1.1 q.1.2).toInt ∧ (gI m q.1.1 q.1.2).toInt ≤ q.2.2) : At (E0 7) mX7_line (PC TYg acLn m as) 89 [.ref 1175, .int w] [] m :=
  seg_of (Ty := TYg) (c := cB) (ac := acLn) (L := [(2, 1175, 0), (0, 2, 2)]) (pre := [((1175, 27), (0, 11))]) (fuel := 4000) okX7_line (snX7_line _ _ cB (Or.inr rfl)) ⟨_, _, rfl⟩ (by decide +kernel) ⟨rfl, hw, trivial⟩ hM hc hp
set_option maxRecDepth 100000 in
set_option maxHeartbeats 4000000 in
theorem lnB3 {m : MM} {as : List Value} {w : Int32} (hM : Mok TYg m) (hc : m.2.2 = cB) (hw : gam (fun _ => 0) (0, 3, 3) (.int w)) (hp : ∀ q ∈ ([((1175, 28), (0, 29))] : List ((Nat × Nat) × (Int × Int))), q.2.1 ≤ (gI m q.1.1 q.1.2).toInt ∧ (gI m q.1.1 q.1.2).toInt ≤ q.2.2) : At (E0 7) mX7_line (PC TYg acLn m as) 89 [.ref 1175, .int w] [] m :=
  seg_of (Ty := TYg) (c := cB) (ac := acLn) (L := [(2, 1175, 0), (0, 3, 3)]) (pre := [((1175, 28), (0, 29))]) (fuel := 4000) okX7_line (snX7_line _ _ cB (Or.inr rfl)) ⟨_, _, rfl⟩ (by decide +kernel) ⟨rfl, hw, trivial⟩ hM hc hp
set_option maxRecDepth 100000 in
set_option maxHeartbeats 4000000 in
theorem lnB4 {m : MM} {as : List Value} {w : Int32} (hM : Mok TYg m) (hc : m.2.2 = cB) (hw : gam (fun _ => 0) (0, 4, 4) (.int w)) (hp : ∀ q ∈ ([] : List ((Nat × Nat) × (Int × Int))), q.2.1 ≤ (gI m q.1.1 q.1.2).toInt ∧ (gI m q.1.1 q.1.2).toInt ≤ q.2.2) : At (E0 7) mX7_line (PC TYg acLn m as) 89 [.ref 1175, .int w] [] m :=
  seg_of (Ty := TYg) (c := cB) (ac := acLn) (L := [(2, 1175, 0), (0, 4, 4)]) (pre := []) (fuel := 4000) okX7_line (snX7_line _ _ cB (Or.inr rfl)) ⟨_, _, rfl⟩ (by decide +kernel) ⟨rfl, hw, trivial⟩ hM hc hp
set_option maxRecDepth 100000 in
set_option maxHeartbeats 4000000 in
theorem lnBn {m : MM} {as : List Value} {w : Int32} (hM : Mok TYg m) (hc : m.2.2 = cB) (hw : gam (fun _ => 0) (0, -2147483648, -1) (.int w)) (hp : ∀ q ∈ ([] : List ((Nat × Nat) × (Int × Int))), q.2.1 ≤ (gI m q.1.1 q.1.2).toInt ∧ (gI m q.1.1 q.1.2).toInt ≤ q.2.2) : At (E0 7) mX7_line (PC TYg acLn m as) 89 [.ref 1175, .int w] [] m :=
  seg_of (Ty := TYg) (c := cB) (ac := acLn) (L := [(2, 1175, 0), (0, -2147483648, -1)]) (pre := []) (fuel := 4000) okX7_line (snX7_line _ _ cB (Or.inr rfl)) ⟨_, _, rfl⟩ (by decide +kernel) ⟨rfl, hw, trivial⟩ hM hc hp
set_option maxRecDepth 100000 in
set_option maxHeartbeats 4000000 in
theorem lineQB {m : MM} (hM : Mok TYg m) (hc : m.2.2 = cB) (hf : gI m 1175 35 = 0) (hs : gI m 1175 33 ≠ 4) : CV 7 mX7_line [.ref 1175] m (QL m) := by
  have q25 : (0 : Int) ≤ (gI m 1175 25).toInt ∧ (gI m 1175 25).toInt ≤ 5 := hM.1 1175 25
  have q26 : (0 : Int) ≤ (gI m 1175 26).toInt ∧ (gI m 1175 26).toInt ≤ 4 := hM.1 1175 26
  have q27 : (0 : Int) ≤ (gI m 1175 27).toInt ∧ (gI m 1175 27).toInt ≤ 12 := hM.1 1175 27
  have q28 : (0 : Int) ≤ (gI m 1175 28).toInt ∧ (gI m 1175 28).toInt ≤ 30 := hM.1 1175 28
  have wr : ∀ (k : Int32) (m' : MM), 1 ≤ k.toInt → k.toInt ≤ 5 → ((gI m 1175 35 ≠ 0 ∧ m' = m) ∨ (gI m 1175 35 = 0 ∧ m' = sI (sI m 1175 35 k) 1175 36 (gI m 1175 32))) → QL m m' := by
    rintro k m' k1 k2 (⟨q, -⟩ | ⟨-, rfl⟩)
    · exact absurd hf q
    · exact lWr hM k1 k2
  have e0 : (0 : Int32).toInt = 0 := rfl
  have e4 : (4 : Int32).toInt = 4 := rfl
  have e5 : (5 : Int32).toInt = 5 := rfl
  have e12 : (12 : Int32).toInt = 12 := rfl
  have e30 : (30 : Int32).toInt = 30 := rfl
  have nx : ∀ (w : Int32), w.toInt ≤ 4 → (w = 0 → (gI m 1175 25).toInt ≤ 4) → (w = 1 → (gI m 1175 26).toInt ≤ 3) → (w = 2 → (gI m 1175 27).toInt ≤ 11) → (w = 3 → (gI m 1175 28).toInt ≤ 29) → ∀ m1, QN m none m1 → At (E0 7) mX7_line (qv (QL m)) 89 [.ref 1175, .int w] [] m1 := by
    intro w h4 g0 g1 g2 g3 m1 hQ
    have k25 : gI m1 1175 25 = gI m 1175 25 := fr1 hQ.1.2.2.1 (by decide)
    have k26 : gI m1 1175 26 = gI m 1175 26 := fr1 hQ.1.2.2.1 (by decide)
    have k27 : gI m1 1175 27 = gI m 1175 27 := fr1 hQ.1.2.2.1 (by decide)
    have k28 : gI m1 1175 28 = gI m 1175 28 := fr1 hQ.1.2.2.1 (by decide)
    have hb1 := hQ.1.2.1.trans hc
    have fin : At (E0 7) mX7_line (PC TYg acLn m1 []) 89 [.ref 1175, .int w] [] m1 → At (E0 7) mX7_line (qv (QL m)) 89 [.ref 1175, .int w] [] m1 := fun hA => At.mono hA (fun r m' q => by
      have hS := (St.rf (W := wLn) hM).call hQ.1 (by decide)
      have hS2 := hS.call q (fun _ h => h)
      have h1 := q.2.2.1.2 (by decide)
      have h2 := hQ.2 hs
      obtain ⟨p1, p2, p3, o, ho, oo1, oo2⟩ := q
      have ho9 : o.1.1 = 9 := by rw [List.mem_singleton.mp ho]
      cases r with
      | none => exact ⟨hS2, Or.inr (by omega)⟩
      | some x => exact absurd ho9 oo1.1)
    rcases (show w.toInt = 0 ∨ w.toInt = 1 ∨ w.toInt = 2 ∨ w.toInt = 3 ∨ w.toInt = 4 ∨ w.toInt < 0 by omega) with q | q | q | q | q | q
    · obtain rfl : w = 0 := Int32.toInt_inj.mp q
      exact fin (lnB0 hQ.1.1 hb1 ⟨0, rfl, by decide, by decide⟩ (fun z hz => by rw [List.mem_singleton.mp hz]; show (0 : Int) ≤ (gI m1 1175 25).toInt ∧ (gI m1 1175 25).toInt ≤ 4; rw [k25]; exact ⟨q25.1, g0 rfl⟩))
    · obtain rfl : w = 1 := Int32.toInt_inj.mp q
      exact fin (lnB1 hQ.1.1 hb1 ⟨1, rfl, by decide, by decide⟩ (fun z hz => by rw [List.mem_singleton.mp hz]; show (0 : Int) ≤ (gI m1 1175 26).toInt ∧ (gI m1 1175 26).toInt ≤ 3; rw [k26]; exact ⟨q26.1, g1 rfl⟩))
    · obtain rfl : w = 2 := Int32.toInt_inj.mp q
      exact fin (lnB2 hQ.1.1 hb1 ⟨2, rfl, by decide, by decide⟩ (fun z hz => by rw [List.mem_singleton.mp hz]; show (0 : Int) ≤ (gI m1 1175 27).toInt ∧ (gI m1 1175 27).toInt ≤ 11; rw [k27]; exact ⟨q27.1, g2 rfl⟩))
    · obtain rfl : w = 3 := Int32.toInt_inj.mp q
      exact fin (lnB3 hQ.1.1 hb1 ⟨3, rfl, by decide, by decide⟩ (fun z hz => by rw [List.mem_singleton.mp hz]; show (0 : Int) ≤ (gI m1 1175 28).toInt ∧ (gI m1 1175 28).toInt ≤ 29; rw [k28]; exact ⟨q28.1, g3 rfl⟩))
    · obtain rfl : w = 4 := Int32.toInt_inj.mp q
      exact fin (lnB4 hQ.1.1 hb1 ⟨4, rfl, by decide, by decide⟩ (fun z hz => by cases hz))
    · exact fin (lnBn hQ.1.1 hb1 ⟨w, rfl, tI_lo w, by show w.toInt ≤ (-1 : Int); omega⟩ (fun z hz => by cases hz))
  refine At.gs okX7_line 120 ?_
  (conv => whnf)
  refine And.intro (fun h1 => ?_) (fun h1 => ?_)
  · (conv => whnf)
    refine ⟨1, by decide, _, h_wrong, ?_⟩
    intro m' hm'
    exact wr 1 m' (by decide) (by decide) hm'
  · (conv => whnf)
    refine And.intro (fun h2 => ?_) (fun h2 => ?_)
    · have h2 : gI m 1175 34 ≤ 4 := h2
      rw [le_i] at h2
      rcases (show (gI m 1175 34).toInt = 0 ∨ (gI m 1175 34).toInt = 1 ∨ (gI m 1175 34).toInt = 2 ∨ (gI m 1175 34).toInt = 3 ∨ ((gI m 1175 34).toInt ≠ 0 ∧ (gI m 1175 34).toInt ≠ 1 ∧ (gI m 1175 34).toInt ≠ 2 ∧ (gI m 1175 34).toInt ≠ 3) by omega) with q | q | q | q | q
      · have hw : gI m 1175 34 = 0 := Int32.toInt_inj.mp (show (gI m 1175 34).toInt = (0 : Int32).toInt from q)
        have n1 : ¬ gI m 1175 34 = 1 := fun z => by have := congrArg Int32.toInt z; have ez : (1 : Int32).toInt = 1 := rfl; omega
        have n2 : ¬ gI m 1175 34 = 2 := fun z => by have := congrArg Int32.toInt z; have ez : (2 : Int32).toInt = 2 := rfl; omega
        have n3 : ¬ gI m 1175 34 = 3 := fun z => by have := congrArg Int32.toInt z; have ez : (3 : Int32).toInt = 3 := rfl; omega
        (conv => whnf)
        refine And.intro (fun z => absurd hw z) (fun _ => ?_)
        (conv => whnf)
        refine And.intro (fun _ => ?_) (fun hcn => ?_)
        · (conv => whnf)
          refine ⟨1, by decide, _, h_wrong, ?_⟩
          intro m' hm'
          exact wr 2 m' (by decide) (by decide) hm'
        have hcn : ¬ gI m 1175 25 = 5 := hcn
        (conv => whnf)
        refine And.intro (fun _ => ?_) (fun z => absurd z n1)
        (conv => whnf)
        refine And.intro (fun _ => ?_) (fun z => absurd z n2)
        (conv => whnf)
        refine And.intro (fun _ => ?_) (fun z => absurd z n3)
        (conv => whnf)
        refine ⟨4, by decide, _, nextV cB (Or.inr rfl) hM hc, ?_⟩
        intro m1 hQ
        (conv => whnf)
        exact And.intro rfl (nx _ (by omega) (fun _ => by have hne : (gI m 1175 25).toInt ≠ 5 := fun z => hcn (Int32.toInt_inj.mp z); omega) (fun z => absurd z n1) (fun z => absurd z n2) (fun z => absurd z n3) m1 hQ)
      · have hw : gI m 1175 34 = 1 := Int32.toInt_inj.mp (show (gI m 1175 34).toInt = (1 : Int32).toInt from q)
        have n0 : ¬ gI m 1175 34 = 0 := fun z => by have := congrArg Int32.toInt z; have ez : (0 : Int32).toInt = 0 := rfl; omega
        have n2 : ¬ gI m 1175 34 = 2 := fun z => by have := congrArg Int32.toInt z; have ez : (2 : Int32).toInt = 2 := rfl; omega
        have n3 : ¬ gI m 1175 34 = 3 := fun z => by have := congrArg Int32.toInt z; have ez : (3 : Int32).toInt = 3 := rfl; omega
        (conv => whnf)
        refine And.intro (fun _ => ?_) (fun z => absurd z n0)
        (conv => whnf)
        refine And.intro (fun z => absurd hw z) (fun _ => ?_)
        (conv => whnf)
        refine And.intro (fun _ => ?_) (fun hcn => ?_)
        · (conv => whnf)
          refine ⟨1, by decide, _, h_wrong, ?_⟩
          intro m' hm'
          exact wr 2 m' (by decide) (by decide) hm'
        have hcn : ¬ gI m 1175 26 = 4 := hcn
        (conv => whnf)
        refine And.intro (fun _ => ?_) (fun z => absurd z n2)
        (conv => whnf)
        refine And.intro (fun _ => ?_) (fun z => absurd z n3)
        (conv => whnf)
        refine ⟨4, by decide, _, nextV cB (Or.inr rfl) hM hc, ?_⟩
        intro m1 hQ
        (conv => whnf)
        exact And.intro rfl (nx _ (by omega) (fun z => absurd z n0) (fun _ => by have hne : (gI m 1175 26).toInt ≠ 4 := fun z => hcn (Int32.toInt_inj.mp z); omega) (fun z => absurd z n2) (fun z => absurd z n3) m1 hQ)
      · have hw : gI m 1175 34 = 2 := Int32.toInt_inj.mp (show (gI m 1175 34).toInt = (2 : Int32).toInt from q)
        have n0 : ¬ gI m 1175 34 = 0 := fun z => by have := congrArg Int32.toInt z; have ez : (0 : Int32).toInt = 0 := rfl; omega
        have n1 : ¬ gI m 1175 34 = 1 := fun z => by have := congrArg Int32.toInt z; have ez : (1 : Int32).toInt = 1 := rfl; omega
        have n3 : ¬ gI m 1175 34 = 3 := fun z => by have := congrArg Int32.toInt z; have ez : (3 : Int32).toInt = 3 := rfl; omega
        (conv => whnf)
        refine And.intro (fun _ => ?_) (fun z => absurd z n0)
        (conv => whnf)
        refine And.intro (fun _ => ?_) (fun z => absurd z n1)
        (conv => whnf)
        refine And.intro (fun z => absurd hw z) (fun _ => ?_)
        (conv => whnf)
        refine And.intro (fun _ => ?_) (fun hcn => ?_)
        · (conv => whnf)
          refine ⟨1, by decide, _, h_wrong, ?_⟩
          intro m' hm'
          exact wr 2 m' (by decide) (by decide) hm'
        have hcn : ¬ gI m 1175 27 = 12 := hcn
        (conv => whnf)
        refine And.intro (fun _ => ?_) (fun z => absurd z n3)
        (conv => whnf)
        refine ⟨4, by decide, _, nextV cB (Or.inr rfl) hM hc, ?_⟩
        intro m1 hQ
        (conv => whnf)
        exact And.intro rfl (nx _ (by omega) (fun z => absurd z n0) (fun z => absurd z n1) (fun _ => by have hne : (gI m 1175 27).toInt ≠ 12 := fun z => hcn (Int32.toInt_inj.mp z); omega) (fun z => absurd z n3) m1 hQ)
      · have hw : gI m 1175 34 = 3 := Int32.toInt_inj.mp (show (gI m 1175 34).toInt = (3 : Int32).toInt from q)
        have n0 : ¬ gI m 1175 34 = 0 := fun z => by have := congrArg Int32.toInt z; have ez : (0 : Int32).toInt = 0 := rfl; omega
        have n1 : ¬ gI m 1175 34 = 1 := fun z => by have := congrArg Int32.toInt z; have ez : (1 : Int32).toInt = 1 := rfl; omega
        have n2 : ¬ gI m 1175 34 = 2 := fun z => by have := congrArg Int32.toInt z; have ez : (2 : Int32).toInt = 2 := rfl; omega
        (conv => whnf)
        refine And.intro (fun _ => ?_) (fun z => absurd z n0)
        (conv => whnf)
        refine And.intro (fun _ => ?_) (fun z => absurd z n1)
        (conv => whnf)
        refine And.intro (fun _ => ?_) (fun z => absurd z n2)
        (conv => whnf)
        refine And.intro (fun z => absurd hw z) (fun _ => ?_)
        (conv => whnf)
        refine And.intro (fun hcn => ?_) (fun _ => ?_)
        case refine_2 =>
          (conv => whnf)
          refine ⟨1, by decide, _, h_wrong, ?_⟩
          intro m' hm'
          exact wr 2 m' (by decide) (by decide) hm'
        have hcn : ¬ gI m 1175 28 = 30 := hcn
        (conv => whnf)
        refine ⟨4, by decide, _, nextV cB (Or.inr rfl) hM hc, ?_⟩
        intro m1 hQ
        (conv => whnf)
        exact And.intro rfl (nx _ (by omega) (fun z => absurd z n0) (fun z => absurd z n1) (fun z => absurd z n2) (fun _ => by have hne : (gI m 1175 28).toInt ≠ 30 := fun z => hcn (Int32.toInt_inj.mp z); omega) m1 hQ)
      · have n0 : ¬ gI m 1175 34 = 0 := fun z => by have := congrArg Int32.toInt z; have ez : (0 : Int32).toInt = 0 := rfl; omega
        have n1 : ¬ gI m 1175 34 = 1 := fun z => by have := congrArg Int32.toInt z; have ez : (1 : Int32).toInt = 1 := rfl; omega
        have n2 : ¬ gI m 1175 34 = 2 := fun z => by have := congrArg Int32.toInt z; have ez : (2 : Int32).toInt = 2 := rfl; omega
        have n3 : ¬ gI m 1175 34 = 3 := fun z => by have := congrArg Int32.toInt z; have ez : (3 : Int32).toInt = 3 := rfl; omega
        (conv => whnf)
        refine And.intro (fun _ => ?_) (fun z => absurd z n0)
        (conv => whnf)
        refine And.intro (fun _ => ?_) (fun z => absurd z n1)
        (conv => whnf)
        refine And.intro (fun _ => ?_) (fun z => absurd z n2)
        (conv => whnf)
        refine And.intro (fun _ => ?_) (fun z => absurd z n3)
        (conv => whnf)
        refine ⟨4, by decide, _, nextV cB (Or.inr rfl) hM hc, ?_⟩
        intro m1 hQ
        (conv => whnf)
        exact And.intro rfl (nx _ (by omega) (fun z => absurd z n0) (fun z => absurd z n1) (fun z => absurd z n2) (fun z => absurd z n3) m1 hQ)
    · (conv => whnf)
      refine ⟨1, by decide, _, h_wrong, ?_⟩
      intro m' hm'
      exact wr 1 m' (by decide) (by decide) hm'
theorem lineQ (c : Nat × Nat) (hc : c = cA ∨ c = cB) {m : MM} (hM : Mok TYg m) (hb : m.2.2 = c) (hf : gI m 1175 35 = 0) (hs : gI m 1175 33 ≠ 4) : CV 7 mX7_line [.ref 1175] m (QL m) := by
  rcases hc with rfl | rfl
  · exact lineQA hM hb hf hs
  · exact lineQB hM hb hf hs
def wLy : List Nat := [34008, 42168, 42184, 99560, 99576, 99592, 99608, 99624, 99640, 329048, 329064, 329080, 329096, 329112, 329128, 329144, 17179870359, 21474837655, 25769804951, 30064772247, 34359739543, 171798693015, 176093660311]
def acLy : AC := ([(2, 1175, 0)], 1, [((9, 0, 0), [], [])], [34008, 42168, 42184, 99560, 99576, 99592, 99608, 99624, 99640, 329048, 329064, 329080, 329096, 329112, 329128, 329144], [])
set_option maxRecDepth 100000 in
set_option maxHeartbeats 4000000 in
theorem lyLoop (c : Nat × Nat) (hc : c = cA ∨ c = cB) {m : MM} {as : List Value} (hM : Mok TYg m) (hb : m.2.2 = c) : At (E0 1) mX7_lays (PC TYg acLy m as) 52 [.ref 1175, .int 0] [] m := by
  rcases hc with rfl | rfl
  · exact loop_of (Ty := TYg) (c := cA) (ac := acLy) (ann := [(52, [(2, 1175, 0), (0, 0, 5)], [(3, 0, 0, 4), (0, 1, 0, 4294967296)]), (93, [(2, 1175, 0), (0, 0, 4)], [(3, 0, 0, 3), (0, 1, 0, 4294967296)]), (120, [(2, 1175, 0), (0, 0, 12)], [(3, 0, 0, 2), (0, 1, 0, 4294967296)]), (224, [(2, 1175, 0), (0, 0, 40)], [(3, 0, 0, 1), (0, 1, 0, 4294967296)])]) (fuel := 600) okX7_lays (snX7_lays _ _ cA (Or.inl rfl)) (List.forall_mem_cons.mpr ⟨⟨_, _, rfl⟩, List.forall_mem_cons.mpr ⟨⟨_, _, rfl⟩, List.forall_mem_cons.mpr ⟨⟨_, _, rfl⟩, List.forall_mem_cons.mpr ⟨⟨_, _, rfl⟩, (fun q hq => by cases hq)⟩⟩⟩⟩) (by decide +kernel) (52, [(2, 1175, 0), (0, 0, 5)], [(3, 0, 0, 4), (0, 1, 0, 4294967296)]) List.mem_cons_self rfl ⟨rfl, ⟨0, rfl, by decide, by decide⟩, trivial⟩ hM hb
  · exact loop_of (Ty := TYg) (c := cB) (ac := acLy) (ann := [(52, [(2, 1175, 0), (0, 0, 5)], [(3, 0, 0, 4), (0, 1, 0, 4294967296)]), (93, [(2, 1175, 0), (0, 0, 4)], [(3, 0, 0, 3), (0, 1, 0, 4294967296)]), (120, [(2, 1175, 0), (0, 0, 12)], [(3, 0, 0, 2), (0, 1, 0, 4294967296)]), (224, [(2, 1175, 0), (0, 0, 40)], [(3, 0, 0, 1), (0, 1, 0, 4294967296)])]) (fuel := 600) okX7_lays (snX7_lays _ _ cB (Or.inr rfl)) (List.forall_mem_cons.mpr ⟨⟨_, _, rfl⟩, List.forall_mem_cons.mpr ⟨⟨_, _, rfl⟩, List.forall_mem_cons.mpr ⟨⟨_, _, rfl⟩, List.forall_mem_cons.mpr ⟨⟨_, _, rfl⟩, (fun q hq => by cases hq)⟩⟩⟩⟩) (by decide +kernel) (52, [(2, 1175, 0), (0, 0, 5)], [(3, 0, 0, 4), (0, 1, 0, 4294967296)]) List.mem_cons_self rfl ⟨rfl, ⟨0, rfl, by decide, by decide⟩, trivial⟩ hM hb
set_option maxRecDepth 100000 in
set_option maxHeartbeats 4000000 in
theorem laysQ (c : Nat × Nat) (hc : c = cA ∨ c = cB) {m : MM} (hM : Mok TYg m) (hb : m.2.2 = c) : CV 1 mX7_lays [.ref 1175] m (fun m' => St wLy m m' ∧ gI m' 1175 7 = gI m' 1175 6) := by
  have q25 : (0 : Int) ≤ (gI m 1175 25).toInt ∧ (gI m 1175 25).toInt ≤ 5 := hM.1 1175 25
  have q26 : (0 : Int) ≤ (gI m 1175 26).toInt ∧ (gI m 1175 26).toInt ≤ 4 := hM.1 1175 26
  have q27 : (0 : Int) ≤ (gI m 1175 27).toInt ∧ (gI m 1175 27).toInt ≤ 12 := hM.1 1175 27
  have q28 : (0 : Int) ≤ (gI m 1175 28).toInt ∧ (gI m 1175 28).toInt ≤ 30 := hM.1 1175 28
  have hS1 : St wLy m (sI m 1175 3 (gI m 1175 25)) := (St.rf hM).fld (a := 1175) (k := 3) (v := gI m 1175 25) (by decide) q25.1 q25.2 (fun _ q => by omega)
  have hS2 : St wLy m (sI (sI m 1175 3 (gI m 1175 25)) 1175 4 (gI m 1175 26)) := hS1.fld (a := 1175) (k := 4) (v := gI m 1175 26) (by decide) q26.1 q26.2 (fun _ q => by omega)
  have hS3 := hS2.fld (a := 1175) (k := 5) (v := gI m 1175 27) (by decide) q27.1 q27.2 (fun _ q => by omega)
  have hS4 := hS3.fld (a := 1175) (k := 6) (v := gI m 1175 28) (by decide) q28.1 (show _ ≤ (40 : Int) by omega) (fun _ q => by omega)
  have hS5 := hS4.fld (a := 1175) (k := 7) (v := gI m 1175 28) (by decide) q28.1 (show _ ≤ (40 : Int) by omega) (fun _ q => by omega)
  have hS6 := hS5.fld (a := 1175) (k := 39) (v := 0) (by decide) (by decide) (by decide) (fun _ q => by omega)
  have hS7 := hS6.fld (a := 1175) (k := 40) (v := 0) (by decide) (by decide) (by decide) (fun _ q => by omega)
  refine At.gs okX7_lays 60 ?_
  (conv => whnf)
  refine And.intro rfl (At.mono (lyLoop c hc (as := []) hS7.1 (hS7.2.1.trans hb)) (fun r m' q => ?_))
  have k6 : gI m' 1175 6 = gI m 1175 28 := (fr1 q.2.2.1 (by decide)).trans rfl
  have k7 : gI m' 1175 7 = gI m 1175 28 := (fr1 q.2.2.1 (by decide)).trans rfl
  have hS8 := hS7.call q (by decide)
  obtain ⟨p1, p2, p3, o, ho, oo1, oo2⟩ := q
  have ho9 : o.1.1 = 9 := by rw [List.mem_singleton.mp ho]
  cases r with
  | none => exact ⟨hS8, k7.trans k6.symm⟩
  | some x => exact absurd ho9 oo1.1
def wBk : List Nat := [7, 34008, 42168, 42184, 99560, 99576, 99592, 99608, 99624, 99640, 99659, 329048, 329064, 329080, 329096, 329112, 329128, 329144, 4294968471, 12884903063, 17179870359, 21474837655, 25769804951, 30064772247, 34359739543, 111669150871, 115964118167, 120259085463, 124554052759, 128849020055, 133143987351, 137438954647, 141733921943, 146028889239, 150323856535, 154618823831, 158913791127, 163208758423, 167503725719, 171798693015, 176093660311]
def QB (m : MM) (n : Int32) : Int32 → MM → Prop := fun _ m' => St wBk m m' ∧ (((n.toInt < 0 ∨ (gI m 1175 2).toInt < n.toInt) ∧ gI m' 1175 2 = gI m 1175 2) ∨ ((0 ≤ n.toInt ∧ n.toInt ≤ (gI m 1175 2).toInt) ∧ gI m' 1175 2 = 0)) ∧ ((gI m 1175 7).toInt ≤ (gI m 1175 6).toInt → (gI m' 1175 7).toInt ≤ (gI m' 1175 6).toInt)
theorem St.bf {m m1 : MM} {k : Nat} {v : Int32} (h : St wBk m m1) (ha : wk 1175 k ∈ wBk) (h1 : (tyF TYg.1 TYg.2 1175 k).1 ≤ v.toInt) (h2 : v.toInt ≤ (tyF TYg.1 TYg.2 1175 k).2) : St wBk m (sI m1 1175 k v) := h.fld ha h1 h2 (fun q => absurd (by decide) q)
set_option maxRecDepth 100000 in
set_option maxHeartbeats 4000000 in
theorem bkLoop (c : Nat × Nat) (hc : c = cA ∨ c = cB) {m : MM} {n : Int32} (hb : m.2.2 = c) (n0 : 0 ≤ n.toInt) (n1 : n.toInt ≤ (gI m 1175 2).toInt) : ∀ (N : Nat) (m1 : MM), psi m1 = N → St wBk m m1 → gI m1 1175 2 = 0 → gI m1 1175 6 = gI m 1175 6 → gI m1 1175 7 = gI m 1175 7 → At (E0 9) mX7_book (qi (QB m n)) 74 [.ref 1175, .int n] [] m1 := by
  have step : ∀ (m1 : MM), St wBk m m1 → gI m1 1175 2 = 0 → gI m1 1175 6 = gI m 1175 6 → gI m1 1175 7 = gI m 1175 7 → (gI m1 1175 35 = 0 → gI m1 1175 33 ≠ 4 → ∀ m2, QL m1 m2 → At (E0 9) mX7_book (qi (QB m n)) 74 [.ref 1175, .int n] [] m2) → At (E0 9) mX7_book (qi (QB m n)) 74 [.ref 1175, .int n] [] m1 := by
    intro m1 hS z2 z6 z7 hgo
    have q35 : (0 : Int) ≤ (gI m1 1175 35).toInt ∧ (gI m1 1175 35).toInt ≤ 5 := hS.1.1 1175 35
    have hS1 : St wBk m (sI m1 1175 37 (gI m1 1175 35)) := hS.bf (by decide) q35.1 q35.2
    have hS2 : St wBk m (sI (sI m1 1175 37 (gI m1 1175 35)) 1175 38 (gI m1 1175 36)) := hS1.bf (by decide) (tI_lo _) (tI_hi _)
    refine At.ls okX7_book 90 ⟨_, _, rfl⟩ ?_
    (conv => whnf)
    refine And.intro (fun h1 => ?_) (fun h1 => ?_)
    · (conv => whnf)
      refine And.intro (fun h2 => absurd h2 h1) (fun _ => ?_)
      refine ⟨hS2, Or.inr ⟨⟨n0, n1⟩, z2⟩, fun h => ?_⟩
      show (gI m1 1175 7).toInt ≤ (gI m1 1175 6).toInt
      rw [z6, z7]
      exact h
    · (conv => whnf)
      refine And.intro (fun h2 => ?_) (fun h2 => ?_)
      · (conv => whnf)
        refine And.intro (fun _ => ?_) (fun h3 => absurd h1 h3)
        (conv => whnf)
        refine ⟨1, by decide, _, laysQ c hc hS2.1 (hS2.2.1.trans hb), ?_⟩
        rintro m3 ⟨hS3, k67⟩
        have hS4 : St wBk m m3 := ⟨hS3.1, hS3.2.1.trans hS2.2.1, Fr_tr hS2.2.2 hS3.2.2 (by decide)⟩
        refine ⟨hS4, Or.inr ⟨⟨n0, n1⟩, (fr1 hS3.2.2 (by decide)).trans z2⟩, fun _ => ?_⟩
        rw [k67]
        exact Int.le_refl _
      · (conv => whnf)
        refine ⟨7, by decide, _, lineQ c hc hS.1 (hS.2.1.trans hb) h1 h2, ?_⟩
        intro m2 hQ
        (conv => whnf)
        exact And.intro rfl (hgo h1 h2 m2 hQ)
  intro N
  induction N using Nat.strongRecOn with
  | ind N ih =>
    intro m1 hN hS z2 z6 z7
    refine step m1 hS z2 z6 z7 (fun hf hs m2 hQ => ?_)
    have hS2 : St wBk m m2 := ⟨hQ.1.1, hQ.1.2.1.trans hS.2.1, Fr_tr hS.2.2 hQ.1.2.2 (by decide)⟩
    have y2 : gI m2 1175 2 = 0 := (fr1 hQ.1.2.2 (by decide)).trans z2
    have y6 : gI m2 1175 6 = gI m 1175 6 := (fr1 hQ.1.2.2 (by decide)).trans z6
    have y7 : gI m2 1175 7 = gI m 1175 7 := (fr1 hQ.1.2.2 (by decide)).trans z7
    rcases hQ.2 with q | q
    · exact step m2 hS2 y2 y6 y7 (fun hz => absurd hz q)
    · exact ih _ (by omega) m2 rfl hS2 y2 y6 y7
set_option maxRecDepth 100000 in
set_option maxHeartbeats 4000000 in
theorem hpBook7 (c : Nat × Nat) (hc : c = cA ∨ c = cB) {m : MM} {n : Int32} (hM : Mok TYg m) (hb : m.2.2 = c) : CI 9 mX7_book [.ref 1175, .int n] m (QB m n) := by
  have hS0 : St wBk m (sI m 1175 0 0) := (St.rf hM).bf (by decide) (by decide) (by decide)
  have q2 : (0 : Int) ≤ (gI m 1175 2).toInt ∧ (gI m 1175 2).toInt ≤ 800 := hM.1 1175 2
  have e0 : (0 : Int32).toInt = 0 := rfl
  refine At.gs okX7_book 90 ?_
  (conv => whnf)
  refine And.intro (fun h => ?_) (fun h => ?_)
  · rw [lt_i] at h
    exact ⟨hS0, Or.inl ⟨Or.inl (by omega), rfl⟩, fun q => q⟩
  · rw [lt_i] at h
    (conv => whnf)
    refine And.intro (fun h2 => ?_) (fun h2 => ?_)
    · have h2 : n ≤ gI m 1175 2 := h2
      rw [le_i] at h2
      have hS := ((((((((((hS0.bf (k := 30) (v := n) (by decide) (show (0 : Int) ≤ _ by omega) (show _ ≤ (800 : Int) by omega)).bf (k := 2) (v := 0) (by decide) (by decide) (by decide)).bf (k := 31) (v := 0) (by decide) (by decide) (by decide)).bf (k := 35) (v := 0) (by decide) (by decide) (by decide)).bf (k := 36) (v := -1) (by decide) (by decide) (by decide)).bf (k := 25) (v := 0) (by decide) (by decide) (by decide)).bf (k := 26) (v := 0) (by decide) (by decide) (by decide)).bf (k := 27) (v := 0) (by decide) (by decide) (by decide)).bf (k := 28) (v := 0) (by decide) (by decide) (by decide)).bf (k := 29) (v := 0) (by decide) (by decide) (by decide))
      (conv => whnf)
      refine ⟨4, by decide, _, nextV c hc hS.1 (hS.2.1.trans hb), ?_⟩
      intro m2 hQ
      have hS2 := hS.call hQ.1 (by decide)
      (conv => whnf)
      exact And.intro rfl (bkLoop c hc hb (by omega) h2 _ m2 rfl hS2 ((fr1 hQ.1.2.2.1 (by decide)).trans rfl) ((fr1 hQ.1.2.2.1 (by decide)).trans rfl) ((fr1 hQ.1.2.2.1 (by decide)).trans rfl))
    · have h2 : ¬ n ≤ gI m 1175 2 := h2
      rw [le_i] at h2
      exact ⟨hS0, Or.inl ⟨Or.inr (by omega), rfl⟩, fun q => q⟩
