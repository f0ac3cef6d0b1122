/-! the law: what holds between two calls -/
/-- the tapes are alike -/
def TR (m : MM) : Prop := ∀ i : Nat, (i : Int) < (gI m 19 1).toInt → BR (gI m 3276842 i) (gI m 3277992 i)
/-- the faults are alike -/
def FQ (m : MM) : Prop := gI m 19 2 = gI m 1175 37 ∧ gI m 19 3 = gI m 1175 38
/-- the state, with the finder's memory -/
def SQ (m : MM) : Prop := SB m.2.2.1 m ∧ ST m ∧ PT m ∧ FMm m
theorem SQ.fr {W : List Nat} {m m' : MM} (h : SQ m) (hc : m.2.2 = cA ∨ m.2.2 = cB) (e : m'.2.2 = m.2.2) (hF : Fr W m m') (hW : (sRF W && fmAll W) = true) : SQ m' := by
  rw [Bool.and_eq_true] at hW
  have z := SR.fr (m := m) ⟨h.1, h.2.1, h.2.2.1⟩ hc e hF hW.1
  exact ⟨z.1, z.2.1, z.2.2, h.2.2.2.fr hF hW.2⟩
def LI (m : MM) : Prop := Mok TYg m ∧ (m.2.2 = cA ∨ m.2.2 = cB) ∧ gI m 19 1 = gI m 1175 2 ∧ (gI m 1175 7).toInt ≤ (gI m 1175 6).toInt ∧ TR m ∧ FQ m ∧ SQ m
def kQ (W : List Nat) : Bool := !(elm 3276842 W) && !(elm 3277992 W) && !(elm 12884901907 W) && !(elm 17179869203 W) && !(elm 163208758423 W) && !(elm 167503725719 W) && (sRF W && fmAll W)
theorem elmF {a : Nat} {W : List Nat} (h : (!(elm a W)) = true) : elm a W = false := by
  cases hq : elm a W with
  | false => rfl
  | true => rw [hq] at h; cases h
def kTF (W : List Nat) : Bool := !(elm 3276842 W) && !(elm 3277992 W) && !(elm 12884901907 W) && !(elm 17179869203 W) && !(elm 163208758423 W) && !(elm 167503725719 W)
theorem TF_fr {W : List Nat} {m m' : MM} (hF : Fr W m m') (h1 : gI m' 19 1 = gI m 19 1) (hk : kTF W = true) (h : TR m ∧ FQ m) : TR m' ∧ FQ m' := by
  unfold kTF at hk
  simp only [Bool.and_eq_true] at hk
  obtain ⟨⟨⟨⟨⟨a1, a2⟩, a3⟩, a4⟩, a5⟩, a6⟩ := hk
  refine ⟨fun i hi => ?_, ?_, ?_⟩
  · rw [h1] at hi
    rw [row1 hF rfl (elmF a1), row1 hF rfl (elmF a2)]
    exact h.1 i hi
  · rw [fr1 hF (nelm6 a3 : ¬ wk 19 2 ∈ W), fr1 hF (nelm6 a5 : ¬ wk 1175 37 ∈ W)]
    exact h.2.1
  · rw [fr1 hF (nelm6 a4 : ¬ wk 19 3 ∈ W), fr1 hF (nelm6 a6 : ¬ wk 1175 38 ∈ W)]
    exact h.2.2
theorem TQ_fr {W : List Nat} {m m' : MM} (hF : Fr W m m') (h1 : gI m' 19 1 = gI m 19 1) (hc : m.2.2 = cA ∨ m.2.2 = cB) (hb : m'.2.2 = m.2.2) (hk : kQ W = true) (h : TR m ∧ FQ m ∧ SQ m) : TR m' ∧ FQ m' ∧ SQ m' := by
  unfold kQ at hk
  simp only [Bool.and_eq_true] at hk
  obtain ⟨⟨⟨⟨⟨⟨a1, a2⟩, a3⟩, a4⟩, a5⟩, a6⟩, a7, a8⟩ := hk
  have z := TF_fr hF h1 (by unfold kTF; simp only [Bool.and_eq_true]; exact ⟨⟨⟨⟨⟨a1, a2⟩, a3⟩, a4⟩, a5⟩, a6⟩) ⟨h.1, h.2.1⟩
  exact ⟨z.1, z.2, h.2.2.fr hc hb hF (by rw [Bool.and_eq_true]; exact ⟨a7, a8⟩)⟩
theorem SafeC.cj {Ty : TY} {c : Nat × Nat} {μ : MI} {ac : AC} (h : SafeC Ty c μ ac) (hI : ac.2.2.1.all (fun o => isJ o.1) = true) {as : List Value} {m : MM} (hF : FA (fun _ => 0) ac.1 as) (hM : Mok Ty m) (hc : m.2.2 = c) (hp : ∀ q ∈ ac.2.2.2.2, q.2.1 ≤ (gI m q.1.1 q.1.2).toInt ∧ (gI m q.1.1 q.1.2).toInt ≤ q.2.2) : CJ ac.2.1 μ as m (fun r m' => PC Ty ac m as (some (.long r)) m') :=
  At.mono (h as m hF hM hc hp) (fun r m' hP => by
    obtain ⟨p1, p2, p3, o, ho, oo1, oo2⟩ := hP
    have hi := List.all_eq_true.mp hI o ho
    cases r with
    | none =>
      have e9 : o.1.1 = 9 := oo1
      unfold isJ at hi
      rw [e9] at hi
      cases hi
    | some x =>
      obtain ⟨n9, g⟩ := oo1
      obtain ⟨i, rfl⟩ := gam_long hi g
      exact ⟨p1, p2, p3, o, ho, ⟨n9, g⟩, oo2⟩)
theorem CJ.mono {d : Nat} {μ : MI} {as : List Value} {m : MM} {P P' : Int64 → MM → Prop} (h : CJ d μ as m P) (hp : ∀ x m', P x m' → P' x m') : CJ d μ as m P' := At.mono h (fun r m' q => by
  unfold qj at q ⊢
  split at q
  · exact hp _ _ q
  · exact q.elim)
/-- the four places that the law's relation speaks of stay -/
def k4 (W : List Nat) : Bool := !(elm 8589934611 W) && !(elm 12884903063 W) && !(elm 30064772247 W) && !(elm 34359739543 W) && kQ W
theorem nelm {a : Nat} {W : List Nat} (h : (!(elm a W)) = true) : ¬ a ∈ W := fun q => by
  have : elm a W = true := List.any_eq_true.mpr ⟨a, q, Nat.beq_refl _⟩
  rw [this] at h
  cases h
theorem LI_fr {W : List Nat} {m m' : MM} (hL : LI m) (hM : Mok TYg m') (hb : m'.2.2 = m.2.2) (hF : Fr W m m') (hk : k4 W = true) : LI m' := by
  unfold k4 at hk
  simp only [Bool.and_eq_true] at hk
  obtain ⟨⟨⟨⟨a1, a2⟩, a3⟩, a4⟩, aq⟩ := hk
  obtain ⟨h1, h2, h3, h4, h5⟩ := hL
  have e1 : gI m' 19 1 = gI m 19 1 := fr1 hF (nelm a1)
  have e2 : gI m' 1175 2 = gI m 1175 2 := fr1 hF (nelm a2)
  have e3 : gI m' 1175 6 = gI m 1175 6 := fr1 hF (nelm a3)
  have e4 : gI m' 1175 7 = gI m 1175 7 := fr1 hF (nelm a4)
  refine ⟨hM, by rw [hb]; exact h2, by rw [e1, e2]; exact h3, by rw [e3, e4]; exact h4, TQ_fr hF e1 h2 hb aq h5⟩
/-- as LI_fr, the finder's memory told apart -/
def k4x (W : List Nat) : Bool := !(elm 8589934611 W) && !(elm 12884903063 W) && !(elm 30064772247 W) && !(elm 34359739543 W) && kTF W && sRF W
theorem LI_fm {m m' : MM} (hL : LI m) (h : FmP m m') : LI m' := by
  obtain ⟨hM, hb, hF⟩ := h.1
  obtain ⟨h1, h2, h3, h4, h5, h6, h7⟩ := hL
  have e1 : gI m' 19 1 = gI m 19 1 := fr1 hF (by decide)
  have e2 : gI m' 1175 2 = gI m 1175 2 := fr1 hF (by decide)
  have e3 : gI m' 1175 6 = gI m 1175 6 := fr1 hF (by decide)
  have e4 : gI m' 1175 7 = gI m 1175 7 := fr1 hF (by decide)
  have z := TF_fr hF e1 (by decide +kernel) ⟨h5, h6⟩
  have y := SR.fr (m := m) ⟨h7.1, h7.2.1, h7.2.2.1⟩ h2 hb hF (by decide +kernel)
  refine ⟨hM, by rw [hb]; exact h2, by rw [e1, e2]; exact h3, by rw [e3, e4]; exact h4, z.1, z.2, y.1, y.2.1, y.2.2, ?_⟩
  unfold FMm
  rw [vw_fr hF (by decide +kernel)]
  exact h.2
theorem li_ci {μ : MI} {ac : AC} (h : ∀ c, c = cA ∨ c = cB → SafeC TYg c μ ac) (hI : ac.2.2.1.all (fun o => isI o.1) = true) (hp : ac.2.2.2.2 = []) (hk : k4 ac.2.2.2.1 = true) {as : List Value} {m : MM} (hF : FA (fun _ => 0) ac.1 as) (hL : LI m) : CI ac.2.1 μ as m (fun _ m' => LI m') :=
  CI.mono (SafeC.ci (h m.2.2 hL.2.1) hI hF hL.1 rfl (fun q hq => by rw [hp] at hq; cases hq)) (fun x m' hP => LI_fr hL hP.1 hP.2.1 hP.2.2.1 hk)
theorem li_cj {μ : MI} {ac : AC} (h : ∀ c, c = cA ∨ c = cB → SafeC TYg c μ ac) (hI : ac.2.2.1.all (fun o => isJ o.1) = true) (hp : ac.2.2.2.2 = []) (hk : k4 ac.2.2.2.1 = true) {as : List Value} {m : MM} (hF : FA (fun _ => 0) ac.1 as) (hL : LI m) : CJ ac.2.1 μ as m (fun _ m' => LI m') :=
  CJ.mono (SafeC.cj (h m.2.2 hL.2.1) hI hF hL.1 rfl (fun q hq => by rw [hp] at hq; cases hq)) (fun x m' hP => LI_fr hL hP.1 hP.2.1 hP.2.2.1 hk)
theorem l_X6_fault {m : MM} {a1 : Int32} (hL : LI m) : CI 1 mX6_fault [.ref 6, .int a1] m (fun _ m' => LI m') := li_ci (fun c hc => sfX6_fault c hc _ List.mem_cons_self) (by decide +kernel) rfl (by decide +kernel) ⟨rfl, top_in, trivial⟩ hL
theorem l_X7_fault {m : MM} {a1 : Int32} (hL : LI m) : CI 1 mX7_fault [.ref 1175, .int a1] m (fun _ m' => LI m') := li_ci (fun c hc => sfX7_fault c hc _ List.mem_cons_self) (by decide +kernel) rfl (by decide +kernel) ⟨rfl, top_in, trivial⟩ hL
theorem l_X6_named {m : MM} {a1 : Int32} {a2 : Int32} (hL : LI m) : CI 2 mX6_named [.ref 6, .int a1, .int a2] m (fun _ m' => LI m') := li_ci (fun c hc => sfX6_named c hc _ List.mem_cons_self) (by decide +kernel) rfl (by decide +kernel) ⟨rfl, top_in, top_in, trivial⟩ hL
theorem l_X7_named {m : MM} {a1 : Int32} {a2 : Int32} (hL : LI m) : CI 2 mX7_named [.ref 1175, .int a1, .int a2] m (fun _ m' => LI m') := li_ci (fun c hc => sfX7_named c hc _ List.mem_cons_self) (by decide +kernel) rfl (by decide +kernel) ⟨rfl, top_in, top_in, trivial⟩ hL
theorem l_X6_firm {m : MM} {a1 : Int32} {a2 : Int32} (hL : LI m) : CI 5 mX6_firm [.ref 6, .int a1, .int a2] m (fun _ m' => LI m') := li_ci (fun c hc => sfX6_firm c hc _ List.mem_cons_self) (by decide +kernel) rfl (by decide +kernel) ⟨rfl, top_in, top_in, trivial⟩ hL
theorem l_X7_firm {m : MM} {a1 : Int32} {a2 : Int32} (hL : LI m) : CI 5 mX7_firm [.ref 1175, .int a1, .int a2] m (fun _ m' => LI m') := li_ci (fun c hc => sfX7_firm c hc _ List.mem_cons_self) (by decide +kernel) rfl (by decide +kernel) ⟨rfl, top_in, top_in, trivial⟩ hL
theorem l_X6_rounds {m : MM} {a1 : Int32} {a2 : Int32} {a3 : Int32} (hL : LI m) : CI 11 mX6_rounds [.ref 6, .int a1, .int a2, .int a3] m (fun _ m' => LI m') := by
  have hS : SB m.2.2.1 m := hL.2.2.2.2.2.2.1
  have hF : FM (vw m) m := hL.2.2.2.2.2.2.2.2.2
  rcases hL.2.1 with q | q
  · rw [q] at hS; exact CI.mono (r_rounds_336 hL.1 hS q hF) (fun r m' h => LI_fm hL (ga_of hL.1 hF h).1)
  · rw [q] at hS; exact CI.mono (r_rounds_720 hL.1 hS q hF) (fun r m' h => LI_fm hL (ga_of hL.1 hF h).1)
theorem l_X6_round {m : MM} {a1 : Int32} {a2 : Int32} {a3 : Int32} {a4 : Int32} {a5 : Int32} (hL : LI m) : CI 11 mX6_round [.ref 6, .int a1, .int a2, .int a3, .int a4, .int a5] m (fun _ m' => LI m') := by
  have hS : SB m.2.2.1 m := hL.2.2.2.2.2.2.1
  have hF : FM (vw m) m := hL.2.2.2.2.2.2.2.2.2
  rcases hL.2.1 with q | q
  · rw [q] at hS; exact CI.mono (f_round_336 hL.1 hS q hF) (fun r m' h => LI_fm hL h)
  · rw [q] at hS; exact CI.mono (f_round_720 hL.1 hS q hF) (fun r m' h => LI_fm hL h)
theorem l_X6_takes {m : MM} {a1 : Int32} {a2 : Int32} {a3 : Int32} (hL : LI m) : CJ 11 mX6_takes [.ref 6, .int a1, .int a2, .int a3] m (fun _ m' => LI m') := by
  have hS : SB m.2.2.1 m := hL.2.2.2.2.2.2.1
  have hF : FM (vw m) m := hL.2.2.2.2.2.2.2.2.2
  rcases hL.2.1 with q | q
  · rw [q] at hS; exact CJ.mono (f_takes_336 hL.1 hS q hF) (fun r m' h => LI_fm hL h)
  · rw [q] at hS; exact CJ.mono (f_takes_720 hL.1 hS q hF) (fun r m' h => LI_fm hL h)
theorem l_X6_luck {m : MM} {a1 : Int32} {a2 : Int32} {a3 : Int32} {a4 : Int32} {a5 : Int32} (hL : LI m) : CI 11 mX6_luck [.ref 6, .int a1, .int a2, .int a3, .int a4, .int a5] m (fun _ m' => LI m') := by
  have hS : SB m.2.2.1 m := hL.2.2.2.2.2.2.1
  have hF : FM (vw m) m := hL.2.2.2.2.2.2.2.2.2
  rcases hL.2.1 with q | q
  · rw [q] at hS; exact CI.mono (f_luck_336 hL.1 hS q hF) (fun r m' h => LI_fm hL h)
  · rw [q] at hS; exact CI.mono (f_luck_720 hL.1 hS q hF) (fun r m' h => LI_fm hL h)
theorem l_X6_signs {m : MM} {a1 : Int32} {a2 : Int32} {a3 : Int32} {a4 : Int32} (hL : LI m) : CI 11 mX6_signs [.ref 6, .int a1, .int a2, .int a3, .int a4] m (fun _ m' => LI m') := by
  have hS : SB m.2.2.1 m := hL.2.2.2.2.2.2.1
  have hF : FM (vw m) m := hL.2.2.2.2.2.2.2.2.2
  rcases hL.2.1 with q | q
  · rw [q] at hS; exact CI.mono (f_signs_336 hL.1 hS q hF) (fun r m' h => LI_fm hL h)
  · rw [q] at hS; exact CI.mono (f_signs_720 hL.1 hS q hF) (fun r m' h => LI_fm hL h)
theorem l_X6_knew {m : MM} {a1 : Int32} {a2 : Int32} {a3 : Int32} {a4 : Int32} {a5 : Int32} (hL : LI m) : CI 11 mX6_knew [.ref 6, .int a1, .int a2, .int a3, .int a4, .int a5] m (fun _ m' => LI m') := by
  have hS : SB m.2.2.1 m := hL.2.2.2.2.2.2.1
  have hF : FM (vw m) m := hL.2.2.2.2.2.2.2.2.2
  rcases hL.2.1 with q | q
  · rw [q] at hS; exact CI.mono (f_knew_336 hL.1 hS q hF) (fun r m' h => LI_fm hL h)
  · rw [q] at hS; exact CI.mono (f_knew_720 hL.1 hS q hF) (fun r m' h => LI_fm hL h)
theorem l_X6_fewest {m : MM} {a1 : Int32} {a2 : Int32} {a3 : Int32} {a4 : Int64} (hL : LI m) : CI 11 mX6_fewest [.ref 6, .int a1, .int a2, .int a3, .long a4] m (fun _ m' => LI m') := by
  have hS : SB m.2.2.1 m := hL.2.2.2.2.2.2.1
  have hF : FM (vw m) m := hL.2.2.2.2.2.2.2.2.2
  rcases hL.2.1 with q | q
  · rw [q] at hS; exact CI.mono (f_fewest_336 hL.1 hS q hF) (fun r m' h => LI_fm hL h)
  · rw [q] at hS; exact CI.mono (f_fewest_720 hL.1 hS q hF) (fun r m' h => LI_fm hL h)
theorem l_X6_starve {m : MM} {a1 : Int32} {a2 : Int32} {a3 : Int32} {a4 : Int32} {a5 : Int32} (hL : LI m) : CJ 11 mX6_starve [.ref 6, .int a1, .int a2, .int a3, .int a4, .int a5] m (fun _ m' => LI m') := by
  have hS : SB m.2.2.1 m := hL.2.2.2.2.2.2.1
  have hF : FM (vw m) m := hL.2.2.2.2.2.2.2.2.2
  rcases hL.2.1 with q | q
  · rw [q] at hS; exact CJ.mono (f_starve_336 hL.1 hS q hF) (fun r m' h => LI_fm hL h)
  · rw [q] at hS; exact CJ.mono (f_starve_720 hL.1 hS q hF) (fun r m' h => LI_fm hL h)
theorem l_X7_rounds {m : MM} {a1 : Int32} {a2 : Int32} {a3 : Int32} (hL : LI m) : CI 10 mX7_rounds [.ref 1175, .int a1, .int a2, .int a3] m (fun _ m' => LI m') := li_ci (fun c hc => sfX7_rounds c hc _ List.mem_cons_self) (by decide +kernel) rfl (by decide +kernel) ⟨rfl, top_in, top_in, top_in, trivial⟩ hL
theorem l_X7_round {m : MM} {a1 : Int32} {a2 : Int32} {a3 : Int32} {a4 : Int32} {a5 : Int32} (hL : LI m) : CI 10 mX7_round [.ref 1175, .int a1, .int a2, .int a3, .int a4, .int a5] m (fun _ m' => LI m') := li_ci (fun c hc => sfX7_round c hc _ List.mem_cons_self) (by decide +kernel) rfl (by decide +kernel) ⟨rfl, top_in, top_in, top_in, top_in, top_in, trivial⟩ hL
theorem l_X6_judge {m : MM} {a1 : Int32} {a2 : Int32} {a3 : Int64} (hL : LI m) : CI 4 mX6_judge [.ref 6, .int a1, .int a2, .long a3] m (fun _ m' => LI m') := li_ci (ac := acJudge6) (fun c hc => by rcases hc with rfl | rfl; exact hpJudge6A; exact hpJudge6B) (by decide +kernel) rfl (by decide +kernel) ⟨rfl, top_in, top_in, ⟨a3, rfl⟩, trivial⟩ hL
theorem l_X7_judge {m : MM} {a1 : Int32} {a2 : Int32} {a3 : Int64} (hL : LI m) : CI 4 mX7_judge [.ref 1175, .int a1, .int a2, .long a3] m (fun _ m' => LI m') := li_ci hpJudge7 (by decide +kernel) rfl (by decide +kernel) ⟨rfl, top_in, top_in, ⟨a3, rfl⟩, trivial⟩ hL
theorem l_X7_takes {m : MM} {a1 : Int32} {a2 : Int32} {a3 : Int32} (hL : LI m) : CJ 10 mX7_takes [.ref 1175, .int a1, .int a2, .int a3] m (fun _ m' => LI m') := li_cj (fun c hc => sfX7_takes c hc _ List.mem_cons_self) (by decide +kernel) rfl (by decide +kernel) ⟨rfl, top_in, top_in, top_in, trivial⟩ hL
theorem l_X6_flow {m : MM} {a1 : Int32} {a2 : Int32} (hL : LI m) : CI 5 mX6_flow [.ref 6, .int a1, .int a2] m (fun _ m' => LI m') := li_ci (fun c hc => sfX6_flow c hc _ List.mem_cons_self) (by decide +kernel) rfl (by decide +kernel) ⟨rfl, top_in, top_in, trivial⟩ hL
theorem l_X7_flow {m : MM} {a1 : Int32} {a2 : Int32} (hL : LI m) : CI 5 mX7_flow [.ref 1175, .int a1, .int a2] m (fun _ m' => LI m') := li_ci hpFlow7 (by decide +kernel) rfl (by decide +kernel) ⟨rfl, top_in, top_in, trivial⟩ hL
theorem l_X7_luck {m : MM} {a1 : Int32} {a2 : Int32} {a3 : Int32} {a4 : Int32} {a5 : Int32} (hL : LI m) : CI 10 mX7_luck [.ref 1175, .int a1, .int a2, .int a3, .int a4, .int a5] m (fun _ m' => LI m') := li_ci (fun c hc => sfX7_luck c hc _ List.mem_cons_self) (by decide +kernel) rfl (by decide +kernel) ⟨rfl, top_in, top_in, top_in, top_in, top_in, trivial⟩ hL
theorem l_X7_signs {m : MM} {a1 : Int32} {a2 : Int32} {a3 : Int32} {a4 : Int32} (hL : LI m) : CI 10 mX7_signs [.ref 1175, .int a1, .int a2, .int a3, .int a4] m (fun _ m' => LI m') := li_ci (fun c hc => sfX7_signs c hc _ List.mem_cons_self) (by decide +kernel) rfl (by decide +kernel) ⟨rfl, top_in, top_in, top_in, top_in, trivial⟩ hL
theorem l_X7_knew {m : MM} {a1 : Int32} {a2 : Int32} {a3 : Int32} {a4 : Int32} {a5 : Int32} (hL : LI m) : CI 10 mX7_knew [.ref 1175, .int a1, .int a2, .int a3, .int a4, .int a5] m (fun _ m' => LI m') := li_ci (fun c hc => sfX7_knew c hc _ List.mem_cons_self) (by decide +kernel) rfl (by decide +kernel) ⟨rfl, top_in, top_in, top_in, top_in, top_in, trivial⟩ hL
theorem l_X6_hands {m : MM}  (hL : LI m) : CI 1 mX6_hands [.ref 6] m (fun _ m' => LI m') := li_ci (fun c hc => sfX6_hands c hc _ List.mem_cons_self) (by decide +kernel) rfl (by decide +kernel) ⟨rfl, trivial⟩ hL
theorem l_X7_hands {m : MM}  (hL : LI m) : CI 2 mX7_hands [.ref 1175] m (fun _ m' => LI m') := li_ci (fun c hc => sfX7_hands c hc _ List.mem_cons_self) (by decide +kernel) rfl (by decide +kernel) ⟨rfl, trivial⟩ hL
theorem l_X6_lacking {m : MM} {a1 : Int32} (hL : LI m) : CI 4 mX6_lacking [.ref 6, .int a1] m (fun _ m' => LI m') := li_ci (fun c hc => sfX6_lacking c hc _ List.mem_cons_self) (by decide +kernel) rfl (by decide +kernel) ⟨rfl, top_in, trivial⟩ hL
theorem l_X7_lacking {m : MM} {a1 : Int32} (hL : LI m) : CI 1 mX7_lacking [.ref 1175, .int a1] m (fun _ m' => LI m') := li_ci (fun c hc => sfX7_lacking c hc _ List.mem_cons_self) (by decide +kernel) rfl (by decide +kernel) ⟨rfl, top_in, trivial⟩ hL
theorem l_X7_fewest {m : MM} {a1 : Int32} {a2 : Int32} {a3 : Int32} {a4 : Int64} (hL : LI m) : CI 10 mX7_fewest [.ref 1175, .int a1, .int a2, .int a3, .long a4] m (fun _ m' => LI m') := li_ci (fun c hc => sfX7_fewest c hc _ List.mem_cons_self) (by decide +kernel) rfl (by decide +kernel) ⟨rfl, top_in, top_in, top_in, ⟨a4, rfl⟩, trivial⟩ hL
theorem l_X6_burden {m : MM} {a1 : Int32} (hL : LI m) : CI 5 mX6_burden [.ref 6, .int a1] m (fun _ m' => LI m') := li_ci (fun c hc => sfX6_burden c hc _ List.mem_cons_self) (by decide +kernel) rfl (by decide +kernel) ⟨rfl, top_in, trivial⟩ hL
theorem l_X7_burden {m : MM} {a1 : Int32} (hL : LI m) : CI 6 mX7_burden [.ref 1175, .int a1] m (fun _ m' => LI m') := li_ci (fun c hc => sfX7_burden c hc _ List.mem_cons_self) (by decide +kernel) rfl (by decide +kernel) ⟨rfl, top_in, trivial⟩ hL
theorem l_X7_starve {m : MM} {a1 : Int32} {a2 : Int32} {a3 : Int32} {a4 : Int32} {a5 : Int32} (hL : LI m) : CJ 10 mX7_starve [.ref 1175, .int a1, .int a2, .int a3, .int a4, .int a5] m (fun _ m' => LI m') := li_cj (fun c hc => sfX7_starve c hc _ List.mem_cons_self) (by decide +kernel) rfl (by decide +kernel) ⟨rfl, top_in, top_in, top_in, top_in, top_in, trivial⟩ hL
theorem l_X6_count {m : MM} {a1 : Int32} (hL : LI m) : CI 5 mX6_count [.ref 6, .int a1] m (fun _ m' => LI m') := li_ci (fun c hc => sfX6_count c hc _ List.mem_cons_self) (by decide +kernel) rfl (by decide +kernel) ⟨rfl, top_in, trivial⟩ hL
theorem l_X7_count {m : MM} {a1 : Int32} (hL : LI m) : CI 5 mX7_count [.ref 1175, .int a1] m (fun _ m' => LI m') := li_ci (fun c hc => sfX7_count c hc _ List.mem_cons_self) (by decide +kernel) rfl (by decide +kernel) ⟨rfl, top_in, trivial⟩ hL
theorem l_X7_look {m : MM} {a1 : Int32} {a2 : Int32} (hL : LI m) : CI 3 mX7_look [.ref 1175, .int a1, .int a2] m (fun _ m' => LI m') := li_ci (fun c hc => sfX7_look c hc _ List.mem_cons_self) (by decide +kernel) rfl (by decide +kernel) ⟨rfl, top_in, top_in, trivial⟩ hL
/-- what both feeds answer is one -/
theorem feedEq {a b c d e : Int32} {m m1 m2 : MM} {r1 r2 : Int32} (hL : LI m) (h1 : Fd6 a b c d e m r1 m1) (h2 : Fd7 a b c d e m1 r2 m2) : r1 = r2 ∧ LI m2 := by
  obtain ⟨s1, h1⟩ := h1
  obtain ⟨s2, h2⟩ := h2
  have e2 : gI m1 1175 2 = gI m 1175 2 := fr1 s1.2.2 (by decide)
  have e1 : gI m2 19 1 = gI m1 19 1 := fr1 s2.2.2 (by decide)
  have e6 : gI m2 1175 6 = gI m 1175 6 := (fr1 s2.2.2 (by decide)).trans (fr1 s1.2.2 (by decide))
  have e7 : gI m2 1175 7 = gI m 1175 7 := (fr1 s2.2.2 (by decide)).trans (fr1 s1.2.2 (by decide))
  have hq := hL.2.2.1
  rw [e2, ← hq] at h2
  have hb : m2.2.2 = cA ∨ m2.2.2 = cB := by rw [s2.2.1, s1.2.1]; exact hL.2.1
  have rc : ∀ i, gI m2 3276842 i = gI m1 3276842 i := fun i => row1 s2.2.2 rfl (by decide)
  have rm : ∀ i, gI m1 3277992 i = gI m 3277992 i := fun i => row1 s1.2.2 rfl (by decide)
  have hSR : SQ m2 := by
    have q1 : SQ m1 := hL.2.2.2.2.2.2.fr hL.2.1 s1.2.1 s1.2.2 (by decide +kernel)
    exact q1.fr (by rw [s1.2.1]; exact hL.2.1) s2.2.1 s2.2.2 (by decide +kernel)
  have hFQ : FQ m2 := by
    refine ⟨?_, ?_⟩
    · rw [fr1 s2.2.2 (by decide : ¬ wk 19 2 ∈ wF7), fr1 s1.2.2 (by decide : ¬ wk 19 2 ∈ wF6), fr1 s2.2.2 (by decide : ¬ wk 1175 37 ∈ wF7), fr1 s1.2.2 (by decide : ¬ wk 1175 37 ∈ wF6)]
      exact hL.2.2.2.2.2.1.1
    · rw [fr1 s2.2.2 (by decide : ¬ wk 19 3 ∈ wF7), fr1 s1.2.2 (by decide : ¬ wk 19 3 ∈ wF6), fr1 s2.2.2 (by decide : ¬ wk 1175 38 ∈ wF7), fr1 s1.2.2 (by decide : ¬ wk 1175 38 ∈ wF6)]
      exact hL.2.2.2.2.2.1.2
  rcases h1 with ⟨a1, a2, a3, a4, a5⟩ | ⟨a1, a2, a3⟩
  · rcases h2 with ⟨b1, b2, b3, b4, b5⟩ | ⟨b1, b2, b3, b4⟩
    · refine ⟨Int32.toInt_inj.mp (by omega), s2.1, hb, Int32.toInt_inj.mp (by rw [e1]; omega), by rw [e6, e7]; exact hL.2.2.2.1, fun i hi => ?_, hFQ, hSR⟩
      rw [e1, a3] at hi
      rcases Int.lt_or_le (i : Int) (gI m 19 1).toInt with y | y
      · rw [rc, a4 i y, b4 i y, rm]
        exact hL.2.2.2.2.1 i y
      · have hk : i = (gI m 19 1).toInt.toNat + (i - (gI m 19 1).toInt.toNat) := by omega
        rw [hk, rc, a5 _ (by omega), b5 _ (by omega)]
        exact byteR _
    · omega
  · rcases h2 with ⟨b1, b2, b3, b4, b5⟩ | ⟨b1, b2, b3, b4⟩
    · omega
    · subst a3
      refine ⟨by rw [a2, b2], s2.1, hb, by rw [e1, b3], by rw [e6, e7]; exact hL.2.2.2.1, fun i hi => ?_, hFQ, hSR⟩
      rw [e1] at hi
      rw [rc, b4]
      exact hL.2.2.2.2.1 i hi
/-- the bytes of the tape, as the model has them -/
def bM (m : MM) : BT := fun i => (gI m 3277992 i).toInt
theorem bM_m {m : MM} (hM : Mok TYg m) (e : Nat) : mbR m (bM m) e := fun i _ => by
  have h : (0 : Int) ≤ (gI m 3277992 i).toInt ∧ (gI m 3277992 i).toInt ≤ 255 := hM.1 3277992 i
  exact ⟨rfl, h.1, h.2⟩
theorem bM_c {m : MM} {n : Int32} (hL : LI m) (h : n.toInt ≤ (gI m 19 1).toInt) : cbR m (bM m) n.toInt.toNat := fun i hi => by
  have := hL.2.2.2.2.1 i (by omega)
  exact ⟨this.1, this.2.1, this.2.2⟩
/-- what book of the class leaves, for the law -/
def BkX (m : MM) (n : Int32) (r : Int32) (m' : MM) : Prop := Mok TYg m' ∧ (m'.2.2 = cA ∨ m'.2.2 = cB) ∧ ((¬ (0 ≤ n.toInt ∧ n.toInt ≤ (gI m 19 1).toInt) ∧ r = -2 ∧ m' = m) ∨
  ((0 ≤ n.toInt ∧ n.toInt ≤ (gI m 19 1).toInt) ∧ gI m' 19 1 = 0 ∧ (gI m' 1175 2 = gI m 1175 2 ∧ gI m' 1175 6 = gI m 1175 6 ∧ gI m' 1175 7 = gI m 1175 7) ∧ (∀ i, gI m' 3277992 i = gI m 3277992 i) ∧
    ((∃ er, readS (bM m) n.toInt.toNat = .inl er ∧ r = -1 ∧ (gI m' 19 2).toInt = er.1 ∧ (gI m' 19 3).toInt = er.2 ∧ SQ m') ∨
     (∃ x, readS (bM m) n.toInt.toNat = .inr x ∧ r.toInt = x.2 ∧ gI m' 19 2 = 0 ∧ gI m' 19 3 = -1 ∧ BkI m'.2.2.1 x.1 m' ∧ gI m' 6 5 = 0 ∧ gI m' 6 6 = 0 ∧ gI m' (cntC m'.2.2.1 3) 8 = 0 ∧ LbC m'.2.2.1 (x.1.1 2) m' ∧ gI m' 49 13 = 0))))
theorem BkX_of {W1 W2 : List Nat} {nw : Nat} {c2 : Nat × Nat} {m m' : MM} {n r : Int32} (hL : LI m) (hc : c2 = cA ∨ c2 = cB) (hn : c2.1 = nw) (h : Bk6 (bM m) W1 W2 nw c2 m n r m') (w1 : ¬ wk 1175 2 ∈ W1 ∧ ¬ wk 1175 6 ∈ W1 ∧ ¬ wk 1175 7 ∈ W1 ∧ elm 3277992 W1 = false) (w2 : ¬ wk 1175 2 ∈ W2 ∧ ¬ wk 1175 6 ∈ W2 ∧ ¬ wk 1175 7 ∈ W2 ∧ elm 3277992 W2 = false)
    (ws : sFree m.2.2.1 W1 = true) (wt : [3, 5, 39, 40].all (fun k => !(elm (wk 1175 k) W1)) = true) (wp : pFree W1 = true) (wf : fmAll W1 = true) : BkX m n r m' := by
  obtain ⟨hM, h⟩ := h
  rcases h with ⟨q1, q2, q3⟩ | ⟨q1, q2, q3⟩
  · exact ⟨hM, by rw [q3]; exact hL.2.1, Or.inl ⟨q1, q2, q3⟩⟩
  · rcases q3 with ⟨er, y1, y2, y3, y4, y5, y6⟩ | ⟨x, y1, y2, y3, y4, y5, y6, y7, y8, y9, yL, y13, y10⟩
    · refine ⟨hM, by rw [y5]; exact hL.2.1, Or.inr ⟨q1, q2, ⟨fr1 y6 w1.1, fr1 y6 w1.2.1, fr1 y6 w1.2.2.1⟩, fun i => row1 y6 rfl w1.2.2.2, Or.inl ⟨er, y1, y2, y3, y4, ?_⟩⟩⟩
      have hs : SB m.2.2.1 m := hL.2.2.2.2.2.2.1
      refine ⟨?_, hL.2.2.2.2.2.2.2.1.fr y6 wt, hL.2.2.2.2.2.2.2.2.1.fr hL.2.1 y5 y6 wp, hL.2.2.2.2.2.2.2.2.2.fr y6 wf⟩
      rw [y5]
      exact hs.fr (by unfold isBk; rcases hL.2.1 with z | z <;> rw [z] <;> decide) y6 ws
    · exact ⟨hM, by rw [y5]; exact hc, Or.inr ⟨q1, q2, ⟨fr1 y10 w2.1, fr1 y10 w2.2.1, fr1 y10 w2.2.2.1⟩, fun i => row1 y10 rfl w2.2.2.2, Or.inr ⟨x, y1, y2, y3, y4, by rw [y5, hn]; exact y6, y7, y8, by rw [y5, hn]; exact y9, by rw [y5, hn]; exact yL, y13⟩⟩⟩
theorem book6 {m : MM} {n : Int32} (hL : LI m) : CI 9 mX6_book [.ref 6, .int n] m (BkX m n) := by
  rcases hL.2.1 with q | q
  · exact CI.mono (r_book6A (b := bM m) hL.1 q (bM_c hL)) (fun r m' h => BkX_of hL (Or.inr rfl) rfl h (by decide) (by decide) (by rw [q]; decide +kernel) (by decide +kernel) (by decide +kernel) (by decide +kernel))
  · exact CI.mono (r_book6B (b := bM m) hL.1 q (bM_c hL)) (fun r m' h => BkX_of hL (Or.inl rfl) rfl h (by decide) (by decide) (by rw [q]; decide +kernel) (by decide +kernel) (by decide +kernel) (by decide +kernel))
theorem book7 {m m1 : MM} {n r1 : Int32} (h1 : BkX m n r1 m1) : CI 9 mX7_book [.ref 1175, .int n] m1 (Bk7 (bM m1) m1 n) := s_book h1.2.1 rfl h1.1 (bM_m h1.1 _)
theorem SB.keep {bk : Nat} {W : List Nat} {m m' : MM} (h : SB bk m) (hb : isBk bk) (hK : KeepM m m') (hF : Fr W m m') (hW : (bkFree bk W && !(elm (wk (cntC bk 3) 8) W) && !(elm (wk 6 5) W) && !(elm (wk 6 6) W)) = true) : SB bk m' := by
  unfold bkFree at hW
  simp only [Bool.and_eq_true] at hW
  obtain ⟨⟨⟨⟨w2, w3⟩, w4⟩, w6⟩, w7⟩ := hW
  rw [List.all_eq_true] at w2 w3
  obtain ⟨h1, h2, h3, h4, h5, h6⟩ := h
  have hc : ∀ k, gI m' 1175 (cntM k) = gI m 1175 (cntM k) := fun k => hK.2 _ (by unfold cntM; split <;> decide)
  have hn : ∀ k, (vw m').1 k = (vw m).1 k := fun k => by
    show (gI m' 1175 (cntM k)).toInt.toNat = _
    rw [hc]; rfl
  have hr : ∀ r, r < 17 → ∀ i, i < (vw m).1 (own r) → (vw m').2 r i = (vw m).2 r i := fun r hr i hi => by
    show gI m' (rowN r) i = gI m (rowN r) i
    rw [rowN_M r hr]
    refine hK.1 r hr i ?_
    obtain ⟨a1, a2, a3, a4⟩ := h6.1
    unfold offM
    have o4 := own_4 r
    rcases (by omega : own r = 0 ∨ own r = 1 ∨ own r = 2 ∨ own r = 3) with q | q | q | q <;> rw [q] at hi ⊢
    · show i < 5; omega
    · show i < 4; omega
    · show i < 12; omega
    · show i < 40; omega
  refine ⟨fun k hk => ?_, fun r hr' h9 i hi => ?_, ?_, ?_, ?_, ?_⟩
  · rw [fr1 hF (nelm6 (w3 k (List.mem_range.mpr hk))), hc k]
    exact h1 k hk
  · rw [hn] at hi
    rw [hr r hr' i hi, row1 hF (rowC_8 hb r hr') (elm_no (w2 r (List.mem_range.mpr hr')))]
    exact h2 r hr' h9 i hi
  · rw [fr1 hF (nelm6 w4), hK.2 6 (by decide), hK.2 7 (by decide)]
    exact h3
  · rw [fr1 hF (nelm6 w6 : ¬ wk 6 5 ∈ W), hK.2 39 (by decide)]
    exact h4
  · rw [fr1 hF (nelm6 w7 : ¬ wk 6 6 ∈ W), hK.2 40 (by decide)]
    exact h5
  · obtain ⟨a1, a2, a3, a4⟩ := h6
    refine ⟨by rw [hn, hn, hn, hn]; exact a1, fun l hl => ?_, fun f hf => ?_, fun s hs => ?_⟩
    · rw [hn] at hl
      rw [hr 1 (by decide) l hl]
      exact a2 l hl
    · rw [hn] at hf
      rw [hr 4 (by decide) f hf, hr 5 (by decide) f hf, hr 8 (by decide) f hf, hn]
      exact a3 f hf
    · rw [hn] at hs
      rw [hr 10 (by decide) s hs, hr 11 (by decide) s hs, hr 12 (by decide) s hs, hr 13 (by decide) s hs, hr 14 (by decide) s hs, hr 15 (by decide) s hs, hr 16 (by decide) s hs, hn, hn]
      exact a4 s hs
theorem bk_of {m : MM} (h : m.2.2 = cA ∨ m.2.2 = cB) : isBk m.2.2.1 := by unfold isBk; rcases h with z | z <;> rw [z] <;> decide
theorem bookEq {m m1 m2 : MM} {n : Int32} {r1 r2 : Int32} (hL : LI m) (h1 : BkX m n r1 m1) (h2 : Bk7 (bM m1) m1 n r2 m2) : r1 = r2 ∧ LI m2 := by
  obtain ⟨a1, a2, a3⟩ := h1
  obtain ⟨b1, b2, b3, b4⟩ := h2
  have hb : m2.2.2 = cA ∨ m2.2.2 = cB := by rw [b2]; exact a2
  have e1 : gI m2 19 1 = gI m1 19 1 := fr1 b3 (by decide)
  have e2 : gI m2 19 2 = gI m1 19 2 := fr1 b3 (by decide)
  have e3 : gI m2 19 3 = gI m1 19 3 := fr1 b3 (by decide)
  have hk : (bkFree m1.2.2.1 wB7 && !(elm (wk (cntC m1.2.2.1 3) 8) wB7) && !(elm (wk 6 5) wB7) && !(elm (wk 6 6) wB7)) = true := by
    rcases a2 with z | z <;> rw [z] <;> decide +kernel
  rcases a3 with ⟨p1, p2, p3⟩ | ⟨p1, p2, ⟨p3, p4, p5⟩, p6, p7⟩
  · subst p3
    rcases b4 with ⟨q1, q2, q3⟩ | ⟨q1, q2, q3⟩
    · subst q3
      have hs : SQ (sI m1 1175 0 0) := hL.2.2.2.2.2.2.fr hL.2.1 rfl (Fr_sI (W := [4294968471]) (Fr_rfl _ _) (by decide) (fun _ z => by omega)) (by decide +kernel)
      exact ⟨by rw [p2, q2], b1, hL.2.1, hL.2.2.1, hL.2.2.2.1, hL.2.2.2.2.1, hL.2.2.2.2.2.1, hs⟩
    · rw [← hL.2.2.1] at q1
      exact absurd q1 p1
  · have eb : bM m1 = bM m := by
      funext i
      unfold bM
      rw [p6]
    rw [eb, p3, ← hL.2.2.1] at b4
    rcases b4 with ⟨q1, q2, q3⟩ | ⟨q1, q2, q3⟩
    · exact absurd p1 q1
    · have tr : TR m2 := fun i hi => by
        rw [e1, p2] at hi
        have : (0 : Int32).toInt = 0 := rfl
        omega
      have hz : gI m2 19 1 = gI m2 1175 2 := by rw [e1, p2, q2]
      rcases p7 with ⟨er, y1, y2, y3, y4, y5⟩ | ⟨x, y1, y2, y3, y4, y5, y6, y7, y8, yL, y13⟩
      · rcases q3 with ⟨er', z1, z2, z3, z4, z5⟩ | ⟨x, z1, z2, z3, z4, z5⟩
        · rw [y1] at z1
          cases z1
          refine ⟨by rw [y2, z2], b1, hb, hz, ?_, tr, ⟨?_, ?_⟩, ?_⟩
          · rw [z5.2 6 (by decide), z5.2 7 (by decide), p4, p5]; exact hL.2.2.2.1
          · exact Int32.toInt_inj.mp (by rw [e2, y3, z3])
          · exact Int32.toInt_inj.mp (by rw [e3, y4, z4])
          · have y6 : SB m1.2.2.1 m1 := y5.1
            have e5 : (vw m2).1 2 = (vw m1).1 2 := by
              show (gI m2 1175 5).toInt.toNat = (gI m1 1175 5).toInt.toNat
              rw [z5.2 5 (by decide)]
            have e3 : (vw m2).1 0 = (vw m1).1 0 := by
              show (gI m2 1175 3).toInt.toNat = (gI m1 1175 3).toInt.toNat
              rw [z5.2 3 (by decide)]
            refine ⟨?_, ?_, ?_, ?_⟩
            case refine_4 =>
              have h40 := y6.2.2.2.2.2.1.2.2.2
              have r5 : ∀ r, r < 17 → own r = 3 → ∀ s, s < (vw m1).1 3 → (vw m2).2 r s = (vw m1).2 r s := fun r hr ho s hs => by
                show gI m2 (rowN r) s = gI m1 (rowN r) s
                rw [rowN_M r hr]
                exact z5.1 r hr s (by unfold offM; rw [ho]; show s < 40; omega)
              refine FMm.cg y5.2.2.2 b3 (by decide +kernel) ⟨?_, fun s hs => ⟨r5 10 (by decide) rfl s hs, r5 11 (by decide) rfl s hs, r5 13 (by decide) rfl s hs, r5 15 (by decide) rfl s hs, r5 16 (by decide) rfl s hs⟩⟩
              show (gI m2 1175 6).toInt.toNat = (gI m1 1175 6).toInt.toNat
              rw [z5.2 6 (by decide)]
            · rw [b2]
              exact y6.keep (bk_of a2) z5 b3 hk
            · unfold ST
              rw [e5, e3, z5.2 39 (by decide), z5.2 40 (by decide)]
              exact y5.2.1
            · unfold PT
              rw [b2]
              have hP : PTb m1.2.2.1 m1 := y5.2.2.1
              have h12 := y6.2.2.2.2.2.1.2.2.1
              refine hP.cg e5 (fun i hi => ?_) (fun i hi => ?_) (fun i hi => row1 b3 (rowP_8 (bk_of a2)) ?_)
              · show gI m2 (rowN 6) i = gI m1 (rowN 6) i
                rw [rowN_M 6 (by decide)]
                exact z5.1 6 (by decide) i (by show i < 12; omega)
              · show gI m2 (rowN 7) i = gI m1 (rowN 7) i
                rw [rowN_M 7 (by decide)]
                exact z5.1 7 (by decide) i (by show i < 12; omega)
              · rcases a2 with z | z <;> rw [z] <;> decide +kernel
        · rw [y1] at z1; cases z1
      · rcases q3 with ⟨er', z1, z2, z3, z4, z5⟩ | ⟨x', z1, z2, z3, z4, z5, z6, z7, z8⟩
        · rw [y1] at z1; cases z1
        · rw [y1] at z1
          cases z1
          have hkk := hk
          unfold bkFree at hkk
          simp only [Bool.and_eq_true] at hkk
          obtain ⟨⟨⟨⟨w2, w3⟩, w4⟩, w6⟩, w7⟩ := hkk
          rw [List.all_eq_true] at w2 w3
          refine ⟨Int32.toInt_inj.mp (by rw [y2, z2]), b1, hb, hz, ?_, tr, ⟨?_, ?_⟩, ?_⟩
          · rw [z6]; exact Int.le_refl _
          · rw [e2, y3, z3]
          · rw [e3, y4, z4]
          · have hSTq : ST m2 := by
              unfold ST
              rw [z7, z8]
              have e0 : (0 : Int32).toInt = 0 := rfl
              have u1 : 0 < 2 ^ (vw m2).1 2 := Nat.pow_pos (by decide)
              have u2 : 0 < 2 ^ (vw m2).1 0 := Nat.pow_pos (by decide)
              exact ⟨⟨by rw [e0]; exact Int.le_refl 0, by rw [e0]; omega⟩, ⟨by rw [e0]; exact Int.le_refl 0, by rw [e0]; omega⟩⟩
            have hSB : SB m2.2.2.1 m2 := by
              rw [b2]
              refine SB_book (readS_wf y1) y5 (bk_of a2) (fun r hr i => row1 b3 (rowC_8 (bk_of a2) r hr) (elm_no (w2 r (List.mem_range.mpr hr)))) (fun k hk => fr1 b3 (nelm6 (w3 k (List.mem_range.mpr hk)))) z5 ?_ z6 ?_ ?_
              · rw [fr1 b3 (nelm6 w4)]; exact y8
              · rw [fr1 b3 (nelm6 w6 : ¬ wk 6 5 ∈ wB7), y6, z7]
              · rw [fr1 b3 (nelm6 w7 : ¬ wk 6 6 ∈ wB7), y7, z8]
            refine ⟨hSB, hSTq, ?_, FMm.none ((fr1 b3 (by decide)).trans y13)⟩
            have hk9 : lbFree m1.2.2.1 wB7 = true := by rcases a2 with z | z <;> rw [z] <;> decide +kernel
            have yL2 : LbC m1.2.2.1 (x.1.1 2) m2 := yL.fr (bk_of a2) b3 hk9
            have c5 : (gI m2 1175 5).toInt = x.1.1 2 := z5.1 2 (by decide)
            unfold PT
            rw [b2]
            rw [b2] at hSB
            exact PTb.of hSB yL2 (by show (gI m2 1175 5).toInt.toNat = _; omega)
/-! what both faults answer is one -/
set_option maxRecDepth 100000 in
theorem fault6 {m : MM} {w : Int32} (hL : LI m) : CI 1 mX6_fault [.ref 6, .int w] m (fun r m' => m' = m ∧ r = if w = 0 then gI m 19 2 else if w = 1 then gI m 19 3 else -1) := by
  refine At.gs okX6_fault 40 ?_
  (conv => whnf)
  refine And.intro (fun h => ?_) (fun h => ?_)
  · exact ⟨rfl, by rw [if_pos h]⟩
  · refine And.intro (fun h2 => ?_) (fun h2 => ?_)
    · exact ⟨rfl, by rw [if_neg h, if_pos h2]⟩
    · exact ⟨rfl, by rw [if_neg h, if_neg h2]⟩
set_option maxRecDepth 100000 in
theorem fault7 {m : MM} {w : Int32} (hL : LI m) : CI 1 mX7_fault [.ref 1175, .int w] m (fun r m' => LI m' ∧ r = if w = 0 then gI m 1175 37 else if w = 1 then gI m 1175 38 else -1) := by
  have S0 : St [4294968471] m (sI m 1175 0 0) := (St.rf hL.1).fld (a := 1175) (k := 0) (v := 0) (by decide) (by decide) (by decide) (fun _ z => by omega)
  have L0 : LI (sI m 1175 0 0) := LI_fr hL S0.1 S0.2.1 S0.2.2 (by decide +kernel)
  refine At.gs okX7_fault 40 ?_
  (conv => whnf)
  refine And.intro (fun h => ?_) (fun h => ?_)
  · (conv => whnf)
    refine And.intro (fun h2 => ?_) (fun h2 => ?_)
    · exact ⟨L0, by rw [if_neg h, if_neg h2]⟩
    · exact ⟨L0, by rw [if_neg h, if_pos h2]; rfl⟩
  · exact ⟨L0, by rw [if_pos h]; rfl⟩
/-! stop, rule, pay, undo, sell: what both answer is one, and the state is one again -/
theorem hv_of {m : MM} (hL : LI m) : Wf (vw m) := hL.2.2.2.2.2.2.1.2.2.2.2.2
theorem SB.set {bk : Nat} {W : List Nat} {m m' : MM} (h : SB bk m) (hb : isBk bk) (hF : Fr W m m') (hW : (vFree W && bkFree bk W && !(elm (wk (cntC bk 3) 8) W) && !(elm (wk 1175 7) W)) = true) (h4' : gI m' 6 5 = gI m' 1175 39) (h5' : gI m' 6 6 = gI m' 1175 40) : SB bk m' := by
  unfold bkFree at hW
  simp only [Bool.and_eq_true] at hW
  obtain ⟨⟨⟨w1, w2, w3⟩, w4⟩, w5⟩ := hW
  rw [List.all_eq_true] at w2 w3
  obtain ⟨h1, h2, h3, h4, h5, h6⟩ := h
  have hv := vw_fr hF w1
  have w1b := w1
  unfold vFree at w1b
  rw [Bool.and_eq_true, List.all_eq_true, List.all_eq_true] at w1b
  have hc : ∀ k, gI m' 1175 (cntM k) = gI m 1175 (cntM k) := fun k => fr1 hF (nelm6 (w1b.2 _ (cntM_in k)))
  refine ⟨fun k hk => ?_, fun r hr h9 i hi => ?_, ?_, h4', h5', by rw [hv]; exact h6⟩
  · rw [fr1 hF (nelm6 (w3 k (List.mem_range.mpr hk))), hc k]
    exact h1 k hk
  · rw [hv] at hi ⊢
    rw [row1 hF (rowC_8 hb r hr) (elm_no (w2 r (List.mem_range.mpr hr)))]
    exact h2 r hr h9 i hi
  · have e6 : gI m' 1175 6 = gI m 1175 6 := hc 3
    rw [fr1 hF (nelm6 w4), e6, fr1 hF (nelm6 w5 : ¬ wk 1175 7 ∈ W)]
    exact h3
/-- LI of a memory with SR proved apart: W touches neither tapes nor faults -/
theorem LI_set {W : List Nat} {m m' : MM} (hL : LI m) (hM : Mok TYg m') (hb : m'.2.2 = m.2.2) (hF : Fr W m m') (hkp : (kTF W && pFree W) = true) (h2 : ¬ wk 19 1 ∈ W ∧ ¬ wk 1175 2 ∈ W) (h67 : (gI m' 1175 7).toInt ≤ (gI m' 1175 6).toInt) (hS : SB m'.2.2.1 m' ∧ ST m') (hFm : FMm m') : LI m' := by
  rw [Bool.and_eq_true] at hkp
  obtain ⟨hk, hp⟩ := hkp
  have e1 : gI m' 19 1 = gI m 19 1 := fr1 hF h2.1
  have e2 : gI m' 1175 2 = gI m 1175 2 := fr1 hF h2.2
  have z := TF_fr hF e1 hk ⟨hL.2.2.2.2.1, hL.2.2.2.2.2.1⟩
  exact ⟨hM, by rw [hb]; exact hL.2.1, by rw [e1, e2]; exact hL.2.2.1, h67, z.1, z.2, hS.1, hS.2, hL.2.2.2.2.2.2.2.2.1.fr hL.2.1 hb hF hp, hFm⟩
theorem LI_z {m : MM} (hL : LI m) : LI (sI m 1175 0 0) := by
  have S0 : St [4294968471] m (sI m 1175 0 0) := (St.rf hL.1).fld (a := 1175) (k := 0) (v := 0) (by decide) (by decide) (by decide) (fun _ z => by omega)
  exact LI_fr hL S0.1 S0.2.1 S0.2.2 (by decide +kernel)
theorem stop6 {m : MM} {a : Int32} (hL : LI m) : CI 2 mX6_stop [.ref 6, .int a] m (StP6 5 a ((vw m).1 2) m) := by
  have hS : SB m.2.2.1 m := hL.2.2.2.2.2.2.1
  rcases hL.2.1 with q | q
  · rw [q] at hS; exact r_stop_336 hL.1 hS q
  · rw [q] at hS; exact r_stop_720 hL.1 hS q
theorem stopM {m m1 : MM} {a r : Int32} {n : Nat} (hL : LI m) (h1 : StP6 5 a n m r m1) : Mok TYg m1 ∧ vw m1 = vw m := by
  rcases h1 with ⟨p1, p2, p3⟩ | ⟨p1, p2, p3⟩
  · have S1 : St [25769803782] m (sI m 6 5 a) := (St.rf hL.1).fld (a := 6) (k := 5) (v := a) (by decide) (tI_lo _) (tI_hi _) (fun _ z => by omega)
    rw [p3]
    exact ⟨S1.1, vw_fr S1.2.2 (by decide +kernel)⟩
  · rw [p3]; exact ⟨hL.1, rfl⟩
theorem stop7 {m m1 : MM} {a r1 : Int32} (hL : LI m) (h1 : StP6 5 a ((vw m).1 2) m r1 m1) : CI 2 mX7_stop [.ref 1175, .int a] m1 (StP7 39 a ((vw m).1 2) m1) := by
  have z := stopM hL h1
  have y := s_stop (a := a) z.1
  rw [z.2] at y
  exact y
theorem stopEq {m m1 m2 : MM} {a r1 r2 : Int32} (hL : LI m) (h1 : StP6 5 a ((vw m).1 2) m r1 m1) (h2 : StP7 39 a ((vw m).1 2) m1 r2 m2) : r1 = r2 ∧ LI m2 := by
  have hW := (hv_of hL).1
  refine ⟨StP_eq (by omega) h1 h2, ?_⟩
  rcases h1 with ⟨p1, p2, p3⟩ | ⟨p1, p2, p3⟩
  · rcases h2 with ⟨q1, q2, q3⟩ | ⟨q1, q2, q3⟩
    · have S1 : St [25769803782, 4294968471, 171798693015] m (sI (sI (sI m 6 5 a) 1175 0 0) 1175 39 a) := (((St.rf hL.1).fld (a := 6) (k := 5) (v := a) (by decide) (tI_lo _) (tI_hi _) (fun _ z => by omega)).fld (a := 1175) (k := 0) (v := 0) (by decide) (by decide) (by decide) (fun _ z => by omega)).fld (a := 1175) (k := 39) (v := a) (by decide) (tI_lo _) (tI_hi _) (fun _ z => by omega)
      subst p3
      subst q3
      have hS : SB m.2.2.1 m := hL.2.2.2.2.2.2.1
      have hw : (vFree [25769803782, 4294968471, 171798693015] && bkFree m.2.2.1 [25769803782, 4294968471, 171798693015] && !(elm (wk (cntC m.2.2.1 3) 8) [25769803782, 4294968471, 171798693015]) && !(elm (wk 1175 7) [25769803782, 4294968471, 171798693015])) = true := by
        rcases hL.2.1 with z | z <;> rw [z] <;> decide +kernel
      refine LI_set hL S1.1 S1.2.1 S1.2.2 (by decide +kernel) (by decide) hL.2.2.2.1 ⟨SB.set hS (bk_of hL.2.1) S1.2.2 hw ?_ ?_, ?_⟩ (hL.2.2.2.2.2.2.2.2.2.fr S1.2.2 (by decide +kernel))
      · exact rfl
      · exact hS.2.2.2.2.1
      · have hT := hL.2.2.2.2.2.2.2.1
        exact ⟨p1, hT.2⟩
    · exact absurd p1 q1
  · rcases h2 with ⟨q1, q2, q3⟩ | ⟨q1, q2, q3⟩
    · exact absurd q1 p1
    · subst p3
      subst q3
      exact LI_z hL
theorem rule6 {m : MM} {a : Int32} (hL : LI m) : CI 2 mX6_rule [.ref 6, .int a] m (StP6 6 a ((vw m).1 0) m) := by
  have hS : SB m.2.2.1 m := hL.2.2.2.2.2.2.1
  rcases hL.2.1 with q | q
  · rw [q] at hS; exact r_rule_336 hL.1 hS q
  · rw [q] at hS; exact r_rule_720 hL.1 hS q
theorem ruleM {m m1 : MM} {a r : Int32} {n : Nat} (hL : LI m) (h1 : StP6 6 a n m r m1) : Mok TYg m1 ∧ vw m1 = vw m := by
  rcases h1 with ⟨p1, p2, p3⟩ | ⟨p1, p2, p3⟩
  · have S1 : St [30064771078] m (sI m 6 6 a) := (St.rf hL.1).fld (a := 6) (k := 6) (v := a) (by decide) (tI_lo _) (tI_hi _) (fun _ z => by omega)
    rw [p3]
    exact ⟨S1.1, vw_fr S1.2.2 (by decide +kernel)⟩
  · rw [p3]; exact ⟨hL.1, rfl⟩
theorem rule7 {m m1 : MM} {a r1 : Int32} (hL : LI m) (h1 : StP6 6 a ((vw m).1 0) m r1 m1) : CI 2 mX7_rule [.ref 1175, .int a] m1 (StP7 40 a ((vw m).1 0) m1) := by
  have z := ruleM hL h1
  have y := s_rule (a := a) z.1
  rw [z.2] at y
  exact y
theorem ruleEq {m m1 m2 : MM} {a r1 r2 : Int32} (hL : LI m) (h1 : StP6 6 a ((vw m).1 0) m r1 m1) (h2 : StP7 40 a ((vw m).1 0) m1 r2 m2) : r1 = r2 ∧ LI m2 := by
  have hW := (hv_of hL).1
  refine ⟨StP_eq (by omega) h1 h2, ?_⟩
  rcases h1 with ⟨p1, p2, p3⟩ | ⟨p1, p2, p3⟩
  · rcases h2 with ⟨q1, q2, q3⟩ | ⟨q1, q2, q3⟩
    · have S1 : St [30064771078, 4294968471, 176093660311] m (sI (sI (sI m 6 6 a) 1175 0 0) 1175 40 a) := (((St.rf hL.1).fld (a := 6) (k := 6) (v := a) (by decide) (tI_lo _) (tI_hi _) (fun _ z => by omega)).fld (a := 1175) (k := 0) (v := 0) (by decide) (by decide) (by decide) (fun _ z => by omega)).fld (a := 1175) (k := 40) (v := a) (by decide) (tI_lo _) (tI_hi _) (fun _ z => by omega)
      subst p3
      subst q3
      have hS : SB m.2.2.1 m := hL.2.2.2.2.2.2.1
      have hw : (vFree [30064771078, 4294968471, 176093660311] && bkFree m.2.2.1 [30064771078, 4294968471, 176093660311] && !(elm (wk (cntC m.2.2.1 3) 8) [30064771078, 4294968471, 176093660311]) && !(elm (wk 1175 7) [30064771078, 4294968471, 176093660311])) = true := by
        rcases hL.2.1 with z | z <;> rw [z] <;> decide +kernel
      refine LI_set hL S1.1 S1.2.1 S1.2.2 (by decide +kernel) (by decide) hL.2.2.2.1 ⟨SB.set hS (bk_of hL.2.1) S1.2.2 hw ?_ ?_, ?_⟩ (hL.2.2.2.2.2.2.2.2.2.fr S1.2.2 (by decide +kernel))
      · exact hS.2.2.2.1
      · exact rfl
      · have hT := hL.2.2.2.2.2.2.2.1
        exact ⟨hT.1, p1⟩
    · exact absurd p1 q1
  · rcases h2 with ⟨q1, q2, q3⟩ | ⟨q1, q2, q3⟩
    · exact absurd q1 p1
    · subst p3
      subst q3
      exact LI_z hL
/-! pay -/
def PyX (m : MM) (f s r : Int32) (m1 : MM) : Prop := (PyP ((vw m).1 2) f s ((vw m).2 8 f.toNatClampNeg) ∧ r = (vw m).2 8 f.toNatClampNeg + s ∧ m1 = sI m (rowC m.2.2.1 8) f.toNatClampNeg ((vw m).2 8 f.toNatClampNeg + s)) ∨ (¬ PyP ((vw m).1 2) f s ((vw m).2 8 f.toNatClampNeg) ∧ r = -1 ∧ m1 = m)
def PyY (V : VW) (m1 : MM) (f s r : Int32) (m2 : MM) : Prop := (PyP (V.1 2) f s (V.2 8 f.toNatClampNeg) ∧ r = V.2 8 f.toNatClampNeg + s ∧ m2 = sI (sI m1 1175 0 0) 99640 f.toNatClampNeg (V.2 8 f.toNatClampNeg + s)) ∨ (¬ PyP (V.1 2) f s (V.2 8 f.toNatClampNeg) ∧ r = -1 ∧ m2 = sI m1 1175 0 0)
theorem pay6 {m : MM} {f s : Int32} (hL : LI m) : CI 2 mX6_pay [.ref 6, .int f, .int s] m (PyX m f s) := by
  have hS : SB m.2.2.1 m := hL.2.2.2.2.2.2.1
  unfold PyX
  rcases hL.2.1 with q | q
  · rw [q] at hS ⊢; exact r_pay_336 hL.1 hS q
  · rw [q] at hS ⊢; exact r_pay_720 hL.1 hS q
theorem payM {m m1 : MM} {f s r : Int32} (hL : LI m) (h1 : PyX m f s r m1) : Mok TYg m1 ∧ vw m1 = vw m := by
  rcases h1 with ⟨p1, p2, p3⟩ | ⟨p1, p2, p3⟩
  · rw [p3]
    rcases hL.2.1 with q | q
    · rw [q]
      have S1 : St [49816] m (sI m 49816 f.toNatClampNeg ((vw m).2 8 f.toNatClampNeg + s)) := (St.rf hL.1).row rfl (by decide) (tI_lo _) (tI_hi _)
      exact ⟨S1.1, vw_fr S1.2.2 (by decide +kernel)⟩
    · rw [q]
      have S1 : St [50200] m (sI m 50200 f.toNatClampNeg ((vw m).2 8 f.toNatClampNeg + s)) := (St.rf hL.1).row rfl (by decide) (tI_lo _) (tI_hi _)
      exact ⟨S1.1, vw_fr S1.2.2 (by decide +kernel)⟩
  · rw [p3]; exact ⟨hL.1, rfl⟩
theorem pay7 {m m1 : MM} {f s r1 : Int32} (hL : LI m) (h1 : PyX m f s r1 m1) : CI 2 mX7_pay [.ref 1175, .int f, .int s] m1 (PyY (vw m) m1 f s) := by
  have z := payM hL h1
  have y := s_pay (f := f) (s := s) z.1 (by rw [z.2]; exact hv_of hL)
  rw [z.2] at y
  exact y
theorem payEq {m m1 m2 : MM} {f s r1 r2 : Int32} (hL : LI m) (h1 : PyX m f s r1 m1) (h2 : PyY (vw m) m1 f s r2 m2) : r1 = r2 ∧ LI m2 := by
  have hW := hv_of hL
  rcases h1 with ⟨p1, p2, p3⟩ | ⟨p1, p2, p3⟩
  · rcases h2 with ⟨q1, q2, q3⟩ | ⟨q1, q2, q3⟩
    · refine ⟨by rw [p2, q2], ?_⟩
      have hp := (hW.2.2.1 f.toNatClampNeg (by rw [clamp_toNat]; have := p1.1; omega)).2.2
      have ea : ((vw m).2 8 f.toNatClampNeg + s).toInt = ((vw m).2 8 f.toNatClampNeg).toInt + s.toInt := tI_add (by have := p1.2; unfold i32lo; omega) (by have := p1.2; unfold i32hi; omega)
      have b0 : 0 ≤ ((vw m).2 8 f.toNatClampNeg + s).toInt := by have := p1.2; omega
      have b1 : ((vw m).2 8 f.toNatClampNeg + s).toInt ≤ 999999 := by have := p1.2; omega
      subst p3
      subst q3
      have hS : SB m.2.2.1 m := hL.2.2.2.2.2.2.1
      generalize (vw m).2 8 f.toNatClampNeg + s = v at b0 b1
      rcases hL.2.1 with q | q
      · have S1 : St [49816, 4294968471, 99640] m (sI (sI (sI m 49816 f.toNatClampNeg v) 1175 0 0) 99640 f.toNatClampNeg v) := (((St.rf hL.1).row (a := 49816) rfl (by decide) (tI_lo _) (tI_hi _)).fld (a := 1175) (k := 0) (v := 0) (by decide) (by decide) (by decide) (fun _ z => by omega)).row (a := 99640) rfl (by decide) (tI_lo _) (tI_hi _)
        rw [q] at hS
        have y : SB (sI (sI (sI m 49816 f.toNatClampNeg v) 1175 0 0) 99640 f.toNatClampNeg v).2.2.1 (sI (sI (sI m 49816 f.toNatClampNeg v) 1175 0 0) 99640 f.toNatClampNeg v) ∧ ST (sI (sI (sI m 49816 f.toNatClampNeg v) 1175 0 0) 99640 f.toNatClampNeg v) := by
          refine ⟨?_, hL.2.2.2.2.2.2.2.1.fr S1.2.2 (by decide +kernel)⟩
          rw [S1.2.1, q]
          exact pay_sb_336 hS b0 b1
        rw [q]
        exact LI_set hL S1.1 S1.2.1 S1.2.2 (by decide +kernel) (by decide) hL.2.2.2.1 y (hL.2.2.2.2.2.2.2.2.2.fr S1.2.2 (by decide +kernel))
      · have S1 : St [50200, 4294968471, 99640] m (sI (sI (sI m 50200 f.toNatClampNeg v) 1175 0 0) 99640 f.toNatClampNeg v) := (((St.rf hL.1).row (a := 50200) rfl (by decide) (tI_lo _) (tI_hi _)).fld (a := 1175) (k := 0) (v := 0) (by decide) (by decide) (by decide) (fun _ z => by omega)).row (a := 99640) rfl (by decide) (tI_lo _) (tI_hi _)
        rw [q] at hS
        have y : SB (sI (sI (sI m 50200 f.toNatClampNeg v) 1175 0 0) 99640 f.toNatClampNeg v).2.2.1 (sI (sI (sI m 50200 f.toNatClampNeg v) 1175 0 0) 99640 f.toNatClampNeg v) ∧ ST (sI (sI (sI m 50200 f.toNatClampNeg v) 1175 0 0) 99640 f.toNatClampNeg v) := by
          refine ⟨?_, hL.2.2.2.2.2.2.2.1.fr S1.2.2 (by decide +kernel)⟩
          rw [S1.2.1, q]
          exact pay_sb_720 hS b0 b1
        rw [q]
        exact LI_set hL S1.1 S1.2.1 S1.2.2 (by decide +kernel) (by decide) hL.2.2.2.1 y (hL.2.2.2.2.2.2.2.2.2.fr S1.2.2 (by decide +kernel))
    · exact absurd p1 q1
  · rcases h2 with ⟨q1, q2, q3⟩ | ⟨q1, q2, q3⟩
    · exact absurd q1 p1
    · subst p3
      subst q3
      exact ⟨by rw [p2, q2], LI_z hL⟩
theorem undo_sb {bk : Nat} {W : List Nat} {m m' : MM} (h : SB bk m) (hb : isBk bk) (hF : Fr W m m') (hW : ([3, 4, 5].all (fun k => !(elm (wk 1175 k) W)) && rowsN.all (fun a => !(elm a W)) && (List.range 17).all (fun r => !(elm (rowC bk r) W)) && (List.range 3).all (fun k => !(elm (wk (cntC bk k) (cntF k)) W)) && !(elm (wk 1175 7) W) && !(elm (wk 6 5) W) && !(elm (wk 6 6) W) && !(elm (wk 1175 39) W) && !(elm (wk 1175 40) W)) = true) (hM : Mok TYg m) (h1 : 1 ≤ (gI m 1175 6).toInt) (f7 : gI m' (cntC bk 3) 7 = gI m 1175 6 - 1) (f8 : gI m' (cntC bk 3) 8 = gI m (cntC bk 3) 8 - 1) (f6 : gI m' 1175 6 = gI m 1175 6 - 1) : SB bk m' := by
  simp only [Bool.and_eq_true] at hW
  obtain ⟨⟨⟨⟨⟨⟨⟨⟨w1, w2⟩, w3⟩, w4⟩, w5⟩, w6⟩, w7⟩, w8⟩, w9⟩ := hW
  rw [List.all_eq_true] at w1 w2 w3 w4
  have b6 : (0 : Int) ≤ (gI m 1175 6).toInt ∧ (gI m 1175 6).toInt ≤ 40 := hM.1 1175 6
  have b7 : (0 : Int) ≤ (gI m 1175 7).toInt ∧ (gI m 1175 7).toInt ≤ 40 := hM.1 1175 7
  have e1 : (gI m 1175 6 - 1).toInt = (gI m 1175 6).toInt - 1 := by
    rw [tI_sub (by rw [tI_1]; unfold i32lo; omega) (by rw [tI_1]; unfold i32hi; omega), tI_1]
  have hr : ∀ r i, (vw m').2 r i = (vw m).2 r i := fun r i => row1 hF (rowsN_8 _ (rowN_in r)) (elm_no (w2 _ (rowN_in r)))
  have hc : ∀ k, k < 3 → gI m' 1175 (cntM k) = gI m 1175 (cntM k) := fun k hk => by
    rcases (by omega : k = 0 ∨ k = 1 ∨ k = 2) with rfl | rfl | rfl
    · exact fr1 hF (nelm6 (w1 3 (by decide)))
    · exact fr1 hF (nelm6 (w1 4 (by decide)))
    · exact fr1 hF (nelm6 (w1 5 (by decide)))
  have hn : ∀ k, k < 3 → (vw m').1 k = (vw m).1 k := fun k hk => by
    show (gI m' 1175 (cntM k)).toInt.toNat = _
    rw [hc k hk]; rfl
  have h3 : (vw m').1 3 ≤ (vw m).1 3 := by
    show (gI m' 1175 6).toInt.toNat ≤ (gI m 1175 6).toInt.toNat
    rw [f6, e1]; omega
  have hle : ∀ k, k < 4 → (vw m').1 k ≤ (vw m).1 k := fun k hk => by
    by_cases q : k = 3
    · rw [q]; exact h3
    · exact Nat.le_of_eq (hn k (by omega))
  obtain ⟨a1, a2, a3, a4, a5, ⟨v1, v2, v3, v4⟩⟩ := h
  refine ⟨fun k hk => ?_, fun r hr' h9 i hi => ?_, ?_, ?_, ?_, ⟨?_, fun l hl => ?_, fun f hf => ?_, fun s hs => ?_⟩⟩
  · by_cases q : k = 3
    · subst q
      show gI m' (cntC bk 3) 7 = gI m' 1175 6
      rw [f7, f6]
    · rw [fr1 hF (nelm6 (w4 k (List.mem_range.mpr (by omega)))), hc k (by omega)]
      exact a1 k hk
  · rw [hr, row1 hF (rowC_8 hb r hr') (elm_no (w3 r (List.mem_range.mpr hr')))]
    exact a2 r hr' h9 i (Nat.lt_of_lt_of_le hi (hle _ (own_4 r)))
  · rw [f8, f6, fr1 hF (nelm6 w5 : ¬ wk 1175 7 ∈ W), e1, tI_sub (by rw [tI_1, a3]; unfold i32lo; omega) (by rw [tI_1, a3]; unfold i32hi; omega), tI_1, a3]; omega
  · rw [fr1 hF (nelm6 w6 : ¬ wk 6 5 ∈ W), fr1 hF (nelm6 w8 : ¬ wk 1175 39 ∈ W)]; exact a4
  · rw [fr1 hF (nelm6 w7 : ¬ wk 6 6 ∈ W), fr1 hF (nelm6 w9 : ¬ wk 1175 40 ∈ W)]; exact a5
  · have := hle 3 (by decide)
    rw [hn 0 (by decide), hn 1 (by decide), hn 2 (by decide)]
    omega
  · rw [hn 0 (by decide)] at hl
    rw [hr]; exact v2 l hl
  · rw [hn 2 (by decide)] at hf
    rw [hr, hr, hr, hn 0 (by decide)]; exact v3 f hf
  · rw [hr, hr, hr, hr, hr, hr, hr, hn 1 (by decide), hn 2 (by decide)]; exact v4 s (Nat.lt_of_lt_of_le hs h3)
/-! undo -/
def UnX (m : MM) (r : Int32) (m1 : MM) : Prop := (((gI m (cntC m.2.2.1 3) 8).toInt ≤ 0 ∨ (gI m (cntC m.2.2.1 3) 7).toInt ≤ 0) ∧ r = -1 ∧ m1 = m) ∨ ((0 < (gI m (cntC m.2.2.1 3) 8).toInt ∧ 0 < (gI m (cntC m.2.2.1 3) 7).toInt) ∧ r = gI m (cntC m.2.2.1 3) 8 - 1 ∧ m1 = sI (sI (sI m (cntC m.2.2.1 3) 7 (gI m (cntC m.2.2.1 3) 7 - 1)) (cntC m.2.2.1 3) 8 (gI m (cntC m.2.2.1 3) 8 - 1)) 49 13 0)
def UnY (m1 : MM) (r : Int32) (m' : MM) : Prop := (gI m1 1175 6 = gI m1 1175 7 ∧ r = -1 ∧ m' = sI m1 1175 0 0) ∨ (¬ gI m1 1175 6 = gI m1 1175 7 ∧ r = gI m1 1175 6 - 1 - gI m1 1175 7 ∧ m' = sI (sI m1 1175 0 0) 1175 6 (gI m1 1175 6 - 1))
theorem undo6 {m : MM} (hL : LI m) : CI 2 mX6_undo [.ref 6] m (UnX m) := by
  unfold UnX
  rcases hL.2.1 with q | q
  · rw [q]; exact r_undo_336 q
  · rw [q]; exact r_undo_720 q
theorem undoEq {m m1 m2 : MM} {r1 r2 : Int32} (hL : LI m) (h1 : UnX m r1 m1) (h2 : UnY m1 r2 m2) : r1 = r2 ∧ LI m2 := by
  have hS : SB m.2.2.1 m := hL.2.2.2.2.2.2.1
  have c3 := hS.1 3 (by decide)
  have c3 : gI m (cntC m.2.2.1 3) 7 = gI m 1175 6 := c3
  have t3 := hS.2.2.1
  have h67 := hL.2.2.2.1
  have b6 : (0 : Int) ≤ (gI m 1175 6).toInt ∧ (gI m 1175 6).toInt ≤ 40 := hL.1.1 1175 6
  have b7 : (0 : Int) ≤ (gI m 1175 7).toInt ∧ (gI m 1175 7).toInt ≤ 40 := hL.1.1 1175 7
  unfold UnX at h1
  rw [c3] at h1
  have hn : cntC m.2.2.1 3 ≠ 1175 := by rcases hL.2.1 with z | z <;> rw [z] <;> decide
  rcases h1 with ⟨p1, p2, p3⟩ | ⟨p1, p2, p3⟩
  · subst p3
    rcases h2 with ⟨q1, q2, q3⟩ | ⟨q1, q2, q3⟩
    · subst q3
      exact ⟨by rw [p2, q2], LI_z hL⟩
    · have : (gI m1 1175 6).toInt ≠ (gI m1 1175 7).toInt := fun z => q1 (Int32.toInt_inj.mp z)
      omega
  · have g6 : gI m1 1175 6 = gI m 1175 6 := by
      rw [p3, gI_if, if_neg (fun z => absurd z.1 (by decide)), gI_if, if_neg (fun z => hn z.1.symm), gI_if, if_neg (fun z => hn z.1.symm)]
    have g7 : gI m1 1175 7 = gI m 1175 7 := by
      rw [p3, gI_if, if_neg (fun z => absurd z.1 (by decide)), gI_if, if_neg (fun z => hn z.1.symm), gI_if, if_neg (fun z => hn z.1.symm)]
    unfold UnY at h2
    rw [g6, g7] at h2
    rcases h2 with ⟨q1, q2, q3⟩ | ⟨q1, q2, q3⟩
    · have := congrArg Int32.toInt q1
      omega
    · have hne : (gI m 1175 6).toInt ≠ (gI m 1175 7).toInt := fun z => q1 (Int32.toInt_inj.mp z)
      have e1 : (gI m 1175 6 - 1).toInt = (gI m 1175 6).toInt - 1 := by
        rw [tI_sub (by rw [tI_1]; unfold i32lo; omega) (by rw [tI_1]; unfold i32hi; omega), tI_1]
      have e2 : (gI m (cntC m.2.2.1 3) 8 - 1).toInt = (gI m 1175 6).toInt - (gI m 1175 7).toInt - 1 := by
        rw [tI_sub (by rw [tI_1]; unfold i32lo; omega) (by rw [tI_1]; unfold i32hi; omega), tI_1, t3]
      refine ⟨?_, ?_⟩
      · refine Int32.toInt_inj.mp ?_
        rw [p2, q2, e2, tI_sub (by unfold i32lo; omega) (by unfold i32hi; omega), e1]
        omega
      · subst p3
        subst q3
        rcases hL.2.1 with z | z
        · rw [z] at hS c3 t3 e2 ⊢
          show LI (sI (sI (sI (sI (sI m 452 7 (gI m 1175 6 - 1)) 452 8 (gI m 452 8 - 1)) 49 13 0) 1175 0 0) 1175 6 (gI m 1175 6 - 1))
          generalize hm' : sI (sI (sI (sI (sI m 452 7 (gI m 1175 6 - 1)) 452 8 (gI m 452 8 - 1)) 49 13 0) 1175 0 0) 1175 6 (gI m 1175 6 - 1) = m'
          have S1 : St [34359738820, 38654706116, 60129542193, 4294968471, 30064772247] m m' := by
            rw [← hm']
            exact ((((St.rf hL.1).fld (a := 452) (k := 7) (by decide) (show (0 : Int) ≤ _ by omega) (show _ ≤ (40 : Int) by omega) (fun _ z => by omega)).fld (a := 452) (k := 8) (by decide) (tI_lo _) (tI_hi _) (fun _ z => by omega)).fld (a := 49) (k := 13) (by decide) (by decide) (by decide) (fun _ z => by omega)).fld (a := 1175) (k := 0) (by decide) (by decide) (by decide) (fun _ z => by omega) |>.fld (a := 1175) (k := 6) (by decide) (show (0 : Int) ≤ _ by omega) (show _ ≤ (40 : Int) by omega) (fun _ z => by omega)
          have f7 : gI m' 452 7 = gI m 1175 6 - 1 := by rw [← hm']; rfl
          have f8 : gI m' 452 8 = gI m 452 8 - 1 := by rw [← hm']; rfl
          have f6 : gI m' 1175 6 = gI m 1175 6 - 1 := by rw [← hm']; rfl
          have o7 : gI m' 1175 7 = gI m 1175 7 := fr1 S1.2.2 (by decide)
          refine LI_set hL S1.1 S1.2.1 S1.2.2 (by decide +kernel) (by decide) (by rw [f6, o7]; omega) ?_ (FMm.none (by rw [← hm']; rfl))
          refine ⟨?_, hL.2.2.2.2.2.2.2.1.fr S1.2.2 (by decide +kernel)⟩
          rw [S1.2.1, z]
          exact undo_sb (bk := 336) hS (by unfold isBk; omega) S1.2.2 (by decide +kernel) hL.1 (by omega) f7 f8 f6
        · rw [z] at hS c3 t3 e2 ⊢
          show LI (sI (sI (sI (sI (sI m 836 7 (gI m 1175 6 - 1)) 836 8 (gI m 836 8 - 1)) 49 13 0) 1175 0 0) 1175 6 (gI m 1175 6 - 1))
          generalize hm' : sI (sI (sI (sI (sI m 836 7 (gI m 1175 6 - 1)) 836 8 (gI m 836 8 - 1)) 49 13 0) 1175 0 0) 1175 6 (gI m 1175 6 - 1) = m'
          have S1 : St [34359739204, 38654706500, 60129542193, 4294968471, 30064772247] m m' := by
            rw [← hm']
            exact ((((St.rf hL.1).fld (a := 836) (k := 7) (by decide) (show (0 : Int) ≤ _ by omega) (show _ ≤ (40 : Int) by omega) (fun _ z => by omega)).fld (a := 836) (k := 8) (by decide) (tI_lo _) (tI_hi _) (fun _ z => by omega)).fld (a := 49) (k := 13) (by decide) (by decide) (by decide) (fun _ z => by omega)).fld (a := 1175) (k := 0) (by decide) (by decide) (by decide) (fun _ z => by omega) |>.fld (a := 1175) (k := 6) (by decide) (show (0 : Int) ≤ _ by omega) (show _ ≤ (40 : Int) by omega) (fun _ z => by omega)
          have f7 : gI m' 836 7 = gI m 1175 6 - 1 := by rw [← hm']; rfl
          have f8 : gI m' 836 8 = gI m 836 8 - 1 := by rw [← hm']; rfl
          have f6 : gI m' 1175 6 = gI m 1175 6 - 1 := by rw [← hm']; rfl
          have o7 : gI m' 1175 7 = gI m 1175 7 := fr1 S1.2.2 (by decide)
          refine LI_set hL S1.1 S1.2.1 S1.2.2 (by decide +kernel) (by decide) (by rw [f6, o7]; omega) ?_ (FMm.none (by rw [← hm']; rfl))
          refine ⟨?_, hL.2.2.2.2.2.2.2.1.fr S1.2.2 (by decide +kernel)⟩
          rw [S1.2.1, z]
          exact undo_sb (bk := 720) hS (by unfold isBk; omega) S1.2.2 (by decide +kernel) hL.1 (by omega) f7 f8 f6
/-! sell -/
def SlX (m : MM) (fr to nu go pr da ma r : Int32) (m1 : MM) : Prop := (SeP (vw m) fr to nu go pr da ma ∧ r = gI m 1175 6 + 1 - 1 ∧ m1 = sI (sI (sI (putL (if m.2.2.1 = 336 then selC336 fr to nu go pr da ma else selC720 fr to nu go pr da ma) (gI m 1175 6).toNatClampNeg m) (cntC m.2.2.1 3) 7 (gI m 1175 6 + 1)) (cntC m.2.2.1 3) 8 (gI m (cntC m.2.2.1 3) 8 + 1)) 49 13 0) ∨ (¬ SeP (vw m) fr to nu go pr da ma ∧ r = -1 ∧ m1 = m)
def SlY (V : VW) (m1 : MM) (fr to nu go pr da ma r : Int32) (m2 : MM) : Prop := (SeP V fr to nu go pr da ma ∧ r = gI m1 1175 6 + 1 - 1 ∧ m2 = sI (putL (selM fr to nu go pr da ma) (gI m1 1175 6).toNatClampNeg (sI m1 1175 0 0)) 1175 6 (gI m1 1175 6 + 1)) ∨ (¬ SeP V fr to nu go pr da ma ∧ r = -1 ∧ m2 = sI m1 1175 0 0)
section Sl
variable {m m1 m2 : MM} {fr to nu go pr da ma r1 r2 : Int32}
theorem sell6 (hL : LI m) : CI 3 mX6_sell [.ref 6, .int fr, .int to, .int nu, .int go, .int pr, .int da, .int ma] m (SlX m fr to nu go pr da ma) := by
  have hS : SB m.2.2.1 m := hL.2.2.2.2.2.2.1
  unfold SlX
  rcases hL.2.1 with q | q
  · rw [q] at hS ⊢
    rw [if_pos (show cA.1 = 336 from rfl)]
    exact r_sell_336 hL.1 hS q
  · rw [q] at hS ⊢
    rw [if_neg (show ¬ cB.1 = 336 by decide)]
    exact r_sell_720 hL.1 hS q
def wSl336 : List Nat := [164312, 164328, 164344, 164360, 164376, 164392, 164408, 34359738820, 38654706116, 60129542193]
def wSm336 : List Nat := [164312, 164328, 164344, 164360, 164376, 164392, 164408, 34359738820, 38654706116, 60129542193, 4294968471, 329048, 329064, 329080, 329096, 329112, 329128, 329144, 30064772247]
theorem selC336_St (hM : Mok TYg m) (h : SB 336 m) (hS : SeP (vw m) fr to nu go pr da ma) : St wSl336 m (sI (sI (sI (putL (selC336 fr to nu go pr da ma) (gI m 1175 6).toNatClampNeg m) 452 7 (gI m 1175 6 + 1)) 452 8 (gI m 452 8 + 1)) 49 13 0) := by
  have hW := h.2.2.2.2.2.1
  have c6 := vw3 hM
  obtain ⟨⟨s1, s2, s3⟩, ⟨s4, s5, s6⟩, s7, s8, s9, s10, s11⟩ := hS
  have t6 : (gI m 1175 6 + 1).toInt = (vw m).1 3 + 1 := by rw [inc1 (by omega), c6]
  have p : St wSl336 m (putL (selC336 fr to nu go pr da ma) (gI m 1175 6).toNatClampNeg m) := putL_St _ _ (St.rf hM) (fun q hq => by
    unfold selC336 at hq
    simp only [List.mem_cons, List.not_mem_nil, or_false] at hq
    rcases hq with rfl | rfl | rfl | rfl | rfl | rfl | rfl
    · exact ⟨(show Nat.ble 8 (164312 % 16) = true from rfl), (show (164312 : Nat) ∈ wSl336 by decide), show (0 : Int) ≤ fr.toInt by omega, show fr.toInt ≤ (11 : Int) by omega⟩
    · exact ⟨(show Nat.ble 8 (164328 % 16) = true from rfl), (show (164328 : Nat) ∈ wSl336 by decide), show (0 : Int) ≤ to.toInt by omega, show to.toInt ≤ (11 : Int) by omega⟩
    · exact ⟨(show Nat.ble 8 (164344 % 16) = true from rfl), (show (164344 : Nat) ∈ wSl336 by decide), tI_lo _, tI_hi _⟩
    · exact ⟨(show Nat.ble 8 (164360 % 16) = true from rfl), (show (164360 : Nat) ∈ wSl336 by decide), tI_lo _, tI_hi _⟩
    · exact ⟨(show Nat.ble 8 (164376 % 16) = true from rfl), (show (164376 : Nat) ∈ wSl336 by decide), tI_lo _, tI_hi _⟩
    · exact ⟨(show Nat.ble 8 (164392 % 16) = true from rfl), (show (164392 : Nat) ∈ wSl336 by decide), tI_lo _, tI_hi _⟩
    · exact ⟨(show Nat.ble 8 (164408 % 16) = true from rfl), (show (164408 : Nat) ∈ wSl336 by decide), tI_lo _, tI_hi _⟩)
  exact ((p.fld (a := 452) (k := 7) (v := gI m 1175 6 + 1) (by decide) (show (0 : Int) ≤ _ by omega) (show _ ≤ (40 : Int) by omega) (fun _ z => by omega)).fld (a := 452) (k := 8) (v := gI m 452 8 + 1) (by decide) (tI_lo _) (tI_hi _) (fun _ z => by omega)).fld (a := 49) (k := 13) (v := 0) (by decide) (by decide) (by decide) (fun _ z => by omega)
theorem selM336_St {n : Nat} {v : Int32} (h : St wSl336 m m1) (hS : SeP (vw m) fr to nu go pr da ma) (hW : Wf (vw m)) (h0 : 0 ≤ v.toInt) (h1 : v.toInt ≤ 40) : St wSm336 m (sI (putL (selM fr to nu go pr da ma) n (sI m1 1175 0 0)) 1175 6 v) := by
  have hW := hW.1
  obtain ⟨⟨s1, s2, s3⟩, ⟨s4, s5, s6⟩, s7, s8, s9, s10, s11⟩ := hS
  have p0 : St wSm336 m (sI m1 1175 0 0) := St.fld (a := 1175) (k := 0) (v := 0) (W := wSm336) ⟨h.1, h.2.1, Fr_tr (Fr_rfl _ _) h.2.2 (by decide)⟩ (by decide) (by decide) (by decide) (fun _ z => by omega)
  have p : St wSm336 m (putL (selM fr to nu go pr da ma) n (sI m1 1175 0 0)) := putL_St _ _ p0 (fun q hq => by
    unfold selM at hq
    simp only [List.mem_cons, List.not_mem_nil, or_false] at hq
    rcases hq with rfl | rfl | rfl | rfl | rfl | rfl | rfl
    · exact ⟨(show Nat.ble 8 (329048 % 16) = true from rfl), (show (329048 : Nat) ∈ wSm336 by decide), show (0 : Int) ≤ fr.toInt by omega, show fr.toInt ≤ (11 : Int) by omega⟩
    · exact ⟨(show Nat.ble 8 (329064 % 16) = true from rfl), (show (329064 : Nat) ∈ wSm336 by decide), show (0 : Int) ≤ to.toInt by omega, show to.toInt ≤ (11 : Int) by omega⟩
    · exact ⟨(show Nat.ble 8 (329080 % 16) = true from rfl), (show (329080 : Nat) ∈ wSm336 by decide), show (0 : Int) ≤ nu.toInt by omega, show nu.toInt ≤ (999 : Int) by omega⟩
    · exact ⟨(show Nat.ble 8 (329096 % 16) = true from rfl), (show (329096 : Nat) ∈ wSm336 by decide), tI_lo _, tI_hi _⟩
    · exact ⟨(show Nat.ble 8 (329112 % 16) = true from rfl), (show (329112 : Nat) ∈ wSm336 by decide), tI_lo _, tI_hi _⟩
    · exact ⟨(show Nat.ble 8 (329128 % 16) = true from rfl), (show (329128 : Nat) ∈ wSm336 by decide), tI_lo _, tI_hi _⟩
    · exact ⟨(show Nat.ble 8 (329144 % 16) = true from rfl), (show (329144 : Nat) ∈ wSm336 by decide), tI_lo _, tI_hi _⟩)
  exact p.fld (a := 1175) (k := 6) (v := v) (by decide) h0 h1 (fun _ z => by omega)
def wSl720 : List Nat := [164696, 164712, 164728, 164744, 164760, 164776, 164792, 34359739204, 38654706500, 60129542193]
def wSm720 : List Nat := [164696, 164712, 164728, 164744, 164760, 164776, 164792, 34359739204, 38654706500, 60129542193, 4294968471, 329048, 329064, 329080, 329096, 329112, 329128, 329144, 30064772247]
theorem selC720_St (hM : Mok TYg m) (h : SB 720 m) (hS : SeP (vw m) fr to nu go pr da ma) : St wSl720 m (sI (sI (sI (putL (selC720 fr to nu go pr da ma) (gI m 1175 6).toNatClampNeg m) 836 7 (gI m 1175 6 + 1)) 836 8 (gI m 836 8 + 1)) 49 13 0) := by
  have hW := h.2.2.2.2.2.1
  have c6 := vw3 hM
  obtain ⟨⟨s1, s2, s3⟩, ⟨s4, s5, s6⟩, s7, s8, s9, s10, s11⟩ := hS
  have t6 : (gI m 1175 6 + 1).toInt = (vw m).1 3 + 1 := by rw [inc1 (by omega), c6]
  have p : St wSl720 m (putL (selC720 fr to nu go pr da ma) (gI m 1175 6).toNatClampNeg m) := putL_St _ _ (St.rf hM) (fun q hq => by
    unfold selC720 at hq
    simp only [List.mem_cons, List.not_mem_nil, or_false] at hq
    rcases hq with rfl | rfl | rfl | rfl | rfl | rfl | rfl
    · exact ⟨(show Nat.ble 8 (164696 % 16) = true from rfl), (show (164696 : Nat) ∈ wSl720 by decide), show (0 : Int) ≤ fr.toInt by omega, show fr.toInt ≤ (11 : Int) by omega⟩
    · exact ⟨(show Nat.ble 8 (164712 % 16) = true from rfl), (show (164712 : Nat) ∈ wSl720 by decide), show (0 : Int) ≤ to.toInt by omega, show to.toInt ≤ (11 : Int) by omega⟩
    · exact ⟨(show Nat.ble 8 (164728 % 16) = true from rfl), (show (164728 : Nat) ∈ wSl720 by decide), tI_lo _, tI_hi _⟩
    · exact ⟨(show Nat.ble 8 (164744 % 16) = true from rfl), (show (164744 : Nat) ∈ wSl720 by decide), tI_lo _, tI_hi _⟩
    · exact ⟨(show Nat.ble 8 (164760 % 16) = true from rfl), (show (164760 : Nat) ∈ wSl720 by decide), tI_lo _, tI_hi _⟩
    · exact ⟨(show Nat.ble 8 (164776 % 16) = true from rfl), (show (164776 : Nat) ∈ wSl720 by decide), tI_lo _, tI_hi _⟩
    · exact ⟨(show Nat.ble 8 (164792 % 16) = true from rfl), (show (164792 : Nat) ∈ wSl720 by decide), tI_lo _, tI_hi _⟩)
  exact ((p.fld (a := 836) (k := 7) (v := gI m 1175 6 + 1) (by decide) (show (0 : Int) ≤ _ by omega) (show _ ≤ (40 : Int) by omega) (fun _ z => by omega)).fld (a := 836) (k := 8) (v := gI m 836 8 + 1) (by decide) (tI_lo _) (tI_hi _) (fun _ z => by omega)).fld (a := 49) (k := 13) (v := 0) (by decide) (by decide) (by decide) (fun _ z => by omega)
theorem selM720_St {n : Nat} {v : Int32} (h : St wSl720 m m1) (hS : SeP (vw m) fr to nu go pr da ma) (hW : Wf (vw m)) (h0 : 0 ≤ v.toInt) (h1 : v.toInt ≤ 40) : St wSm720 m (sI (putL (selM fr to nu go pr da ma) n (sI m1 1175 0 0)) 1175 6 v) := by
  have hW := hW.1
  obtain ⟨⟨s1, s2, s3⟩, ⟨s4, s5, s6⟩, s7, s8, s9, s10, s11⟩ := hS
  have p0 : St wSm720 m (sI m1 1175 0 0) := St.fld (a := 1175) (k := 0) (v := 0) (W := wSm720) ⟨h.1, h.2.1, Fr_tr (Fr_rfl _ _) h.2.2 (by decide)⟩ (by decide) (by decide) (by decide) (fun _ z => by omega)
  have p : St wSm720 m (putL (selM fr to nu go pr da ma) n (sI m1 1175 0 0)) := putL_St _ _ p0 (fun q hq => by
    unfold selM at hq
    simp only [List.mem_cons, List.not_mem_nil, or_false] at hq
    rcases hq with rfl | rfl | rfl | rfl | rfl | rfl | rfl
    · exact ⟨(show Nat.ble 8 (329048 % 16) = true from rfl), (show (329048 : Nat) ∈ wSm720 by decide), show (0 : Int) ≤ fr.toInt by omega, show fr.toInt ≤ (11 : Int) by omega⟩
    · exact ⟨(show Nat.ble 8 (329064 % 16) = true from rfl), (show (329064 : Nat) ∈ wSm720 by decide), show (0 : Int) ≤ to.toInt by omega, show to.toInt ≤ (11 : Int) by omega⟩
    · exact ⟨(show Nat.ble 8 (329080 % 16) = true from rfl), (show (329080 : Nat) ∈ wSm720 by decide), show (0 : Int) ≤ nu.toInt by omega, show nu.toInt ≤ (999 : Int) by omega⟩
    · exact ⟨(show Nat.ble 8 (329096 % 16) = true from rfl), (show (329096 : Nat) ∈ wSm720 by decide), tI_lo _, tI_hi _⟩
    · exact ⟨(show Nat.ble 8 (329112 % 16) = true from rfl), (show (329112 : Nat) ∈ wSm720 by decide), tI_lo _, tI_hi _⟩
    · exact ⟨(show Nat.ble 8 (329128 % 16) = true from rfl), (show (329128 : Nat) ∈ wSm720 by decide), tI_lo _, tI_hi _⟩
    · exact ⟨(show Nat.ble 8 (329144 % 16) = true from rfl), (show (329144 : Nat) ∈ wSm720 by decide), tI_lo _, tI_hi _⟩)
  exact p.fld (a := 1175) (k := 6) (v := v) (by decide) h0 h1 (fun _ z => by omega)
theorem sellM (hL : LI m) (h1 : SlX m fr to nu go pr da ma r1 m1) : Mok TYg m1 ∧ vw m1 = vw m ∧ gI m1 1175 6 = gI m 1175 6 := by
  have hS : SB m.2.2.1 m := hL.2.2.2.2.2.2.1
  rcases h1 with ⟨p1, p2, p3⟩ | ⟨p1, p2, p3⟩
  · rcases hL.2.1 with q | q
    · rw [q] at hS p3
      rw [if_pos (show cA.1 = 336 from rfl)] at p3
      have S1 := selC336_St hL.1 hS p1
      rw [p3]
      exact ⟨S1.1, vw_fr S1.2.2 (by decide +kernel), fr1 S1.2.2 (by decide)⟩
    · rw [q] at hS p3
      rw [if_neg (show ¬ cB.1 = 336 by decide)] at p3
      have S1 := selC720_St hL.1 hS p1
      rw [p3]
      exact ⟨S1.1, vw_fr S1.2.2 (by decide +kernel), fr1 S1.2.2 (by decide)⟩
  · rw [p3]; exact ⟨hL.1, rfl, rfl⟩
theorem sell7 (hL : LI m) (h1 : SlX m fr to nu go pr da ma r1 m1) : CI 2 mX7_sell [.ref 1175, .int fr, .int to, .int nu, .int go, .int pr, .int da, .int ma] m1 (SlY (vw m) m1 fr to nu go pr da ma) := by
  have z := sellM hL h1
  have y := s_sell (fr := fr) (to := to) (nu := nu) (go := go) (pr := pr) (da := da) (ma := ma) z.1 (by rw [z.2.1]; exact hv_of hL)
  rw [z.2.1] at y
  exact y
theorem sellEq (hL : LI m) (h1 : SlX m fr to nu go pr da ma r1 m1) (h2 : SlY (vw m) m1 fr to nu go pr da ma r2 m2) : r1 = r2 ∧ LI m2 := by
  have hS : SB m.2.2.1 m := hL.2.2.2.2.2.2.1
  have z := sellM hL h1
  have hW := hv_of hL
  have c6 := vw3 hL.1
  have h67 := hL.2.2.2.1
  rcases h1 with ⟨p1, p2, p3⟩ | ⟨p1, p2, p3⟩
  · rcases h2 with ⟨q1, q2, q3⟩ | ⟨q1, q2, q3⟩
    · refine ⟨by rw [p2, q2, z.2.2], ?_⟩
      have hlt := p1.2.2.2.2.2.2
      have t6 : (gI m 1175 6 + 1).toInt = (vw m).1 3 + 1 := by rw [inc1 (by omega), c6]
      rw [z.2.2] at q3
      rcases hL.2.1 with q | q
      · rw [q] at hS p3
        rw [if_pos (show cA.1 = 336 from rfl)] at p3
        have S1 := selC336_St hL.1 hS p1
        have S2 := selM336_St (n := (gI m 1175 6).toNatClampNeg) (v := gI m 1175 6 + 1) S1 p1 hW (by omega) (by omega)
        have y := sel_sb_336 hL.1 hS p1
        have p3 : m1 = sI (sI (sI (putL (selC336 fr to nu go pr da ma) (gI m 1175 6).toNatClampNeg m) 452 7 (gI m 1175 6 + 1)) 452 8 (gI m 452 8 + 1)) 49 13 0 := p3
        rw [← p3] at y S2
        rw [← q3] at y S2
        have o7 : gI m2 1175 7 = gI m 1175 7 := fr1 S2.2.2 (by decide)
        have o6 : gI m2 1175 6 = gI m 1175 6 + 1 := by rw [q3, gI_if, if_pos ⟨rfl, rfl⟩]
        have o13 : gI m2 49 13 = 0 := by
          rw [q3, gI_if, if_neg (fun z => absurd z.1 (by decide))]
          have e : gI (putL (selM fr to nu go pr da ma) (gI m 1175 6).toNatClampNeg (sI m1 1175 0 0)) 49 13 = gI m1 49 13 := rfl
          refine e.trans ?_
          rw [p3, gI_if, if_pos ⟨rfl, rfl⟩]
        refine LI_set hL S2.1 S2.2.1 S2.2.2 (by decide +kernel) (by decide) (by rw [o6, o7]; omega) ?_ (FMm.none o13)
        refine ⟨?_, hL.2.2.2.2.2.2.2.1.fr S2.2.2 (by decide +kernel)⟩
        rw [S2.2.1, q]
        exact y
      · rw [q] at hS p3
        rw [if_neg (show ¬ cB.1 = 336 by decide)] at p3
        have S1 := selC720_St hL.1 hS p1
        have S2 := selM720_St (n := (gI m 1175 6).toNatClampNeg) (v := gI m 1175 6 + 1) S1 p1 hW (by omega) (by omega)
        have y := sel_sb_720 hL.1 hS p1
        have p3 : m1 = sI (sI (sI (putL (selC720 fr to nu go pr da ma) (gI m 1175 6).toNatClampNeg m) 836 7 (gI m 1175 6 + 1)) 836 8 (gI m 836 8 + 1)) 49 13 0 := p3
        rw [← p3] at y S2
        rw [← q3] at y S2
        have o7 : gI m2 1175 7 = gI m 1175 7 := fr1 S2.2.2 (by decide)
        have o6 : gI m2 1175 6 = gI m 1175 6 + 1 := by rw [q3, gI_if, if_pos ⟨rfl, rfl⟩]
        have o13 : gI m2 49 13 = 0 := by
          rw [q3, gI_if, if_neg (fun z => absurd z.1 (by decide))]
          have e : gI (putL (selM fr to nu go pr da ma) (gI m 1175 6).toNatClampNeg (sI m1 1175 0 0)) 49 13 = gI m1 49 13 := rfl
          refine e.trans ?_
          rw [p3, gI_if, if_pos ⟨rfl, rfl⟩]
        refine LI_set hL S2.1 S2.2.1 S2.2.2 (by decide +kernel) (by decide) (by rw [o6, o7]; omega) ?_ (FMm.none o13)
        refine ⟨?_, hL.2.2.2.2.2.2.2.1.fr S2.2.2 (by decide +kernel)⟩
        rw [S2.2.1, q]
        exact y
    · exact absurd p1 q1
  · rcases h2 with ⟨q1, q2, q3⟩ | ⟨q1, q2, q3⟩
    · exact absurd q1 p1
    · subst p3
      subst q3
      exact ⟨by rw [p2, q2], LI_z hL⟩
end Sl
/-! named -/
theorem named6 {m : MM} {a b : Int32} (hL : LI m) : CI 2 mX6_named [.ref 6, .int a, .int b] m (fun r m' => m' = m ∧ r.toInt = namP (vw m) a b) := by
  have hS : SB m.2.2.1 m := hL.2.2.2.2.2.2.1
  rcases hL.2.1 with q | q
  · rw [q] at hS; exact r_named_336 hL.1 hS q
  · rw [q] at hS; exact r_named_720 hL.1 hS q
theorem named7 {m : MM} {a b : Int32} (hL : LI m) : CI 2 mX7_named [.ref 1175, .int a, .int b] m (fun r m' => LI m' ∧ r.toInt = namP (vw m) a b) := CI.mono (s_named hL.1) (fun r m' h => ⟨by rw [h.1]; exact LI_z hL, h.2⟩)
