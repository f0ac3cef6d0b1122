/-! the law: what holds between two calls -/
/-- the tapes are alike -/
def TR (m : MM) : Prop := ∀ i : Nat, (i : Int) < (gI m 19 1).toInt → BR (gI m 3276842 i) (gI m 3277992 i)
/-- the faults are alike -/
def FQ (m : MM) : Prop := gI m 19 2 = gI m 1175 37 ∧ gI m 19 3 = gI m 1175 38
def LI (m : MM) : Prop := Mok TYg m ∧ (m.2.2 = cA ∨ m.2.2 = cB) ∧ gI m 19 1 = gI m 1175 2 ∧ (gI m 1175 7).toInt ≤ (gI m 1175 6).toInt ∧ TR m ∧ FQ m
def kQ (W : List Nat) : Bool := !(elm 3276842 W) && !(elm 3277992 W) && !(elm 12884901907 W) && !(elm 17179869203 W) && !(elm 163208758423 W) && !(elm 167503725719 W)
theorem elmF {a : Nat} {W : List Nat} (h : (!(elm a W)) = true) : elm a W = false := by
  cases hq : elm a W with
  | false => rfl
  | true => rw [hq] at h; cases h
theorem TQ_fr {W : List Nat} {m m' : MM} (hF : Fr W m m') (h1 : gI m' 19 1 = gI m 19 1) (hk : kQ W = true) (h : TR m ∧ FQ m) : TR m' ∧ FQ m' := by
  unfold kQ at hk
  simp only [Bool.and_eq_true] at hk
  obtain ⟨⟨⟨⟨⟨a1, a2⟩, a3⟩, a4⟩, a5⟩, a6⟩ := hk
  refine ⟨fun i hi => ?_, ?_, ?_⟩
  · rw [h1] at hi
    rw [row1 hF rfl (elmF a1), row1 hF rfl (elmF a2)]
    exact h.1 i hi
  · rw [fr1 hF (nelm6 a3 : ¬ wk 19 2 ∈ W), fr1 hF (nelm6 a5 : ¬ wk 1175 37 ∈ W)]
    exact h.2.1
  · rw [fr1 hF (nelm6 a4 : ¬ wk 19 3 ∈ W), fr1 hF (nelm6 a6 : ¬ wk 1175 38 ∈ W)]
    exact h.2.2
theorem SafeC.cj {Ty : TY} {c : Nat × Nat} {μ : MI} {ac : AC} (h : SafeC Ty c μ ac) (hI : ac.2.2.1.all (fun o => isJ o.1) = true) {as : List Value} {m : MM} (hF : FA (fun _ => 0) ac.1 as) (hM : Mok Ty m) (hc : m.2.2 = c) (hp : ∀ q ∈ ac.2.2.2.2, q.2.1 ≤ (gI m q.1.1 q.1.2).toInt ∧ (gI m q.1.1 q.1.2).toInt ≤ q.2.2) : CJ ac.2.1 μ as m (fun r m' => PC Ty ac m as (some (.long r)) m') :=
  At.mono (h as m hF hM hc hp) (fun r m' hP => by
    obtain ⟨p1, p2, p3, o, ho, oo1, oo2⟩ := hP
    have hi := List.all_eq_true.mp hI o ho
    cases r with
    | none =>
      have e9 : o.1.1 = 9 := oo1
      unfold isJ at hi
      rw [e9] at hi
      cases hi
    | some x =>
      obtain ⟨n9, g⟩ := oo1
      obtain ⟨i, rfl⟩ := gam_long hi g
      exact ⟨p1, p2, p3, o, ho, ⟨n9, g⟩, oo2⟩)
theorem CJ.mono {d : Nat} {μ : MI} {as : List Value} {m : MM} {P P' : Int64 → MM → Prop} (h : CJ d μ as m P) (hp : ∀ x m', P x m' → P' x m') : CJ d μ as m P' := At.mono h (fun r m' q => by
  unfold qj at q ⊢
  split at q
  · exact hp _ _ q
  · exact q.elim)
/-- the four places that the law's relation speaks of stay -/
def k4 (W : List Nat) : Bool := !(elm 8589934611 W) && !(elm 12884903063 W) && !(elm 30064772247 W) && !(elm 34359739543 W) && kQ W
theorem nelm {a : Nat} {W : List Nat} (h : (!(elm a W)) = true) : ¬ a ∈ W := fun q => by
  have : elm a W = true := List.any_eq_true.mpr ⟨a, q, Nat.beq_refl _⟩
  rw [this] at h
  cases h
theorem LI_fr {W : List Nat} {m m' : MM} (hL : LI m) (hM : Mok TYg m') (hb : m'.2.2 = m.2.2) (hF : Fr W m m') (hk : k4 W = true) : LI m' := by
  unfold k4 at hk
  simp only [Bool.and_eq_true] at hk
  obtain ⟨⟨⟨⟨a1, a2⟩, a3⟩, a4⟩, aq⟩ := hk
  obtain ⟨h1, h2, h3, h4, h5⟩ := hL
  have e1 : gI m' 19 1 = gI m 19 1 := fr1 hF (nelm a1)
  have e2 : gI m' 1175 2 = gI m 1175 2 := fr1 hF (nelm a2)
  have e3 : gI m' 1175 6 = gI m 1175 6 := fr1 hF (nelm a3)
  have e4 : gI m' 1175 7 = gI m 1175 7 := fr1 hF (nelm a4)
  refine ⟨hM, by rw [hb]; exact h2, by rw [e1, e2]; exact h3, by rw [e3, e4]; exact h4, TQ_fr hF e1 aq h5⟩
theorem li_ci {μ : MI} {ac : AC} (h : ∀ c, c = cA ∨ c = cB → SafeC TYg c μ ac) (hI : ac.2.2.1.all (fun o => isI o.1) = true) (hp : ac.2.2.2.2 = []) (hk : k4 ac.2.2.2.1 = true) {as : List Value} {m : MM} (hF : FA (fun _ => 0) ac.1 as) (hL : LI m) : CI ac.2.1 μ as m (fun _ m' => LI m') :=
  CI.mono (SafeC.ci (h m.2.2 hL.2.1) hI hF hL.1 rfl (fun q hq => by rw [hp] at hq; cases hq)) (fun x m' hP => LI_fr hL hP.1 hP.2.1 hP.2.2.1 hk)
theorem li_cj {μ : MI} {ac : AC} (h : ∀ c, c = cA ∨ c = cB → SafeC TYg c μ ac) (hI : ac.2.2.1.all (fun o => isJ o.1) = true) (hp : ac.2.2.2.2 = []) (hk : k4 ac.2.2.2.1 = true) {as : List Value} {m : MM} (hF : FA (fun _ => 0) ac.1 as) (hL : LI m) : CJ ac.2.1 μ as m (fun _ m' => LI m') :=
  CJ.mono (SafeC.cj (h m.2.2 hL.2.1) hI hF hL.1 rfl (fun q hq => by rw [hp] at hq; cases hq)) (fun x m' hP => LI_fr hL hP.1 hP.2.1 hP.2.2.1 hk)
theorem l_X6_fault {m : MM} {a1 : Int32} (hL : LI m) : CI 1 mX6_fault [.ref 6, .int a1] m (fun _ m' => LI m') := li_ci (fun c hc => sfX6_fault c hc _ List.mem_cons_self) (by decide +kernel) rfl (by decide +kernel) ⟨rfl, top_in, trivial⟩ hL
theorem l_X7_fault {m : MM} {a1 : Int32} (hL : LI m) : CI 1 mX7_fault [.ref 1175, .int a1] m (fun _ m' => LI m') := li_ci (fun c hc => sfX7_fault c hc _ List.mem_cons_self) (by decide +kernel) rfl (by decide +kernel) ⟨rfl, top_in, trivial⟩ hL
theorem l_X6_named {m : MM} {a1 : Int32} {a2 : Int32} (hL : LI m) : CI 2 mX6_named [.ref 6, .int a1, .int a2] m (fun _ m' => LI m') := li_ci (fun c hc => sfX6_named c hc _ List.mem_cons_self) (by decide +kernel) rfl (by decide +kernel) ⟨rfl, top_in, top_in, trivial⟩ hL
theorem l_X7_named {m : MM} {a1 : Int32} {a2 : Int32} (hL : LI m) : CI 2 mX7_named [.ref 1175, .int a1, .int a2] m (fun _ m' => LI m') := li_ci (fun c hc => sfX7_named c hc _ List.mem_cons_self) (by decide +kernel) rfl (by decide +kernel) ⟨rfl, top_in, top_in, trivial⟩ hL
theorem l_X6_firm {m : MM} {a1 : Int32} {a2 : Int32} (hL : LI m) : CI 5 mX6_firm [.ref 6, .int a1, .int a2] m (fun _ m' => LI m') := li_ci (fun c hc => sfX6_firm c hc _ List.mem_cons_self) (by decide +kernel) rfl (by decide +kernel) ⟨rfl, top_in, top_in, trivial⟩ hL
theorem l_X7_firm {m : MM} {a1 : Int32} {a2 : Int32} (hL : LI m) : CI 5 mX7_firm [.ref 1175, .int a1, .int a2] m (fun _ m' => LI m') := li_ci (fun c hc => sfX7_firm c hc _ List.mem_cons_self) (by decide +kernel) rfl (by decide +kernel) ⟨rfl, top_in, top_in, trivial⟩ hL
theorem l_X6_sell {m : MM} {a1 : Int32} {a2 : Int32} {a3 : Int32} {a4 : Int32} {a5 : Int32} {a6 : Int32} {a7 : Int32} (hL : LI m) : CI 2 mX6_sell [.ref 6, .int a1, .int a2, .int a3, .int a4, .int a5, .int a6, .int a7] m (fun _ m' => LI m') := li_ci (fun c hc => sfX6_sell c hc _ List.mem_cons_self) (by decide +kernel) rfl (by decide +kernel) ⟨rfl, top_in, top_in, top_in, top_in, top_in, top_in, top_in, trivial⟩ hL
theorem l_X6_undo {m : MM}  (hL : LI m) : CI 2 mX6_undo [.ref 6] m (fun _ m' => LI m') := li_ci (fun c hc => sfX6_undo c hc _ List.mem_cons_self) (by decide +kernel) rfl (by decide +kernel) ⟨rfl, trivial⟩ hL
theorem l_X6_pay {m : MM} {a1 : Int32} {a2 : Int32} (hL : LI m) : CI 2 mX6_pay [.ref 6, .int a1, .int a2] m (fun _ m' => LI m') := li_ci (fun c hc => sfX6_pay c hc _ List.mem_cons_self) (by decide +kernel) rfl (by decide +kernel) ⟨rfl, top_in, top_in, trivial⟩ hL
theorem l_X7_pay {m : MM} {a1 : Int32} {a2 : Int32} (hL : LI m) : CI 2 mX7_pay [.ref 1175, .int a1, .int a2] m (fun _ m' => LI m') := li_ci (fun c hc => sfX7_pay c hc _ List.mem_cons_self) (by decide +kernel) rfl (by decide +kernel) ⟨rfl, top_in, top_in, trivial⟩ hL
theorem l_X6_rounds {m : MM} {a1 : Int32} {a2 : Int32} {a3 : Int32} (hL : LI m) : CI 11 mX6_rounds [.ref 6, .int a1, .int a2, .int a3] m (fun _ m' => LI m') := li_ci (fun c hc => sfX6_rounds c hc _ List.mem_cons_self) (by decide +kernel) rfl (by decide +kernel) ⟨rfl, top_in, top_in, top_in, trivial⟩ hL
theorem l_X7_rounds {m : MM} {a1 : Int32} {a2 : Int32} {a3 : Int32} (hL : LI m) : CI 10 mX7_rounds [.ref 1175, .int a1, .int a2, .int a3] m (fun _ m' => LI m') := li_ci (fun c hc => sfX7_rounds c hc _ List.mem_cons_self) (by decide +kernel) rfl (by decide +kernel) ⟨rfl, top_in, top_in, top_in, trivial⟩ hL
theorem l_X6_round {m : MM} {a1 : Int32} {a2 : Int32} {a3 : Int32} {a4 : Int32} {a5 : Int32} (hL : LI m) : CI 11 mX6_round [.ref 6, .int a1, .int a2, .int a3, .int a4, .int a5] m (fun _ m' => LI m') := li_ci (fun c hc => sfX6_round c hc _ List.mem_cons_self) (by decide +kernel) rfl (by decide +kernel) ⟨rfl, top_in, top_in, top_in, top_in, top_in, trivial⟩ hL
theorem l_X7_round {m : MM} {a1 : Int32} {a2 : Int32} {a3 : Int32} {a4 : Int32} {a5 : Int32} (hL : LI m) : CI 10 mX7_round [.ref 1175, .int a1, .int a2, .int a3, .int a4, .int a5] m (fun _ m' => LI m') := li_ci (fun c hc => sfX7_round c hc _ List.mem_cons_self) (by decide +kernel) rfl (by decide +kernel) ⟨rfl, top_in, top_in, top_in, top_in, top_in, trivial⟩ hL
theorem l_X6_judge {m : MM} {a1 : Int32} {a2 : Int32} {a3 : Int64} (hL : LI m) : CI 4 mX6_judge [.ref 6, .int a1, .int a2, .long a3] m (fun _ m' => LI m') := li_ci (ac := acJudge6) (fun c hc => by rcases hc with rfl | rfl; exact hpJudge6A; exact hpJudge6B) (by decide +kernel) rfl (by decide +kernel) ⟨rfl, top_in, top_in, ⟨a3, rfl⟩, trivial⟩ hL
theorem l_X7_judge {m : MM} {a1 : Int32} {a2 : Int32} {a3 : Int64} (hL : LI m) : CI 4 mX7_judge [.ref 1175, .int a1, .int a2, .long a3] m (fun _ m' => LI m') := li_ci hpJudge7 (by decide +kernel) rfl (by decide +kernel) ⟨rfl, top_in, top_in, ⟨a3, rfl⟩, trivial⟩ hL
theorem l_X6_takes {m : MM} {a1 : Int32} {a2 : Int32} {a3 : Int32} (hL : LI m) : CJ 11 mX6_takes [.ref 6, .int a1, .int a2, .int a3] m (fun _ m' => LI m') := li_cj (fun c hc => sfX6_takes c hc _ List.mem_cons_self) (by decide +kernel) rfl (by decide +kernel) ⟨rfl, top_in, top_in, top_in, trivial⟩ hL
theorem l_X7_takes {m : MM} {a1 : Int32} {a2 : Int32} {a3 : Int32} (hL : LI m) : CJ 10 mX7_takes [.ref 1175, .int a1, .int a2, .int a3] m (fun _ m' => LI m') := li_cj (fun c hc => sfX7_takes c hc _ List.mem_cons_self) (by decide +kernel) rfl (by decide +kernel) ⟨rfl, top_in, top_in, top_in, trivial⟩ hL
theorem l_X6_flow {m : MM} {a1 : Int32} {a2 : Int32} (hL : LI m) : CI 5 mX6_flow [.ref 6, .int a1, .int a2] m (fun _ m' => LI m') := li_ci (fun c hc => sfX6_flow c hc _ List.mem_cons_self) (by decide +kernel) rfl (by decide +kernel) ⟨rfl, top_in, top_in, trivial⟩ hL
theorem l_X7_flow {m : MM} {a1 : Int32} {a2 : Int32} (hL : LI m) : CI 5 mX7_flow [.ref 1175, .int a1, .int a2] m (fun _ m' => LI m') := li_ci hpFlow7 (by decide +kernel) rfl (by decide +kernel) ⟨rfl, top_in, top_in, trivial⟩ hL
theorem l_X6_luck {m : MM} {a1 : Int32} {a2 : Int32} {a3 : Int32} {a4 : Int32} {a5 : Int32} (hL : LI m) : CI 11 mX6_luck [.ref 6, .int a1, .int a2, .int a3, .int a4, .int a5] m (fun _ m' => LI m') := li_ci (fun c hc => sfX6_luck c hc _ List.mem_cons_self) (by decide +kernel) rfl (by decide +kernel) ⟨rfl, top_in, top_in, top_in, top_in, top_in, trivial⟩ hL
theorem l_X7_luck {m : MM} {a1 : Int32} {a2 : Int32} {a3 : Int32} {a4 : Int32} {a5 : Int32} (hL : LI m) : CI 10 mX7_luck [.ref 1175, .int a1, .int a2, .int a3, .int a4, .int a5] m (fun _ m' => LI m') := li_ci (fun c hc => sfX7_luck c hc _ List.mem_cons_self) (by decide +kernel) rfl (by decide +kernel) ⟨rfl, top_in, top_in, top_in, top_in, top_in, trivial⟩ hL
theorem l_X6_signs {m : MM} {a1 : Int32} {a2 : Int32} {a3 : Int32} {a4 : Int32} (hL : LI m) : CI 11 mX6_signs [.ref 6, .int a1, .int a2, .int a3, .int a4] m (fun _ m' => LI m') := li_ci (fun c hc => sfX6_signs c hc _ List.mem_cons_self) (by decide +kernel) rfl (by decide +kernel) ⟨rfl, top_in, top_in, top_in, top_in, trivial⟩ hL
theorem l_X7_signs {m : MM} {a1 : Int32} {a2 : Int32} {a3 : Int32} {a4 : Int32} (hL : LI m) : CI 10 mX7_signs [.ref 1175, .int a1, .int a2, .int a3, .int a4] m (fun _ m' => LI m') := li_ci (fun c hc => sfX7_signs c hc _ List.mem_cons_self) (by decide +kernel) rfl (by decide +kernel) ⟨rfl, top_in, top_in, top_in, top_in, trivial⟩ hL
theorem l_X6_knew {m : MM} {a1 : Int32} {a2 : Int32} {a3 : Int32} {a4 : Int32} {a5 : Int32} (hL : LI m) : CI 11 mX6_knew [.ref 6, .int a1, .int a2, .int a3, .int a4, .int a5] m (fun _ m' => LI m') := li_ci (fun c hc => sfX6_knew c hc _ List.mem_cons_self) (by decide +kernel) rfl (by decide +kernel) ⟨rfl, top_in, top_in, top_in, top_in, top_in, trivial⟩ hL
theorem l_X7_knew {m : MM} {a1 : Int32} {a2 : Int32} {a3 : Int32} {a4 : Int32} {a5 : Int32} (hL : LI m) : CI 10 mX7_knew [.ref 1175, .int a1, .int a2, .int a3, .int a4, .int a5] m (fun _ m' => LI m') := li_ci (fun c hc => sfX7_knew c hc _ List.mem_cons_self) (by decide +kernel) rfl (by decide +kernel) ⟨rfl, top_in, top_in, top_in, top_in, top_in, trivial⟩ hL
theorem l_X6_hands {m : MM}  (hL : LI m) : CI 1 mX6_hands [.ref 6] m (fun _ m' => LI m') := li_ci (fun c hc => sfX6_hands c hc _ List.mem_cons_self) (by decide +kernel) rfl (by decide +kernel) ⟨rfl, trivial⟩ hL
theorem l_X7_hands {m : MM}  (hL : LI m) : CI 2 mX7_hands [.ref 1175] m (fun _ m' => LI m') := li_ci (fun c hc => sfX7_hands c hc _ List.mem_cons_self) (by decide +kernel) rfl (by decide +kernel) ⟨rfl, trivial⟩ hL
theorem l_X6_lacking {m : MM} {a1 : Int32} (hL : LI m) : CI 4 mX6_lacking [.ref 6, .int a1] m (fun _ m' => LI m') := li_ci (fun c hc => sfX6_lacking c hc _ List.mem_cons_self) (by decide +kernel) rfl (by decide +kernel) ⟨rfl, top_in, trivial⟩ hL
theorem l_X7_lacking {m : MM} {a1 : Int32} (hL : LI m) : CI 1 mX7_lacking [.ref 1175, .int a1] m (fun _ m' => LI m') := li_ci (fun c hc => sfX7_lacking c hc _ List.mem_cons_self) (by decide +kernel) rfl (by decide +kernel) ⟨rfl, top_in, trivial⟩ hL
theorem l_X6_stop {m : MM} {a1 : Int32} (hL : LI m) : CI 2 mX6_stop [.ref 6, .int a1] m (fun _ m' => LI m') := li_ci (fun c hc => sfX6_stop c hc _ List.mem_cons_self) (by decide +kernel) rfl (by decide +kernel) ⟨rfl, top_in, trivial⟩ hL
theorem l_X7_stop {m : MM} {a1 : Int32} (hL : LI m) : CI 2 mX7_stop [.ref 1175, .int a1] m (fun _ m' => LI m') := li_ci (fun c hc => sfX7_stop c hc _ List.mem_cons_self) (by decide +kernel) rfl (by decide +kernel) ⟨rfl, top_in, trivial⟩ hL
theorem l_X6_fewest {m : MM} {a1 : Int32} {a2 : Int32} {a3 : Int32} {a4 : Int64} (hL : LI m) : CI 11 mX6_fewest [.ref 6, .int a1, .int a2, .int a3, .long a4] m (fun _ m' => LI m') := li_ci (fun c hc => sfX6_fewest c hc _ List.mem_cons_self) (by decide +kernel) rfl (by decide +kernel) ⟨rfl, top_in, top_in, top_in, ⟨a4, rfl⟩, trivial⟩ hL
theorem l_X7_fewest {m : MM} {a1 : Int32} {a2 : Int32} {a3 : Int32} {a4 : Int64} (hL : LI m) : CI 10 mX7_fewest [.ref 1175, .int a1, .int a2, .int a3, .long a4] m (fun _ m' => LI m') := li_ci (fun c hc => sfX7_fewest c hc _ List.mem_cons_self) (by decide +kernel) rfl (by decide +kernel) ⟨rfl, top_in, top_in, top_in, ⟨a4, rfl⟩, trivial⟩ hL
theorem l_X6_rule {m : MM} {a1 : Int32} (hL : LI m) : CI 2 mX6_rule [.ref 6, .int a1] m (fun _ m' => LI m') := li_ci (fun c hc => sfX6_rule c hc _ List.mem_cons_self) (by decide +kernel) rfl (by decide +kernel) ⟨rfl, top_in, trivial⟩ hL
theorem l_X7_rule {m : MM} {a1 : Int32} (hL : LI m) : CI 2 mX7_rule [.ref 1175, .int a1] m (fun _ m' => LI m') := li_ci (fun c hc => sfX7_rule c hc _ List.mem_cons_self) (by decide +kernel) rfl (by decide +kernel) ⟨rfl, top_in, trivial⟩ hL
theorem l_X6_burden {m : MM} {a1 : Int32} (hL : LI m) : CI 5 mX6_burden [.ref 6, .int a1] m (fun _ m' => LI m') := li_ci (fun c hc => sfX6_burden c hc _ List.mem_cons_self) (by decide +kernel) rfl (by decide +kernel) ⟨rfl, top_in, trivial⟩ hL
theorem l_X7_burden {m : MM} {a1 : Int32} (hL : LI m) : CI 6 mX7_burden [.ref 1175, .int a1] m (fun _ m' => LI m') := li_ci (fun c hc => sfX7_burden c hc _ List.mem_cons_self) (by decide +kernel) rfl (by decide +kernel) ⟨rfl, top_in, trivial⟩ hL
theorem l_X6_starve {m : MM} {a1 : Int32} {a2 : Int32} {a3 : Int32} {a4 : Int32} {a5 : Int32} (hL : LI m) : CJ 11 mX6_starve [.ref 6, .int a1, .int a2, .int a3, .int a4, .int a5] m (fun _ m' => LI m') := li_cj (fun c hc => sfX6_starve c hc _ List.mem_cons_self) (by decide +kernel) rfl (by decide +kernel) ⟨rfl, top_in, top_in, top_in, top_in, top_in, trivial⟩ hL
theorem l_X7_starve {m : MM} {a1 : Int32} {a2 : Int32} {a3 : Int32} {a4 : Int32} {a5 : Int32} (hL : LI m) : CJ 10 mX7_starve [.ref 1175, .int a1, .int a2, .int a3, .int a4, .int a5] m (fun _ m' => LI m') := li_cj (fun c hc => sfX7_starve c hc _ List.mem_cons_self) (by decide +kernel) rfl (by decide +kernel) ⟨rfl, top_in, top_in, top_in, top_in, top_in, trivial⟩ hL
theorem l_X6_count {m : MM} {a1 : Int32} (hL : LI m) : CI 5 mX6_count [.ref 6, .int a1] m (fun _ m' => LI m') := li_ci (fun c hc => sfX6_count c hc _ List.mem_cons_self) (by decide +kernel) rfl (by decide +kernel) ⟨rfl, top_in, trivial⟩ hL
theorem l_X7_count {m : MM} {a1 : Int32} (hL : LI m) : CI 5 mX7_count [.ref 1175, .int a1] m (fun _ m' => LI m') := li_ci (fun c hc => sfX7_count c hc _ List.mem_cons_self) (by decide +kernel) rfl (by decide +kernel) ⟨rfl, top_in, trivial⟩ hL
theorem l_X7_look {m : MM} {a1 : Int32} {a2 : Int32} (hL : LI m) : CI 3 mX7_look [.ref 1175, .int a1, .int a2] m (fun _ m' => LI m') := li_ci (fun c hc => sfX7_look c hc _ List.mem_cons_self) (by decide +kernel) rfl (by decide +kernel) ⟨rfl, top_in, top_in, trivial⟩ hL
/-! sell of the model: one sale more, or none -/
def acSell (v : Int) : AC := ([(2, 1175, 0), (0, -2147483648, 2147483647), (0, -2147483648, 2147483647), (0, -2147483648, 2147483647), (0, -2147483648, 2147483647), (0, -2147483648, 2147483647), (0, -2147483648, 2147483647), (0, -2147483648, 2147483647)], 2, [((0, -1, 39), [((1175, 6), (v, v + 1))], [])], [329048, 329064, 329080, 329096, 329112, 329128, 329144, 4294968471, 30064772247], [((1175, 6), (v, v))])
set_option maxRecDepth 100000 in
theorem sellAll : (List.range 41).all (fun v => chk (2, TYg, cA, [329048, 329064, 329080, 329096, 329112, 329128, 329144, 4294968471, 30064772247]) (acSell v) mX7_sell.2.2.1 (adX7_sell (2, TYg, cA, [329048, 329064, 329080, 329096, 329112, 329128, 329144, 4294968471, 30064772247])) [] 600 && chk (2, TYg, cB, [329048, 329064, 329080, 329096, 329112, 329128, 329144, 4294968471, 30064772247]) (acSell v) mX7_sell.2.2.1 (adX7_sell (2, TYg, cB, [329048, 329064, 329080, 329096, 329112, 329128, 329144, 4294968471, 30064772247])) [] 600) = true := by decide +kernel
theorem hpSell7 {v : Nat} (hv : v < 41) (c : Nat × Nat) (hc : c = cA ∨ c = cB) : SafeC TYg c mX7_sell (acSell v) := by
  have h := List.all_eq_true.mp sellAll v (List.mem_range.mpr hv)
  rw [Bool.and_eq_true] at h
  rcases hc with rfl | rfl
  · exact safe_of (ann := []) (fuel := 600) okX7_sell (snX7_sell _ _ cA (Or.inl rfl)) (fun q hq => by cases hq) (Nat.le_of_ble_eq_true rfl) h.1
  · exact safe_of (ann := []) (fuel := 600) okX7_sell (snX7_sell _ _ cB (Or.inr rfl)) (fun q hq => by cases hq) (Nat.le_of_ble_eq_true rfl) h.2
theorem l_X7_sell {m : MM} {a1 a2 a3 a4 a5 a6 a7 : Int32} (hL : LI m) : CI 2 mX7_sell [.ref 1175, .int a1, .int a2, .int a3, .int a4, .int a5, .int a6, .int a7] m (fun _ m' => LI m') := by
  have h6 : (0 : Int) ≤ (gI m 1175 6).toInt ∧ (gI m 1175 6).toInt ≤ 40 := hL.1.1 1175 6
  have hc := hpSell7 (v := (gI m 1175 6).toInt.toNat) (by omega) m.2.2 hL.2.1
  refine CI.mono (SafeC.ci hc (by rfl) ⟨rfl, top_in, top_in, top_in, top_in, top_in, top_in, top_in, trivial⟩ hL.1 rfl (fun q hq => by
    rw [List.mem_singleton.mp hq]
    show (((gI m 1175 6).toInt.toNat : Nat) : Int) ≤ (gI m 1175 6).toInt ∧ (gI m 1175 6).toInt ≤ (((gI m 1175 6).toInt.toNat : Nat) : Int)
    omega)) (fun x m' hP => ?_)
  obtain ⟨p1, p2, p3, o, ho, oo1, oo2, oo3⟩ := hP
  rw [List.mem_singleton.mp ho] at oo2
  have h2 := oo2 ((1175, 6), ((((gI m 1175 6).toInt.toNat : Nat) : Int), (((gI m 1175 6).toInt.toNat : Nat) : Int) + 1)) (List.mem_singleton.mpr rfl)
  have h2 : (((gI m 1175 6).toInt.toNat : Nat) : Int) ≤ (gI m' 1175 6).toInt := h2.1
  have e1 : gI m' 19 1 = gI m 19 1 := fr1 p3 (by show ¬ wk 19 1 ∈ [329048, 329064, 329080, 329096, 329112, 329128, 329144, 4294968471, 30064772247]; decide)
  have e2 : gI m' 1175 2 = gI m 1175 2 := fr1 p3 (by show ¬ wk 1175 2 ∈ [329048, 329064, 329080, 329096, 329112, 329128, 329144, 4294968471, 30064772247]; decide)
  have e4 : gI m' 1175 7 = gI m 1175 7 := fr1 p3 (by show ¬ wk 1175 7 ∈ [329048, 329064, 329080, 329096, 329112, 329128, 329144, 4294968471, 30064772247]; decide)
  have h4 := hL.2.2.2.1
  exact ⟨p1, by rw [p2]; exact hL.2.1, by rw [e1, e2]; exact hL.2.2.1, by rw [e4]; omega, TQ_fr p3 e1 (show kQ [329048, 329064, 329080, 329096, 329112, 329128, 329144, 4294968471, 30064772247] = true by decide) hL.2.2.2.2⟩
theorem l_X7_undo {m : MM} (hL : LI m) : CI 1 mX7_undo [.ref 1175] m (fun _ m' => LI m') := CI.mono (hpUndo7 hL.1 hL.2.2.2.1) (fun x m' q => by
  have e1 : gI m' 19 1 = gI m 19 1 := fr1 q.1.2.2 (by decide)
  have e2 : gI m' 1175 2 = gI m 1175 2 := fr1 q.1.2.2 (by decide)
  exact ⟨q.1.1, by rw [q.1.2.1]; exact hL.2.1, by rw [e1, e2]; exact hL.2.2.1, q.2, TQ_fr q.1.2.2 e1 (by decide) hL.2.2.2.2⟩)
/-- what both feeds answer is one -/
theorem feedEq {a b c d e : Int32} {m m1 m2 : MM} {r1 r2 : Int32} (hL : LI m) (h1 : Fd6 a b c d e m r1 m1) (h2 : Fd7 a b c d e m1 r2 m2) : r1 = r2 ∧ LI m2 := by
  obtain ⟨s1, h1⟩ := h1
  obtain ⟨s2, h2⟩ := h2
  have e2 : gI m1 1175 2 = gI m 1175 2 := fr1 s1.2.2 (by decide)
  have e1 : gI m2 19 1 = gI m1 19 1 := fr1 s2.2.2 (by decide)
  have e6 : gI m2 1175 6 = gI m 1175 6 := (fr1 s2.2.2 (by decide)).trans (fr1 s1.2.2 (by decide))
  have e7 : gI m2 1175 7 = gI m 1175 7 := (fr1 s2.2.2 (by decide)).trans (fr1 s1.2.2 (by decide))
  have hq := hL.2.2.1
  rw [e2, ← hq] at h2
  have hb : m2.2.2 = cA ∨ m2.2.2 = cB := by rw [s2.2.1, s1.2.1]; exact hL.2.1
  have rc : ∀ i, gI m2 3276842 i = gI m1 3276842 i := fun i => row1 s2.2.2 rfl (by decide)
  have rm : ∀ i, gI m1 3277992 i = gI m 3277992 i := fun i => row1 s1.2.2 rfl (by decide)
  have hFQ : FQ m2 := by
    refine ⟨?_, ?_⟩
    · rw [fr1 s2.2.2 (by decide : ¬ wk 19 2 ∈ wF7), fr1 s1.2.2 (by decide : ¬ wk 19 2 ∈ wF6), fr1 s2.2.2 (by decide : ¬ wk 1175 37 ∈ wF7), fr1 s1.2.2 (by decide : ¬ wk 1175 37 ∈ wF6)]
      exact hL.2.2.2.2.2.1
    · rw [fr1 s2.2.2 (by decide : ¬ wk 19 3 ∈ wF7), fr1 s1.2.2 (by decide : ¬ wk 19 3 ∈ wF6), fr1 s2.2.2 (by decide : ¬ wk 1175 38 ∈ wF7), fr1 s1.2.2 (by decide : ¬ wk 1175 38 ∈ wF6)]
      exact hL.2.2.2.2.2.2
  rcases h1 with ⟨a1, a2, a3, a4, a5⟩ | ⟨a1, a2, a3⟩
  · rcases h2 with ⟨b1, b2, b3, b4, b5⟩ | ⟨b1, b2, b3, b4⟩
    · refine ⟨Int32.toInt_inj.mp (by omega), s2.1, hb, Int32.toInt_inj.mp (by rw [e1]; omega), by rw [e6, e7]; exact hL.2.2.2.1, fun i hi => ?_, hFQ⟩
      rw [e1, a3] at hi
      rcases Int.lt_or_le (i : Int) (gI m 19 1).toInt with y | y
      · rw [rc, a4 i y, b4 i y, rm]
        exact hL.2.2.2.2.1 i y
      · have hk : i = (gI m 19 1).toInt.toNat + (i - (gI m 19 1).toInt.toNat) := by omega
        rw [hk, rc, a5 _ (by omega), b5 _ (by omega)]
        exact byteR _
    · omega
  · rcases h2 with ⟨b1, b2, b3, b4, b5⟩ | ⟨b1, b2, b3, b4⟩
    · omega
    · subst a3
      refine ⟨by rw [a2, b2], s2.1, hb, by rw [e1, b3], by rw [e6, e7]; exact hL.2.2.2.1, fun i hi => ?_, hFQ⟩
      rw [e1] at hi
      rw [rc, b4]
      exact hL.2.2.2.2.1 i hi
/-- the bytes of the tape, as the model has them -/
def bM (m : MM) : BT := fun i => (gI m 3277992 i).toInt
theorem bM_m {m : MM} (hM : Mok TYg m) (e : Nat) : mbR m (bM m) e := fun i _ => by
  have h : (0 : Int) ≤ (gI m 3277992 i).toInt ∧ (gI m 3277992 i).toInt ≤ 255 := hM.1 3277992 i
  exact ⟨rfl, h.1, h.2⟩
theorem bM_c {m : MM} {n : Int32} (hL : LI m) (h : n.toInt ≤ (gI m 19 1).toInt) : cbR m (bM m) n.toInt.toNat := fun i hi => by
  have := hL.2.2.2.2.1 i (by omega)
  exact ⟨this.1, this.2.1, this.2.2⟩
def BkX (m : MM) (n : Int32) (r : Int32) (m' : MM) : Prop := Mok TYg m' ∧ (m'.2.2 = cA ∨ m'.2.2 = cB) ∧ ((¬ (0 ≤ n.toInt ∧ n.toInt ≤ (gI m 19 1).toInt) ∧ r = -2 ∧ m' = m) ∨
  ((0 ≤ n.toInt ∧ n.toInt ≤ (gI m 19 1).toInt) ∧ gI m' 19 1 = 0 ∧ (gI m' 1175 2 = gI m 1175 2 ∧ gI m' 1175 6 = gI m 1175 6 ∧ gI m' 1175 7 = gI m 1175 7) ∧ (∀ i, gI m' 3277992 i = gI m 3277992 i) ∧
    ((∃ er, readS (bM m) n.toInt.toNat = .inl er ∧ r = -1 ∧ (gI m' 19 2).toInt = er.1 ∧ (gI m' 19 3).toInt = er.2) ∨
     (∃ x, readS (bM m) n.toInt.toNat = .inr x ∧ r.toInt = x.2 ∧ gI m' 19 2 = 0 ∧ gI m' 19 3 = -1))))
theorem BkX_of {W1 W2 : List Nat} {nw : Nat} {c2 : Nat × Nat} {m m' : MM} {n r : Int32} (hL : LI m) (hc : c2 = cA ∨ c2 = cB) (h : Bk6 (bM m) W1 W2 nw c2 m n r m') (w1 : ¬ wk 1175 2 ∈ W1 ∧ ¬ wk 1175 6 ∈ W1 ∧ ¬ wk 1175 7 ∈ W1 ∧ elm 3277992 W1 = false) (w2 : ¬ wk 1175 2 ∈ W2 ∧ ¬ wk 1175 6 ∈ W2 ∧ ¬ wk 1175 7 ∈ W2 ∧ elm 3277992 W2 = false) : BkX m n r m' := by
  obtain ⟨hM, h⟩ := h
  rcases h with ⟨q1, q2, q3⟩ | ⟨q1, q2, q3⟩
  · exact ⟨hM, by rw [q3]; exact hL.2.1, Or.inl ⟨q1, q2, q3⟩⟩
  · rcases q3 with ⟨er, y1, y2, y3, y4, y5, y6⟩ | ⟨x, y1, y2, y3, y4, y5, y6, y7, y8, y9⟩
    · exact ⟨hM, by rw [y5]; exact hL.2.1, Or.inr ⟨q1, q2, ⟨fr1 y6 w1.1, fr1 y6 w1.2.1, fr1 y6 w1.2.2.1⟩, fun i => row1 y6 rfl w1.2.2.2, Or.inl ⟨er, y1, y2, y3, y4⟩⟩⟩
    · exact ⟨hM, by rw [y5]; exact hc, Or.inr ⟨q1, q2, ⟨fr1 y9 w2.1, fr1 y9 w2.2.1, fr1 y9 w2.2.2.1⟩, fun i => row1 y9 rfl w2.2.2.2, Or.inr ⟨x, y1, y2, y3, y4⟩⟩⟩
theorem book6 {m : MM} {n : Int32} (hL : LI m) : CI 9 mX6_book [.ref 6, .int n] m (BkX m n) := by
  rcases hL.2.1 with q | q
  · exact CI.mono (r_book6A (b := bM m) hL.1 q (bM_c hL)) (fun r m' h => BkX_of hL (Or.inr rfl) h (by decide) (by decide))
  · exact CI.mono (r_book6B (b := bM m) hL.1 q (bM_c hL)) (fun r m' h => BkX_of hL (Or.inl rfl) h (by decide) (by decide))
theorem book7 {m m1 : MM} {n r1 : Int32} (h1 : BkX m n r1 m1) : CI 9 mX7_book [.ref 1175, .int n] m1 (Bk7 (bM m1) m1 n) := s_book h1.2.1 rfl h1.1 (bM_m h1.1 _)
theorem bookEq {m m1 m2 : MM} {n : Int32} {r1 r2 : Int32} (hL : LI m) (h1 : BkX m n r1 m1) (h2 : Bk7 (bM m1) m1 n r2 m2) : r1 = r2 ∧ LI m2 := by
  obtain ⟨a1, a2, a3⟩ := h1
  obtain ⟨b1, b2, b3, b4⟩ := h2
  have hb : m2.2.2 = cA ∨ m2.2.2 = cB := by rw [b2]; exact a2
  have e1 : gI m2 19 1 = gI m1 19 1 := fr1 b3 (by decide)
  have e2 : gI m2 19 2 = gI m1 19 2 := fr1 b3 (by decide)
  have e3 : gI m2 19 3 = gI m1 19 3 := fr1 b3 (by decide)
  rcases a3 with ⟨p1, p2, p3⟩ | ⟨p1, p2, ⟨p3, p4, p5⟩, p6, p7⟩
  · subst p3
    rcases b4 with ⟨q1, q2, q3⟩ | ⟨q1, q2, q3⟩
    · subst q3
      exact ⟨by rw [p2, q2], b1, hL.2.1, hL.2.2.1, hL.2.2.2.1, hL.2.2.2.2.1, hL.2.2.2.2.2⟩
    · rw [← hL.2.2.1] at q1
      exact absurd q1 p1
  · have eb : bM m1 = bM m := by
      funext i
      unfold bM
      rw [p6]
    rw [eb, p3, ← hL.2.2.1] at b4
    rcases b4 with ⟨q1, q2, q3⟩ | ⟨q1, q2, q3⟩
    · exact absurd p1 q1
    · have tr : TR m2 := fun i hi => by
        rw [e1, p2] at hi
        have : (0 : Int32).toInt = 0 := rfl
        omega
      have hz : gI m2 19 1 = gI m2 1175 2 := by rw [e1, p2, q2]
      rcases p7 with ⟨er, y1, y2, y3, y4⟩ | ⟨x, y1, y2, y3, y4⟩
      · rcases q3 with ⟨er', z1, z2, z3, z4, z5, z6⟩ | ⟨x, z1, z2, z3, z4, z5⟩
        · rw [y1] at z1
          cases z1
          refine ⟨by rw [y2, z2], b1, hb, hz, ?_, tr, ?_, ?_⟩
          · rw [z5, z6, p4, p5]; exact hL.2.2.2.1
          · exact Int32.toInt_inj.mp (by rw [e2, y3, z3])
          · exact Int32.toInt_inj.mp (by rw [e3, y4, z4])
        · rw [y1] at z1; cases z1
      · rcases q3 with ⟨er', z1, z2, z3, z4, z5, z6⟩ | ⟨x', z1, z2, z3, z4, z5⟩
        · rw [y1] at z1; cases z1
        · rw [y1] at z1
          cases z1
          refine ⟨Int32.toInt_inj.mp (by rw [y2, z2]), b1, hb, hz, ?_, tr, ?_, ?_⟩
          · rw [z5]; exact Int.le_refl _
          · rw [e2, y3, z3]
          · rw [e3, y4, z4]
/-! what both faults answer is one -/
set_option maxRecDepth 100000 in
theorem fault6 {m : MM} {w : Int32} (hL : LI m) : CI 1 mX6_fault [.ref 6, .int w] m (fun r m' => m' = m ∧ r = if w = 0 then gI m 19 2 else if w = 1 then gI m 19 3 else -1) := by
  refine At.gs okX6_fault 40 ?_
  (conv => whnf)
  refine And.intro (fun h => ?_) (fun h => ?_)
  · exact ⟨rfl, by rw [if_pos h]⟩
  · refine And.intro (fun h2 => ?_) (fun h2 => ?_)
    · exact ⟨rfl, by rw [if_neg h, if_pos h2]⟩
    · exact ⟨rfl, by rw [if_neg h, if_neg h2]⟩
set_option maxRecDepth 100000 in
theorem fault7 {m : MM} {w : Int32} (hL : LI m) : CI 1 mX7_fault [.ref 1175, .int w] m (fun r m' => LI m' ∧ r = if w = 0 then gI m 1175 37 else if w = 1 then gI m 1175 38 else -1) := by
  have S0 : St [4294968471] m (sI m 1175 0 0) := (St.rf hL.1).fld (a := 1175) (k := 0) (v := 0) (by decide) (by decide) (by decide) (fun _ z => by omega)
  have L0 : LI (sI m 1175 0 0) := LI_fr hL S0.1 S0.2.1 S0.2.2 (by decide)
  refine At.gs okX7_fault 40 ?_
  (conv => whnf)
  refine And.intro (fun h => ?_) (fun h => ?_)
  · (conv => whnf)
    refine And.intro (fun h2 => ?_) (fun h2 => ?_)
    · exact ⟨L0, by rw [if_neg h, if_neg h2]⟩
    · exact ⟨L0, by rw [if_neg h, if_pos h2]; rfl⟩
  · exact ⟨L0, by rw [if_pos h]; rfl⟩
