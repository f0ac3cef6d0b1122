/-! a loop alone, from its head -/
def chkL (D : KK) (ac : AC) (nl : Nat) (fa : List ACE) (ann : List AN) (fuel : Nat) : Bool :=
  ann.all (fun q => q.2.1.isEmpty || (noSym q.2.1 && Nat.beq q.2.1.length nl && ax (psA ann) (stp nl D ann (some q.2.2)) (rtc D.2.1 false ac) fa fuel (aseek q.1 fa).tail (iniA D.2.1 q.2.1 q.2.2)))
theorem loop_of {Ty : TY} {c : Nat × Nat} {μ : MI} {ac : AC} {full : List CE} {fa : List ACE} {ann : List AN} {fuel : Nat} (hok : CodeOk μ full) (hS : SndAll (ac.2.1, Ty, c, ac.2.2.2.1) full fa) (hz : ∀ q ∈ ann, ∃ o r, seek q.1 full = (q.1, 0, o) :: r) (h : chkL (ac.2.1, Ty, c, ac.2.2.2.1) ac μ.2.2.1 fa ann fuel = true)
    (q0 : AN) (hq0 : q0 ∈ ann) (hne0 : q0.2.1.isEmpty = false) {ls0 as : List Value} {m : MM} (hF : FA (fun _ => 0) q0.2.1 ls0) (hM : Mok Ty m) (hc : m.2.2 = c) : At (E0 ac.2.1) μ (PC Ty ac m as) q0.1 ls0 [] m := by
  have hann := h
  unfold chkL at hann
  have hps : ∀ (n pc : Nat) (ls st : List Value) (m1 : MM), psA ann pc = true → sx (E0 ac.2.1) (PC Ty ac m as) (At (E0 ac.2.1) μ (PC Ty ac m as)) full n (seek pc full).tail ls st m1 → At (E0 ac.2.1) μ (PC Ty ac m as) pc ls st m1 := by
    intro n pc ls st m1 hp hx
    unfold psA at hp
    split at hp
    · rename_i q hq
      obtain ⟨hin, rfl⟩ := annF_ok hq
      exact At.lp hok n (hz q hin) hx
    · cases hp
  have loops : ∀ (N : Nat) (q : AN), q ∈ ann → q.2.1.isEmpty = false → ∀ (ls : List Value) (m1 : MM), FA (fun _ => 0) q.2.1 ls → Mok Ty m1 → m1.2.2 = c → Fr ac.2.2.2.1 m m1 → enc 9 (mv q.2.2 ls m1) = N → At (E0 ac.2.1) μ (PC Ty ac m as) q.1 ls [] m1 := by
    intro N
    induction N using Nat.strongRecOn with
    | ind N ih =>
      intro q hq hne ls m1 hFq hMq hcq hWq hN
      have hq2 := List.all_eq_true.mp hann q hq
      rw [hne, Bool.false_or] at hq2
      simp only [Bool.and_eq_true] at hq2
      obtain ⟨⟨b1, b2⟩, b3⟩ := hq2
      have hlq : q.2.1.length = μ.2.2.1 := Nat.eq_of_beq_eq_true b2
      have hst := start_ok (c := c) (W := ac.2.2.2.1) (mz := m) (sp := q.2.2) b1 hFq hMq hcq hWq
      refine At.lp hok fuel (hz q hq) ?_
      refine ax_ok hps (D := (ac.2.1, Ty, c, ac.2.2.2.1)) (Γ := (Ty, c, ac.2.2.2.1, m, q.2.1.length + (fldS Ty q.2.1.length q.2.2).2.length, iniS Ty q.2.1 q.2.2 ls m1)) ⟨rfl, rfl, rfl, rfl⟩ hS ?_ ?_ fuel _ _ (tail_snd (seek_snd q.1 hS)) _ ls [] m1 b3 ⟨_, hst⟩
      · intro pc A ls2 st2 m2 hs hR
        unfold stp at hs
        split at hs
        · rename_i q2 hq2
          obtain ⟨hin, rfl⟩ := annF_ok hq2
          simp only [Bool.and_eq_true] at hs
          obtain ⟨⟨⟨s0, s1⟩, s2⟩, s3⟩ := hs
          obtain ⟨σ, hRs⟩ := hR
          have est : st2 = [] := by
            split at s1
            · rename_i e
              have := hRs.2.2.1
              rw [e] at this
              exact FA_nil this
            · cases s1
          subst est
          have hσl : ∀ j, j < μ.2.2.1 → σ j = vI (gl j ls) := fun j hj => by
            have := hRs.2.2.2.2.2.2.2.2 j (by show j < q.2.1.length + _; omega)
            rw [this]
            show iniS Ty q.2.1 q.2.2 ls m1 j = _
            unfold iniS
            rw [if_pos (by omega)]
          have hfl : ∀ j, j < (fldS Ty μ.2.2.1 q.2.2).2.length → σ (μ.2.2.1 + j) = ((fldS Ty μ.2.2.1 q.2.2).2.map (fun z => (gI m1 z.1.1 z.1.2).toInt)).getD j 0 := fun j hj => by
            have := hRs.2.2.2.2.2.2.2.2 (μ.2.2.1 + j) (by show μ.2.2.1 + j < q.2.1.length + (fldS Ty q.2.1.length q.2.2).2.length; rw [hlq]; omega)
            rw [this]
            show iniS Ty q.2.1 q.2.2 ls m1 (μ.2.2.1 + j) = _
            unfold iniS
            rw [if_neg (by omega), hlq, Nat.add_sub_cancel_left]
          have hdec := mdec_ok (ls := ls) (m := m1) hRs hσl 9 μ.2.2.1 q.2.2 q2.2.2 hfl s3
          rw [hN] at hdec
          exact ih _ hdec q2 hin (by cases hb : q2.2.1.isEmpty with | false => rfl | true => rw [hb] at s0; cases s0) ls2 m2 (subL_ok hRs.1 s2 hRs.2.1) hRs.2.2.2.2.1 hRs.2.2.2.2.2.1 hRs.2.2.2.2.2.2.1 rfl
        · cases hs
      · intro A ls2 st2 m2 hs hR
        exact rtc_ok (m0 := m) ⟨rfl, hc.symm, rfl, rfl⟩ hR (fun z => by cases z) hs
  exact loops _ q0 hq0 hne0 ls0 m hF hM hc (Fr_rfl _ _) rfl
