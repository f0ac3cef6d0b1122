/-! a method's contract, by running the abstract machine over its rows -/
def nJ (L : List AV) : Bool := L.all (fun v => Nat.ble v.1 3)
def apad : Nat → List AV → List AV
  | 0, _ => []
  | n + 1, [] => (4, 0, 0) :: apad n []
  | n + 1, v :: r => v :: apad n r
def aen : List AV → List AV
  | [] => []
  | v :: r => match isJ v with
    | true => v :: (4, 0, 0) :: aen r
    | false => v :: aen r
theorem apad_ok {σ : Nat → Int} : ∀ (n : Nat) (L : List AV) (s : List Value), FA σ L s → FA σ (apad n L) (pad n s)
  | 0, L, s, _ => by cases s <;> exact trivial
  | n + 1, [], [], _ => ⟨trivial, apad_ok n [] [] trivial⟩
  | n + 1, [], _ :: _, h => h.elim
  | n + 1, _ :: _, [], h => h.elim
  | n + 1, v :: r, x :: s, h => ⟨h.1, apad_ok n r s h.2⟩
/-- arguments that are ints, longs, references -/
def okG (L : List AV) : Bool := L.all (fun v => Nat.beq v.1 0 || Nat.beq v.1 2 || isJ v)
theorem aen_ok {σ : Nat → Int} : ∀ (L : List AV) (s : List Value), okG L = true → FA σ L s → FA σ (aen L) (enl s)
  | [], [], _, _ => trivial
  | [], _ :: _, _, h => h.elim
  | _ :: _, [], _, h => h.elim
  | v :: r, x :: s, hg, h => by
    unfold okG at hg
    rw [List.all_cons, Bool.and_eq_true] at hg
    have ih := aen_ok r s hg.2 h.2
    unfold aen
    cases hj : isJ v with
    | true =>
      obtain ⟨l, rfl⟩ := gam_long hj h.1
      exact ⟨h.1, trivial, ih⟩
    | false =>
      have h1 := hg.1
      rw [hj, Bool.or_false] at h1
      obtain ⟨t, a, b⟩ := v
      rcases (Bool.or_eq_true _ _).mp h1 with q | q
      · obtain rfl : t = 0 := Nat.eq_of_beq_eq_true q
        have h2 := h.1
        obtain ⟨i, rfl, -⟩ := h.1
        exact ⟨h2, ih⟩
      · obtain rfl : t = 2 := Nat.eq_of_beq_eq_true q
        have e : x = .ref a.toNat := h.1
        subst e
        exact ⟨rfl, ih⟩
def psA (ann : List AN) (pc : Nat) : Bool := match annF pc ann with
  | some q => q.2.1.isEmpty
  | none => false
def stp (nl : Nat) (D : KK) (ann : List AN) (from_ : Option (List MS)) (pc : Nat) (A : AS) : Bool := match annF pc ann with
  | some q => !q.2.1.isEmpty && (match A.2.1 with
      | [] => true
      | _ => false) && subL A.2.2.1 A.1 q.2.1 && (match from_ with
      | none => true
      | some sp => mdec nl 9 nl sp q.2.2 A)
  | none => false
def rtc (Ty : TY) (entry : Bool) (ac : AC) (A : AS) : Bool := ac.2.2.1.any (fun o => (match A.2.1 with
    | [] => Nat.beq o.1.1 9
    | [v] => !(Nat.beq o.1.1 9) && sub1 A.2.2.1 v o.1
    | _ => false) && o.2.1.all (fun q => match mlk q.1.1 q.1.2 A.2.2.2 with
      | some v => inR (rng A.2.2.1 v) q.2
      | none => inR (tyF Ty.1 Ty.2 q.1.1 q.1.2) q.2) && o.2.2.all (fun q => entry && nJ ac.1 && Nat.blt q.1 ac.1.length && (match A.2.2.1[q.1]? with
      | some z => inR z q.2
      | none => false)))
theorem inR_ok {q t : Int × Int} {x : Int} (h : inR q t = true) (h1 : q.1 ≤ x) (h2 : x ≤ q.2) : t.1 ≤ x ∧ x ≤ t.2 := by
  unfold inR at h
  simp only [Bool.and_eq_true, decide_eq_true_eq] at h
  omega
theorem rtc_ok {Γ : GG} {Ty : TY} {entry : Bool} {ac : AC} {A : AS} {ls st : List Value} {m m0 : MM} {as : List Value} (hΓ : Γ.1 = Ty ∧ Γ.2.1 = m0.2.2 ∧ Γ.2.2.1 = ac.2.2.2.1 ∧ Γ.2.2.2.1 = m0) (hR : Rl Γ A ls st m) (he : entry = true → ∀ j, j < ac.1.length → nJ ac.1 = true → j < Γ.2.2.2.2.1 ∧ ∀ i : Int32, gl j as = .int i → Γ.2.2.2.2.2 j = i.toInt) (h : rtc Ty entry ac A = true) : PC Ty ac m0 as st.head? m := by
  obtain ⟨σ, hC, hL, hS, hM, hT, hc, hW, hn0, hs0⟩ := hR
  unfold rtc at h
  obtain ⟨o, ho, h⟩ := List.any_eq_true.mp h
  simp only [Bool.and_eq_true] at h
  obtain ⟨⟨h1, h2⟩, h3⟩ := h
  rw [hΓ.1] at hT
  rw [hΓ.2.2.1, hΓ.2.2.2] at hW
  refine ⟨hT, by rw [hc, hΓ.2.1], hW, o, ho, ?_, fun q hq => ?_, fun q hq i hi => ?_⟩
  · split at h1
    · rename_i e
      rw [e] at hS
      obtain rfl := FA_nil hS
      exact Nat.eq_of_beq_eq_true h1
    · rename_i v e
      rw [e] at hS
      obtain ⟨x, s, rfl, g, -⟩ := FA_cons hS
      rw [Bool.and_eq_true] at h1
      refine ⟨fun q => ?_, sub1_ok hC h1.2 g⟩
      have h4 := h1.1
      rw [q] at h4
      cases h4
    · cases h1
  · have hq2 := List.all_eq_true.mp h2 q hq
    split at hq2
    · rename_i v hv
      have hm := mlk_ok hM hv
      have hr := rng_ok hC hm.1 hm.2
      exact inR_ok hq2 hr.1 hr.2
    · have := hT.1 q.1.1 q.1.2
      exact inR_ok hq2 this.1 this.2
  · have hq2 := List.all_eq_true.mp h3 q hq
    simp only [Bool.and_eq_true] at hq2
    obtain ⟨⟨⟨b1, b2⟩, b3⟩, b4⟩ := hq2
    obtain ⟨j1, j2⟩ := he b1 q.1 (Nat.le_of_ble_eq_true b3) b2
    have j3 := j2 i hi
    split at b4
    · rename_i z hz
      have := hC q.1 z hz
      rw [hs0 q.1 j1, j3] at this
      exact inR_ok b4 this.1 this.2
    · cases b4
/-- the whole check of a method -/
def chk (D : KK) (ac : AC) (nl : Nat) (fa : List ACE) (ann : List AN) (fuel : Nat) : Bool :=
  okG ac.1 && rfM ac.2.2.2.2 (iniA D.2.1 (apad nl (aen ac.1)) []) (fun B => ax (psA ann) (stp nl D ann none) (rtc D.2.1 true ac) fa fuel (aseek 0 fa) B) &&
  ann.all (fun q => q.2.1.isEmpty || (noSym q.2.1 && Nat.beq q.2.1.length nl && ax (psA ann) (stp nl D ann (some q.2.2)) (rtc D.2.1 false ac) fa fuel (aseek q.1 fa).tail (iniA D.2.1 q.2.1 q.2.2)))
theorem FA_len {σ : Nat → Int} : ∀ {L : List AV} {s : List Value}, FA σ L s → L.length = s.length
  | [], [], _ => rfl
  | [], _ :: _, h => h.elim
  | _ :: _, [], h => h.elim
  | v :: r, x :: s, h => congrArg (· + 1) (FA_len h.2)
theorem fldS_len {Ty : TY} : ∀ (sp : List MS) (n : Nat), (fldS Ty n sp).1.length = (fldS Ty n sp).2.length
  | [], _ => rfl
  | s :: r, n => by
    cases hb : isF s with
    | true => simp [fldS, hb, fldS_len r (n + 1)]
    | false => simp [fldS, hb, fldS_len r n]
theorem start_ok {Ty : TY} {c : Nat × Nat} {W : List Nat} {mz : MM} {L : List AV} {sp : List MS} {ls : List Value} {m : MM} (hn : noSym L = true) (hF : FA (fun _ => 0) L ls) (hM : Mok Ty m) (hc : m.2.2 = c) (hW : Fr W mz m) :
    Rs (Ty, c, W, mz, L.length + (fldS Ty L.length sp).2.length, iniS Ty L sp ls m) (iniS Ty L sp ls m) (iniA Ty L sp) ls [] m := by
  have hσ : ∀ j, j < L.length → iniS Ty L sp ls m j = vI (gl j ls) := fun j hj => by unfold iniS; rw [if_pos hj]
  have hf : ∀ j, j < (fldS Ty L.length sp).2.length → iniS Ty L sp ls m (L.length + j) = ((fldS Ty L.length sp).2.map (fun q => (gI m q.1.1 q.1.2).toInt)).getD j 0 := fun j hj => by
    unfold iniS
    rw [if_neg (by omega), Nat.add_sub_cancel_left]
  obtain ⟨e1, e2, e3⟩ := fldS_ok hM sp L.length hf
  have hCl : (iniC L).length = L.length := by unfold iniC; rw [List.length_map]
  refine ⟨fun i q hq => ?_, ini_ok L ls 0 hn hF (fun j hj => by rw [Nat.zero_add]; exact hσ j hj), trivial, e3, hM, hc, hW, ?_, fun i hi => rfl⟩
  · have hq : (iniC L ++ (fldS Ty L.length sp).1)[i]? = some q := hq
    by_cases hi : i < L.length
    · rw [List.getElem?_append_left (by rw [hCl]; exact hi)] at hq
      exact iniC_ok L ls hF hσ i q hq
    · rw [List.getElem?_append_right (by rw [hCl]; omega), hCl] at hq
      have := e2 (i - L.length) q hq
      rw [show L.length + (i - L.length) = i by omega] at this
      exact this
  · show _ ≤ (iniC L ++ (fldS Ty L.length sp).1).length
    rw [List.length_append, hCl, e1]
    exact Nat.le_refl _
theorem noSym_pad : ∀ (n : Nat) (L : List AV), okG L = true → noSym (apad n (aen L)) = true := by
  have key : ∀ (n : Nat) (L : List AV), noSym L = true → noSym (apad n L) = true := by
    intro n
    induction n with
    | zero => intro L _; rfl
    | succ n ih =>
      intro L h
      cases L with
      | nil => unfold apad noSym; rw [List.all_cons]; exact ih [] rfl
      | cons v r =>
        unfold noSym at h
        rw [List.all_cons, Bool.and_eq_true] at h
        unfold apad noSym
        rw [List.all_cons, Bool.and_eq_true]
        exact ⟨h.1, ih r h.2⟩
  intro n L h
  refine key n _ ?_
  induction L with
  | nil => rfl
  | cons v r ih =>
    unfold okG at h
    rw [List.all_cons, Bool.and_eq_true] at h
    have ih := ih h.2
    have hv : (!(Nat.beq v.1 1)) = true := by
      cases hb : Nat.beq v.1 1 with
      | false => rfl
      | true =>
        have h1 := h.1
        unfold isJ at h1
        rw [Nat.eq_of_beq_eq_true hb] at h1
        cases h1
    unfold aen
    split
    · unfold noSym
      rw [List.all_cons, List.all_cons, Bool.and_eq_true, Bool.and_eq_true]
      exact ⟨hv, rfl, ih⟩
    · unfold noSym
      rw [List.all_cons, Bool.and_eq_true]
      exact ⟨hv, ih⟩
theorem gl_enl_nJ : ∀ (L : List AV) (s : List Value) (n j : Nat), nJ L = true → FA (fun _ => 0) L s → j < L.length → j < n → gl j (pad n (enl s)) = gl j s
  | [], s, n, j, _, _, hj, _ => absurd hj (Nat.not_lt_zero _)
  | v :: r, [], n, j, _, h, _, _ => h.elim
  | v :: r, x :: s, 0, j, _, _, _, hn => absurd hn (Nat.not_lt_zero _)
  | v :: r, x :: s, n + 1, j, hJ, h, hj, hn => by
    unfold nJ at hJ
    rw [List.all_cons, Bool.and_eq_true] at hJ
    have e : enl (x :: s) = x :: enl s := by
      obtain ⟨t, a, b⟩ := v
      have h1 := hJ.1
      have g := h.1
      match t, h1, g with
      | 0, _, g => obtain ⟨i, rfl, -⟩ := g; rfl
      | 1, _, g => obtain ⟨i, rfl, -⟩ := g; rfl
      | 2, _, g =>
        have g : x = .ref a.toNat := g
        subst g; rfl
      | 3, _, g => obtain ⟨i, rfl⟩ := g; rfl
      | t + 4, h1, g => cases h1
    rw [e]
    cases j with
    | zero => rfl
    | succ j => exact gl_enl_nJ r s n j hJ.2 h.2 (by simp only [List.length_cons] at hj; omega) (by omega)
/-- THE CONTRACT, out of a check that the kernel runs -/
theorem safe_of {Ty : TY} {c : Nat × Nat} {μ : MI} {ac : AC} {full : List CE} {fa : List ACE} {ann : List AN} {fuel : Nat} (hok : CodeOk μ full) (hS : SndAll (ac.2.1, Ty, c, ac.2.2.2.1) full fa) (hz : ∀ q ∈ ann, ∃ o r, seek q.1 full = (q.1, 0, o) :: r) (hlen : acats ac.1 ≤ μ.2.2.1) (h : chk (ac.2.1, Ty, c, ac.2.2.2.1) ac μ.2.2.1 fa ann fuel = true) : SafeC Ty c μ ac := by
  intro as m hF hM hc hpre
  unfold chk at h
  simp only [Bool.and_eq_true] at h
  obtain ⟨⟨hg, hent⟩, hann⟩ := h
  have hps : ∀ (n pc : Nat) (ls st : List Value) (m1 : MM), psA ann pc = true → sx (E0 ac.2.1) (PC Ty ac m as) (At (E0 ac.2.1) μ (PC Ty ac m as)) full n (seek pc full).tail ls st m1 → At (E0 ac.2.1) μ (PC Ty ac m as) pc ls st m1 := by
    intro n pc ls st m1 hp hx
    unfold psA at hp
    split at hp
    · rename_i q hq
      obtain ⟨hin, rfl⟩ := annF_ok hq
      exact At.lp hok n (hz q hin) hx
    · cases hp
  have loops : ∀ (N : Nat) (q : AN), q ∈ ann → q.2.1.isEmpty = false → ∀ (ls : List Value) (m1 : MM), FA (fun _ => 0) q.2.1 ls → Mok Ty m1 → m1.2.2 = c → Fr ac.2.2.2.1 m m1 → enc 9 (mv q.2.2 ls m1) = N → At (E0 ac.2.1) μ (PC Ty ac m as) q.1 ls [] m1 := by
    intro N
    induction N using Nat.strongRecOn with
    | ind N ih =>
      intro q hq hne ls m1 hFq hMq hcq hWq hN
      have hq2 := List.all_eq_true.mp hann q hq
      rw [hne, Bool.false_or] at hq2
      simp only [Bool.and_eq_true] at hq2
      obtain ⟨⟨b1, b2⟩, b3⟩ := hq2
      have hlq : q.2.1.length = μ.2.2.1 := Nat.eq_of_beq_eq_true b2
      have hst := start_ok (c := c) (W := ac.2.2.2.1) (mz := m) (sp := q.2.2) b1 hFq hMq hcq hWq
      refine At.lp hok fuel (hz q hq) ?_
      refine ax_ok hps (D := (ac.2.1, Ty, c, ac.2.2.2.1)) (Γ := (Ty, c, ac.2.2.2.1, m, q.2.1.length + (fldS Ty q.2.1.length q.2.2).2.length, iniS Ty q.2.1 q.2.2 ls m1)) ⟨rfl, rfl, rfl, rfl⟩ hS ?_ ?_ fuel _ _ (tail_snd (seek_snd q.1 hS)) _ ls [] m1 b3 ⟨_, hst⟩
      · intro pc A ls2 st2 m2 hs hR
        unfold stp at hs
        split at hs
        · rename_i q2 hq2
          obtain ⟨hin, rfl⟩ := annF_ok hq2
          simp only [Bool.and_eq_true] at hs
          obtain ⟨⟨⟨s0, s1⟩, s2⟩, s3⟩ := hs
          obtain ⟨σ, hRs⟩ := hR
          have est : st2 = [] := by
            split at s1
            · rename_i e
              have := hRs.2.2.1
              rw [e] at this
              exact FA_nil this
            · cases s1
          subst est
          have hσl : ∀ j, j < μ.2.2.1 → σ j = vI (gl j ls) := fun j hj => by
            have := hRs.2.2.2.2.2.2.2.2 j (by show j < q.2.1.length + _; omega)
            rw [this]
            show iniS Ty q.2.1 q.2.2 ls m1 j = _
            unfold iniS
            rw [if_pos (by omega)]
          have hfl : ∀ j, j < (fldS Ty μ.2.2.1 q.2.2).2.length → σ (μ.2.2.1 + j) = ((fldS Ty μ.2.2.1 q.2.2).2.map (fun z => (gI m1 z.1.1 z.1.2).toInt)).getD j 0 := fun j hj => by
            have := hRs.2.2.2.2.2.2.2.2 (μ.2.2.1 + j) (by show μ.2.2.1 + j < q.2.1.length + (fldS Ty q.2.1.length q.2.2).2.length; rw [hlq]; omega)
            rw [this]
            show iniS Ty q.2.1 q.2.2 ls m1 (μ.2.2.1 + j) = _
            unfold iniS
            rw [if_neg (by omega), hlq, Nat.add_sub_cancel_left]
          have hdec := mdec_ok (ls := ls) (m := m1) hRs hσl 9 μ.2.2.1 q.2.2 q2.2.2 hfl s3
          rw [hN] at hdec
          exact ih _ hdec q2 hin (by cases hb : q2.2.1.isEmpty with | false => rfl | true => rw [hb] at s0; cases s0) ls2 m2 (subL_ok hRs.1 s2 hRs.2.1) hRs.2.2.2.2.1 hRs.2.2.2.2.2.1 hRs.2.2.2.2.2.2.1 rfl
        · cases hs
      · intro A ls2 st2 m2 hs hR
        exact rtc_ok (m0 := m) ⟨rfl, hc.symm, rfl, rfl⟩ hR (fun z => by cases z) hs
  have hFe : FA (fun _ => 0) (apad μ.2.2.1 (aen ac.1)) (pad μ.2.2.1 (enl as)) := apad_ok _ _ _ (aen_ok _ _ hg hF)
  have hst := start_ok (c := c) (W := ac.2.2.2.1) (mz := m) (sp := []) (noSym_pad μ.2.2.1 ac.1 hg) hFe hM hc (Fr_rfl _ _)
  obtain ⟨B, hB, hent⟩ := rfM_ok (Γ := (Ty, c, ac.2.2.2.1, m, (apad μ.2.2.1 (aen ac.1)).length + 0, iniS Ty (apad μ.2.2.1 (aen ac.1)) [] (pad μ.2.2.1 (enl as)) m)) ac.2.2.2.2 _ _ hst hpre hent
  refine At.go hok fuel ?_
  refine ax_ok hps (D := (ac.2.1, Ty, c, ac.2.2.2.1)) (Γ := (Ty, c, ac.2.2.2.1, m, (apad μ.2.2.1 (aen ac.1)).length + 0, iniS Ty (apad μ.2.2.1 (aen ac.1)) [] (pad μ.2.2.1 (enl as)) m)) ⟨rfl, rfl, rfl, rfl⟩ hS ?_ ?_ fuel _ _ (seek_snd 0 hS) _ _ [] m hent hB
  · intro pc A ls2 st2 m2 hs hR
    unfold stp at hs
    split at hs
    · rename_i q2 hq2
      obtain ⟨hin, rfl⟩ := annF_ok hq2
      simp only [Bool.and_eq_true] at hs
      obtain ⟨⟨⟨s0, s1⟩, s2⟩, s3⟩ := hs
      obtain ⟨σ, hRs⟩ := hR
      have est : st2 = [] := by
        split at s1
        · rename_i e
          have := hRs.2.2.1
          rw [e] at this
          exact FA_nil this
        · cases s1
      subst est
      exact loops _ q2 hin (by cases hb : q2.2.1.isEmpty with | false => rfl | true => rw [hb] at s0; cases s0) ls2 m2 (subL_ok hRs.1 s2 hRs.2.1) hRs.2.2.2.2.1 hRs.2.2.2.2.2.1 hRs.2.2.2.2.2.2.1 rfl
    · cases hs
  · intro A ls2 st2 m2 hs hR
    refine rtc_ok (m0 := m) ⟨rfl, hc.symm, rfl, rfl⟩ hR (fun _ j hj hJ => ?_) hs
    have hpl : (apad μ.2.2.1 (aen ac.1)).length = μ.2.2.1 := by
      have : ∀ (n : Nat) (L : List AV), (apad n L).length = n := by
        intro n
        induction n with
        | zero => intro L; rfl
        | succ n ih => intro L; cases L <;> simp [apad, ih]
      exact this _ _
    have hjn : j < μ.2.2.1 := by
      have : ∀ L : List AV, L.length ≤ acats L := by
        intro L
        induction L with
        | nil => exact Nat.le_refl _
        | cons v r ih =>
          unfold acats
          simp only [List.length_cons]
          split <;> omega
      have := this ac.1
      omega
    refine ⟨by show j < (apad μ.2.2.1 (aen ac.1)).length + 0; rw [hpl]; omega, fun i hi => ?_⟩
    show iniS Ty (apad μ.2.2.1 (aen ac.1)) [] (pad μ.2.2.1 (enl as)) m j = i.toInt
    unfold iniS
    rw [if_pos (by rw [hpl]; exact hjn), gl_enl_nJ ac.1 as _ j hJ hF hj hjn, hi]
    rfl
