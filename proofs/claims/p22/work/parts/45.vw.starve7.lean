/-! starve of the model -/
theorem sumT_i {f : List Nat → Int32} {L : List (List Nat)} {M : Int} (hM0 : M ≤ 300000000) (hf : ∀ i, i < L.length → 0 ≤ (f (L.getD i [])).toInt ∧ (f (L.getD i [])).toInt ≤ M) (hl : L.length ≤ 200) : ∀ n, n ≤ L.length → (sumT f L n).toInt = sL (fun i => (f (L.getD i [])).toInt) n
  | 0, _ => rfl
  | n + 1, h => by
    have a := sL_rng (f := fun i => (f (L.getD i [])).toInt) (M := 300000000) n (fun i hi => by have := hf i (by omega); exact ⟨this.1, by omega⟩)
    have t := hf n (by omega)
    have ih := sumT_i hM0 hf hl n (by omega)
    show (sumT f L n + (f (L.getD n [])).toInt64).toInt = sL _ n + (f (L.getD n [])).toInt
    rw [lJ_add (by rw [ih, Int32.toInt_toInt64]; omega) (by rw [ih, Int32.toInt_toInt64]; omega), ih, Int32.toInt_toInt64]
set_option maxRecDepth 100000 in
set_option maxHeartbeats 8000000 in
theorem s_starve {m : MM} {wy k d pu wt : Int32} (hM : Mok TYg m) (hW : Wf (vw m)) : CJ 10 mX7_starve [.ref 1175, .int wy, .int k, .int d, .int pu, .int wt] m (fun r m' => St wRo m m' ∧ SvR m wy k d pu wt r) := by
  have S0 := St_z7 hM
  have h5 : (vw m).1 0 ≤ 5 := hW.1.1
  have hp2 : 2 ^ (vw m).1 0 ≤ 2 ^ 5 := Nat.pow_le_pow_right (by decide) h5
  have hpos : 0 < 2 ^ (vw m).1 0 := Nat.pow_pos (by decide)
  have n3 : gI m 1175 3 = nI ((vw m).1 0) := nI_back (vw_n (k := 0) hM)
  have e0 : (0 : Int32).toInt = 0 := rfl
  have e2 : (2 : Int32).toInt = 2 := rfl
  refine At.gs okX7_starve 80 ?_
  (conv => whnf)
  refine ⟨1, by decide, _, s_isAsked (m := sI m 1175 0 0), ?_⟩
  rintro r m1 ⟨hmm, hz⟩; have hmm := hmm.symm; subst hmm
  (conv => whnf)
  refine And.intro (fun q => ?_) (fun q => ?_)
  · have q : r = 0 := q
    rcases hz with ⟨y1, y2⟩ | ⟨y1, y2⟩
    · rw [y2] at q; exact absurd q (by decide)
    · exact ⟨S0, Or.inl ⟨fun z => y1 z.2, rfl⟩⟩
  have q : ¬ r = 0 := q
  rcases hz with ⟨hA, y2⟩ | ⟨y1, y2⟩
  case inr => exact absurd y2 q
  (conv => whnf)
  refine And.intro (fun p1 => ?_) (fun p1 => ?_)
  · have p1 : pu < 0 := p1
    rw [lt_i, e0] at p1
    exact ⟨S0, Or.inl ⟨fun z => absurd z.1.1 (by omega), rfl⟩⟩
  have p1 : ¬ pu < 0 := p1
  rw [lt_i, e0] at p1
  (conv => whnf)
  refine And.intro (fun p2 => ?_) (fun p2 => ?_)
  · have p2 : wt < 0 := p2
    rw [lt_i, e0] at p2
    exact ⟨S0, Or.inl ⟨fun z => absurd z.1.2.1 (by omega), rfl⟩⟩
  have p2 : ¬ wt < 0 := p2
  rw [lt_i, e0] at p2
  (conv => whnf)
  refine And.intro (fun p3 => ?_) (fun p3 => ?_)
  case refine_2 =>
    have p3 : ¬ wt ≤ 2 := p3
    rw [le_i, e2] at p3
    exact ⟨S0, Or.inl ⟨fun z => absurd z.1.2.2 (by omega), rfl⟩⟩
  have p3 : wt ≤ 2 := p3
  rw [le_i, e2] at p3
  have hLA : 0 ≤ pu.toInt ∧ 0 ≤ wt.toInt ∧ wt.toInt ≤ 2 := ⟨by omega, by omega, p3⟩
  (conv => whnf)
  refine ⟨9, by decide, _, sk_of (m := m) (m1 := sI m 1175 0 0) hA S0.1 vw_z rfl hW, ?_⟩
  rintro m2 ⟨S2, F2⟩
  have T2 : St wRo m m2 := S0.tr S2 (by decide)
  have hv2 : vw m2 = vw m := vw_fr T2.2.2 (by decide +kernel)
  have c3 : gI m2 1175 3 = nI ((vw m).1 0) := by rw [fr1 T2.2.2 (by decide)]; exact n3
  have sp := spM F2
  (conv => whnf)
  refine And.intro (fun p => ?_) (fun p => ?_)
  case refine_2 =>
    have p : ¬ gI m2 1175 47 = 0 := p
    rcases sp with ⟨a, b, c⟩ | ⟨a, b, c⟩
    · exact absurd a p
    · exact ⟨T2, Or.inr ⟨⟨hLA, hA⟩, Or.inl ⟨c, rfl⟩⟩⟩
  have p : gI m2 1175 47 = 0 := p
  rcases sp with ⟨a, b, hl⟩ | ⟨a, b, c⟩
  case inr => rw [a] at p; exact absurd p (by decide)
  have lim : (1 : Int32) <<< (gI m2 1175 3 &&& 31) = nI (2 ^ (vw m).1 0) := by rw [c3]; exact shl1 (by omega)
  have hbo : ∀ l : Nat, CI 5 mX7_burdenOf [.ref 1175, .int (nI l)] m2 (fun r m' => m' = m2 ∧ r = nI (burL (vw m) l)) := fun l => by
    have z := s_burdenOf (m := m2) (l := nI l) T2.1 (by rw [hv2]; exact hW)
    rw [hv2] at z
    exact z
  have hal : ∀ S : Int32, CJ 6 mX7_allTakes [.ref 1175, .int 0, .int 0, .int S] m2 (fun r m' => m' = m2 ∧ r.toInt = TOL (vw m) (rnL7 m wy k d) S) := fun S => by
    have z := s_allTakes (m := m2) (mb := 0) (tb := S) T2.1 (by rw [hv2]; exact hW) F2 hl (fun i hi => by rw [hv2]; exact L_row hA hi)
    rw [hv2] at z
    refine CJ_m0 z (fun r m' hq => ⟨hq.1, ?_⟩)
    rw [hq.2, sumT_i (M := 240000000) (by omega) (fun i hi => tak_rng hW (L_row hA hi).2.2 (L_row hA hi).2.1) hl _ (Nat.le_refl _), TOL_all hW (fun i hi => ⟨(L_row hA hi).2.1, (L_row hA hi).2.2, L_rg hi⟩) _ (Nat.le_refl _)]
    rfl
  have lp : ∀ (dd s : Nat) (best : Int32) (le : Int64) (lb : Int32) (v11 v12 v13 : Value), s + dd = 2 ^ (vw m).1 0 → ((s = 0 ∧ best = -1) ∨ ∃ b, SvB (vw m) (rnL7 m wy k d) pu.toInt s b ∧ best = nI b ∧ le.toInt = TOL (vw m) (rnL7 m wy k d) (nI b) ∧ lb.toInt = BI (vw m) (nI b)) → At (E0 10) mX7_starve (qj (fun r m' => St wRo m m' ∧ SvR m wy k d pu wt r)) 64 [.ref 1175, .int wy, .int k, .int d, .int pu, .int wt, .int best, .long le, .null, .int lb, .int (nI s), v11, v12, v13] [] m2 := by
    intro dd
    induction dd with
    | zero =>
      intro s best le lb v11 v12 v13 hs hI
      refine At.ls okX7_starve 60 ⟨_, _, rfl⟩ ?_
      (conv => whnf)
      refine And.intro (fun p => ?_) (fun p => ?_)
      case refine_2 =>
        have p : ¬ (1 : Int32) <<< (gI m2 1175 3 &&& 31) ≤ nI s := p
        rw [lim, le_i, nI_toInt (by omega), nI_toInt (by omega)] at p
        omega
      rcases hI with ⟨h0, -⟩ | ⟨b, hb, e1, e3, e4⟩
      · omega
      rw [show s = 2 ^ (vw m).1 0 by omega] at hb
      have hbl := hb.1
      have fin : ∀ r : Int64, SvV m wy k d wt b r → St wRo m m2 ∧ SvR m wy k d pu wt r := fun r hv => ⟨T2, Or.inr ⟨⟨hLA, hA⟩, Or.inr ⟨hl, b, hb, hv⟩⟩⟩
      subst e1
      (conv => whnf)
      refine And.intro (fun s0 => ?_) (fun s0 => ?_)
      case refine_2 =>
        have s0 : wt = 0 := s0
        refine fin _ ?_
        unfold SvV
        rw [if_pos s0, Int32.toInt_toInt64, nI_toInt (by omega)]
      have s0 : ¬ wt = 0 := s0
      (conv => whnf)
      refine And.intro (fun s1 => ?_) (fun s1 => ?_)
      · have s1 : ¬ wt = 1 := s1
        refine fin _ ?_
        unfold SvV
        rw [if_neg s0, if_neg s1, Int32.toInt_toInt64, e4]
      · have s1 : wt = 1 := s1
        refine fin _ ?_
        unfold SvV
        rw [if_neg s0, if_pos s1, e3]
    | succ dd ih =>
      intro s best le lb v11 v12 v13 hs hI
      have inner : ∀ (d2 l : Nat) (bu : Int32) (v13 : Value), l + d2 = (vw m).1 0 → bu.toInt = sL (fun l => if bt (nI s) (nI l) = 0 then 0 else (burL (vw m) l : Int)) l → At (E0 10) mX7_starve (qj (fun r m' => St wRo m m' ∧ SvR m wy k d pu wt r)) 81 [.ref 1175, .int wy, .int k, .int d, .int pu, .int wt, .int best, .long le, .null, .int lb, .int (nI s), .int bu, .int (nI l), v13] [] m2 := by
        intro d2
        induction d2 with
        | zero =>
          intro l bu v13 hll hb0
          have hb0 : bu.toInt = BI (vw m) (nI s) := by rw [hb0, show l = (vw m).1 0 by omega]; rfl
          refine At.ls okX7_starve 120 ⟨_, _, rfl⟩ ?_
          (conv => whnf)
          refine And.intro (fun p => ?_) (fun p => ?_)
          case refine_2 =>
            have p : ¬ gI m2 1175 3 ≤ nI l := p
            rw [c3, le_i, nI_toInt (by omega), nI_toInt (by omega)] at p
            omega
          (conv => whnf)
          refine And.intro (fun q => ?_) (fun q => ?_)
          case refine_2 =>
            have q : ¬ bu ≤ pu := q
            rw [le_i, hb0] at q
            have z := ih (s + 1) best le lb (.int bu) (.int (nI l)) v13 (by omega) (by
              rcases hI with ⟨h0, -⟩ | ⟨b, hb, e1, e3, e4⟩
              · have : BI (vw m) (nI s) = 0 := by rw [h0]; exact BI_0
                omega
              · exact Or.inr ⟨b, SvB_no hb (fun z => by omega), e1, e3, e4⟩)
            rw [show nI (s + 1) = nI s + 1 from (nI_1 s).symm] at z
            (conv => whnf)
            exact And.intro rfl z
          have q : bu ≤ pu := q
          rw [le_i, hb0] at q
          (conv => whnf)
          refine ⟨6, by decide, _, hal (nI s), ?_⟩
          rintro n m' ⟨hmm, hn⟩; have hmm := hmm.symm; subst hmm
          have put : (∀ b, SvB (vw m) (rnL7 m wy k d) pu.toInt s b → best = nI b → le.toInt = TOL (vw m) (rnL7 m wy k d) (nI b) → lb.toInt = BI (vw m) (nI b) → TOL (vw m) (rnL7 m wy k d) (nI s) < TOL (vw m) (rnL7 m wy k d) (nI b) ∨ (TOL (vw m) (rnL7 m wy k d) (nI s) = TOL (vw m) (rnL7 m wy k d) (nI b) ∧ BI (vw m) (nI s) < BI (vw m) (nI b))) → At (E0 10) mX7_starve (qj (fun r m' => St wRo m m' ∧ SvR m wy k d pu wt r)) 64 [.ref 1175, .int wy, .int k, .int d, .int pu, .int wt, .int (nI s), .long n, .null, .int bu, .int (nI s + 1), .int bu, .long n, .null] [] m2 := fun hx => by
            have z := ih (s + 1) (nI s) n bu (.int bu) (.long n) .null (by omega) (Or.inr ⟨s, (by
              rcases hI with ⟨h0, -⟩ | ⟨b, hb, e1, e3, e4⟩
              · refine ⟨by omega, q, fun c hc _ => Or.inr ⟨by rw [show c = s by omega], Or.inr ⟨by rw [show c = s by omega], by omega⟩⟩⟩
              · exact SvB_put hb q (hx b hb e1 e3 e4)), rfl, hn, hb0⟩)
            rw [show nI (s + 1) = nI s + 1 from (nI_1 s).symm] at z
            exact z
          have keep : (∀ b, SvB (vw m) (rnL7 m wy k d) pu.toInt s b → best = nI b → le.toInt = TOL (vw m) (rnL7 m wy k d) (nI b) → lb.toInt = BI (vw m) (nI b) → ¬ (TOL (vw m) (rnL7 m wy k d) (nI s) < TOL (vw m) (rnL7 m wy k d) (nI b) ∨ (TOL (vw m) (rnL7 m wy k d) (nI s) = TOL (vw m) (rnL7 m wy k d) (nI b) ∧ BI (vw m) (nI s) < BI (vw m) (nI b)))) → ¬ best = -1 → At (E0 10) mX7_starve (qj (fun r m' => St wRo m m' ∧ SvR m wy k d pu wt r)) 64 [.ref 1175, .int wy, .int k, .int d, .int pu, .int wt, .int best, .long le, .null, .int lb, .int (nI s + 1), .int bu, .long n, .null] [] m2 := fun hx hne => by
            have z := ih (s + 1) best le lb (.int bu) (.long n) .null (by omega) (by
              rcases hI with ⟨-, h0⟩ | ⟨b, hb, e1, e3, e4⟩
              · exact absurd h0 hne
              · exact Or.inr ⟨b, SvB_no hb (fun _ => hx b hb e1 e3 e4), e1, e3, e4⟩)
            rw [show nI (s + 1) = nI s + 1 from (nI_1 s).symm] at z
            exact z
          (conv => whnf)
          refine And.intro (fun q1 => ?_) (fun q1 => ?_)
          · have q1 : best = -1 := q1
            (conv => whnf)
            exact And.intro rfl (put (fun b hb e1 _ _ => by
              have := hb.1
              rw [e1] at q1
              have u := congrArg Int32.toInt q1
              rw [nI_toInt (by omega), show (-1 : Int32).toInt = -1 from rfl] at u
              omega))
          have q1 : ¬ best = -1 := q1
          (conv => whnf)
          refine And.intro (fun q2 => ?_) (fun q2 => ?_)
          · have q2 : 0 < lg_cmp n le := q2
            rw [lgc_gt] at q2
            (conv => whnf)
            exact And.intro rfl (keep (fun b hb e1 e3 e4 => by omega) q1)
          have q2 : ¬ 0 < lg_cmp n le := q2
          rw [lgc_gt] at q2
          (conv => whnf)
          refine And.intro (fun q3 => ?_) (fun q3 => ?_)
          · have q3 : ¬ lg_cmp n le = 0 := q3
            have q4 : ¬ n.toInt = le.toInt := fun z => q3 ((lgc_eq _ _).mpr (Int64.toInt_inj.mp z))
            (conv => whnf)
            exact And.intro rfl (put (fun b hb e1 e3 e4 => Or.inl (by omega)))
          have q3 : lg_cmp n le = 0 := q3
          have q4 : n.toInt = le.toInt := by rw [(lgc_eq _ _).mp q3]
          (conv => whnf)
          refine And.intro (fun q5 => ?_) (fun q5 => ?_)
          · have q5 : bu < lb := q5
            rw [lt_i, hb0] at q5
            (conv => whnf)
            exact And.intro rfl (put (fun b hb e1 e3 e4 => Or.inr ⟨by omega, by omega⟩))
          · have q5 : ¬ bu < lb := q5
            rw [lt_i, hb0] at q5
            (conv => whnf)
            exact And.intro rfl (keep (fun b hb e1 e3 e4 => by omega) q1)
        | succ d2 ih2 =>
          intro l bu v13 hll hb0
          have a := BI_rng hW (nI s) l (by omega)
          have t := burL_le hW l
          have next : ∀ x : Int32, x.toInt = (if bt (nI s) (nI l) = 0 then 0 else (burL (vw m) l : Int)) → At (E0 10) mX7_starve (qj (fun r m' => St wRo m m' ∧ SvR m wy k d pu wt r)) 81 [.ref 1175, .int wy, .int k, .int d, .int pu, .int wt, .int best, .long le, .null, .int lb, .int (nI s), .int (bu + x), .int (nI l + 1), v13] [] m2 := fun x hx => by
            have r1 : 0 ≤ x.toInt ∧ x.toInt ≤ 40 := by
              rw [hx]
              split <;> omega
            have z := ih2 (l + 1) (bu + x) v13 (by omega) (by
              show _ = sL _ l + (if bt (nI s) (nI l) = 0 then 0 else (burL (vw m) l : Int))
              rw [iI_add (by omega) (by omega), hb0, hx])
            rw [show nI (l + 1) = nI l + 1 from (nI_1 l).symm] at z
            exact z
          refine At.ls okX7_starve 80 ⟨_, _, rfl⟩ ?_
          (conv => whnf)
          refine And.intro (fun p => ?_) (fun p => ?_)
          · have p : gI m2 1175 3 ≤ nI l := p
            rw [c3, le_i, nI_toInt (by omega), nI_toInt (by omega)] at p
            omega
          (conv => whnf)
          refine And.intro (fun q => ?_) (fun q => ?_)
          · have q : ¬ bt (nI s) (nI l) = 1 := q
            have q2 : bt (nI s) (nI l) = 0 := Or.elim (bt01 (nI s) (nI l)) (fun z => z) (fun z => absurd z q)
            (conv => whnf)
            exact And.intro rfl (next 0 (by rw [if_pos q2]; rfl))
          · have q : bt (nI s) (nI l) = 1 := q
            have q2 : ¬ bt (nI s) (nI l) = 0 := by rw [q]; decide
            (conv => whnf)
            refine ⟨5, by decide, _, hbo l, ?_⟩
            rintro x m' ⟨hmm, hx⟩; have hmm := hmm.symm; subst hmm
            (conv => whnf)
            exact And.intro rfl (next x (by rw [if_neg q2, hx, nI_toInt (by omega)]))
      refine At.ls okX7_starve 60 ⟨_, _, rfl⟩ ?_
      (conv => whnf)
      refine And.intro (fun p => ?_) (fun p => ?_)
      · have p : (1 : Int32) <<< (gI m2 1175 3 &&& 31) ≤ nI s := p
        rw [lim, le_i, nI_toInt (by omega), nI_toInt (by omega)] at p
        omega
      (conv => whnf)
      exact And.intro rfl (inner ((vw m).1 0) 0 0 v13 (by omega) rfl)
  (conv => whnf)
  exact And.intro rfl (lp (2 ^ (vw m).1 0) 0 (-1) 0 0 .null .null .null (by omega) (Or.inl ⟨rfl, rfl⟩))
