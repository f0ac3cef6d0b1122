/-! starve of the class -/
theorem sJ_c (m : MM) (a i : Nat) (v : Int64) : (sJ m a i v).2.2 = m.2.2 := rfl
theorem iI_add {x y : Int32} (h1 : -2147483648 ≤ x.toInt + y.toInt) (h2 : x.toInt + y.toInt ≤ 2147483647) : (x + y).toInt = x.toInt + y.toInt := by
  rw [Int32.toInt_add]
  exact Int.bmod_eq_of_le (by omega) (by omega)
theorem CJ_m0 {d : Nat} {μ : MI} {as : List Value} {m : MM} {P P' : Int64 → MM → Prop} (h : CJ d μ as m P) (hp : ∀ x m', P x m' → P' x m') : CJ d μ as m P' := At.mono h (fun r m' q => by
  unfold qj at q ⊢
  split at q
  · exact hp _ _ q
  · exact q.elim)
theorem ck_two {V : VW} (hW : Wf V) {l s : Nat} (hs : s < V.1 3) : ckB V (nI (bsN (misB V 0) (V.1 2)) &&& nI (bsN (fun f => decide (V.2 4 f = nI l)) (V.1 2))) s = ckL V l s := by
  obtain ⟨f, f1, f2, f3⟩ := hW.frm hs
  have h12 := hW.1.2.2.1
  have hb : nI (bsN (misB V 0) (V.1 2)) &&& nI (bsN (fun f => decide (V.2 4 f = nI l)) (V.1 2)) = nI (bsN (fun f => misB V 0 f && decide (V.2 4 f = nI l)) (V.1 2)) := by
    rw [nI_andN]
    congr 1
    apply Nat.eq_of_testBit_eq
    intro i
    rw [Nat.testBit_and, bsN_tb, bsN_tb, bsN_tb]
    cases decide (i < V.1 2) with
    | true => rw [Bool.true_and, Bool.true_and, Bool.true_and]
    | false => rw [Bool.false_and, Bool.false_and, Bool.false_and]
  unfold ckB ckL lanS
  rw [hb, f3, f2, bt_bs (by omega) f1]
  generalize (misB V 0 f && decide (V.2 4 f = nI l)) = b
  cases b with
  | true => rfl
  | false => rfl
section Sw
variable {m : MM}
set_option maxRecDepth 100000 in
set_option maxHeartbeats 8000000 in
theorem r_tOut_336 {S : Int32} {F : Nat → Int} (hM : Mok TYg m) (h : SB 336 m) (hc : m.2.2 = (336, 720)) (hT : ∀ l, l < (vw m).1 0 → (gJ m 21625 l).toInt = F l ∧ 0 ≤ F l ∧ F l ≤ 48000000000) : CJ 1 mX6_takesOutside [.ref 6, .int S] m (fun r m' => m' = m ∧ r.toInt = sL (fun l => if bt S (nI l) = 0 then F l else 0) ((vw m).1 0)) := by
  obtain ⟨ff, g, c⟩ := m
  obtain rfl : c = (336, 720) := hc
  have h5 : (vw (ff, g, (336, 720))).1 0 ≤ 5 := h.2.2.2.2.2.1.1
  have c1 : gI (ff, g, (336, 720)) 354 1 = nI ((vw (ff, g, (336, 720))).1 0) := by
    have e : gI (ff, g, (336, 720)) 354 1 = gI (ff, g, (336, 720)) 1175 3 := h.1 0 (by decide)
    rw [e]; exact nI_back (vw_n (k := 0) hM)
  have rg : ∀ n, n ≤ (vw (ff, g, (336, 720))).1 0 → 0 ≤ sL (fun l => if bt S (nI l) = 0 then F l else 0) n ∧ sL (fun l => if bt S (nI l) = 0 then F l else 0) n ≤ 48000000000 * n := fun n hn => sL_rng n (fun l hl => by
    have := hT l (by omega)
    show 0 ≤ (if bt S (nI l) = 0 then F l else 0) ∧ (if bt S (nI l) = 0 then F l else 0) ≤ 48000000000
    split <;> omega)
  have lp : ∀ (d l : Nat) (x : Int64), l + d = (vw (ff, g, (336, 720))).1 0 → x.toInt = sL (fun l => if bt S (nI l) = 0 then F l else 0) l → At (E0 1) mX6_takesOutside (qj (fun r m' => m' = (ff, g, (336, 720)) ∧ r.toInt = sL (fun l => if bt S (nI l) = 0 then F l else 0) ((vw (ff, g, (336, 720))).1 0))) 5 [.ref 6, .int S, .long x, .null, .int (nI l)] [] (ff, g, (336, 720)) := by
    intro d
    induction d with
    | zero =>
      intro l x hl hx
      refine At.ls okX6_takesOutside 60 ⟨_, _, rfl⟩ ?_
      (conv => whnf)
      dsimp only
      (conv => whnf)
      refine And.intro (fun p => ?_) (fun p => ?_)
      · exact ⟨rfl, by rw [hx, show l = (vw (ff, g, (336, 720))).1 0 by omega]⟩
      · have p : ¬ gI (ff, g, (336, 720)) 354 1 ≤ nI l := p
        rw [c1, le_i, nI_toInt (by omega), nI_toInt (by omega)] at p
        omega
    | succ d ih =>
      intro l x hl hx
      have vl : vp_in (nI l) 5 := vp_in_nI (by omega) (by decide)
      have lc : (nI l).toNatClampNeg = l := nI_clamp (by omega)
      have a := rg l (by omega)
      have t := hT l (by omega)
      refine At.ls okX6_takesOutside 80 ⟨_, _, rfl⟩ ?_
      (conv => whnf)
      dsimp only
      (conv => whnf)
      refine And.intro (fun p => ?_) (fun p => ?_)
      · have p : gI (ff, g, (336, 720)) 354 1 ≤ nI l := p
        rw [c1, le_i, nI_toInt (by omega), nI_toInt (by omega)] at p
        omega
      (conv => whnf)
      refine And.intro (fun q => ?_) (fun q => ?_)
      · have q : ¬ bt S (nI l) = 0 := q
        have z := ih (l + 1) (x + 0) (by omega) (by
          show _ = sL _ l + (if bt S (nI l) = 0 then F l else 0)
          rw [if_neg q, Int64.add_zero, hx, Int.add_zero])
        rw [← nI_1] at z
        (conv => whnf)
        exact And.intro rfl z
      · have q : bt S (nI l) = 0 := q
        (conv => whnf)
        refine And.intro vl ?_
        have z := ih (l + 1) (x + gJ (ff, g, (336, 720)) 21625 (nI l).toNatClampNeg) (by omega) (by
          show _ = sL _ l + (if bt S (nI l) = 0 then F l else 0)
          rw [if_pos q, lc, lJ_add (by omega) (by omega), hx, t.1])
        rw [← nI_1] at z
        (conv => whnf)
        exact And.intro rfl z
  refine At.gs okX6_takesOutside 60 ?_
  (conv => whnf)
  exact And.intro rfl (lp ((vw (ff, g, (336, 720))).1 0) 0 0 (by omega) rfl)
set_option maxRecDepth 100000 in
set_option maxHeartbeats 8000000 in
theorem r_bIn_336 {S : Int32} (hM : Mok TYg m) (h : SB 336 m) (hc : m.2.2 = (336, 720)) (hB : ∀ l, l < (vw m).1 0 → gI m 21640 l = nI (burL (vw m) l)) : CI 1 mX6_burdenInside [.ref 6, .int S] m (fun r m' => m' = m ∧ r.toInt = BI (vw m) S) := by
  obtain ⟨ff, g, c⟩ := m
  obtain rfl : c = (336, 720) := hc
  have hW := h.2.2.2.2.2
  have h5 : (vw (ff, g, (336, 720))).1 0 ≤ 5 := hW.1.1
  have c1 : gI (ff, g, (336, 720)) 354 1 = nI ((vw (ff, g, (336, 720))).1 0) := by
    have e : gI (ff, g, (336, 720)) 354 1 = gI (ff, g, (336, 720)) 1175 3 := h.1 0 (by decide)
    rw [e]; exact nI_back (vw_n (k := 0) hM)
  have lp : ∀ (d l : Nat) (x : Int32), l + d = (vw (ff, g, (336, 720))).1 0 → x.toInt = sL (fun l => if bt S (nI l) = 0 then 0 else (burL (vw (ff, g, (336, 720))) l : Int)) l → At (E0 1) mX6_burdenInside (qi (fun r m' => m' = (ff, g, (336, 720)) ∧ r.toInt = BI (vw (ff, g, (336, 720))) S)) 4 [.ref 6, .int S, .int x, .int (nI l)] [] (ff, g, (336, 720)) := by
    intro d
    induction d with
    | zero =>
      intro l x hl hx
      refine At.ls okX6_burdenInside 60 ⟨_, _, rfl⟩ ?_
      (conv => whnf)
      dsimp only
      (conv => whnf)
      refine And.intro (fun p => ?_) (fun p => ?_)
      · exact ⟨rfl, by rw [hx, show l = (vw (ff, g, (336, 720))).1 0 by omega]; rfl⟩
      · have p : ¬ gI (ff, g, (336, 720)) 354 1 ≤ nI l := p
        rw [c1, le_i, nI_toInt (by omega), nI_toInt (by omega)] at p
        omega
    | succ d ih =>
      intro l x hl hx
      have vl : vp_in (nI l) 5 := vp_in_nI (by omega) (by decide)
      have lc : (nI l).toNatClampNeg = l := nI_clamp (by omega)
      have a := BI_rng hW S l (by omega)
      have t := burL_le hW l
      refine At.ls okX6_burdenInside 80 ⟨_, _, rfl⟩ ?_
      (conv => whnf)
      dsimp only
      (conv => whnf)
      refine And.intro (fun p => ?_) (fun p => ?_)
      · have p : gI (ff, g, (336, 720)) 354 1 ≤ nI l := p
        rw [c1, le_i, nI_toInt (by omega), nI_toInt (by omega)] at p
        omega
      (conv => whnf)
      refine And.intro (fun q => ?_) (fun q => ?_)
      · have q : bt S (nI l) = 0 := q
        have z := ih (l + 1) (x + 0) (by omega) (by
          show _ = sL _ l + (if bt S (nI l) = 0 then 0 else (burL (vw (ff, g, (336, 720))) l : Int))
          rw [if_pos q, Int32.add_zero, hx, Int.add_zero])
        rw [← nI_1] at z
        (conv => whnf)
        exact And.intro rfl z
      · have q : ¬ bt S (nI l) = 0 := q
        (conv => whnf)
        refine And.intro vl ?_
        have z := ih (l + 1) (x + gI (ff, g, (336, 720)) 21640 (nI l).toNatClampNeg) (by omega) (by
          show _ = sL _ l + (if bt S (nI l) = 0 then 0 else (burL (vw (ff, g, (336, 720))) l : Int))
          have e : (gI (ff, g, (336, 720)) 21640 l).toInt = burL (vw (ff, g, (336, 720))) l := by rw [hB l (by omega), nI_toInt (by omega)]
          rw [if_neg q, lc, iI_add (by omega) (by omega), hx, e])
        rw [← nI_1] at z
        (conv => whnf)
        exact And.intro rfl z
  refine At.gs okX6_burdenInside 60 ?_
  (conv => whnf)
  exact And.intro rfl (lp ((vw (ff, g, (336, 720))).1 0) 0 0 (by omega) rfl)
set_option maxRecDepth 100000 in
set_option maxHeartbeats 8000000 in
theorem r_best_336 {L : List (List Nat)} {pu : Int32} (hM : Mok TYg m) (h : SB 336 m) (hc : m.2.2 = (336, 720)) (h0 : 0 ≤ pu.toInt) (hT : ∀ l, l < (vw m).1 0 → (gJ m 21625 l).toInt = TL (vw m) L l ∧ 0 ≤ TL (vw m) L l ∧ TL (vw m) L l ≤ 48000000000) (hB : ∀ l, l < (vw m).1 0 → gI m 21640 l = nI (burL (vw m) l)) : CI 2 mX6_bestLands [.ref 6, .int pu] m (fun r m' => m' = m ∧ ∃ b, SvB (vw m) L pu.toInt (2 ^ (vw m).1 0) b ∧ r = nI b) := by
  have tO : ∀ S : Int32, CJ 1 mX6_takesOutside [.ref 6, .int S] m (fun r m' => m' = m ∧ r.toInt = TOL (vw m) L S) := fun S => r_tOut_336 (F := TL (vw m) L) hM h hc hT
  have bI : ∀ S : Int32, CI 1 mX6_burdenInside [.ref 6, .int S] m (fun r m' => m' = m ∧ r.toInt = BI (vw m) S) := fun S => r_bIn_336 hM h hc hB
  obtain ⟨ff, g, c⟩ := m
  obtain rfl : c = (336, 720) := hc
  have hW := h.2.2.2.2.2
  have h5 : (vw (ff, g, (336, 720))).1 0 ≤ 5 := hW.1.1
  have c1 : gI (ff, g, (336, 720)) 354 1 = nI ((vw (ff, g, (336, 720))).1 0) := by
    have e : gI (ff, g, (336, 720)) 354 1 = gI (ff, g, (336, 720)) 1175 3 := h.1 0 (by decide)
    rw [e]; exact nI_back (vw_n (k := 0) hM)
  have hp2 : 2 ^ (vw (ff, g, (336, 720))).1 0 ≤ 2 ^ 5 := Nat.pow_le_pow_right (by decide) h5
  have hpos : 0 < 2 ^ (vw (ff, g, (336, 720))).1 0 := Nat.pow_pos (by decide)
  have lim : (1 : Int32) <<< (gI (ff, g, (336, 720)) 354 1 &&& 31) = nI (2 ^ (vw (ff, g, (336, 720))).1 0) := by rw [c1]; exact shl1 (by omega)
  have lp : ∀ (dd s b : Nat) (le : Int64) (li : Int32) (v7 v8 v9 : Value), s + dd = 2 ^ (vw (ff, g, (336, 720))).1 0 → SvB (vw (ff, g, (336, 720))) L pu.toInt s b → le.toInt = TOL (vw (ff, g, (336, 720))) L (nI b) → li.toInt = BI (vw (ff, g, (336, 720))) (nI b) → At (E0 2) mX6_bestLands (qi (fun r m' => m' = (ff, g, (336, 720)) ∧ ∃ b, SvB (vw (ff, g, (336, 720))) L pu.toInt (2 ^ (vw (ff, g, (336, 720))).1 0) b ∧ r = nI b)) 14 [.ref 6, .int pu, .int (nI b), .long le, .null, .int li, .int (nI s), v7, v8, v9] [] (ff, g, (336, 720)) := by
    intro dd
    induction dd with
    | zero =>
      intro s b le li v7 v8 v9 hs hb e1 e2
      refine At.ls okX6_bestLands 60 ⟨_, _, rfl⟩ ?_
      (conv => whnf)
      dsimp only
      (conv => whnf)
      refine And.intro (fun p => ?_) (fun p => ?_)
      · rw [show s = 2 ^ (vw (ff, g, (336, 720))).1 0 by omega] at hb
        exact ⟨rfl, b, hb, rfl⟩
      · have p : ¬ (1 : Int32) <<< (gI (ff, g, (336, 720)) 354 1 &&& 31) ≤ nI s := p
        rw [lim, le_i, nI_toInt (by omega), nI_toInt (by omega)] at p
        omega
    | succ dd ih =>
      intro s b le li v7 v8 v9 hs hb e1 e2
      refine At.ls okX6_bestLands 100 ⟨_, _, rfl⟩ ?_
      (conv => whnf)
      dsimp only
      (conv => whnf)
      refine And.intro (fun p => ?_) (fun p => ?_)
      · have p : (1 : Int32) <<< (gI (ff, g, (336, 720)) 354 1 &&& 31) ≤ nI s := p
        rw [lim, le_i, nI_toInt (by omega), nI_toInt (by omega)] at p
        omega
      (conv => whnf)
      refine ⟨1, by decide, _, bI (nI s), ?_⟩
      rintro wt m' ⟨hmm, hw⟩; have hmm := hmm.symm; subst hmm
      (conv => whnf)
      refine ⟨1, by decide, _, tO (nI s), ?_⟩
      rintro lf m' ⟨hmm, hf⟩; have hmm := hmm.symm; subst hmm
      have no : (BI (vw (ff, g, (336, 720))) (nI s) ≤ pu.toInt → ¬ (TOL (vw (ff, g, (336, 720))) L (nI s) < TOL (vw (ff, g, (336, 720))) L (nI b) ∨ (TOL (vw (ff, g, (336, 720))) L (nI s) = TOL (vw (ff, g, (336, 720))) L (nI b) ∧ BI (vw (ff, g, (336, 720))) (nI s) < BI (vw (ff, g, (336, 720))) (nI b)))) → At (E0 2) mX6_bestLands (qi (fun r m' => m' = (ff, g, (336, 720)) ∧ ∃ b, SvB (vw (ff, g, (336, 720))) L pu.toInt (2 ^ (vw (ff, g, (336, 720))).1 0) b ∧ r = nI b)) 14 [.ref 6, .int pu, .int (nI b), .long le, .null, .int li, .int (nI s + 1), .int wt, .long lf, .null] [] (ff, g, (336, 720)) := fun hx => by
        have z := ih (s + 1) b le li (.int wt) (.long lf) .null (by omega) (SvB_no hb hx) e1 e2
        rw [show nI (s + 1) = nI s + 1 from (nI_1 s).symm] at z
        exact z
      have yes : BI (vw (ff, g, (336, 720))) (nI s) ≤ pu.toInt → (TOL (vw (ff, g, (336, 720))) L (nI s) < TOL (vw (ff, g, (336, 720))) L (nI b) ∨ (TOL (vw (ff, g, (336, 720))) L (nI s) = TOL (vw (ff, g, (336, 720))) L (nI b) ∧ BI (vw (ff, g, (336, 720))) (nI s) < BI (vw (ff, g, (336, 720))) (nI b))) → At (E0 2) mX6_bestLands (qi (fun r m' => m' = (ff, g, (336, 720)) ∧ ∃ b, SvB (vw (ff, g, (336, 720))) L pu.toInt (2 ^ (vw (ff, g, (336, 720))).1 0) b ∧ r = nI b)) 14 [.ref 6, .int pu, .int (nI s), .long lf, .null, .int wt, .int (nI s + 1), .int wt, .long lf, .null] [] (ff, g, (336, 720)) := fun hp hx => by
        have z := ih (s + 1) s lf wt (.int wt) (.long lf) .null (by omega) (SvB_put hb hp hx) hf hw
        rw [show nI (s + 1) = nI s + 1 from (nI_1 s).symm] at z
        exact z
      (conv => whnf)
      refine And.intro (fun q1 => ?_) (fun q1 => ?_)
      · have q1 : pu < wt := q1
        rw [lt_i, hw] at q1
        (conv => whnf)
        exact And.intro rfl (no (fun z => by omega))
      have q1 : ¬ pu < wt := q1
      rw [lt_i, hw] at q1
      (conv => whnf)
      refine And.intro (fun q2 => ?_) (fun q2 => ?_)
      · have q2 : lg_cmp lf le < 0 := q2
        rw [lgc_lt, hf, e1] at q2
        (conv => whnf)
        exact And.intro rfl (yes (by omega) (Or.inl q2))
      have q2 : ¬ lg_cmp lf le < 0 := q2
      rw [lgc_lt, hf, e1] at q2
      (conv => whnf)
      refine And.intro (fun q3 => ?_) (fun q3 => ?_)
      · have q3 : ¬ lg_cmp lf le = 0 := q3
        have q4 : ¬ TOL (vw (ff, g, (336, 720))) L (nI s) = TOL (vw (ff, g, (336, 720))) L (nI b) := fun z => q3 ((lgc_eq _ _).mpr (Int64.toInt_inj.mp (by rw [hf, e1]; exact z)))
        (conv => whnf)
        exact And.intro rfl (no (fun _ => by omega))
      have q3 : lg_cmp lf le = 0 := q3
      have q4 : TOL (vw (ff, g, (336, 720))) L (nI s) = TOL (vw (ff, g, (336, 720))) L (nI b) := by rw [← hf, ← e1, (lgc_eq _ _).mp q3]
      (conv => whnf)
      refine And.intro (fun q5 => ?_) (fun q5 => ?_)
      · have q5 : li ≤ wt := q5
        rw [le_i, hw, e2] at q5
        (conv => whnf)
        exact And.intro rfl (no (fun _ => by omega))
      · have q5 : ¬ li ≤ wt := q5
        rw [le_i, hw, e2] at q5
        (conv => whnf)
        exact And.intro rfl (yes (by omega) (Or.inr ⟨q4, by omega⟩))
  refine At.gs okX6_bestLands 60 ?_
  (conv => whnf)
  refine ⟨1, by decide, _, tO 0, ?_⟩
  rintro l0 m' ⟨hmm, hf⟩; have hmm := hmm.symm; subst hmm
  (conv => whnf)
  have B0 : BI (vw (ff, g, (336, 720))) (nI 0) = 0 := BI_0
  exact And.intro rfl (lp (2 ^ (vw (ff, g, (336, 720))).1 0 - 1) 1 0 l0 0 .null .null .null (by omega) ⟨by omega, by rw [B0]; exact h0, fun c hc _ => Or.inr ⟨by rw [show c = 0 by omega], Or.inr ⟨by rw [show c = 0 by omega], by omega⟩⟩⟩ hf (by rw [B0]; rfl))
set_option maxRecDepth 100000 in
set_option maxHeartbeats 16000000 in
theorem r_weigh_336 {L : List (List Nat)} (hM : Mok TYg m) (h : SB 336 m) (hc : m.2.2 = (336, 720)) (hF : FS L m) (hl : L.length ≤ 200) (hr : ∀ i, i < L.length → 2 ≤ (L.getD i []).length ∧ (L.getD i []).length ≤ 6 ∧ ∀ j, j < (L.getD i []).length → (L.getD i []).getD j 0 < (vw m).1 3) : CV 5 mX6_weighLands [.ref 6, .int (nI L.length)] m (fun m' => St [49864, 21625, 21640] m m' ∧ ∀ l, l < (vw m).1 0 → gI m' 21640 l = nI (burL (vw m) l) ∧ (gJ m' 21625 l).toInt = TL (vw m) L l) := by
  obtain ⟨ff, g, c⟩ := m
  obtain rfl : c = (336, 720) := hc
  have hW := h.2.2.2.2.2
  have h5 : (vw (ff, g, (336, 720))).1 0 ≤ 5 := hW.1.1
  refine At.gs okX6_weighLands 80 ?_
  (conv => whnf)
  dsimp only
  (conv => whnf)
  refine ⟨4, by decide, _, r_missing_336 (ru := 0) hM h, ?_⟩
  rintro mi m1 ⟨S1, hmi⟩
  have hr6 : ∀ i, i < L.length → (L.getD i []).length ≤ 6 ∧ ∀ j, j < (L.getD i []).length → (L.getD i []).getD j 0 < (vw (ff, g, (336, 720))).1 3 := fun i hi => (hr i hi).2
  have c1 : ∀ {m2 : MM}, St [49864, 21625, 21640] (ff, g, (336, 720)) m2 → gI m2 354 1 = nI ((vw (ff, g, (336, 720))).1 0) := fun {m2} S2 => by
    rw [fr1 S2.2.2 (by decide)]
    have e : gI (ff, g, (336, 720)) 354 1 = gI (ff, g, (336, 720)) 1175 3 := h.1 0 (by decide)
    rw [e]; exact nI_back (vw_n (k := 0) hM)
  have lp : ∀ (dd l : Nat) (v4 v5 : Value) (m2 : MM), l + dd = (vw (ff, g, (336, 720))).1 0 → St [49864, 21625, 21640] (ff, g, (336, 720)) m2 → (∀ j, j < l → gI m2 21640 j = nI (burL (vw (ff, g, (336, 720))) j) ∧ (gJ m2 21625 j).toInt = TL (vw (ff, g, (336, 720))) L j) → At (E0 5) mX6_weighLands (qv (fun m' => St [49864, 21625, 21640] (ff, g, (336, 720)) m' ∧ ∀ l, l < (vw (ff, g, (336, 720))).1 0 → gI m' 21640 l = nI (burL (vw (ff, g, (336, 720))) l) ∧ (gJ m' 21625 l).toInt = TL (vw (ff, g, (336, 720))) L l)) 11 [.ref 6, .int (nI L.length), .int mi, .int (nI l), v4, v5] [] m2 := by
    intro dd
    induction dd with
    | zero =>
      intro l v4 v5 m2 hll S2 hI
      have c12 := c1 S2
      have hc2 : m2.2.2 = (336, 720) := S2.2.1
      obtain ⟨f2, g2, c2⟩ := m2
      obtain rfl : c2 = (336, 720) := hc2
      refine At.ls okX6_weighLands 60 ⟨_, _, rfl⟩ ?_
      (conv => whnf)
      dsimp only
      (conv => whnf)
      refine And.intro (fun p => ?_) (fun p => ?_)
      · exact ⟨S2, fun j hj => hI j (by omega)⟩
      · have p : ¬ gI (f2, g2, (336, 720)) 354 1 ≤ nI l := p
        rw [c12, le_i, nI_toInt (by omega), nI_toInt (by omega)] at p
        omega
    | succ dd ih =>
      intro l v4 v5 m2 hll S2 hI
      have vl : vp_in (nI l) 5 := vp_in_nI (by omega) (by decide)
      have lc : (nI l).toNatClampNeg = l := nI_clamp (by omega)
      have inner : ∀ (gu : Int32) (d2 i : Nat) (m4 : MM), (∀ s, s < (vw (ff, g, (336, 720))).1 3 → ckB (vw (ff, g, (336, 720))) gu s = ckL (vw (ff, g, (336, 720))) l s) → i + d2 = L.length → St [49864, 21625, 21640] (ff, g, (336, 720)) m4 → (∀ j, j ≤ l → gI m4 21640 j = nI (burL (vw (ff, g, (336, 720))) j)) → (∀ j, j < l → (gJ m4 21625 j).toInt = TL (vw (ff, g, (336, 720))) L j) → (gJ m4 21625 l).toInt = sL (fun i => (takP (vw (ff, g, (336, 720))) (ckL (vw (ff, g, (336, 720))) l) 0 (L.getD i [])).toInt) i → At (E0 5) mX6_weighLands (qv (fun m' => St [49864, 21625, 21640] (ff, g, (336, 720)) m' ∧ ∀ l, l < (vw (ff, g, (336, 720))).1 0 → gI m' 21640 l = nI (burL (vw (ff, g, (336, 720))) l) ∧ (gJ m' 21625 l).toInt = TL (vw (ff, g, (336, 720))) L l)) 62 [.ref 6, .int (nI L.length), .int mi, .int (nI l), .int gu, .int (nI i)] [] m4 := by
        intro gu d2
        induction d2 with
        | zero =>
          intro i m4 hgu hi S4 hb ht hx
          refine At.ls okX6_weighLands 60 ⟨_, _, rfl⟩ ?_
          (conv => whnf)
          refine And.intro (fun p => ?_) (fun p => ?_)
          · have z := ih (l + 1) (.int gu) (.int (nI i)) m4 (by omega) S4 (fun j hj => ⟨hb j (by omega), by
              by_cases q : j = l
              · rw [q, hx, show i = L.length by omega]; rfl
              · exact ht j (by omega)⟩)
            rw [show nI (l + 1) = nI l + 1 from (nI_1 l).symm] at z
            (conv => whnf)
            exact And.intro rfl z
          · have p : ¬ nI L.length ≤ nI i := p
            rw [le_i, nI_toInt (by omega), nI_toInt (by omega)] at p
            omega
        | succ d2 ih2 =>
          intro i m4 hgu hi S4 hb ht hx
          have ic : (nI i).toNatClampNeg = i := nI_clamp (by omega)
          have vi : vp_in (nI i) 200 := vp_in_nI (by omega) (by decide)
          obtain ⟨w1, w2, w3⟩ := hr i (by omega)
          have hF4 : FS L m4 := hF.fr S4.2.2 (by decide)
          obtain ⟨y1, y2⟩ := hF4.2 i (by omega) (by omega)
          have h4 : SB 336 m4 := h.fr (by unfold isBk; omega) S4.2.2 (by decide +kernel)
          have hv4 : vw m4 = vw (ff, g, (336, 720)) := vw_fr S4.2.2 (by decide +kernel)
          have hc4 : m4.2.2 = (336, 720) := S4.2.1
          obtain ⟨f4, g4, c4⟩ := m4
          obtain rfl : c4 = (336, 720) := hc4
          have tr := tak_rng (ru := 0) (ck := ckL (vw (ff, g, (336, 720))) l) hW w3 w2
          have sr := TL_rng hW hl hr6 l i (by omega)
          have hcT : CI 3 mX0_takenBy [.ref 336, .long (gJ (f4, g4, (336, 720)) 819273 (nI i).toNatClampNeg), .int (gI (f4, g4, (336, 720)) 819288 (nI i).toNatClampNeg), .int gu, .int 0] (f4, g4, (336, 720)) (fun r m' => m' = (f4, g4, (336, 720)) ∧ r = takP (vw (ff, g, (336, 720))) (ckL (vw (ff, g, (336, 720))) l) 0 (L.getD i [])) := by
            rw [ic, y2]
            have z := r_taken_336 (m := (f4, g4, (336, 720))) (ms := gu) (ru := 0) S4.1 h4 y1 (by rw [hv4]; exact w3) (by omega) w2
            rw [hv4] at z
            refine CI.mono z (fun r m' hq => ⟨hq.1, ?_⟩)
            rw [hq.2]
            exact takP_cg (fun j hj => hgu _ (w3 j hj))
          refine At.ls okX6_weighLands 120 ⟨_, _, rfl⟩ ?_
          (conv => whnf)
          refine And.intro (fun p => ?_) (fun p => ?_)
          · have p : nI L.length ≤ nI i := p
            rw [le_i, nI_toInt (by omega), nI_toInt (by omega)] at p
            omega
          (conv => whnf)
          refine And.intro vl ?_
          (conv => whnf)
          dsimp only
          (conv => whnf)
          refine And.intro vi ?_
          (conv => whnf)
          refine And.intro vi ?_
          (conv => whnf)
          refine ⟨3, by decide, _, hcT, ?_⟩
          rintro r m' ⟨hmm, hq⟩; have hmm := hmm.symm; subst hmm
          rw [← hq] at tr
          (conv => whnf)
          refine And.intro vl ?_
          have S5 : St [49864, 21625, 21640] (ff, g, (336, 720)) (sJ (f4, g4, (336, 720)) 21625 (nI l).toNatClampNeg (gJ (f4, g4, (336, 720)) 21625 (nI l).toNatClampNeg + r.toInt64)) := S4.rowJ rfl (by decide) (fun q => absurd q (by decide))
          have z := ih2 (i + 1) _ hgu (by omega) S5 (fun j hj => hb j hj) (fun j hj => by
            rw [gJ_sJ, lc, if_neg (fun q => by omega)]
            exact ht j hj) (by
            rw [gJ_sJ, lc, if_pos ⟨rfl, rfl⟩]
            show _ = sL _ i + (takP (vw (ff, g, (336, 720))) (ckL (vw (ff, g, (336, 720))) l) 0 (L.getD i [])).toInt
            rw [lJ_add (by rw [hx, Int32.toInt_toInt64]; omega) (by rw [hx, Int32.toInt_toInt64]; omega), hx, Int32.toInt_toInt64, hq])
          rw [show nI (i + 1) = nI i + 1 from (nI_1 i).symm] at z
          (conv => whnf)
          exact And.intro rfl z
      have c12 := c1 S2
      have h2 : SB 336 m2 := h.fr (by unfold isBk; omega) S2.2.2 (by decide +kernel)
      have hv2 : vw m2 = vw (ff, g, (336, 720)) := vw_fr S2.2.2 (by decide +kernel)
      have hc2 : m2.2.2 = (336, 720) := S2.2.1
      obtain ⟨f2, g2, c2⟩ := m2
      obtain rfl : c2 = (336, 720) := hc2
      refine At.ls okX6_weighLands 120 ⟨_, _, rfl⟩ ?_
      (conv => whnf)
      dsimp only
      (conv => whnf)
      refine And.intro (fun p => ?_) (fun p => ?_)
      · have p : gI (f2, g2, (336, 720)) 354 1 ≤ nI l := p
        rw [c12, le_i, nI_toInt (by omega), nI_toInt (by omega)] at p
        omega
      (conv => whnf)
      dsimp only
      (conv => whnf)
      refine ⟨2, by decide, _, r_honest_336 (m := (f2, g2, (336, 720))) (l := nI l) (mi := mi) S2.1 h2 (by rw [hv2]; exact hmi), ?_⟩
      rintro r1 m' ⟨hmm, hq1⟩; have hmm := hmm.symm; subst hmm
      rw [hv2] at hq1
      (conv => whnf)
      refine And.intro vl ?_
      (conv => whnf)
      refine And.intro vl ?_
      have S3 : St [49864, 21625, 21640] (ff, g, (336, 720)) (sJ (sI (f2, g2, (336, 720)) 21640 (nI l).toNatClampNeg r1) 21625 (nI l).toNatClampNeg 0) := (S2.row (a := 21640) rfl (by decide) (tI_lo _) (tI_hi _)).rowJ rfl (by decide) (fun q => absurd q (by decide))
      have h3 : SB 336 (sJ (sI (f2, g2, (336, 720)) 21640 (nI l).toNatClampNeg r1) 21625 (nI l).toNatClampNeg 0) := h.fr (by unfold isBk; omega) S3.2.2 (by decide +kernel)
      have hv3 : vw (sJ (sI (f2, g2, (336, 720)) 21640 (nI l).toNatClampNeg r1) 21625 (nI l).toNatClampNeg 0) = vw (ff, g, (336, 720)) := vw_fr S3.2.2 (by decide +kernel)
      (conv => whnf)
      dsimp only [sI_c, sJ_c]
      (conv => whnf)
      refine ⟨1, by decide, _, r_firmsIn_336 (m := sJ (sI (f2, g2, (336, 720)) 21640 (nI l).toNatClampNeg r1) 21625 (nI l).toNatClampNeg 0) (l := nI l) S3.1 h3, ?_⟩
      rintro r2 m' ⟨hmm, hq2⟩; have hmm := hmm.symm; subst hmm
      rw [hv3] at hq2
      (conv => whnf)
      refine And.intro rfl (inner (mi &&& r2) L.length 0 _ (fun s hs => by rw [hmi, hq2]; exact ck_two hW hs) (by omega) S3 (fun j hj => ?_) (fun j hj => ?_) ?_)
      · have e : gI (sJ (sI (f2, g2, (336, 720)) 21640 (nI l).toNatClampNeg r1) 21625 (nI l).toNatClampNeg 0) 21640 j = gI (sI (f2, g2, (336, 720)) 21640 (nI l).toNatClampNeg r1) 21640 j := rfl
        rw [e, gI_if, lc]
        by_cases q : j = l
        · rw [if_pos ⟨rfl, q⟩, q, hq1]; rfl
        · rw [if_neg (fun z => q z.2)]; exact (hI j (by omega)).1
      · rw [gJ_sJ, lc, if_neg (fun q => by omega)]
        exact (hI j hj).2
      · rw [gJ_sJ, lc, if_pos ⟨rfl, rfl⟩]
        rfl
  (conv => whnf)
  exact And.intro rfl (lp ((vw (ff, g, (336, 720))).1 0) 0 .null .null m1 (by omega) (S1.wd (by decide)) (fun j hj => absurd hj (Nat.not_lt_zero _)))
set_option maxRecDepth 100000 in
set_option maxHeartbeats 8000000 in
theorem r_starve_336 {wy k d pu wt : Int32} (hM : Mok TYg m) (h : SB 336 m) (hc : m.2.2 = (336, 720)) (hF : FM (vw m) m) : CJ 11 mX6_starve [.ref 6, .int wy, .int k, .int d, .int pu, .int wt] m (fun r m' => FmP m m' ∧ SvR m wy k d pu wt r) := by
  obtain ⟨ff, g, c⟩ := m
  obtain rfl : c = (336, 720) := hc
  have hW := h.2.2.2.2.2
  have h5 : (vw (ff, g, (336, 720))).1 0 ≤ 5 := hW.1.1
  have hp2 : 2 ^ (vw (ff, g, (336, 720))).1 0 ≤ 2 ^ 5 := Nat.pow_le_pow_right (by decide) h5
  have e0 : (0 : Int32).toInt = 0 := rfl
  have e2 : (2 : Int32).toInt = 2 := rfl
  have f0 : FmP (ff, g, (336, 720)) (ff, g, (336, 720)) := FmP.rf hM hF
  refine At.gs okX6_starve 120 ?_
  (conv => whnf)
  refine And.intro (fun z0 => ?_) (fun z0 => ?_)
  · have z0 : pu < 0 := z0
    rw [lt_i, e0] at z0
    exact ⟨f0, Or.inl ⟨fun z => absurd z.1.1 (by omega), rfl⟩⟩
  have z0 : ¬ pu < 0 := z0
  rw [lt_i, e0] at z0
  (conv => whnf)
  refine ⟨1, by decide, _, r_within, ?_⟩
  rintro w1 mw ⟨hmm, hw1⟩; have hmm := hmm.symm; subst hmm
  rw [e0, e2] at hw1
  (conv => whnf)
  refine And.intro (fun zw => ?_) (fun zw => ?_)
  case refine_2 =>
    have zw : w1 = 0 := zw
    rcases hw1 with ⟨y1, y2⟩ | ⟨y1, y2⟩
    · rw [y2] at zw; exact absurd zw (by decide)
    · exact ⟨f0, Or.inl ⟨fun z => y1 z.1.2, rfl⟩⟩
  rcases hw1 with ⟨y1, y2⟩ | ⟨y1, y2⟩
  case inr => exact absurd y2 zw
  have hLA : 0 ≤ pu.toInt ∧ 0 ≤ wt.toInt ∧ wt.toInt ≤ 2 := ⟨by omega, y1⟩
  (conv => whnf)
  refine ⟨10, by decide, _, r_gather_336 hM h rfl hF, ?_⟩
  rintro r m1 hq
  obtain ⟨P1, A1⟩ := ga_cs hM hF hq
  clear hq
  (conv => whnf)
  rcases A1 with ⟨a1, a2⟩ | ⟨a1, a2, a3⟩ | ⟨hA, hl, hr, hS, S1⟩
  · subst a2
    refine And.intro (fun q => absurd q (by decide)) (fun _ => ?_)
    exact ⟨P1, Or.inl ⟨fun z => a1 z.2, rfl⟩⟩
  · subst a3
    refine And.intro (fun q => absurd q (by decide)) (fun _ => ?_)
    exact ⟨P1, Or.inr ⟨⟨hLA, a1⟩, Or.inl ⟨a2, rfl⟩⟩⟩
  subst hr
  refine And.intro (fun _ => ?_) (fun q => absurd (show (0 : Int32) ≤ nI (rnL7 (ff, g, (336, 720)) wy k d).length by rw [le_i, e0, nI_toInt (by omega)]; omega) q)
  have h1 : SB 336 m1 := h.fr (by unfold isBk; omega) S1.2.2 (by decide +kernel)
  have hv1 : vw m1 = vw (ff, g, (336, 720)) := vw_fr S1.2.2 (by decide +kernel)
  have hc1 : m1.2.2 = (336, 720) := P1.1.2.1
  have hw := r_weigh_336 (m := m1) (L := rnL7 (ff, g, (336, 720)) wy k d) S1.1 h1 hc1 hS hl (fun i hi => by rw [hv1]; exact L_row hA hi)
  rw [hv1] at hw
  (conv => whnf)
  refine ⟨5, by decide, _, hw, ?_⟩
  rintro m2 ⟨S2, hI⟩
  have P2 : FmP (ff, g, (336, 720)) m2 := P1.sc S2 (by decide) (by decide)
  have h2 : SB 336 m2 := h1.fr (by unfold isBk; omega) S2.2.2 (by decide +kernel)
  have hv2 : vw m2 = vw (ff, g, (336, 720)) := (vw_fr S2.2.2 (by decide +kernel)).trans hv1
  have hc2 : m2.2.2 = (336, 720) := P2.1.2.1
  have hT : ∀ l, l < (vw m2).1 0 → (gJ m2 21625 l).toInt = TL (vw m2) (rnL7 (ff, g, (336, 720)) wy k d) l ∧ 0 ≤ TL (vw m2) (rnL7 (ff, g, (336, 720)) wy k d) l ∧ TL (vw m2) (rnL7 (ff, g, (336, 720)) wy k d) l ≤ 48000000000 := by
    rw [hv2]
    exact fun l hl2 => ⟨(hI l hl2).2, TL_rng hW hl (fun i hi => (L_row hA hi).2) l _ (Nat.le_refl _)⟩
  have hB : ∀ l, l < (vw m2).1 0 → gI m2 21640 l = nI (burL (vw m2) l) := by
    rw [hv2]
    exact fun l hl2 => (hI l hl2).1
  have hb := r_best_336 (m := m2) (L := rnL7 (ff, g, (336, 720)) wy k d) (pu := pu) S2.1 h2 hc2 hLA.1 hT hB
  have hO := fun S : Int32 => r_tOut_336 (m := m2) (S := S) (F := TL (vw m2) (rnL7 (ff, g, (336, 720)) wy k d)) S2.1 h2 hc2 hT
  have hN := fun S : Int32 => r_bIn_336 (m := m2) (S := S) S2.1 h2 hc2 hB
  rw [hv2] at hb hO hN
  (conv => whnf)
  refine ⟨2, by decide, _, hb, ?_⟩
  rintro rb m' ⟨hmm, b, hbb, hrb⟩; have hmm := hmm.symm; subst hmm
  subst hrb
  have hbl := hbb.1
  have fin : ∀ r : Int64, SvV (ff, g, (336, 720)) wy k d wt b r → FmP (ff, g, (336, 720)) m2 ∧ SvR (ff, g, (336, 720)) wy k d pu wt r := fun r hv => ⟨P2, Or.inr ⟨⟨hLA, hA⟩, Or.inr ⟨hl, b, hbb, hv⟩⟩⟩
  (conv => whnf)
  refine And.intro (fun s0 => ?_) (fun s0 => ?_)
  · have s0 : wt = 0 := s0
    refine fin _ ?_
    unfold SvV
    rw [if_pos s0, Int32.toInt_toInt64, nI_toInt (by omega)]
  have s0 : ¬ wt = 0 := s0
  refine And.intro (fun s1 => ?_) (fun s1 => ?_)
  · have s1 : wt = 1 := s1
    (conv => whnf)
    refine ⟨1, by decide, _, hO (nI b), ?_⟩
    rintro r m' ⟨hmm, hq⟩; have hmm := hmm.symm; subst hmm
    refine fin _ ?_
    unfold SvV
    rw [if_neg s0, if_pos s1, hq]
    rfl
  · have s1 : ¬ wt = 1 := s1
    (conv => whnf)
    refine ⟨1, by decide, _, hN (nI b), ?_⟩
    rintro r m' ⟨hmm, hq⟩; have hmm := hmm.symm; subst hmm
    refine fin _ ?_
    unfold SvV
    rw [if_neg s0, if_neg s1, Int32.toInt_toInt64, hq]
set_option maxRecDepth 100000 in
set_option maxHeartbeats 8000000 in
theorem r_tOut_720 {S : Int32} {F : Nat → Int} (hM : Mok TYg m) (h : SB 720 m) (hc : m.2.2 = (720, 336)) (hT : ∀ l, l < (vw m).1 0 → (gJ m 21625 l).toInt = F l ∧ 0 ≤ F l ∧ F l ≤ 48000000000) : CJ 1 mX6_takesOutside [.ref 6, .int S] m (fun r m' => m' = m ∧ r.toInt = sL (fun l => if bt S (nI l) = 0 then F l else 0) ((vw m).1 0)) := by
  obtain ⟨ff, g, c⟩ := m
  obtain rfl : c = (720, 336) := hc
  have h5 : (vw (ff, g, (720, 336))).1 0 ≤ 5 := h.2.2.2.2.2.1.1
  have c1 : gI (ff, g, (720, 336)) 738 1 = nI ((vw (ff, g, (720, 336))).1 0) := by
    have e : gI (ff, g, (720, 336)) 738 1 = gI (ff, g, (720, 336)) 1175 3 := h.1 0 (by decide)
    rw [e]; exact nI_back (vw_n (k := 0) hM)
  have rg : ∀ n, n ≤ (vw (ff, g, (720, 336))).1 0 → 0 ≤ sL (fun l => if bt S (nI l) = 0 then F l else 0) n ∧ sL (fun l => if bt S (nI l) = 0 then F l else 0) n ≤ 48000000000 * n := fun n hn => sL_rng n (fun l hl => by
    have := hT l (by omega)
    show 0 ≤ (if bt S (nI l) = 0 then F l else 0) ∧ (if bt S (nI l) = 0 then F l else 0) ≤ 48000000000
    split <;> omega)
  have lp : ∀ (d l : Nat) (x : Int64), l + d = (vw (ff, g, (720, 336))).1 0 → x.toInt = sL (fun l => if bt S (nI l) = 0 then F l else 0) l → At (E0 1) mX6_takesOutside (qj (fun r m' => m' = (ff, g, (720, 336)) ∧ r.toInt = sL (fun l => if bt S (nI l) = 0 then F l else 0) ((vw (ff, g, (720, 336))).1 0))) 5 [.ref 6, .int S, .long x, .null, .int (nI l)] [] (ff, g, (720, 336)) := by
    intro d
    induction d with
    | zero =>
      intro l x hl hx
      refine At.ls okX6_takesOutside 60 ⟨_, _, rfl⟩ ?_
      (conv => whnf)
      dsimp only
      (conv => whnf)
      refine And.intro (fun p => ?_) (fun p => ?_)
      · exact ⟨rfl, by rw [hx, show l = (vw (ff, g, (720, 336))).1 0 by omega]⟩
      · have p : ¬ gI (ff, g, (720, 336)) 738 1 ≤ nI l := p
        rw [c1, le_i, nI_toInt (by omega), nI_toInt (by omega)] at p
        omega
    | succ d ih =>
      intro l x hl hx
      have vl : vp_in (nI l) 5 := vp_in_nI (by omega) (by decide)
      have lc : (nI l).toNatClampNeg = l := nI_clamp (by omega)
      have a := rg l (by omega)
      have t := hT l (by omega)
      refine At.ls okX6_takesOutside 80 ⟨_, _, rfl⟩ ?_
      (conv => whnf)
      dsimp only
      (conv => whnf)
      refine And.intro (fun p => ?_) (fun p => ?_)
      · have p : gI (ff, g, (720, 336)) 738 1 ≤ nI l := p
        rw [c1, le_i, nI_toInt (by omega), nI_toInt (by omega)] at p
        omega
      (conv => whnf)
      refine And.intro (fun q => ?_) (fun q => ?_)
      · have q : ¬ bt S (nI l) = 0 := q
        have z := ih (l + 1) (x + 0) (by omega) (by
          show _ = sL _ l + (if bt S (nI l) = 0 then F l else 0)
          rw [if_neg q, Int64.add_zero, hx, Int.add_zero])
        rw [← nI_1] at z
        (conv => whnf)
        exact And.intro rfl z
      · have q : bt S (nI l) = 0 := q
        (conv => whnf)
        refine And.intro vl ?_
        have z := ih (l + 1) (x + gJ (ff, g, (720, 336)) 21625 (nI l).toNatClampNeg) (by omega) (by
          show _ = sL _ l + (if bt S (nI l) = 0 then F l else 0)
          rw [if_pos q, lc, lJ_add (by omega) (by omega), hx, t.1])
        rw [← nI_1] at z
        (conv => whnf)
        exact And.intro rfl z
  refine At.gs okX6_takesOutside 60 ?_
  (conv => whnf)
  exact And.intro rfl (lp ((vw (ff, g, (720, 336))).1 0) 0 0 (by omega) rfl)
set_option maxRecDepth 100000 in
set_option maxHeartbeats 8000000 in
theorem r_bIn_720 {S : Int32} (hM : Mok TYg m) (h : SB 720 m) (hc : m.2.2 = (720, 336)) (hB : ∀ l, l < (vw m).1 0 → gI m 21640 l = nI (burL (vw m) l)) : CI 1 mX6_burdenInside [.ref 6, .int S] m (fun r m' => m' = m ∧ r.toInt = BI (vw m) S) := by
  obtain ⟨ff, g, c⟩ := m
  obtain rfl : c = (720, 336) := hc
  have hW := h.2.2.2.2.2
  have h5 : (vw (ff, g, (720, 336))).1 0 ≤ 5 := hW.1.1
  have c1 : gI (ff, g, (720, 336)) 738 1 = nI ((vw (ff, g, (720, 336))).1 0) := by
    have e : gI (ff, g, (720, 336)) 738 1 = gI (ff, g, (720, 336)) 1175 3 := h.1 0 (by decide)
    rw [e]; exact nI_back (vw_n (k := 0) hM)
  have lp : ∀ (d l : Nat) (x : Int32), l + d = (vw (ff, g, (720, 336))).1 0 → x.toInt = sL (fun l => if bt S (nI l) = 0 then 0 else (burL (vw (ff, g, (720, 336))) l : Int)) l → At (E0 1) mX6_burdenInside (qi (fun r m' => m' = (ff, g, (720, 336)) ∧ r.toInt = BI (vw (ff, g, (720, 336))) S)) 4 [.ref 6, .int S, .int x, .int (nI l)] [] (ff, g, (720, 336)) := by
    intro d
    induction d with
    | zero =>
      intro l x hl hx
      refine At.ls okX6_burdenInside 60 ⟨_, _, rfl⟩ ?_
      (conv => whnf)
      dsimp only
      (conv => whnf)
      refine And.intro (fun p => ?_) (fun p => ?_)
      · exact ⟨rfl, by rw [hx, show l = (vw (ff, g, (720, 336))).1 0 by omega]; rfl⟩
      · have p : ¬ gI (ff, g, (720, 336)) 738 1 ≤ nI l := p
        rw [c1, le_i, nI_toInt (by omega), nI_toInt (by omega)] at p
        omega
    | succ d ih =>
      intro l x hl hx
      have vl : vp_in (nI l) 5 := vp_in_nI (by omega) (by decide)
      have lc : (nI l).toNatClampNeg = l := nI_clamp (by omega)
      have a := BI_rng hW S l (by omega)
      have t := burL_le hW l
      refine At.ls okX6_burdenInside 80 ⟨_, _, rfl⟩ ?_
      (conv => whnf)
      dsimp only
      (conv => whnf)
      refine And.intro (fun p => ?_) (fun p => ?_)
      · have p : gI (ff, g, (720, 336)) 738 1 ≤ nI l := p
        rw [c1, le_i, nI_toInt (by omega), nI_toInt (by omega)] at p
        omega
      (conv => whnf)
      refine And.intro (fun q => ?_) (fun q => ?_)
      · have q : bt S (nI l) = 0 := q
        have z := ih (l + 1) (x + 0) (by omega) (by
          show _ = sL _ l + (if bt S (nI l) = 0 then 0 else (burL (vw (ff, g, (720, 336))) l : Int))
          rw [if_pos q, Int32.add_zero, hx, Int.add_zero])
        rw [← nI_1] at z
        (conv => whnf)
        exact And.intro rfl z
      · have q : ¬ bt S (nI l) = 0 := q
        (conv => whnf)
        refine And.intro vl ?_
        have z := ih (l + 1) (x + gI (ff, g, (720, 336)) 21640 (nI l).toNatClampNeg) (by omega) (by
          show _ = sL _ l + (if bt S (nI l) = 0 then 0 else (burL (vw (ff, g, (720, 336))) l : Int))
          have e : (gI (ff, g, (720, 336)) 21640 l).toInt = burL (vw (ff, g, (720, 336))) l := by rw [hB l (by omega), nI_toInt (by omega)]
          rw [if_neg q, lc, iI_add (by omega) (by omega), hx, e])
        rw [← nI_1] at z
        (conv => whnf)
        exact And.intro rfl z
  refine At.gs okX6_burdenInside 60 ?_
  (conv => whnf)
  exact And.intro rfl (lp ((vw (ff, g, (720, 336))).1 0) 0 0 (by omega) rfl)
set_option maxRecDepth 100000 in
set_option maxHeartbeats 8000000 in
theorem r_best_720 {L : List (List Nat)} {pu : Int32} (hM : Mok TYg m) (h : SB 720 m) (hc : m.2.2 = (720, 336)) (h0 : 0 ≤ pu.toInt) (hT : ∀ l, l < (vw m).1 0 → (gJ m 21625 l).toInt = TL (vw m) L l ∧ 0 ≤ TL (vw m) L l ∧ TL (vw m) L l ≤ 48000000000) (hB : ∀ l, l < (vw m).1 0 → gI m 21640 l = nI (burL (vw m) l)) : CI 2 mX6_bestLands [.ref 6, .int pu] m (fun r m' => m' = m ∧ ∃ b, SvB (vw m) L pu.toInt (2 ^ (vw m).1 0) b ∧ r = nI b) := by
  have tO : ∀ S : Int32, CJ 1 mX6_takesOutside [.ref 6, .int S] m (fun r m' => m' = m ∧ r.toInt = TOL (vw m) L S) := fun S => r_tOut_720 (F := TL (vw m) L) hM h hc hT
  have bI : ∀ S : Int32, CI 1 mX6_burdenInside [.ref 6, .int S] m (fun r m' => m' = m ∧ r.toInt = BI (vw m) S) := fun S => r_bIn_720 hM h hc hB
  obtain ⟨ff, g, c⟩ := m
  obtain rfl : c = (720, 336) := hc
  have hW := h.2.2.2.2.2
  have h5 : (vw (ff, g, (720, 336))).1 0 ≤ 5 := hW.1.1
  have c1 : gI (ff, g, (720, 336)) 738 1 = nI ((vw (ff, g, (720, 336))).1 0) := by
    have e : gI (ff, g, (720, 336)) 738 1 = gI (ff, g, (720, 336)) 1175 3 := h.1 0 (by decide)
    rw [e]; exact nI_back (vw_n (k := 0) hM)
  have hp2 : 2 ^ (vw (ff, g, (720, 336))).1 0 ≤ 2 ^ 5 := Nat.pow_le_pow_right (by decide) h5
  have hpos : 0 < 2 ^ (vw (ff, g, (720, 336))).1 0 := Nat.pow_pos (by decide)
  have lim : (1 : Int32) <<< (gI (ff, g, (720, 336)) 738 1 &&& 31) = nI (2 ^ (vw (ff, g, (720, 336))).1 0) := by rw [c1]; exact shl1 (by omega)
  have lp : ∀ (dd s b : Nat) (le : Int64) (li : Int32) (v7 v8 v9 : Value), s + dd = 2 ^ (vw (ff, g, (720, 336))).1 0 → SvB (vw (ff, g, (720, 336))) L pu.toInt s b → le.toInt = TOL (vw (ff, g, (720, 336))) L (nI b) → li.toInt = BI (vw (ff, g, (720, 336))) (nI b) → At (E0 2) mX6_bestLands (qi (fun r m' => m' = (ff, g, (720, 336)) ∧ ∃ b, SvB (vw (ff, g, (720, 336))) L pu.toInt (2 ^ (vw (ff, g, (720, 336))).1 0) b ∧ r = nI b)) 14 [.ref 6, .int pu, .int (nI b), .long le, .null, .int li, .int (nI s), v7, v8, v9] [] (ff, g, (720, 336)) := by
    intro dd
    induction dd with
    | zero =>
      intro s b le li v7 v8 v9 hs hb e1 e2
      refine At.ls okX6_bestLands 60 ⟨_, _, rfl⟩ ?_
      (conv => whnf)
      dsimp only
      (conv => whnf)
      refine And.intro (fun p => ?_) (fun p => ?_)
      · rw [show s = 2 ^ (vw (ff, g, (720, 336))).1 0 by omega] at hb
        exact ⟨rfl, b, hb, rfl⟩
      · have p : ¬ (1 : Int32) <<< (gI (ff, g, (720, 336)) 738 1 &&& 31) ≤ nI s := p
        rw [lim, le_i, nI_toInt (by omega), nI_toInt (by omega)] at p
        omega
    | succ dd ih =>
      intro s b le li v7 v8 v9 hs hb e1 e2
      refine At.ls okX6_bestLands 100 ⟨_, _, rfl⟩ ?_
      (conv => whnf)
      dsimp only
      (conv => whnf)
      refine And.intro (fun p => ?_) (fun p => ?_)
      · have p : (1 : Int32) <<< (gI (ff, g, (720, 336)) 738 1 &&& 31) ≤ nI s := p
        rw [lim, le_i, nI_toInt (by omega), nI_toInt (by omega)] at p
        omega
      (conv => whnf)
      refine ⟨1, by decide, _, bI (nI s), ?_⟩
      rintro wt m' ⟨hmm, hw⟩; have hmm := hmm.symm; subst hmm
      (conv => whnf)
      refine ⟨1, by decide, _, tO (nI s), ?_⟩
      rintro lf m' ⟨hmm, hf⟩; have hmm := hmm.symm; subst hmm
      have no : (BI (vw (ff, g, (720, 336))) (nI s) ≤ pu.toInt → ¬ (TOL (vw (ff, g, (720, 336))) L (nI s) < TOL (vw (ff, g, (720, 336))) L (nI b) ∨ (TOL (vw (ff, g, (720, 336))) L (nI s) = TOL (vw (ff, g, (720, 336))) L (nI b) ∧ BI (vw (ff, g, (720, 336))) (nI s) < BI (vw (ff, g, (720, 336))) (nI b)))) → At (E0 2) mX6_bestLands (qi (fun r m' => m' = (ff, g, (720, 336)) ∧ ∃ b, SvB (vw (ff, g, (720, 336))) L pu.toInt (2 ^ (vw (ff, g, (720, 336))).1 0) b ∧ r = nI b)) 14 [.ref 6, .int pu, .int (nI b), .long le, .null, .int li, .int (nI s + 1), .int wt, .long lf, .null] [] (ff, g, (720, 336)) := fun hx => by
        have z := ih (s + 1) b le li (.int wt) (.long lf) .null (by omega) (SvB_no hb hx) e1 e2
        rw [show nI (s + 1) = nI s + 1 from (nI_1 s).symm] at z
        exact z
      have yes : BI (vw (ff, g, (720, 336))) (nI s) ≤ pu.toInt → (TOL (vw (ff, g, (720, 336))) L (nI s) < TOL (vw (ff, g, (720, 336))) L (nI b) ∨ (TOL (vw (ff, g, (720, 336))) L (nI s) = TOL (vw (ff, g, (720, 336))) L (nI b) ∧ BI (vw (ff, g, (720, 336))) (nI s) < BI (vw (ff, g, (720, 336))) (nI b))) → At (E0 2) mX6_bestLands (qi (fun r m' => m' = (ff, g, (720, 336)) ∧ ∃ b, SvB (vw (ff, g, (720, 336))) L pu.toInt (2 ^ (vw (ff, g, (720, 336))).1 0) b ∧ r = nI b)) 14 [.ref 6, .int pu, .int (nI s), .long lf, .null, .int wt, .int (nI s + 1), .int wt, .long lf, .null] [] (ff, g, (720, 336)) := fun hp hx => by
        have z := ih (s + 1) s lf wt (.int wt) (.long lf) .null (by omega) (SvB_put hb hp hx) hf hw
        rw [show nI (s + 1) = nI s + 1 from (nI_1 s).symm] at z
        exact z
      (conv => whnf)
      refine And.intro (fun q1 => ?_) (fun q1 => ?_)
      · have q1 : pu < wt := q1
        rw [lt_i, hw] at q1
        (conv => whnf)
        exact And.intro rfl (no (fun z => by omega))
      have q1 : ¬ pu < wt := q1
      rw [lt_i, hw] at q1
      (conv => whnf)
      refine And.intro (fun q2 => ?_) (fun q2 => ?_)
      · have q2 : lg_cmp lf le < 0 := q2
        rw [lgc_lt, hf, e1] at q2
        (conv => whnf)
        exact And.intro rfl (yes (by omega) (Or.inl q2))
      have q2 : ¬ lg_cmp lf le < 0 := q2
      rw [lgc_lt, hf, e1] at q2
      (conv => whnf)
      refine And.intro (fun q3 => ?_) (fun q3 => ?_)
      · have q3 : ¬ lg_cmp lf le = 0 := q3
        have q4 : ¬ TOL (vw (ff, g, (720, 336))) L (nI s) = TOL (vw (ff, g, (720, 336))) L (nI b) := fun z => q3 ((lgc_eq _ _).mpr (Int64.toInt_inj.mp (by rw [hf, e1]; exact z)))
        (conv => whnf)
        exact And.intro rfl (no (fun _ => by omega))
      have q3 : lg_cmp lf le = 0 := q3
      have q4 : TOL (vw (ff, g, (720, 336))) L (nI s) = TOL (vw (ff, g, (720, 336))) L (nI b) := by rw [← hf, ← e1, (lgc_eq _ _).mp q3]
      (conv => whnf)
      refine And.intro (fun q5 => ?_) (fun q5 => ?_)
      · have q5 : li ≤ wt := q5
        rw [le_i, hw, e2] at q5
        (conv => whnf)
        exact And.intro rfl (no (fun _ => by omega))
      · have q5 : ¬ li ≤ wt := q5
        rw [le_i, hw, e2] at q5
        (conv => whnf)
        exact And.intro rfl (yes (by omega) (Or.inr ⟨q4, by omega⟩))
  refine At.gs okX6_bestLands 60 ?_
  (conv => whnf)
  refine ⟨1, by decide, _, tO 0, ?_⟩
  rintro l0 m' ⟨hmm, hf⟩; have hmm := hmm.symm; subst hmm
  (conv => whnf)
  have B0 : BI (vw (ff, g, (720, 336))) (nI 0) = 0 := BI_0
  exact And.intro rfl (lp (2 ^ (vw (ff, g, (720, 336))).1 0 - 1) 1 0 l0 0 .null .null .null (by omega) ⟨by omega, by rw [B0]; exact h0, fun c hc _ => Or.inr ⟨by rw [show c = 0 by omega], Or.inr ⟨by rw [show c = 0 by omega], by omega⟩⟩⟩ hf (by rw [B0]; rfl))
set_option maxRecDepth 100000 in
set_option maxHeartbeats 16000000 in
theorem r_weigh_720 {L : List (List Nat)} (hM : Mok TYg m) (h : SB 720 m) (hc : m.2.2 = (720, 336)) (hF : FS L m) (hl : L.length ≤ 200) (hr : ∀ i, i < L.length → 2 ≤ (L.getD i []).length ∧ (L.getD i []).length ≤ 6 ∧ ∀ j, j < (L.getD i []).length → (L.getD i []).getD j 0 < (vw m).1 3) : CV 5 mX6_weighLands [.ref 6, .int (nI L.length)] m (fun m' => St [50248, 21625, 21640] m m' ∧ ∀ l, l < (vw m).1 0 → gI m' 21640 l = nI (burL (vw m) l) ∧ (gJ m' 21625 l).toInt = TL (vw m) L l) := by
  obtain ⟨ff, g, c⟩ := m
  obtain rfl : c = (720, 336) := hc
  have hW := h.2.2.2.2.2
  have h5 : (vw (ff, g, (720, 336))).1 0 ≤ 5 := hW.1.1
  refine At.gs okX6_weighLands 80 ?_
  (conv => whnf)
  dsimp only
  (conv => whnf)
  refine ⟨4, by decide, _, r_missing_720 (ru := 0) hM h, ?_⟩
  rintro mi m1 ⟨S1, hmi⟩
  have hr6 : ∀ i, i < L.length → (L.getD i []).length ≤ 6 ∧ ∀ j, j < (L.getD i []).length → (L.getD i []).getD j 0 < (vw (ff, g, (720, 336))).1 3 := fun i hi => (hr i hi).2
  have c1 : ∀ {m2 : MM}, St [50248, 21625, 21640] (ff, g, (720, 336)) m2 → gI m2 738 1 = nI ((vw (ff, g, (720, 336))).1 0) := fun {m2} S2 => by
    rw [fr1 S2.2.2 (by decide)]
    have e : gI (ff, g, (720, 336)) 738 1 = gI (ff, g, (720, 336)) 1175 3 := h.1 0 (by decide)
    rw [e]; exact nI_back (vw_n (k := 0) hM)
  have lp : ∀ (dd l : Nat) (v4 v5 : Value) (m2 : MM), l + dd = (vw (ff, g, (720, 336))).1 0 → St [50248, 21625, 21640] (ff, g, (720, 336)) m2 → (∀ j, j < l → gI m2 21640 j = nI (burL (vw (ff, g, (720, 336))) j) ∧ (gJ m2 21625 j).toInt = TL (vw (ff, g, (720, 336))) L j) → At (E0 5) mX6_weighLands (qv (fun m' => St [50248, 21625, 21640] (ff, g, (720, 336)) m' ∧ ∀ l, l < (vw (ff, g, (720, 336))).1 0 → gI m' 21640 l = nI (burL (vw (ff, g, (720, 336))) l) ∧ (gJ m' 21625 l).toInt = TL (vw (ff, g, (720, 336))) L l)) 11 [.ref 6, .int (nI L.length), .int mi, .int (nI l), v4, v5] [] m2 := by
    intro dd
    induction dd with
    | zero =>
      intro l v4 v5 m2 hll S2 hI
      have c12 := c1 S2
      have hc2 : m2.2.2 = (720, 336) := S2.2.1
      obtain ⟨f2, g2, c2⟩ := m2
      obtain rfl : c2 = (720, 336) := hc2
      refine At.ls okX6_weighLands 60 ⟨_, _, rfl⟩ ?_
      (conv => whnf)
      dsimp only
      (conv => whnf)
      refine And.intro (fun p => ?_) (fun p => ?_)
      · exact ⟨S2, fun j hj => hI j (by omega)⟩
      · have p : ¬ gI (f2, g2, (720, 336)) 738 1 ≤ nI l := p
        rw [c12, le_i, nI_toInt (by omega), nI_toInt (by omega)] at p
        omega
    | succ dd ih =>
      intro l v4 v5 m2 hll S2 hI
      have vl : vp_in (nI l) 5 := vp_in_nI (by omega) (by decide)
      have lc : (nI l).toNatClampNeg = l := nI_clamp (by omega)
      have inner : ∀ (gu : Int32) (d2 i : Nat) (m4 : MM), (∀ s, s < (vw (ff, g, (720, 336))).1 3 → ckB (vw (ff, g, (720, 336))) gu s = ckL (vw (ff, g, (720, 336))) l s) → i + d2 = L.length → St [50248, 21625, 21640] (ff, g, (720, 336)) m4 → (∀ j, j ≤ l → gI m4 21640 j = nI (burL (vw (ff, g, (720, 336))) j)) → (∀ j, j < l → (gJ m4 21625 j).toInt = TL (vw (ff, g, (720, 336))) L j) → (gJ m4 21625 l).toInt = sL (fun i => (takP (vw (ff, g, (720, 336))) (ckL (vw (ff, g, (720, 336))) l) 0 (L.getD i [])).toInt) i → At (E0 5) mX6_weighLands (qv (fun m' => St [50248, 21625, 21640] (ff, g, (720, 336)) m' ∧ ∀ l, l < (vw (ff, g, (720, 336))).1 0 → gI m' 21640 l = nI (burL (vw (ff, g, (720, 336))) l) ∧ (gJ m' 21625 l).toInt = TL (vw (ff, g, (720, 336))) L l)) 62 [.ref 6, .int (nI L.length), .int mi, .int (nI l), .int gu, .int (nI i)] [] m4 := by
        intro gu d2
        induction d2 with
        | zero =>
          intro i m4 hgu hi S4 hb ht hx
          refine At.ls okX6_weighLands 60 ⟨_, _, rfl⟩ ?_
          (conv => whnf)
          refine And.intro (fun p => ?_) (fun p => ?_)
          · have z := ih (l + 1) (.int gu) (.int (nI i)) m4 (by omega) S4 (fun j hj => ⟨hb j (by omega), by
              by_cases q : j = l
              · rw [q, hx, show i = L.length by omega]; rfl
              · exact ht j (by omega)⟩)
            rw [show nI (l + 1) = nI l + 1 from (nI_1 l).symm] at z
            (conv => whnf)
            exact And.intro rfl z
          · have p : ¬ nI L.length ≤ nI i := p
            rw [le_i, nI_toInt (by omega), nI_toInt (by omega)] at p
            omega
        | succ d2 ih2 =>
          intro i m4 hgu hi S4 hb ht hx
          have ic : (nI i).toNatClampNeg = i := nI_clamp (by omega)
          have vi : vp_in (nI i) 200 := vp_in_nI (by omega) (by decide)
          obtain ⟨w1, w2, w3⟩ := hr i (by omega)
          have hF4 : FS L m4 := hF.fr S4.2.2 (by decide)
          obtain ⟨y1, y2⟩ := hF4.2 i (by omega) (by omega)
          have h4 : SB 720 m4 := h.fr (by unfold isBk; omega) S4.2.2 (by decide +kernel)
          have hv4 : vw m4 = vw (ff, g, (720, 336)) := vw_fr S4.2.2 (by decide +kernel)
          have hc4 : m4.2.2 = (720, 336) := S4.2.1
          obtain ⟨f4, g4, c4⟩ := m4
          obtain rfl : c4 = (720, 336) := hc4
          have tr := tak_rng (ru := 0) (ck := ckL (vw (ff, g, (720, 336))) l) hW w3 w2
          have sr := TL_rng hW hl hr6 l i (by omega)
          have hcT : CI 3 mX0_takenBy [.ref 720, .long (gJ (f4, g4, (720, 336)) 819273 (nI i).toNatClampNeg), .int (gI (f4, g4, (720, 336)) 819288 (nI i).toNatClampNeg), .int gu, .int 0] (f4, g4, (720, 336)) (fun r m' => m' = (f4, g4, (720, 336)) ∧ r = takP (vw (ff, g, (720, 336))) (ckL (vw (ff, g, (720, 336))) l) 0 (L.getD i [])) := by
            rw [ic, y2]
            have z := r_taken_720 (m := (f4, g4, (720, 336))) (ms := gu) (ru := 0) S4.1 h4 y1 (by rw [hv4]; exact w3) (by omega) w2
            rw [hv4] at z
            refine CI.mono z (fun r m' hq => ⟨hq.1, ?_⟩)
            rw [hq.2]
            exact takP_cg (fun j hj => hgu _ (w3 j hj))
          refine At.ls okX6_weighLands 120 ⟨_, _, rfl⟩ ?_
          (conv => whnf)
          refine And.intro (fun p => ?_) (fun p => ?_)
          · have p : nI L.length ≤ nI i := p
            rw [le_i, nI_toInt (by omega), nI_toInt (by omega)] at p
            omega
          (conv => whnf)
          refine And.intro vl ?_
          (conv => whnf)
          dsimp only
          (conv => whnf)
          refine And.intro vi ?_
          (conv => whnf)
          refine And.intro vi ?_
          (conv => whnf)
          refine ⟨3, by decide, _, hcT, ?_⟩
          rintro r m' ⟨hmm, hq⟩; have hmm := hmm.symm; subst hmm
          rw [← hq] at tr
          (conv => whnf)
          refine And.intro vl ?_
          have S5 : St [50248, 21625, 21640] (ff, g, (720, 336)) (sJ (f4, g4, (720, 336)) 21625 (nI l).toNatClampNeg (gJ (f4, g4, (720, 336)) 21625 (nI l).toNatClampNeg + r.toInt64)) := S4.rowJ rfl (by decide) (fun q => absurd q (by decide))
          have z := ih2 (i + 1) _ hgu (by omega) S5 (fun j hj => hb j hj) (fun j hj => by
            rw [gJ_sJ, lc, if_neg (fun q => by omega)]
            exact ht j hj) (by
            rw [gJ_sJ, lc, if_pos ⟨rfl, rfl⟩]
            show _ = sL _ i + (takP (vw (ff, g, (720, 336))) (ckL (vw (ff, g, (720, 336))) l) 0 (L.getD i [])).toInt
            rw [lJ_add (by rw [hx, Int32.toInt_toInt64]; omega) (by rw [hx, Int32.toInt_toInt64]; omega), hx, Int32.toInt_toInt64, hq])
          rw [show nI (i + 1) = nI i + 1 from (nI_1 i).symm] at z
          (conv => whnf)
          exact And.intro rfl z
      have c12 := c1 S2
      have h2 : SB 720 m2 := h.fr (by unfold isBk; omega) S2.2.2 (by decide +kernel)
      have hv2 : vw m2 = vw (ff, g, (720, 336)) := vw_fr S2.2.2 (by decide +kernel)
      have hc2 : m2.2.2 = (720, 336) := S2.2.1
      obtain ⟨f2, g2, c2⟩ := m2
      obtain rfl : c2 = (720, 336) := hc2
      refine At.ls okX6_weighLands 120 ⟨_, _, rfl⟩ ?_
      (conv => whnf)
      dsimp only
      (conv => whnf)
      refine And.intro (fun p => ?_) (fun p => ?_)
      · have p : gI (f2, g2, (720, 336)) 738 1 ≤ nI l := p
        rw [c12, le_i, nI_toInt (by omega), nI_toInt (by omega)] at p
        omega
      (conv => whnf)
      dsimp only
      (conv => whnf)
      refine ⟨2, by decide, _, r_honest_720 (m := (f2, g2, (720, 336))) (l := nI l) (mi := mi) S2.1 h2 (by rw [hv2]; exact hmi), ?_⟩
      rintro r1 m' ⟨hmm, hq1⟩; have hmm := hmm.symm; subst hmm
      rw [hv2] at hq1
      (conv => whnf)
      refine And.intro vl ?_
      (conv => whnf)
      refine And.intro vl ?_
      have S3 : St [50248, 21625, 21640] (ff, g, (720, 336)) (sJ (sI (f2, g2, (720, 336)) 21640 (nI l).toNatClampNeg r1) 21625 (nI l).toNatClampNeg 0) := (S2.row (a := 21640) rfl (by decide) (tI_lo _) (tI_hi _)).rowJ rfl (by decide) (fun q => absurd q (by decide))
      have h3 : SB 720 (sJ (sI (f2, g2, (720, 336)) 21640 (nI l).toNatClampNeg r1) 21625 (nI l).toNatClampNeg 0) := h.fr (by unfold isBk; omega) S3.2.2 (by decide +kernel)
      have hv3 : vw (sJ (sI (f2, g2, (720, 336)) 21640 (nI l).toNatClampNeg r1) 21625 (nI l).toNatClampNeg 0) = vw (ff, g, (720, 336)) := vw_fr S3.2.2 (by decide +kernel)
      (conv => whnf)
      dsimp only [sI_c, sJ_c]
      (conv => whnf)
      refine ⟨1, by decide, _, r_firmsIn_720 (m := sJ (sI (f2, g2, (720, 336)) 21640 (nI l).toNatClampNeg r1) 21625 (nI l).toNatClampNeg 0) (l := nI l) S3.1 h3, ?_⟩
      rintro r2 m' ⟨hmm, hq2⟩; have hmm := hmm.symm; subst hmm
      rw [hv3] at hq2
      (conv => whnf)
      refine And.intro rfl (inner (mi &&& r2) L.length 0 _ (fun s hs => by rw [hmi, hq2]; exact ck_two hW hs) (by omega) S3 (fun j hj => ?_) (fun j hj => ?_) ?_)
      · have e : gI (sJ (sI (f2, g2, (720, 336)) 21640 (nI l).toNatClampNeg r1) 21625 (nI l).toNatClampNeg 0) 21640 j = gI (sI (f2, g2, (720, 336)) 21640 (nI l).toNatClampNeg r1) 21640 j := rfl
        rw [e, gI_if, lc]
        by_cases q : j = l
        · rw [if_pos ⟨rfl, q⟩, q, hq1]; rfl
        · rw [if_neg (fun z => q z.2)]; exact (hI j (by omega)).1
      · rw [gJ_sJ, lc, if_neg (fun q => by omega)]
        exact (hI j hj).2
      · rw [gJ_sJ, lc, if_pos ⟨rfl, rfl⟩]
        rfl
  (conv => whnf)
  exact And.intro rfl (lp ((vw (ff, g, (720, 336))).1 0) 0 .null .null m1 (by omega) (S1.wd (by decide)) (fun j hj => absurd hj (Nat.not_lt_zero _)))
set_option maxRecDepth 100000 in
set_option maxHeartbeats 8000000 in
theorem r_starve_720 {wy k d pu wt : Int32} (hM : Mok TYg m) (h : SB 720 m) (hc : m.2.2 = (720, 336)) (hF : FM (vw m) m) : CJ 11 mX6_starve [.ref 6, .int wy, .int k, .int d, .int pu, .int wt] m (fun r m' => FmP m m' ∧ SvR m wy k d pu wt r) := by
  obtain ⟨ff, g, c⟩ := m
  obtain rfl : c = (720, 336) := hc
  have hW := h.2.2.2.2.2
  have h5 : (vw (ff, g, (720, 336))).1 0 ≤ 5 := hW.1.1
  have hp2 : 2 ^ (vw (ff, g, (720, 336))).1 0 ≤ 2 ^ 5 := Nat.pow_le_pow_right (by decide) h5
  have e0 : (0 : Int32).toInt = 0 := rfl
  have e2 : (2 : Int32).toInt = 2 := rfl
  have f0 : FmP (ff, g, (720, 336)) (ff, g, (720, 336)) := FmP.rf hM hF
  refine At.gs okX6_starve 120 ?_
  (conv => whnf)
  refine And.intro (fun z0 => ?_) (fun z0 => ?_)
  · have z0 : pu < 0 := z0
    rw [lt_i, e0] at z0
    exact ⟨f0, Or.inl ⟨fun z => absurd z.1.1 (by omega), rfl⟩⟩
  have z0 : ¬ pu < 0 := z0
  rw [lt_i, e0] at z0
  (conv => whnf)
  refine ⟨1, by decide, _, r_within, ?_⟩
  rintro w1 mw ⟨hmm, hw1⟩; have hmm := hmm.symm; subst hmm
  rw [e0, e2] at hw1
  (conv => whnf)
  refine And.intro (fun zw => ?_) (fun zw => ?_)
  case refine_2 =>
    have zw : w1 = 0 := zw
    rcases hw1 with ⟨y1, y2⟩ | ⟨y1, y2⟩
    · rw [y2] at zw; exact absurd zw (by decide)
    · exact ⟨f0, Or.inl ⟨fun z => y1 z.1.2, rfl⟩⟩
  rcases hw1 with ⟨y1, y2⟩ | ⟨y1, y2⟩
  case inr => exact absurd y2 zw
  have hLA : 0 ≤ pu.toInt ∧ 0 ≤ wt.toInt ∧ wt.toInt ≤ 2 := ⟨by omega, y1⟩
  (conv => whnf)
  refine ⟨10, by decide, _, r_gather_720 hM h rfl hF, ?_⟩
  rintro r m1 hq
  obtain ⟨P1, A1⟩ := ga_cs hM hF hq
  clear hq
  (conv => whnf)
  rcases A1 with ⟨a1, a2⟩ | ⟨a1, a2, a3⟩ | ⟨hA, hl, hr, hS, S1⟩
  · subst a2
    refine And.intro (fun q => absurd q (by decide)) (fun _ => ?_)
    exact ⟨P1, Or.inl ⟨fun z => a1 z.2, rfl⟩⟩
  · subst a3
    refine And.intro (fun q => absurd q (by decide)) (fun _ => ?_)
    exact ⟨P1, Or.inr ⟨⟨hLA, a1⟩, Or.inl ⟨a2, rfl⟩⟩⟩
  subst hr
  refine And.intro (fun _ => ?_) (fun q => absurd (show (0 : Int32) ≤ nI (rnL7 (ff, g, (720, 336)) wy k d).length by rw [le_i, e0, nI_toInt (by omega)]; omega) q)
  have h1 : SB 720 m1 := h.fr (by unfold isBk; omega) S1.2.2 (by decide +kernel)
  have hv1 : vw m1 = vw (ff, g, (720, 336)) := vw_fr S1.2.2 (by decide +kernel)
  have hc1 : m1.2.2 = (720, 336) := P1.1.2.1
  have hw := r_weigh_720 (m := m1) (L := rnL7 (ff, g, (720, 336)) wy k d) S1.1 h1 hc1 hS hl (fun i hi => by rw [hv1]; exact L_row hA hi)
  rw [hv1] at hw
  (conv => whnf)
  refine ⟨5, by decide, _, hw, ?_⟩
  rintro m2 ⟨S2, hI⟩
  have P2 : FmP (ff, g, (720, 336)) m2 := P1.sc S2 (by decide) (by decide)
  have h2 : SB 720 m2 := h1.fr (by unfold isBk; omega) S2.2.2 (by decide +kernel)
  have hv2 : vw m2 = vw (ff, g, (720, 336)) := (vw_fr S2.2.2 (by decide +kernel)).trans hv1
  have hc2 : m2.2.2 = (720, 336) := P2.1.2.1
  have hT : ∀ l, l < (vw m2).1 0 → (gJ m2 21625 l).toInt = TL (vw m2) (rnL7 (ff, g, (720, 336)) wy k d) l ∧ 0 ≤ TL (vw m2) (rnL7 (ff, g, (720, 336)) wy k d) l ∧ TL (vw m2) (rnL7 (ff, g, (720, 336)) wy k d) l ≤ 48000000000 := by
    rw [hv2]
    exact fun l hl2 => ⟨(hI l hl2).2, TL_rng hW hl (fun i hi => (L_row hA hi).2) l _ (Nat.le_refl _)⟩
  have hB : ∀ l, l < (vw m2).1 0 → gI m2 21640 l = nI (burL (vw m2) l) := by
    rw [hv2]
    exact fun l hl2 => (hI l hl2).1
  have hb := r_best_720 (m := m2) (L := rnL7 (ff, g, (720, 336)) wy k d) (pu := pu) S2.1 h2 hc2 hLA.1 hT hB
  have hO := fun S : Int32 => r_tOut_720 (m := m2) (S := S) (F := TL (vw m2) (rnL7 (ff, g, (720, 336)) wy k d)) S2.1 h2 hc2 hT
  have hN := fun S : Int32 => r_bIn_720 (m := m2) (S := S) S2.1 h2 hc2 hB
  rw [hv2] at hb hO hN
  (conv => whnf)
  refine ⟨2, by decide, _, hb, ?_⟩
  rintro rb m' ⟨hmm, b, hbb, hrb⟩; have hmm := hmm.symm; subst hmm
  subst hrb
  have hbl := hbb.1
  have fin : ∀ r : Int64, SvV (ff, g, (720, 336)) wy k d wt b r → FmP (ff, g, (720, 336)) m2 ∧ SvR (ff, g, (720, 336)) wy k d pu wt r := fun r hv => ⟨P2, Or.inr ⟨⟨hLA, hA⟩, Or.inr ⟨hl, b, hbb, hv⟩⟩⟩
  (conv => whnf)
  refine And.intro (fun s0 => ?_) (fun s0 => ?_)
  · have s0 : wt = 0 := s0
    refine fin _ ?_
    unfold SvV
    rw [if_pos s0, Int32.toInt_toInt64, nI_toInt (by omega)]
  have s0 : ¬ wt = 0 := s0
  refine And.intro (fun s1 => ?_) (fun s1 => ?_)
  · have s1 : wt = 1 := s1
    (conv => whnf)
    refine ⟨1, by decide, _, hO (nI b), ?_⟩
    rintro r m' ⟨hmm, hq⟩; have hmm := hmm.symm; subst hmm
    refine fin _ ?_
    unfold SvV
    rw [if_neg s0, if_pos s1, hq]
    rfl
  · have s1 : ¬ wt = 1 := s1
    (conv => whnf)
    refine ⟨1, by decide, _, hN (nI b), ?_⟩
    rintro r m' ⟨hmm, hq⟩; have hmm := hmm.symm; subst hmm
    refine fin _ ?_
    unfold SvV
    rw [if_neg s0, if_neg s1, Int32.toInt_toInt64, hq]
end Sw
