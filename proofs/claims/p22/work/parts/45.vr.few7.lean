/-! fewest of the model -/
def cdFm : List CE := stops [132] cdX7_fewest
set_option maxRecDepth 20000 in
theorem okFm : CodeOk mX7_fewest cdFm := okX7_fewest.st [132] (by rfl)
def wFwst : List Nat := [26104, 4916696, 820712, 184683594903, 206158431383, 210453398679, 214748365975, 219043333271, 165384, 4294968471, 820809, 820824]
/-- the least so far -/
def FwA (Ok : Nat → Prop) (s : Nat) (x : Int32) : Prop := (x = -1 ∧ ∀ c, c < s → ¬ Ok c) ∨ (∃ b, x = nI b ∧ b < s ∧ Ok b ∧ ∀ c, c < s → Ok c → popS b 31 < popS c 31 ∨ (popS b 31 = popS c 31 ∧ b ≤ c))
section Fm
variable {m : MM}
set_option maxRecDepth 100000 in
set_option maxHeartbeats 16000000 in
theorem s_fewest {wy k d : Int32} {t : Int64} (hM : Mok TYg m) (hW : Wf (vw m)) : CI 10 mX7_fewest [.ref 1175, .int wy, .int k, .int d, .long t] m (fun r m' => St wFwst m m' ∧ FwR m wy k d t r) := by
  have S0 := St_z7 hM
  have h12 := hW.1.2.2.1
  have h40 := hW.1.2.2.2
  have hp2 : 2 ^ (vw m).1 2 ≤ 2 ^ 12 := Nat.pow_le_pow_right (by decide) h12
  have hpos : 0 < 2 ^ (vw m).1 2 := Nat.pow_pos (by decide)
  refine At.gs okFm 100 ?_
  (conv => whnf)
  refine ⟨1, by decide, _, s_isAsked (m := sI m 1175 0 0), ?_⟩
  rintro r m1 ⟨hmm, hz⟩; have hmm := hmm.symm; subst hmm
  (conv => whnf)
  refine And.intro (fun q => ?_) (fun q => ?_)
  · have q : r = 0 := q
    rcases hz with ⟨y1, y2⟩ | ⟨y1, y2⟩
    · rw [y2] at q; exact absurd q (by decide)
    · exact ⟨S0.wd (by decide), Or.inl ⟨fun z => y1 z.2, rfl⟩⟩
  rcases hz with ⟨hA, y2⟩ | ⟨y1, y2⟩
  case inr => exact absurd y2 q
  (conv => whnf)
  refine And.intro (fun q0 => ?_) (fun q0 => ?_)
  case refine_2 =>
    have q0 : ¬ 0 ≤ lg_cmp t 0 := q0
    rw [lgc_ge0] at q0
    exact ⟨S0.wd (by decide), Or.inl ⟨fun z => q0 z.1, rfl⟩⟩
  have q0 : 0 ≤ lg_cmp t 0 := q0
  rw [lgc_ge0] at q0
  (conv => whnf)
  refine ⟨9, by decide, _, sk_of (m := m) (m1 := sI m 1175 0 0) hA S0.1 vw_z rfl hW, ?_⟩
  rintro m2 ⟨S2, F2⟩
  have T2 : St wRo m m2 := S0.tr S2 (by decide)
  have sp := spM F2
  (conv => whnf)
  refine And.intro (fun p => ?_) (fun p => ?_)
  case refine_2 =>
    have p : ¬ gI m2 1175 47 = 0 := p
    rcases sp with ⟨a, b, c⟩ | ⟨a, b, c⟩
    · exact absurd a p
    · exact ⟨T2.wd (by decide), Or.inr ⟨⟨q0, hA⟩, Or.inl ⟨c, rfl⟩⟩⟩
  have p : gI m2 1175 47 = 0 := p
  have hl : (rnL7 m wy k d).length ≤ 200 := by
    rcases sp with ⟨a, b, c⟩ | ⟨a, b, c⟩
    · exact c
    · rw [a] at p; exact absurd p (by decide)
  have T2w : St wFwst m m2 := T2.wd (by decide)
  have rows := fun i (hi : i < (rnL7 m wy k d).length) => L_row (m := m) hA hi
  have hl0 : ∀ S n, n ≤ (rnL7 m wy k d).length → 0 ≤ lfS (vw m) (gI m 1175 40) (rnL7 m wy k d) S n ∧ lfS (vw m) (gI m 1175 40) (rnL7 m wy k d) S n ≤ 240000000 * n := fun S n hn => lfS_rng hW (fun i hi => ⟨(rows i hi).2.1, (rows i hi).2.2⟩) n hn
  generalize hLL : rnL7 m wy k d = L at *
  have fin : ∀ (m4 : MM), St wFwst m m4 → MdS L m4 → (∀ j, j < L.length → (gJ m4 820809 j).toInt = (takP (vw m) (ckM (vw m) (gI m 1175 40)) (gI m 1175 40) (L.getD j [])).toInt ∧ gI m4 820824 j = frmP (vw m) (L.getD j []) (L.getD j []).length) →
      ∀ (dd s : Nat) (x : Int32) (v8 v9 v10 : Value), s + dd = 2 ^ (vw m).1 2 → FwA (FwO (vw m) (gI m 1175 40) L t.toInt) s x → At (E0 10) mX7_fewest (qi (fun r m' => St wFwst m m' ∧ FwR m wy k d t r)) 99 [.ref 1175, .int wy, .int k, .int d, .long t, .null, .int x, .int (nI s), v8, v9, v10] [] m4 := by
    intro m4 T4 F4 hT dd
    have e42 : gI m4 1175 42 = nI L.length := Or.elim F4.1 (fun q => q.2.1) (fun q => absurd q.1 (by omega))
    have hv4 : vw m4 = vw m := vw_fr T4.2.2 (by decide +kernel)
    have n5 : gI m4 1175 5 = nI ((vw m).1 2) := by rw [nI_back (vw2 T4.1), hv4]
    have lim : (1 : Int32) <<< (gI m4 1175 5 &&& 31) = nI (2 ^ (vw m).1 2) := by rw [n5]; exact shl1 (by omega)
    induction dd with
    | zero =>
      intro s x v8 v9 v10 hs hx
      refine At.ls okFm 60 ⟨_, _, rfl⟩ ?_
      (conv => whnf)
      refine And.intro (fun p => ?_) (fun p => ?_)
      · have es : s = 2 ^ (vw m).1 2 := by omega
        rw [es] at hx
        rcases hx with ⟨-, h2⟩ | ⟨b, h1, h2, h3, h4⟩
        · exfalso
          refine h2 (2 ^ (vw m).1 2 - 1) (by omega) ?_
          unfold FwO
          rw [lfS_all hW rows _ (Nat.le_refl _)]
          exact q0
        · exact ⟨T4, Or.inr ⟨⟨q0, hA⟩, Or.inr (by rw [hLL]; exact ⟨hl, b, ⟨h2, h3, h4⟩, h1⟩)⟩⟩
      · have p : ¬ (1 : Int32) <<< (gI m4 1175 5 &&& 31) ≤ nI s := p
        rw [lim, le_i, nI_toInt (by omega), nI_toInt (by omega)] at p
        omega
    | succ dd ih =>
      intro s x v8 v9 v10 hs hx
      have next : ∀ (x' : Int32) (v8 v9 v10 : Value), FwA (FwO (vw m) (gI m 1175 40) L t.toInt) (s + 1) x' → At (E0 10) mX7_fewest (qi (fun r m' => St wFwst m m' ∧ FwR m wy k d t r)) 99 [.ref 1175, .int wy, .int k, .int d, .long t, .null, .int x', .int (nI s + 1), v8, v9, v10] [] m4 := by
        intro x' v8 v9 v10 hx'
        have z := ih (s + 1) x' v8 v9 v10 (by omega) hx'
        rw [← nI_1] at z
        exact z
      have at132 : (∀ b, x = nI b → b < s → popS s 31 < popS b 31) → ∀ v8 v9 v10 : Value, At (E0 10) mX7_fewest (qi (fun r m' => St wFwst m m' ∧ FwR m wy k d t r)) 132 [.ref 1175, .int wy, .int k, .int d, .long t, .null, .int x, .int (nI s), v8, v9, v10] [] m4 := by
        intro hless v8 v9 v10
        have lp3 : ∀ (d3 i : Nat) (n : Int64), i + d3 = L.length → n.toInt = lfS (vw m) (gI m 1175 40) L (nI s) i → At (E0 10) mX7_fewest (qi (fun r m' => St wFwst m m' ∧ FwR m wy k d t r)) 138 [.ref 1175, .int wy, .int k, .int d, .long t, .null, .int x, .int (nI s), .long n, .null, .int (nI i)] [] m4 := by
          intro d3
          induction d3 with
          | zero =>
            intro i n hi hn
            refine At.ls okFm 60 ⟨_, _, rfl⟩ ?_
            (conv => whnf)
            refine And.intro (fun p => ?_) (fun p => ?_)
            · rw [show i = L.length by omega] at hn
              (conv => whnf)
              refine And.intro (fun p2 => ?_) (fun p2 => ?_)
              · have p2 : 0 < lg_cmp n t := p2
                rw [lgc_gt, hn] at p2
                have no : ¬ FwO (vw m) (gI m 1175 40) L t.toInt s := fun z => by unfold FwO at z; omega
                (conv => whnf)
                refine And.intro rfl (next x _ _ _ ?_)
                rcases hx with ⟨h1, h2⟩ | ⟨b, h1, h2, h3, h4⟩
                · refine Or.inl ⟨h1, fun c hc => ?_⟩
                  by_cases y : c = s
                  · rw [y]; exact no
                  · exact h2 c (by omega)
                · refine Or.inr ⟨b, h1, by omega, h3, fun c hc ho => ?_⟩
                  by_cases y : c = s
                  · rw [y] at ho; exact absurd ho no
                  · exact h4 c (by omega) ho
              · have p2 : ¬ 0 < lg_cmp n t := p2
                rw [lgc_gt, hn] at p2
                have yes : FwO (vw m) (gI m 1175 40) L t.toInt s := by unfold FwO; omega
                (conv => whnf)
                refine And.intro rfl (next (nI s) _ _ _ ?_)
                refine Or.inr ⟨s, rfl, by omega, yes, fun c hc ho => ?_⟩
                by_cases y : c = s
                · rw [y]; exact Or.inr ⟨rfl, Nat.le_refl _⟩
                · rcases hx with ⟨h1, h2⟩ | ⟨b, h1, h2, h3, h4⟩
                  · exact absurd ho (h2 c (by omega))
                  · have := hless b h1 h2
                    have := h4 c (by omega) ho
                    exact Or.inl (by omega)
            · have p : ¬ gI m4 1175 42 ≤ nI i := p
              rw [e42, le_i, nI_toInt (by omega), nI_toInt (by omega)] at p
              omega
          | succ d3 ih3 =>
            intro i n hi hn
            have vi : vp_in (nI i) 200 := vp_in_nI (by omega) (by decide)
            have ic : (nI i).toNatClampNeg = i := nI_clamp (by omega)
            obtain ⟨t1, t2⟩ := hT i (by omega)
            have b1 := hl0 (nI s) i (by omega)
            have b2 := tak_rng (ru := gI m 1175 40) (ck := ckM (vw m) (gI m 1175 40)) hW (rows i (by omega)).2.2 (rows i (by omega)).2.1
            have nxt : ∀ n' : Int64, n'.toInt = lfS (vw m) (gI m 1175 40) L (nI s) (i + 1) → At (E0 10) mX7_fewest (qi (fun r m' => St wFwst m m' ∧ FwR m wy k d t r)) 138 [.ref 1175, .int wy, .int k, .int d, .long t, .null, .int x, .int (nI s), .long n', .null, .int (nI i + 1)] [] m4 := by
              intro n' hn'
              have z := ih3 (i + 1) n' (by omega) hn'
              rw [← nI_1] at z
              exact z
            have eL : lfS (vw m) (gI m 1175 40) L (nI s) (i + 1) = lfS (vw m) (gI m 1175 40) L (nI s) i + (if frmP (vw m) (L.getD i []) (L.getD i []).length &&& nI s = 0 then (takP (vw m) (ckM (vw m) (gI m 1175 40)) (gI m 1175 40) (L.getD i [])).toInt else 0) := rfl
            refine At.ls okFm 80 ⟨_, _, rfl⟩ ?_
            (conv => whnf)
            refine And.intro (fun p => ?_) (fun p => ?_)
            · have p : gI m4 1175 42 ≤ nI i := p
              rw [e42, le_i, nI_toInt (by omega), nI_toInt (by omega)] at p
              omega
            (conv => whnf)
            refine And.intro vi ?_
            (conv => whnf)
            refine And.intro (fun p1 => ?_) (fun p1 => ?_)
            · have p1 : gI m4 820824 (nI i).toNatClampNeg &&& nI s = 0 := p1
              rw [ic, t2] at p1
              rw [if_pos p1] at eL
              (conv => whnf)
              refine And.intro vi ?_
              (conv => whnf)
              refine And.intro rfl (nxt (n + gJ m4 820809 (nI i).toNatClampNeg) ?_)
              rw [ic, lJ_add (by rw [hn, t1]; omega) (by rw [hn, t1]; omega), hn, t1, eL]
            · have p1 : ¬ gI m4 820824 (nI i).toNatClampNeg &&& nI s = 0 := p1
              rw [ic, t2] at p1
              rw [if_neg p1] at eL
              have z0 : (0 : Int64).toInt = 0 := rfl
              (conv => whnf)
              refine And.intro rfl (nxt (n + 0) ?_)
              rw [lJ_add (by rw [hn, z0]; omega) (by rw [hn, z0]; omega), hn, z0, eL]
        refine At.ls okFm 60 ⟨_, _, rfl⟩ ?_
        (conv => whnf)
        exact And.intro rfl (lp3 L.length 0 0 (by omega) rfl)
      refine At.ls okFm 80 ⟨_, _, rfl⟩ ?_
      (conv => whnf)
      refine And.intro (fun p => ?_) (fun p => ?_)
      · have p : (1 : Int32) <<< (gI m4 1175 5 &&& 31) ≤ nI s := p
        rw [lim, le_i, nI_toInt (by omega), nI_toInt (by omega)] at p
        omega
      (conv => whnf)
      refine And.intro (fun p1 => ?_) (fun p1 => ?_)
      · have p1 : x = -1 := p1
        refine And.intro rfl (at132 (fun b hb hbs => ?_) _ _ _)
        rw [p1] at hb
        have := congrArg Int32.toInt hb
        rw [nI_toInt (by omega)] at this
        have e1 : (-1 : Int32).toInt = -1 := rfl
        omega
      have p1 : ¬ x = -1 := p1
      obtain ⟨b, h1, h2, h3, h4⟩ : ∃ b, x = nI b ∧ b < s ∧ FwO (vw m) (gI m 1175 40) L t.toInt b ∧ ∀ c, c < s → FwO (vw m) (gI m 1175 40) L t.toInt c → popS b 31 < popS c 31 ∨ (popS b 31 = popS c 31 ∧ b ≤ c) := by
        rcases hx with ⟨z1, z2⟩ | z
        · exact absurd z1 p1
        · exact z
      have pl1 := popS_le s 31
      have pl2 := popS_le b 31
      have hbx : CI 1 mX7_bits [.int x] m4 (fun r m' => m' = m4 ∧ r = nI (popS b 31)) := by
        rw [h1]
        exact s_bits (by omega)
      (conv => whnf)
      refine ⟨1, by decide, _, s_bits (N := s) (by omega), ?_⟩
      rintro r1 m' ⟨hmm, e1⟩; have hmm := hmm.symm; subst hmm
      subst e1
      (conv => whnf)
      refine ⟨1, by decide, _, hbx, ?_⟩
      rintro r2 m' ⟨hmm, e2⟩; have hmm := hmm.symm; subst hmm
      subst e2
      (conv => whnf)
      refine And.intro (fun p2 => ?_) (fun p2 => ?_)
      · have p2 : nI (popS s 31) < nI (popS b 31) := p2
        rw [lt_i, nI_toInt (by omega), nI_toInt (by omega)] at p2
        refine And.intro rfl (at132 (fun b' hb' hbs => ?_) _ _ _)
        rw [h1] at hb'
        rw [← nI_inj (by omega) (by omega) hb']
        omega
      · have p2 : ¬ nI (popS s 31) < nI (popS b 31) := p2
        rw [lt_i, nI_toInt (by omega), nI_toInt (by omega)] at p2
        (conv => whnf)
        refine And.intro rfl (next x _ _ _ (Or.inr ⟨b, h1, by omega, h3, fun c hc ho => ?_⟩))
        by_cases y : c = s
        · rw [y]
          by_cases u : popS b 31 = popS s 31
          · exact Or.inr ⟨u, by omega⟩
          · exact Or.inl (by omega)
        · exact h4 c (by omega) ho
  have lp : ∀ (dd i : Nat) (m4 : MM), i + dd = L.length → St wFwst m m4 → MdS L m4 → (∀ j, j < i → (gJ m4 820809 j).toInt = (takP (vw m) (ckM (vw m) (gI m 1175 40)) (gI m 1175 40) (L.getD j [])).toInt ∧ gI m4 820824 j = frmP (vw m) (L.getD j []) (L.getD j []).length) → At (E0 10) mX7_fewest (qi (fun r m' => St wFwst m m' ∧ FwR m wy k d t r)) 43 [.ref 1175, .int wy, .int k, .int d, .long t, .null, .int (nI i), .null, .null, .null, .null] [] m4 := by
    intro dd
    induction dd with
    | zero =>
      intro i m4 hi T4 F4 hT
      have e42 : gI m4 1175 42 = nI L.length := Or.elim F4.1 (fun q => q.2.1) (fun q => absurd q.1 (by omega))
      refine At.ls okFm 60 ⟨_, _, rfl⟩ ?_
      (conv => whnf)
      refine And.intro (fun p => ?_) (fun p => ?_)
      · (conv => whnf)
        exact And.intro rfl (fin m4 T4 F4 (fun j hj => hT j (by omega)) (2 ^ (vw m).1 2) 0 (-1) _ _ _ (by omega) (Or.inl ⟨rfl, fun c hc => absurd hc (Nat.not_lt_zero _)⟩))
      · have p : ¬ gI m4 1175 42 ≤ nI i := p
        rw [e42, le_i, nI_toInt (by omega), nI_toInt (by omega)] at p
        omega
    | succ dd ih =>
      intro i m4 hi T4 F4 hT
      have e42 : gI m4 1175 42 = nI L.length := Or.elim F4.1 (fun q => q.2.1) (fun q => absurd q.1 (by omega))
      have hv4 : vw m4 = vw m := vw_fr T4.2.2 (by decide +kernel)
      have r40 : gI m4 1175 40 = gI m 1175 40 := fr1 T4.2.2 (by decide)
      have vi : vp_in (nI i) 200 := vp_in_nI (by omega) (by decide)
      have ic : (nI i).toNatClampNeg = i := nI_clamp (by omega)
      obtain ⟨w1, w2, w3⟩ := rows i (by omega)
      have hRo : RoM m4 i (L.getD i []) := F4.2 i (by omega) (by omega)
      have hct := s_takesOf (m := m4) (i := i) (mb := gI m4 1175 40) (tb := gI m4 1175 40) T4.1 (by rw [hv4]; exact hW) (by omega) hRo (by omega) (by rw [hv4]; exact w3)
      rw [hv4] at hct
      refine At.ls okFm 80 ⟨_, _, rfl⟩ ?_
      (conv => whnf)
      refine And.intro (fun p => ?_) (fun p => ?_)
      · have p : gI m4 1175 42 ≤ nI i := p
        rw [e42, le_i, nI_toInt (by omega), nI_toInt (by omega)] at p
        omega
      (conv => whnf)
      refine ⟨5, by decide, _, hct, ?_⟩
      rintro r1 m' ⟨hmm, e1⟩; have hmm := hmm.symm; subst hmm
      rw [r40] at e1
      (conv => whnf)
      refine And.intro vi ?_
      have SJ : St wFwst m (sJ m4 820809 (nI i).toNatClampNeg r1.toInt64) := T4.rowJ rfl (by decide) (fun q => absurd q (by decide))
      have FJ : Fr [820809] m4 (sJ m4 820809 (nI i).toNatClampNeg r1.toInt64) := Fr_sJ (Fr_rfl _ _) (by rw [wk_row (by decide)]; decide)
      have FJS := F4.fr FJ (by decide)
      have hvJ : vw (sJ m4 820809 (nI i).toNatClampNeg r1.toInt64) = vw m := (vw_fr FJ (by decide +kernel)).trans hv4
      have hcf := s_firmsOf (m := sJ m4 820809 (nI i).toNatClampNeg r1.toInt64) (i := i) (row := L.getD i []) (by omega) (FJS.2 i (by omega) (by omega)) (fun j hj => by have := w3 j hj; omega)
      rw [hvJ] at hcf
      (conv => whnf)
      refine ⟨1, by decide, _, hcf, ?_⟩
      rintro r2 m' ⟨hmm, e2⟩; have hmm := hmm.symm; subst hmm
      (conv => whnf)
      refine And.intro vi ?_
      have SI : St wFwst m (sI (sJ m4 820809 (nI i).toNatClampNeg r1.toInt64) 820824 (nI i).toNatClampNeg r2) := SJ.row (a := 820824) rfl (by decide) (tI_lo _) (tI_hi _)
      have FI : Fr [820824] (sJ m4 820809 (nI i).toNatClampNeg r1.toInt64) (sI (sJ m4 820809 (nI i).toNatClampNeg r1.toInt64) 820824 (nI i).toNatClampNeg r2) := Fr_sI (Fr_rfl _ _) (by rw [wk_row (by decide)]; decide) (fun _ z => by omega)
      have z := ih (i + 1) _ (by omega) SI (FJS.fr FI (by decide)) (fun j hj => by
        rw [gI_if, ic]
        show (gJ (sJ m4 820809 i r1.toInt64) 820809 j).toInt = _ ∧ _
        rw [gJ_sJ]
        by_cases y : j = i
        · rw [if_pos ⟨rfl, y⟩, if_pos ⟨rfl, y⟩, y, Int32.toInt_toInt64, e1, e2]
          exact ⟨rfl, rfl⟩
        · rw [if_neg (fun u => y u.2), if_neg (fun u => y u.2)]
          exact hT j (by omega))
      rw [← nI_1] at z
      (conv => whnf)
      exact And.intro rfl z
  (conv => whnf)
  exact And.intro rfl (lp L.length 0 m2 (by omega) T2w F2 (fun j hj => absurd hj (Nat.not_lt_zero _)))
end Fm
