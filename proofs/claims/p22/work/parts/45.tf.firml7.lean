/-! the model: the line of a firm, of a sum paid -/
/-- values at a place of some rows -/
def NR (L : List (Nat × Int32)) (i : Nat) (m : MM) : Prop := ∀ q ∈ L, gI m q.1 i = q.2
theorem NR.fr {L : List (Nat × Int32)} {i : Nat} {W : List Nat} {m m' : MM} (h : NR L i m) (hF : Fr W m m') (hW : (L.map (fun q => q.1)).all (fun a => Nat.ble 8 (a % 16) && !(elm a W)) = true) : NR L i m' := fun q hq => by
  have := List.all_eq_true.mp hW q.1 (List.mem_map.mpr ⟨q, hq, rfl⟩)
  rw [Bool.and_eq_true] at this
  rw [row1 hF this.1 (by cases hz : elm q.1 W with
    | false => rfl
    | true => rw [hz] at this; cases this.2)]
  exact h q hq
theorem NR.add {L : List (Nat × Int32)} {i a : Nat} {v : Int32} {m : MM} (h : NR L i m) (ha : (L.map (fun q => q.1)).all (fun c => !(Nat.beq c a)) = true) : NR ((a, v) :: L) i (sI m a i v) := fun q hq => by
  rcases List.mem_cons.mp hq with rfl | hq
  · rw [gI_if, if_pos ⟨rfl, rfl⟩]
  · have := List.all_eq_true.mp ha q.1 (List.mem_map.mpr ⟨q, hq, rfl⟩)
    rw [gI_if, if_neg (fun z => by rw [z.1, Nat.beq_refl] at this; cases this)]
    exact h q hq
theorem MoI.out {B : TB} {m : MM} {r i : Nat} {v : Int32} (h : MoI B m) (hr : r < 17) (hi : B.1 (own r) ≤ i) : MoI B (sI m (rowM r) (offM r + i) v) := by
  refine ⟨fun k hk => ?_, fun r' hr' i' hi' => ?_, h.2.2⟩
  · rw [gI_if, if_neg (fun z => by
      have := rowM_8 r hr
      rw [← z.1] at this
      cases this)]
    exact h.1 k hk
  · rw [gI_if, if_neg (fun z => by
      have z1 := rowM_ne r' hr' r hr z.1
      subst z1
      have := z.2
      omega)]
    exact h.2.1 r' hr' i' hi'
section Fm7
variable {b : BT} {e : Nat} {t : TK} {m : MM} {B : TB} {f : Int32}
set_option maxRecDepth 100000 in
set_option maxHeartbeats 8000000 in
theorem s_firm (h : Sx b e (.inr t) m) (hB : MoI B m) (hf : f.toInt = ((12 + B.1 2 : Nat) : Int)) (hn : B.1 2 < 12) : CV 6 mX7_firmLine [.ref 1175, .int f] m (fun m' => SM wMo m m' ∧ Sx b e (tl (firmT b e B t)) m' ∧ ∀ a, firmT b e B t = .inr a → MoI a.1 m') := by
  have hv : vp_in f 24 := vp_in_iff.mpr ⟨by omega, show f.toInt < ((24 : Nat) : Int) by omega⟩
  obtain ⟨ok1, ok2, ok3, ok4, ok5⟩ := hB.2.2
  generalize hY : (bd (newS b e B 3 t) fun x => bd (tolS B 0 x.2) fun l => bd (numS b e 0 400 (nx b e x.2)) fun y => tieN b e (B.1 2) 3 (firmR B x.1 l y.1, y.2)) = Y
  have eY : firmT b e B t = bd Y fun w => .inr ((setN B.1 2 (B.1 2 + 1), w.1), w.2) := by
    rw [← hY]
    unfold firmT
    cases newS b e B 3 t with
    | inl er => rfl
    | inr x =>
      show bd (tolS B 0 x.2) _ = bd (bd (tolS B 0 x.2) _) _
      cases tolS B 0 x.2 with
      | inl er => rfl
      | inr l =>
        show bd (numS b e 0 400 (nx b e x.2)) _ = bd (bd (numS b e 0 400 (nx b e x.2)) _) _
        cases numS b e 0 400 (nx b e x.2) with
        | inl er => rfl
        | inr y => rfl
  refine At.mono (P := FiQ b e m B Y) ?_ (fun r m' q => ?_)
  · refine At.gs okFi 100 ?_
    (conv => whnf)
    refine ⟨5, by decide, _, s_fresh_99560 (B := B) h (hB.1 2 (by omega)) (by omega) (hB.2.1 3 (by omega)), ?_⟩
    rintro r1 m1 ⟨S1, x1, v1⟩
    have B1 := hB.fr S1.2.2 (by decide)
    (conv => whnf)
    refine And.intro hv ?_
    rw [nat_c hf]
    have S1w : St [99560] m1 (sI m1 99560 (12 + B.1 2) r1) := (St.rf S1.1).row (a := 99560) rfl (by decide) (tI_lo _) (tI_hi _)
    have T1 : SM wMo m (sI m1 99560 (12 + B.1 2) r1) := SM.tw (W := wMo) ⟨⟨S1.1, S1.2.1, Fr_tr (Fr_rfl _ _) S1.2.2 (by decide)⟩, LoF.fr S1.2.2 (by decide)⟩ S1w (by decide) (LoF.st 12 LoF.rf (by omega) (by decide))
    have x1 := x1.fr S1w (by decide)
    have B1 : MoI B (sI m1 99560 (12 + B.1 2) r1) := B1.out (r := 3) (by omega) (Nat.le_refl _)
    have N1 : NR [(99560, r1)] (12 + B.1 2) (sI m1 99560 (12 + B.1 2) r1) := NR.add (L := []) (fun q hq => by cases hq) rfl
    revert T1 x1 B1 N1
    generalize sI m1 99560 (12 + B.1 2) r1 = m1'
    intro T1 x1 B1 N1
    (conv => whnf)
    refine ⟨2, by decide, _, s_told_42168 (B := B) x1 (B1.1 0 (by omega)) (by omega) (B1.2.1 0 (by omega)), ?_⟩
    rintro r2 m2 ⟨S2, x2, v2, l2, u2⟩
    have B2 := B1.fr S2.2.2 (by decide)
    have N2 := N1.fr S2.2.2 (by simp only [List.map_cons, List.map_nil]; decide)
    (conv => whnf)
    refine And.intro hv ?_
    rw [nat_c hf]
    have S2w : St [99576] m2 (sI m2 99576 (12 + B.1 2) r2) := (St.rf S2.1).row (a := 99576) rfl (by decide) (show (0 : Int) ≤ _ by omega) (show _ ≤ (4 : Int) by omega)
    have T2 : SM wMo m (sI m2 99576 (12 + B.1 2) r2) := (T1.tl S2 (by decide) (by decide)).tw S2w (by decide) (LoF.st 12 LoF.rf (by omega) (by decide))
    have x2 := x2.fr S2w (by decide)
    have B2 : MoI B (sI m2 99576 (12 + B.1 2) r2) := B2.out (r := 4) (by omega) (Nat.le_refl _)
    have N2 : NR [(99576, r2), (99560, r1)] (12 + B.1 2) (sI m2 99576 (12 + B.1 2) r2) := N2.add (by simp only [List.map_cons, List.map_nil]; decide)
    revert T2 x2 B2 N2
    generalize sI m2 99576 (12 + B.1 2) r2 = m2'
    intro T2 x2 B2 N2
    (conv => whnf)
    refine ⟨5, by decide, _, s_goOn x2, ?_⟩
    rintro m3 ⟨S3, x3⟩
    (conv => whnf)
    refine ⟨5, by decide, _, s_num x3 (by decide) (by decide) (by decide), ?_⟩
    rintro r4 m4 ⟨S4, x4, v4, l4, u4⟩
    have B4 := (B2.fr S3.2.2 (by decide)).fr S4.2.2 (by decide)
    have N4 := (N2.fr S3.2.2 (by simp only [List.map_cons, List.map_nil]; decide)).fr S4.2.2 (by simp only [List.map_cons, List.map_nil]; decide)
    have T4 := (T2.tl S3 (by decide) (by decide)).tl S4 (by decide) (by decide)
    (conv => whnf)
    refine And.intro hv ?_
    (conv => whnf)
    refine And.intro hv ?_
    (conv => whnf)
    refine And.intro hv ?_
    (conv => whnf)
    refine And.intro hv ?_
    (conv => whnf)
    refine And.intro hv ?_
    (conv => whnf)
    rw [nat_c hf]
    have S5 : St [99592, 99608, 99624, 99640, 99659] m4 (sI (sI (sI (sI (sI m4 99592 (12 + B.1 2) r4) 99608 (12 + B.1 2) 0) 99624 (12 + B.1 2) 0) 99640 (12 + B.1 2) 0) 99659 (12 + B.1 2) 0) :=
      (((((St.rf S4.1).row (a := 99592) (k := 12 + B.1 2) (v := r4) rfl (by decide) (tI_lo _) (tI_hi _)).row (a := 99608) (k := 12 + B.1 2) (v := 0) rfl (by decide) (by decide) (by decide)).row (a := 99624) (k := 12 + B.1 2) (v := 0) rfl (by decide) (by decide) (by decide)).row (a := 99640) (k := 12 + B.1 2) (v := 0) rfl (by decide) (by decide) (by decide)).row (a := 99659) (k := 12 + B.1 2) (v := 0) rfl (by decide) (by decide) (by decide)
    have x5 := x4.fr S5 (by decide)
    have T5 := T4.tw S5 (by decide) (LoF.st 12 (LoF.st 12 (LoF.st 12 (LoF.st 12 (LoF.st 12 LoF.rf (by omega) (by decide)) (by omega) (by decide)) (by omega) (by decide)) (by omega) (by decide)) (by omega) (by decide))
    have B5 : MoI B (sI (sI (sI (sI (sI m4 99592 (12 + B.1 2) r4) 99608 (12 + B.1 2) 0) 99624 (12 + B.1 2) 0) 99640 (12 + B.1 2) 0) 99659 (12 + B.1 2) 0) := ((((B4.out (r := 5) (by omega) (Nat.le_refl _)).out (r := 6) (by omega) (Nat.le_refl _)).out (r := 7) (by omega) (Nat.le_refl _)).out (r := 8) (by omega) (Nat.le_refl _)).out (r := 9) (by omega) (Nat.le_refl _)
    have N5 : NR [(99659, 0), (99640, 0), (99624, 0), (99608, 0), (99592, r4), (99576, r2), (99560, r1)] (12 + B.1 2) (sI (sI (sI (sI (sI m4 99592 (12 + B.1 2) r4) 99608 (12 + B.1 2) 0) 99624 (12 + B.1 2) 0) 99640 (12 + B.1 2) 0) 99659 (12 + B.1 2) 0) := ((((N4.add (by simp only [List.map_cons, List.map_nil]; decide)).add (by simp only [List.map_cons, List.map_nil]; decide)).add (by simp only [List.map_cons, List.map_nil]; decide)).add (by simp only [List.map_cons, List.map_nil]; decide)).add (by simp only [List.map_cons, List.map_nil]; decide)
    refine And.intro rfl ?_
    show At (E0 6) mX7_firmLine (FiQ b e m B Y) 85 [.ref 1175, .int f, .null, .null] [] (sI (sI (sI (sI (sI m4 99592 (12 + B.1 2) r4) 99608 (12 + B.1 2) 0) 99624 (12 + B.1 2) 0) 99640 (12 + B.1 2) 0) 99659 (12 + B.1 2) 0)
    revert x5 T5 B5 N5
    generalize sI (sI (sI (sI (sI m4 99592 (12 + B.1 2) r4) 99608 (12 + B.1 2) 0) 99624 (12 + B.1 2) 0) 99640 (12 + B.1 2) 0) 99659 (12 + B.1 2) 0 = m5
    intro x5 T5 B5 N5
    have c27 : 0 ≤ (gI m5 1175 27).toInt ∧ (gI m5 1175 27).toInt < 12 := by have : (gI m5 1175 27).toInt = B.1 2 := B5.1 2 (by omega); omega
    have v1 : ∀ v, newS b e B 3 t = .inr v → r1.toInt = v.1 := v1
    cases h1 : newS b e B 3 t with
    | inl er =>
      have x5 : Sx b e (tl (bd (bd (bd (tl (newS b e B 3 t)) fun t => bd (tolS B 0 t) fun _ => .inr t) fun t => .inr (nx b e t)) (numS b e 0 400))) m5 := x5
      rw [h1] at hY x5
      exact fiDead hY.symm T5 x5 c27
    | inr x =>
      have x5 : Sx b e (tl (bd (bd (bd (tl (newS b e B 3 t)) fun t => bd (tolS B 0 t) fun _ => .inr t) fun t => .inr (nx b e t)) (numS b e 0 400))) m5 := x5
      have v2 : ∀ v, bd (tl (newS b e B 3 t)) (tolS B 0) = .inr v → r2.toInt = v := v2
      have v4 : ∀ a, bd (bd (bd (tl (newS b e B 3 t)) fun t => bd (tolS B 0 t) fun _ => .inr t) fun t => .inr (nx b e t)) (numS b e 0 400) = .inr a → r4.toInt = a.1 := v4
      have e1 := v1 x h1
      rw [h1] at hY x5 v2 v4
      have hY : bd (tolS B 0 x.2) (fun l => bd (numS b e 0 400 (nx b e x.2)) fun y => tieN b e (B.1 2) 3 (firmR B x.1 l y.1, y.2)) = Y := hY
      have x5 : Sx b e (tl (bd (bd (bd (tolS B 0 x.2) fun _ => .inr x.2) fun t => .inr (nx b e t)) (numS b e 0 400))) m5 := x5
      have v2 : ∀ v, tolS B 0 x.2 = .inr v → r2.toInt = v := v2
      have v4 : ∀ a, bd (bd (bd (tolS B 0 x.2) fun _ => .inr x.2) fun t => .inr (nx b e t)) (numS b e 0 400) = .inr a → r4.toInt = a.1 := v4
      cases h2 : tolS B 0 x.2 with
      | inl er =>
        rw [h2] at hY x5
        exact fiDead hY.symm T5 x5 c27
      | inr l =>
        have e2 := v2 l h2
        rw [h2] at hY x5 v4
        have hY : bd (numS b e 0 400 (nx b e x.2)) (fun y => tieN b e (B.1 2) 3 (firmR B x.1 l y.1, y.2)) = Y := hY
        have x5 : Sx b e (tl (numS b e 0 400 (nx b e x.2))) m5 := x5
        have v4 : ∀ a, numS b e 0 400 (nx b e x.2) = .inr a → r4.toInt = a.1 := v4
        cases h3 : numS b e 0 400 (nx b e x.2) with
        | inl er =>
          rw [h3] at hY x5
          exact fiDead hY.symm T5 x5 c27
        | inr y =>
          have e3 := v4 y h3
          rw [h3] at hY x5
          have hY : tieN b e (B.1 2) 3 (firmR B x.1 l y.1, y.2) = Y := hY
          rw [← hY]
          have q3 : gI m5 99560 (12 + B.1 2) = r1 := N5 (99560, r1) (by simp)
          have q4 : gI m5 99576 (12 + B.1 2) = r2 := N5 (99576, r2) (by simp)
          have q5 : gI m5 99592 (12 + B.1 2) = r4 := N5 (99592, r4) (by simp)
          have q6 : gI m5 99608 (12 + B.1 2) = 0 := N5 (99608, 0) (by simp)
          have q7 : gI m5 99624 (12 + B.1 2) = 0 := N5 (99624, 0) (by simp)
          have q8 : gI m5 99640 (12 + B.1 2) = 0 := N5 (99640, 0) (by simp)
          have q9 : gI m5 99659 (12 + B.1 2) = 0 := N5 (99659, 0) (by simp)
          have lgx : lg x.1 = -1 := by
            unfold newS at h1
            split at h1
            · rename_i q
              split at h1
              · cases h1; exact q.2
              · cases h1
            · cases h1
          refine fiLoop hf hn 3 (firmR B x.1 l y.1) y.2 _ _ m5 (by omega) trivial T5 x5 ⟨⟨fun r hr i hi => ?_, B5.2.2.1, B5.2.2.2.1, B5.2.2.2.2.1, B5.2.2.2.2.2.1, fun i hi => ?_⟩, fun r hr ho => ?_, B5.1⟩ ?_
          · have hi : i < B.1 (own r) := hi
            have hne : ∀ r', own r' = 2 → ¬ (r = r' ∧ i = B.1 2) := fun r' ho z => by rw [z.1, ho] at hi; omega
            show _ = firmR B x.1 l y.1 r i
            unfold firmR setR
            rw [if_neg (hne 9 rfl), if_neg (hne 8 rfl), if_neg (hne 7 rfl), if_neg (hne 6 rfl), if_neg (hne 5 rfl), if_neg (hne 4 rfl), if_neg (hne 3 rfl)]
            exact B5.2.1 r hr i hi
          · have hi : i < B.1 2 := hi
            have : firmR B x.1 l y.1 3 i = B.2 3 i := by
              unfold firmR setR
              simp
              intro z
              omega
            show lg (firmR B x.1 l y.1 3 i) = -1
            rw [this]
            exact B5.2.2.2.2.2.2 i hi
          · rcases (by unfold own at ho; split at ho <;> (try split at ho) <;> (try split at ho) <;> omega : r = 3 ∨ r = 4 ∨ r = 5 ∨ r = 6 ∨ r = 7 ∨ r = 8 ∨ r = 9) with rfl | rfl | rfl | rfl | rfl | rfl | rfl
            · show (gI m5 99560 (12 + B.1 2)).toInt = _
              rw [q3, e1]; simp [firmR, setR]
            · show (gI m5 99576 (12 + B.1 2)).toInt = _
              rw [q4, e2]; simp [firmR, setR]
            · show (gI m5 99592 (12 + B.1 2)).toInt = _
              rw [q5, e3]; simp [firmR, setR]
            · show (gI m5 99608 (12 + B.1 2)).toInt = _
              rw [q6]; simp [firmR, setR]
            · show (gI m5 99624 (12 + B.1 2)).toInt = _
              rw [q7]; simp [firmR, setR]
            · show (gI m5 99640 (12 + B.1 2)).toInt = _
              rw [q8]; simp [firmR, setR]
            · show (gI m5 99659 (12 + B.1 2)).toInt = _
              rw [q9]; simp [firmR, setR]
          · have : firmR B x.1 l y.1 3 (B.1 2) = x.1 := by simp [firmR, setR]
            rw [this]
            exact lgx
  · unfold FiQ qv at q
    unfold qv
    split at q
    · obtain ⟨q1, q2, q3⟩ := q
      refine ⟨q1, ?_, fun a ha => ?_⟩
      · rw [eY]
        cases Y with
        | inl er => exact q2
        | inr w => exact q2
      · rw [eY] at ha
        cases Y with
        | inl er => cases ha
        | inr w =>
          cases ha
          exact q3 w rfl
    · exact q.elim
end Fm7
