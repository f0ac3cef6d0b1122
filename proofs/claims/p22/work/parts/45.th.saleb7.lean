/-! the model: the line of a sale, from its beginning -/
section Sb
variable {b : BT} {e : Nat} {t : TK} {m : MM} {B : TB} {f : Int32}
set_option maxRecDepth 100000 in
set_option maxHeartbeats 4000000 in
theorem sa147 {X : ER ((Int × Int × Int × Int × Int) × TK)} {r1 r2 r3 r4 r5 : Int32} {m1 : MM} (hf : f.toInt = ((40 + B.1 3 : Nat) : Int)) (h : SaI m B m1) (hx : Sx b e (tl X) m1) (hN : NR [(329112, r5), (329096, r4), (329080, r3), (329064, r2), (329048, r1)] (40 + B.1 3) m1)
    (hv : ∀ a, X = .inr a → (r1.toInt = a.1.1 ∧ r2.toInt = a.1.2.1 ∧ r3.toInt = a.1.2.2.1 ∧ r4.toInt = a.1.2.2.2.1 ∧ r5.toInt = a.1.2.2.2.2) ∧ (0 ≤ a.1.1 ∧ a.1.1 < B.1 2) ∧ (0 ≤ a.1.2.1 ∧ a.1.2.1 < B.1 2)) : At (E0 6) mX7_sale (SaQ b e m (bd (bd (bd X (sa3f b e B)) (sa4f b e)) (sa5f B))) 147 [.ref 1175, .int f] [] m1 := by
  obtain ⟨hS, hB, hn⟩ := h
  have hvp : vp_in f 80 := vp_in_iff.mpr ⟨by omega, show f.toInt < ((80 : Nat) : Int) by omega⟩
  have e12 : (12 : Int32).toInt = 12 := rfl
  have e400 : (400 : Int32).toInt = 400 := rfl
  refine At.ls okSa 100 ⟨_, _, rfl⟩ ?_
  (conv => whnf)
  refine ⟨5, by decide, _, s_goOn hx, ?_⟩
  rintro m2 ⟨S2, x2⟩
  have T2 := hS.tl S2 (by decide) (by decide)
  have B2 := hB.fr S2.2.2 (by decide)
  have N2 := hN.fr S2.2.2 (by simp only [List.map_cons, List.map_nil]; decide)
  -- going on with no fault of a day
  have go : (∀ a, X = .inr a → sa3f b e B a = .inr (a.1, nx b e a.2)) → At (E0 6) mX7_sale (SaQ b e m (bd (bd (bd X (sa3f b e B)) (sa4f b e)) (sa5f B))) 223 [.ref 1175, .int f] [] m2 := fun h3 => by
    refine sa223 hf ⟨T2, B2, hn⟩ ?_ N2 (fun a ha => ?_)
    · cases X with
      | inl er => exact x2
      | inr a =>
        show Sx b e (tl (sa3f b e B a)) m2
        rw [h3 a rfl]
        exact x2
    · obtain ⟨w, hw, ha⟩ := bd_r ha
      rw [h3 w hw] at ha
      cases ha
      exact (hv w hw).1
  have no3 : ∀ a, ¬ (((nx b e a.2).1 = 2 ∧ 0 ≤ (nx b e a.2).2.2.1 ∧ (nx b e a.2).2.2.1 ≤ 400) ∧ (nx b e a.2).2.2.1 < sinS B a.1.1 a.1.2.1) → sa3f b e B a = .inr (a.1, nx b e a.2) := fun a hz => by
    unfold sa3f
    rw [if_neg hz]
  (conv => whnf)
  refine And.intro (fun q => ?_) (fun q => ?_)
  · have q : ¬ gI m2 1175 35 = 0 := q
    obtain ⟨er, he⟩ := x2.n q
    (conv => whnf)
    exact And.intro rfl (go (fun a ha => by rw [ha] at he; cases he))
  · have q : gI m2 1175 35 = 0 := q
    obtain ⟨tt, he, ht, hq⟩ := x2.z q
    have hX : ∃ a, X = .inr a ∧ tt = nx b e a.2 := by
      cases X with
      | inl er => cases he
      | inr a => cases he; exact ⟨a, rfl, rfl⟩
    obtain ⟨a, hXa, rfl⟩ := hX
    subst hXa
    obtain ⟨⟨y1, y2, y3, y4, y5⟩, f1, f2⟩ := hv a rfl
    have q1 : gI m2 329048 (40 + B.1 3) = r1 := N2 (329048, r1) (by simp)
    have q2 : gI m2 329064 (40 + B.1 3) = r2 := N2 (329064, r2) (by simp)
    have h12 := hB.2.2.2.2.1
    (conv => whnf)
    refine And.intro (fun z => ?_) (fun z => ?_)
    · have z : ¬ gI m2 1175 33 = 2 := z
      (conv => whnf)
      refine And.intro rfl (go (fun a' ha => ?_))
      cases ha
      exact no3 a (fun y => z (ht.s2.mpr y.1.1))
    · have z : gI m2 1175 33 = 2 := z
      have et := ht.s2.mp z
      have hnv := ht.v2 et
      (conv => whnf)
      refine And.intro (fun z2 => ?_) (fun z2 => ?_)
      · have z2 : (400 : Int32) < gI m2 1175 34 := z2
        rw [lt_i, e400] at z2
        (conv => whnf)
        refine And.intro rfl (go (fun a' ha => ?_))
        cases ha
        exact no3 a (fun y => by rcases hnv with w | w <;> omega)
      · have z2 : ¬ (400 : Int32) < gI m2 1175 34 := z2
        rw [lt_i, e400] at z2
        have hval : (gI m2 1175 34).toInt = (nx b e a.2).2.2.1 ∧ 0 ≤ (nx b e a.2).2.2.1 ∧ (nx b e a.2).2.2.1 ≤ 400 := by rcases hnv with w | w <;> omega
        have p1 : ((12 : Int32) + gI m2 329048 f.toNatClampNeg).toInt = ((12 + a.1.1.toNat : Nat) : Int) := by
          rw [nat_c hf, q1, tI_add (by rw [e12, y1]; unfold i32lo; omega) (by rw [e12, y1]; unfold i32hi; omega), e12, y1]; omega
        have p2 : ((12 : Int32) + gI m2 329064 f.toNatClampNeg).toInt = ((12 + a.1.2.1.toNat : Nat) : Int) := by
          rw [nat_c hf, q2, tI_add (by rw [e12, y2]; unfold i32lo; omega) (by rw [e12, y2]; unfold i32hi; omega), e12, y2]; omega
        have w1 : (gI m2 99592 (12 + a.1.1.toNat)).toInt = B.2 5 a.1.1.toNat := B2.2.1 5 (by omega) a.1.1.toNat (by show a.1.1.toNat < B.1 2; omega)
        have w2 : (gI m2 99592 (12 + a.1.2.1.toNat)).toInt = B.2 5 a.1.2.1.toNat := B2.2.1 5 (by omega) a.1.2.1.toNat (by show a.1.2.1.toNat < B.1 2; omega)
        have bad : (nx b e a.2).2.2.1 < sinS B a.1.1 a.1.2.1 → At (E0 6) mX7_sale (SaQ b e m (bd (bd (bd (.inr a) (sa3f b e B)) (sa4f b e)) (sa5f B))) 218 [.ref 1175, .int f] [] m2 := fun hlt => by
          refine At.ls okSa 60 ⟨_, _, rfl⟩ ?_
          (conv => whnf)
          refine ⟨1, by decide, _, s_wrong (n := 5) x2 rfl (by omega), ?_⟩
          rintro m3 ⟨S3, x3⟩
          have e3 : sa3f b e B a = .inl (5, (nx b e a.2).2.1) := by
            unfold sa3f
            rw [if_pos ⟨⟨et, hval.2⟩, hlt⟩]
          (conv => whnf)
          refine And.intro rfl (sa223 hf ⟨T2.tl S3 (by decide) (by decide), B2.fr S3.2.2 (by decide), hn⟩ ?_ (N2.fr S3.2.2 (by simp only [List.map_cons, List.map_nil]; decide)) (fun a' ha => ?_))
          · show Sx b e (tl (sa3f b e B a)) m3
            rw [e3]
            exact x3
          · have ha : sa3f b e B a = .inr a' := ha
            rw [e3] at ha
            cases ha
        (conv => whnf)
        refine And.intro hvp ?_
        (conv => whnf)
        refine And.intro (vp_in_iff.mpr ⟨show 0 ≤ ((12 : Int32) + gI m2 329048 f.toNatClampNeg).toInt by omega, show ((12 : Int32) + gI m2 329048 f.toNatClampNeg).toInt < ((24 : Nat) : Int) by omega⟩) ?_
        (conv => whnf)
        refine And.intro (fun z3 => ?_) (fun z3 => ?_)
        · have z3 : gI m2 1175 34 < gI m2 99592 ((12 : Int32) + gI m2 329048 f.toNatClampNeg).toNatClampNeg := z3
          rw [lt_i, nat_c p1, w1, hval.1] at z3
          (conv => whnf)
          refine And.intro rfl (bad ?_)
          unfold sinS
          split <;> omega
        · have z3 : ¬ gI m2 1175 34 < gI m2 99592 ((12 : Int32) + gI m2 329048 f.toNatClampNeg).toNatClampNeg := z3
          rw [lt_i, nat_c p1, w1, hval.1] at z3
          (conv => whnf)
          refine And.intro hvp ?_
          (conv => whnf)
          refine And.intro (vp_in_iff.mpr ⟨show 0 ≤ ((12 : Int32) + gI m2 329064 f.toNatClampNeg).toInt by omega, show ((12 : Int32) + gI m2 329064 f.toNatClampNeg).toInt < ((24 : Nat) : Int) by omega⟩) ?_
          (conv => whnf)
          refine And.intro (fun z4 => ?_) (fun z4 => ?_)
          · have z4 : gI m2 99592 ((12 : Int32) + gI m2 329064 f.toNatClampNeg).toNatClampNeg ≤ gI m2 1175 34 := z4
            rw [le_i, nat_c p2, w2, hval.1] at z4
            (conv => whnf)
            refine And.intro rfl (go (fun a' ha => ?_))
            cases ha
            refine no3 a (fun y => ?_)
            have y := y.2
            unfold sinS at y
            split at y <;> omega
          · have z4 : ¬ gI m2 99592 ((12 : Int32) + gI m2 329064 f.toNatClampNeg).toNatClampNeg ≤ gI m2 1175 34 := z4
            rw [le_i, nat_c p2, w2, hval.1] at z4
            (conv => whnf)
            refine And.intro rfl (bad ?_)
            unfold sinS
            split <;> omega
set_option maxRecDepth 100000 in
set_option maxHeartbeats 4000000 in
theorem sa71 {X : ER ((Int × Int) × TK)} {r1 r2 : Int32} {m1 : MM} (hf : f.toInt = ((40 + B.1 3 : Nat) : Int)) (h : SaI m B m1) (hx : Sx b e (tl X) m1) (hN : NR [(329064, r2), (329048, r1)] (40 + B.1 3) m1)
    (hv : ∀ a, X = .inr a → (r1.toInt = a.1.1 ∧ r2.toInt = a.1.2) ∧ (0 ≤ a.1.1 ∧ a.1.1 < B.1 2) ∧ (0 ≤ a.1.2 ∧ a.1.2 < B.1 2)) : At (E0 6) mX7_sale (SaQ b e m (bd (bd (bd (bd X (sa2f b e B)) (sa3f b e B)) (sa4f b e)) (sa5f B))) 71 [.ref 1175, .int f] [] m1 := by
  obtain ⟨hS, hB, hn⟩ := h
  obtain ⟨ok1, ok2, ok3, ok4, ok5⟩ := hB.2.2
  have hvp : vp_in f 80 := vp_in_iff.mpr ⟨by omega, show f.toInt < ((80 : Nat) : Int) by omega⟩
  have e1 : (1 : Int32).toInt = 1 := rfl
  have e7 : (7 : Int32).toInt = 7 := rfl
  have e999 : (999 : Int32).toInt = 999 := rfl
  refine At.ls okSa 100 ⟨_, _, rfl⟩ ?_
  (conv => whnf)
  refine ⟨5, by decide, _, s_goOn hx, ?_⟩
  rintro m2 ⟨S2, x2⟩
  (conv => whnf)
  refine ⟨5, by decide, _, s_num x2 (by decide) (by decide) (by decide), ?_⟩
  rintro r3 m3 ⟨S3, x3, v3, l3, u3⟩
  rw [e1] at l3 x3 v3
  rw [e999] at u3 x3 v3
  have B3 := (hB.fr S2.2.2 (by decide)).fr S3.2.2 (by decide)
  have N3 := (hN.fr S2.2.2 (by simp only [List.map_cons, List.map_nil]; decide)).fr S3.2.2 (by simp only [List.map_cons, List.map_nil]; decide)
  have T3 := (hS.tl S2 (by decide) (by decide)).tl S3 (by decide) (by decide)
  (conv => whnf)
  refine And.intro hvp ?_
  rw [nat_c hf]
  have S3w : St [329080] m3 (sI m3 329080 (40 + B.1 3) r3) := (St.rf S3.1).row (a := 329080) (k := 40 + B.1 3) (v := r3) rfl (by decide) (show (0 : Int) ≤ _ by omega) (show _ ≤ (999 : Int) by omega)
  have T3 := T3.tw S3w (by decide) (LoF.st 40 LoF.rf (by omega) (by decide))
  have x3 := x3.fr S3w (by decide)
  have B3 : MoI B (sI m3 329080 (40 + B.1 3) r3) := B3.out (r := 12) (by omega) (Nat.le_refl _)
  have N3 : NR [(329080, r3), (329064, r2), (329048, r1)] (40 + B.1 3) (sI m3 329080 (40 + B.1 3) r3) := N3.add (by simp only [List.map_cons, List.map_nil]; decide)
  revert T3 x3 B3 N3
  generalize sI m3 329080 (40 + B.1 3) r3 = m3'
  intro T3 x3 B3 N3
  (conv => whnf)
  refine ⟨2, by decide, _, s_told_34008 (B := B) x3 (B3.1 1 (by omega)) (by omega) (B3.2.1 2 (by omega)), ?_⟩
  rintro r4 m4 ⟨S4, x4, v4, l4, u4⟩
  have B4 := B3.fr S4.2.2 (by decide)
  have N4 := N3.fr S4.2.2 (by simp only [List.map_cons, List.map_nil]; decide)
  have T4 := T3.tl S4 (by decide) (by decide)
  (conv => whnf)
  refine And.intro hvp ?_
  rw [nat_c hf]
  have S4w : St [329096] m4 (sI m4 329096 (40 + B.1 3) r4) := (St.rf S4.1).row (a := 329096) (k := 40 + B.1 3) (v := r4) rfl (by decide) (tI_lo _) (tI_hi _)
  have T4 := T4.tw S4w (by decide) (LoF.st 40 LoF.rf (by omega) (by decide))
  have x4 := x4.fr S4w (by decide)
  have B4 : MoI B (sI m4 329096 (40 + B.1 3) r4) := B4.out (r := 13) (by omega) (Nat.le_refl _)
  have N4 : NR [(329096, r4), (329080, r3), (329064, r2), (329048, r1)] (40 + B.1 3) (sI m4 329096 (40 + B.1 3) r4) := N4.add (by simp only [List.map_cons, List.map_nil]; decide)
  revert T4 x4 B4 N4
  generalize sI m4 329096 (40 + B.1 3) r4 = m4'
  intro T4 x4 B4 N4
  (conv => whnf)
  refine ⟨5, by decide, _, s_goOn x4, ?_⟩
  rintro m5 ⟨S5, x5⟩
  (conv => whnf)
  refine ⟨5, by decide, _, s_num x5 (by decide) (by decide) (by decide), ?_⟩
  rintro r5 m6 ⟨S6, x6, v6, l6, u6⟩
  rw [e1, e999] at x6 v6
  have B6 := (B4.fr S5.2.2 (by decide)).fr S6.2.2 (by decide)
  have N6 := (N4.fr S5.2.2 (by simp only [List.map_cons, List.map_nil]; decide)).fr S6.2.2 (by simp only [List.map_cons, List.map_nil]; decide)
  have T6 := (T4.tl S5 (by decide) (by decide)).tl S6 (by decide) (by decide)
  (conv => whnf)
  refine And.intro hvp ?_
  rw [nat_c hf]
  have S6w : St [329112] m6 (sI m6 329112 (40 + B.1 3) r5) := (St.rf S6.1).row (a := 329112) (k := 40 + B.1 3) (v := r5) rfl (by decide) (tI_lo _) (tI_hi _)
  have T6 := T6.tw S6w (by decide) (LoF.st 40 LoF.rf (by omega) (by decide))
  have x6 := x6.fr S6w (by decide)
  have B6 : MoI B (sI m6 329112 (40 + B.1 3) r5) := B6.out (r := 14) (by omega) (Nat.le_refl _)
  have N6 : NR [(329112, r5), (329096, r4), (329080, r3), (329064, r2), (329048, r1)] (40 + B.1 3) (sI m6 329112 (40 + B.1 3) r5) := N6.add (by simp only [List.map_cons, List.map_nil]; decide)
  revert T6 x6 B6 N6
  generalize sI m6 329112 (40 + B.1 3) r5 = m7
  intro T7 x7 B7 N7
  -- what stands here
  have sa2e : ∀ (w : (Int × Int) × TK), X = .inr w → ∀ tt, tl (bd (bd (bd (tl (bd (bd (tl X) fun t => .inr (nx b e t)) (numS b e 1 999))) fun t => bd (tolS B 2 t) fun _ => .inr t) fun t => .inr (nx b e t)) (numS b e 1 999)) = .inr tt → ∃ x go y, numS b e 1 999 (nx b e w.2) = .inr x ∧ tolS B 2 x.2 = .inr go ∧ numS b e 1 999 (nx b e x.2) = .inr y ∧ tt = y.2 ∧ r3.toInt = x.1 ∧ r4.toInt = go ∧ r5.toInt = y.1 := by
    intro w hw tt htt
    subst hw
    have v3 : ∀ a, numS b e 1 999 (nx b e w.2) = .inr a → r3.toInt = a.1 := v3
    have v4 : ∀ v, bd (tl (numS b e 1 999 (nx b e w.2))) (tolS B 2) = .inr v → r4.toInt = v := v4
    have v6 : ∀ a, bd (bd (bd (tl (numS b e 1 999 (nx b e w.2))) fun t => bd (tolS B 2 t) fun _ => .inr t) fun t => .inr (nx b e t)) (numS b e 1 999) = .inr a → r5.toInt = a.1 := v6
    have htt : tl (bd (bd (bd (tl (numS b e 1 999 (nx b e w.2))) fun t => bd (tolS B 2 t) fun _ => .inr t) fun t => .inr (nx b e t)) (numS b e 1 999)) = .inr tt := htt
    cases h1 : numS b e 1 999 (nx b e w.2) with
    | inl er => rw [h1] at htt; cases htt
    | inr x =>
      rw [h1] at htt v4 v6
      have htt : tl (bd (bd (bd (tolS B 2 x.2) fun _ => .inr x.2) fun t => .inr (nx b e t)) (numS b e 1 999)) = .inr tt := htt
      have v4 : ∀ v, tolS B 2 x.2 = .inr v → r4.toInt = v := v4
      have v6 : ∀ a, bd (bd (bd (tolS B 2 x.2) fun _ => .inr x.2) fun t => .inr (nx b e t)) (numS b e 1 999) = .inr a → r5.toInt = a.1 := v6
      cases h2 : tolS B 2 x.2 with
      | inl er => rw [h2] at htt; cases htt
      | inr go =>
        rw [h2] at htt v6
        have htt : tl (numS b e 1 999 (nx b e x.2)) = .inr tt := htt
        have v6 : ∀ a, numS b e 1 999 (nx b e x.2) = .inr a → r5.toInt = a.1 := v6
        cases h3 : numS b e 1 999 (nx b e x.2) with
        | inl er => rw [h3] at htt; cases htt
        | inr y =>
          rw [h3] at htt
          cases htt
          exact ⟨x, go, y, rfl, h2, h3, rfl, v3 x h1, v4 go h2, v6 y h3⟩
  have dead : ∀ (m8 : MM) er, SaI m B m8 → NR [(329112, r5), (329096, r4), (329080, r3), (329064, r2), (329048, r1)] (40 + B.1 3) m8 → Sx b e (.inl er) m8 → bd X (sa2f b e B) = .inl er → At (E0 6) mX7_sale (SaQ b e m (bd (bd (bd (bd X (sa2f b e B)) (sa3f b e B)) (sa4f b e)) (sa5f B))) 147 [.ref 1175, .int f] [] m8 := by
    intro m8 er h8 N8 x8 e8
    refine sa147 hf h8 (by rw [e8]; exact x8) N8 (fun a ha => ?_)
    rw [e8] at ha
    cases ha
  (conv => whnf)
  refine And.intro (fun q => ?_) (fun q => ?_)
  · have q : ¬ gI m7 1175 35 = 0 := q
    obtain ⟨er, he⟩ := x7.n q
    rw [he] at x7
    (conv => whnf)
    refine And.intro rfl (dead m7 er ⟨T7, B7, hn⟩ N7 x7 ?_)
    cases X with
    | inl er' => cases he; rfl
    | inr w =>
      have he : tl (bd (bd (bd (tl (numS b e 1 999 (nx b e w.2))) fun t => bd (tolS B 2 t) fun _ => .inr t) fun t => .inr (nx b e t)) (numS b e 1 999)) = .inl er := he
      show sa2f b e B w = .inl er
      unfold sa2f
      cases h1 : numS b e 1 999 (nx b e w.2) with
      | inl er' => rw [h1] at he; cases he; rfl
      | inr x =>
        rw [h1] at he
        have he : tl (bd (bd (bd (tolS B 2 x.2) fun _ => .inr x.2) fun t => .inr (nx b e t)) (numS b e 1 999)) = .inl er := he
        show bd (tolS B 2 x.2) _ = _
        cases h2 : tolS B 2 x.2 with
        | inl er' => rw [h2] at he; cases he; rfl
        | inr go =>
          rw [h2] at he
          have he : tl (numS b e 1 999 (nx b e x.2)) = .inl er := he
          show bd (numS b e 1 999 (nx b e x.2)) _ = _
          cases h3 : numS b e 1 999 (nx b e x.2) with
          | inl er' => rw [h3] at he; cases he; rfl
          | inr y => rw [h3] at he; cases he
  · have q : gI m7 1175 35 = 0 := q
    obtain ⟨tt, he, ht, hq⟩ := x7.z q
    have hX : ∃ w, X = .inr w := by
      cases X with
      | inl er => cases he
      | inr w => exact ⟨w, rfl⟩
    obtain ⟨w, hw⟩ := hX
    obtain ⟨x, go, y, h1, h2, h3, htt, z3, z4, z5⟩ := sa2e w hw tt he
    subst htt
    rw [he] at x7
    have e2 : bd X (sa2f b e B) = if y.2.1 = 1 ∧ lg y.2.2.2.1 = 7 then .inr ((w.1.1, w.1.2, x.1, go, y.1), y.2) else .inl (1, y.2.2.1) := by
      rw [hw]
      show sa2f b e B w = _
      unfold sa2f
      rw [h1]
      show bd (tolS B 2 x.2) _ = _
      rw [h2]
      show bd (numS b e 1 999 (nx b e x.2)) _ = _
      rw [h3]
      rfl
    (conv => whnf)
    refine ⟨1, by decide, _, s_isWord x7 (by decide), ?_⟩
    rintro r m' ⟨hmm, hr⟩; have hmm := hmm.symm; subst hmm
    rw [e7] at hr
    (conv => whnf)
    refine And.intro (fun q2 => ?_) (fun q2 => ?_)
    · have hd : y.2.1 = 1 ∧ lg y.2.2.2.1 = 7 := by
        rcases hr with ⟨⟨t', y1, y2, y3⟩, _⟩ | z
        · cases y1; exact ⟨y2, y3⟩
        · exact absurd z.2 q2
      rw [if_pos hd] at e2
      (conv => whnf)
      refine And.intro rfl (sa147 hf ⟨T7, B7, hn⟩ (by rw [e2]; exact x7) N7 (fun a ha => ?_))
      rw [e2] at ha
      cases ha
      obtain ⟨⟨g1, g2⟩, g3, g4⟩ := hv w hw
      exact ⟨⟨g1, g2, z3, z4, z5⟩, g3, g4⟩
    · have hd : ¬ (y.2.1 = 1 ∧ lg y.2.2.2.1 = 7) := fun z => by
        rcases hr with ⟨_, z'⟩ | z'
        · rw [z'] at q2; exact absurd q2 (by decide)
        · exact z'.1 ⟨y.2, rfl, z.1, z.2⟩
      rw [if_neg hd] at e2
      (conv => whnf)
      refine ⟨1, by decide, _, s_wrong (n := 1) x7 rfl (by omega), ?_⟩
      rintro m8 ⟨S8, x8⟩
      (conv => whnf)
      exact And.intro rfl (dead m8 _ ⟨T7.tl S8 (by decide) (by decide), B7.fr S8.2.2 (by decide), hn⟩ (N7.fr S8.2.2 (by simp only [List.map_cons, List.map_nil]; decide)) x8 e2)
theorem tolS_lt {r : Nat} {v : Int} (h : tolS B r t = .inr v) : 0 ≤ v ∧ v < B.1 (own r) := by
  have z := tolS_in h
  have hi := (fIx_in (f := B.2 r) (v := t.2.2.1) (B.1 (own r)) 0).resolve_left (by rw [← z.2.2.1]; exact z.2.2.2)
  rw [← z.2.2.1] at hi
  omega
set_option maxRecDepth 100000 in
set_option maxHeartbeats 4000000 in
theorem s_sale (h : Sx b e (.inr t) m) (hB : MoI B m) (hf : f.toInt = ((40 + B.1 3 : Nat) : Int)) (hn : B.1 3 < 30) : CV 6 mX7_sale [.ref 1175, .int f] m (fun m' => SM wMo m m' ∧ Sx b e (tl (saleT b e B t)) m' ∧ ∀ a, saleT b e B t = .inr a → MoI a.1 m') := by
  show At (E0 6) mX7_sale (SaQ b e m (saleT b e B t)) 0 _ [] m
  rw [saleT_5]
  have hvp : vp_in f 80 := vp_in_iff.mpr ⟨by omega, show f.toInt < ((80 : Nat) : Int) by omega⟩
  obtain ⟨ok1, ok2, ok3, ok4, ok5⟩ := hB.2.2
  refine At.gs okSa 100 ?_
  (conv => whnf)
  refine ⟨2, by decide, _, s_told_99560 (B := B) h (hB.1 2 (by omega)) (by omega) (hB.2.1 3 (by omega)), ?_⟩
  rintro r1 m1 ⟨S1, x1, v1, l1, u1⟩
  have B1 := hB.fr S1.2.2 (by decide)
  (conv => whnf)
  refine And.intro hvp ?_
  rw [nat_c hf]
  have S1w : St [329048] m1 (sI m1 329048 (40 + B.1 3) r1) := (St.rf S1.1).row (a := 329048) (k := 40 + B.1 3) (v := r1) rfl (by decide) (show (0 : Int) ≤ _ by omega) (show _ ≤ (11 : Int) by omega)
  have T1 : SM wMo m (sI m1 329048 (40 + B.1 3) r1) := SM.tw (W := wMo) ⟨⟨S1.1, S1.2.1, Fr_tr (Fr_rfl _ _) S1.2.2 (by decide)⟩, LoF.fr S1.2.2 (by decide)⟩ S1w (by decide) (LoF.st 40 LoF.rf (by omega) (by decide))
  have x1 := x1.fr S1w (by decide)
  have B1 : MoI B (sI m1 329048 (40 + B.1 3) r1) := B1.out (r := 10) (by omega) (Nat.le_refl _)
  have N1 : NR [(329048, r1)] (40 + B.1 3) (sI m1 329048 (40 + B.1 3) r1) := NR.add (L := []) (fun q hq => by cases hq) rfl
  revert T1 x1 B1 N1
  generalize sI m1 329048 (40 + B.1 3) r1 = m1'
  intro T1 x1 B1 N1
  (conv => whnf)
  refine ⟨5, by decide, _, s_goOn x1, ?_⟩
  rintro m2 ⟨S2, x2⟩
  have B2 := B1.fr S2.2.2 (by decide)
  (conv => whnf)
  refine ⟨2, by decide, _, s_told_99560 (B := B) x2 (B2.1 2 (by omega)) (by omega) (B2.2.1 3 (by omega)), ?_⟩
  rintro r2 m3 ⟨S3, x3, v3, l3, u3⟩
  have B3 := B2.fr S3.2.2 (by decide)
  have N3 := (N1.fr S2.2.2 (by simp only [List.map_cons, List.map_nil]; decide)).fr S3.2.2 (by simp only [List.map_cons, List.map_nil]; decide)
  have T3 := (T1.tl S2 (by decide) (by decide)).tl S3 (by decide) (by decide)
  (conv => whnf)
  refine And.intro hvp ?_
  rw [nat_c hf]
  have S3w : St [329064] m3 (sI m3 329064 (40 + B.1 3) r2) := (St.rf S3.1).row (a := 329064) (k := 40 + B.1 3) (v := r2) rfl (by decide) (show (0 : Int) ≤ _ by omega) (show _ ≤ (11 : Int) by omega)
  have T3 := T3.tw S3w (by decide) (LoF.st 40 LoF.rf (by omega) (by decide))
  have x3 := x3.fr S3w (by decide)
  have B3 : MoI B (sI m3 329064 (40 + B.1 3) r2) := B3.out (r := 11) (by omega) (Nat.le_refl _)
  have N3 : NR [(329064, r2), (329048, r1)] (40 + B.1 3) (sI m3 329064 (40 + B.1 3) r2) := N3.add (by simp only [List.map_cons, List.map_nil]; decide)
  revert T3 x3 B3 N3
  generalize sI m3 329064 (40 + B.1 3) r2 = m4
  intro T4 x4 B4 N4
  have v1 : ∀ v, tolS B 3 t = .inr v → r1.toInt = v := v1
  have q1 : gI m4 329048 (40 + B.1 3) = r1 := N4 (329048, r1) (by simp)
  have q2 : gI m4 329064 (40 + B.1 3) = r2 := N4 (329064, r2) (by simp)
  have x4 : Sx b e (bd (bd (bd (tolS B 3 t) fun _ => .inr t) fun t => .inr (nx b e t)) fun t => bd (tolS B 3 t) fun _ => .inr t) m4 := x4
  have v3 : ∀ v, bd (bd (bd (tolS B 3 t) fun _ => .inr t) fun t => .inr (nx b e t)) (tolS B 3) = .inr v → r2.toInt = v := v3
  have dead : ∀ m5 er, SaI m B m5 → NR [(329064, r2), (329048, r1)] (40 + B.1 3) m5 → Sx b e (.inl er) m5 → sa1 b e B t = .inl er → At (E0 6) mX7_sale (SaQ b e m (bd (bd (bd (bd (sa1 b e B t) (sa2f b e B)) (sa3f b e B)) (sa4f b e)) (sa5f B))) 71 [.ref 1175, .int f] [] m5 := fun m5 er h5 N5 x5 e5 => sa71 hf h5 (by rw [e5]; exact x5) N5 (fun a ha => by rw [e5] at ha; cases ha)
  (conv => whnf)
  refine And.intro (fun q => ?_) (fun q => ?_)
  · have q : ¬ gI m4 1175 35 = 0 := q
    obtain ⟨er, he⟩ := x4.n q
    rw [he] at x4
    (conv => whnf)
    refine And.intro rfl (dead m4 er ⟨T4, B4, hn⟩ N4 x4 ?_)
    unfold sa1
    cases h1 : tolS B 3 t with
    | inl er' => rw [h1] at he; cases he; rfl
    | inr fr =>
      rw [h1] at he
      have he : bd (tolS B 3 (nx b e t)) (fun _ => (.inr (nx b e t) : ER TK)) = .inl er := he
      show bd (tolS B 3 (nx b e t)) _ = _
      cases h2 : tolS B 3 (nx b e t) with
      | inl er' => rw [h2] at he; cases he; rfl
      | inr to => rw [h2] at he; cases he
  · have q : gI m4 1175 35 = 0 := q
    obtain ⟨tt, he, ht, hq⟩ := x4.z q
    cases h1 : tolS B 3 t with
    | inl er => rw [h1] at he; cases he
    | inr fr =>
      have g1 := v1 fr h1
      rw [h1] at he v3
      have he : bd (tolS B 3 (nx b e t)) (fun _ => (.inr (nx b e t) : ER TK)) = .inr tt := he
      have v3 : ∀ v, tolS B 3 (nx b e t) = .inr v → r2.toInt = v := v3
      cases h2 : tolS B 3 (nx b e t) with
      | inl er => rw [h2] at he; cases he
      | inr to =>
        have g2 := v3 to h2
        rw [h2] at he
        cases he
        have x4 : Sx b e (.inr (nx b e t)) m4 := by
          rw [h1] at x4
          have x4 : Sx b e (bd (tolS B 3 (nx b e t)) fun _ => .inr (nx b e t)) m4 := x4
          rw [h2] at x4
          exact x4
        have e1 : sa1 b e B t = if to = fr then .inl (3, (nx b e t).2.1) else .inr ((fr, to), nx b e t) := by
          unfold sa1
          rw [h1]
          show bd (tolS B 3 (nx b e t)) _ = _
          rw [h2]
          rfl
        (conv => whnf)
        refine And.intro hvp ?_
        (conv => whnf)
        refine And.intro hvp ?_
        (conv => whnf)
        refine And.intro (fun z => ?_) (fun z => ?_)
        · have z : ¬ gI m4 329064 f.toNatClampNeg = gI m4 329048 f.toNatClampNeg := z
          rw [nat_c hf, q1, q2] at z
          rw [if_neg (fun y => z (Int32.toInt_inj.mp (by rw [g1, g2, y])))] at e1
          (conv => whnf)
          refine And.intro rfl (sa71 hf ⟨T4, B4, hn⟩ (by rw [e1]; exact x4) N4 (fun a ha => ?_))
          rw [e1] at ha
          cases ha
          exact ⟨⟨g1, g2⟩, tolS_lt h1, tolS_lt h2⟩
        · have z : gI m4 329064 f.toNatClampNeg = gI m4 329048 f.toNatClampNeg := z
          rw [nat_c hf, q1, q2] at z
          rw [if_pos (by rw [← g1, ← g2, z])] at e1
          (conv => whnf)
          refine ⟨1, by decide, _, s_wrong (n := 3) x4 rfl (by omega), ?_⟩
          rintro m5 ⟨S5, x5⟩
          (conv => whnf)
          exact And.intro rfl (dead m5 _ ⟨T4.tl S5 (by decide) (by decide), B4.fr S5.2.2 (by decide), hn⟩ (N4.fr S5.2.2 (by simp only [List.map_cons, List.map_nil]; decide)) x5 e1)
end Sb
