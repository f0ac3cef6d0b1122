/-! the model: a line, from its word on -/
section Lj
variable {b : BT} {e ln : Nat} {t : TK} {m : MM} {B : TB}
set_option maxRecDepth 100000 in
theorem li79 {v : Value} {Y : ER (TB × TK)} (h : LiI m ln m) (hx : Sx b e (.inr t) m) (hY : Y = .inl (2, t.2.1)) : At (E0 7) mX7_line (LiQ b e m ln Y) 79 [.ref 1175, v] [] m := by
  subst hY
  refine At.ls okLi 60 ⟨_, _, rfl⟩ ?_
  (conv => whnf)
  refine ⟨1, by decide, _, s_wrong (n := 2) hx rfl (by omega), ?_⟩
  rintro m2 ⟨S2, x2⟩
  exact ⟨h.1.tl S2 (by decide) (by decide), x2, fun a ha => by cases ha⟩
set_option maxRecDepth 100000 in
theorem li85 {v : Int32} {Y : ER (TB × TK)} (h : LiI m ln m) (hx : Sx b e (.inr t) m) (hB : MoI B m) (K : ∀ m1, LiI m ln m1 → Sx b e (.inr (nx b e t)) m1 → MoI B m1 → At (E0 7) mX7_line (LiQ b e m ln Y) 89 [.ref 1175, .int v] [] m1) : At (E0 7) mX7_line (LiQ b e m ln Y) 85 [.ref 1175, .int v] [] m := by
  refine At.ls okLi 60 ⟨_, _, rfl⟩ ?_
  (conv => whnf)
  refine ⟨4, by decide, _, s_next hx, ?_⟩
  rintro m2 ⟨S2, x2⟩
  (conv => whnf)
  refine And.intro rfl (K m2 ⟨h.1.tl S2 (by decide) (by decide), ?_, h.2.2⟩ x2 (hB.fr S2.2.2 (by decide)))
  rw [fr1 S2.2.2 (by decide : ¬ wk 1175 29 ∈ wRd7)]; exact h.2.1
set_option maxRecDepth 100000 in
set_option maxHeartbeats 8000000 in
theorem s_line (hx : Sx b e (.inr t) m) (hB : MoI B m) (hl : (gI m 1175 29).toInt = ln) (h8 : ln ≤ 1000) : CV 7 mX7_line [.ref 1175] m (fun m' => SM wLi m m' ∧ Sx b e (tl (lineS b e B t)) m' ∧ ∀ a, lineS b e B t = .inr a → MoI a.1 m' ∧ (gI m' 1175 29).toInt = ln + 1) := by
  have h : LiI m ln m := ⟨⟨St.rf hx.1, LoF.rf⟩, hl, h8⟩
  have eL : lineS b e B t = bd (bodyS b e B t) (endS b e) := rfl
  show At (E0 7) mX7_line (LiQ b e m ln (lineS b e B t)) 0 _ [] m
  rw [eL]
  have ht : tkM m t := hx.2.2.2.2.1
  have e4 : (4 : Int32).toInt = 4 := rfl
  obtain ⟨ok1, ok2, ok3, ok4, ok5⟩ := hB.2.2
  have c0 : (gI m 1175 25).toInt = B.1 0 := hB.1 0 (by omega)
  have c1 : (gI m 1175 26).toInt = B.1 1 := hB.1 1 (by omega)
  have c2 : (gI m 1175 27).toInt = B.1 2 := hB.1 2 (by omega)
  have c3 : (gI m 1175 28).toInt = B.1 3 := hB.1 3 (by omega)
  have none' : ¬ (t.1 = 1 ∧ (lg t.2.2.1 = 0 ∨ lg t.2.2.1 = 1 ∨ lg t.2.2.1 = 2 ∨ lg t.2.2.1 = 3 ∨ lg t.2.2.1 = 4)) → ∀ m2, (St wRd7 m m2 ∧ Sx b e (bd (.inr t) fun t => .inl (1, t.2.1)) m2) → LiQ b e m ln (bd (bodyS b e B t) (endS b e)) none m2 := fun q m2 hq => by
    have eB : bodyS b e B t = .inl (1, t.2.1) := by
      unfold bodyS
      by_cases q1 : t.1 = 1
      · rw [if_pos q1, if_neg (fun z => q ⟨q1, Or.inl z⟩), if_neg (fun z => q ⟨q1, Or.inr (Or.inl z)⟩), if_neg (fun z => q ⟨q1, Or.inr (Or.inr (Or.inl z))⟩), if_neg (fun z => q ⟨q1, Or.inr (Or.inr (Or.inr (Or.inl z)))⟩), if_neg (fun z => q ⟨q1, Or.inr (Or.inr (Or.inr (Or.inr z)))⟩)]
      · rw [if_neg q1]
    rw [eB]
    exact ⟨⟨⟨hq.1.1, hq.1.2.1, Fr_tr (Fr_rfl _ _) hq.1.2.2 (by decide)⟩, LoF.fr hq.1.2.2 (by decide)⟩, hq.2, fun a ha => by cases ha⟩
  refine At.gs okLi 80 ?_
  (conv => whnf)
  refine And.intro (fun q => ?_) (fun q => ?_)
  · have q : ¬ gI m 1175 33 = 0 := q
    (conv => whnf)
    refine ⟨1, by decide, _, s_wrong (n := 1) hx rfl (by omega), ?_⟩
    rintro m2 hq
    refine none' (fun y => ?_) m2 hq
    rcases ht.2.2 with z | z | z | z | z | z
    · omega
    · exact q z.2.2.1
    · omega
    · omega
    · omega
    · omega
  · have q : gI m 1175 33 = 0 := q
    have t4 : t.1 = 1 ∧ lg t.2.2.1 ≠ -1 ∧ gI m 1175 33 = 0 ∧ (gI m 1175 34).toInt = lg t.2.2.1 := by
      rcases ht.2.2 with y | y | y | y | y | y
      · rw [y.2] at q; exact absurd q (by decide)
      · exact y
      · rw [y.2.2.1] at q; exact absurd q (by decide)
      · rw [y.2.1] at q; exact absurd q (by decide)
      · rw [y.2] at q; exact absurd q (by decide)
      · rw [y.2] at q; exact absurd q (by decide)
    obtain ⟨et, hne, -, hval⟩ := t4
    (conv => whnf)
    refine And.intro (fun z => ?_) (fun z => ?_)
    · have z : gI m 1175 34 ≤ 4 := z
      rw [le_i, hval, e4] at z
      have hge : 0 ≤ lg t.2.2.1 := by
        have : -1 ≤ lg t.2.2.1 := by
          unfold lg
          (repeat' split) <;> omega
        omega
      rcases (by omega : lg t.2.2.1 = 0 ∨ lg t.2.2.1 = 1 ∨ lg t.2.2.1 = 2 ∨ lg t.2.2.1 = 3 ∨ lg t.2.2.1 = 4) with ew | ew | ew | ew | ew
      · have hw : gI m 1175 34 = 0 := Int32.toInt_inj.mp (by rw [hval, ew]; rfl)
        have eB : bodyS b e B t = landS b e B t := by
          unfold bodyS
          rw [if_pos et, if_pos ew]
        have eM : (5 : Int32).toInt = 5 := rfl
        rw [eB, landS_T]
        (conv => whnf)
        refine And.intro (fun y => absurd hw y) (fun _ => ?_)
        (conv => whnf)
        refine And.intro (fun y => ?_) (fun y => ?_)
        · have y : gI m 1175 25 = 5 := y
          (conv => whnf)
          exact And.intro rfl (li79 h hx (by rw [if_pos (by rw [y, eM] at c0; omega)]; rfl))
        · have y : ¬ gI m 1175 25 = 5 := y
          have hlt : ¬ B.1 0 = 5 := fun z => y (Int32.toInt_inj.mp (by rw [c0, z]; rfl))
          (conv => whnf)
          refine And.intro (fun _ => ?_) (fun y => absurd (hw.symm.trans y) (by decide))
          (conv => whnf)
          refine And.intro (fun _ => ?_) (fun y => absurd (hw.symm.trans y) (by decide))
          (conv => whnf)
          refine And.intro (fun _ => ?_) (fun y => absurd (hw.symm.trans y) (by decide))
          (conv => whnf)
          exact And.intro rfl (li85 h hx hB (fun m1 k1 k2 k3 => by rw [if_neg hlt]; exact li89_0 hw k1 k2 k3 (by omega)))
      · have hw : gI m 1175 34 = 1 := Int32.toInt_inj.mp (by rw [hval, ew]; rfl)
        have eB : bodyS b e B t = goodS b e B t := by
          unfold bodyS
          rw [if_pos et, if_neg (by rw [ew]; decide), if_pos ew]
        have eM : (4 : Int32).toInt = 4 := rfl
        rw [eB, goodS_T]
        (conv => whnf)
        refine And.intro (fun _ => ?_) (fun y => absurd (hw.symm.trans y) (by decide))
        (conv => whnf)
        refine And.intro (fun y => absurd hw y) (fun _ => ?_)
        (conv => whnf)
        refine And.intro (fun y => ?_) (fun y => ?_)
        · have y : gI m 1175 26 = 4 := y
          (conv => whnf)
          exact And.intro rfl (li79 h hx (by rw [if_pos (by rw [y, eM] at c1; omega)]; rfl))
        · have y : ¬ gI m 1175 26 = 4 := y
          have hlt : ¬ B.1 1 = 4 := fun z => y (Int32.toInt_inj.mp (by rw [c1, z]; rfl))
          (conv => whnf)
          refine And.intro (fun _ => ?_) (fun y => absurd (hw.symm.trans y) (by decide))
          (conv => whnf)
          refine And.intro (fun _ => ?_) (fun y => absurd (hw.symm.trans y) (by decide))
          (conv => whnf)
          exact And.intro rfl (li85 h hx hB (fun m1 k1 k2 k3 => by rw [if_neg hlt]; exact li89_1 hw k1 k2 k3 (by omega)))
      · have hw : gI m 1175 34 = 2 := Int32.toInt_inj.mp (by rw [hval, ew]; rfl)
        have eB : bodyS b e B t = firmS b e B t := by
          unfold bodyS
          rw [if_pos et, if_neg (by rw [ew]; decide), if_neg (by rw [ew]; decide), if_pos ew]
        have eM : (12 : Int32).toInt = 12 := rfl
        rw [eB, firmS_T]
        (conv => whnf)
        refine And.intro (fun _ => ?_) (fun y => absurd (hw.symm.trans y) (by decide))
        (conv => whnf)
        refine And.intro (fun _ => ?_) (fun y => absurd (hw.symm.trans y) (by decide))
        (conv => whnf)
        refine And.intro (fun y => absurd hw y) (fun _ => ?_)
        (conv => whnf)
        refine And.intro (fun y => ?_) (fun y => ?_)
        · have y : gI m 1175 27 = 12 := y
          (conv => whnf)
          exact And.intro rfl (li79 h hx (by rw [if_pos (by rw [y, eM] at c2; omega)]; rfl))
        · have y : ¬ gI m 1175 27 = 12 := y
          have hlt : ¬ B.1 2 = 12 := fun z => y (Int32.toInt_inj.mp (by rw [c2, z]; rfl))
          (conv => whnf)
          refine And.intro (fun _ => ?_) (fun y => absurd (hw.symm.trans y) (by decide))
          (conv => whnf)
          exact And.intro rfl (li85 h hx hB (fun m1 k1 k2 k3 => by rw [if_neg hlt]; exact li89_2 hw k1 k2 k3 (by omega)))
      · have hw : gI m 1175 34 = 3 := Int32.toInt_inj.mp (by rw [hval, ew]; rfl)
        have eB : bodyS b e B t = saleS b e B t := by
          unfold bodyS
          rw [if_pos et, if_neg (by rw [ew]; decide), if_neg (by rw [ew]; decide), if_neg (by rw [ew]; decide), if_pos ew]
        have eM : (30 : Int32).toInt = 30 := rfl
        rw [eB, saleS_T]
        (conv => whnf)
        refine And.intro (fun _ => ?_) (fun y => absurd (hw.symm.trans y) (by decide))
        (conv => whnf)
        refine And.intro (fun _ => ?_) (fun y => absurd (hw.symm.trans y) (by decide))
        (conv => whnf)
        refine And.intro (fun _ => ?_) (fun y => absurd (hw.symm.trans y) (by decide))
        (conv => whnf)
        refine And.intro (fun y => absurd hw y) (fun _ => ?_)
        (conv => whnf)
        refine And.intro (fun y => ?_) (fun y => ?_)
        · have y : ¬ gI m 1175 28 = 30 := y
          have hlt : ¬ B.1 3 = 30 := fun z => y (Int32.toInt_inj.mp (by rw [c3, z]; rfl))
          (conv => whnf)
          exact And.intro rfl (li85 h hx hB (fun m1 k1 k2 k3 => by rw [if_neg hlt]; exact li89_3 hw k1 k2 k3 (by omega)))
        · have y : gI m 1175 28 = 30 := y
          (conv => whnf)
          exact And.intro rfl (li79 h hx (by rw [if_pos (by rw [y, eM] at c3; omega)]; rfl))
      · have hw : gI m 1175 34 = 4 := Int32.toInt_inj.mp (by rw [hval, ew]; rfl)
        have eB : bodyS b e B t = paidS b e B t := by
          unfold bodyS
          rw [if_pos et, if_neg (by rw [ew]; decide), if_neg (by rw [ew]; decide), if_neg (by rw [ew]; decide), if_neg (by rw [ew]; decide), if_pos ew]
        rw [eB, paidS_T]
        (conv => whnf)
        refine And.intro (fun _ => ?_) (fun y => absurd (hw.symm.trans y) (by decide))
        (conv => whnf)
        refine And.intro (fun _ => ?_) (fun y => absurd (hw.symm.trans y) (by decide))
        (conv => whnf)
        refine And.intro (fun _ => ?_) (fun y => absurd (hw.symm.trans y) (by decide))
        (conv => whnf)
        refine And.intro (fun _ => ?_) (fun y => absurd (hw.symm.trans y) (by decide))
        (conv => whnf)
        exact And.intro rfl (li85 h hx hB (fun m1 k1 k2 k3 => li89_4 hw k1 k2 k3))
    · have z : ¬ gI m 1175 34 ≤ 4 := z
      rw [le_i, hval, e4] at z
      (conv => whnf)
      refine ⟨1, by decide, _, s_wrong (n := 1) hx rfl (by omega), ?_⟩
      rintro m2 hq
      exact none' (fun y => by omega) m2 hq
end Lj
