/-! the model: a sum paid; a line -/
def paidT (b : BT) (e : Nat) (B : TB) (t : TK) : ER (TB × TK) := bd (tolS B 3 t) fun f => if B.2 9 f.toNat ≠ 0 then .inl (3, t.2.1) else bd (numS b e 0 999999 (nx b e t)) fun x => .inr ((B.1, setR (setR B.2 8 f.toNat x.1) 9 f.toNat 1), x.2)
theorem paidS_T {b : BT} {e : Nat} {B : TB} {t : TK} : paidS b e B t = paidT b e B (nx b e t) := rfl
def pa1 (B : TB) (t : TK) : ER (Int × TK) := bd (tolS B 3 t) fun f => if B.2 9 f.toNat ≠ 0 then .inl (3, t.2.1) else .inr (f, t)
def pa2f (b : BT) (e : Nat) (B : TB) (a : Int × TK) : ER (TB × TK) := bd (numS b e 0 999999 (nx b e a.2)) fun x => .inr ((B.1, setR (setR B.2 8 a.1.toNat x.1) 9 a.1.toNat 1), x.2)
theorem paidT_2 {b : BT} {e : Nat} {B : TB} {t : TK} : paidT b e B t = bd (pa1 B t) (pa2f b e B) := by
  unfold paidT pa1
  cases h1 : tolS B 3 t with
  | inl er => rfl
  | inr f =>
    show (if B.2 9 f.toNat ≠ 0 then _ else _) = bd (if B.2 9 f.toNat ≠ 0 then _ else _) _
    by_cases q : B.2 9 f.toNat ≠ 0
    · rw [if_pos q, if_pos q]; rfl
    · rw [if_neg q, if_neg q]; rfl
def cdPa : List CE := stops [39] cdX7_paid
theorem okPa : CodeOk mX7_paid cdPa := okX7_paid.st [39] (by rfl)
section Pa
variable {b : BT} {e : Nat} {t : TK} {m : MM} {B : TB}
set_option maxRecDepth 100000 in
set_option maxHeartbeats 4000000 in
theorem pa39 {X : ER (Int × TK)} {f : Int32} {m1 : MM} (hS : SM wMo m m1) (hB : MoI B m1) (hx : Sx b e (tl X) m1) (hv : ∀ a, X = .inr a → f.toInt = 12 + a.1 ∧ 0 ≤ a.1 ∧ a.1 < B.1 2) : At (E0 6) mX7_paid (SaQ b e m (bd X (pa2f b e B))) 39 [.ref 1175, .int f, .null] [] m1 := by
  have e0 : (0 : Int32).toInt = 0 := rfl
  have e9 : (999999 : Int32).toInt = 999999 := rfl
  have h12 := hB.2.2.2.2.1
  refine At.ls okPa 60 ⟨_, _, rfl⟩ ?_
  (conv => whnf)
  refine ⟨5, by decide, _, s_goOn hx, ?_⟩
  rintro m2 ⟨S2, x2⟩
  (conv => whnf)
  refine ⟨5, by decide, _, s_num x2 (by decide) (by decide) (by decide), ?_⟩
  rintro r m3 ⟨S3, x3, v3, l3, u3⟩
  rw [e0, e9] at x3 v3
  have T3 := (hS.tl S2 (by decide) (by decide)).tl S3 (by decide) (by decide)
  have B3 := (hB.fr S2.2.2 (by decide)).fr S3.2.2 (by decide)
  (conv => whnf)
  refine And.intro (fun q => ?_) (fun q => ?_)
  · have q : gI m3 1175 35 = 0 := q
    obtain ⟨tt, he, ht, hq⟩ := x3.z q
    cases X with
    | inl er => cases he
    | inr a =>
      obtain ⟨y1, y2, y3⟩ := hv a rfl
      have v3 : ∀ w, numS b e 0 999999 (nx b e a.2) = .inr w → r.toInt = w.1 := v3
      have he : tl (numS b e 0 999999 (nx b e a.2)) = .inr tt := he
      cases h1 : numS b e 0 999999 (nx b e a.2) with
      | inl er => rw [h1] at he; cases he
      | inr x =>
        rw [h1] at he
        cases he
        have g1 := v3 x h1
        have hf : f.toInt = ((12 + a.1.toNat : Nat) : Int) := by omega
        have hvp : vp_in f 24 := vp_in_iff.mpr ⟨by omega, show f.toInt < ((24 : Nat) : Int) by omega⟩
        have x3 : Sx b e (tl (numS b e 0 999999 (nx b e a.2))) m3 := x3
        rw [h1] at x3
        (conv => whnf)
        refine And.intro hvp ?_
        (conv => whnf)
        refine And.intro hvp ?_
        rw [nat_c hf]
        have S4 : St [99640, 99659] m3 (sI (sI m3 99640 (12 + a.1.toNat) r) 99659 (12 + a.1.toNat) 1) := ((St.rf S3.1).row (a := 99640) (k := 12 + a.1.toNat) (v := r) rfl (by decide) (tI_lo _) (tI_hi _)).row (a := 99659) (k := 12 + a.1.toNat) (v := 1) rfl (by decide) (by decide) (by decide)
        have eY : bd (.inr a) (pa2f b e B) = .inr ((B.1, setR (setR B.2 8 a.1.toNat x.1) 9 a.1.toNat 1), x.2) := by
          show pa2f b e B a = _
          unfold pa2f
          rw [h1]
          rfl
        refine ⟨T3.tw S4 (by decide) (LoF.st 12 (LoF.st 12 LoF.rf (by omega) (by decide)) (by omega) (by decide)), ?_, fun w hw => ?_⟩
        · rw [eY]
          exact x3.fr S4 (by decide)
        · rw [eY] at hw
          cases hw
          refine ⟨fun k hk => ?_, ?_⟩
          · rcases (by omega : k = 0 ∨ k = 1 ∨ k = 2 ∨ k = 3) with rfl | rfl | rfl | rfl
            · exact B3.1 0 (by omega)
            · exact B3.1 1 (by omega)
            · exact B3.1 2 (by omega)
            · exact B3.1 3 (by omega)
          · rw [← g1]
            exact MoR.row (r := 9) (v := 1) (MoR.row (r := 8) B3.2 (by omega) (fun z => by omega)) (by omega) (fun z => by omega)
  · have q : ¬ gI m3 1175 35 = 0 := q
    obtain ⟨er, he⟩ := x3.n q
    rw [he] at x3
    have eY : bd X (pa2f b e B) = .inl er := by
      cases X with
      | inl er' => cases he; rfl
      | inr a =>
        have he : tl (numS b e 0 999999 (nx b e a.2)) = .inl er := he
        show pa2f b e B a = _
        unfold pa2f
        cases h1 : numS b e 0 999999 (nx b e a.2) with
        | inl er' => rw [h1] at he; cases he; rfl
        | inr x => rw [h1] at he; cases he
    refine ⟨T3, by rw [eY]; exact x3, fun w hw => ?_⟩
    rw [eY] at hw
    cases hw
set_option maxRecDepth 100000 in
set_option maxHeartbeats 4000000 in
theorem s_paid (h : Sx b e (.inr t) m) (hB : MoI B m) : CV 6 mX7_paid [.ref 1175] m (fun m' => SM wMo m m' ∧ Sx b e (tl (paidT b e B t)) m' ∧ ∀ a, paidT b e B t = .inr a → MoI a.1 m') := by
  show At (E0 6) mX7_paid (SaQ b e m (paidT b e B t)) 0 _ [] m
  rw [paidT_2]
  have e12 : (12 : Int32).toInt = 12 := rfl
  obtain ⟨ok1, ok2, ok3, ok4, ok5⟩ := hB.2.2
  refine At.gs okPa 60 ?_
  (conv => whnf)
  refine ⟨2, by decide, _, s_told_99560 (B := B) h (hB.1 2 (by omega)) (by omega) (hB.2.1 3 (by omega)), ?_⟩
  rintro r m1 ⟨S1, x1, v1, l1, u1⟩
  have T1 : SM wMo m m1 := ⟨⟨S1.1, S1.2.1, Fr_tr (Fr_rfl _ _) S1.2.2 (by decide)⟩, LoF.fr S1.2.2 (by decide)⟩
  have B1 := hB.fr S1.2.2 (by decide)
  have v1 : ∀ v, tolS B 3 t = .inr v → r.toInt = v := v1
  have x1 : Sx b e (bd (tolS B 3 t) fun _ => .inr t) m1 := x1
  have hf : ((12 : Int32) + r).toInt = ((12 + r.toInt.toNat : Nat) : Int) := by
    rw [tI_add (by rw [e12]; unfold i32lo; omega) (by rw [e12]; unfold i32hi; omega), e12]; omega
  have hvp : vp_in ((12 : Int32) + r) 24 := vp_in_iff.mpr ⟨by omega, show ((12 : Int32) + r).toInt < ((24 : Nat) : Int) by omega⟩
  (conv => whnf)
  refine And.intro (fun q => ?_) (fun q => ?_)
  · have q : ¬ gI m1 1175 35 = 0 := q
    obtain ⟨er, he⟩ := x1.n q
    rw [he] at x1
    have e1 : pa1 B t = .inl er := by
      unfold pa1
      cases h1 : tolS B 3 t with
      | inl er' => rw [h1] at he; cases he; rfl
      | inr f => rw [h1] at he; cases he
    (conv => whnf)
    exact And.intro rfl (pa39 T1 B1 (by rw [e1]; exact x1) (fun a ha => by rw [e1] at ha; cases ha))
  · have q : gI m1 1175 35 = 0 := q
    obtain ⟨tt, he, ht, hq⟩ := x1.z q
    cases h1 : tolS B 3 t with
    | inl er => rw [h1] at he; cases he
    | inr f =>
      have g1 := v1 f h1
      have hlt := tolS_lt h1
      have hlt2 : f < B.1 2 := hlt.2
      rw [h1] at x1
      have x1 : Sx b e (.inr t) m1 := x1
      have w9 : (gI m1 99659 (12 + f.toNat)).toInt = B.2 9 f.toNat := B1.2.1 9 (by omega) f.toNat (by show f.toNat < B.1 2; omega)
      (conv => whnf)
      refine And.intro hvp ?_
      (conv => whnf)
      refine And.intro (fun z => ?_) (fun z => ?_)
      · have z : gI m1 99659 ((12 : Int32) + r).toNatClampNeg = 0 := z
        rw [nat_c hf, g1] at z
        have e1 : pa1 B t = .inr (f, t) := by
          unfold pa1
          rw [h1]
          show (if B.2 9 f.toNat ≠ 0 then _ else _) = _
          rw [if_neg (fun y => y (by rw [← w9, z]; rfl))]
        (conv => whnf)
        refine And.intro rfl (pa39 T1 B1 (by rw [e1]; exact x1) (fun a ha => ?_))
        rw [e1] at ha
        cases ha
        exact ⟨by rw [hf, g1]; show ((12 + f.toNat : Nat) : Int) = 12 + f; omega, hlt.1, hlt2⟩
      · have z : ¬ gI m1 99659 ((12 : Int32) + r).toNatClampNeg = 0 := z
        rw [nat_c hf, g1] at z
        have e1 : pa1 B t = .inl (3, t.2.1) := by
          unfold pa1
          rw [h1]
          show (if B.2 9 f.toNat ≠ 0 then _ else _) = _
          rw [if_pos (fun y => z (Int32.toInt_inj.mp (by rw [w9, y]; rfl)))]
        (conv => whnf)
        refine ⟨1, by decide, _, s_wrong (n := 3) x1 rfl (by omega), ?_⟩
        rintro m2 ⟨S2, x2⟩
        (conv => whnf)
        exact And.intro rfl (pa39 (T1.tl S2 (by decide) (by decide)) (B1.fr S2.2.2 (by decide)) (by rw [e1]; exact x2) (fun a ha => by rw [e1] at ha; cases ha))
end Pa
/-! a line -/
def wLi : List Nat := 128849020055 :: wMo
def landT (b : BT) (e : Nat) (B : TB) (t : TK) : ER (TB × TK) := bd (newS b e B 0 t) fun x => bd (numS b e 0 40 x.2) fun y => .inr ((setN B.1 0 (B.1 0 + 1), setR (setR B.2 0 (B.1 0) x.1) 1 (B.1 0) y.1), y.2)
theorem landS_T {b : BT} {e : Nat} {B : TB} {t : TK} : landS b e B t = if B.1 0 = 5 then .inl (2, t.2.1) else landT b e B (nx b e t) := by
  unfold landS landT newL
  show bd (if B.1 0 = 5 then _ else _) _ = _
  by_cases q : B.1 0 = 5
  · rw [if_pos q, if_pos q]; rfl
  · rw [if_neg q, if_neg q]
def goodT (b : BT) (e : Nat) (B : TB) (t : TK) : ER (TB × TK) := bd (newS b e B 2 t) fun x => .inr ((setN B.1 1 (B.1 1 + 1), setR B.2 2 (B.1 1) x.1), x.2)
theorem goodS_T {b : BT} {e : Nat} {B : TB} {t : TK} : goodS b e B t = if B.1 1 = 4 then .inl (2, t.2.1) else goodT b e B (nx b e t) := by
  unfold goodS goodT newL
  show bd (if B.1 1 = 4 then _ else _) _ = _
  by_cases q : B.1 1 = 4
  · rw [if_pos q, if_pos q]; rfl
  · rw [if_neg q, if_neg q]
def cdLi : List CE := stops [79, 85, 244, 272] cdX7_line
set_option maxRecDepth 20000 in
theorem okLi : CodeOk mX7_line cdLi := okX7_line.st [79, 85, 244, 272] (by rfl)
def endS (b : BT) (e : Nat) (x : TB × TK) : ER (TB × TK) := if x.2.1 = 3 then .inr (x.1, nx b e x.2) else .inl (1, x.2.2.1)
section Li
variable {b : BT} {e ln : Nat} {t : TK} {m : MM} {B : TB}
def LiQ (b : BT) (e : Nat) (m : MM) (ln : Nat) (Y : ER (TB × TK)) : QQ := qv (fun m' => SM wLi m m' ∧ Sx b e (tl Y) m' ∧ ∀ a, Y = .inr a → MoI a.1 m' ∧ (gI m' 1175 29).toInt = ln + 1)
def LiI (m : MM) (ln : Nat) (m1 : MM) : Prop := SM wLi m m1 ∧ (gI m1 1175 29).toInt = ln ∧ ln ≤ 1000
set_option maxRecDepth 100000 in
set_option maxHeartbeats 4000000 in
theorem li272 {Y : ER (TB × TK)} {v1 : Value} {m1 : MM} (h : LiI m ln m1) (hx : Sx b e (tl Y) m1) (hA : ∀ a, Y = .inr a → MoI a.1 m1) : At (E0 7) mX7_line (LiQ b e m ln Y) 272 [.ref 1175, v1] [] m1 := by
  obtain ⟨hS, hl, h8⟩ := h
  have a1 := inc1 (k := gI m1 1175 29) (by omega)
  have S2 : St [128849020055] m1 (sI m1 1175 29 (gI m1 1175 29 + 1)) := (St.rf hS.1.1).fld (a := 1175) (k := 29) (v := gI m1 1175 29 + 1) (by decide) (tI_lo _) (tI_hi _) (fun _ z => by omega)
  refine At.ls okLi 40 ⟨_, _, rfl⟩ ?_
  (conv => whnf)
  refine ⟨hS.tl S2 (by decide) (by decide), hx.fr S2 (by decide), fun a ha => ⟨(hA a ha).fr S2.2.2 (by decide), ?_⟩⟩
  show (gI m1 1175 29 + 1).toInt = _
  omega
set_option maxRecDepth 100000 in
set_option maxHeartbeats 4000000 in
theorem li244 {Y : ER (TB × TK)} {v1 : Value} {m1 : MM} (h : LiI m ln m1) (hx : Sx b e (tl Y) m1) (hA : ∀ a, Y = .inr a → MoI a.1 m1) : At (E0 7) mX7_line (LiQ b e m ln (bd Y (endS b e))) 244 [.ref 1175, v1] [] m1 := by
  obtain ⟨hS, hl, h8⟩ := h
  refine At.ls okLi 60 ⟨_, _, rfl⟩ ?_
  (conv => whnf)
  refine And.intro (fun q => ?_) (fun q => ?_)
  · have q : gI m1 1175 35 = 0 := q
    obtain ⟨tt, he, ht, hq⟩ := hx.z q
    cases Y with
    | inl er => cases he
    | inr a =>
      cases he
      have hx : Sx b e (.inr a.2) m1 := hx
      have hB := hA a rfl
      have s3 : gI m1 1175 33 = 3 ↔ a.2.1 = 3 := by
        rcases ht.2.2 with y | y | y | y | y | y
        · rw [y.2, y.1]; decide
        · rw [y.2.2.1, y.1]; decide
        · rw [y.2.2.1, y.1]; decide
        · rw [y.2.1, y.1]; decide
        · rw [y.2, y.1]; decide
        · rw [y.2, y.1]; decide
      (conv => whnf)
      refine And.intro (fun z => ?_) (fun z => ?_)
      · have z : gI m1 1175 33 = 3 := z
        have eE : bd (.inr a) (endS b e) = .inr (a.1, nx b e a.2) := by
          show endS b e a = _
          unfold endS
          rw [if_pos (s3.mp z)]
        rw [eE]
        (conv => whnf)
        refine ⟨4, by decide, _, s_next hx, ?_⟩
        rintro m2 ⟨S2, x2⟩
        (conv => whnf)
        refine And.intro rfl (li272 ⟨hS.tl S2 (by decide) (by decide), ?_, h8⟩ x2 (fun w hw => ?_))
        · rw [fr1 S2.2.2 (by decide : ¬ wk 1175 29 ∈ wRd7)]; exact hl
        · cases hw
          exact hB.fr S2.2.2 (by decide)
      · have z : ¬ gI m1 1175 33 = 3 := z
        have eE : bd (.inr a) (endS b e) = .inl (1, a.2.2.1) := by
          show endS b e a = _
          unfold endS
          rw [if_neg (fun y => z (s3.mpr y))]
        rw [eE]
        (conv => whnf)
        refine ⟨1, by decide, _, s_wrong (n := 1) hx rfl (by omega), ?_⟩
        rintro m2 ⟨S2, x2⟩
        (conv => whnf)
        refine And.intro rfl (li272 ⟨hS.tl S2 (by decide) (by decide), ?_, h8⟩ x2 (fun w hw => by cases hw))
        rw [fr1 S2.2.2 (by decide : ¬ wk 1175 29 ∈ wRd7)]; exact hl
  · have q : ¬ gI m1 1175 35 = 0 := q
    obtain ⟨er, he⟩ := hx.n q
    cases Y with
    | inl er' => exact ⟨hS, hx, fun a ha => by cases ha⟩
    | inr a => cases he
set_option maxRecDepth 100000 in
set_option maxHeartbeats 4000000 in
theorem li89_0 {v : Int32} {m1 : MM} (hv : v = 0) (h : LiI m ln m1) (hx : Sx b e (.inr t) m1) (hB : MoI B m1) (hn : B.1 0 < 5) : At (E0 7) mX7_line (LiQ b e m ln (bd (landT b e B t) (endS b e))) 89 [.ref 1175, .int v] [] m1 := by
  subst hv
  obtain ⟨hS, hl, h8⟩ := h
  have e0 : (0 : Int32).toInt = 0 := rfl
  have e5 : (5 : Int32).toInt = 5 := rfl
  have e40 : (40 : Int32).toInt = 40 := rfl
  have c25 : (gI m1 1175 25).toInt = B.1 0 := hB.1 0 (by omega)
  have hf : ((5 : Int32) + gI m1 1175 25).toInt = ((5 + B.1 0 : Nat) : Int) := by
    rw [tI_add (by rw [e5]; unfold i32lo; omega) (by rw [e5]; unfold i32hi; omega), e5, c25]; omega
  have hvp : vp_in ((5 : Int32) + gI m1 1175 25) 10 := vp_in_iff.mpr ⟨by omega, show ((5 : Int32) + gI m1 1175 25).toInt < ((10 : Nat) : Int) by omega⟩
  refine At.ls okLi 80 ⟨_, _, rfl⟩ ?_
  (conv => whnf)
  refine And.intro (fun _ => ?_) (fun z => absurd rfl z)
  (conv => whnf)
  refine ⟨5, by decide, _, s_fresh_42168 (B := B) hx c25 (by omega) (hB.2.1 0 (by omega)), ?_⟩
  rintro r1 m2 ⟨S2, x2, v2⟩
  have B2 := hB.fr S2.2.2 (by decide)
  (conv => whnf)
  refine And.intro hvp ?_
  rw [nat_c hf]
  have S2w : St [42168] m2 (sI m2 42168 (5 + B.1 0) r1) := (St.rf S2.1).row (a := 42168) (k := 5 + B.1 0) (v := r1) rfl (by decide) (tI_lo _) (tI_hi _)
  have T2 := (hS.tl S2 (by decide) (by decide)).tw S2w (by decide) (LoF.st 5 LoF.rf (by omega) (by decide))
  have x2 := x2.fr S2w (by decide)
  have B2 : MoI B (sI m2 42168 (5 + B.1 0) r1) := B2.out (r := 0) (by omega) (Nat.le_refl _)
  have N2 : NR [(42168, r1)] (5 + B.1 0) (sI m2 42168 (5 + B.1 0) r1) := NR.add (L := []) (fun q hq => by cases hq) rfl
  have l2 : (gI (sI m2 42168 (5 + B.1 0) r1) 1175 29).toInt = ln := by
    show (gI m2 1175 29).toInt = ln
    rw [fr1 S2.2.2 (by decide : ¬ wk 1175 29 ∈ wRd7)]; exact hl
  revert T2 x2 B2 N2 l2
  generalize sI m2 42168 (5 + B.1 0) r1 = m2'
  intro T2 x2 B2 N2 l2
  have c25' : (gI m2' 1175 25).toInt = B.1 0 := B2.1 0 (by omega)
  have hf' : ((5 : Int32) + gI m2' 1175 25).toInt = ((5 + B.1 0 : Nat) : Int) := by
    rw [tI_add (by rw [e5]; unfold i32lo; omega) (by rw [e5]; unfold i32hi; omega), e5, c25']; omega
  have hvp' : vp_in ((5 : Int32) + gI m2' 1175 25) 10 := vp_in_iff.mpr ⟨by omega, show ((5 : Int32) + gI m2' 1175 25).toInt < ((10 : Nat) : Int) by omega⟩
  (conv => whnf)
  refine ⟨5, by decide, _, s_num x2 (by decide) (by decide) (by decide), ?_⟩
  rintro r3 m3 ⟨S3, x3, v3, l3, u3⟩
  rw [e0, e40] at x3 v3
  have B3 := B2.fr S3.2.2 (by decide)
  have N3 := N2.fr S3.2.2 (by simp only [List.map_cons, List.map_nil]; decide)
  (conv => whnf)
  refine And.intro hvp' ?_
  (conv => whnf)
  rw [nat_c hf']
  have c25'' : (gI m3 1175 25).toInt = B.1 0 := B3.1 0 (by omega)
  have a1 := inc1 (k := gI m3 1175 25) (by omega)
  have S4 : St [42184, 111669150871] m3 (sI (sI m3 42184 (5 + B.1 0) r3) 1175 25 (gI m3 1175 25 + 1)) := ((St.rf S3.1).row (a := 42184) (k := 5 + B.1 0) (v := r3) rfl (by decide) (tI_lo _) (tI_hi _)).fld (a := 1175) (k := 25) (v := gI m3 1175 25 + 1) (by decide) (show (0 : Int) ≤ _ by omega) (show _ ≤ (5 : Int) by omega) (fun _ z => by omega)
  have N4 : NR [(42184, r3), (42168, r1)] (5 + B.1 0) (sI m3 42184 (5 + B.1 0) r3) := N3.add (by simp only [List.map_cons, List.map_nil]; decide)
  have v2 : ∀ w, newS b e B 0 t = .inr w → r1.toInt = w.1 := v2
  have x4 : Sx b e (tl (bd (tl (newS b e B 0 t)) (numS b e 0 40))) _ := x3.fr S4 (by decide)
  have v3 : ∀ w, bd (tl (newS b e B 0 t)) (numS b e 0 40) = .inr w → r3.toInt = w.1 := v3
  refine And.intro rfl (li244 ⟨(T2.tl S3 (by decide) (by decide)).tw S4 (by decide) (LoF.fld (LoF.st 5 LoF.rf (by omega) (by decide))), ?_, h8⟩ ?_ (fun a ha => ?_))
  · show (gI m3 1175 29).toInt = ln
    rw [fr1 S3.2.2 (by decide : ¬ wk 1175 29 ∈ wRd7)]; exact l2
  · unfold landT
    cases h1 : newS b e B 0 t with
    | inl er => rw [h1] at x4; exact x4
    | inr x =>
      rw [h1] at x4
      have x4 : Sx b e (tl (numS b e 0 40 x.2)) _ := x4
      show Sx b e (tl (bd (numS b e 0 40 x.2) _)) _
      cases h2 : numS b e 0 40 x.2 with
      | inl er => rw [h2] at x4; exact x4
      | inr y => rw [h2] at x4; exact x4
  · unfold landT at ha
    obtain ⟨x, h1, ha⟩ := bd_r ha
    obtain ⟨y, h2, ha⟩ := bd_r ha
    cases ha
    have g1 := v2 x h1
    rw [h1] at v3
    have g2 : r3.toInt = y.1 := v3 y h2
    have q1 : gI (sI m3 42184 (5 + B.1 0) r3) 42168 (5 + B.1 0) = r1 := N4 (42168, r1) (by simp)
    have q2 : gI (sI m3 42184 (5 + B.1 0) r3) 42184 (5 + B.1 0) = r3 := N4 (42184, r3) (by simp)
    have eT : ∀ r i, 2 ≤ r ∨ i < B.1 0 → setR (setR B.2 0 (B.1 0) x.1) 1 (B.1 0) y.1 r i = B.2 r i := fun r i hri => by
      unfold setR
      rw [if_neg (fun z => by omega), if_neg (fun z => by omega)]
    refine MoI.mk' (N := B.1) (k := 0) ⟨fun r hr i hi => ?_, hB.2.2.1, hB.2.2.2.1, hB.2.2.2.2.1, hB.2.2.2.2.2.1, fun i hi => ?_⟩ (by omega) (fun r hr ho => ?_) (fun j hj => ?_) ?_
    · have hi : i < B.1 (own r) := hi
      show _ = setR (setR B.2 0 (B.1 0) x.1) 1 (B.1 0) y.1 r i
      rw [eT r i (by
        rcases Nat.lt_or_ge r 2 with z | z
        · right
          have : own r = 0 := by unfold own; rw [if_pos z]
          rw [this] at hi; exact hi
        · exact Or.inl z)]
      exact (MoR.fld (MoI.out (r := 1) B3 (by omega) (Nat.le_refl _)).2).1 r hr i hi
    · show lg (setR (setR B.2 0 (B.1 0) x.1) 1 (B.1 0) y.1 3 i) = -1
      rw [eT 3 i (Or.inl (by omega))]
      exact hB.2.2.2.2.2.2 i hi
    · rcases (by unfold own at ho; split at ho <;> (try split at ho) <;> (try split at ho) <;> omega : r = 0 ∨ r = 1) with rfl | rfl
      · show (gI (sI m3 42184 (5 + B.1 0) r3) 42168 (5 + B.1 0)).toInt = _
        rw [q1, g1]; simp [setR]
      · show (gI (sI m3 42184 (5 + B.1 0) r3) 42184 (5 + B.1 0)).toInt = _
        rw [q2, g2]; simp [setR]
    · rcases (by omega : j = 0 ∨ j = 1 ∨ j = 2 ∨ j = 3) with rfl | rfl | rfl | rfl
      · show (gI m3 1175 25 + 1).toInt = ((B.1 0 + 1 : Nat) : Int)
        omega
      · exact B3.1 1 (by omega)
      · exact B3.1 2 (by omega)
      · exact B3.1 3 (by omega)
    · refine ⟨by show B.1 0 + 1 ≤ 5; omega, hB.2.2.2.1, hB.2.2.2.2.1, hB.2.2.2.2.2.1, fun i hi => ?_⟩
      show lg (setR (setR B.2 0 (B.1 0) x.1) 1 (B.1 0) y.1 3 i) = -1
      rw [eT 3 i (Or.inl (by omega))]
      exact hB.2.2.2.2.2.2 i hi
set_option maxRecDepth 100000 in
set_option maxHeartbeats 4000000 in
theorem li89_1 {v : Int32} {m1 : MM} (hv : v = 1) (h : LiI m ln m1) (hx : Sx b e (.inr t) m1) (hB : MoI B m1) (hn : B.1 1 < 4) : At (E0 7) mX7_line (LiQ b e m ln (bd (goodT b e B t) (endS b e))) 89 [.ref 1175, .int v] [] m1 := by
  subst hv
  obtain ⟨hS, hl, h8⟩ := h
  have e4 : (4 : Int32).toInt = 4 := rfl
  have c26 : (gI m1 1175 26).toInt = B.1 1 := hB.1 1 (by omega)
  have hf : ((4 : Int32) + gI m1 1175 26).toInt = ((4 + B.1 1 : Nat) : Int) := by
    rw [tI_add (by rw [e4]; unfold i32lo; omega) (by rw [e4]; unfold i32hi; omega), e4, c26]; omega
  have hvp : vp_in ((4 : Int32) + gI m1 1175 26) 8 := vp_in_iff.mpr ⟨by omega, show ((4 : Int32) + gI m1 1175 26).toInt < ((8 : Nat) : Int) by omega⟩
  refine At.ls okLi 80 ⟨_, _, rfl⟩ ?_
  (conv => whnf)
  refine And.intro (fun z => absurd z (by decide)) (fun _ => ?_)
  refine And.intro (fun _ => ?_) (fun z => absurd rfl z)
  (conv => whnf)
  refine ⟨5, by decide, _, s_fresh_34008 (B := B) hx c26 (by omega) (hB.2.1 2 (by omega)), ?_⟩
  rintro r1 m2 ⟨S2, x2, v2⟩
  have B2 := hB.fr S2.2.2 (by decide)
  (conv => whnf)
  refine And.intro hvp ?_
  (conv => whnf)
  rw [nat_c hf]
  have c26' : (gI m2 1175 26).toInt = B.1 1 := B2.1 1 (by omega)
  have a1 := inc1 (k := gI m2 1175 26) (by omega)
  have S4 : St [34008, 115964118167] m2 (sI (sI m2 34008 (4 + B.1 1) r1) 1175 26 (gI m2 1175 26 + 1)) := ((St.rf S2.1).row (a := 34008) (k := 4 + B.1 1) (v := r1) rfl (by decide) (tI_lo _) (tI_hi _)).fld (a := 1175) (k := 26) (v := gI m2 1175 26 + 1) (by decide) (show (0 : Int) ≤ _ by omega) (show _ ≤ (4 : Int) by omega) (fun _ z => by omega)
  have v2 : ∀ w, newS b e B 2 t = .inr w → r1.toInt = w.1 := v2
  have x4 : Sx b e (tl (newS b e B 2 t)) _ := x2.fr S4 (by decide)
  refine And.intro rfl (li244 ⟨(hS.tl S2 (by decide) (by decide)).tw S4 (by decide) (LoF.fld (LoF.st 4 LoF.rf (by omega) (by decide))), ?_, h8⟩ ?_ (fun a ha => ?_))
  · show (gI m2 1175 29).toInt = ln
    rw [fr1 S2.2.2 (by decide : ¬ wk 1175 29 ∈ wRd7)]; exact hl
  · unfold goodT
    cases h1 : newS b e B 2 t with
    | inl er => rw [h1] at x4; exact x4
    | inr x => rw [h1] at x4; exact x4
  · unfold goodT at ha
    obtain ⟨x, h1, ha⟩ := bd_r ha
    cases ha
    have g1 := v2 x h1
    have eT : ∀ r i, r ≠ 2 ∨ i < B.1 1 → setR B.2 2 (B.1 1) x.1 r i = B.2 r i := fun r i hri => by
      unfold setR
      rw [if_neg (fun z => by omega)]
    refine MoI.mk' (N := B.1) (k := 1) ⟨fun r hr i hi => ?_, hB.2.2.1, hB.2.2.2.1, hB.2.2.2.2.1, hB.2.2.2.2.2.1, fun i hi => ?_⟩ (by omega) (fun r hr ho => ?_) (fun j hj => ?_) ?_
    · have hi : i < B.1 (own r) := hi
      show _ = setR B.2 2 (B.1 1) x.1 r i
      rw [eT r i (by
        by_cases z : r = 2
        · right
          rw [z] at hi; exact hi
        · exact Or.inl z)]
      exact (MoR.fld (MoI.out (r := 2) B2 (by omega) (Nat.le_refl _)).2).1 r hr i hi
    · show lg (setR B.2 2 (B.1 1) x.1 3 i) = -1
      rw [eT 3 i (Or.inl (by omega))]
      exact hB.2.2.2.2.2.2 i hi
    · obtain rfl : r = 2 := by unfold own at ho; split at ho <;> (try split at ho) <;> (try split at ho) <;> omega
      show (gI (sI m2 34008 (4 + B.1 1) r1) 34008 (4 + B.1 1)).toInt = _
      rw [gI_if, if_pos ⟨rfl, rfl⟩, g1]; simp [setR]
    · rcases (by omega : j = 0 ∨ j = 1 ∨ j = 2 ∨ j = 3) with rfl | rfl | rfl | rfl
      · exact B2.1 0 (by omega)
      · show (gI m2 1175 26 + 1).toInt = ((B.1 1 + 1 : Nat) : Int)
        omega
      · exact B2.1 2 (by omega)
      · exact B2.1 3 (by omega)
    · refine ⟨hB.2.2.1, by show B.1 1 + 1 ≤ 4; omega, hB.2.2.2.2.1, hB.2.2.2.2.2.1, fun i hi => ?_⟩
      show lg (setR B.2 2 (B.1 1) x.1 3 i) = -1
      rw [eT 3 i (Or.inl (by omega))]
      exact hB.2.2.2.2.2.2 i hi
set_option maxRecDepth 100000 in
theorem li89_2 {v : Int32} {m1 : MM} (hv : v = 2) (h : LiI m ln m1) (hx : Sx b e (.inr t) m1) (hB : MoI B m1) (hn : B.1 2 < 12) : At (E0 7) mX7_line (LiQ b e m ln (bd (firmT b e B t) (endS b e))) 89 [.ref 1175, .int v] [] m1 := by
  subst hv
  obtain ⟨hS, hl, h8⟩ := h
  have e12 : (12 : Int32).toInt = 12 := rfl
  have c27 : (gI m1 1175 27).toInt = B.1 2 := hB.1 2 (by omega)
  have hf : ((12 : Int32) + gI m1 1175 27).toInt = ((12 + B.1 2 : Nat) : Int) := by
    rw [tI_add (by rw [e12]; unfold i32lo; omega) (by rw [e12]; unfold i32hi; omega), e12, c27]; omega
  refine At.ls okLi 80 ⟨_, _, rfl⟩ ?_
  (conv => whnf)
  refine And.intro (fun z => absurd z (by decide)) (fun _ => ?_)
  refine And.intro (fun z => absurd z (by decide)) (fun _ => ?_)
  refine And.intro (fun _ => ?_) (fun z => absurd rfl z)
  (conv => whnf)
  refine ⟨6, by decide, _, s_firm hx hB hf hn, ?_⟩
  rintro m2 ⟨S2, x2, A2⟩
  (conv => whnf)
  refine And.intro rfl (li244 ⟨⟨hS.1.tr S2.1 (fun x hx => List.mem_cons_of_mem _ hx), hS.2.tr S2.2⟩, ?_, h8⟩ x2 A2)
  rw [fr1 S2.1.2.2 (by decide : ¬ wk 1175 29 ∈ wMo)]; exact hl
set_option maxRecDepth 100000 in
theorem li89_3 {v : Int32} {m1 : MM} (hv : v = 3) (h : LiI m ln m1) (hx : Sx b e (.inr t) m1) (hB : MoI B m1) (hn : B.1 3 < 30) : At (E0 7) mX7_line (LiQ b e m ln (bd (saleT b e B t) (endS b e))) 89 [.ref 1175, .int v] [] m1 := by
  subst hv
  obtain ⟨hS, hl, h8⟩ := h
  have e12 : (40 : Int32).toInt = 40 := rfl
  have c27 : (gI m1 1175 28).toInt = B.1 3 := hB.1 3 (by omega)
  have hf : ((40 : Int32) + gI m1 1175 28).toInt = ((40 + B.1 3 : Nat) : Int) := by
    rw [tI_add (by rw [e12]; unfold i32lo; omega) (by rw [e12]; unfold i32hi; omega), e12, c27]; omega
  refine At.ls okLi 80 ⟨_, _, rfl⟩ ?_
  (conv => whnf)
  refine And.intro (fun z => absurd z (by decide)) (fun _ => ?_)
  refine And.intro (fun z => absurd z (by decide)) (fun _ => ?_)
  refine And.intro (fun z => absurd z (by decide)) (fun _ => ?_)
  refine And.intro (fun _ => ?_) (fun z => absurd rfl z)
  (conv => whnf)
  refine ⟨6, by decide, _, s_sale hx hB hf hn, ?_⟩
  rintro m2 ⟨S2, x2, A2⟩
  (conv => whnf)
  refine And.intro rfl (li244 ⟨⟨hS.1.tr S2.1 (fun x hx => List.mem_cons_of_mem _ hx), hS.2.tr S2.2⟩, ?_, h8⟩ x2 A2)
  rw [fr1 S2.1.2.2 (by decide : ¬ wk 1175 29 ∈ wMo)]; exact hl
set_option maxRecDepth 100000 in
theorem li89_4 {v : Int32} {m1 : MM} (hv : v = 4) (h : LiI m ln m1) (hx : Sx b e (.inr t) m1) (hB : MoI B m1) : At (E0 7) mX7_line (LiQ b e m ln (bd (paidT b e B t) (endS b e))) 89 [.ref 1175, .int v] [] m1 := by
  subst hv
  obtain ⟨hS, hl, h8⟩ := h
  refine At.ls okLi 80 ⟨_, _, rfl⟩ ?_
  (conv => whnf)
  refine And.intro (fun z => absurd z (by decide)) (fun _ => ?_)
  refine And.intro (fun z => absurd z (by decide)) (fun _ => ?_)
  refine And.intro (fun z => absurd z (by decide)) (fun _ => ?_)
  refine And.intro (fun z => absurd z (by decide)) (fun _ => ?_)
  (conv => whnf)
  refine ⟨6, by decide, _, s_paid hx hB, ?_⟩
  rintro m2 ⟨S2, x2, A2⟩
  (conv => whnf)
  refine And.intro rfl (li244 ⟨⟨hS.1.tr S2.1 (fun x hx => List.mem_cons_of_mem _ hx), hS.2.tr S2.2⟩, ?_, h8⟩ x2 A2)
  rw [fr1 S2.1.2.2 (by decide : ¬ wk 1175 29 ∈ wMo)]; exact hl
end Li
