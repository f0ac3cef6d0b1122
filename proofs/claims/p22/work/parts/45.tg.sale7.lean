/-! the model: the line of a sale -/
def sinS (B : TB) (fr to : Int) : Int := if B.2 5 fr.toNat < B.2 5 to.toNat then B.2 5 to.toNat else B.2 5 fr.toNat
section SaP
variable (b : BT) (e : Nat) (B : TB) (t : TK)
def saleT : ER (TB × TK) :=
  bd (tolS B 3 t) fun fr => bd (tolS B 3 (nx b e t)) fun to =>
  if to = fr then .inl (3, (nx b e t).2.1) else
  bd (numS b e 1 999 (nx b e (nx b e t))) fun x => bd (tolS B 2 x.2) fun go => bd (numS b e 1 999 (nx b e x.2)) fun y =>
  bd (dayS b e (sinS B fr to) y.2) fun d => bd (markS b e d.2) fun k =>
  .inr ((setN B.1 3 (B.1 3 + 1), saleR B fr to x.1 go y.1 d.1 k.1), k.2)
def sa1 : ER ((Int × Int) × TK) := bd (tolS B 3 t) fun fr => bd (tolS B 3 (nx b e t)) fun to => if to = fr then .inl (3, (nx b e t).2.1) else .inr ((fr, to), nx b e t)
def sa2f (a : (Int × Int) × TK) : ER ((Int × Int × Int × Int × Int) × TK) := bd (numS b e 1 999 (nx b e a.2)) fun x => bd (tolS B 2 x.2) fun go => bd (numS b e 1 999 (nx b e x.2)) fun y => if y.2.1 = 1 ∧ lg y.2.2.2.1 = 7 then .inr ((a.1.1, a.1.2, x.1, go, y.1), y.2) else .inl (1, y.2.2.1)
def sa3f (a : (Int × Int × Int × Int × Int) × TK) : ER ((Int × Int × Int × Int × Int) × TK) := if ((nx b e a.2).1 = 2 ∧ 0 ≤ (nx b e a.2).2.2.1 ∧ (nx b e a.2).2.2.1 ≤ 400) ∧ (nx b e a.2).2.2.1 < sinS B a.1.1 a.1.2.1 then .inl (5, (nx b e a.2).2.1) else .inr (a.1, nx b e a.2)
def sa4f (a : (Int × Int × Int × Int × Int) × TK) : ER (((Int × Int × Int × Int × Int) × Int × Int) × TK) := bd (numS b e 0 400 a.2) fun d => bd (markS b e d.2) fun k => .inr ((a.1, d.1, k.1), k.2)
def sa5f (a : ((Int × Int × Int × Int × Int) × Int × Int) × TK) : ER (TB × TK) := .inr ((setN B.1 3 (B.1 3 + 1), saleR B a.1.1.1 a.1.1.2.1 a.1.1.2.2.1 a.1.1.2.2.2.1 a.1.1.2.2.2.2 a.1.2.1 a.1.2.2), a.2)
end SaP
theorem saleS_T {b : BT} {e : Nat} {B : TB} {t : TK} : saleS b e B t = if B.1 3 = 30 then .inl (2, t.2.1) else saleT b e B (nx b e t) := rfl
theorem saleT_5 {b : BT} {e : Nat} {B : TB} {t : TK} : saleT b e B t = bd (bd (bd (bd (sa1 b e B t) (sa2f b e B)) (sa3f b e B)) (sa4f b e)) (sa5f B) := by
  unfold saleT sa1
  cases h1 : tolS B 3 t with
  | inl er => rfl
  | inr fr =>
    show bd (tolS B 3 (nx b e t)) _ = bd (bd (bd (bd (bd (tolS B 3 (nx b e t)) _) _) _) _) _
    cases h2 : tolS B 3 (nx b e t) with
    | inl er => rfl
    | inr to =>
      show (if to = fr then _ else _) = bd (bd (bd (bd (if to = fr then _ else _) _) _) _) _
      by_cases q : to = fr
      · rw [if_pos q, if_pos q]; rfl
      · rw [if_neg q, if_neg q]
        show _ = bd (bd (bd (sa2f b e B ((fr, to), nx b e t)) _) _) _
        unfold sa2f
        cases h3 : numS b e 1 999 (nx b e (nx b e t)) with
        | inl er => rfl
        | inr x =>
          show bd (tolS B 2 x.2) _ = bd (bd (bd (bd (tolS B 2 x.2) _) _) _) _
          cases h4 : tolS B 2 x.2 with
          | inl er => rfl
          | inr go =>
            show bd (numS b e 1 999 (nx b e x.2)) _ = bd (bd (bd (bd (numS b e 1 999 (nx b e x.2)) _) _) _) _
            cases h5 : numS b e 1 999 (nx b e x.2) with
            | inl er => rfl
            | inr y =>
              show bd (dayS b e (sinS B fr to) y.2) _ = bd (bd (bd (if y.2.1 = 1 ∧ lg y.2.2.2.1 = 7 then _ else _) _) _) _
              unfold dayS
              by_cases q7 : y.2.1 = 1 ∧ lg y.2.2.2.1 = 7
              · rw [if_pos q7, if_pos q7]
                show _ = bd (bd (sa3f b e B ((fr, to, x.1, go, y.1), y.2)) _) _
                unfold sa3f
                show _ = bd (bd (if ((nx b e y.2).1 = 2 ∧ 0 ≤ (nx b e y.2).2.2.1 ∧ (nx b e y.2).2.2.1 ≤ 400) ∧ (nx b e y.2).2.2.1 < sinS B fr to then _ else _) _) _
                by_cases q2 : (nx b e y.2).1 = 2 ∧ 0 ≤ (nx b e y.2).2.2.1 ∧ (nx b e y.2).2.2.1 ≤ 400
                · have hn : numS b e 0 400 (nx b e y.2) = .inr ((nx b e y.2).2.2.1, nx b e (nx b e y.2)) := by
                    unfold numS
                    rw [if_pos q2.1, if_pos q2.2]
                  rw [hn]
                  show bd (if (nx b e y.2).2.2.1 < sinS B fr to then _ else _) _ = _
                  by_cases q5 : (nx b e y.2).2.2.1 < sinS B fr to
                  · rw [if_pos q5, if_pos ⟨q2, q5⟩]; rfl
                  · rw [if_neg q5, if_neg (fun z => q5 z.2)]
                    show _ = bd (bd (numS b e 0 400 (nx b e y.2)) _) _
                    rw [hn]
                    show bd (markS b e (nx b e (nx b e y.2))) _ = bd (bd (markS b e (nx b e (nx b e y.2))) _) _
                    cases markS b e (nx b e (nx b e y.2)) <;> rfl
                · rw [if_neg (fun z => q2 z.1)]
                  show _ = bd (bd (numS b e 0 400 (nx b e y.2)) _) _
                  have hn : ∃ er, numS b e 0 400 (nx b e y.2) = .inl er := by
                    unfold numS
                    by_cases z : (nx b e y.2).1 = 2
                    · rw [if_pos z, if_neg (fun w => q2 ⟨z, w⟩)]; exact ⟨_, rfl⟩
                    · rw [if_neg z]; exact ⟨_, rfl⟩
                  obtain ⟨er, hn⟩ := hn
                  rw [hn]; rfl
              · rw [if_neg q7, if_neg q7]; rfl
def cdSa : List CE := stops [71, 147, 218, 223, 270] cdX7_sale
set_option maxRecDepth 20000 in
theorem okSa : CodeOk mX7_sale cdSa := okX7_sale.st [71, 147, 218, 223, 270] (by rfl)
section Sa
variable {b : BT} {e : Nat} {t : TK} {m : MM} {B : TB} {f : Int32}
def SaQ (b : BT) (e : Nat) (m : MM) (Y : ER (TB × TK)) : QQ := qv (fun m' => SM wMo m m' ∧ Sx b e (tl Y) m' ∧ ∀ a, Y = .inr a → MoI a.1 m')
def SaI (m : MM) (B : TB) (m1 : MM) : Prop := SM wMo m m1 ∧ MoI B m1 ∧ B.1 3 < 30
theorem tl_bd {α β : Type} {X : ER (α × TK)} {g : α × TK → ER (β × TK)} : tl (bd X g) = bd X (fun a => tl (g a)) := by cases X <;> rfl
set_option maxRecDepth 100000 in
set_option maxHeartbeats 4000000 in
theorem sa270 {X : ER (((Int × Int × Int × Int × Int) × Int × Int) × TK)} {r1 r2 r3 r4 r5 r6 r7 : Int32} {m1 : MM} (h : SaI m B m1) (hx : Sx b e (tl X) m1) (hN : NR [(329144, r7), (329128, r6), (329112, r5), (329096, r4), (329080, r3), (329064, r2), (329048, r1)] (40 + B.1 3) m1)
    (hv : ∀ a, X = .inr a → r1.toInt = a.1.1.1 ∧ r2.toInt = a.1.1.2.1 ∧ r3.toInt = a.1.1.2.2.1 ∧ r4.toInt = a.1.1.2.2.2.1 ∧ r5.toInt = a.1.1.2.2.2.2 ∧ r6.toInt = a.1.2.1 ∧ r7.toInt = a.1.2.2) : At (E0 6) mX7_sale (SaQ b e m (bd X (sa5f B))) 270 [.ref 1175, .int f] [] m1 := by
  obtain ⟨hS, hB, hn⟩ := h
  have c28 : (gI m1 1175 28).toInt = B.1 3 := hB.1 3 (by omega)
  have a1 := inc1 (k := gI m1 1175 28) (by omega)
  have S2 : St [124554052759] m1 (sI m1 1175 28 (gI m1 1175 28 + 1)) := (St.rf hS.1.1).fld (a := 1175) (k := 28) (v := gI m1 1175 28 + 1) (by decide) (show (0 : Int) ≤ _ by omega) (show _ ≤ (30 : Int) by omega) (fun _ z => by omega)
  refine At.ls okSa 40 ⟨_, _, rfl⟩ ?_
  (conv => whnf)
  refine ⟨hS.tl S2 (by decide) (by decide), ?_, fun a ha => ?_⟩
  · rw [tl_bd]
    have := hx.fr S2 (by decide)
    cases X with
    | inl er => exact this
    | inr a => exact this
  · cases X with
    | inl er => cases ha
    | inr w =>
      cases ha
      obtain ⟨e1, e2, e3, e4, e5, e6, e7⟩ := hv w rfl
      have q1 : gI m1 329048 (40 + B.1 3) = r1 := hN (329048, r1) (by simp)
      have q2 : gI m1 329064 (40 + B.1 3) = r2 := hN (329064, r2) (by simp)
      have q3 : gI m1 329080 (40 + B.1 3) = r3 := hN (329080, r3) (by simp)
      have q4 : gI m1 329096 (40 + B.1 3) = r4 := hN (329096, r4) (by simp)
      have q5 : gI m1 329112 (40 + B.1 3) = r5 := hN (329112, r5) (by simp)
      have q6 : gI m1 329128 (40 + B.1 3) = r6 := hN (329128, r6) (by simp)
      have q7 : gI m1 329144 (40 + B.1 3) = r7 := hN (329144, r7) (by simp)
      have eT : ∀ r i, r < 10 ∨ i < B.1 3 → saleR B w.1.1.1 w.1.1.2.1 w.1.1.2.2.1 w.1.1.2.2.2.1 w.1.1.2.2.2.2 w.1.2.1 w.1.2.2 r i = B.2 r i := fun r i hri => by
        have hne : ∀ r', 10 ≤ r' → ¬ (r = r' ∧ i = B.1 3) := fun r' h z => by omega
        unfold saleR setR
        rw [if_neg (hne 16 (by omega)), if_neg (hne 15 (by omega)), if_neg (hne 14 (by omega)), if_neg (hne 13 (by omega)), if_neg (hne 12 (by omega)), if_neg (hne 11 (by omega)), if_neg (hne 10 (by omega))]
      have own3 : ∀ r, 10 ≤ r → own r = 3 := fun r hr => by unfold own; rw [if_neg (by omega), if_neg (by omega), if_neg (by omega)]
      refine MoI.mk' (N := B.1) (k := 3) ⟨fun r hr i hi => ?_, hB.2.2.1, hB.2.2.2.1, hB.2.2.2.2.1, hB.2.2.2.2.2.1, fun i hi => ?_⟩ (by omega) (fun r hr ho => ?_) (fun j hj => ?_) ?_
      · have hi : i < B.1 (own r) := hi
        show _ = saleR B w.1.1.1 w.1.1.2.1 w.1.1.2.2.1 w.1.1.2.2.2.1 w.1.1.2.2.2.2 w.1.2.1 w.1.2.2 r i
        rw [eT r i (by
          rcases Nat.lt_or_ge r 10 with z | z
          · exact Or.inl z
          · rw [own3 r z] at hi; exact Or.inr hi)]
        exact (MoR.fld hB.2).1 r hr i hi
      · show lg (saleR B w.1.1.1 w.1.1.2.1 w.1.1.2.2.1 w.1.1.2.2.2.1 w.1.1.2.2.2.2 w.1.2.1 w.1.2.2 3 i) = -1
        rw [eT 3 i (Or.inl (by omega))]
        exact hB.2.2.2.2.2.2 i hi
      · rcases (by unfold own at ho; split at ho <;> (try split at ho) <;> (try split at ho) <;> omega : r = 10 ∨ r = 11 ∨ r = 12 ∨ r = 13 ∨ r = 14 ∨ r = 15 ∨ r = 16) with rfl | rfl | rfl | rfl | rfl | rfl | rfl
        · show (gI m1 329048 (40 + B.1 3)).toInt = _
          rw [q1, e1]; simp [saleR, setR]
        · show (gI m1 329064 (40 + B.1 3)).toInt = _
          rw [q2, e2]; simp [saleR, setR]
        · show (gI m1 329080 (40 + B.1 3)).toInt = _
          rw [q3, e3]; simp [saleR, setR]
        · show (gI m1 329096 (40 + B.1 3)).toInt = _
          rw [q4, e4]; simp [saleR, setR]
        · show (gI m1 329112 (40 + B.1 3)).toInt = _
          rw [q5, e5]; simp [saleR, setR]
        · show (gI m1 329128 (40 + B.1 3)).toInt = _
          rw [q6, e6]; simp [saleR, setR]
        · show (gI m1 329144 (40 + B.1 3)).toInt = _
          rw [q7, e7]; simp [saleR, setR]
      · rcases (by omega : j = 0 ∨ j = 1 ∨ j = 2 ∨ j = 3) with rfl | rfl | rfl | rfl
        · exact hB.1 0 (by omega)
        · exact hB.1 1 (by omega)
        · exact hB.1 2 (by omega)
        · show (gI m1 1175 28 + 1).toInt = ((B.1 3 + 1 : Nat) : Int)
          omega
      · refine ⟨hB.2.2.1, hB.2.2.2.1, hB.2.2.2.2.1, by show B.1 3 + 1 ≤ 30; omega, fun i hi => ?_⟩
        have hi : i < B.1 2 := hi
        show lg (saleR B w.1.1.1 w.1.1.2.1 w.1.1.2.2.1 w.1.1.2.2.2.1 w.1.1.2.2.2.2 w.1.2.1 w.1.2.2 3 i) = -1
        rw [eT 3 i (Or.inl (by omega))]
        exact hB.2.2.2.2.2.2 i hi
set_option maxRecDepth 100000 in
set_option maxHeartbeats 4000000 in
theorem sa223 {X : ER ((Int × Int × Int × Int × Int) × TK)} {r1 r2 r3 r4 r5 : Int32} {m1 : MM} (hf : f.toInt = ((40 + B.1 3 : Nat) : Int)) (h : SaI m B m1) (hx : Sx b e (tl X) m1) (hN : NR [(329112, r5), (329096, r4), (329080, r3), (329064, r2), (329048, r1)] (40 + B.1 3) m1)
    (hv : ∀ a, X = .inr a → r1.toInt = a.1.1 ∧ r2.toInt = a.1.2.1 ∧ r3.toInt = a.1.2.2.1 ∧ r4.toInt = a.1.2.2.2.1 ∧ r5.toInt = a.1.2.2.2.2) : At (E0 6) mX7_sale (SaQ b e m (bd (bd X (sa4f b e)) (sa5f B))) 223 [.ref 1175, .int f] [] m1 := by
  obtain ⟨hS, hB, hn⟩ := h
  have hvp : vp_in f 80 := vp_in_iff.mpr ⟨by omega, show f.toInt < ((80 : Nat) : Int) by omega⟩
  have e0 : (0 : Int32).toInt = 0 := rfl
  have e1 : (1 : Int32).toInt = 1 := rfl
  have e400 : (400 : Int32).toInt = 400 := rfl
  have e99 : (99 : Int32).toInt = 99 := rfl
  have e8 : (8 : Int32).toInt = 8 := rfl
  refine At.ls okSa 100 ⟨_, _, rfl⟩ ?_
  (conv => whnf)
  refine ⟨5, by decide, _, s_num hx (by decide) (by decide) (by decide), ?_⟩
  rintro r6 m2 ⟨S2, x2, v2, l2, u2⟩
  rw [e0, e400] at x2 v2
  (conv => whnf)
  refine And.intro hvp ?_
  (conv => whnf)
  refine And.intro hvp ?_
  rw [nat_c hf]
  have S3 : St [329128, 329144] m2 (sI (sI m2 329128 (40 + B.1 3) r6) 329144 (40 + B.1 3) 0) := ((St.rf S2.1).row (a := 329128) (k := 40 + B.1 3) (v := r6) rfl (by decide) (tI_lo _) (tI_hi _)).row (a := 329144) (k := 40 + B.1 3) (v := 0) rfl (by decide) (tI_lo _) (tI_hi _)
  have T3 := (hS.tl S2 (by decide) (by decide)).tw S3 (by decide) (LoF.st 40 (LoF.st 40 LoF.rf (by omega) (by decide)) (by omega) (by decide))
  have x3 := x2.fr S3 (by decide)
  have B3 : MoI B (sI (sI m2 329128 (40 + B.1 3) r6) 329144 (40 + B.1 3) 0) := ((hB.fr S2.2.2 (by decide)).out (r := 15) (by omega) (Nat.le_refl _)).out (r := 16) (by omega) (Nat.le_refl _)
  have N3' : NR [(329128, r6), (329112, r5), (329096, r4), (329080, r3), (329064, r2), (329048, r1)] (40 + B.1 3) (sI m2 329128 (40 + B.1 3) r6) := (hN.fr S2.2.2 (by simp only [List.map_cons, List.map_nil]; decide)).add (by simp only [List.map_cons, List.map_nil]; decide)
  have N3 : NR [(329144, 0), (329128, r6), (329112, r5), (329096, r4), (329080, r3), (329064, r2), (329048, r1)] (40 + B.1 3) (sI (sI m2 329128 (40 + B.1 3) r6) 329144 (40 + B.1 3) 0) := N3'.add (by simp only [List.map_cons, List.map_nil]; decide)
  have N3o : ∀ v, NR [(329144, v), (329128, r6), (329112, r5), (329096, r4), (329080, r3), (329064, r2), (329048, r1)] (40 + B.1 3) (sI (sI (sI m2 329128 (40 + B.1 3) r6) 329144 (40 + B.1 3) 0) 329144 (40 + B.1 3) v) := fun v => by
    have N4 : NR [(329128, r6), (329112, r5), (329096, r4), (329080, r3), (329064, r2), (329048, r1)] (40 + B.1 3) (sI (sI m2 329128 (40 + B.1 3) r6) 329144 (40 + B.1 3) 0) := fun q hq => N3 q (List.mem_cons_of_mem _ hq)
    exact N4.add (by simp only [List.map_cons, List.map_nil]; decide)
  have N4 : NR [(329128, r6), (329112, r5), (329096, r4), (329080, r3), (329064, r2), (329048, r1)] (40 + B.1 3) (sI (sI m2 329128 (40 + B.1 3) r6) 329144 (40 + B.1 3) 0) := fun q hq => N3 q (List.mem_cons_of_mem _ hq)
  clear N3o
  revert S3 T3 x3 B3 N3 N4
  generalize sI (sI m2 329128 (40 + B.1 3) r6) 329144 (40 + B.1 3) 0 = m3
  intro S3 T3 x3 B3 N3 N4
  have e4 : bd X (sa4f b e) = bd (bd (tl X) (numS b e 0 400)) fun d => bd X fun a => bd (markS b e d.2) fun k => .inr ((a.1, d.1, k.1), k.2) := by
    cases X with
    | inl er => rfl
    | inr a => rfl
  (conv => whnf)
  refine ⟨1, by decide, _, s_isWord x3 (by decide), ?_⟩
  rintro r m' ⟨hmm, hr⟩; have hmm := hmm.symm; subst hmm
  rw [e8] at hr
  (conv => whnf)
  refine And.intro (fun q => ?_) (fun q => ?_)
  · have hno : ∀ d, bd (tl X) (numS b e 0 400) = .inr d → markS b e d.2 = .inr (0, d.2) := fun d hd => by
      unfold markS
      rw [if_neg (fun z => by
        rcases hr with ⟨_, y⟩ | y
        · rw [y] at q; exact absurd q (by decide)
        · exact y.1 ⟨d.2, by rw [hd]; rfl, z.1, z.2⟩)]
    (conv => whnf)
    refine And.intro rfl (sa270 ⟨T3, B3, hn⟩ ?_ N3 (fun a ha => ?_))
    · rw [e4, tl_bd]
      cases hd : bd (tl X) (numS b e 0 400) with
      | inl er => rw [hd] at x3; exact x3
      | inr d =>
        rw [hd] at x3
        show Sx b e (tl (bd X fun a => bd (markS b e d.2) fun k => .inr ((a.1, d.1, k.1), k.2))) m3
        rw [hno d hd]
        cases X with
        | inl er => cases hd
        | inr a => exact x3
    · rw [e4] at ha
      obtain ⟨d, hd, ha⟩ := bd_r ha
      obtain ⟨w, hw, ha⟩ := bd_r ha
      rw [hno d hd] at ha
      cases ha
      obtain ⟨y1, y2, y3, y4, y5⟩ := hv w hw
      exact ⟨y1, y2, y3, y4, y5, v2 d hd, rfl⟩
  · have hyes : ∃ d, bd (tl X) (numS b e 0 400) = .inr d ∧ d.2.1 = 1 ∧ lg d.2.2.2.1 = 8 := by
      rcases hr with ⟨⟨t', y1, y2, y3⟩, _⟩ | y
      · obtain ⟨d, hd, hd2⟩ := bd_r y1
        cases hd2
        exact ⟨d, hd, y2, y3⟩
      · exact absurd y.2 q
    obtain ⟨d, hd, hd1, hd2⟩ := hyes
    have em : markS b e d.2 = numS b e 1 99 (nx b e d.2) := by
      unfold markS
      rw [if_pos ⟨hd1, hd2⟩]
    rw [hd] at x3
    have x3 : Sx b e (.inr d.2) m3 := x3
    (conv => whnf)
    refine ⟨4, by decide, _, s_next x3, ?_⟩
    rintro m4 ⟨S4, x4⟩
    (conv => whnf)
    refine ⟨5, by decide, _, s_num x4 (by decide) (by decide) (by decide), ?_⟩
    rintro r7 m5 ⟨S5, x5, v5, l5, u5⟩
    rw [e1, e99] at x5 v5
    (conv => whnf)
    refine And.intro hvp ?_
    (conv => whnf)
    rw [nat_c hf]
    have S6 : St [329144] m5 (sI m5 329144 (40 + B.1 3) r7) := (St.rf S5.1).row (a := 329144) (k := 40 + B.1 3) (v := r7) rfl (by decide) (tI_lo _) (tI_hi _)
    refine And.intro rfl (sa270 (r7 := r7) ⟨((T3.tl S4 (by decide) (by decide)).tl S5 (by decide) (by decide)).tw S6 (by decide) (LoF.st 40 LoF.rf (by omega) (by decide)), ((B3.fr S4.2.2 (by decide)).fr S5.2.2 (by decide)).out (r := 16) (by omega) (Nat.le_refl _), hn⟩ ?_ (((N4.fr S4.2.2 (by simp only [List.map_cons, List.map_nil]; decide)).fr S5.2.2 (by simp only [List.map_cons, List.map_nil]; decide)).add (by simp only [List.map_cons, List.map_nil]; decide)) (fun a ha => ?_))
    · have x6 := x5.fr S6 (by decide)
      rw [e4, hd]
      show Sx b e (tl (bd X fun a => bd (markS b e d.2) fun k => .inr ((a.1, d.1, k.1), k.2))) _
      rw [em]
      cases X with
      | inl er => cases hd
      | inr a =>
        have x6 : Sx b e (tl (numS b e 1 99 (nx b e d.2))) (sI m5 329144 (40 + B.1 3) r7) := x6
        cases hk : numS b e 1 99 (nx b e d.2) with
        | inl er => rw [hk] at x6; exact x6
        | inr k => rw [hk] at x6; exact x6
    · rw [e4, hd] at ha
      obtain ⟨w, hw, ha⟩ := bd_r (show bd X (fun a => bd (markS b e d.2) fun k => .inr ((a.1, d.1, k.1), k.2)) = .inr a from ha)
      rw [em] at ha
      obtain ⟨k, hk, ha⟩ := bd_r ha
      cases ha
      obtain ⟨y1, y2, y3, y4, y5⟩ := hv w hw
      exact ⟨y1, y2, y3, y4, y5, v2 d hd, v5 k hk⟩
end Sa
