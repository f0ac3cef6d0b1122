/-! the class reads a book -/
def cdRd : List CE := stops [260] cdX3_read
theorem okRd : CodeOk mX3_read cdRd := okX3_read.st [260] (by rfl)
/-- what is left of a reading: the answer, the fault, the book -/
def RdO (bk : Nat) (R : ER (TB × Nat)) (r : Int32) (m' : MM) : Prop := match R with
  | .inl er => r = -1 ∧ (gI m' 19 2).toInt = er.1 ∧ (gI m' 19 3).toInt = er.2
  | .inr x => r.toInt = x.2 ∧ gI m' 19 2 = 0 ∧ gI m' 19 3 = -1 ∧ BkI bk x.1 m'
def RdG (bk : Nat) (W : List Nat) (b : BT) (e : Nat) (m : MM) (R : ER (TB × Nat)) (f : Nat) (B : TB) (t : TK) (ln : Nat) (m1 : MM) : Prop := CR b e t m1 ∧ BkI bk B m1 ∧ St W m m1 ∧ gI m1 19 2 = 0 ∧ gI m1 19 3 = -1 ∧ gI m1 19 1 = 0 ∧ TO b e t ∧ ln ≤ t.2.1 ∧ bookS b e f B t ln = R ∧ f + ln = 801
def RdB (W : List Nat) (m : MM) (R : ER (TB × Nat)) (m1 : MM) : Prop := St W m m1 ∧ gI m1 19 1 = 0 ∧ ∃ er, R = .inl er ∧ (gI m1 19 2).toInt = er.1 ∧ (gI m1 19 3).toInt = er.2
def RdQ (bk : Nat) (W : List Nat) (m : MM) (R : ER (TB × Nat)) : QQ := qi (fun r m' => St W m m' ∧ gI m' 19 1 = 0 ∧ RdO bk R r m')
section Rd
variable {b : BT} {e : Nat} {m : MM} {R : ER (TB × Nat)} {n : Int32}
set_option maxRecDepth 100000 in
set_option maxHeartbeats 8000000 in
theorem rdBad_336 {ln : Int32} {m1 : MM} (h : RdB wReB m R m1) : At (E0 7) mX3_read (RdQ 336 wReB m R) 41 [.ref 19, .int n, .ref 336, .int ln, .int 0] [] m1 := by
  obtain ⟨hS, h1, er, rfl, h2, h3⟩ := h
  refine At.ls okRd 60 ⟨_, _, rfl⟩ ?_
  (conv => whnf)
  refine And.intro (fun _ => ?_) (fun _ => ?_)
  · (conv => whnf)
    refine And.intro (fun _ => ?_) (fun q => absurd rfl q)
    exact ⟨hS, h1, rfl, h2, h3⟩
  · (conv => whnf)
    refine And.intro (fun _ => ?_) (fun q => absurd rfl q)
    (conv => whnf)
    refine And.intro (fun _ => ?_) (fun q => absurd rfl q)
    exact ⟨hS, h1, rfl, h2, h3⟩
set_option maxRecDepth 100000 in
theorem rd260z_336 {ln : Int32} {m1 : MM} (h : RdB wReB m R m1) : At (E0 7) mX3_read (RdQ 336 wReB m R) 260 [.ref 19, .int n, .ref 336, .int ln, .int 0] [] m1 := by
  refine At.ls okRd 60 ⟨_, _, rfl⟩ ?_
  (conv => whnf)
  exact And.intro rfl (rdBad_336 h)
set_option maxRecDepth 100000 in
set_option maxHeartbeats 16000000 in
theorem rd41_336 (h8 : e ≤ 800) : ∀ (f : Nat) (B : TB) (t : TK) (ln : Nat) (lI : Int32) (m1 : MM), lI.toInt = ln → RdG 336 wReB b e m R f B t ln m1 → At (E0 7) mX3_read (RdQ 336 wReB m R) 41 [.ref 19, .int n, .ref 336, .int lI, .int 1] [] m1 := by
  intro f
  induction f with
  | zero =>
    intro B t ln lI m1 hl h
    obtain ⟨hC, hB, hS, z1, z2, z3, hT, hle, hR, hf⟩ := h
    have := hT.s
    omega
  | succ f ih =>
    intro B t ln lI m1 hl h
    obtain ⟨hC, hB, hS, z1, z2, z3, hT, hle, hR, hf⟩ := h
    have e0 : (0 : Int32).toInt = 0 := rfl
    have e800 : (800 : Int32).toInt = 800 := rfl
    have hs := hT.s
    have hb : isBk 336 := by unfold isBk; omega
    obtain ⟨k1, k2, k3, k4⟩ := hC.2.2.2.2.1
    have hR : (if t.1 = 0 then (.inr (B, ln) : ER (TB × Nat)) else bd (lineS b e B t) fun x => bookS b e f x.1 x.2 (ln + 1)) = R := hR
    have a1 := inc1 (k := lI) (by omega)
    -- behind a line
    have go1 : ∀ (m3 : MM) (x : TB × TK), lineS b e B t = .inr x → t.1 ≠ 0 → CR b e x.2 m3 → BkI 336 x.1 m3 → St wReB m m3 → gI m3 19 2 = 0 → gI m3 19 3 = -1 → gI m3 19 1 = 0 → At (E0 7) mX3_read (RdQ 336 wReB m R) 260 [.ref 19, .int n, .ref 336, .int lI, .int 1] [] m3 := by
      intro m3 x hx ht0 c3 b3 s3 y1 y2 y3
      rw [if_neg ht0, hx] at hR
      have g := lineS_go hT hx
      refine At.ls okRd 60 ⟨_, _, rfl⟩ ?_
      (conv => whnf)
      exact And.intro rfl (ih x.1 x.2 (ln + 1) (lI + 1) m3 (by omega) ⟨c3, b3, s3, y1, y2, y3, g.1, by omega, hR, by omega⟩)
    have go0 : ∀ (m3 : MM) (er : Nat × Nat), lineS b e B t = .inl er → t.1 ≠ 0 → St wReB m m3 → gI m3 19 1 = 0 → (gI m3 19 2).toInt = er.1 → (gI m3 19 3).toInt = er.2 → At (E0 7) mX3_read (RdQ 336 wReB m R) 260 [.ref 19, .int n, .ref 336, .int lI, .int 0] [] m3 := by
      intro m3 er hx ht0 s3 y3 y1 y2
      rw [if_neg ht0, hx] at hR
      exact rd260z_336 ⟨s3, y3, er, hR.symm, y1, y2⟩
    -- the line's end
    have ends : ∀ (m2 m3 : MM) (x : TB × TK) (r : Int32), bodyS b e B t = .inr x → t.1 ≠ 0 → CR b e x.2 m2 → BkI 336 x.1 m2 → St wReB m m2 → gI m2 19 2 = 0 → gI m2 19 3 = -1 → gI m2 19 1 = 0 → (St wNu m2 m3 ∧ OC m2 m3 (if x.2.1 = 3 then .inr (nx b e x.2) else .inl (1, x.2.2.1)) (r = 0) (fun y => r = 1 ∧ CR b e y m3)) →
        (r = 0 → At (E0 7) mX3_read (RdQ 336 wReB m R) 260 [.ref 19, .int n, .ref 336, .int lI, .int 0] [] m3) ∧ (r ≠ 0 → At (E0 7) mX3_read (RdQ 336 wReB m R) 260 [.ref 19, .int n, .ref 336, .int lI, .int 1] [] m3) := by
      intro m2 m3 x r hx ht0 c2 b2 s2 y1 y2 y3 o3
      obtain ⟨S3, o3⟩ := o3
      have s3 : St wReB m m3 := s2.tr S3 (by decide)
      have y4 : gI m3 19 1 = 0 := (fr1 S3.2.2 (by decide)).trans y3
      have eL : lineS b e B t = if x.2.1 = 3 then .inr (x.1, nx b e x.2) else .inl (1, x.2.2.1) := by
        unfold lineS
        rw [hx]; rfl
      by_cases q : x.2.1 = 3
      · rw [if_pos q] at o3 eL
        obtain ⟨⟨q1, q2⟩, q3, q4⟩ := o3
        refine ⟨fun z => absurd (q1.symm.trans z) (by decide), fun _ => go1 m3 (x.1, nx b e x.2) eL ht0 q2 (b2.fr hb S3.2.2 (by decide)) s3 (q3.trans y1) (q4.trans y2) y4⟩
      · rw [if_neg q] at o3 eL
        obtain ⟨q1, q3, q4⟩ := o3
        exact ⟨fun _ => go0 m3 _ eL ht0 s3 y4 q3 q4, fun z => absurd q1 z⟩
    have bad : ∀ (m2 : MM) (er : Nat × Nat), bodyS b e B t = .inl er → t.1 ≠ 0 → St wReB m m2 → gI m2 19 1 = 0 → (gI m2 19 2).toInt = er.1 → (gI m2 19 3).toInt = er.2 → At (E0 7) mX3_read (RdQ 336 wReB m R) 260 [.ref 19, .int n, .ref 336, .int lI, .int 0] [] m2 := fun m2 er hx ht0 s2 y3 y1 y2 => go0 m2 er (by unfold lineS; rw [hx]; rfl) ht0 s2 y3 y1 y2
    have none' : ¬ (t.1 = 1 ∧ (lg t.2.2.1 = 0 ∨ lg t.2.2.1 = 1 ∨ lg t.2.2.1 = 2 ∨ lg t.2.2.1 = 3 ∨ lg t.2.2.1 = 4)) → bodyS b e B t = .inl (1, t.2.1) := fun q => by
      unfold bodyS
      by_cases q1 : t.1 = 1
      · rw [if_pos q1, if_neg (fun z => q ⟨q1, Or.inl z⟩), if_neg (fun z => q ⟨q1, Or.inr (Or.inl z)⟩), if_neg (fun z => q ⟨q1, Or.inr (Or.inr (Or.inl z))⟩), if_neg (fun z => q ⟨q1, Or.inr (Or.inr (Or.inr (Or.inl z)))⟩), if_neg (fun z => q ⟨q1, Or.inr (Or.inr (Or.inr (Or.inr z)))⟩)]
      · rw [if_neg q1]
    refine At.ls okRd 120 ⟨_, _, rfl⟩ ?_
    (conv => whnf)
    refine And.intro (fun h1 => ?_) (fun h1 => ?_)
    · rw [le_i] at h1
      have ht0 : t.1 = 0 := Classical.byContradiction (fun q => by have := hs.2.2 q; omega)
      rw [if_pos ht0] at hR
      (conv => whnf)
      refine And.intro (fun q => absurd q (by decide)) (fun _ => ?_)
      subst hR
      exact ⟨hS, z3, hl, z1, z2, hB⟩
    · (conv => whnf)
      refine And.intro (fun q => absurd q (by decide)) (fun _ => ?_)
      (conv => whnf)
      refine And.intro (fun h2 => ?_) (fun h2 => ?_)
      · have h2 : gI m1 19 6 = 0 := h2
        have ht0 : t.1 = 0 := by rw [h2] at k1; omega
        rw [if_pos ht0] at hR
        (conv => whnf)
        refine And.intro (fun q => absurd q (by decide)) (fun _ => ?_)
        subst hR
        exact ⟨hS, z3, hl, z1, z2, hB⟩
      · have h2 : ¬ gI m1 19 6 = 0 := h2
        have ht0 : t.1 ≠ 0 := fun q => h2 (Int32.toInt_inj.mp (by rw [k1, q]; rfl))
        (conv => whnf)
        refine And.intro (fun h3 => ?_) (fun h3 => ?_)
        · have h3 : ¬ gI m1 19 6 = 1 := h3
          have ht1 : ¬ t.1 = 1 := fun q => h3 (Int32.toInt_inj.mp (by rw [k1, q]; rfl))
          (conv => whnf)
          refine And.intro (fun q => absurd q (by decide)) (fun _ => ?_)
          refine And.intro (fun q => absurd q (by decide)) (fun _ => ?_)
          refine And.intro (fun q => absurd q (by decide)) (fun _ => ?_)
          refine And.intro (fun q => absurd q (by decide)) (fun _ => ?_)
          refine And.intro (fun q => absurd q (by decide)) (fun _ => ?_)
          (conv => whnf)
          refine ⟨1, by decide, _, r_fail, ?_⟩
          rintro r4 m4 ⟨q1, q2⟩
          subst q1
          subst q2
          (conv => whnf)
          exact And.intro rfl (bad _ _ (none' (fun q => ht1 q.1)) ht0 (St_fail hS (by decide) (by decide)) z3 rfl k2)
        · have h3 : gI m1 19 6 = 1 := h3
          have ht1 : t.1 = 1 := by have : (1 : Int32).toInt = 1 := rfl; rw [h3] at k1; omega
          (conv => whnf)
          refine And.intro (fun h4 => ?_) (fun h40 => ?_)
          · have h4 : gI m1 19 8 = 211366912 := h4
            have ev : lg t.2.2.1 = 2 := lg_2.mpr (by rw [← k3, h4]; rfl)
            have eB : bodyS b e B t = firmS b e B t := by
              unfold bodyS
              rw [if_pos ht1, if_neg (by rw [ev]; decide), if_neg (by rw [ev]; decide), if_pos ev]
            (conv => whnf)
            refine ⟨6, by decide, _, r_firm_336 hC hB, ?_⟩
            rintro r2 m2 ⟨S2, o2⟩
            rw [← eB] at o2
            have T2 : St wReB m m2 := hS.tr S2 (fun x hx => List.mem_cons_of_mem _ hx)
            have y3 : gI m2 19 1 = 0 := (fr1 S2.2.2 (by decide)).trans z3
            (conv => whnf)
            rcases OC_c o2 with ⟨er, ex, hbad, f1, f2⟩ | ⟨x, ex, ⟨g1, g2, g3⟩, f1, f2⟩
            · refine And.intro (fun _ => ?_) (fun q => absurd hbad q)
              (conv => whnf)
              exact And.intro rfl (bad m2 er ex ht0 T2 y3 f1 f2)
            · refine And.intro (fun q => absurd (g1.symm.trans q) (by decide)) (fun _ => ?_)
              (conv => whnf)
              refine ⟨4, by decide, _, r_ends g2, ?_⟩
              rintro r3 m3 o3
              have E3 := ends m2 m3 x r3 ex ht0 g2 g3 T2 (f1.trans z1) (f2.trans z2) y3 o3
              (conv => whnf)
              refine And.intro (fun q => ?_) (fun q => ?_)
              · (conv => whnf)
                exact And.intro rfl (E3.1 q)
              · (conv => whnf)
                exact And.intro rfl (E3.2 q)
          refine And.intro (fun h4 => ?_) (fun h41 => ?_)
          · have h4 : gI m1 19 8 = 251105280 := h4
            have ev : lg t.2.2.1 = 1 := lg_1.mpr (by rw [← k3, h4]; rfl)
            have eB : bodyS b e B t = goodS b e B t := by
              unfold bodyS
              rw [if_pos ht1, if_neg (by rw [ev]; decide), if_pos ev]
            (conv => whnf)
            refine ⟨5, by decide, _, r_good_336 hC hB, ?_⟩
            rintro r2 m2 ⟨S2, o2⟩
            rw [← eB] at o2
            have T2 : St wReB m m2 := hS.tr S2 (fun x hx => List.mem_cons_of_mem _ hx)
            have y3 : gI m2 19 1 = 0 := (fr1 S2.2.2 (by decide)).trans z3
            (conv => whnf)
            rcases OC_c o2 with ⟨er, ex, hbad, f1, f2⟩ | ⟨x, ex, ⟨g1, g2, g3⟩, f1, f2⟩
            · refine And.intro (fun _ => ?_) (fun q => absurd hbad q)
              (conv => whnf)
              exact And.intro rfl (bad m2 er ex ht0 T2 y3 f1 f2)
            · refine And.intro (fun q => absurd (g1.symm.trans q) (by decide)) (fun _ => ?_)
              (conv => whnf)
              refine ⟨4, by decide, _, r_ends g2, ?_⟩
              rintro r3 m3 o3
              have E3 := ends m2 m3 x r3 ex ht0 g2 g3 T2 (f1.trans z1) (f2.trans z2) y3 o3
              (conv => whnf)
              refine And.intro (fun q => ?_) (fun q => ?_)
              · (conv => whnf)
                exact And.intro rfl (E3.1 q)
              · (conv => whnf)
                exact And.intro rfl (E3.2 q)
          refine And.intro (fun h4 => ?_) (fun h42 => ?_)
          · have h4 : gI m1 19 8 = 404164608 := h4
            have ev : lg t.2.2.1 = 0 := lg_0.mpr (by rw [← k3, h4]; rfl)
            have eB : bodyS b e B t = landS b e B t := by
              unfold bodyS
              rw [if_pos ht1, if_pos ev]
            (conv => whnf)
            refine ⟨5, by decide, _, r_land_336 hC hB, ?_⟩
            rintro r2 m2 ⟨S2, o2⟩
            rw [← eB] at o2
            have T2 : St wReB m m2 := hS.tr S2 (fun x hx => List.mem_cons_of_mem _ hx)
            have y3 : gI m2 19 1 = 0 := (fr1 S2.2.2 (by decide)).trans z3
            (conv => whnf)
            rcases OC_c o2 with ⟨er, ex, hbad, f1, f2⟩ | ⟨x, ex, ⟨g1, g2, g3⟩, f1, f2⟩
            · refine And.intro (fun _ => ?_) (fun q => absurd hbad q)
              (conv => whnf)
              exact And.intro rfl (bad m2 er ex ht0 T2 y3 f1 f2)
            · refine And.intro (fun q => absurd (g1.symm.trans q) (by decide)) (fun _ => ?_)
              (conv => whnf)
              refine ⟨4, by decide, _, r_ends g2, ?_⟩
              rintro r3 m3 o3
              have E3 := ends m2 m3 x r3 ex ht0 g2 g3 T2 (f1.trans z1) (f2.trans z2) y3 o3
              (conv => whnf)
              refine And.intro (fun q => ?_) (fun q => ?_)
              · (conv => whnf)
                exact And.intro rfl (E3.1 q)
              · (conv => whnf)
                exact And.intro rfl (E3.2 q)
          refine And.intro (fun h4 => ?_) (fun h43 => ?_)
          · have h4 : gI m1 19 8 = 538218496 := h4
            have ev : lg t.2.2.1 = 4 := lg_4.mpr (by rw [← k3, h4]; rfl)
            have eB : bodyS b e B t = paidS b e B t := by
              unfold bodyS
              rw [if_pos ht1, if_neg (by rw [ev]; decide), if_neg (by rw [ev]; decide), if_neg (by rw [ev]; decide), if_neg (by rw [ev]; decide), if_pos ev]
            (conv => whnf)
            refine ⟨5, by decide, _, r_paid_336 hC hB, ?_⟩
            rintro r2 m2 ⟨S2, o2⟩
            rw [← eB] at o2
            have T2 : St wReB m m2 := hS.tr S2 (fun x hx => List.mem_cons_of_mem _ hx)
            have y3 : gI m2 19 1 = 0 := (fr1 S2.2.2 (by decide)).trans z3
            (conv => whnf)
            rcases OC_c o2 with ⟨er, ex, hbad, f1, f2⟩ | ⟨x, ex, ⟨g1, g2, g3⟩, f1, f2⟩
            · refine And.intro (fun _ => ?_) (fun q => absurd hbad q)
              (conv => whnf)
              exact And.intro rfl (bad m2 er ex ht0 T2 y3 f1 f2)
            · refine And.intro (fun q => absurd (g1.symm.trans q) (by decide)) (fun _ => ?_)
              (conv => whnf)
              refine ⟨4, by decide, _, r_ends g2, ?_⟩
              rintro r3 m3 o3
              have E3 := ends m2 m3 x r3 ex ht0 g2 g3 T2 (f1.trans z1) (f2.trans z2) y3 o3
              (conv => whnf)
              refine And.intro (fun q => ?_) (fun q => ?_)
              · (conv => whnf)
                exact And.intro rfl (E3.1 q)
              · (conv => whnf)
                exact And.intro rfl (E3.2 q)
          refine And.intro (fun h4 => ?_) (fun h44 => ?_)
          · have h4 : gI m1 19 8 = 638981120 := h4
            have ev : lg t.2.2.1 = 3 := lg_3.mpr (by rw [← k3, h4]; rfl)
            have eB : bodyS b e B t = saleS b e B t := by
              unfold bodyS
              rw [if_pos ht1, if_neg (by rw [ev]; decide), if_neg (by rw [ev]; decide), if_neg (by rw [ev]; decide), if_pos ev]
            (conv => whnf)
            refine ⟨6, by decide, _, r_sale_336 hC hB, ?_⟩
            rintro r2 m2 ⟨S2, o2⟩
            rw [← eB] at o2
            have T2 : St wReB m m2 := hS.tr S2 (fun x hx => List.mem_cons_of_mem _ hx)
            have y3 : gI m2 19 1 = 0 := (fr1 S2.2.2 (by decide)).trans z3
            (conv => whnf)
            rcases OC_c o2 with ⟨er, ex, hbad, f1, f2⟩ | ⟨x, ex, ⟨g1, g2, g3⟩, f1, f2⟩
            · refine And.intro (fun _ => ?_) (fun q => absurd hbad q)
              (conv => whnf)
              exact And.intro rfl (bad m2 er ex ht0 T2 y3 f1 f2)
            · refine And.intro (fun q => absurd (g1.symm.trans q) (by decide)) (fun _ => ?_)
              (conv => whnf)
              refine ⟨4, by decide, _, r_ends g2, ?_⟩
              rintro r3 m3 o3
              have E3 := ends m2 m3 x r3 ex ht0 g2 g3 T2 (f1.trans z1) (f2.trans z2) y3 o3
              (conv => whnf)
              refine And.intro (fun q => ?_) (fun q => ?_)
              · (conv => whnf)
                exact And.intro rfl (E3.1 q)
              · (conv => whnf)
                exact And.intro rfl (E3.2 q)
          (conv => whnf)
          refine ⟨1, by decide, _, r_fail, ?_⟩
          rintro r4 m4 ⟨q1, q2⟩
          subst q1
          subst q2
          (conv => whnf)
          refine And.intro rfl (bad _ _ (none' (fun q => ?_)) ht0 (St_fail hS (by decide) (by decide)) z3 rfl k2)
          rcases q.2 with q | q | q | q | q
          · exact h42 (Int32.toInt_inj.mp (by rw [k3, lg_0.mp q]; rfl))
          · exact h41 (Int32.toInt_inj.mp (by rw [k3, lg_1.mp q]; rfl))
          · exact h40 (Int32.toInt_inj.mp (by rw [k3, lg_2.mp q]; rfl))
          · exact h44 (Int32.toInt_inj.mp (by rw [k3, lg_3.mp q]; rfl))
          · exact h43 (Int32.toInt_inj.mp (by rw [k3, lg_4.mp q]; rfl))
set_option maxRecDepth 100000 in
set_option maxHeartbeats 8000000 in
theorem r_read_336 (hM : Mok TYg m) (hb : cbR m b e) (hn : n.toInt = e) (hsz : e ≤ (gI m 19 1).toInt) (hB : BkI 336 B0 m) : CI 7 mX3_read [.ref 19, .int n, .ref 336] m (fun r m' => St wReB m m' ∧ gI m' 19 1 = 0 ∧ RdO 336 (readS b e) r m') := by
  have hsz2 : (0 : Int) ≤ (gI m 19 1).toInt ∧ (gI m 19 1).toInt ≤ 800 := hM.1 19 1
  have hk : isBk 336 := by unfold isBk; omega
  have hv : (if gI m 19 1 < n then gI m 19 1 else n : Int32) = n := by
    by_cases q : gI m 19 1 < n
    · rw [lt_i] at q; omega
    · rw [if_neg q]
  have hS : St (21474836499 :: 8589934611 :: wNu) m (sI (sI (sI (sI (sI m 19 4 n) 19 1 0) 19 5 0) 19 2 0) 19 3 (-1)) :=
    (((((St.rf (W := 21474836499 :: 8589934611 :: wNu) hM).fld (a := 19) (k := 4) (v := n) (by decide) (show (0 : Int) ≤ _ by omega) (show _ ≤ (800 : Int) by omega) (fun _ q => by omega)).fld (a := 19) (k := 1) (v := 0) (by decide) (by decide) (by decide) (fun _ q => by omega)).fld (a := 19) (k := 5) (v := 0) (by decide) (by decide) (by decide) (fun _ q => by omega)).fld (a := 19) (k := 2) (v := 0) (by decide) (by decide) (by decide) (fun _ q => by omega)).fld (a := 19) (k := 3) (v := -1) (by decide) (by decide) (by decide) (fun _ q => by omega)
  refine At.gs okRd 60 ?_
  (conv => whnf)
  rw [hv]
  refine ⟨3, by decide, _, h_adv (b := b) (e := e) (p0 := 0) hS.1 (hb.fr hS.2.2 (by decide)) hn rfl (Nat.zero_le _) (by omega), ?_⟩
  rintro m2 ⟨S2, t2⟩
  have T2 := hS.tr S2 (by decide)
  have hB2 : BkI 336 B0 m2 := hB.fr hk T2.2.2 (by decide)
  (conv => whnf)
  refine And.intro rfl (rd41_336 (R := readS b e) (by omega) 801 B0 (tok b e 0) 0 0 m2 rfl ⟨⟨S2.1, hb.fr T2.2.2 (by decide), ?_, by omega, t2, (tok_s (Nat.zero_le _)).2.2.2.1⟩, hB2, ⟨T2.1, T2.2.1, Fr_tr (Fr_rfl _ _) T2.2.2 (by decide)⟩, (fr1 S2.2.2 (by decide)).trans rfl, (fr1 S2.2.2 (by decide)).trans rfl, (fr1 S2.2.2 (by decide)).trans rfl, ⟨0, Nat.zero_le _, rfl⟩, Nat.zero_le _, rfl, rfl⟩)
  rw [fr1 S2.2.2 (by decide : ¬ wk 19 4 ∈ wAd)]
  exact hn
set_option maxRecDepth 100000 in
set_option maxHeartbeats 8000000 in
theorem rdBad_720 {ln : Int32} {m1 : MM} (h : RdB wReA m R m1) : At (E0 7) mX3_read (RdQ 720 wReA m R) 41 [.ref 19, .int n, .ref 720, .int ln, .int 0] [] m1 := by
  obtain ⟨hS, h1, er, rfl, h2, h3⟩ := h
  refine At.ls okRd 60 ⟨_, _, rfl⟩ ?_
  (conv => whnf)
  refine And.intro (fun _ => ?_) (fun _ => ?_)
  · (conv => whnf)
    refine And.intro (fun _ => ?_) (fun q => absurd rfl q)
    exact ⟨hS, h1, rfl, h2, h3⟩
  · (conv => whnf)
    refine And.intro (fun _ => ?_) (fun q => absurd rfl q)
    (conv => whnf)
    refine And.intro (fun _ => ?_) (fun q => absurd rfl q)
    exact ⟨hS, h1, rfl, h2, h3⟩
set_option maxRecDepth 100000 in
theorem rd260z_720 {ln : Int32} {m1 : MM} (h : RdB wReA m R m1) : At (E0 7) mX3_read (RdQ 720 wReA m R) 260 [.ref 19, .int n, .ref 720, .int ln, .int 0] [] m1 := by
  refine At.ls okRd 60 ⟨_, _, rfl⟩ ?_
  (conv => whnf)
  exact And.intro rfl (rdBad_720 h)
set_option maxRecDepth 100000 in
set_option maxHeartbeats 16000000 in
theorem rd41_720 (h8 : e ≤ 800) : ∀ (f : Nat) (B : TB) (t : TK) (ln : Nat) (lI : Int32) (m1 : MM), lI.toInt = ln → RdG 720 wReA b e m R f B t ln m1 → At (E0 7) mX3_read (RdQ 720 wReA m R) 41 [.ref 19, .int n, .ref 720, .int lI, .int 1] [] m1 := by
  intro f
  induction f with
  | zero =>
    intro B t ln lI m1 hl h
    obtain ⟨hC, hB, hS, z1, z2, z3, hT, hle, hR, hf⟩ := h
    have := hT.s
    omega
  | succ f ih =>
    intro B t ln lI m1 hl h
    obtain ⟨hC, hB, hS, z1, z2, z3, hT, hle, hR, hf⟩ := h
    have e0 : (0 : Int32).toInt = 0 := rfl
    have e800 : (800 : Int32).toInt = 800 := rfl
    have hs := hT.s
    have hb : isBk 720 := by unfold isBk; omega
    obtain ⟨k1, k2, k3, k4⟩ := hC.2.2.2.2.1
    have hR : (if t.1 = 0 then (.inr (B, ln) : ER (TB × Nat)) else bd (lineS b e B t) fun x => bookS b e f x.1 x.2 (ln + 1)) = R := hR
    have a1 := inc1 (k := lI) (by omega)
    -- behind a line
    have go1 : ∀ (m3 : MM) (x : TB × TK), lineS b e B t = .inr x → t.1 ≠ 0 → CR b e x.2 m3 → BkI 720 x.1 m3 → St wReA m m3 → gI m3 19 2 = 0 → gI m3 19 3 = -1 → gI m3 19 1 = 0 → At (E0 7) mX3_read (RdQ 720 wReA m R) 260 [.ref 19, .int n, .ref 720, .int lI, .int 1] [] m3 := by
      intro m3 x hx ht0 c3 b3 s3 y1 y2 y3
      rw [if_neg ht0, hx] at hR
      have g := lineS_go hT hx
      refine At.ls okRd 60 ⟨_, _, rfl⟩ ?_
      (conv => whnf)
      exact And.intro rfl (ih x.1 x.2 (ln + 1) (lI + 1) m3 (by omega) ⟨c3, b3, s3, y1, y2, y3, g.1, by omega, hR, by omega⟩)
    have go0 : ∀ (m3 : MM) (er : Nat × Nat), lineS b e B t = .inl er → t.1 ≠ 0 → St wReA m m3 → gI m3 19 1 = 0 → (gI m3 19 2).toInt = er.1 → (gI m3 19 3).toInt = er.2 → At (E0 7) mX3_read (RdQ 720 wReA m R) 260 [.ref 19, .int n, .ref 720, .int lI, .int 0] [] m3 := by
      intro m3 er hx ht0 s3 y3 y1 y2
      rw [if_neg ht0, hx] at hR
      exact rd260z_720 ⟨s3, y3, er, hR.symm, y1, y2⟩
    -- the line's end
    have ends : ∀ (m2 m3 : MM) (x : TB × TK) (r : Int32), bodyS b e B t = .inr x → t.1 ≠ 0 → CR b e x.2 m2 → BkI 720 x.1 m2 → St wReA m m2 → gI m2 19 2 = 0 → gI m2 19 3 = -1 → gI m2 19 1 = 0 → (St wNu m2 m3 ∧ OC m2 m3 (if x.2.1 = 3 then .inr (nx b e x.2) else .inl (1, x.2.2.1)) (r = 0) (fun y => r = 1 ∧ CR b e y m3)) →
        (r = 0 → At (E0 7) mX3_read (RdQ 720 wReA m R) 260 [.ref 19, .int n, .ref 720, .int lI, .int 0] [] m3) ∧ (r ≠ 0 → At (E0 7) mX3_read (RdQ 720 wReA m R) 260 [.ref 19, .int n, .ref 720, .int lI, .int 1] [] m3) := by
      intro m2 m3 x r hx ht0 c2 b2 s2 y1 y2 y3 o3
      obtain ⟨S3, o3⟩ := o3
      have s3 : St wReA m m3 := s2.tr S3 (by decide)
      have y4 : gI m3 19 1 = 0 := (fr1 S3.2.2 (by decide)).trans y3
      have eL : lineS b e B t = if x.2.1 = 3 then .inr (x.1, nx b e x.2) else .inl (1, x.2.2.1) := by
        unfold lineS
        rw [hx]; rfl
      by_cases q : x.2.1 = 3
      · rw [if_pos q] at o3 eL
        obtain ⟨⟨q1, q2⟩, q3, q4⟩ := o3
        refine ⟨fun z => absurd (q1.symm.trans z) (by decide), fun _ => go1 m3 (x.1, nx b e x.2) eL ht0 q2 (b2.fr hb S3.2.2 (by decide)) s3 (q3.trans y1) (q4.trans y2) y4⟩
      · rw [if_neg q] at o3 eL
        obtain ⟨q1, q3, q4⟩ := o3
        exact ⟨fun _ => go0 m3 _ eL ht0 s3 y4 q3 q4, fun z => absurd q1 z⟩
    have bad : ∀ (m2 : MM) (er : Nat × Nat), bodyS b e B t = .inl er → t.1 ≠ 0 → St wReA m m2 → gI m2 19 1 = 0 → (gI m2 19 2).toInt = er.1 → (gI m2 19 3).toInt = er.2 → At (E0 7) mX3_read (RdQ 720 wReA m R) 260 [.ref 19, .int n, .ref 720, .int lI, .int 0] [] m2 := fun m2 er hx ht0 s2 y3 y1 y2 => go0 m2 er (by unfold lineS; rw [hx]; rfl) ht0 s2 y3 y1 y2
    have none' : ¬ (t.1 = 1 ∧ (lg t.2.2.1 = 0 ∨ lg t.2.2.1 = 1 ∨ lg t.2.2.1 = 2 ∨ lg t.2.2.1 = 3 ∨ lg t.2.2.1 = 4)) → bodyS b e B t = .inl (1, t.2.1) := fun q => by
      unfold bodyS
      by_cases q1 : t.1 = 1
      · rw [if_pos q1, if_neg (fun z => q ⟨q1, Or.inl z⟩), if_neg (fun z => q ⟨q1, Or.inr (Or.inl z)⟩), if_neg (fun z => q ⟨q1, Or.inr (Or.inr (Or.inl z))⟩), if_neg (fun z => q ⟨q1, Or.inr (Or.inr (Or.inr (Or.inl z)))⟩), if_neg (fun z => q ⟨q1, Or.inr (Or.inr (Or.inr (Or.inr z)))⟩)]
      · rw [if_neg q1]
    refine At.ls okRd 120 ⟨_, _, rfl⟩ ?_
    (conv => whnf)
    refine And.intro (fun h1 => ?_) (fun h1 => ?_)
    · rw [le_i] at h1
      have ht0 : t.1 = 0 := Classical.byContradiction (fun q => by have := hs.2.2 q; omega)
      rw [if_pos ht0] at hR
      (conv => whnf)
      refine And.intro (fun q => absurd q (by decide)) (fun _ => ?_)
      subst hR
      exact ⟨hS, z3, hl, z1, z2, hB⟩
    · (conv => whnf)
      refine And.intro (fun q => absurd q (by decide)) (fun _ => ?_)
      (conv => whnf)
      refine And.intro (fun h2 => ?_) (fun h2 => ?_)
      · have h2 : gI m1 19 6 = 0 := h2
        have ht0 : t.1 = 0 := by rw [h2] at k1; omega
        rw [if_pos ht0] at hR
        (conv => whnf)
        refine And.intro (fun q => absurd q (by decide)) (fun _ => ?_)
        subst hR
        exact ⟨hS, z3, hl, z1, z2, hB⟩
      · have h2 : ¬ gI m1 19 6 = 0 := h2
        have ht0 : t.1 ≠ 0 := fun q => h2 (Int32.toInt_inj.mp (by rw [k1, q]; rfl))
        (conv => whnf)
        refine And.intro (fun h3 => ?_) (fun h3 => ?_)
        · have h3 : ¬ gI m1 19 6 = 1 := h3
          have ht1 : ¬ t.1 = 1 := fun q => h3 (Int32.toInt_inj.mp (by rw [k1, q]; rfl))
          (conv => whnf)
          refine And.intro (fun q => absurd q (by decide)) (fun _ => ?_)
          refine And.intro (fun q => absurd q (by decide)) (fun _ => ?_)
          refine And.intro (fun q => absurd q (by decide)) (fun _ => ?_)
          refine And.intro (fun q => absurd q (by decide)) (fun _ => ?_)
          refine And.intro (fun q => absurd q (by decide)) (fun _ => ?_)
          (conv => whnf)
          refine ⟨1, by decide, _, r_fail, ?_⟩
          rintro r4 m4 ⟨q1, q2⟩
          subst q1
          subst q2
          (conv => whnf)
          exact And.intro rfl (bad _ _ (none' (fun q => ht1 q.1)) ht0 (St_fail hS (by decide) (by decide)) z3 rfl k2)
        · have h3 : gI m1 19 6 = 1 := h3
          have ht1 : t.1 = 1 := by have : (1 : Int32).toInt = 1 := rfl; rw [h3] at k1; omega
          (conv => whnf)
          refine And.intro (fun h4 => ?_) (fun h40 => ?_)
          · have h4 : gI m1 19 8 = 211366912 := h4
            have ev : lg t.2.2.1 = 2 := lg_2.mpr (by rw [← k3, h4]; rfl)
            have eB : bodyS b e B t = firmS b e B t := by
              unfold bodyS
              rw [if_pos ht1, if_neg (by rw [ev]; decide), if_neg (by rw [ev]; decide), if_pos ev]
            (conv => whnf)
            refine ⟨6, by decide, _, r_firm_720 hC hB, ?_⟩
            rintro r2 m2 ⟨S2, o2⟩
            rw [← eB] at o2
            have T2 : St wReA m m2 := hS.tr S2 (fun x hx => List.mem_cons_of_mem _ hx)
            have y3 : gI m2 19 1 = 0 := (fr1 S2.2.2 (by decide)).trans z3
            (conv => whnf)
            rcases OC_c o2 with ⟨er, ex, hbad, f1, f2⟩ | ⟨x, ex, ⟨g1, g2, g3⟩, f1, f2⟩
            · refine And.intro (fun _ => ?_) (fun q => absurd hbad q)
              (conv => whnf)
              exact And.intro rfl (bad m2 er ex ht0 T2 y3 f1 f2)
            · refine And.intro (fun q => absurd (g1.symm.trans q) (by decide)) (fun _ => ?_)
              (conv => whnf)
              refine ⟨4, by decide, _, r_ends g2, ?_⟩
              rintro r3 m3 o3
              have E3 := ends m2 m3 x r3 ex ht0 g2 g3 T2 (f1.trans z1) (f2.trans z2) y3 o3
              (conv => whnf)
              refine And.intro (fun q => ?_) (fun q => ?_)
              · (conv => whnf)
                exact And.intro rfl (E3.1 q)
              · (conv => whnf)
                exact And.intro rfl (E3.2 q)
          refine And.intro (fun h4 => ?_) (fun h41 => ?_)
          · have h4 : gI m1 19 8 = 251105280 := h4
            have ev : lg t.2.2.1 = 1 := lg_1.mpr (by rw [← k3, h4]; rfl)
            have eB : bodyS b e B t = goodS b e B t := by
              unfold bodyS
              rw [if_pos ht1, if_neg (by rw [ev]; decide), if_pos ev]
            (conv => whnf)
            refine ⟨5, by decide, _, r_good_720 hC hB, ?_⟩
            rintro r2 m2 ⟨S2, o2⟩
            rw [← eB] at o2
            have T2 : St wReA m m2 := hS.tr S2 (fun x hx => List.mem_cons_of_mem _ hx)
            have y3 : gI m2 19 1 = 0 := (fr1 S2.2.2 (by decide)).trans z3
            (conv => whnf)
            rcases OC_c o2 with ⟨er, ex, hbad, f1, f2⟩ | ⟨x, ex, ⟨g1, g2, g3⟩, f1, f2⟩
            · refine And.intro (fun _ => ?_) (fun q => absurd hbad q)
              (conv => whnf)
              exact And.intro rfl (bad m2 er ex ht0 T2 y3 f1 f2)
            · refine And.intro (fun q => absurd (g1.symm.trans q) (by decide)) (fun _ => ?_)
              (conv => whnf)
              refine ⟨4, by decide, _, r_ends g2, ?_⟩
              rintro r3 m3 o3
              have E3 := ends m2 m3 x r3 ex ht0 g2 g3 T2 (f1.trans z1) (f2.trans z2) y3 o3
              (conv => whnf)
              refine And.intro (fun q => ?_) (fun q => ?_)
              · (conv => whnf)
                exact And.intro rfl (E3.1 q)
              · (conv => whnf)
                exact And.intro rfl (E3.2 q)
          refine And.intro (fun h4 => ?_) (fun h42 => ?_)
          · have h4 : gI m1 19 8 = 404164608 := h4
            have ev : lg t.2.2.1 = 0 := lg_0.mpr (by rw [← k3, h4]; rfl)
            have eB : bodyS b e B t = landS b e B t := by
              unfold bodyS
              rw [if_pos ht1, if_pos ev]
            (conv => whnf)
            refine ⟨5, by decide, _, r_land_720 hC hB, ?_⟩
            rintro r2 m2 ⟨S2, o2⟩
            rw [← eB] at o2
            have T2 : St wReA m m2 := hS.tr S2 (fun x hx => List.mem_cons_of_mem _ hx)
            have y3 : gI m2 19 1 = 0 := (fr1 S2.2.2 (by decide)).trans z3
            (conv => whnf)
            rcases OC_c o2 with ⟨er, ex, hbad, f1, f2⟩ | ⟨x, ex, ⟨g1, g2, g3⟩, f1, f2⟩
            · refine And.intro (fun _ => ?_) (fun q => absurd hbad q)
              (conv => whnf)
              exact And.intro rfl (bad m2 er ex ht0 T2 y3 f1 f2)
            · refine And.intro (fun q => absurd (g1.symm.trans q) (by decide)) (fun _ => ?_)
              (conv => whnf)
              refine ⟨4, by decide, _, r_ends g2, ?_⟩
              rintro r3 m3 o3
              have E3 := ends m2 m3 x r3 ex ht0 g2 g3 T2 (f1.trans z1) (f2.trans z2) y3 o3
              (conv => whnf)
              refine And.intro (fun q => ?_) (fun q => ?_)
              · (conv => whnf)
                exact And.intro rfl (E3.1 q)
              · (conv => whnf)
                exact And.intro rfl (E3.2 q)
          refine And.intro (fun h4 => ?_) (fun h43 => ?_)
          · have h4 : gI m1 19 8 = 538218496 := h4
            have ev : lg t.2.2.1 = 4 := lg_4.mpr (by rw [← k3, h4]; rfl)
            have eB : bodyS b e B t = paidS b e B t := by
              unfold bodyS
              rw [if_pos ht1, if_neg (by rw [ev]; decide), if_neg (by rw [ev]; decide), if_neg (by rw [ev]; decide), if_neg (by rw [ev]; decide), if_pos ev]
            (conv => whnf)
            refine ⟨5, by decide, _, r_paid_720 hC hB, ?_⟩
            rintro r2 m2 ⟨S2, o2⟩
            rw [← eB] at o2
            have T2 : St wReA m m2 := hS.tr S2 (fun x hx => List.mem_cons_of_mem _ hx)
            have y3 : gI m2 19 1 = 0 := (fr1 S2.2.2 (by decide)).trans z3
            (conv => whnf)
            rcases OC_c o2 with ⟨er, ex, hbad, f1, f2⟩ | ⟨x, ex, ⟨g1, g2, g3⟩, f1, f2⟩
            · refine And.intro (fun _ => ?_) (fun q => absurd hbad q)
              (conv => whnf)
              exact And.intro rfl (bad m2 er ex ht0 T2 y3 f1 f2)
            · refine And.intro (fun q => absurd (g1.symm.trans q) (by decide)) (fun _ => ?_)
              (conv => whnf)
              refine ⟨4, by decide, _, r_ends g2, ?_⟩
              rintro r3 m3 o3
              have E3 := ends m2 m3 x r3 ex ht0 g2 g3 T2 (f1.trans z1) (f2.trans z2) y3 o3
              (conv => whnf)
              refine And.intro (fun q => ?_) (fun q => ?_)
              · (conv => whnf)
                exact And.intro rfl (E3.1 q)
              · (conv => whnf)
                exact And.intro rfl (E3.2 q)
          refine And.intro (fun h4 => ?_) (fun h44 => ?_)
          · have h4 : gI m1 19 8 = 638981120 := h4
            have ev : lg t.2.2.1 = 3 := lg_3.mpr (by rw [← k3, h4]; rfl)
            have eB : bodyS b e B t = saleS b e B t := by
              unfold bodyS
              rw [if_pos ht1, if_neg (by rw [ev]; decide), if_neg (by rw [ev]; decide), if_neg (by rw [ev]; decide), if_pos ev]
            (conv => whnf)
            refine ⟨6, by decide, _, r_sale_720 hC hB, ?_⟩
            rintro r2 m2 ⟨S2, o2⟩
            rw [← eB] at o2
            have T2 : St wReA m m2 := hS.tr S2 (fun x hx => List.mem_cons_of_mem _ hx)
            have y3 : gI m2 19 1 = 0 := (fr1 S2.2.2 (by decide)).trans z3
            (conv => whnf)
            rcases OC_c o2 with ⟨er, ex, hbad, f1, f2⟩ | ⟨x, ex, ⟨g1, g2, g3⟩, f1, f2⟩
            · refine And.intro (fun _ => ?_) (fun q => absurd hbad q)
              (conv => whnf)
              exact And.intro rfl (bad m2 er ex ht0 T2 y3 f1 f2)
            · refine And.intro (fun q => absurd (g1.symm.trans q) (by decide)) (fun _ => ?_)
              (conv => whnf)
              refine ⟨4, by decide, _, r_ends g2, ?_⟩
              rintro r3 m3 o3
              have E3 := ends m2 m3 x r3 ex ht0 g2 g3 T2 (f1.trans z1) (f2.trans z2) y3 o3
              (conv => whnf)
              refine And.intro (fun q => ?_) (fun q => ?_)
              · (conv => whnf)
                exact And.intro rfl (E3.1 q)
              · (conv => whnf)
                exact And.intro rfl (E3.2 q)
          (conv => whnf)
          refine ⟨1, by decide, _, r_fail, ?_⟩
          rintro r4 m4 ⟨q1, q2⟩
          subst q1
          subst q2
          (conv => whnf)
          refine And.intro rfl (bad _ _ (none' (fun q => ?_)) ht0 (St_fail hS (by decide) (by decide)) z3 rfl k2)
          rcases q.2 with q | q | q | q | q
          · exact h42 (Int32.toInt_inj.mp (by rw [k3, lg_0.mp q]; rfl))
          · exact h41 (Int32.toInt_inj.mp (by rw [k3, lg_1.mp q]; rfl))
          · exact h40 (Int32.toInt_inj.mp (by rw [k3, lg_2.mp q]; rfl))
          · exact h44 (Int32.toInt_inj.mp (by rw [k3, lg_3.mp q]; rfl))
          · exact h43 (Int32.toInt_inj.mp (by rw [k3, lg_4.mp q]; rfl))
set_option maxRecDepth 100000 in
set_option maxHeartbeats 8000000 in
theorem r_read_720 (hM : Mok TYg m) (hb : cbR m b e) (hn : n.toInt = e) (hsz : e ≤ (gI m 19 1).toInt) (hB : BkI 720 B0 m) : CI 7 mX3_read [.ref 19, .int n, .ref 720] m (fun r m' => St wReA m m' ∧ gI m' 19 1 = 0 ∧ RdO 720 (readS b e) r m') := by
  have hsz2 : (0 : Int) ≤ (gI m 19 1).toInt ∧ (gI m 19 1).toInt ≤ 800 := hM.1 19 1
  have hk : isBk 720 := by unfold isBk; omega
  have hv : (if gI m 19 1 < n then gI m 19 1 else n : Int32) = n := by
    by_cases q : gI m 19 1 < n
    · rw [lt_i] at q; omega
    · rw [if_neg q]
  have hS : St (21474836499 :: 8589934611 :: wNu) m (sI (sI (sI (sI (sI m 19 4 n) 19 1 0) 19 5 0) 19 2 0) 19 3 (-1)) :=
    (((((St.rf (W := 21474836499 :: 8589934611 :: wNu) hM).fld (a := 19) (k := 4) (v := n) (by decide) (show (0 : Int) ≤ _ by omega) (show _ ≤ (800 : Int) by omega) (fun _ q => by omega)).fld (a := 19) (k := 1) (v := 0) (by decide) (by decide) (by decide) (fun _ q => by omega)).fld (a := 19) (k := 5) (v := 0) (by decide) (by decide) (by decide) (fun _ q => by omega)).fld (a := 19) (k := 2) (v := 0) (by decide) (by decide) (by decide) (fun _ q => by omega)).fld (a := 19) (k := 3) (v := -1) (by decide) (by decide) (by decide) (fun _ q => by omega)
  refine At.gs okRd 60 ?_
  (conv => whnf)
  rw [hv]
  refine ⟨3, by decide, _, h_adv (b := b) (e := e) (p0 := 0) hS.1 (hb.fr hS.2.2 (by decide)) hn rfl (Nat.zero_le _) (by omega), ?_⟩
  rintro m2 ⟨S2, t2⟩
  have T2 := hS.tr S2 (by decide)
  have hB2 : BkI 720 B0 m2 := hB.fr hk T2.2.2 (by decide)
  (conv => whnf)
  refine And.intro rfl (rd41_720 (R := readS b e) (by omega) 801 B0 (tok b e 0) 0 0 m2 rfl ⟨⟨S2.1, hb.fr T2.2.2 (by decide), ?_, by omega, t2, (tok_s (Nat.zero_le _)).2.2.2.1⟩, hB2, ⟨T2.1, T2.2.1, Fr_tr (Fr_rfl _ _) T2.2.2 (by decide)⟩, (fr1 S2.2.2 (by decide)).trans rfl, (fr1 S2.2.2 (by decide)).trans rfl, (fr1 S2.2.2 (by decide)).trans rfl, ⟨0, Nat.zero_le _, rfl⟩, Nat.zero_le _, rfl, rfl⟩)
  rw [fr1 S2.2.2 (by decide : ¬ wk 19 4 ∈ wAd)]
  exact hn
end Rd
