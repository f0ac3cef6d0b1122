/-! the model reads a token -/
/-- a number as the model has it -/
def NV (v v' : Int) : Prop := (v' = v ∧ 0 ≤ v ∧ v ≤ 999999) ∨ (v = 1000000 ∧ 999999 < v' ∧ v' ≤ 9999999)
/-- the token that stands in the model's reader -/
def tkM (m : MM) (t : TK) : Prop := (gI m 1175 31).toInt = t.2.2.2 ∧ (gI m 1175 32).toInt = t.2.1 ∧
  ((t.1 = 0 ∧ gI m 1175 33 = 4) ∨ (t.1 = 1 ∧ lg t.2.2.1 ≠ -1 ∧ gI m 1175 33 = 0 ∧ (gI m 1175 34).toInt = lg t.2.2.1) ∨ (t.1 = 1 ∧ lg t.2.2.1 = -1 ∧ gI m 1175 33 = 1 ∧ (gI m 1175 34).toInt = t.2.2.1) ∨ (t.1 = 2 ∧ gI m 1175 33 = 2 ∧ NV t.2.2.1 (gI m 1175 34).toInt) ∨ (t.1 = 3 ∧ gI m 1175 33 = 3) ∨ (t.1 = 4 ∧ gI m 1175 33 = 5))
theorem h_hereB {m : MM} {b : BT} {e p : Nat} (hM : Mok TYg m) (hb : mbR m b e) (he : (gI m 1175 30).toInt = e) (hp : (gI m 1175 31).toInt = p) : CI 1 mX7_here [.ref 1175] m (fun r m' => m' = m ∧ r.toInt = if p < e then b p else -1) :=
  CI.mono (h_here hM) (fun r m' q => by
    refine ⟨q.1, ?_⟩
    rcases q.2 with ⟨q1, q2⟩ | ⟨q1, q2⟩
    · rw [he, hp] at q1
      rw [if_pos (by omega), q2, nat_c hp]
      exact (hb p (by omega)).1
    · rw [he, hp] at q1
      rw [if_neg (by omega), q2]
      rfl)
theorem nv_s {b : BT} {s n : Nat} : nv b s (n + 1) = if 10 * nv b s n + (b (s + n) - 48) > 1000000 then 1000000 else 10 * nv b s n + (b (s + n) - 48) := rfl
def cdNx : List CE := stops [31, 87] cdX7_next
set_option maxRecDepth 20000 in
theorem okNx : CodeOk mX7_next cdNx := okX7_next.st [31, 87] (by rfl)
section Nx7
variable {m : MM} {b : BT} {e p0 : Nat}
def MxI (m : MM) (b : BT) (e p : Nat) (m1 : MM) : Prop := St wN7 m m1 ∧ (gI m1 1175 31).toInt = p ∧ p ≤ e ∧ (gI m1 1175 30).toInt = e ∧ e ≤ 800 ∧ mbR m1 b e
def NxQ (m : MM) (b : BT) (e p0 : Nat) : QQ := qv (fun m' => St wN7 m m' ∧ tkM m' (tok b e p0))
theorem MxI.inc {p : Nat} {m1 : MM} (h : MxI m b e p m1) (hp : p < e) : MxI m b e (p + 1) (sI m1 1175 31 (gI m1 1175 31 + 1)) := by
  obtain ⟨hS, h5, h6, h7, h8, h9⟩ := h
  have e1 : (gI m1 1175 31 + 1).toInt = ((p + 1 : Nat) : Int) := by rw [inc1 (by omega), h5]; omega
  exact ⟨hS.nf (by decide) (show (0 : Int) ≤ _ by omega) (show _ ≤ (800 : Int) by omega), e1, hp, h7, h8, fun i hi => h9 i hi⟩
theorem MxI.fld {p k : Nat} {v : Int32} {m1 : MM} (h : MxI m b e p m1) (hk : k = 32 ∨ k = 33 ∨ k = 34) (h1 : (tyF TYg.1 TYg.2 1175 k).1 ≤ v.toInt) (h2 : v.toInt ≤ (tyF TYg.1 TYg.2 1175 k).2) : MxI m b e p (sI m1 1175 k v) := by
  obtain ⟨hS, h5, h6, h7, h8, h9⟩ := h
  rcases hk with rfl | rfl | rfl
  · exact ⟨hS.nf (by decide) h1 h2, h5, h6, h7, h8, fun i hi => h9 i hi⟩
  · exact ⟨hS.nf (by decide) h1 h2, h5, h6, h7, h8, fun i hi => h9 i hi⟩
  · exact ⟨hS.nf (by decide) h1 h2, h5, h6, h7, h8, fun i hi => h9 i hi⟩
set_option maxRecDepth 100000 in
set_option maxHeartbeats 4000000 in
theorem nx87 {s p : Nat} {x : Int32} {m1 : MM} (h : MxI m b e p m1) (hs : (gI m1 1175 32).toInt = s) (hsp : s ≤ p) (hq : sp isL b e s = p) (hl0 : isL (b s) = true) (hse : s < e) (h0 : sp isB b e p0 = s) : At (E0 4) mX7_next (NxQ m b e p0) 87 [.ref 1175, .int x] [] m1 := by
  obtain ⟨hS, h5, h6, h7, h8, h9⟩ := id h
  have hl : ∀ j, j < p - s → isL (b (s + j)) = true := fun j hj => sp_all isL b e (p := s) (by omega) (by omega)
  have et : tok b e p0 = (if p - s ≤ 6 then 1 else 4, s, wv b s (p - s), p) := by
    unfold tok tokA
    rw [h0, if_neg (by omega), if_pos hl0, hq]
  have em1 : (-1 : Int32).toInt = -1 := rfl
  have e6 : (6 : Int32).toInt = 6 := rfl
  refine At.ls okNx 80 ⟨_, _, rfl⟩ ?_
  (conv => whnf)
  refine ⟨1, by decide, _, h_word (b := b) (s := s) (q := p) hS.1 hs h5 hsp (by omega) (fun i hi => h9 i (by omega)), ?_⟩
  rintro r m' ⟨hmm, hr⟩; have hmm := hmm.symm; subst hmm
  have h2 : MxI m b e p (sI m1 1175 34 r) := h.fld (Or.inr (Or.inr rfl)) (tI_lo _) (tI_hi _)
  (conv => whnf)
  rcases hr with ⟨t, ht, hrt, hw⟩ | ⟨hrt, hno⟩
  · have h3 : MxI m b e p (sI (sI m1 1175 34 r) 1175 33 0) := h2.fld (Or.inr (Or.inl rfl)) (by decide) (by decide)
    refine And.intro (fun q => ?_) (fun _ => ?_)
    · have q : r = -1 := q
      rw [q, em1] at hrt
      omega
    · (conv => whnf)
      refine And.intro (fun _ => ?_) (fun q => absurd (show (0 : Int32) = 1 from q) (by decide))
      refine ⟨h3.1, h5.trans ?_, hs.trans ?_, Or.inr (Or.inl ?_)⟩
      · rw [et]
      · rw [et]
      · rw [et]
        have l1 := isW_t ht hw
        refine ⟨?_, ?_, rfl, ?_⟩
        · show (if p - s ≤ 6 then 1 else 4) = 1
          rw [if_pos (isW_six ht hw)]
        · show lg (wv b s (p - s)) ≠ -1
          rw [l1]; omega
        · show r.toInt = lg (wv b s (p - s))
          rw [l1, hrt]
  · have hlg := isW_no hl hno
    subst hrt
    refine And.intro (fun _ => ?_) (fun q => absurd rfl q)
    have ed : (gI m1 1175 31 - gI m1 1175 32).toInt = (p : Int) - s := by
      rw [tI_sub (by unfold i32lo; omega) (by unfold i32hi; omega), h5, hs]
    (conv => whnf)
    refine And.intro (fun q => ?_) (fun q => ?_)
    · have q : gI m1 1175 31 - gI m1 1175 32 ≤ 6 := q
      rw [le_i, ed, e6] at q
      have h3 : MxI m b e p (sI (sI m1 1175 34 (-1)) 1175 33 1) := h2.fld (Or.inr (Or.inl rfl)) (by decide) (by decide)
      (conv => whnf)
      refine And.intro (fun q => absurd rfl q) (fun _ => ?_)
      (conv => whnf)
      refine ⟨1, by decide, _, h_name (b := b) (s := s) (q := p) h3.1.1 hs h5 hsp (by omega) (fun i hi => h9 i (by omega)) hl, ?_⟩
      rintro m4 ⟨S4, v4⟩
      refine ⟨h3.1.tr S4 (by decide), ?_⟩
      rw [et, if_pos (by omega)]
      refine ⟨?_, ?_, Or.inr (Or.inr (Or.inl ⟨rfl, hlg, ?_, v4⟩))⟩
      · rw [fr1 S4.2.2 (by decide : ¬ wk 1175 31 ∈ wNm)]; exact h5
      · rw [fr1 S4.2.2 (by decide : ¬ wk 1175 32 ∈ wNm)]; exact hs
      · rw [fr1 S4.2.2 (by decide : ¬ wk 1175 33 ∈ wNm)]; rfl
    · have q : ¬ gI m1 1175 31 - gI m1 1175 32 ≤ 6 := q
      rw [le_i, ed, e6] at q
      have h3 : MxI m b e p (sI (sI m1 1175 34 (-1)) 1175 33 5) := h2.fld (Or.inr (Or.inl rfl)) (by decide) (by decide)
      (conv => whnf)
      refine And.intro (fun _ => ?_) (fun q => absurd (show (5 : Int32) = 1 from q) (by decide))
      refine ⟨h3.1, ?_⟩
      rw [et, if_neg (by omega)]
      exact ⟨h5, hs, Or.inr (Or.inr (Or.inr (Or.inr (Or.inr ⟨rfl, rfl⟩))))⟩
set_option maxRecDepth 100000 in
set_option maxHeartbeats 4000000 in
theorem nx64 {s : Nat} {x : Int32} (hl0 : isL (b s) = true) (hse : s < e) (h0 : sp isB b e p0 = s) : ∀ (n p : Nat) (m1 : MM), e - p = n → MxI m b e p m1 → (gI m1 1175 32).toInt = s → s ≤ p → sp isL b e s = sp isL b e p → At (E0 4) mX7_next (NxQ m b e p0) 64 [.ref 1175, .int x] [] m1 := by
  intro n
  induction n with
  | zero =>
    intro p m1 hn h hs hsp hq
    obtain ⟨hS, h5, h6, h7, h8, h9⟩ := id h
    refine At.ls okNx 80 ⟨_, _, rfl⟩ ?_
    (conv => whnf)
    refine ⟨1, by decide, _, h_hereB hS.1 h9 h7 h5, ?_⟩
    rintro r m' ⟨hmm, hr⟩; have hmm := hmm.symm; subst hmm
    (conv => whnf)
    refine ⟨1, by decide, _, h_isSmall, ?_⟩
    rintro z m' ⟨hmm, hz⟩; have hmm := hmm.symm; subst hmm
    rw [if_neg (by omega)] at hr
    (conv => whnf)
    refine And.intro (fun _ => ?_) (fun q => ?_)
    · (conv => whnf)
      exact And.intro rfl (nx87 h hs hsp (hq.trans (sp_st isL b e (by omega))) hl0 hse h0)
    · rcases hz with z1 | z1
      · omega
      · exact absurd z1.2 q
  | succ n ih =>
    intro p m1 hn h hs hsp hq
    obtain ⟨hS, h5, h6, h7, h8, h9⟩ := id h
    have hpe : p < e := by omega
    refine At.ls okNx 80 ⟨_, _, rfl⟩ ?_
    (conv => whnf)
    refine ⟨1, by decide, _, h_hereB hS.1 h9 h7 h5, ?_⟩
    rintro r m' ⟨hmm, hr⟩; have hmm := hmm.symm; subst hmm
    rw [if_pos hpe] at hr
    (conv => whnf)
    refine ⟨1, by decide, _, h_isSmall, ?_⟩
    rintro z m' ⟨hmm, hz⟩; have hmm := hmm.symm; subst hmm
    rw [hr] at hz
    (conv => whnf)
    refine And.intro (fun q => ?_) (fun q => ?_)
    · have hnl : ¬ isL (b p) = true := fun y => by
        rcases hz with z1 | z1
        · rw [z1.2] at q; exact absurd q (by decide)
        · exact z1.1 (isL_i.mp y)
      (conv => whnf)
      exact And.intro rfl (nx87 h hs hsp (hq.trans (sp_st isL b e (fun y => hnl y.2))) hl0 hse h0)
    · have hl : isL (b p) = true := by
        rcases hz with z1 | z1
        · exact isL_i.mpr z1.1
        · exact absurd z1.2 q
      (conv => whnf)
      exact And.intro rfl (ih (p + 1) _ (by omega) (h.inc hpe) hs (by omega) (hq.trans (sp_go isL b e hpe hl)))
set_option maxRecDepth 100000 in
set_option maxHeartbeats 4000000 in
theorem nx162 {s : Nat} {x : Int32} (hl0 : isL (b s) ≠ true) (hd0 : isD (b s) = true) (hse : s < e) (h0 : sp isB b e p0 = s) : ∀ (n p : Nat) (m1 : MM), e - p = n → MxI m b e p m1 → (gI m1 1175 32).toInt = s → gI m1 1175 33 = 2 → s ≤ p → sp isD b e s = sp isD b e p → NV (nv b s (p - s)) (gI m1 1175 34).toInt → At (E0 4) mX7_next (NxQ m b e p0) 162 [.ref 1175, .int x] [] m1 := by
  have fin : ∀ (p : Nat) (m1 : MM), MxI m b e p m1 → (gI m1 1175 32).toInt = s → gI m1 1175 33 = 2 → sp isD b e s = p → NV (nv b s (p - s)) (gI m1 1175 34).toInt → NxQ m b e p0 none m1 := fun p m1 h hs h2 hq hv => by
    refine ⟨h.1, ?_⟩
    have et : tok b e p0 = (2, s, nv b s (p - s), p) := by
      unfold tok tokA
      rw [h0, if_neg (by omega), if_neg hl0, if_pos hd0, hq]
    rw [et]
    exact ⟨h.2.1, hs, Or.inr (Or.inr (Or.inr (Or.inl ⟨rfl, h2, hv⟩)))⟩
  intro n
  induction n with
  | zero =>
    intro p m1 hn h hs h2 hsp hq hv
    obtain ⟨hS, h5, h6, h7, h8, h9⟩ := id h
    refine At.ls okNx 80 ⟨_, _, rfl⟩ ?_
    (conv => whnf)
    refine ⟨1, by decide, _, h_hereB hS.1 h9 h7 h5, ?_⟩
    rintro r m' ⟨hmm, hr⟩; have hmm := hmm.symm; subst hmm
    (conv => whnf)
    refine ⟨1, by decide, _, h_isDigit, ?_⟩
    rintro z m' ⟨hmm, hz⟩; have hmm := hmm.symm; subst hmm
    rw [if_neg (by omega)] at hr
    (conv => whnf)
    refine And.intro (fun _ => ?_) (fun q => ?_)
    · exact fin p m1 h hs h2 (hq.trans (sp_st isD b e (by omega))) hv
    · rcases hz with z1 | z1
      · omega
      · exact absurd z1.2 q
  | succ n ih =>
    intro p m1 hn h hs h2 hsp hq hv
    obtain ⟨hS, h5, h6, h7, h8, h9⟩ := id h
    have hpe : p < e := by omega
    have e9 : (999999 : Int32).toInt = 999999 := rfl
    have e10 : (10 : Int32).toInt = 10 := rfl
    have e48 : (48 : Int32).toInt = 48 := rfl
    refine At.ls okNx 80 ⟨_, _, rfl⟩ ?_
    (conv => whnf)
    refine ⟨1, by decide, _, h_hereB hS.1 h9 h7 h5, ?_⟩
    rintro r m' ⟨hmm, hr⟩; have hmm := hmm.symm; subst hmm
    rw [if_pos hpe] at hr
    (conv => whnf)
    refine ⟨1, by decide, _, h_isDigit, ?_⟩
    rintro z m' ⟨hmm, hz⟩; have hmm := hmm.symm; subst hmm
    rw [hr] at hz
    (conv => whnf)
    refine And.intro (fun q => ?_) (fun q => ?_)
    · have hnl : ¬ isD (b p) = true := fun y => by
        rcases hz with z1 | z1
        · rw [z1.2] at q; exact absurd q (by decide)
        · exact z1.1 (isD_i.mp y)
      exact fin p m1 h hs h2 (hq.trans (sp_st isD b e (fun y => hnl y.2))) hv
    · have hl : isD (b p) = true := by
        rcases hz with z1 | z1
        · exact isD_i.mpr z1.1
        · exact absurd z1.2 q
      have hl2 := isD_i.mp hl
      have hnv : nv b s (p + 1 - s) = if 10 * nv b s (p - s) + (b p - 48) > 1000000 then 1000000 else 10 * nv b s (p - s) + (b p - 48) := by
        rw [show p + 1 - s = (p - s) + 1 by omega, nv_s, show s + (p - s) = p by omega]
      (conv => whnf)
      refine And.intro (fun q2 => ?_) (fun q2 => ?_)
      · have q2 : gI m1 1175 34 ≤ 999999 := q2
        rw [le_i, e9] at q2
        have hv : (gI m1 1175 34).toInt = nv b s (p - s) ∧ 0 ≤ nv b s (p - s) ∧ nv b s (p - s) ≤ 999999 := by
          rcases hv with y | y
          · exact y
          · omega
        (conv => whnf)
        refine ⟨1, by decide, _, h_hereB hS.1 h9 h7 h5, ?_⟩
        rintro r2 m' ⟨hmm, hr2⟩; have hmm := hmm.symm; subst hmm
        rw [if_pos hpe] at hr2
        have a1 : (10 * gI m1 1175 34).toInt = 10 * nv b s (p - s) := by
          rw [tI_mul (by rw [e10, hv.1]; unfold i32lo; omega) (by rw [e10, hv.1]; unfold i32hi; omega), e10, hv.1]
        have a2 : (10 * gI m1 1175 34 + r2).toInt = 10 * nv b s (p - s) + b p := by
          rw [tI_add (by rw [a1, hr2]; unfold i32lo; omega) (by rw [a1, hr2]; unfold i32hi; omega), a1, hr2]
        have a3 : (10 * gI m1 1175 34 + r2 - 48).toInt = 10 * nv b s (p - s) + (b p - 48) := by
          rw [tI_sub (by rw [a2, e48]; unfold i32lo; omega) (by rw [a2, e48]; unfold i32hi; omega), a2, e48]; omega
        (conv => whnf)
        refine And.intro rfl (ih (p + 1) _ (by omega) ((h.fld (k := 34) (Or.inr (Or.inr rfl)) (tI_lo _) (tI_hi _)).inc hpe) hs h2 (by omega) (hq.trans (sp_go isD b e hpe hl)) ?_)
        show NV (nv b s (p + 1 - s)) (10 * gI m1 1175 34 + r2 - 48).toInt
        rw [a3, hnv]
        unfold NV
        split
        · exact Or.inr ⟨rfl, by omega, by omega⟩
        · by_cases y : 10 * nv b s (p - s) + (b p - 48) = 1000000
          · exact Or.inr ⟨y, by omega, by omega⟩
          · exact Or.inl ⟨rfl, by omega, by omega⟩
      · have q2 : ¬ gI m1 1175 34 ≤ 999999 := q2
        rw [le_i, e9] at q2
        have hv' : nv b s (p - s) = 1000000 ∧ 999999 < (gI m1 1175 34).toInt ∧ (gI m1 1175 34).toInt ≤ 9999999 := by
          rcases hv with y | y
          · omega
          · exact y
        (conv => whnf)
        refine And.intro rfl (ih (p + 1) _ (by omega) ((h.fld (k := 34) (Or.inr (Or.inr rfl)) (tI_lo _) (tI_hi _)).inc hpe) hs h2 (by omega) (hq.trans (sp_go isD b e hpe hl)) ?_)
        show NV (nv b s (p + 1 - s)) (gI m1 1175 34).toInt
        rw [hnv, if_pos (by omega)]
        exact Or.inr ⟨rfl, hv'.2.1, hv'.2.2⟩
set_option maxRecDepth 100000 in
set_option maxHeartbeats 4000000 in
theorem nx31 {p : Nat} {v : Value} {m1 : MM} (h : MxI m b e p m1) (hp : sp isB b e p0 = p) : At (E0 4) mX7_next (NxQ m b e p0) 31 [.ref 1175, v] [] m1 := by
  obtain ⟨hS, h5, h6, h7, h8, h9⟩ := id h
  have h2 : MxI m b e p (sI m1 1175 32 (gI m1 1175 31)) := h.fld (Or.inl rfl) (show (0 : Int) ≤ _ by omega) (show _ ≤ (800 : Int) by omega)
  have em1 : (-1 : Int32).toInt = -1 := rfl
  have e59 : (59 : Int32).toInt = 59 := rfl
  refine At.ls okNx 80 ⟨_, _, rfl⟩ ?_
  (conv => whnf)
  refine ⟨1, by decide, _, h_hereB h2.1.1 h2.2.2.2.2.2 h7 h5, ?_⟩
  rintro r m' ⟨hmm, hr⟩; have hmm := hmm.symm; subst hmm
  (conv => whnf)
  refine And.intro (fun q => ?_) (fun q => ?_)
  · have q : ¬ r = -1 := q
    have hpe : p < e := Classical.byContradiction (fun y => by
      rw [if_neg y] at hr
      exact q (Int32.toInt_inj.mp (by rw [hr, em1])))
    rw [if_pos hpe] at hr
    (conv => whnf)
    refine ⟨1, by decide, _, h_isSmall, ?_⟩
    rintro z m' ⟨hmm, hz⟩; have hmm := hmm.symm; subst hmm
    rw [hr] at hz
    (conv => whnf)
    refine And.intro (fun q1 => ?_) (fun q1 => ?_)
    · have hnl : ¬ isL (b p) = true := fun y => by
        rcases hz with z1 | z1
        · rw [z1.2] at q1; exact absurd q1 (by decide)
        · exact z1.1 (isL_i.mp y)
      (conv => whnf)
      refine ⟨1, by decide, _, h_isDigit, ?_⟩
      rintro z m' ⟨hmm, hz⟩; have hmm := hmm.symm; subst hmm
      rw [hr] at hz
      (conv => whnf)
      refine And.intro (fun q2 => ?_) (fun q2 => ?_)
      · have hnd : ¬ isD (b p) = true := fun y => by
          rcases hz with z1 | z1
          · rw [z1.2] at q2; exact absurd q2 (by decide)
          · exact z1.1 (isD_i.mp y)
        have et : tok b e p0 = (if b p = 59 then 3 else 4, p, 0, p + 1) := by
          unfold tok tokA
          rw [hp, if_neg (by omega), if_neg hnl, if_neg hnd]
        (conv => whnf)
        refine And.intro (fun q3 => ?_) (fun q3 => ?_)
        · have q3 : ¬ r = 59 := q3
          have h4 := (h2.fld (k := 33) (v := 5) (Or.inr (Or.inl rfl)) (by decide) (by decide)).inc hpe
          refine ⟨h4.1, ?_⟩
          rw [et, if_neg (fun y => q3 (Int32.toInt_inj.mp (by rw [hr, y, e59])))]
          exact ⟨h4.2.1, h5, Or.inr (Or.inr (Or.inr (Or.inr (Or.inr ⟨rfl, rfl⟩))))⟩
        · have q3 : r = 59 := q3
          have h4 := (h2.fld (k := 33) (v := 3) (Or.inr (Or.inl rfl)) (by decide) (by decide)).inc hpe
          refine ⟨h4.1, ?_⟩
          rw [et, if_pos (by rw [← hr, q3, e59])]
          exact ⟨h4.2.1, h5, Or.inr (Or.inr (Or.inr (Or.inr (Or.inl ⟨rfl, rfl⟩))))⟩
      · have hd : isD (b p) = true := by
          rcases hz with z1 | z1
          · exact isD_i.mpr z1.1
          · exact absurd z1.2 q2
        (conv => whnf)
        refine And.intro rfl (nx162 hnl hd hpe hp _ p _ rfl ((h2.fld (k := 33) (v := 2) (Or.inr (Or.inl rfl)) (by decide) (by decide)).fld (k := 34) (v := 0) (Or.inr (Or.inr rfl)) (by decide) (by decide)) h5 rfl (Nat.le_refl _) rfl ?_)
        rw [Nat.sub_self]
        exact Or.inl ⟨rfl, by show (0 : Int) ≤ 0; omega, by show (0 : Int) ≤ 999999; omega⟩
    · have hl : isL (b p) = true := by
        rcases hz with z1 | z1
        · exact isL_i.mpr z1.1
        · exact absurd z1.2 q1
      (conv => whnf)
      exact And.intro rfl (nx64 hl hpe hp _ p _ rfl h2 h5 (Nat.le_refl _) rfl)
  · have q : r = -1 := q
    have hpe : ¬ p < e := fun y => by
      rw [if_pos y, q, em1] at hr
      have := (h9 p y).2
      omega
    have h3 := h2.fld (k := 33) (v := 4) (Or.inr (Or.inl rfl)) (by decide) (by decide)
    refine ⟨h3.1, ?_⟩
    unfold tok tokA
    rw [hp, if_pos (by omega)]
    exact ⟨h5, h5, Or.inl ⟨rfl, rfl⟩⟩
set_option maxRecDepth 100000 in
set_option maxHeartbeats 4000000 in
theorem nx0 {v : Value} : ∀ (n p : Nat) (m1 : MM), e - p = n → MxI m b e p m1 → sp isB b e p0 = sp isB b e p → At (E0 4) mX7_next (NxQ m b e p0) 0 [.ref 1175, v] [] m1 := by
  have e10 : (10 : Int32).toInt = 10 := rfl
  have e32 : (32 : Int32).toInt = 32 := rfl
  intro n
  induction n with
  | zero =>
    intro p m1 hn h hq
    obtain ⟨hS, h5, h6, h7, h8, h9⟩ := id h
    refine At.ls okNx 80 ⟨_, _, rfl⟩ ?_
    (conv => whnf)
    refine ⟨1, by decide, _, h_hereB hS.1 h9 h7 h5, ?_⟩
    rintro r m' ⟨hmm, hr⟩; have hmm := hmm.symm; subst hmm
    rw [if_neg (by omega)] at hr
    (conv => whnf)
    refine And.intro (fun q => ?_) (fun q => ?_)
    · have q : r = 10 := q
      rw [q] at hr; exact absurd hr (by decide)
    · (conv => whnf)
      refine ⟨1, by decide, _, h_hereB hS.1 h9 h7 h5, ?_⟩
      rintro r2 m' ⟨hmm, hr2⟩; have hmm := hmm.symm; subst hmm
      rw [if_neg (by omega)] at hr2
      (conv => whnf)
      refine And.intro (fun q2 => ?_) (fun q2 => ?_)
      · (conv => whnf)
        exact And.intro rfl (nx31 h (hq.trans (sp_st isB b e (by omega))))
      · have q2 : r2 = 32 := q2
        rw [q2] at hr2; exact absurd hr2 (by decide)
  | succ n ih =>
    intro p m1 hn h hq
    obtain ⟨hS, h5, h6, h7, h8, h9⟩ := id h
    have hpe : p < e := by omega
    refine At.ls okNx 80 ⟨_, _, rfl⟩ ?_
    (conv => whnf)
    refine ⟨1, by decide, _, h_hereB hS.1 h9 h7 h5, ?_⟩
    rintro r m' ⟨hmm, hr⟩; have hmm := hmm.symm; subst hmm
    rw [if_pos hpe] at hr
    (conv => whnf)
    refine And.intro (fun q => ?_) (fun q => ?_)
    · have q : r = 10 := q
      (conv => whnf)
      exact And.intro rfl (ih (p + 1) _ (by omega) (h.inc hpe) (hq.trans (sp_go isB b e hpe (isB_i.mpr (Or.inl (by rw [← hr, q, e10]))))))
    · have q : ¬ r = 10 := q
      (conv => whnf)
      refine ⟨1, by decide, _, h_hereB hS.1 h9 h7 h5, ?_⟩
      rintro r2 m' ⟨hmm, hr2⟩; have hmm := hmm.symm; subst hmm
      rw [if_pos hpe] at hr2
      (conv => whnf)
      refine And.intro (fun q2 => ?_) (fun q2 => ?_)
      · have q2 : ¬ r2 = 32 := q2
        (conv => whnf)
        refine And.intro rfl (nx31 h (hq.trans (sp_st isB b e (fun y => ?_))))
        rcases isB_i.mp y.2 with y | y
        · exact q (Int32.toInt_inj.mp (by rw [hr, y, e10]))
        · exact q2 (Int32.toInt_inj.mp (by rw [hr2, y, e32]))
      · have q2 : r2 = 32 := q2
        (conv => whnf)
        exact And.intro rfl (ih (p + 1) _ (by omega) (h.inc hpe) (hq.trans (sp_go isB b e hpe (isB_i.mpr (Or.inr (by rw [← hr2, q2, e32]))))))
/-- the model goes on to the next token -/
theorem h_next7 (hM : Mok TYg m) (hb : mbR m b e) (he : (gI m 1175 30).toInt = e) (hp : (gI m 1175 31).toInt = p0) (hs : p0 ≤ e) (h8 : e ≤ 800) : CV 4 mX7_next [.ref 1175] m (fun m' => St wN7 m m' ∧ tkM m' (tok b e p0)) :=
  nx0 _ p0 m rfl ⟨St.rf hM, hp, hs, he, h8, hb⟩ rfl
end Nx7
