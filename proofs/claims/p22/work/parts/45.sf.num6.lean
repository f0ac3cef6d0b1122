/-! the class: a number, a name told ahead, a new name -/
/-- a word's value is above 0 -/
theorem word_pos {b : BT} {e : Nat} {t : TK} (h : (nx b e t).1 = 1) : 0 ≤ (nx b e t).2.2.1 := by
  revert h
  unfold nx tok tokA
  split
  · intro h; cases h
  · split
    · intro _
      exact (wv_in (fun j hj => sp_all isL b e (p := sp isB b e t.2.2.2) (by omega) (by omega))).1
    · split
      · intro h; cases h
      · intro h
        have h : (if b (sp isB b e t.2.2.2) = 59 then 3 else 4 : Nat) = 1 := h
        split at h <;> omega
section Nu
variable {b : BT} {e : Nat} {t : TK} {m : MM}
set_option maxRecDepth 100000 in
theorem r_within {m : MM} {x l h : Int32} : CI 1 mX6_within [.int x, .int l, .int h] m (fun r m' => m' = m ∧ z1 (l.toInt ≤ x.toInt ∧ x.toInt ≤ h.toInt) r) := by
  refine At.gs okX6_within 40 ?_
  (conv => whnf)
  refine And.intro (fun h1 => ?_) (fun h1 => ?_)
  · rw [lt_i] at h1
    exact ⟨Or.inl rfl, rfl, Or.inr ⟨by omega, rfl⟩⟩
  · rw [lt_i] at h1
    (conv => whnf)
    refine And.intro (fun h2 => ?_) (fun h2 => ?_)
    · rw [lt_i] at h2
      exact ⟨Or.inl rfl, rfl, Or.inr ⟨by omega, rfl⟩⟩
    · rw [lt_i] at h2
      exact ⟨Or.inr rfl, rfl, Or.inl ⟨by omega, rfl⟩⟩
set_option maxRecDepth 100000 in
set_option maxHeartbeats 4000000 in
theorem r_num {lo hi : Int32} (h : CR b e t m) : CI 4 mX3_numberWithin [.ref 19, .int lo, .int hi] m (fun r m' => St wNu m m' ∧ OC m m' (numS b e lo.toInt hi.toInt t) (r = -1) (fun x => r.toInt = x.1 ∧ lo.toInt ≤ x.1 ∧ x.1 ≤ hi.toInt ∧ CR b e x.2 m')) := by
  obtain ⟨k1, k2, k3, k4⟩ := h.2.2.2.2.1
  refine At.gs okX3_numberWithin 60 ?_
  (conv => whnf)
  refine And.intro (fun h1 => ?_) (fun h1 => ?_)
  · have h1 : gI m 19 6 = 2 := h1
    have et : t.1 = 2 := by rw [h1] at k1; have : (2 : Int32).toInt = 2 := rfl; omega
    (conv => whnf)
    refine ⟨1, by decide, _, r_within, ?_⟩
    rintro r m' ⟨hmm, hr⟩; have hmm := hmm.symm; subst hmm
    have hr : z1 (lo.toInt ≤ (gI m 19 8).toInt ∧ (gI m 19 8).toInt ≤ hi.toInt) r := hr
    rw [k3] at hr
    (conv => whnf)
    refine And.intro (fun h2 => ?_) (fun h2 => ?_)
    · have hin : lo.toInt ≤ t.2.2.1 ∧ t.2.2.1 ≤ hi.toInt := by
        rcases hr with q | q
        · exact q.1
        · exact absurd q.2 h2
      (conv => whnf)
      refine ⟨3, by decide, _, r_adv h, ?_⟩
      rintro m2 ⟨q1, q2, q3, q4⟩
      refine ⟨⟨q1.1, q1.2.1, Fr_tr (Fr_rfl _ _) q1.2.2 (by decide)⟩, ?_⟩
      unfold numS
      rw [if_pos et, if_pos hin]
      exact ⟨⟨k3, hin.1, hin.2, q2⟩, q3, q4⟩
    · have hin : ¬ (lo.toInt ≤ t.2.2.1 ∧ t.2.2.1 ≤ hi.toInt) := by
        rcases hr with q | q
        · rw [q.2] at h2; exact absurd h2 (by decide)
        · exact q.1
      (conv => whnf)
      refine ⟨1, by decide, _, r_fail, ?_⟩
      rintro r2 m2 ⟨q1, q2⟩
      subst q2
      refine ⟨St_fail (St.rf h.1) (by decide) (by decide), ?_⟩
      unfold numS
      rw [if_pos et, if_neg hin]
      exact OC_fail h rfl rfl
  · have h1 : ¬ gI m 19 6 = 2 := h1
    have et : ¬ t.1 = 2 := fun q => h1 (Int32.toInt_inj.mp (by rw [k1, q]; rfl))
    (conv => whnf)
    refine ⟨1, by decide, _, r_fail, ?_⟩
    rintro r2 m2 ⟨q1, q2⟩
    subst q2
    refine ⟨St_fail (St.rf h.1) (by decide) (by decide), ?_⟩
    unfold numS
    rw [if_neg et]
    exact OC_fail h rfl rfl
set_option maxRecDepth 100000 in
set_option maxHeartbeats 4000000 in
theorem r_told_354 {B : TB} (h : CR b e t m) (hN : (gI m 354 1).toInt = B.1 0) (h12 : B.1 0 ≤ 12) (hT : ∀ i, i < B.1 0 → (gI m 49528 i).toInt = B.2 0 i) : CI 4 mX3_toldName [.ref 19, .ref 354] m (fun r m' => St wNu m m' ∧ OC m m' (tolS B 0 t) (r = -1) (fun x => r.toInt = x ∧ 0 ≤ x ∧ x < B.1 0 ∧ B.2 0 x.toNat = t.2.2.1 ∧ CR b e (nx b e t) m')) := by
  obtain ⟨k1, k2, k3, k4⟩ := h.2.2.2.2.1
  have ix : fIx (fun i => (gI m 49528 i).toInt) (gI m 19 8).toInt (gI m 354 1).toInt.toNat 0 = fIx (B.2 0) t.2.2.1 (B.1 0) 0 := by
    rw [k3, hN, Int.toNat_natCast]
    exact fIx_cg _ _ (fun i hi => hT i (by omega))
  refine At.gs okX3_toldName 60 ?_
  (conv => whnf)
  have bad : ∀ m2 : MM, m2 = sI (sI m 19 2 1) 19 3 (gI m 19 7) → ¬ (t.1 = 1 ∧ lg t.2.2.1 = -1) → St wNu m m2 ∧ OC m m2 (tolS B 0 t) ((-1 : Int32) = -1) (fun x => (-1 : Int32).toInt = x ∧ 0 ≤ x ∧ x < B.1 0 ∧ B.2 0 x.toNat = t.2.2.1 ∧ CR b e (nx b e t) m2) := fun m2 q hn => by
    subst q
    refine ⟨St_fail (St.rf h.1) (by decide) (by decide), ?_⟩
    unfold tolS
    rw [if_neg hn]
    exact OC_fail h rfl rfl
  refine And.intro (fun h1 => ?_) (fun h1 => ?_)
  · have h1 : ¬ gI m 19 6 = 1 := h1
    have et : ¬ t.1 = 1 := fun q => h1 (Int32.toInt_inj.mp (by rw [k1, q]; rfl))
    (conv => whnf)
    refine ⟨1, by decide, _, r_fail, ?_⟩
    rintro r2 m2 ⟨q1, q2⟩
    exact bad m2 q2 (fun z => et z.1)
  · have h1 : gI m 19 6 = 1 := h1
    have et : t.1 = 1 := by rw [h1] at k1; have : (1 : Int32).toInt = 1 := rfl; omega
    (conv => whnf)
    refine ⟨1, by decide, _, r_lang, ?_⟩
    rintro r m' ⟨hmm, hr⟩; have hmm := hmm.symm; subst hmm
    have hr : z1 (lg (gI m 19 8).toInt ≠ -1) r := hr
    rw [k3] at hr
    (conv => whnf)
    refine And.intro (fun h2 => ?_) (fun h2 => ?_)
    · have hl : lg t.2.2.1 = -1 := by
        rcases hr with q | q
        · rw [q.2] at h2; exact absurd h2 (by decide)
        · exact Classical.not_not.mp q.1
      (conv => whnf)
      refine ⟨1, by decide, _, r_find_354 (by omega) (by omega), ?_⟩
      rintro r m' ⟨hmm, hf⟩; have hmm := hmm.symm; subst hmm
      have hf : r.toInt = fIx (fun i => (gI m 49528 i).toInt) (gI m 19 8).toInt (gI m 354 1).toInt.toNat 0 := hf
      rw [ix] at hf
      have e0 : (0 : Int32).toInt = 0 := rfl
      have hin := fIx_in (f := B.2 0) (v := t.2.2.1) (B.1 0) 0
      (conv => whnf)
      refine And.intro (fun h3 => ?_) (fun h3 => ?_)
      · have h3 : (0 : Int32) ≤ r := h3
        rw [le_i] at h3
        have hne : ¬ fIx (B.2 0) t.2.2.1 (B.1 0) 0 = -1 := by omega
        have hin := hin.resolve_left hne
        (conv => whnf)
        refine ⟨3, by decide, _, r_adv h, ?_⟩
        rintro m2 ⟨q1, q2, q3, q4⟩
        refine ⟨⟨q1.1, q1.2.1, Fr_tr (Fr_rfl _ _) q1.2.2 (by decide)⟩, ?_⟩
        unfold tolS
        rw [if_pos ⟨et, hl⟩, show own 0 = 0 from rfl, if_neg hne]
        exact ⟨⟨hf, by omega, by omega, hin.2.2, q2⟩, q3, q4⟩
      · have h3 : ¬ (0 : Int32) ≤ r := h3
        rw [le_i] at h3
        have hne : fIx (B.2 0) t.2.2.1 (B.1 0) 0 = -1 := by
          rcases hin with q | q
          · exact q
          · omega
        (conv => whnf)
        refine ⟨1, by decide, _, r_fail, ?_⟩
        rintro r2 m2 ⟨q1, q2⟩
        subst q2
        refine ⟨St_fail (St.rf h.1) (by decide) (by decide), ?_⟩
        unfold tolS
        rw [if_pos ⟨et, hl⟩, show own 0 = 0 from rfl, if_pos hne]
        exact OC_fail h rfl rfl
    · have hl : ¬ lg t.2.2.1 = -1 := by
        rcases hr with q | q
        · exact q.1
        · exact absurd q.2 h2
      (conv => whnf)
      refine ⟨1, by decide, _, r_fail, ?_⟩
      rintro r2 m2 ⟨q1, q2⟩
      exact bad m2 q2 (fun z => hl z.2)
set_option maxRecDepth 100000 in
set_option maxHeartbeats 4000000 in
theorem r_new_354 {B : TB} (h : CR b e t m) (hN : (gI m 354 1).toInt = B.1 0) (h12 : B.1 0 ≤ 5) (hT : ∀ i, i < B.1 0 → (gI m 49528 i).toInt = B.2 0 i) : CI 4 mX3_newName [.ref 19, .ref 354, .int 5] m (fun r m' => St wNu m m' ∧ OC m m' (newL b e B 0 5 t) (r = -1) (fun x => r.toInt = x.1 ∧ 0 ≤ x.1 ∧ lg x.1 = -1 ∧ CR b e x.2 m')) := by
  obtain ⟨k1, k2, k3, k4⟩ := h.2.2.2.2.1
  have eM : (5 : Int32).toInt = 5 := rfl
  refine At.gs okX3_newName 60 ?_
  (conv => whnf)
  refine And.intro (fun h0 => ?_) (fun h0 => ?_)
  · have h0 : gI m 354 1 < 5 := h0
    rw [lt_i] at h0
    have hlt : ¬ B.1 0 = 5 := by omega
    (conv => whnf)
    refine ⟨3, by decide, _, r_adv h, ?_⟩
    rintro m1 ⟨q1, q2, q3, q4⟩
    have hS1 : St wNu m m1 := ⟨q1.1, q1.2.1, Fr_tr (Fr_rfl _ _) q1.2.2 (by decide)⟩
    obtain ⟨j1, j2, j3, j4⟩ := q2.2.2.2.2.1
    have hN1 : (gI m1 354 1).toInt = B.1 0 := by rw [fr1 q1.2.2 (by decide : ¬ wk 354 1 ∈ wAd)]; exact hN
    have hT1 : ∀ i, i < B.1 0 → (gI m1 49528 i).toInt = B.2 0 i := fun i hi => by rw [row1 q1.2.2 rfl (by decide)]; exact hT i hi
    have ix : fIx (fun i => (gI m1 49528 i).toInt) (gI m1 19 8).toInt (gI m1 354 1).toInt.toNat 0 = fIx (B.2 0) (nx b e t).2.2.1 (B.1 0) 0 := by
      rw [j3, hN1, Int.toNat_natCast]
      exact fIx_cg _ _ (fun i hi => hT1 i (by omega))
    have bad : ∀ m2 : MM, m2 = sI (sI m1 19 2 1) 19 3 (gI m1 19 7) → ¬ ((nx b e t).1 = 1 ∧ lg (nx b e t).2.2.1 = -1) → St wNu m m2 ∧ OC m m2 (newL b e B 0 5 t) ((-1 : Int32) = -1) (fun x => (-1 : Int32).toInt = x.1 ∧ 0 ≤ x.1 ∧ lg x.1 = -1 ∧ CR b e x.2 m2) := fun m2 q hn => by
      subst q
      refine ⟨St_fail hS1 (by decide) (by decide), ?_⟩
      unfold newL
      rw [show own 0 = 0 from rfl, if_neg hlt]
      unfold newS
      rw [if_neg hn]
      exact OC_fail q2 rfl rfl
    (conv => whnf)
    refine And.intro (fun h1 => ?_) (fun h1 => ?_)
    · have h1 : ¬ gI m1 19 6 = 1 := h1
      have et : ¬ (nx b e t).1 = 1 := fun q => h1 (Int32.toInt_inj.mp (by rw [j1, q]; rfl))
      (conv => whnf)
      refine ⟨1, by decide, _, r_fail, ?_⟩
      rintro r2 m2 ⟨z1, z2⟩
      exact bad m2 z2 (fun z => et z.1)
    · have h1 : gI m1 19 6 = 1 := h1
      have et : (nx b e t).1 = 1 := by rw [h1] at j1; have : (1 : Int32).toInt = 1 := rfl; omega
      (conv => whnf)
      refine ⟨1, by decide, _, r_lang, ?_⟩
      rintro r m' ⟨hmm, hr⟩; have hmm := hmm.symm; subst hmm
      have hr : z1 (lg (gI m1 19 8).toInt ≠ -1) r := hr
      rw [j3] at hr
      (conv => whnf)
      refine And.intro (fun h2 => ?_) (fun h2 => ?_)
      · have hl : lg (nx b e t).2.2.1 = -1 := by
          rcases hr with q | q
          · rw [q.2] at h2; exact absurd h2 (by decide)
          · exact Classical.not_not.mp q.1
        (conv => whnf)
        refine ⟨1, by decide, _, r_find_354 (by omega) (by omega), ?_⟩
        rintro r m' ⟨hmm, hf⟩; have hmm := hmm.symm; subst hmm
        have hf : r.toInt = fIx (fun i => (gI m1 49528 i).toInt) (gI m1 19 8).toInt (gI m1 354 1).toInt.toNat 0 := hf
        rw [ix] at hf
        have e0 : (0 : Int32).toInt = 0 := rfl
        have hin := fIx_in (f := B.2 0) (v := (nx b e t).2.2.1) (B.1 0) 0
        (conv => whnf)
        refine And.intro (fun h3 => ?_) (fun h3 => ?_)
        · have h3 : r < (0 : Int32) := h3
          rw [lt_i] at h3
          have hne : fIx (B.2 0) (nx b e t).2.2.1 (B.1 0) 0 = -1 := by
            rcases hin with q | q
            · exact q
            · omega
          (conv => whnf)
          refine ⟨3, by decide, _, r_adv q2, ?_⟩
          rintro m2 ⟨y1, y2, y3, y4⟩
          refine ⟨hS1.tr y1 (by decide), ?_⟩
          unfold newL
          rw [show own 0 = 0 from rfl, if_neg hlt]
          unfold newS
          rw [if_pos ⟨et, hl⟩, show own 0 = 0 from rfl, if_pos hne]
          exact ⟨⟨j3, word_pos et, hl, y2⟩, y3.trans q3, y4.trans q4⟩
        · have h3 : ¬ r < (0 : Int32) := h3
          rw [lt_i] at h3
          have hne : ¬ fIx (B.2 0) (nx b e t).2.2.1 (B.1 0) 0 = -1 := by omega
          (conv => whnf)
          refine ⟨1, by decide, _, r_fail, ?_⟩
          rintro r2 m2 ⟨z1, z2⟩
          subst z2
          refine ⟨St_fail hS1 (by decide) (by decide), ?_⟩
          unfold newL
          rw [show own 0 = 0 from rfl, if_neg hlt]
          unfold newS
          rw [if_pos ⟨et, hl⟩, show own 0 = 0 from rfl, if_neg hne]
          exact OC_fail q2 rfl rfl
      · have hl : ¬ lg (nx b e t).2.2.1 = -1 := by
          rcases hr with q | q
          · exact q.1
          · exact absurd q.2 h2
        (conv => whnf)
        refine ⟨1, by decide, _, r_fail, ?_⟩
        rintro r2 m2 ⟨z1, z2⟩
        exact bad m2 z2 (fun z => hl z.2)
  · have h0 : ¬ gI m 354 1 < 5 := h0
    rw [lt_i] at h0
    have hlt : B.1 0 = 5 := by omega
    (conv => whnf)
    refine ⟨1, by decide, _, r_fail, ?_⟩
    rintro r2 m2 ⟨z1, z2⟩
    subst z2
    refine ⟨St_fail (St.rf h.1) (by decide) (by decide), ?_⟩
    unfold newL
    rw [show own 0 = 0 from rfl, if_pos hlt]
    exact OC_fail h rfl rfl
set_option maxRecDepth 100000 in
set_option maxHeartbeats 4000000 in
theorem r_told_386 {B : TB} (h : CR b e t m) (hN : (gI m 386 1).toInt = B.1 1) (h12 : B.1 1 ≤ 12) (hT : ∀ i, i < B.1 1 → (gI m 49560 i).toInt = B.2 2 i) : CI 4 mX3_toldName [.ref 19, .ref 386] m (fun r m' => St wNu m m' ∧ OC m m' (tolS B 2 t) (r = -1) (fun x => r.toInt = x ∧ 0 ≤ x ∧ x < B.1 1 ∧ B.2 2 x.toNat = t.2.2.1 ∧ CR b e (nx b e t) m')) := by
  obtain ⟨k1, k2, k3, k4⟩ := h.2.2.2.2.1
  have ix : fIx (fun i => (gI m 49560 i).toInt) (gI m 19 8).toInt (gI m 386 1).toInt.toNat 0 = fIx (B.2 2) t.2.2.1 (B.1 1) 0 := by
    rw [k3, hN, Int.toNat_natCast]
    exact fIx_cg _ _ (fun i hi => hT i (by omega))
  refine At.gs okX3_toldName 60 ?_
  (conv => whnf)
  have bad : ∀ m2 : MM, m2 = sI (sI m 19 2 1) 19 3 (gI m 19 7) → ¬ (t.1 = 1 ∧ lg t.2.2.1 = -1) → St wNu m m2 ∧ OC m m2 (tolS B 2 t) ((-1 : Int32) = -1) (fun x => (-1 : Int32).toInt = x ∧ 0 ≤ x ∧ x < B.1 1 ∧ B.2 2 x.toNat = t.2.2.1 ∧ CR b e (nx b e t) m2) := fun m2 q hn => by
    subst q
    refine ⟨St_fail (St.rf h.1) (by decide) (by decide), ?_⟩
    unfold tolS
    rw [if_neg hn]
    exact OC_fail h rfl rfl
  refine And.intro (fun h1 => ?_) (fun h1 => ?_)
  · have h1 : ¬ gI m 19 6 = 1 := h1
    have et : ¬ t.1 = 1 := fun q => h1 (Int32.toInt_inj.mp (by rw [k1, q]; rfl))
    (conv => whnf)
    refine ⟨1, by decide, _, r_fail, ?_⟩
    rintro r2 m2 ⟨q1, q2⟩
    exact bad m2 q2 (fun z => et z.1)
  · have h1 : gI m 19 6 = 1 := h1
    have et : t.1 = 1 := by rw [h1] at k1; have : (1 : Int32).toInt = 1 := rfl; omega
    (conv => whnf)
    refine ⟨1, by decide, _, r_lang, ?_⟩
    rintro r m' ⟨hmm, hr⟩; have hmm := hmm.symm; subst hmm
    have hr : z1 (lg (gI m 19 8).toInt ≠ -1) r := hr
    rw [k3] at hr
    (conv => whnf)
    refine And.intro (fun h2 => ?_) (fun h2 => ?_)
    · have hl : lg t.2.2.1 = -1 := by
        rcases hr with q | q
        · rw [q.2] at h2; exact absurd h2 (by decide)
        · exact Classical.not_not.mp q.1
      (conv => whnf)
      refine ⟨1, by decide, _, r_find_386 (by omega) (by omega), ?_⟩
      rintro r m' ⟨hmm, hf⟩; have hmm := hmm.symm; subst hmm
      have hf : r.toInt = fIx (fun i => (gI m 49560 i).toInt) (gI m 19 8).toInt (gI m 386 1).toInt.toNat 0 := hf
      rw [ix] at hf
      have e0 : (0 : Int32).toInt = 0 := rfl
      have hin := fIx_in (f := B.2 2) (v := t.2.2.1) (B.1 1) 0
      (conv => whnf)
      refine And.intro (fun h3 => ?_) (fun h3 => ?_)
      · have h3 : (0 : Int32) ≤ r := h3
        rw [le_i] at h3
        have hne : ¬ fIx (B.2 2) t.2.2.1 (B.1 1) 0 = -1 := by omega
        have hin := hin.resolve_left hne
        (conv => whnf)
        refine ⟨3, by decide, _, r_adv h, ?_⟩
        rintro m2 ⟨q1, q2, q3, q4⟩
        refine ⟨⟨q1.1, q1.2.1, Fr_tr (Fr_rfl _ _) q1.2.2 (by decide)⟩, ?_⟩
        unfold tolS
        rw [if_pos ⟨et, hl⟩, show own 2 = 1 from rfl, if_neg hne]
        exact ⟨⟨hf, by omega, by omega, hin.2.2, q2⟩, q3, q4⟩
      · have h3 : ¬ (0 : Int32) ≤ r := h3
        rw [le_i] at h3
        have hne : fIx (B.2 2) t.2.2.1 (B.1 1) 0 = -1 := by
          rcases hin with q | q
          · exact q
          · omega
        (conv => whnf)
        refine ⟨1, by decide, _, r_fail, ?_⟩
        rintro r2 m2 ⟨q1, q2⟩
        subst q2
        refine ⟨St_fail (St.rf h.1) (by decide) (by decide), ?_⟩
        unfold tolS
        rw [if_pos ⟨et, hl⟩, show own 2 = 1 from rfl, if_pos hne]
        exact OC_fail h rfl rfl
    · have hl : ¬ lg t.2.2.1 = -1 := by
        rcases hr with q | q
        · exact q.1
        · exact absurd q.2 h2
      (conv => whnf)
      refine ⟨1, by decide, _, r_fail, ?_⟩
      rintro r2 m2 ⟨q1, q2⟩
      exact bad m2 q2 (fun z => hl z.2)
set_option maxRecDepth 100000 in
set_option maxHeartbeats 4000000 in
theorem r_new_386 {B : TB} (h : CR b e t m) (hN : (gI m 386 1).toInt = B.1 1) (h12 : B.1 1 ≤ 4) (hT : ∀ i, i < B.1 1 → (gI m 49560 i).toInt = B.2 2 i) : CI 4 mX3_newName [.ref 19, .ref 386, .int 4] m (fun r m' => St wNu m m' ∧ OC m m' (newL b e B 2 4 t) (r = -1) (fun x => r.toInt = x.1 ∧ 0 ≤ x.1 ∧ lg x.1 = -1 ∧ CR b e x.2 m')) := by
  obtain ⟨k1, k2, k3, k4⟩ := h.2.2.2.2.1
  have eM : (4 : Int32).toInt = 4 := rfl
  refine At.gs okX3_newName 60 ?_
  (conv => whnf)
  refine And.intro (fun h0 => ?_) (fun h0 => ?_)
  · have h0 : gI m 386 1 < 4 := h0
    rw [lt_i] at h0
    have hlt : ¬ B.1 1 = 4 := by omega
    (conv => whnf)
    refine ⟨3, by decide, _, r_adv h, ?_⟩
    rintro m1 ⟨q1, q2, q3, q4⟩
    have hS1 : St wNu m m1 := ⟨q1.1, q1.2.1, Fr_tr (Fr_rfl _ _) q1.2.2 (by decide)⟩
    obtain ⟨j1, j2, j3, j4⟩ := q2.2.2.2.2.1
    have hN1 : (gI m1 386 1).toInt = B.1 1 := by rw [fr1 q1.2.2 (by decide : ¬ wk 386 1 ∈ wAd)]; exact hN
    have hT1 : ∀ i, i < B.1 1 → (gI m1 49560 i).toInt = B.2 2 i := fun i hi => by rw [row1 q1.2.2 rfl (by decide)]; exact hT i hi
    have ix : fIx (fun i => (gI m1 49560 i).toInt) (gI m1 19 8).toInt (gI m1 386 1).toInt.toNat 0 = fIx (B.2 2) (nx b e t).2.2.1 (B.1 1) 0 := by
      rw [j3, hN1, Int.toNat_natCast]
      exact fIx_cg _ _ (fun i hi => hT1 i (by omega))
    have bad : ∀ m2 : MM, m2 = sI (sI m1 19 2 1) 19 3 (gI m1 19 7) → ¬ ((nx b e t).1 = 1 ∧ lg (nx b e t).2.2.1 = -1) → St wNu m m2 ∧ OC m m2 (newL b e B 2 4 t) ((-1 : Int32) = -1) (fun x => (-1 : Int32).toInt = x.1 ∧ 0 ≤ x.1 ∧ lg x.1 = -1 ∧ CR b e x.2 m2) := fun m2 q hn => by
      subst q
      refine ⟨St_fail hS1 (by decide) (by decide), ?_⟩
      unfold newL
      rw [show own 2 = 1 from rfl, if_neg hlt]
      unfold newS
      rw [if_neg hn]
      exact OC_fail q2 rfl rfl
    (conv => whnf)
    refine And.intro (fun h1 => ?_) (fun h1 => ?_)
    · have h1 : ¬ gI m1 19 6 = 1 := h1
      have et : ¬ (nx b e t).1 = 1 := fun q => h1 (Int32.toInt_inj.mp (by rw [j1, q]; rfl))
      (conv => whnf)
      refine ⟨1, by decide, _, r_fail, ?_⟩
      rintro r2 m2 ⟨z1, z2⟩
      exact bad m2 z2 (fun z => et z.1)
    · have h1 : gI m1 19 6 = 1 := h1
      have et : (nx b e t).1 = 1 := by rw [h1] at j1; have : (1 : Int32).toInt = 1 := rfl; omega
      (conv => whnf)
      refine ⟨1, by decide, _, r_lang, ?_⟩
      rintro r m' ⟨hmm, hr⟩; have hmm := hmm.symm; subst hmm
      have hr : z1 (lg (gI m1 19 8).toInt ≠ -1) r := hr
      rw [j3] at hr
      (conv => whnf)
      refine And.intro (fun h2 => ?_) (fun h2 => ?_)
      · have hl : lg (nx b e t).2.2.1 = -1 := by
          rcases hr with q | q
          · rw [q.2] at h2; exact absurd h2 (by decide)
          · exact Classical.not_not.mp q.1
        (conv => whnf)
        refine ⟨1, by decide, _, r_find_386 (by omega) (by omega), ?_⟩
        rintro r m' ⟨hmm, hf⟩; have hmm := hmm.symm; subst hmm
        have hf : r.toInt = fIx (fun i => (gI m1 49560 i).toInt) (gI m1 19 8).toInt (gI m1 386 1).toInt.toNat 0 := hf
        rw [ix] at hf
        have e0 : (0 : Int32).toInt = 0 := rfl
        have hin := fIx_in (f := B.2 2) (v := (nx b e t).2.2.1) (B.1 1) 0
        (conv => whnf)
        refine And.intro (fun h3 => ?_) (fun h3 => ?_)
        · have h3 : r < (0 : Int32) := h3
          rw [lt_i] at h3
          have hne : fIx (B.2 2) (nx b e t).2.2.1 (B.1 1) 0 = -1 := by
            rcases hin with q | q
            · exact q
            · omega
          (conv => whnf)
          refine ⟨3, by decide, _, r_adv q2, ?_⟩
          rintro m2 ⟨y1, y2, y3, y4⟩
          refine ⟨hS1.tr y1 (by decide), ?_⟩
          unfold newL
          rw [show own 2 = 1 from rfl, if_neg hlt]
          unfold newS
          rw [if_pos ⟨et, hl⟩, show own 2 = 1 from rfl, if_pos hne]
          exact ⟨⟨j3, word_pos et, hl, y2⟩, y3.trans q3, y4.trans q4⟩
        · have h3 : ¬ r < (0 : Int32) := h3
          rw [lt_i] at h3
          have hne : ¬ fIx (B.2 2) (nx b e t).2.2.1 (B.1 1) 0 = -1 := by omega
          (conv => whnf)
          refine ⟨1, by decide, _, r_fail, ?_⟩
          rintro r2 m2 ⟨z1, z2⟩
          subst z2
          refine ⟨St_fail hS1 (by decide) (by decide), ?_⟩
          unfold newL
          rw [show own 2 = 1 from rfl, if_neg hlt]
          unfold newS
          rw [if_pos ⟨et, hl⟩, show own 2 = 1 from rfl, if_neg hne]
          exact OC_fail q2 rfl rfl
      · have hl : ¬ lg (nx b e t).2.2.1 = -1 := by
          rcases hr with q | q
          · exact q.1
          · exact absurd q.2 h2
        (conv => whnf)
        refine ⟨1, by decide, _, r_fail, ?_⟩
        rintro r2 m2 ⟨z1, z2⟩
        exact bad m2 z2 (fun z => hl z.2)
  · have h0 : ¬ gI m 386 1 < 4 := h0
    rw [lt_i] at h0
    have hlt : B.1 1 = 4 := by omega
    (conv => whnf)
    refine ⟨1, by decide, _, r_fail, ?_⟩
    rintro r2 m2 ⟨z1, z2⟩
    subst z2
    refine ⟨St_fail (St.rf h.1) (by decide) (by decide), ?_⟩
    unfold newL
    rw [show own 2 = 1 from rfl, if_pos hlt]
    exact OC_fail h rfl rfl
set_option maxRecDepth 100000 in
set_option maxHeartbeats 4000000 in
theorem r_told_418 {B : TB} (h : CR b e t m) (hN : (gI m 418 1).toInt = B.1 2) (h12 : B.1 2 ≤ 12) (hT : ∀ i, i < B.1 2 → (gI m 49592 i).toInt = B.2 3 i) : CI 4 mX3_toldName [.ref 19, .ref 418] m (fun r m' => St wNu m m' ∧ OC m m' (tolS B 3 t) (r = -1) (fun x => r.toInt = x ∧ 0 ≤ x ∧ x < B.1 2 ∧ B.2 3 x.toNat = t.2.2.1 ∧ CR b e (nx b e t) m')) := by
  obtain ⟨k1, k2, k3, k4⟩ := h.2.2.2.2.1
  have ix : fIx (fun i => (gI m 49592 i).toInt) (gI m 19 8).toInt (gI m 418 1).toInt.toNat 0 = fIx (B.2 3) t.2.2.1 (B.1 2) 0 := by
    rw [k3, hN, Int.toNat_natCast]
    exact fIx_cg _ _ (fun i hi => hT i (by omega))
  refine At.gs okX3_toldName 60 ?_
  (conv => whnf)
  have bad : ∀ m2 : MM, m2 = sI (sI m 19 2 1) 19 3 (gI m 19 7) → ¬ (t.1 = 1 ∧ lg t.2.2.1 = -1) → St wNu m m2 ∧ OC m m2 (tolS B 3 t) ((-1 : Int32) = -1) (fun x => (-1 : Int32).toInt = x ∧ 0 ≤ x ∧ x < B.1 2 ∧ B.2 3 x.toNat = t.2.2.1 ∧ CR b e (nx b e t) m2) := fun m2 q hn => by
    subst q
    refine ⟨St_fail (St.rf h.1) (by decide) (by decide), ?_⟩
    unfold tolS
    rw [if_neg hn]
    exact OC_fail h rfl rfl
  refine And.intro (fun h1 => ?_) (fun h1 => ?_)
  · have h1 : ¬ gI m 19 6 = 1 := h1
    have et : ¬ t.1 = 1 := fun q => h1 (Int32.toInt_inj.mp (by rw [k1, q]; rfl))
    (conv => whnf)
    refine ⟨1, by decide, _, r_fail, ?_⟩
    rintro r2 m2 ⟨q1, q2⟩
    exact bad m2 q2 (fun z => et z.1)
  · have h1 : gI m 19 6 = 1 := h1
    have et : t.1 = 1 := by rw [h1] at k1; have : (1 : Int32).toInt = 1 := rfl; omega
    (conv => whnf)
    refine ⟨1, by decide, _, r_lang, ?_⟩
    rintro r m' ⟨hmm, hr⟩; have hmm := hmm.symm; subst hmm
    have hr : z1 (lg (gI m 19 8).toInt ≠ -1) r := hr
    rw [k3] at hr
    (conv => whnf)
    refine And.intro (fun h2 => ?_) (fun h2 => ?_)
    · have hl : lg t.2.2.1 = -1 := by
        rcases hr with q | q
        · rw [q.2] at h2; exact absurd h2 (by decide)
        · exact Classical.not_not.mp q.1
      (conv => whnf)
      refine ⟨1, by decide, _, r_find_418 (by omega) (by omega), ?_⟩
      rintro r m' ⟨hmm, hf⟩; have hmm := hmm.symm; subst hmm
      have hf : r.toInt = fIx (fun i => (gI m 49592 i).toInt) (gI m 19 8).toInt (gI m 418 1).toInt.toNat 0 := hf
      rw [ix] at hf
      have e0 : (0 : Int32).toInt = 0 := rfl
      have hin := fIx_in (f := B.2 3) (v := t.2.2.1) (B.1 2) 0
      (conv => whnf)
      refine And.intro (fun h3 => ?_) (fun h3 => ?_)
      · have h3 : (0 : Int32) ≤ r := h3
        rw [le_i] at h3
        have hne : ¬ fIx (B.2 3) t.2.2.1 (B.1 2) 0 = -1 := by omega
        have hin := hin.resolve_left hne
        (conv => whnf)
        refine ⟨3, by decide, _, r_adv h, ?_⟩
        rintro m2 ⟨q1, q2, q3, q4⟩
        refine ⟨⟨q1.1, q1.2.1, Fr_tr (Fr_rfl _ _) q1.2.2 (by decide)⟩, ?_⟩
        unfold tolS
        rw [if_pos ⟨et, hl⟩, show own 3 = 2 from rfl, if_neg hne]
        exact ⟨⟨hf, by omega, by omega, hin.2.2, q2⟩, q3, q4⟩
      · have h3 : ¬ (0 : Int32) ≤ r := h3
        rw [le_i] at h3
        have hne : fIx (B.2 3) t.2.2.1 (B.1 2) 0 = -1 := by
          rcases hin with q | q
          · exact q
          · omega
        (conv => whnf)
        refine ⟨1, by decide, _, r_fail, ?_⟩
        rintro r2 m2 ⟨q1, q2⟩
        subst q2
        refine ⟨St_fail (St.rf h.1) (by decide) (by decide), ?_⟩
        unfold tolS
        rw [if_pos ⟨et, hl⟩, show own 3 = 2 from rfl, if_pos hne]
        exact OC_fail h rfl rfl
    · have hl : ¬ lg t.2.2.1 = -1 := by
        rcases hr with q | q
        · exact q.1
        · exact absurd q.2 h2
      (conv => whnf)
      refine ⟨1, by decide, _, r_fail, ?_⟩
      rintro r2 m2 ⟨q1, q2⟩
      exact bad m2 q2 (fun z => hl z.2)
set_option maxRecDepth 100000 in
set_option maxHeartbeats 4000000 in
theorem r_new_418 {B : TB} (h : CR b e t m) (hN : (gI m 418 1).toInt = B.1 2) (h12 : B.1 2 ≤ 12) (hT : ∀ i, i < B.1 2 → (gI m 49592 i).toInt = B.2 3 i) : CI 4 mX3_newName [.ref 19, .ref 418, .int 12] m (fun r m' => St wNu m m' ∧ OC m m' (newL b e B 3 12 t) (r = -1) (fun x => r.toInt = x.1 ∧ 0 ≤ x.1 ∧ lg x.1 = -1 ∧ CR b e x.2 m')) := by
  obtain ⟨k1, k2, k3, k4⟩ := h.2.2.2.2.1
  have eM : (12 : Int32).toInt = 12 := rfl
  refine At.gs okX3_newName 60 ?_
  (conv => whnf)
  refine And.intro (fun h0 => ?_) (fun h0 => ?_)
  · have h0 : gI m 418 1 < 12 := h0
    rw [lt_i] at h0
    have hlt : ¬ B.1 2 = 12 := by omega
    (conv => whnf)
    refine ⟨3, by decide, _, r_adv h, ?_⟩
    rintro m1 ⟨q1, q2, q3, q4⟩
    have hS1 : St wNu m m1 := ⟨q1.1, q1.2.1, Fr_tr (Fr_rfl _ _) q1.2.2 (by decide)⟩
    obtain ⟨j1, j2, j3, j4⟩ := q2.2.2.2.2.1
    have hN1 : (gI m1 418 1).toInt = B.1 2 := by rw [fr1 q1.2.2 (by decide : ¬ wk 418 1 ∈ wAd)]; exact hN
    have hT1 : ∀ i, i < B.1 2 → (gI m1 49592 i).toInt = B.2 3 i := fun i hi => by rw [row1 q1.2.2 rfl (by decide)]; exact hT i hi
    have ix : fIx (fun i => (gI m1 49592 i).toInt) (gI m1 19 8).toInt (gI m1 418 1).toInt.toNat 0 = fIx (B.2 3) (nx b e t).2.2.1 (B.1 2) 0 := by
      rw [j3, hN1, Int.toNat_natCast]
      exact fIx_cg _ _ (fun i hi => hT1 i (by omega))
    have bad : ∀ m2 : MM, m2 = sI (sI m1 19 2 1) 19 3 (gI m1 19 7) → ¬ ((nx b e t).1 = 1 ∧ lg (nx b e t).2.2.1 = -1) → St wNu m m2 ∧ OC m m2 (newL b e B 3 12 t) ((-1 : Int32) = -1) (fun x => (-1 : Int32).toInt = x.1 ∧ 0 ≤ x.1 ∧ lg x.1 = -1 ∧ CR b e x.2 m2) := fun m2 q hn => by
      subst q
      refine ⟨St_fail hS1 (by decide) (by decide), ?_⟩
      unfold newL
      rw [show own 3 = 2 from rfl, if_neg hlt]
      unfold newS
      rw [if_neg hn]
      exact OC_fail q2 rfl rfl
    (conv => whnf)
    refine And.intro (fun h1 => ?_) (fun h1 => ?_)
    · have h1 : ¬ gI m1 19 6 = 1 := h1
      have et : ¬ (nx b e t).1 = 1 := fun q => h1 (Int32.toInt_inj.mp (by rw [j1, q]; rfl))
      (conv => whnf)
      refine ⟨1, by decide, _, r_fail, ?_⟩
      rintro r2 m2 ⟨z1, z2⟩
      exact bad m2 z2 (fun z => et z.1)
    · have h1 : gI m1 19 6 = 1 := h1
      have et : (nx b e t).1 = 1 := by rw [h1] at j1; have : (1 : Int32).toInt = 1 := rfl; omega
      (conv => whnf)
      refine ⟨1, by decide, _, r_lang, ?_⟩
      rintro r m' ⟨hmm, hr⟩; have hmm := hmm.symm; subst hmm
      have hr : z1 (lg (gI m1 19 8).toInt ≠ -1) r := hr
      rw [j3] at hr
      (conv => whnf)
      refine And.intro (fun h2 => ?_) (fun h2 => ?_)
      · have hl : lg (nx b e t).2.2.1 = -1 := by
          rcases hr with q | q
          · rw [q.2] at h2; exact absurd h2 (by decide)
          · exact Classical.not_not.mp q.1
        (conv => whnf)
        refine ⟨1, by decide, _, r_find_418 (by omega) (by omega), ?_⟩
        rintro r m' ⟨hmm, hf⟩; have hmm := hmm.symm; subst hmm
        have hf : r.toInt = fIx (fun i => (gI m1 49592 i).toInt) (gI m1 19 8).toInt (gI m1 418 1).toInt.toNat 0 := hf
        rw [ix] at hf
        have e0 : (0 : Int32).toInt = 0 := rfl
        have hin := fIx_in (f := B.2 3) (v := (nx b e t).2.2.1) (B.1 2) 0
        (conv => whnf)
        refine And.intro (fun h3 => ?_) (fun h3 => ?_)
        · have h3 : r < (0 : Int32) := h3
          rw [lt_i] at h3
          have hne : fIx (B.2 3) (nx b e t).2.2.1 (B.1 2) 0 = -1 := by
            rcases hin with q | q
            · exact q
            · omega
          (conv => whnf)
          refine ⟨3, by decide, _, r_adv q2, ?_⟩
          rintro m2 ⟨y1, y2, y3, y4⟩
          refine ⟨hS1.tr y1 (by decide), ?_⟩
          unfold newL
          rw [show own 3 = 2 from rfl, if_neg hlt]
          unfold newS
          rw [if_pos ⟨et, hl⟩, show own 3 = 2 from rfl, if_pos hne]
          exact ⟨⟨j3, word_pos et, hl, y2⟩, y3.trans q3, y4.trans q4⟩
        · have h3 : ¬ r < (0 : Int32) := h3
          rw [lt_i] at h3
          have hne : ¬ fIx (B.2 3) (nx b e t).2.2.1 (B.1 2) 0 = -1 := by omega
          (conv => whnf)
          refine ⟨1, by decide, _, r_fail, ?_⟩
          rintro r2 m2 ⟨z1, z2⟩
          subst z2
          refine ⟨St_fail hS1 (by decide) (by decide), ?_⟩
          unfold newL
          rw [show own 3 = 2 from rfl, if_neg hlt]
          unfold newS
          rw [if_pos ⟨et, hl⟩, show own 3 = 2 from rfl, if_neg hne]
          exact OC_fail q2 rfl rfl
      · have hl : ¬ lg (nx b e t).2.2.1 = -1 := by
          rcases hr with q | q
          · exact q.1
          · exact absurd q.2 h2
        (conv => whnf)
        refine ⟨1, by decide, _, r_fail, ?_⟩
        rintro r2 m2 ⟨z1, z2⟩
        exact bad m2 z2 (fun z => hl z.2)
  · have h0 : ¬ gI m 418 1 < 12 := h0
    rw [lt_i] at h0
    have hlt : B.1 2 = 12 := by omega
    (conv => whnf)
    refine ⟨1, by decide, _, r_fail, ?_⟩
    rintro r2 m2 ⟨z1, z2⟩
    subst z2
    refine ⟨St_fail (St.rf h.1) (by decide) (by decide), ?_⟩
    unfold newL
    rw [show own 3 = 2 from rfl, if_pos hlt]
    exact OC_fail h rfl rfl
set_option maxRecDepth 100000 in
set_option maxHeartbeats 4000000 in
theorem r_told_738 {B : TB} (h : CR b e t m) (hN : (gI m 738 1).toInt = B.1 0) (h12 : B.1 0 ≤ 12) (hT : ∀ i, i < B.1 0 → (gI m 49912 i).toInt = B.2 0 i) : CI 4 mX3_toldName [.ref 19, .ref 738] m (fun r m' => St wNu m m' ∧ OC m m' (tolS B 0 t) (r = -1) (fun x => r.toInt = x ∧ 0 ≤ x ∧ x < B.1 0 ∧ B.2 0 x.toNat = t.2.2.1 ∧ CR b e (nx b e t) m')) := by
  obtain ⟨k1, k2, k3, k4⟩ := h.2.2.2.2.1
  have ix : fIx (fun i => (gI m 49912 i).toInt) (gI m 19 8).toInt (gI m 738 1).toInt.toNat 0 = fIx (B.2 0) t.2.2.1 (B.1 0) 0 := by
    rw [k3, hN, Int.toNat_natCast]
    exact fIx_cg _ _ (fun i hi => hT i (by omega))
  refine At.gs okX3_toldName 60 ?_
  (conv => whnf)
  have bad : ∀ m2 : MM, m2 = sI (sI m 19 2 1) 19 3 (gI m 19 7) → ¬ (t.1 = 1 ∧ lg t.2.2.1 = -1) → St wNu m m2 ∧ OC m m2 (tolS B 0 t) ((-1 : Int32) = -1) (fun x => (-1 : Int32).toInt = x ∧ 0 ≤ x ∧ x < B.1 0 ∧ B.2 0 x.toNat = t.2.2.1 ∧ CR b e (nx b e t) m2) := fun m2 q hn => by
    subst q
    refine ⟨St_fail (St.rf h.1) (by decide) (by decide), ?_⟩
    unfold tolS
    rw [if_neg hn]
    exact OC_fail h rfl rfl
  refine And.intro (fun h1 => ?_) (fun h1 => ?_)
  · have h1 : ¬ gI m 19 6 = 1 := h1
    have et : ¬ t.1 = 1 := fun q => h1 (Int32.toInt_inj.mp (by rw [k1, q]; rfl))
    (conv => whnf)
    refine ⟨1, by decide, _, r_fail, ?_⟩
    rintro r2 m2 ⟨q1, q2⟩
    exact bad m2 q2 (fun z => et z.1)
  · have h1 : gI m 19 6 = 1 := h1
    have et : t.1 = 1 := by rw [h1] at k1; have : (1 : Int32).toInt = 1 := rfl; omega
    (conv => whnf)
    refine ⟨1, by decide, _, r_lang, ?_⟩
    rintro r m' ⟨hmm, hr⟩; have hmm := hmm.symm; subst hmm
    have hr : z1 (lg (gI m 19 8).toInt ≠ -1) r := hr
    rw [k3] at hr
    (conv => whnf)
    refine And.intro (fun h2 => ?_) (fun h2 => ?_)
    · have hl : lg t.2.2.1 = -1 := by
        rcases hr with q | q
        · rw [q.2] at h2; exact absurd h2 (by decide)
        · exact Classical.not_not.mp q.1
      (conv => whnf)
      refine ⟨1, by decide, _, r_find_738 (by omega) (by omega), ?_⟩
      rintro r m' ⟨hmm, hf⟩; have hmm := hmm.symm; subst hmm
      have hf : r.toInt = fIx (fun i => (gI m 49912 i).toInt) (gI m 19 8).toInt (gI m 738 1).toInt.toNat 0 := hf
      rw [ix] at hf
      have e0 : (0 : Int32).toInt = 0 := rfl
      have hin := fIx_in (f := B.2 0) (v := t.2.2.1) (B.1 0) 0
      (conv => whnf)
      refine And.intro (fun h3 => ?_) (fun h3 => ?_)
      · have h3 : (0 : Int32) ≤ r := h3
        rw [le_i] at h3
        have hne : ¬ fIx (B.2 0) t.2.2.1 (B.1 0) 0 = -1 := by omega
        have hin := hin.resolve_left hne
        (conv => whnf)
        refine ⟨3, by decide, _, r_adv h, ?_⟩
        rintro m2 ⟨q1, q2, q3, q4⟩
        refine ⟨⟨q1.1, q1.2.1, Fr_tr (Fr_rfl _ _) q1.2.2 (by decide)⟩, ?_⟩
        unfold tolS
        rw [if_pos ⟨et, hl⟩, show own 0 = 0 from rfl, if_neg hne]
        exact ⟨⟨hf, by omega, by omega, hin.2.2, q2⟩, q3, q4⟩
      · have h3 : ¬ (0 : Int32) ≤ r := h3
        rw [le_i] at h3
        have hne : fIx (B.2 0) t.2.2.1 (B.1 0) 0 = -1 := by
          rcases hin with q | q
          · exact q
          · omega
        (conv => whnf)
        refine ⟨1, by decide, _, r_fail, ?_⟩
        rintro r2 m2 ⟨q1, q2⟩
        subst q2
        refine ⟨St_fail (St.rf h.1) (by decide) (by decide), ?_⟩
        unfold tolS
        rw [if_pos ⟨et, hl⟩, show own 0 = 0 from rfl, if_pos hne]
        exact OC_fail h rfl rfl
    · have hl : ¬ lg t.2.2.1 = -1 := by
        rcases hr with q | q
        · exact q.1
        · exact absurd q.2 h2
      (conv => whnf)
      refine ⟨1, by decide, _, r_fail, ?_⟩
      rintro r2 m2 ⟨q1, q2⟩
      exact bad m2 q2 (fun z => hl z.2)
set_option maxRecDepth 100000 in
set_option maxHeartbeats 4000000 in
theorem r_new_738 {B : TB} (h : CR b e t m) (hN : (gI m 738 1).toInt = B.1 0) (h12 : B.1 0 ≤ 5) (hT : ∀ i, i < B.1 0 → (gI m 49912 i).toInt = B.2 0 i) : CI 4 mX3_newName [.ref 19, .ref 738, .int 5] m (fun r m' => St wNu m m' ∧ OC m m' (newL b e B 0 5 t) (r = -1) (fun x => r.toInt = x.1 ∧ 0 ≤ x.1 ∧ lg x.1 = -1 ∧ CR b e x.2 m')) := by
  obtain ⟨k1, k2, k3, k4⟩ := h.2.2.2.2.1
  have eM : (5 : Int32).toInt = 5 := rfl
  refine At.gs okX3_newName 60 ?_
  (conv => whnf)
  refine And.intro (fun h0 => ?_) (fun h0 => ?_)
  · have h0 : gI m 738 1 < 5 := h0
    rw [lt_i] at h0
    have hlt : ¬ B.1 0 = 5 := by omega
    (conv => whnf)
    refine ⟨3, by decide, _, r_adv h, ?_⟩
    rintro m1 ⟨q1, q2, q3, q4⟩
    have hS1 : St wNu m m1 := ⟨q1.1, q1.2.1, Fr_tr (Fr_rfl _ _) q1.2.2 (by decide)⟩
    obtain ⟨j1, j2, j3, j4⟩ := q2.2.2.2.2.1
    have hN1 : (gI m1 738 1).toInt = B.1 0 := by rw [fr1 q1.2.2 (by decide : ¬ wk 738 1 ∈ wAd)]; exact hN
    have hT1 : ∀ i, i < B.1 0 → (gI m1 49912 i).toInt = B.2 0 i := fun i hi => by rw [row1 q1.2.2 rfl (by decide)]; exact hT i hi
    have ix : fIx (fun i => (gI m1 49912 i).toInt) (gI m1 19 8).toInt (gI m1 738 1).toInt.toNat 0 = fIx (B.2 0) (nx b e t).2.2.1 (B.1 0) 0 := by
      rw [j3, hN1, Int.toNat_natCast]
      exact fIx_cg _ _ (fun i hi => hT1 i (by omega))
    have bad : ∀ m2 : MM, m2 = sI (sI m1 19 2 1) 19 3 (gI m1 19 7) → ¬ ((nx b e t).1 = 1 ∧ lg (nx b e t).2.2.1 = -1) → St wNu m m2 ∧ OC m m2 (newL b e B 0 5 t) ((-1 : Int32) = -1) (fun x => (-1 : Int32).toInt = x.1 ∧ 0 ≤ x.1 ∧ lg x.1 = -1 ∧ CR b e x.2 m2) := fun m2 q hn => by
      subst q
      refine ⟨St_fail hS1 (by decide) (by decide), ?_⟩
      unfold newL
      rw [show own 0 = 0 from rfl, if_neg hlt]
      unfold newS
      rw [if_neg hn]
      exact OC_fail q2 rfl rfl
    (conv => whnf)
    refine And.intro (fun h1 => ?_) (fun h1 => ?_)
    · have h1 : ¬ gI m1 19 6 = 1 := h1
      have et : ¬ (nx b e t).1 = 1 := fun q => h1 (Int32.toInt_inj.mp (by rw [j1, q]; rfl))
      (conv => whnf)
      refine ⟨1, by decide, _, r_fail, ?_⟩
      rintro r2 m2 ⟨z1, z2⟩
      exact bad m2 z2 (fun z => et z.1)
    · have h1 : gI m1 19 6 = 1 := h1
      have et : (nx b e t).1 = 1 := by rw [h1] at j1; have : (1 : Int32).toInt = 1 := rfl; omega
      (conv => whnf)
      refine ⟨1, by decide, _, r_lang, ?_⟩
      rintro r m' ⟨hmm, hr⟩; have hmm := hmm.symm; subst hmm
      have hr : z1 (lg (gI m1 19 8).toInt ≠ -1) r := hr
      rw [j3] at hr
      (conv => whnf)
      refine And.intro (fun h2 => ?_) (fun h2 => ?_)
      · have hl : lg (nx b e t).2.2.1 = -1 := by
          rcases hr with q | q
          · rw [q.2] at h2; exact absurd h2 (by decide)
          · exact Classical.not_not.mp q.1
        (conv => whnf)
        refine ⟨1, by decide, _, r_find_738 (by omega) (by omega), ?_⟩
        rintro r m' ⟨hmm, hf⟩; have hmm := hmm.symm; subst hmm
        have hf : r.toInt = fIx (fun i => (gI m1 49912 i).toInt) (gI m1 19 8).toInt (gI m1 738 1).toInt.toNat 0 := hf
        rw [ix] at hf
        have e0 : (0 : Int32).toInt = 0 := rfl
        have hin := fIx_in (f := B.2 0) (v := (nx b e t).2.2.1) (B.1 0) 0
        (conv => whnf)
        refine And.intro (fun h3 => ?_) (fun h3 => ?_)
        · have h3 : r < (0 : Int32) := h3
          rw [lt_i] at h3
          have hne : fIx (B.2 0) (nx b e t).2.2.1 (B.1 0) 0 = -1 := by
            rcases hin with q | q
            · exact q
            · omega
          (conv => whnf)
          refine ⟨3, by decide, _, r_adv q2, ?_⟩
          rintro m2 ⟨y1, y2, y3, y4⟩
          refine ⟨hS1.tr y1 (by decide), ?_⟩
          unfold newL
          rw [show own 0 = 0 from rfl, if_neg hlt]
          unfold newS
          rw [if_pos ⟨et, hl⟩, show own 0 = 0 from rfl, if_pos hne]
          exact ⟨⟨j3, word_pos et, hl, y2⟩, y3.trans q3, y4.trans q4⟩
        · have h3 : ¬ r < (0 : Int32) := h3
          rw [lt_i] at h3
          have hne : ¬ fIx (B.2 0) (nx b e t).2.2.1 (B.1 0) 0 = -1 := by omega
          (conv => whnf)
          refine ⟨1, by decide, _, r_fail, ?_⟩
          rintro r2 m2 ⟨z1, z2⟩
          subst z2
          refine ⟨St_fail hS1 (by decide) (by decide), ?_⟩
          unfold newL
          rw [show own 0 = 0 from rfl, if_neg hlt]
          unfold newS
          rw [if_pos ⟨et, hl⟩, show own 0 = 0 from rfl, if_neg hne]
          exact OC_fail q2 rfl rfl
      · have hl : ¬ lg (nx b e t).2.2.1 = -1 := by
          rcases hr with q | q
          · exact q.1
          · exact absurd q.2 h2
        (conv => whnf)
        refine ⟨1, by decide, _, r_fail, ?_⟩
        rintro r2 m2 ⟨z1, z2⟩
        exact bad m2 z2 (fun z => hl z.2)
  · have h0 : ¬ gI m 738 1 < 5 := h0
    rw [lt_i] at h0
    have hlt : B.1 0 = 5 := by omega
    (conv => whnf)
    refine ⟨1, by decide, _, r_fail, ?_⟩
    rintro r2 m2 ⟨z1, z2⟩
    subst z2
    refine ⟨St_fail (St.rf h.1) (by decide) (by decide), ?_⟩
    unfold newL
    rw [show own 0 = 0 from rfl, if_pos hlt]
    exact OC_fail h rfl rfl
set_option maxRecDepth 100000 in
set_option maxHeartbeats 4000000 in
theorem r_told_770 {B : TB} (h : CR b e t m) (hN : (gI m 770 1).toInt = B.1 1) (h12 : B.1 1 ≤ 12) (hT : ∀ i, i < B.1 1 → (gI m 49944 i).toInt = B.2 2 i) : CI 4 mX3_toldName [.ref 19, .ref 770] m (fun r m' => St wNu m m' ∧ OC m m' (tolS B 2 t) (r = -1) (fun x => r.toInt = x ∧ 0 ≤ x ∧ x < B.1 1 ∧ B.2 2 x.toNat = t.2.2.1 ∧ CR b e (nx b e t) m')) := by
  obtain ⟨k1, k2, k3, k4⟩ := h.2.2.2.2.1
  have ix : fIx (fun i => (gI m 49944 i).toInt) (gI m 19 8).toInt (gI m 770 1).toInt.toNat 0 = fIx (B.2 2) t.2.2.1 (B.1 1) 0 := by
    rw [k3, hN, Int.toNat_natCast]
    exact fIx_cg _ _ (fun i hi => hT i (by omega))
  refine At.gs okX3_toldName 60 ?_
  (conv => whnf)
  have bad : ∀ m2 : MM, m2 = sI (sI m 19 2 1) 19 3 (gI m 19 7) → ¬ (t.1 = 1 ∧ lg t.2.2.1 = -1) → St wNu m m2 ∧ OC m m2 (tolS B 2 t) ((-1 : Int32) = -1) (fun x => (-1 : Int32).toInt = x ∧ 0 ≤ x ∧ x < B.1 1 ∧ B.2 2 x.toNat = t.2.2.1 ∧ CR b e (nx b e t) m2) := fun m2 q hn => by
    subst q
    refine ⟨St_fail (St.rf h.1) (by decide) (by decide), ?_⟩
    unfold tolS
    rw [if_neg hn]
    exact OC_fail h rfl rfl
  refine And.intro (fun h1 => ?_) (fun h1 => ?_)
  · have h1 : ¬ gI m 19 6 = 1 := h1
    have et : ¬ t.1 = 1 := fun q => h1 (Int32.toInt_inj.mp (by rw [k1, q]; rfl))
    (conv => whnf)
    refine ⟨1, by decide, _, r_fail, ?_⟩
    rintro r2 m2 ⟨q1, q2⟩
    exact bad m2 q2 (fun z => et z.1)
  · have h1 : gI m 19 6 = 1 := h1
    have et : t.1 = 1 := by rw [h1] at k1; have : (1 : Int32).toInt = 1 := rfl; omega
    (conv => whnf)
    refine ⟨1, by decide, _, r_lang, ?_⟩
    rintro r m' ⟨hmm, hr⟩; have hmm := hmm.symm; subst hmm
    have hr : z1 (lg (gI m 19 8).toInt ≠ -1) r := hr
    rw [k3] at hr
    (conv => whnf)
    refine And.intro (fun h2 => ?_) (fun h2 => ?_)
    · have hl : lg t.2.2.1 = -1 := by
        rcases hr with q | q
        · rw [q.2] at h2; exact absurd h2 (by decide)
        · exact Classical.not_not.mp q.1
      (conv => whnf)
      refine ⟨1, by decide, _, r_find_770 (by omega) (by omega), ?_⟩
      rintro r m' ⟨hmm, hf⟩; have hmm := hmm.symm; subst hmm
      have hf : r.toInt = fIx (fun i => (gI m 49944 i).toInt) (gI m 19 8).toInt (gI m 770 1).toInt.toNat 0 := hf
      rw [ix] at hf
      have e0 : (0 : Int32).toInt = 0 := rfl
      have hin := fIx_in (f := B.2 2) (v := t.2.2.1) (B.1 1) 0
      (conv => whnf)
      refine And.intro (fun h3 => ?_) (fun h3 => ?_)
      · have h3 : (0 : Int32) ≤ r := h3
        rw [le_i] at h3
        have hne : ¬ fIx (B.2 2) t.2.2.1 (B.1 1) 0 = -1 := by omega
        have hin := hin.resolve_left hne
        (conv => whnf)
        refine ⟨3, by decide, _, r_adv h, ?_⟩
        rintro m2 ⟨q1, q2, q3, q4⟩
        refine ⟨⟨q1.1, q1.2.1, Fr_tr (Fr_rfl _ _) q1.2.2 (by decide)⟩, ?_⟩
        unfold tolS
        rw [if_pos ⟨et, hl⟩, show own 2 = 1 from rfl, if_neg hne]
        exact ⟨⟨hf, by omega, by omega, hin.2.2, q2⟩, q3, q4⟩
      · have h3 : ¬ (0 : Int32) ≤ r := h3
        rw [le_i] at h3
        have hne : fIx (B.2 2) t.2.2.1 (B.1 1) 0 = -1 := by
          rcases hin with q | q
          · exact q
          · omega
        (conv => whnf)
        refine ⟨1, by decide, _, r_fail, ?_⟩
        rintro r2 m2 ⟨q1, q2⟩
        subst q2
        refine ⟨St_fail (St.rf h.1) (by decide) (by decide), ?_⟩
        unfold tolS
        rw [if_pos ⟨et, hl⟩, show own 2 = 1 from rfl, if_pos hne]
        exact OC_fail h rfl rfl
    · have hl : ¬ lg t.2.2.1 = -1 := by
        rcases hr with q | q
        · exact q.1
        · exact absurd q.2 h2
      (conv => whnf)
      refine ⟨1, by decide, _, r_fail, ?_⟩
      rintro r2 m2 ⟨q1, q2⟩
      exact bad m2 q2 (fun z => hl z.2)
set_option maxRecDepth 100000 in
set_option maxHeartbeats 4000000 in
theorem r_new_770 {B : TB} (h : CR b e t m) (hN : (gI m 770 1).toInt = B.1 1) (h12 : B.1 1 ≤ 4) (hT : ∀ i, i < B.1 1 → (gI m 49944 i).toInt = B.2 2 i) : CI 4 mX3_newName [.ref 19, .ref 770, .int 4] m (fun r m' => St wNu m m' ∧ OC m m' (newL b e B 2 4 t) (r = -1) (fun x => r.toInt = x.1 ∧ 0 ≤ x.1 ∧ lg x.1 = -1 ∧ CR b e x.2 m')) := by
  obtain ⟨k1, k2, k3, k4⟩ := h.2.2.2.2.1
  have eM : (4 : Int32).toInt = 4 := rfl
  refine At.gs okX3_newName 60 ?_
  (conv => whnf)
  refine And.intro (fun h0 => ?_) (fun h0 => ?_)
  · have h0 : gI m 770 1 < 4 := h0
    rw [lt_i] at h0
    have hlt : ¬ B.1 1 = 4 := by omega
    (conv => whnf)
    refine ⟨3, by decide, _, r_adv h, ?_⟩
    rintro m1 ⟨q1, q2, q3, q4⟩
    have hS1 : St wNu m m1 := ⟨q1.1, q1.2.1, Fr_tr (Fr_rfl _ _) q1.2.2 (by decide)⟩
    obtain ⟨j1, j2, j3, j4⟩ := q2.2.2.2.2.1
    have hN1 : (gI m1 770 1).toInt = B.1 1 := by rw [fr1 q1.2.2 (by decide : ¬ wk 770 1 ∈ wAd)]; exact hN
    have hT1 : ∀ i, i < B.1 1 → (gI m1 49944 i).toInt = B.2 2 i := fun i hi => by rw [row1 q1.2.2 rfl (by decide)]; exact hT i hi
    have ix : fIx (fun i => (gI m1 49944 i).toInt) (gI m1 19 8).toInt (gI m1 770 1).toInt.toNat 0 = fIx (B.2 2) (nx b e t).2.2.1 (B.1 1) 0 := by
      rw [j3, hN1, Int.toNat_natCast]
      exact fIx_cg _ _ (fun i hi => hT1 i (by omega))
    have bad : ∀ m2 : MM, m2 = sI (sI m1 19 2 1) 19 3 (gI m1 19 7) → ¬ ((nx b e t).1 = 1 ∧ lg (nx b e t).2.2.1 = -1) → St wNu m m2 ∧ OC m m2 (newL b e B 2 4 t) ((-1 : Int32) = -1) (fun x => (-1 : Int32).toInt = x.1 ∧ 0 ≤ x.1 ∧ lg x.1 = -1 ∧ CR b e x.2 m2) := fun m2 q hn => by
      subst q
      refine ⟨St_fail hS1 (by decide) (by decide), ?_⟩
      unfold newL
      rw [show own 2 = 1 from rfl, if_neg hlt]
      unfold newS
      rw [if_neg hn]
      exact OC_fail q2 rfl rfl
    (conv => whnf)
    refine And.intro (fun h1 => ?_) (fun h1 => ?_)
    · have h1 : ¬ gI m1 19 6 = 1 := h1
      have et : ¬ (nx b e t).1 = 1 := fun q => h1 (Int32.toInt_inj.mp (by rw [j1, q]; rfl))
      (conv => whnf)
      refine ⟨1, by decide, _, r_fail, ?_⟩
      rintro r2 m2 ⟨z1, z2⟩
      exact bad m2 z2 (fun z => et z.1)
    · have h1 : gI m1 19 6 = 1 := h1
      have et : (nx b e t).1 = 1 := by rw [h1] at j1; have : (1 : Int32).toInt = 1 := rfl; omega
      (conv => whnf)
      refine ⟨1, by decide, _, r_lang, ?_⟩
      rintro r m' ⟨hmm, hr⟩; have hmm := hmm.symm; subst hmm
      have hr : z1 (lg (gI m1 19 8).toInt ≠ -1) r := hr
      rw [j3] at hr
      (conv => whnf)
      refine And.intro (fun h2 => ?_) (fun h2 => ?_)
      · have hl : lg (nx b e t).2.2.1 = -1 := by
          rcases hr with q | q
          · rw [q.2] at h2; exact absurd h2 (by decide)
          · exact Classical.not_not.mp q.1
        (conv => whnf)
        refine ⟨1, by decide, _, r_find_770 (by omega) (by omega), ?_⟩
        rintro r m' ⟨hmm, hf⟩; have hmm := hmm.symm; subst hmm
        have hf : r.toInt = fIx (fun i => (gI m1 49944 i).toInt) (gI m1 19 8).toInt (gI m1 770 1).toInt.toNat 0 := hf
        rw [ix] at hf
        have e0 : (0 : Int32).toInt = 0 := rfl
        have hin := fIx_in (f := B.2 2) (v := (nx b e t).2.2.1) (B.1 1) 0
        (conv => whnf)
        refine And.intro (fun h3 => ?_) (fun h3 => ?_)
        · have h3 : r < (0 : Int32) := h3
          rw [lt_i] at h3
          have hne : fIx (B.2 2) (nx b e t).2.2.1 (B.1 1) 0 = -1 := by
            rcases hin with q | q
            · exact q
            · omega
          (conv => whnf)
          refine ⟨3, by decide, _, r_adv q2, ?_⟩
          rintro m2 ⟨y1, y2, y3, y4⟩
          refine ⟨hS1.tr y1 (by decide), ?_⟩
          unfold newL
          rw [show own 2 = 1 from rfl, if_neg hlt]
          unfold newS
          rw [if_pos ⟨et, hl⟩, show own 2 = 1 from rfl, if_pos hne]
          exact ⟨⟨j3, word_pos et, hl, y2⟩, y3.trans q3, y4.trans q4⟩
        · have h3 : ¬ r < (0 : Int32) := h3
          rw [lt_i] at h3
          have hne : ¬ fIx (B.2 2) (nx b e t).2.2.1 (B.1 1) 0 = -1 := by omega
          (conv => whnf)
          refine ⟨1, by decide, _, r_fail, ?_⟩
          rintro r2 m2 ⟨z1, z2⟩
          subst z2
          refine ⟨St_fail hS1 (by decide) (by decide), ?_⟩
          unfold newL
          rw [show own 2 = 1 from rfl, if_neg hlt]
          unfold newS
          rw [if_pos ⟨et, hl⟩, show own 2 = 1 from rfl, if_neg hne]
          exact OC_fail q2 rfl rfl
      · have hl : ¬ lg (nx b e t).2.2.1 = -1 := by
          rcases hr with q | q
          · exact q.1
          · exact absurd q.2 h2
        (conv => whnf)
        refine ⟨1, by decide, _, r_fail, ?_⟩
        rintro r2 m2 ⟨z1, z2⟩
        exact bad m2 z2 (fun z => hl z.2)
  · have h0 : ¬ gI m 770 1 < 4 := h0
    rw [lt_i] at h0
    have hlt : B.1 1 = 4 := by omega
    (conv => whnf)
    refine ⟨1, by decide, _, r_fail, ?_⟩
    rintro r2 m2 ⟨z1, z2⟩
    subst z2
    refine ⟨St_fail (St.rf h.1) (by decide) (by decide), ?_⟩
    unfold newL
    rw [show own 2 = 1 from rfl, if_pos hlt]
    exact OC_fail h rfl rfl
set_option maxRecDepth 100000 in
set_option maxHeartbeats 4000000 in
theorem r_told_802 {B : TB} (h : CR b e t m) (hN : (gI m 802 1).toInt = B.1 2) (h12 : B.1 2 ≤ 12) (hT : ∀ i, i < B.1 2 → (gI m 49976 i).toInt = B.2 3 i) : CI 4 mX3_toldName [.ref 19, .ref 802] m (fun r m' => St wNu m m' ∧ OC m m' (tolS B 3 t) (r = -1) (fun x => r.toInt = x ∧ 0 ≤ x ∧ x < B.1 2 ∧ B.2 3 x.toNat = t.2.2.1 ∧ CR b e (nx b e t) m')) := by
  obtain ⟨k1, k2, k3, k4⟩ := h.2.2.2.2.1
  have ix : fIx (fun i => (gI m 49976 i).toInt) (gI m 19 8).toInt (gI m 802 1).toInt.toNat 0 = fIx (B.2 3) t.2.2.1 (B.1 2) 0 := by
    rw [k3, hN, Int.toNat_natCast]
    exact fIx_cg _ _ (fun i hi => hT i (by omega))
  refine At.gs okX3_toldName 60 ?_
  (conv => whnf)
  have bad : ∀ m2 : MM, m2 = sI (sI m 19 2 1) 19 3 (gI m 19 7) → ¬ (t.1 = 1 ∧ lg t.2.2.1 = -1) → St wNu m m2 ∧ OC m m2 (tolS B 3 t) ((-1 : Int32) = -1) (fun x => (-1 : Int32).toInt = x ∧ 0 ≤ x ∧ x < B.1 2 ∧ B.2 3 x.toNat = t.2.2.1 ∧ CR b e (nx b e t) m2) := fun m2 q hn => by
    subst q
    refine ⟨St_fail (St.rf h.1) (by decide) (by decide), ?_⟩
    unfold tolS
    rw [if_neg hn]
    exact OC_fail h rfl rfl
  refine And.intro (fun h1 => ?_) (fun h1 => ?_)
  · have h1 : ¬ gI m 19 6 = 1 := h1
    have et : ¬ t.1 = 1 := fun q => h1 (Int32.toInt_inj.mp (by rw [k1, q]; rfl))
    (conv => whnf)
    refine ⟨1, by decide, _, r_fail, ?_⟩
    rintro r2 m2 ⟨q1, q2⟩
    exact bad m2 q2 (fun z => et z.1)
  · have h1 : gI m 19 6 = 1 := h1
    have et : t.1 = 1 := by rw [h1] at k1; have : (1 : Int32).toInt = 1 := rfl; omega
    (conv => whnf)
    refine ⟨1, by decide, _, r_lang, ?_⟩
    rintro r m' ⟨hmm, hr⟩; have hmm := hmm.symm; subst hmm
    have hr : z1 (lg (gI m 19 8).toInt ≠ -1) r := hr
    rw [k3] at hr
    (conv => whnf)
    refine And.intro (fun h2 => ?_) (fun h2 => ?_)
    · have hl : lg t.2.2.1 = -1 := by
        rcases hr with q | q
        · rw [q.2] at h2; exact absurd h2 (by decide)
        · exact Classical.not_not.mp q.1
      (conv => whnf)
      refine ⟨1, by decide, _, r_find_802 (by omega) (by omega), ?_⟩
      rintro r m' ⟨hmm, hf⟩; have hmm := hmm.symm; subst hmm
      have hf : r.toInt = fIx (fun i => (gI m 49976 i).toInt) (gI m 19 8).toInt (gI m 802 1).toInt.toNat 0 := hf
      rw [ix] at hf
      have e0 : (0 : Int32).toInt = 0 := rfl
      have hin := fIx_in (f := B.2 3) (v := t.2.2.1) (B.1 2) 0
      (conv => whnf)
      refine And.intro (fun h3 => ?_) (fun h3 => ?_)
      · have h3 : (0 : Int32) ≤ r := h3
        rw [le_i] at h3
        have hne : ¬ fIx (B.2 3) t.2.2.1 (B.1 2) 0 = -1 := by omega
        have hin := hin.resolve_left hne
        (conv => whnf)
        refine ⟨3, by decide, _, r_adv h, ?_⟩
        rintro m2 ⟨q1, q2, q3, q4⟩
        refine ⟨⟨q1.1, q1.2.1, Fr_tr (Fr_rfl _ _) q1.2.2 (by decide)⟩, ?_⟩
        unfold tolS
        rw [if_pos ⟨et, hl⟩, show own 3 = 2 from rfl, if_neg hne]
        exact ⟨⟨hf, by omega, by omega, hin.2.2, q2⟩, q3, q4⟩
      · have h3 : ¬ (0 : Int32) ≤ r := h3
        rw [le_i] at h3
        have hne : fIx (B.2 3) t.2.2.1 (B.1 2) 0 = -1 := by
          rcases hin with q | q
          · exact q
          · omega
        (conv => whnf)
        refine ⟨1, by decide, _, r_fail, ?_⟩
        rintro r2 m2 ⟨q1, q2⟩
        subst q2
        refine ⟨St_fail (St.rf h.1) (by decide) (by decide), ?_⟩
        unfold tolS
        rw [if_pos ⟨et, hl⟩, show own 3 = 2 from rfl, if_pos hne]
        exact OC_fail h rfl rfl
    · have hl : ¬ lg t.2.2.1 = -1 := by
        rcases hr with q | q
        · exact q.1
        · exact absurd q.2 h2
      (conv => whnf)
      refine ⟨1, by decide, _, r_fail, ?_⟩
      rintro r2 m2 ⟨q1, q2⟩
      exact bad m2 q2 (fun z => hl z.2)
set_option maxRecDepth 100000 in
set_option maxHeartbeats 4000000 in
theorem r_new_802 {B : TB} (h : CR b e t m) (hN : (gI m 802 1).toInt = B.1 2) (h12 : B.1 2 ≤ 12) (hT : ∀ i, i < B.1 2 → (gI m 49976 i).toInt = B.2 3 i) : CI 4 mX3_newName [.ref 19, .ref 802, .int 12] m (fun r m' => St wNu m m' ∧ OC m m' (newL b e B 3 12 t) (r = -1) (fun x => r.toInt = x.1 ∧ 0 ≤ x.1 ∧ lg x.1 = -1 ∧ CR b e x.2 m')) := by
  obtain ⟨k1, k2, k3, k4⟩ := h.2.2.2.2.1
  have eM : (12 : Int32).toInt = 12 := rfl
  refine At.gs okX3_newName 60 ?_
  (conv => whnf)
  refine And.intro (fun h0 => ?_) (fun h0 => ?_)
  · have h0 : gI m 802 1 < 12 := h0
    rw [lt_i] at h0
    have hlt : ¬ B.1 2 = 12 := by omega
    (conv => whnf)
    refine ⟨3, by decide, _, r_adv h, ?_⟩
    rintro m1 ⟨q1, q2, q3, q4⟩
    have hS1 : St wNu m m1 := ⟨q1.1, q1.2.1, Fr_tr (Fr_rfl _ _) q1.2.2 (by decide)⟩
    obtain ⟨j1, j2, j3, j4⟩ := q2.2.2.2.2.1
    have hN1 : (gI m1 802 1).toInt = B.1 2 := by rw [fr1 q1.2.2 (by decide : ¬ wk 802 1 ∈ wAd)]; exact hN
    have hT1 : ∀ i, i < B.1 2 → (gI m1 49976 i).toInt = B.2 3 i := fun i hi => by rw [row1 q1.2.2 rfl (by decide)]; exact hT i hi
    have ix : fIx (fun i => (gI m1 49976 i).toInt) (gI m1 19 8).toInt (gI m1 802 1).toInt.toNat 0 = fIx (B.2 3) (nx b e t).2.2.1 (B.1 2) 0 := by
      rw [j3, hN1, Int.toNat_natCast]
      exact fIx_cg _ _ (fun i hi => hT1 i (by omega))
    have bad : ∀ m2 : MM, m2 = sI (sI m1 19 2 1) 19 3 (gI m1 19 7) → ¬ ((nx b e t).1 = 1 ∧ lg (nx b e t).2.2.1 = -1) → St wNu m m2 ∧ OC m m2 (newL b e B 3 12 t) ((-1 : Int32) = -1) (fun x => (-1 : Int32).toInt = x.1 ∧ 0 ≤ x.1 ∧ lg x.1 = -1 ∧ CR b e x.2 m2) := fun m2 q hn => by
      subst q
      refine ⟨St_fail hS1 (by decide) (by decide), ?_⟩
      unfold newL
      rw [show own 3 = 2 from rfl, if_neg hlt]
      unfold newS
      rw [if_neg hn]
      exact OC_fail q2 rfl rfl
    (conv => whnf)
    refine And.intro (fun h1 => ?_) (fun h1 => ?_)
    · have h1 : ¬ gI m1 19 6 = 1 := h1
      have et : ¬ (nx b e t).1 = 1 := fun q => h1 (Int32.toInt_inj.mp (by rw [j1, q]; rfl))
      (conv => whnf)
      refine ⟨1, by decide, _, r_fail, ?_⟩
      rintro r2 m2 ⟨z1, z2⟩
      exact bad m2 z2 (fun z => et z.1)
    · have h1 : gI m1 19 6 = 1 := h1
      have et : (nx b e t).1 = 1 := by rw [h1] at j1; have : (1 : Int32).toInt = 1 := rfl; omega
      (conv => whnf)
      refine ⟨1, by decide, _, r_lang, ?_⟩
      rintro r m' ⟨hmm, hr⟩; have hmm := hmm.symm; subst hmm
      have hr : z1 (lg (gI m1 19 8).toInt ≠ -1) r := hr
      rw [j3] at hr
      (conv => whnf)
      refine And.intro (fun h2 => ?_) (fun h2 => ?_)
      · have hl : lg (nx b e t).2.2.1 = -1 := by
          rcases hr with q | q
          · rw [q.2] at h2; exact absurd h2 (by decide)
          · exact Classical.not_not.mp q.1
        (conv => whnf)
        refine ⟨1, by decide, _, r_find_802 (by omega) (by omega), ?_⟩
        rintro r m' ⟨hmm, hf⟩; have hmm := hmm.symm; subst hmm
        have hf : r.toInt = fIx (fun i => (gI m1 49976 i).toInt) (gI m1 19 8).toInt (gI m1 802 1).toInt.toNat 0 := hf
        rw [ix] at hf
        have e0 : (0 : Int32).toInt = 0 := rfl
        have hin := fIx_in (f := B.2 3) (v := (nx b e t).2.2.1) (B.1 2) 0
        (conv => whnf)
        refine And.intro (fun h3 => ?_) (fun h3 => ?_)
        · have h3 : r < (0 : Int32) := h3
          rw [lt_i] at h3
          have hne : fIx (B.2 3) (nx b e t).2.2.1 (B.1 2) 0 = -1 := by
            rcases hin with q | q
            · exact q
            · omega
          (conv => whnf)
          refine ⟨3, by decide, _, r_adv q2, ?_⟩
          rintro m2 ⟨y1, y2, y3, y4⟩
          refine ⟨hS1.tr y1 (by decide), ?_⟩
          unfold newL
          rw [show own 3 = 2 from rfl, if_neg hlt]
          unfold newS
          rw [if_pos ⟨et, hl⟩, show own 3 = 2 from rfl, if_pos hne]
          exact ⟨⟨j3, word_pos et, hl, y2⟩, y3.trans q3, y4.trans q4⟩
        · have h3 : ¬ r < (0 : Int32) := h3
          rw [lt_i] at h3
          have hne : ¬ fIx (B.2 3) (nx b e t).2.2.1 (B.1 2) 0 = -1 := by omega
          (conv => whnf)
          refine ⟨1, by decide, _, r_fail, ?_⟩
          rintro r2 m2 ⟨z1, z2⟩
          subst z2
          refine ⟨St_fail hS1 (by decide) (by decide), ?_⟩
          unfold newL
          rw [show own 3 = 2 from rfl, if_neg hlt]
          unfold newS
          rw [if_pos ⟨et, hl⟩, show own 3 = 2 from rfl, if_neg hne]
          exact OC_fail q2 rfl rfl
      · have hl : ¬ lg (nx b e t).2.2.1 = -1 := by
          rcases hr with q | q
          · exact q.1
          · exact absurd q.2 h2
        (conv => whnf)
        refine ⟨1, by decide, _, r_fail, ?_⟩
        rintro r2 m2 ⟨z1, z2⟩
        exact bad m2 z2 (fun z => hl z.2)
  · have h0 : ¬ gI m 802 1 < 12 := h0
    rw [lt_i] at h0
    have hlt : B.1 2 = 12 := by omega
    (conv => whnf)
    refine ⟨1, by decide, _, r_fail, ?_⟩
    rintro r2 m2 ⟨z1, z2⟩
    subst z2
    refine ⟨St_fail (St.rf h.1) (by decide) (by decide), ?_⟩
    unfold newL
    rw [show own 3 = 2 from rfl, if_pos hlt]
    exact OC_fail h rfl rfl
end Nu
