/-! the class reads a number, a token -/
theorem nv_in {b : BT} {s : Nat} : ∀ (n : Nat), (∀ j, j < n → isD (b (s + j)) = true) → 0 ≤ nv b s n ∧ nv b s n ≤ 1000000
  | 0, _ => ⟨Int.le_refl _, by show (0 : Int) ≤ 1000000; omega⟩
  | n + 1, h => by
    have h1 := nv_in n (fun j hj => h j (by omega))
    have h2 := isD_i.mp (h n (by omega))
    unfold nv
    split <;> omega
section Tn
variable {m : MM} {b : BT} {e s : Nat}
def TnI (m : MM) (b : BT) (e s p : Nat) (m1 : MM) : Prop := St wAd m m1 ∧ (gI m1 19 5).toInt = p ∧ s ≤ p ∧ p ≤ e ∧ (gI m1 19 7).toInt = s ∧ (gI m1 19 4).toInt = e ∧ e ≤ 800 ∧ sp isD b e s = sp isD b e p ∧ cbR m1 b e ∧ gI m1 19 6 = 2
def TnQ (m : MM) (b : BT) (e s : Nat) : QQ := qv (fun m' => St wAd m m' ∧ tkC m' (2, s, nv b s (sp isD b e s - s), sp isD b e s))
theorem tnEnd {p : Nat} {m1 : MM} (h : TnI m b e s p m1) (hv : (gI m1 19 8).toInt = nv b s (p - s)) (hp : sp isD b e p = p) : TnQ m b e s none m1 := by
  obtain ⟨hS, h5, h6, h7, h8, h9, h10, h11, h12, h13⟩ := h
  rw [hp] at h11
  exact ⟨hS, by rw [h13]; rfl, h8, by rw [h11]; exact hv, by rw [h11]; exact h5⟩
set_option maxRecDepth 100000 in
set_option maxHeartbeats 4000000 in
theorem tn5 : ∀ (n p : Nat) (m1 : MM), e - p = n → TnI m b e s p m1 → (gI m1 19 8).toInt = nv b s (p - s) → At (E0 2) mX3_takeNumber (TnQ m b e s) 5 [.ref 19] [] m1 := by
  intro n
  induction n with
  | zero =>
    intro p m1 hn h hv
    obtain ⟨hS, h5, h6, h7, h8, h9, h10, h11, h12, h13⟩ := id h
    refine At.ls okX3_takeNumber 60 ⟨_, _, rfl⟩ ?_
    (conv => whnf)
    refine And.intro (fun h1 => ?_) (fun h1 => ?_)
    · exact tnEnd h hv (sp_st isD b e (by omega))
    · have h1 : ¬ gI m1 19 4 ≤ gI m1 19 5 := h1
      rw [le_i] at h1
      omega
  | succ n ih =>
    intro p m1 hn h hv
    obtain ⟨hS, h5, h6, h7, h8, h9, h10, h11, h12, h13⟩ := id h
    have hpe : p < e := by omega
    obtain ⟨b1, b2, b3⟩ := h12 p hpe
    have hi : gI m1 3276842 (gI m1 19 5).toNatClampNeg = gI m1 3276842 p := by rw [nat_c h5]
    have hvp : vp_in (gI m1 19 5) 800 := vp_in_iff.mpr ⟨by omega, show (gI m1 19 5).toInt < ((800 : Nat) : Int) by omega⟩
    refine At.ls okX3_takeNumber 60 ⟨_, _, rfl⟩ ?_
    (conv => whnf)
    refine And.intro (fun h1 => ?_) (fun h1 => ?_)
    · have h1 : gI m1 19 4 ≤ gI m1 19 5 := h1
      rw [le_i] at h1
      omega
    · (conv => whnf)
      refine And.intro hvp ?_
      (conv => whnf)
      refine ⟨1, by decide, _, h_isDig6, ?_⟩
      rintro r m' ⟨hmm, hr⟩; have hmm := hmm.symm; subst hmm
      have hr : z1 (48 ≤ (gI m1 3276842 (gI m1 19 5).toNatClampNeg).toInt ∧ (gI m1 3276842 (gI m1 19 5).toNatClampNeg).toInt ≤ 57) r := hr
      rw [hi, b3] at hr
      (conv => whnf)
      refine And.intro (fun h2 => ?_) (fun h2 => ?_)
      · have hnl : ¬ isD (b p) = true := fun q => by
          have q := isD_i.mp q
          rcases hr with ⟨q1, q2⟩ | ⟨q1, q2⟩
          · rw [q2] at h2; exact absurd h2 (by decide)
          · rw [if_pos (by omega)] at q1; exact q1 q
        exact tnEnd h hv (sp_st isD b e (fun q => hnl q.2))
      · have hl : isD (b p) = true := by
          rcases hr with ⟨q1, q2⟩ | ⟨q1, q2⟩
          · split at q1
            · exact isD_i.mpr q1
            · omega
          · exact absurd q2 h2
        have hl2 := isD_i.mp hl
        have hc : (gI m1 3276842 (gI m1 19 5).toNatClampNeg).toInt = b p := by rw [hi, b3, if_pos (by omega)]
        have hll : ∀ j, j < p - s → isD (b (s + j)) = true := fun j hj => sp_all isD b e (p := s) (by omega) (by have := sp_ge isD b e p; omega)
        have hnv := nv_in (p - s) hll
        have e10 : (10 : Int32).toInt = 10 := rfl
        have e48 : (48 : Int32).toInt = 48 := rfl
        have eM : (1000000 : Int32).toInt = 1000000 := rfl
        have a1 : (10 * gI m1 19 8).toInt = 10 * nv b s (p - s) := by
          rw [tI_mul (by rw [e10, hv]; unfold i32lo; omega) (by rw [e10, hv]; unfold i32hi; omega), e10, hv]
        have a2 : (10 * gI m1 19 8 + gI m1 3276842 (gI m1 19 5).toNatClampNeg).toInt = 10 * nv b s (p - s) + b p := by
          rw [tI_add (by rw [a1, hc]; unfold i32lo; omega) (by rw [a1, hc]; unfold i32hi; omega), a1, hc]
        have a3 : (10 * gI m1 19 8 + gI m1 3276842 (gI m1 19 5).toNatClampNeg - 48).toInt = 10 * nv b s (p - s) + (b p - 48) := by
          rw [tI_sub (by rw [a2, e48]; unfold i32lo; omega) (by rw [a2, e48]; unfold i32hi; omega), a2, e48]; omega
        have e1 : (gI m1 19 5 + 1).toInt = (p + 1 : Nat) := by rw [inc1 (by omega), h5]; omega
        have ev : (if (1000000 : Int32) < 10 * gI m1 19 8 + gI m1 3276842 (gI m1 19 5).toNatClampNeg - 48 then 1000000 else 10 * gI m1 19 8 + gI m1 3276842 (gI m1 19 5).toNatClampNeg - 48 : Int32).toInt = nv b s (p + 1 - s) := by
          rw [show p + 1 - s = (p - s) + 1 by omega]
          unfold nv
          rw [show s + (p - s) = p by omega]
          by_cases q : (1000000 : Int32) < 10 * gI m1 19 8 + gI m1 3276842 (gI m1 19 5).toNatClampNeg - 48
          · rw [if_pos q]
            rw [lt_i, a3, eM] at q
            rw [if_pos (by omega)]; rfl
          · rw [if_neg q]
            rw [lt_i, a3, eM] at q
            rw [if_neg (by omega), a3]
        (conv => whnf)
        refine And.intro hvp ?_
        (conv => whnf)
        refine And.intro rfl (ih (p + 1) _ (by omega) ⟨(hS.fld (a := 19) (k := 8) (v := _) (by decide) (tI_lo _) (tI_hi _) (fun _ q => by omega)).fld (a := 19) (k := 5) (v := gI m1 19 5 + 1) (by decide) (show (0 : Int) ≤ _ by omega) (show _ ≤ (800 : Int) by omega) (fun _ q => by omega), e1, by omega, by omega, h8, h9, h10, h11.trans (sp_go isD b e hpe hl), fun i hi => h12 i hi, h13⟩ ev)
set_option maxRecDepth 100000 in
theorem h_takeNum (hM : Mok TYg m) (hb : cbR m b e) (he : (gI m 19 4).toInt = e) (h5 : (gI m 19 5).toInt = s) (h7 : (gI m 19 7).toInt = s) (hv : gI m 19 8 = 0) (hs : s ≤ e) (h8 : e ≤ 800) : CV 2 mX3_takeNumber [.ref 19] m (fun m' => St wAd m m' ∧ tkC m' (2, s, nv b s (sp isD b e s - s), sp isD b e s)) := by
  refine At.gs okX3_takeNumber 40 ?_
  (conv => whnf)
  exact And.intro rfl (tn5 _ s _ rfl ⟨(St.rf hM).fld (a := 19) (k := 6) (v := 2) (by decide) (by decide) (by decide) (fun _ q => by omega), h5, Nat.le_refl _, hs, h7, he, h8, rfl, fun i hi => hb i hi, rfl⟩ (by rw [Nat.sub_self]; show (gI m 19 8).toInt = 0; rw [hv]; rfl))
end Tn
def cdAd : List CE := stops [52] cdX3_advance
theorem okAd : CodeOk mX3_advance cdAd := okX3_advance.st [52] (by rfl)
section Adv
variable {m : MM} {b : BT} {e p0 : Nat}
def AdI (m : MM) (b : BT) (e p0 p : Nat) (m1 : MM) : Prop := St wAd m m1 ∧ (gI m1 19 5).toInt = p ∧ p ≤ e ∧ (gI m1 19 4).toInt = e ∧ e ≤ 800 ∧ sp isB b e p0 = sp isB b e p ∧ cbR m1 b e
def AdQ (m : MM) (b : BT) (e p0 : Nat) : QQ := qv (fun m' => St wAd m m' ∧ tkC m' (tok b e p0))
set_option maxRecDepth 100000 in
set_option maxHeartbeats 4000000 in
theorem ad52 {p : Nat} {m1 : MM} (h : AdI m b e p0 p m1) (hp : sp isB b e p = p) : At (E0 3) mX3_advance (AdQ m b e p0) 52 [.ref 19] [] m1 := by
  obtain ⟨hS, h5, h6, h7, h8, h9, h10⟩ := h
  rw [hp] at h9
  have hS2 : St wAd m (sI (sI m1 19 7 (gI m1 19 5)) 19 8 0) := (hS.fld (a := 19) (k := 7) (v := gI m1 19 5) (by decide) (show (0 : Int) ≤ _ by omega) (show _ ≤ (800 : Int) by omega) (fun _ q => by omega)).fld (a := 19) (k := 8) (v := 0) (by decide) (by decide) (by decide) (fun _ q => by omega)
  refine At.ls okAd 60 ⟨_, _, rfl⟩ ?_
  (conv => whnf)
  refine And.intro (fun h1 => ?_) (fun h1 => ?_)
  · have h1 : gI m1 19 5 < gI m1 19 4 := h1
    rw [lt_i] at h1
    have hpe : p < e := by omega
    obtain ⟨b1, b2, b3⟩ := h10 p hpe
    have hi : gI m1 3276842 (gI m1 19 5).toNatClampNeg = gI m1 3276842 p := by rw [nat_c h5]
    have hvp : vp_in (gI m1 19 5) 800 := vp_in_iff.mpr ⟨by omega, show (gI m1 19 5).toInt < ((800 : Nat) : Int) by omega⟩
    (conv => whnf)
    refine And.intro hvp ?_
    (conv => whnf)
    refine ⟨1, by decide, _, h_isLetter, ?_⟩
    rintro r m' ⟨hmm, hr⟩; have hmm := hmm.symm; subst hmm
    have hr : z1 (97 ≤ (gI m1 3276842 (gI m1 19 5).toNatClampNeg).toInt ∧ (gI m1 3276842 (gI m1 19 5).toNatClampNeg).toInt ≤ 122) r := hr
    rw [hi, b3] at hr
    (conv => whnf)
    refine And.intro (fun h2 => ?_) (fun h2 => ?_)
    · have hnl : ¬ isL (b p) = true := fun q => by
        have q := isL_i.mp q
        rcases hr with ⟨q1, q2⟩ | ⟨q1, q2⟩
        · rw [q2] at h2; exact absurd h2 (by decide)
        · rw [if_pos (by omega)] at q1; exact q1 q
      (conv => whnf)
      refine And.intro hvp ?_
      (conv => whnf)
      refine ⟨1, by decide, _, h_isDig6, ?_⟩
      rintro r2 m' ⟨hmm, hr2⟩; have hmm := hmm.symm; subst hmm
      have hr2 : z1 (48 ≤ (gI m1 3276842 (gI m1 19 5).toNatClampNeg).toInt ∧ (gI m1 3276842 (gI m1 19 5).toNatClampNeg).toInt ≤ 57) r2 := hr2
      rw [hi, b3] at hr2
      (conv => whnf)
      refine And.intro (fun h3 => ?_) (fun h3 => ?_)
      · have hnd : ¬ isD (b p) = true := fun q => by
          have q := isD_i.mp q
          rcases hr2 with ⟨q1, q2⟩ | ⟨q1, q2⟩
          · rw [q2] at h3; exact absurd h3 (by decide)
          · rw [if_pos (by omega)] at q1; exact q1 q
        have e59 : (59 : Int32).toInt = 59 := rfl
        have e1 : (gI m1 19 5 + 1).toInt = (p + 1 : Nat) := by rw [inc1 (by omega), h5]; omega
        have et : tok b e p0 = (if b p = 59 then 3 else 4, p, 0, p + 1) := by
          unfold tok tokA
          rw [h9, if_neg (by omega), if_neg hnl, if_neg hnd]
        (conv => whnf)
        refine And.intro hvp ?_
        (conv => whnf)
        refine And.intro (fun h4 => ?_) (fun h4 => ?_)
        · have h4 : ¬ gI m1 3276842 (gI m1 19 5).toNatClampNeg = 59 := h4
          have h5' : ¬ b p = 59 := fun q => h4 (Int32.toInt_inj.mp (by rw [hi, b3, if_pos (by omega), e59]; exact q))
          refine ⟨(hS2.fld (a := 19) (k := 6) (v := 4) (by decide) (by decide) (by decide) (fun _ q => by omega)).fld (a := 19) (k := 5) (v := gI m1 19 5 + 1) (by decide) (show (0 : Int) ≤ _ by omega) (show _ ≤ (800 : Int) by omega) (fun _ q => by omega), ?_⟩
          rw [et, if_neg h5']
          exact ⟨rfl, h5, rfl, e1⟩
        · have h4 : gI m1 3276842 (gI m1 19 5).toNatClampNeg = 59 := h4
          have h5' : b p = 59 := by
            have := congrArg Int32.toInt h4
            rw [hi, b3, e59] at this
            split at this <;> omega
          refine ⟨(hS2.fld (a := 19) (k := 6) (v := 3) (by decide) (by decide) (by decide) (fun _ q => by omega)).fld (a := 19) (k := 5) (v := gI m1 19 5 + 1) (by decide) (show (0 : Int) ≤ _ by omega) (show _ ≤ (800 : Int) by omega) (fun _ q => by omega), ?_⟩
          rw [et, if_pos h5']
          exact ⟨rfl, h5, rfl, e1⟩
      · have hd : isD (b p) = true := by
          rcases hr2 with ⟨q1, q2⟩ | ⟨q1, q2⟩
          · split at q1
            · exact isD_i.mpr q1
            · omega
          · exact absurd q2 h3
        (conv => whnf)
        refine ⟨2, by decide, _, h_takeNum (b := b) (e := e) (s := p) hS2.1 (fun i hi => h10 i hi) h7 h5 h5 rfl h6 h8, ?_⟩
        rintro m2 ⟨hS3, ht⟩
        refine ⟨⟨hS3.1, hS3.2.1.trans hS2.2.1, Fr_tr hS2.2.2 hS3.2.2 (fun x hx => hx)⟩, ?_⟩
        unfold tok tokA
        rw [h9, if_neg (by omega), if_neg hnl, if_pos hd]
        exact ht
    · have hl : isL (b p) = true := by
        rcases hr with ⟨q1, q2⟩ | ⟨q1, q2⟩
        · split at q1
          · exact isL_i.mpr q1
          · omega
        · exact absurd q2 h2
      (conv => whnf)
      refine ⟨2, by decide, _, h_takeWord (b := b) (e := e) (s := p) hS2.1 (fun i hi => h10 i hi) h7 h5 h5 rfl h6 h8, ?_⟩
      rintro m2 ⟨hS3, ht⟩
      refine ⟨⟨hS3.1, hS3.2.1.trans hS2.2.1, Fr_tr hS2.2.2 hS3.2.2 (fun x hx => hx)⟩, ?_⟩
      unfold tok tokA
      rw [h9, if_neg (by omega), if_pos hl]
      exact ht
  · have h1 : ¬ gI m1 19 5 < gI m1 19 4 := h1
    rw [lt_i] at h1
    refine ⟨hS2.fld (a := 19) (k := 6) (v := 0) (by decide) (by decide) (by decide) (fun _ q => by omega), ?_⟩
    unfold tok tokA
    rw [h9, if_pos (by omega)]
    exact ⟨rfl, h5, rfl, h5⟩
set_option maxRecDepth 100000 in
set_option maxHeartbeats 4000000 in
theorem ad0' : ∀ (n p : Nat) (m1 : MM), e - p = n → AdI m b e p0 p m1 → At (E0 3) mX3_advance (AdQ m b e p0) 0 [.ref 19] [] m1 := by
  intro n
  induction n with
  | zero =>
    intro p m1 hn h
    obtain ⟨hS, h5, h6, h7, h8, h9, h10⟩ := id h
    refine At.ls okAd 60 ⟨_, _, rfl⟩ ?_
    (conv => whnf)
    refine And.intro (fun h1 => ?_) (fun h1 => ?_)
    · (conv => whnf)
      exact And.intro rfl (ad52 h (sp_st isB b e (by omega)))
    · have h1 : ¬ gI m1 19 4 ≤ gI m1 19 5 := h1
      rw [le_i] at h1
      omega
  | succ n ih =>
    intro p m1 hn h
    obtain ⟨hS, h5, h6, h7, h8, h9, h10⟩ := id h
    have hpe : p < e := by omega
    obtain ⟨b1, b2, b3⟩ := h10 p hpe
    have hi : gI m1 3276842 (gI m1 19 5).toNatClampNeg = gI m1 3276842 p := by rw [nat_c h5]
    have hvp : vp_in (gI m1 19 5) 800 := vp_in_iff.mpr ⟨by omega, show (gI m1 19 5).toInt < ((800 : Nat) : Int) by omega⟩
    have e1 : (gI m1 19 5 + 1).toInt = (p + 1 : Nat) := by rw [inc1 (by omega), h5]; omega
    have e10 : (10 : Int32).toInt = 10 := rfl
    have e32 : (32 : Int32).toInt = 32 := rfl
    have go : isB (b p) = true → At (E0 3) mX3_advance (AdQ m b e p0) 0 [.ref 19] [] (sI m1 19 5 (gI m1 19 5 + 1)) := fun hb => ih (p + 1) _ (by omega) ⟨hS.fld (a := 19) (k := 5) (v := gI m1 19 5 + 1) (by decide) (show (0 : Int) ≤ _ by omega) (show _ ≤ (800 : Int) by omega) (fun _ q => by omega), e1, by omega, h7, h8, h9.trans (sp_go isB b e hpe hb), fun i hi => h10 i hi⟩
    refine At.ls okAd 60 ⟨_, _, rfl⟩ ?_
    (conv => whnf)
    refine And.intro (fun h1 => ?_) (fun h1 => ?_)
    · have h1 : gI m1 19 4 ≤ gI m1 19 5 := h1
      rw [le_i] at h1
      omega
    · (conv => whnf)
      refine And.intro hvp ?_
      (conv => whnf)
      refine And.intro (fun h2 => ?_) (fun h2 => ?_)
      · have h2 : gI m1 3276842 (gI m1 19 5).toNatClampNeg = 10 := h2
        (conv => whnf)
        refine And.intro rfl (go (isB_i.mpr (Or.inl ?_)))
        have := congrArg Int32.toInt h2
        rw [hi, b3, e10] at this
        split at this <;> omega
      · have h2 : ¬ gI m1 3276842 (gI m1 19 5).toNatClampNeg = 10 := h2
        (conv => whnf)
        refine And.intro hvp ?_
        (conv => whnf)
        refine And.intro (fun h3 => ?_) (fun h3 => ?_)
        · have h3 : ¬ gI m1 3276842 (gI m1 19 5).toNatClampNeg = 32 := h3
          (conv => whnf)
          refine And.intro rfl (ad52 h (sp_st isB b e (fun q => ?_)))
          rcases isB_i.mp q.2 with q | q
          · exact h2 (Int32.toInt_inj.mp (by rw [hi, b3, if_pos (by omega), e10]; exact q))
          · exact h3 (Int32.toInt_inj.mp (by rw [hi, b3, if_pos (by omega), e32]; exact q))
        · have h3 : gI m1 3276842 (gI m1 19 5).toNatClampNeg = 32 := h3
          (conv => whnf)
          refine And.intro rfl (go (isB_i.mpr (Or.inr ?_)))
          have := congrArg Int32.toInt h3
          rw [hi, b3, e32] at this
          split at this <;> omega
/-- the class goes on to the next token -/
theorem h_adv (hM : Mok TYg m) (hb : cbR m b e) (he : (gI m 19 4).toInt = e) (h5 : (gI m 19 5).toInt = p0) (hs : p0 ≤ e) (h8 : e ≤ 800) : CV 3 mX3_advance [.ref 19] m (fun m' => St wAd m m' ∧ tkC m' (tok b e p0)) :=
  ad0' _ p0 m rfl ⟨St.rf hM, h5, hs, he, h8, rfl, hb⟩
end Adv
