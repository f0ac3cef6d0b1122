/-! the class reads a token -/
def wAd : List Nat := [25769803795, 30064771091, 34359738387, 38654705683]
/-- the class's bytes are these (0 .. 255), up to e -/
def cbR (m : MM) (b : BT) (e : Nat) : Prop := ∀ i : Nat, i < e → 0 ≤ b i ∧ b i ≤ 255 ∧ (gI m 3276842 i).toInt = (if b i < 128 then b i else b i - 256)
theorem cbR.fr {W : List Nat} {m m' : MM} {b : BT} {e : Nat} (h : cbR m b e) (hF : Fr W m m') (hW : elm 3276842 W = false) : cbR m' b e := fun i hi => by
  rw [row1 hF rfl hW]
  exact h i hi
/-- the token that stands in the class's reader -/
def tkC (m : MM) (t : TK) : Prop := (gI m 19 6).toInt = t.1 ∧ (gI m 19 7).toInt = t.2.1 ∧ (gI m 19 8).toInt = t.2.2.1 ∧ (gI m 19 5).toInt = t.2.2.2
set_option maxRecDepth 100000 in
theorem h_isLetter {m : MM} {x : Int32} : CI 1 mX3_isLetter [.int x] m (fun r m' => m' = m ∧ z1 (97 ≤ x.toInt ∧ x.toInt ≤ 122) r) := by
  refine At.gs okX3_isLetter 40 ?_
  have e1 : (97 : Int32).toInt = 97 := rfl
  have e2 : (122 : Int32).toInt = 122 := rfl
  (conv => whnf)
  refine And.intro (fun h1 => ?_) (fun h1 => ?_)
  · rw [lt_i] at h1
    exact ⟨Or.inl rfl, rfl, Or.inr ⟨by omega, rfl⟩⟩
  · rw [lt_i] at h1
    (conv => whnf)
    refine And.intro (fun h2 => ?_) (fun h2 => ?_)
    · rw [lt_i] at h2
      exact ⟨Or.inl rfl, rfl, Or.inr ⟨by omega, rfl⟩⟩
    · rw [lt_i] at h2
      exact ⟨Or.inr rfl, rfl, Or.inl ⟨by omega, rfl⟩⟩
set_option maxRecDepth 100000 in
theorem h_isDig6 {m : MM} {x : Int32} : CI 1 mX3_isDigit [.int x] m (fun r m' => m' = m ∧ z1 (48 ≤ x.toInt ∧ x.toInt ≤ 57) r) := by
  refine At.gs okX3_isDigit 40 ?_
  have e1 : (48 : Int32).toInt = 48 := rfl
  have e2 : (57 : Int32).toInt = 57 := rfl
  (conv => whnf)
  refine And.intro (fun h1 => ?_) (fun h1 => ?_)
  · rw [lt_i] at h1
    exact ⟨Or.inl rfl, rfl, Or.inr ⟨by omega, rfl⟩⟩
  · rw [lt_i] at h1
    (conv => whnf)
    refine And.intro (fun h2 => ?_) (fun h2 => ?_)
    · rw [lt_i] at h2
      exact ⟨Or.inl rfl, rfl, Or.inr ⟨by omega, rfl⟩⟩
    · rw [lt_i] at h2
      exact ⟨Or.inr rfl, rfl, Or.inl ⟨by omega, rfl⟩⟩
theorem nat_c {x : Int32} {n : Nat} (h : x.toInt = n) : x.toNatClampNeg = n := by
  show x.toInt.toNat = n
  rw [h]; rfl
def cdTw : List CE := stops [72, 85] cdX3_takeWord
theorem okTw : CodeOk mX3_takeWord cdTw := okX3_takeWord.st [72, 85] (by rfl)
section Tw
variable {m : MM} {b : BT} {e s : Nat}
/-- where the reader stands in a word -/
def TwI (m : MM) (b : BT) (e s p : Nat) (m1 : MM) : Prop := St wAd m m1 ∧ (gI m1 19 5).toInt = p ∧ s ≤ p ∧ p ≤ e ∧ (gI m1 19 7).toInt = s ∧ (gI m1 19 4).toInt = e ∧ e ≤ 800 ∧ sp isL b e s = sp isL b e p ∧ cbR m1 b e
def TwQ (m : MM) (b : BT) (e s : Nat) : QQ := qv (fun m' => St wAd m m' ∧ tkC m' (if sp isL b e s - s ≤ 6 then 1 else 4, s, wv b s (sp isL b e s - s), sp isL b e s))
set_option maxRecDepth 100000 in
set_option maxHeartbeats 4000000 in
theorem tw85 {p : Nat} {v1 : Value} {m1 : MM} (h : TwI m b e s p m1) (hv : (gI m1 19 8).toInt = wv b s (p - s)) (hp : sp isL b e p = p) : At (E0 2) mX3_takeWord (TwQ m b e s) 85 [.ref 19, v1] [] m1 := by
  obtain ⟨hS, h5, h6, h7, h8, h9, h10, h11, h12⟩ := h
  rw [hp] at h11
  have e1 : (gI m1 19 5 - gI m1 19 7).toInt = (p : Int) - s := by
    rw [tI_sub (by unfold i32lo; omega) (by unfold i32hi; omega), h5, h8]
  have e6 : (6 : Int32).toInt = 6 := rfl
  refine At.ls okTw 60 ⟨_, _, rfl⟩ ?_
  (conv => whnf)
  refine And.intro (fun h => ?_) (fun h => ?_)
  · have h : (6 : Int32) < gI m1 19 5 - gI m1 19 7 := h
    rw [lt_i] at h
    refine ⟨hS.fld (a := 19) (k := 6) (v := 4) (by decide) (by decide) (by decide) (fun _ q => by omega), ?_⟩
    refine ⟨?_, h8, by rw [h11]; exact hv, by rw [h11]; exact h5⟩
    show (4 : Int) = _
    rw [h11, if_neg (by omega)]; rfl
  · have h : ¬ (6 : Int32) < gI m1 19 5 - gI m1 19 7 := h
    rw [lt_i] at h
    refine ⟨hS.fld (a := 19) (k := 6) (v := 1) (by decide) (by decide) (by decide) (fun _ q => by omega), ?_⟩
    refine ⟨?_, h8, by rw [h11]; exact hv, by rw [h11]; exact h5⟩
    show (1 : Int) = _
    rw [h11, if_pos (by omega)]; rfl
set_option maxRecDepth 100000 in
set_option maxHeartbeats 4000000 in
theorem tw72 {p : Nat} {v1 : Value} {m1 : MM} (h : TwI m b e s p m1) (hpe : p < e) (hl : isL (b p) = true) (hv : (gI m1 19 8).toInt = wv b s (p + 1 - s)) (K : ∀ m2, TwI m b e s (p + 1) m2 → (gI m2 19 8).toInt = wv b s (p + 1 - s) → At (E0 2) mX3_takeWord (TwQ m b e s) 0 [.ref 19, v1] [] m2) : At (E0 2) mX3_takeWord (TwQ m b e s) 72 [.ref 19, v1] [] m1 := by
  obtain ⟨hS, h5, h6, h7, h8, h9, h10, h11, h12⟩ := h
  have e1 : (gI m1 19 5 + 1).toInt = (p + 1 : Nat) := by rw [inc1 (by omega), h5]; omega
  refine At.ls okTw 60 ⟨_, _, rfl⟩ ?_
  (conv => whnf)
  refine And.intro rfl (K _ ⟨hS.fld (a := 19) (k := 5) (v := gI m1 19 5 + 1) (by decide) (show (0 : Int) ≤ _ by omega) (show _ ≤ (800 : Int) by omega) (fun _ q => by omega), e1, by omega, by omega, h8, h9, h10, h11.trans (sp_go isL b e hpe hl), ?_⟩ hv)
  exact fun i hi => h12 i hi
set_option maxRecDepth 100000 in
set_option maxHeartbeats 4000000 in
theorem tw0 : ∀ (n p : Nat) (v1 : Value) (m1 : MM), e - p = n → TwI m b e s p m1 → (gI m1 19 8).toInt = wv b s (p - s) → At (E0 2) mX3_takeWord (TwQ m b e s) 0 [.ref 19, v1] [] m1 := by
  intro n
  induction n with
  | zero =>
    intro p v1 m1 hn h hv
    obtain ⟨hS, h5, h6, h7, h8, h9, h10, h11, h12⟩ := id h
    refine At.ls okTw 60 ⟨_, _, rfl⟩ ?_
    (conv => whnf)
    refine And.intro (fun h1 => ?_) (fun h1 => ?_)
    · (conv => whnf)
      exact And.intro rfl (tw85 h hv (sp_st isL b e (by omega)))
    · have h1 : ¬ gI m1 19 4 ≤ gI m1 19 5 := h1
      rw [le_i] at h1
      omega
  | succ n ih =>
    intro p v1 m1 hn h hv
    obtain ⟨hS, h5, h6, h7, h8, h9, h10, h11, h12⟩ := id h
    have hpe : p < e := by omega
    obtain ⟨b1, b2, b3⟩ := h12 p hpe
    have hi : gI m1 3276842 (gI m1 19 5).toNatClampNeg = gI m1 3276842 p := by rw [nat_c h5]
    have hvp : vp_in (gI m1 19 5) 800 := vp_in_iff.mpr ⟨by omega, show (gI m1 19 5).toInt < ((800 : Nat) : Int) by omega⟩
    refine At.ls okTw 60 ⟨_, _, rfl⟩ ?_
    (conv => whnf)
    refine And.intro (fun h1 => ?_) (fun h1 => ?_)
    · have h1 : gI m1 19 4 ≤ gI m1 19 5 := h1
      rw [le_i] at h1
      omega
    · (conv => whnf)
      refine And.intro hvp ?_
      (conv => whnf)
      refine ⟨1, by decide, _, h_isLetter, ?_⟩
      rintro r m' ⟨hmm, hr⟩; have hmm := hmm.symm; subst hmm
      have hr : z1 (97 ≤ (gI m1 3276842 (gI m1 19 5).toNatClampNeg).toInt ∧ (gI m1 3276842 (gI m1 19 5).toNatClampNeg).toInt ≤ 122) r := hr
      rw [hi, b3] at hr
      (conv => whnf)
      refine And.intro (fun h2 => ?_) (fun h2 => ?_)
      · have hnl : ¬ isL (b p) = true := fun q => by
          have q := isL_i.mp q
          rcases hr with ⟨q1, q2⟩ | ⟨q1, q2⟩
          · rw [q2] at h2; exact absurd h2 (by decide)
          · rw [if_pos (by omega)] at q1; exact q1 q
        (conv => whnf)
        exact And.intro rfl (tw85 h hv (sp_st isL b e (fun q => hnl q.2)))
      · have hl : isL (b p) = true := by
          rcases hr with ⟨q1, q2⟩ | ⟨q1, q2⟩
          · split at q1
            · exact isL_i.mpr q1
            · omega
          · exact absurd q2 h2
        have hc : (gI m1 3276842 (gI m1 19 5).toNatClampNeg).toInt = b (s + (p - s)) := by
          have := isL_i.mp hl
          rw [hi, b3, if_pos (by omega), show s + (p - s) = p by omega]
        have hll : ∀ j, j < p - s → isL (b (s + j)) = true := fun j hj => sp_all isL b e (p := s) (by omega) (by have := sp_ge isL b e p; omega)
        have ek : (gI m1 19 5 - gI m1 19 7).toInt = ((p - s : Nat) : Int) := by
          rw [tI_sub (by unfold i32lo; omega) (by unfold i32hi; omega), h5, h8]; omega
        have e6 : (6 : Int32).toInt = 6 := rfl
        (conv => whnf)
        refine And.intro (fun h3 => ?_) (fun h3 => ?_)
        · have h3 : (6 : Int32) ≤ gI m1 19 5 - gI m1 19 7 := h3
          rw [le_i] at h3
          (conv => whnf)
          refine And.intro rfl (tw72 h hpe hl ?_ (fun m2 q1 q2 => ih (p + 1) _ m2 (by omega) q1 q2))
          rw [show p + 1 - s = (p - s) + 1 by omega, wv_six (by omega)]
          exact hv
        · have h3 : ¬ (6 : Int32) ≤ gI m1 19 5 - gI m1 19 7 := h3
          rw [le_i] at h3
          (conv => whnf)
          refine And.intro hvp ?_
          (conv => whnf)
          have ev := or_step (n := p - s) (k := gI m1 19 5 - gI m1 19 7) (x := gI m1 19 8) (by omega) ek hv hll hc (by rw [show s + (p - s) = p by omega]; exact hl)
          refine And.intro rfl (tw72 ⟨hS.fld (a := 19) (k := 8) (v := _) (by decide) (tI_lo _) (tI_hi _) (fun _ q => by omega), h5, h6, h7, h8, h9, h10, h11, fun i hi => h12 i hi⟩ hpe hl ?_ (fun m2 q1 q2 => ih (p + 1) _ m2 (by omega) q1 q2))
          rw [show p + 1 - s = (p - s) + 1 by omega, ← ev]
          rfl
theorem h_takeWord (hM : Mok TYg m) (hb : cbR m b e) (he : (gI m 19 4).toInt = e) (h5 : (gI m 19 5).toInt = s) (h7 : (gI m 19 7).toInt = s) (hv : gI m 19 8 = 0) (hs : s ≤ e) (h8 : e ≤ 800) : CV 2 mX3_takeWord [.ref 19] m (fun m' => St wAd m m' ∧ tkC m' (if sp isL b e s - s ≤ 6 then 1 else 4, s, wv b s (sp isL b e s - s), sp isL b e s)) :=
  tw0 _ s .null m rfl ⟨St.rf hM, h5, Nat.le_refl _, hs, h7, he, h8, rfl, hb⟩ (by rw [hv, Nat.sub_self]; rfl)
end Tw
