/-! the class: a firm -/
theorem lg_0 {v : Int} : lg v = 0 ↔ v = 404164608 := by
  unfold lg
  constructor
  · intro h
    (repeat' split at h) <;> first | assumption | (exfalso; omega)
  · intro h
    subst h
    decide
theorem lg_1 {v : Int} : lg v = 1 ↔ v = 251105280 := by
  unfold lg
  constructor
  · intro h
    (repeat' split at h) <;> first | assumption | (exfalso; omega)
  · intro h
    subst h
    decide
theorem lg_2 {v : Int} : lg v = 2 ↔ v = 211366912 := by
  unfold lg
  constructor
  · intro h
    (repeat' split at h) <;> first | assumption | (exfalso; omega)
  · intro h
    subst h
    decide
theorem lg_3 {v : Int} : lg v = 3 ↔ v = 638981120 := by
  unfold lg
  constructor
  · intro h
    (repeat' split at h) <;> first | assumption | (exfalso; omega)
  · intro h
    subst h
    decide
theorem lg_4 {v : Int} : lg v = 4 ↔ v = 538218496 := by
  unfold lg
  constructor
  · intro h
    (repeat' split at h) <;> first | assumption | (exfalso; omega)
  · intro h
    subst h
    decide
theorem lg_5 {v : Int} : lg v = 5 ↔ v = 269946880 := by
  unfold lg
  constructor
  · intro h
    (repeat' split at h) <;> first | assumption | (exfalso; omega)
  · intro h
    subst h
    decide
theorem lg_6 {v : Int} : lg v = 6 ↔ v = 620213248 := by
  unfold lg
  constructor
  · intro h
    (repeat' split at h) <;> first | assumption | (exfalso; omega)
  · intro h
    subst h
    decide
theorem lg_7 {v : Int} : lg v = 7 ↔ v = 136085504 := by
  unfold lg
  constructor
  · intro h
    (repeat' split at h) <;> first | assumption | (exfalso; omega)
  · intro h
    subst h
    decide
theorem lg_8 {v : Int} : lg v = 8 ↔ v = 437857280 := by
  unfold lg
  constructor
  · intro h
    (repeat' split at h) <;> first | assumption | (exfalso; omega)
  · intro h
    subst h
    decide
section Fm
variable {b : BT} {e : Nat} {t : TK} {m : MM} {B : TB}
set_option maxRecDepth 100000 in
set_option maxHeartbeats 4000000 in
theorem r_addF_336 {nm ld da : Int32} {n : Nat} (hN : (gI m 418 1).toInt = n) (hn : n < 12) : CI 2 mX0_addFirm [.ref 336, .int nm, .int ld, .int da] m (fun r m' => r.toInt = n ∧ m' = sI (sI (sI (sI (sI (sI (sI (sI m 49592 n nm) 418 1 (gI m 418 1 + 1)) 49752 n ld) 49768 n da) 49784 n 0) 49800 n 0) 49816 n 0) 49835 n 0) := by
  have e0 : (0 : Int32).toInt = 0 := rfl
  refine At.gs okX0_addFirm 80 ?_
  (conv => whnf)
  refine ⟨1, by decide, _, r_add_418 hN hn, ?_⟩
  rintro r m1 ⟨q1, q2⟩
  subst q2
  have hv : vp_in r 12 := vp_in_iff.mpr ⟨by omega, show r.toInt < ((12 : Nat) : Int) by omega⟩
  (conv => whnf)
  refine And.intro (fun q => by rw [lt_i] at q; omega) (fun _ => ?_)
  (conv => whnf)
  refine And.intro hv ?_
  (conv => whnf)
  refine And.intro hv ?_
  (conv => whnf)
  refine And.intro hv ?_
  (conv => whnf)
  refine And.intro hv ?_
  (conv => whnf)
  refine And.intro hv ?_
  (conv => whnf)
  refine And.intro hv ?_
  refine ⟨q1, ?_⟩
  rw [nat_c q1]
  rfl
set_option maxRecDepth 100000 in
set_option maxHeartbeats 4000000 in
theorem r_tie_336 {N : Nat → Nat} {T : Nat → Nat → Int} {f : Int32} {n : Nat} (h : CR b e t m) (hB : BkI 336 (N, T) m) (hf : f.toInt = n) (hn : n < N 2) : CI 5 mX3_readTie [.ref 19, .ref 336, .int f] m (fun r m' => St wRdB m m' ∧ OC m m' (tieS b e n T t) (r = 0) (fun x => r = 1 ∧ CR b e x.2 m' ∧ BkI 336 (N, x.1) m')) := by
  have e0 : (0 : Int32).toInt = 0 := rfl
  have e1 : (1 : Int32).toInt = 1 := rfl
  have e99 : (99 : Int32).toInt = 99 := rfl
  have eH : (269946880 : Int32).toInt = 269946880 := rfl
  have eR : (620213248 : Int32).toInt = 620213248 := rfl
  have hb : isBk 336 := by unfold isBk; omega
  have h12 : N 2 ≤ 12 := hB.2.2.2.2.1
  have hv : vp_in f 12 := vp_in_iff.mpr ⟨by omega, show f.toInt < ((12 : Nat) : Int) by omega⟩
  obtain ⟨k1, k2, k3, k4⟩ := h.2.2.2.2.1
  have none' : ¬ (t.1 = 1 ∧ (lg t.2.2.1 = 5 ∨ lg t.2.2.1 = 6)) → St wRdB m m ∧ OC m m (tieS b e n T t) ((1 : Int32) = 0) (fun x => (1 : Int32) = 1 ∧ CR b e x.2 m ∧ BkI 336 (N, x.1) m) := fun q => by
    refine ⟨St.rf h.1, ?_⟩
    unfold tieS
    rw [if_neg q]
    exact ⟨⟨rfl, h, hB⟩, rfl, rfl⟩
  -- the row of the word
  have tail : ∀ (row r0 : Nat) (w : Int), t.1 = 1 → lg t.2.2.1 = w → (w = 5 ∨ w = 6) → r0 = (w + 1).toNat → row = rowC 336 r0 → row = 49784 ∨ row = 49800 → r0 < 17 ∧ own r0 = 2 ∧ r0 ≠ 3 →
      (∀ m1 : MM, St wAd m m1 → CR b e (nx b e t) m1 → gI m1 19 2 = gI m 19 2 → gI m1 19 3 = gI m 19 3 → gI m row n = 0 → ∀ r2 m2, (St wNu m1 m2 ∧ OC m1 m2 (numS b e 1 99 (nx b e t)) (r2 = -1) (fun x => r2.toInt = x.1 ∧ 1 ≤ x.1 ∧ x.1 ≤ 99 ∧ CR b e x.2 m2)) →
        (r2.toInt < 0 → St wRdB m m2 ∧ OC m m2 (tieS b e n T t) ((0 : Int32) = 0) (fun x => (0 : Int32) = 1 ∧ CR b e x.2 m2 ∧ BkI 336 (N, x.1) m2)) ∧
        (0 ≤ r2.toInt → St wRdB m (sI m2 row n r2) ∧ OC m (sI m2 row n r2) (tieS b e n T t) ((1 : Int32) = 0) (fun x => (1 : Int32) = 1 ∧ CR b e x.2 (sI m2 row n r2) ∧ BkI 336 (N, x.1) (sI m2 row n r2)))) ∧
      (gI m row n ≠ 0 → OC m (sI (sI m 19 2 3) 19 3 (gI m 19 7)) (tieS b e n T t) ((0 : Int32) = 0) (fun x => (0 : Int32) = 1 ∧ CR b e x.2 (sI (sI m 19 2 3) 19 3 (gI m 19 7)) ∧ BkI 336 (N, x.1) (sI (sI m 19 2 3) 19 3 (gI m 19 7)))) := by
    intro row r0 w et ew hw hr0 hrow h67 hr17
    have hT : (gI m row n).toInt = T r0 n := by
      rw [hrow]
      exact hB.2.1 r0 hr17.1 n (by rw [hr17.2.1]; exact hn)
    have eS : tieS b e n T t = (if T r0 n = 0 then bd (numS b e 1 99 (nx b e t)) fun x => .inr (setR T r0 n x.1, x.2) else .inl (3, t.2.1)) := by
      unfold tieS
      rw [if_pos ⟨et, by rw [ew]; exact hw⟩, ew, ← hr0]
    refine ⟨fun m1 S1 c1 f1 f2 hz r2 m2 o2 => ?_, fun hz => ?_⟩
    · obtain ⟨S2, o2⟩ := o2
      have T2 : St wRdB m m2 := (St.tr (W := wRdB) ⟨S1.1, S1.2.1, Fr_tr (Fr_rfl _ _) S1.2.2 (by decide)⟩ S2 (by decide))
      have hT0 : T r0 n = 0 := by rw [← hT, hz]; rfl
      rw [eS, if_pos hT0]
      rcases OC_c o2 with ⟨er, ey, hbad, f3, f4⟩ | ⟨y, ey, ⟨j1, j2, j3, j4⟩, f3, f4⟩
      · rw [ey]
        refine ⟨fun _ => ⟨T2, rfl, f3, f4⟩, fun q => ?_⟩
        rw [hbad] at q
        exact absurd q (by decide)
      · rw [ey]
        refine ⟨fun q => by omega, fun _ => ?_⟩
        have S3 : St [49784, 49800] m2 (sI m2 row n r2) := by
          rcases h67 with q | q
          · rw [q]; exact (St.rf S2.1).row (a := 49784) rfl (by decide) (tI_lo _) (tI_hi _)
          · rw [q]; exact (St.rf S2.1).row (a := 49800) rfl (by decide) (tI_lo _) (tI_hi _)
        obtain ⟨c1', c2, c3⟩ := j4.fr S3 (by decide)
        refine ⟨T2.tr S3 (by decide), ⟨rfl, c1', ?_⟩, c2.trans (f3.trans f1), c3.trans (f4.trans f2)⟩
        have hB2 := (hB.fr hb S1.2.2 (by decide)).fr hb S2.2.2 (by decide)
        rw [hrow, ← j1]
        refine ⟨fun k hk => ?_, hB2.2.row hb hr17.1 (fun q => absurd q hr17.2.2)⟩
        have := hB2.1 k hk
        rw [gI_if, if_neg (fun z => ?_)]
        · exact this
        · have h8 := rowC_8 hb r0 hr17.1
          rw [← z.1] at h8
          rcases (by omega : k = 0 ∨ k = 1 ∨ k = 2 ∨ k = 3) with rfl | rfl | rfl | rfl <;> cases h8
    · rw [eS, if_neg (fun q => hz (Int32.toInt_inj.mp (by rw [hT, q]; rfl)))]
      exact OC_fail h rfl rfl
  refine At.gs okX3_readTie 80 ?_
  (conv => whnf)
  refine And.intro (fun h1 => ?_) (fun h1 => ?_)
  · have h1 : ¬ gI m 19 6 = 1 := h1
    exact ⟨Or.inr rfl, none' (fun q => h1 (Int32.toInt_inj.mp (by rw [k1, q.1]; rfl)))⟩
  · have h1 : gI m 19 6 = 1 := h1
    have et : t.1 = 1 := by rw [h1] at k1; omega
    (conv => whnf)
    refine And.intro (fun h2 => ?_) (fun h2 => ?_)
    · have h2 : gI m 19 8 = 269946880 := h2
      have ev : lg t.2.2.1 = 5 := lg_5.mpr (by rw [← k3, h2, eH])
      obtain ⟨go, no⟩ := tail 49784 6 5 et ev (Or.inl rfl) rfl rfl (Or.inl rfl) ⟨by omega, rfl, by omega⟩
      (conv => whnf)
      refine And.intro (fun h3 => absurd h2 h3) (fun _ => ?_)
      (conv => whnf)
      refine And.intro hv ?_
      (conv => whnf)
      refine And.intro (fun h4 => ?_) (fun h4 => ?_)
      · have h4 : gI m 49784 f.toNatClampNeg = 0 := h4
        rw [nat_c hf] at h4
        (conv => whnf)
        refine ⟨3, by decide, _, r_adv h, ?_⟩
        rintro m1 ⟨S1, c1, f1, f2⟩
        (conv => whnf)
        refine ⟨4, by decide, _, r_num c1, ?_⟩
        rintro r2 m2 o2
        rw [e1, e99] at o2
        have G := go m1 S1 c1 f1 f2 h4 r2 m2 o2
        (conv => whnf)
        refine And.intro (fun q => ?_) (fun q => ?_)
        · rw [le_i] at q
          (conv => whnf)
          refine And.intro hv ?_
          rw [nat_c hf]
          exact ⟨Or.inr rfl, G.2 (by omega)⟩
        · rw [le_i] at q
          exact ⟨Or.inl rfl, G.1 (by omega)⟩
      · have h4 : ¬ gI m 49784 f.toNatClampNeg = 0 := h4
        rw [nat_c hf] at h4
        (conv => whnf)
        refine ⟨1, by decide, _, r_fail, ?_⟩
        rintro r2 m2 ⟨q1, q2⟩
        subst q1
        subst q2
        exact ⟨Or.inl rfl, St_fail (St.rf h.1) (by decide) (by decide), no h4⟩
    · have h2 : ¬ gI m 19 8 = 269946880 := h2
      (conv => whnf)
      refine And.intro (fun h2' => ?_) (fun h2' => ?_)
      · have h2' : gI m 19 8 = 620213248 := h2'
        have ev : lg t.2.2.1 = 6 := lg_6.mpr (by rw [← k3, h2', eR])
        obtain ⟨go, no⟩ := tail 49800 7 6 et ev (Or.inr rfl) rfl rfl (Or.inr rfl) ⟨by omega, rfl, by omega⟩
        (conv => whnf)
        refine And.intro (fun _ => ?_) (fun h3 => absurd h3 h2)
        (conv => whnf)
        refine And.intro hv ?_
        (conv => whnf)
        refine And.intro (fun h4 => ?_) (fun h4 => ?_)
        · have h4 : gI m 49800 f.toNatClampNeg = 0 := h4
          rw [nat_c hf] at h4
          (conv => whnf)
          refine ⟨3, by decide, _, r_adv h, ?_⟩
          rintro m1 ⟨S1, c1, f1, f2⟩
          (conv => whnf)
          refine ⟨4, by decide, _, r_num c1, ?_⟩
          rintro r2 m2 o2
          rw [e1, e99] at o2
          have G := go m1 S1 c1 f1 f2 h4 r2 m2 o2
          (conv => whnf)
          refine And.intro (fun q => ?_) (fun q => ?_)
          · rw [le_i] at q
            (conv => whnf)
            refine And.intro hv ?_
            rw [nat_c hf]
            exact ⟨Or.inr rfl, G.2 (by omega)⟩
          · rw [le_i] at q
            exact ⟨Or.inl rfl, G.1 (by omega)⟩
        · have h4 : ¬ gI m 49800 f.toNatClampNeg = 0 := h4
          rw [nat_c hf] at h4
          (conv => whnf)
          refine ⟨1, by decide, _, r_fail, ?_⟩
          rintro r2 m2 ⟨q1, q2⟩
          subst q1
          subst q2
          exact ⟨Or.inl rfl, St_fail (St.rf h.1) (by decide) (by decide), no h4⟩
      · have h2' : ¬ gI m 19 8 = 620213248 := h2'
        refine ⟨Or.inr rfl, none' (fun q => ?_)⟩
        rcases q.2 with q | q
        · exact h2 (Int32.toInt_inj.mp (by rw [k3, eH]; exact lg_5.mp q))
        · exact h2' (Int32.toInt_inj.mp (by rw [k3, eR]; exact lg_6.mp q))
set_option maxRecDepth 100000 in
set_option maxHeartbeats 4000000 in
theorem r_addF_720 {nm ld da : Int32} {n : Nat} (hN : (gI m 802 1).toInt = n) (hn : n < 12) : CI 2 mX0_addFirm [.ref 720, .int nm, .int ld, .int da] m (fun r m' => r.toInt = n ∧ m' = sI (sI (sI (sI (sI (sI (sI (sI m 49976 n nm) 802 1 (gI m 802 1 + 1)) 50136 n ld) 50152 n da) 50168 n 0) 50184 n 0) 50200 n 0) 50219 n 0) := by
  have e0 : (0 : Int32).toInt = 0 := rfl
  refine At.gs okX0_addFirm 80 ?_
  (conv => whnf)
  refine ⟨1, by decide, _, r_add_802 hN hn, ?_⟩
  rintro r m1 ⟨q1, q2⟩
  subst q2
  have hv : vp_in r 12 := vp_in_iff.mpr ⟨by omega, show r.toInt < ((12 : Nat) : Int) by omega⟩
  (conv => whnf)
  refine And.intro (fun q => by rw [lt_i] at q; omega) (fun _ => ?_)
  (conv => whnf)
  refine And.intro hv ?_
  (conv => whnf)
  refine And.intro hv ?_
  (conv => whnf)
  refine And.intro hv ?_
  (conv => whnf)
  refine And.intro hv ?_
  (conv => whnf)
  refine And.intro hv ?_
  (conv => whnf)
  refine And.intro hv ?_
  refine ⟨q1, ?_⟩
  rw [nat_c q1]
  rfl
set_option maxRecDepth 100000 in
set_option maxHeartbeats 4000000 in
theorem r_tie_720 {N : Nat → Nat} {T : Nat → Nat → Int} {f : Int32} {n : Nat} (h : CR b e t m) (hB : BkI 720 (N, T) m) (hf : f.toInt = n) (hn : n < N 2) : CI 5 mX3_readTie [.ref 19, .ref 720, .int f] m (fun r m' => St wRdA m m' ∧ OC m m' (tieS b e n T t) (r = 0) (fun x => r = 1 ∧ CR b e x.2 m' ∧ BkI 720 (N, x.1) m')) := by
  have e0 : (0 : Int32).toInt = 0 := rfl
  have e1 : (1 : Int32).toInt = 1 := rfl
  have e99 : (99 : Int32).toInt = 99 := rfl
  have eH : (269946880 : Int32).toInt = 269946880 := rfl
  have eR : (620213248 : Int32).toInt = 620213248 := rfl
  have hb : isBk 720 := by unfold isBk; omega
  have h12 : N 2 ≤ 12 := hB.2.2.2.2.1
  have hv : vp_in f 12 := vp_in_iff.mpr ⟨by omega, show f.toInt < ((12 : Nat) : Int) by omega⟩
  obtain ⟨k1, k2, k3, k4⟩ := h.2.2.2.2.1
  have none' : ¬ (t.1 = 1 ∧ (lg t.2.2.1 = 5 ∨ lg t.2.2.1 = 6)) → St wRdA m m ∧ OC m m (tieS b e n T t) ((1 : Int32) = 0) (fun x => (1 : Int32) = 1 ∧ CR b e x.2 m ∧ BkI 720 (N, x.1) m) := fun q => by
    refine ⟨St.rf h.1, ?_⟩
    unfold tieS
    rw [if_neg q]
    exact ⟨⟨rfl, h, hB⟩, rfl, rfl⟩
  -- the row of the word
  have tail : ∀ (row r0 : Nat) (w : Int), t.1 = 1 → lg t.2.2.1 = w → (w = 5 ∨ w = 6) → r0 = (w + 1).toNat → row = rowC 720 r0 → row = 50168 ∨ row = 50184 → r0 < 17 ∧ own r0 = 2 ∧ r0 ≠ 3 →
      (∀ m1 : MM, St wAd m m1 → CR b e (nx b e t) m1 → gI m1 19 2 = gI m 19 2 → gI m1 19 3 = gI m 19 3 → gI m row n = 0 → ∀ r2 m2, (St wNu m1 m2 ∧ OC m1 m2 (numS b e 1 99 (nx b e t)) (r2 = -1) (fun x => r2.toInt = x.1 ∧ 1 ≤ x.1 ∧ x.1 ≤ 99 ∧ CR b e x.2 m2)) →
        (r2.toInt < 0 → St wRdA m m2 ∧ OC m m2 (tieS b e n T t) ((0 : Int32) = 0) (fun x => (0 : Int32) = 1 ∧ CR b e x.2 m2 ∧ BkI 720 (N, x.1) m2)) ∧
        (0 ≤ r2.toInt → St wRdA m (sI m2 row n r2) ∧ OC m (sI m2 row n r2) (tieS b e n T t) ((1 : Int32) = 0) (fun x => (1 : Int32) = 1 ∧ CR b e x.2 (sI m2 row n r2) ∧ BkI 720 (N, x.1) (sI m2 row n r2)))) ∧
      (gI m row n ≠ 0 → OC m (sI (sI m 19 2 3) 19 3 (gI m 19 7)) (tieS b e n T t) ((0 : Int32) = 0) (fun x => (0 : Int32) = 1 ∧ CR b e x.2 (sI (sI m 19 2 3) 19 3 (gI m 19 7)) ∧ BkI 720 (N, x.1) (sI (sI m 19 2 3) 19 3 (gI m 19 7)))) := by
    intro row r0 w et ew hw hr0 hrow h67 hr17
    have hT : (gI m row n).toInt = T r0 n := by
      rw [hrow]
      exact hB.2.1 r0 hr17.1 n (by rw [hr17.2.1]; exact hn)
    have eS : tieS b e n T t = (if T r0 n = 0 then bd (numS b e 1 99 (nx b e t)) fun x => .inr (setR T r0 n x.1, x.2) else .inl (3, t.2.1)) := by
      unfold tieS
      rw [if_pos ⟨et, by rw [ew]; exact hw⟩, ew, ← hr0]
    refine ⟨fun m1 S1 c1 f1 f2 hz r2 m2 o2 => ?_, fun hz => ?_⟩
    · obtain ⟨S2, o2⟩ := o2
      have T2 : St wRdA m m2 := (St.tr (W := wRdA) ⟨S1.1, S1.2.1, Fr_tr (Fr_rfl _ _) S1.2.2 (by decide)⟩ S2 (by decide))
      have hT0 : T r0 n = 0 := by rw [← hT, hz]; rfl
      rw [eS, if_pos hT0]
      rcases OC_c o2 with ⟨er, ey, hbad, f3, f4⟩ | ⟨y, ey, ⟨j1, j2, j3, j4⟩, f3, f4⟩
      · rw [ey]
        refine ⟨fun _ => ⟨T2, rfl, f3, f4⟩, fun q => ?_⟩
        rw [hbad] at q
        exact absurd q (by decide)
      · rw [ey]
        refine ⟨fun q => by omega, fun _ => ?_⟩
        have S3 : St [50168, 50184] m2 (sI m2 row n r2) := by
          rcases h67 with q | q
          · rw [q]; exact (St.rf S2.1).row (a := 50168) rfl (by decide) (tI_lo _) (tI_hi _)
          · rw [q]; exact (St.rf S2.1).row (a := 50184) rfl (by decide) (tI_lo _) (tI_hi _)
        obtain ⟨c1', c2, c3⟩ := j4.fr S3 (by decide)
        refine ⟨T2.tr S3 (by decide), ⟨rfl, c1', ?_⟩, c2.trans (f3.trans f1), c3.trans (f4.trans f2)⟩
        have hB2 := (hB.fr hb S1.2.2 (by decide)).fr hb S2.2.2 (by decide)
        rw [hrow, ← j1]
        refine ⟨fun k hk => ?_, hB2.2.row hb hr17.1 (fun q => absurd q hr17.2.2)⟩
        have := hB2.1 k hk
        rw [gI_if, if_neg (fun z => ?_)]
        · exact this
        · have h8 := rowC_8 hb r0 hr17.1
          rw [← z.1] at h8
          rcases (by omega : k = 0 ∨ k = 1 ∨ k = 2 ∨ k = 3) with rfl | rfl | rfl | rfl <;> cases h8
    · rw [eS, if_neg (fun q => hz (Int32.toInt_inj.mp (by rw [hT, q]; rfl)))]
      exact OC_fail h rfl rfl
  refine At.gs okX3_readTie 80 ?_
  (conv => whnf)
  refine And.intro (fun h1 => ?_) (fun h1 => ?_)
  · have h1 : ¬ gI m 19 6 = 1 := h1
    exact ⟨Or.inr rfl, none' (fun q => h1 (Int32.toInt_inj.mp (by rw [k1, q.1]; rfl)))⟩
  · have h1 : gI m 19 6 = 1 := h1
    have et : t.1 = 1 := by rw [h1] at k1; omega
    (conv => whnf)
    refine And.intro (fun h2 => ?_) (fun h2 => ?_)
    · have h2 : gI m 19 8 = 269946880 := h2
      have ev : lg t.2.2.1 = 5 := lg_5.mpr (by rw [← k3, h2, eH])
      obtain ⟨go, no⟩ := tail 50168 6 5 et ev (Or.inl rfl) rfl rfl (Or.inl rfl) ⟨by omega, rfl, by omega⟩
      (conv => whnf)
      refine And.intro (fun h3 => absurd h2 h3) (fun _ => ?_)
      (conv => whnf)
      refine And.intro hv ?_
      (conv => whnf)
      refine And.intro (fun h4 => ?_) (fun h4 => ?_)
      · have h4 : gI m 50168 f.toNatClampNeg = 0 := h4
        rw [nat_c hf] at h4
        (conv => whnf)
        refine ⟨3, by decide, _, r_adv h, ?_⟩
        rintro m1 ⟨S1, c1, f1, f2⟩
        (conv => whnf)
        refine ⟨4, by decide, _, r_num c1, ?_⟩
        rintro r2 m2 o2
        rw [e1, e99] at o2
        have G := go m1 S1 c1 f1 f2 h4 r2 m2 o2
        (conv => whnf)
        refine And.intro (fun q => ?_) (fun q => ?_)
        · rw [le_i] at q
          (conv => whnf)
          refine And.intro hv ?_
          rw [nat_c hf]
          exact ⟨Or.inr rfl, G.2 (by omega)⟩
        · rw [le_i] at q
          exact ⟨Or.inl rfl, G.1 (by omega)⟩
      · have h4 : ¬ gI m 50168 f.toNatClampNeg = 0 := h4
        rw [nat_c hf] at h4
        (conv => whnf)
        refine ⟨1, by decide, _, r_fail, ?_⟩
        rintro r2 m2 ⟨q1, q2⟩
        subst q1
        subst q2
        exact ⟨Or.inl rfl, St_fail (St.rf h.1) (by decide) (by decide), no h4⟩
    · have h2 : ¬ gI m 19 8 = 269946880 := h2
      (conv => whnf)
      refine And.intro (fun h2' => ?_) (fun h2' => ?_)
      · have h2' : gI m 19 8 = 620213248 := h2'
        have ev : lg t.2.2.1 = 6 := lg_6.mpr (by rw [← k3, h2', eR])
        obtain ⟨go, no⟩ := tail 50184 7 6 et ev (Or.inr rfl) rfl rfl (Or.inr rfl) ⟨by omega, rfl, by omega⟩
        (conv => whnf)
        refine And.intro (fun _ => ?_) (fun h3 => absurd h3 h2)
        (conv => whnf)
        refine And.intro hv ?_
        (conv => whnf)
        refine And.intro (fun h4 => ?_) (fun h4 => ?_)
        · have h4 : gI m 50184 f.toNatClampNeg = 0 := h4
          rw [nat_c hf] at h4
          (conv => whnf)
          refine ⟨3, by decide, _, r_adv h, ?_⟩
          rintro m1 ⟨S1, c1, f1, f2⟩
          (conv => whnf)
          refine ⟨4, by decide, _, r_num c1, ?_⟩
          rintro r2 m2 o2
          rw [e1, e99] at o2
          have G := go m1 S1 c1 f1 f2 h4 r2 m2 o2
          (conv => whnf)
          refine And.intro (fun q => ?_) (fun q => ?_)
          · rw [le_i] at q
            (conv => whnf)
            refine And.intro hv ?_
            rw [nat_c hf]
            exact ⟨Or.inr rfl, G.2 (by omega)⟩
          · rw [le_i] at q
            exact ⟨Or.inl rfl, G.1 (by omega)⟩
        · have h4 : ¬ gI m 50184 f.toNatClampNeg = 0 := h4
          rw [nat_c hf] at h4
          (conv => whnf)
          refine ⟨1, by decide, _, r_fail, ?_⟩
          rintro r2 m2 ⟨q1, q2⟩
          subst q1
          subst q2
          exact ⟨Or.inl rfl, St_fail (St.rf h.1) (by decide) (by decide), no h4⟩
      · have h2' : ¬ gI m 19 8 = 620213248 := h2'
        refine ⟨Or.inr rfl, none' (fun q => ?_)⟩
        rcases q.2 with q | q
        · exact h2 (Int32.toInt_inj.mp (by rw [k3, eH]; exact lg_5.mp q))
        · exact h2' (Int32.toInt_inj.mp (by rw [k3, eR]; exact lg_6.mp q))
end Fm
