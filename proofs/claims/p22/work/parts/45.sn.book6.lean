/-! book of the class -/
theorem St.wd5 {W W' : List Nat} {m m' : MM} (h : St W m m') (hs : ∀ x ∈ W, x ∈ W') : St W' m m' := ⟨h.1, h.2.1, Fr_tr (Fr_rfl _ _) h.2.2 hs⟩
theorem Fr_bk {W : List Nat} {m m1 : MM} {c : Nat × Nat} (h : Fr W m m1) : Fr W m (m1.1, m1.2.1, c) := h
set_option maxRecDepth 20000 in
theorem r_fgt {m : MM} : CV 1 mX1_forget [.ref 49] m (fun m' => m' = sI m 49 13 0) := by
  refine At.gs okX1_forget 20 ?_
  (conv => whnf)
  exact ⟨Or.inl rfl, rfl⟩
/-- what book of the class leaves: the answer r, a book more or a fault -/
def Bk6 (b : BT) (W1 W2 : List Nat) (nw : Nat) (c2 : Nat × Nat) (m : MM) (n : Int32) (r : Int32) (m' : MM) : Prop :=
  Mok TYg m' ∧ ((¬ (0 ≤ n.toInt ∧ n.toInt ≤ (gI m 19 1).toInt) ∧ r = -2 ∧ m' = m) ∨
  ((0 ≤ n.toInt ∧ n.toInt ≤ (gI m 19 1).toInt) ∧ gI m' 19 1 = 0 ∧
    ((∃ er, readS b n.toInt.toNat = .inl er ∧ r = -1 ∧ (gI m' 19 2).toInt = er.1 ∧ (gI m' 19 3).toInt = er.2 ∧ m'.2.2 = m.2.2 ∧ Fr W1 m m') ∨
     (∃ x, readS b n.toInt.toNat = .inr x ∧ r.toInt = x.2 ∧ gI m' 19 2 = 0 ∧ gI m' 19 3 = -1 ∧ m'.2.2 = c2 ∧ BkI nw x.1 m' ∧ gI m' 6 5 = 0 ∧ gI m' 6 6 = 0 ∧ gI m' (cntC nw 3) 8 = 0 ∧ LbC nw (x.1.1 2) m' ∧ gI m' 49 13 = 0 ∧ Fr W2 m m'))))
section Bk
variable {b : BT} {m : MM} {n : Int32}
def wClB : List Nat := [8589934946, 8589934978, 8589935010, 34359738820, 38654706116]
def wB1B : List Nat := wClB ++ wReB
def wB2B : List Nat := [49848, 25769803782, 30064771078, 60129542193] ++ wB1B
set_option maxRecDepth 100000 in
set_option maxHeartbeats 8000000 in
theorem r_book6B (hM : Mok TYg m) (hc : m.2.2 = (720, 336)) (hb : n.toInt ≤ (gI m 19 1).toInt → cbR m b n.toInt.toNat) : CI 9 mX6_book [.ref 6, .int n] m (Bk6 b wB1B wB2B 336 (336, 720) m n) := by
  obtain ⟨f, g, c⟩ := m
  obtain rfl : c = (720, 336) := hc
  have hk : isBk 336 := by unfold isBk; omega
  have hsz : (0 : Int) ≤ (gI (f, g, (720, 336)) 19 1).toInt ∧ (gI (f, g, (720, 336)) 19 1).toInt ≤ 800 := hM.1 19 1
  have e0 : (0 : Int32).toInt = 0 := rfl
  refine At.gs okX6_book 80 ?_
  (conv => whnf)
  refine And.intro (fun h => ?_) (fun h => ?_)
  · rw [lt_i] at h
    exact ⟨hM, Or.inl ⟨by omega, rfl, rfl⟩⟩
  · rw [lt_i] at h
    (conv => whnf)
    refine And.intro (fun h2 => ?_) (fun h2 => ?_)
    · have h2 : n ≤ gI (f, g, (720, 336)) 19 1 := h2
      rw [le_i] at h2
      (conv => whnf)
      dsimp only
      (conv => whnf)
      refine ⟨1, by decide, _, SafeC.cv (sfX0_clear cB (Or.inr rfl) ([(2, 336, 0)], 1, [((9, 0, 0), [((354, 1), (0, 0)), ((386, 1), (0, 0)), ((418, 1), (0, 0)), ((452, 7), (0, 0)), ((452, 8), (0, 0))], [])], [8589934946, 8589934978, 8589935010, 34359738820, 38654706116], []) (List.mem_of_getElem? (i := 0) rfl)) (by decide) ⟨rfl, trivial⟩ hM rfl noPre, ?_⟩
      intro m1 hP1
      have hF1 : Fr wClB (f, g, (720, 336)) m1 := hP1.2.2.1
      obtain ⟨oo, ho, -, ho2, -⟩ := hP1.2.2.2
      rw [List.mem_singleton.mp ho] at ho2
      have z0 := ho2 ((354, 1), (0, 0)) (by decide)
      have z1 := ho2 ((386, 1), (0, 0)) (by decide)
      have z2 := ho2 ((418, 1), (0, 0)) (by decide)
      have z3 := ho2 ((452, 7), (0, 0)) (by decide)
      have z4 := ho2 ((452, 8), (0, 0)) (by decide)
      dsimp only at z0 z1 z2 z3 z4
      have e00 : (0 : Int32).toInt = 0 := rfl
      have y4 : gI m1 452 8 = 0 := Int32.toInt_inj.mp (by omega)
      have hB1 : BkI 336 B0 m1 := by
        refine ⟨fun k hk => ?_, fun r hr i hi => absurd hi (Nat.not_lt_zero _), Nat.zero_le _, Nat.zero_le _, Nat.zero_le _, Nat.zero_le _, fun i hi => absurd hi (Nat.not_lt_zero _)⟩
        rcases (by omega : k = 0 ∨ k = 1 ∨ k = 2 ∨ k = 3) with rfl | rfl | rfl | rfl
        · show (gI m1 354 1).toInt = 0
          omega
        · show (gI m1 386 1).toInt = 0
          omega
        · show (gI m1 418 1).toInt = 0
          omega
        · show (gI m1 452 7).toInt = 0
          omega
      have y1 : gI m1 19 1 = gI (f, g, (720, 336)) 19 1 := fr1 hF1 (by decide)
      have hb1 : cbR m1 b n.toInt.toNat := (hb h2).fr hF1 (by decide)
      have hM1 := hP1.1
      have hc1 : m1.2.2 = (720, 336) := hP1.2.1
      clear hP1
      obtain ⟨f1, g1, c1⟩ := m1
      obtain rfl : c1 = (720, 336) := hc1
      (conv => whnf)
      refine ⟨7, by decide, _, r_read_336 hM1 hb1 (by omega) (by rw [y1]; omega) hB1, ?_⟩
      rintro r m2 ⟨S2, y2, o2⟩
      have hF2 : Fr wB1B (f, g, (720, 336)) m2 := Fr_tr (Fr_tr (Fr_rfl _ _) hF1 (by decide)) S2.2.2 (by decide)
      obtain ⟨f2, g2, c2⟩ := m2
      obtain rfl : c2 = (720, 336) := S2.2.1
      (conv => whnf)
      cases hR : readS b n.toInt.toNat with
      | inl er =>
        rw [hR] at o2
        obtain ⟨q1, q2, q3⟩ := o2
        subst q1
        refine And.intro (fun _ => ?_) (fun q => absurd (by decide) q)
        exact ⟨S2.1, Or.inr ⟨⟨by omega, h2⟩, y2, Or.inl ⟨er, hR, rfl, q2, q3, rfl, hF2⟩⟩⟩
      | inr x =>
        rw [hR] at o2
        obtain ⟨q1, q2, q3, q4⟩ := o2
        refine And.intro (fun q => by rw [lt_i] at q; omega) (fun _ => ?_)
        (conv => whnf)
        dsimp only [sNw_c, sSp_c]
        (conv => whnf)
        have hj2 : (gI (f2, g2, (336, 720)) 418 1).toInt = x.1.1 2 := q4.1 2 (by decide)
        refine ⟨2, by decide, _, r_join_336 (m := (f2, g2, (336, 720))) (n := x.1.1 2) S2.1 hj2 q4.2.2.2.2.1, ?_⟩
        intro m3 hP3
        obtain ⟨S3j, L3⟩ := hP3
        have hF3 : Fr [49848] (f2, g2, (336, 720)) m3 := S3j.2.2
        have hM3 := S3j.1
        have hc3 : m3.2.2 = (336, 720) := S3j.2.1
        obtain ⟨f3, g3, c3⟩ := m3
        obtain rfl : c3 = (336, 720) := hc3
        have S4 : St [25769803782, 30064771078] (f3, g3, (336, 720)) (sI (sI (f3, g3, (336, 720)) 6 5 0) 6 6 0) := ((St.rf hM3).fld (a := 6) (k := 5) (v := 0) (by decide) (by decide) (by decide) (fun _ q => by omega)).fld (a := 6) (k := 6) (v := 0) (by decide) (by decide) (by decide) (fun _ q => by omega)
        (conv => whnf)
        refine ⟨1, by decide, _, r_fgt (m := sI (sI (f3, g3, (336, 720)) 6 5 0) 6 6 0), ?_⟩
        intro m5 hm5
        have S5 : St [25769803782, 30064771078, 60129542193] (f3, g3, (336, 720)) m5 := by
          rw [hm5]
          exact (S4.wd5 (by decide)).fld (a := 49) (k := 13) (v := 0) (by decide) (by decide) (by decide) (fun _ q => by omega)
        have hF5 : Fr [60129542193] (sI (sI (f3, g3, (336, 720)) 6 5 0) 6 6 0) m5 := by
          rw [hm5]
          exact Fr_sI (Fr_rfl _ _) (by decide) (fun _ z => by omega)
        have z13 : gI m5 49 13 = 0 := by rw [hm5, gI_if, if_pos ⟨rfl, rfl⟩]
        have F25 : Fr [25769803782, 30064771078, 60129542193] (f3, g3, (336, 720)) m5 := Fr_tr (Fr_tr (Fr_rfl _ _) S4.2.2 (by decide)) hF5 (by decide)
        have L5 : LbC 336 (x.1.1 2) m5 := L3.fr hk F25 (by decide +kernel)
        have F35 : Fr [49848, 25769803782, 30064771078, 60129542193] (f2, g2, (336, 720)) m5 := Fr_tr (Fr_tr (Fr_tr (Fr_rfl _ _) hF3 (by decide)) S4.2.2 (by decide)) hF5 (by decide)
        refine ⟨S5.1, Or.inr ⟨⟨by omega, h2⟩, (fr1 F35 (by decide)).trans y2, Or.inr ⟨x, hR, q1, (fr1 F35 (by decide)).trans q2, (fr1 F35 (by decide)).trans q3, S5.2.1, BkI.fr (m := (f2, g2, (336, 720))) q4 hk F35 (by decide), (fr1 hF5 (by decide)).trans rfl, (fr1 hF5 (by decide)).trans rfl, (fr1 F35 (by decide)).trans ((fr1 S2.2.2 (by decide)).trans y4), L5, z13, ?_⟩⟩⟩
        exact Fr_tr (W := wB2B) (Fr_tr (Fr_rfl _ _) (Fr_bk (c := (336, 720)) hF2) (fun x hx => List.mem_append_right _ hx)) F35 (by decide)
    · have h2 : ¬ n ≤ gI (f, g, (720, 336)) 19 1 := h2
      rw [le_i] at h2
      exact ⟨hM, Or.inl ⟨by omega, rfl, rfl⟩⟩
def wClA : List Nat := [8589935330, 8589935362, 8589935394, 34359739204, 38654706500]
def wB1A : List Nat := wClA ++ wReA
def wB2A : List Nat := [50232, 25769803782, 30064771078, 60129542193] ++ wB1A
set_option maxRecDepth 100000 in
set_option maxHeartbeats 8000000 in
theorem r_book6A (hM : Mok TYg m) (hc : m.2.2 = (336, 720)) (hb : n.toInt ≤ (gI m 19 1).toInt → cbR m b n.toInt.toNat) : CI 9 mX6_book [.ref 6, .int n] m (Bk6 b wB1A wB2A 720 (720, 336) m n) := by
  obtain ⟨f, g, c⟩ := m
  obtain rfl : c = (336, 720) := hc
  have hk : isBk 720 := by unfold isBk; omega
  have hsz : (0 : Int) ≤ (gI (f, g, (336, 720)) 19 1).toInt ∧ (gI (f, g, (336, 720)) 19 1).toInt ≤ 800 := hM.1 19 1
  have e0 : (0 : Int32).toInt = 0 := rfl
  refine At.gs okX6_book 80 ?_
  (conv => whnf)
  refine And.intro (fun h => ?_) (fun h => ?_)
  · rw [lt_i] at h
    exact ⟨hM, Or.inl ⟨by omega, rfl, rfl⟩⟩
  · rw [lt_i] at h
    (conv => whnf)
    refine And.intro (fun h2 => ?_) (fun h2 => ?_)
    · have h2 : n ≤ gI (f, g, (336, 720)) 19 1 := h2
      rw [le_i] at h2
      (conv => whnf)
      dsimp only
      (conv => whnf)
      refine ⟨1, by decide, _, SafeC.cv (sfX0_clear cA (Or.inl rfl) ([(2, 720, 0)], 1, [((9, 0, 0), [((738, 1), (0, 0)), ((770, 1), (0, 0)), ((802, 1), (0, 0)), ((836, 7), (0, 0)), ((836, 8), (0, 0))], [])], [8589935330, 8589935362, 8589935394, 34359739204, 38654706500], []) (List.mem_of_getElem? (i := 1) rfl)) (by decide) ⟨rfl, trivial⟩ hM rfl noPre, ?_⟩
      intro m1 hP1
      have hF1 : Fr wClA (f, g, (336, 720)) m1 := hP1.2.2.1
      obtain ⟨oo, ho, -, ho2, -⟩ := hP1.2.2.2
      rw [List.mem_singleton.mp ho] at ho2
      have z0 := ho2 ((738, 1), (0, 0)) (by decide)
      have z1 := ho2 ((770, 1), (0, 0)) (by decide)
      have z2 := ho2 ((802, 1), (0, 0)) (by decide)
      have z3 := ho2 ((836, 7), (0, 0)) (by decide)
      have z4 := ho2 ((836, 8), (0, 0)) (by decide)
      dsimp only at z0 z1 z2 z3 z4
      have e00 : (0 : Int32).toInt = 0 := rfl
      have y4 : gI m1 836 8 = 0 := Int32.toInt_inj.mp (by omega)
      have hB1 : BkI 720 B0 m1 := by
        refine ⟨fun k hk => ?_, fun r hr i hi => absurd hi (Nat.not_lt_zero _), Nat.zero_le _, Nat.zero_le _, Nat.zero_le _, Nat.zero_le _, fun i hi => absurd hi (Nat.not_lt_zero _)⟩
        rcases (by omega : k = 0 ∨ k = 1 ∨ k = 2 ∨ k = 3) with rfl | rfl | rfl | rfl
        · show (gI m1 738 1).toInt = 0
          omega
        · show (gI m1 770 1).toInt = 0
          omega
        · show (gI m1 802 1).toInt = 0
          omega
        · show (gI m1 836 7).toInt = 0
          omega
      have y1 : gI m1 19 1 = gI (f, g, (336, 720)) 19 1 := fr1 hF1 (by decide)
      have hb1 : cbR m1 b n.toInt.toNat := (hb h2).fr hF1 (by decide)
      have hM1 := hP1.1
      have hc1 : m1.2.2 = (336, 720) := hP1.2.1
      clear hP1
      obtain ⟨f1, g1, c1⟩ := m1
      obtain rfl : c1 = (336, 720) := hc1
      (conv => whnf)
      refine ⟨7, by decide, _, r_read_720 hM1 hb1 (by omega) (by rw [y1]; omega) hB1, ?_⟩
      rintro r m2 ⟨S2, y2, o2⟩
      have hF2 : Fr wB1A (f, g, (336, 720)) m2 := Fr_tr (Fr_tr (Fr_rfl _ _) hF1 (by decide)) S2.2.2 (by decide)
      obtain ⟨f2, g2, c2⟩ := m2
      obtain rfl : c2 = (336, 720) := S2.2.1
      (conv => whnf)
      cases hR : readS b n.toInt.toNat with
      | inl er =>
        rw [hR] at o2
        obtain ⟨q1, q2, q3⟩ := o2
        subst q1
        refine And.intro (fun _ => ?_) (fun q => absurd (by decide) q)
        exact ⟨S2.1, Or.inr ⟨⟨by omega, h2⟩, y2, Or.inl ⟨er, hR, rfl, q2, q3, rfl, hF2⟩⟩⟩
      | inr x =>
        rw [hR] at o2
        obtain ⟨q1, q2, q3, q4⟩ := o2
        refine And.intro (fun q => by rw [lt_i] at q; omega) (fun _ => ?_)
        (conv => whnf)
        dsimp only [sNw_c, sSp_c]
        (conv => whnf)
        have hj2 : (gI (f2, g2, (720, 336)) 802 1).toInt = x.1.1 2 := q4.1 2 (by decide)
        refine ⟨2, by decide, _, r_join_720 (m := (f2, g2, (720, 336))) (n := x.1.1 2) S2.1 hj2 q4.2.2.2.2.1, ?_⟩
        intro m3 hP3
        obtain ⟨S3j, L3⟩ := hP3
        have hF3 : Fr [50232] (f2, g2, (720, 336)) m3 := S3j.2.2
        have hM3 := S3j.1
        have hc3 : m3.2.2 = (720, 336) := S3j.2.1
        obtain ⟨f3, g3, c3⟩ := m3
        obtain rfl : c3 = (720, 336) := hc3
        have S4 : St [25769803782, 30064771078] (f3, g3, (720, 336)) (sI (sI (f3, g3, (720, 336)) 6 5 0) 6 6 0) := ((St.rf hM3).fld (a := 6) (k := 5) (v := 0) (by decide) (by decide) (by decide) (fun _ q => by omega)).fld (a := 6) (k := 6) (v := 0) (by decide) (by decide) (by decide) (fun _ q => by omega)
        (conv => whnf)
        refine ⟨1, by decide, _, r_fgt (m := sI (sI (f3, g3, (720, 336)) 6 5 0) 6 6 0), ?_⟩
        intro m5 hm5
        have S5 : St [25769803782, 30064771078, 60129542193] (f3, g3, (720, 336)) m5 := by
          rw [hm5]
          exact (S4.wd5 (by decide)).fld (a := 49) (k := 13) (v := 0) (by decide) (by decide) (by decide) (fun _ q => by omega)
        have hF5 : Fr [60129542193] (sI (sI (f3, g3, (720, 336)) 6 5 0) 6 6 0) m5 := by
          rw [hm5]
          exact Fr_sI (Fr_rfl _ _) (by decide) (fun _ z => by omega)
        have z13 : gI m5 49 13 = 0 := by rw [hm5, gI_if, if_pos ⟨rfl, rfl⟩]
        have F25 : Fr [25769803782, 30064771078, 60129542193] (f3, g3, (720, 336)) m5 := Fr_tr (Fr_tr (Fr_rfl _ _) S4.2.2 (by decide)) hF5 (by decide)
        have L5 : LbC 720 (x.1.1 2) m5 := L3.fr hk F25 (by decide +kernel)
        have F35 : Fr [50232, 25769803782, 30064771078, 60129542193] (f2, g2, (720, 336)) m5 := Fr_tr (Fr_tr (Fr_tr (Fr_rfl _ _) hF3 (by decide)) S4.2.2 (by decide)) hF5 (by decide)
        refine ⟨S5.1, Or.inr ⟨⟨by omega, h2⟩, (fr1 F35 (by decide)).trans y2, Or.inr ⟨x, hR, q1, (fr1 F35 (by decide)).trans q2, (fr1 F35 (by decide)).trans q3, S5.2.1, BkI.fr (m := (f2, g2, (720, 336))) q4 hk F35 (by decide), (fr1 hF5 (by decide)).trans rfl, (fr1 hF5 (by decide)).trans rfl, (fr1 F35 (by decide)).trans ((fr1 S2.2.2 (by decide)).trans y4), L5, z13, ?_⟩⟩⟩
        exact Fr_tr (W := wB2A) (Fr_tr (Fr_rfl _ _) (Fr_bk (c := (720, 336)) hF2) (fun x hx => List.mem_append_right _ hx)) F35 (by decide)
    · have h2 : ¬ n ≤ gI (f, g, (336, 720)) 19 1 := h2
      rw [le_i] at h2
      exact ⟨hM, Or.inl ⟨by omega, rfl, rfl⟩⟩
end Bk
