/-! flowBy: the least along the way, the turns, the filling; flow -/
theorem rowEq {W : List Nat} {m m' : MM} {a k : Nat} (h : Fr W m m') (h8 : Nat.ble 8 (a % 16) = true) (hW : ¬ a ∈ W) : gI m' a k = gI m a k := (h.1 a k (by rw [wk_row h8]; exact hW)).1
section Fm
variable {m : MM} {fm wt : Int32}
set_option maxRecDepth 100000 in
set_option maxHeartbeats 4000000 in
theorem flMin {m2 : MM} {al : Int32} {pos : Nat → Nat} (hS : St wFl m m2) (h81 : gI m2 337448 81 ≠ -1) (ht : ∀ v, v < 82 → gI m2 337448 v ≠ -1 → v ≠ 80 → gI m2 337448 (gI m2 337448 v).toInt.toNat ≠ -1 ∧ pos (gI m2 337448 v).toInt.toNat < pos v ∧ gI m2 27543064 (82 * (gI m2 337448 v).toInt.toNat + v) ≠ 0) (hG : GF m2)
    (hgo : ∀ (m4 : MM) (al l x : Int32), St wFl m m4 → GF m4 → srcS m4 < srcS m2 → At (E0 3) mX7_flowBy (qi (QF m)) 187 [.ref 1175, .int fm, .int wt, .int al, .int l, .int x] [] m4) :
    ∀ (n i : Nat) (x lst : Int32), pos (pth m2 i) = n → (∀ j, j < i → pth m2 j ≠ 80) → x.toInt = (pth m2 i : Int) → 1 ≤ lst.toInt → (∀ j, j < i → lst.toInt ≤ Lf m2 (edg m2 j)) → At (E0 3) mX7_flowBy (qi (QF m)) 202 [.ref 1175, .int fm, .int wt, .int al, .int lst, .int x] [] m2 := by
  have e80 : (80 : Int32).toInt = 80 := rfl
  intro n
  induction n using Nat.strongRecOn with
  | ind n ih =>
    intro i x lst hn h0 hx l1 hed
    obtain ⟨p1, p2, p3⟩ := pth_ok hS.1 h81 ht i h0
    have hyr : (-1 : Int) ≤ (gI m2 337448 (pth m2 i)).toInt ∧ (gI m2 337448 (pth m2 i)).toInt ≤ 81 := hS.1.1 337448 _
    have hy0 : 0 ≤ (gI m2 337448 (pth m2 i)).toInt := by
      rcases (show (gI m2 337448 (pth m2 i)).toInt = -1 ∨ 0 ≤ (gI m2 337448 (pth m2 i)).toInt by omega) with q | q
      · exact absurd (Int32.toInt_inj.mp (show _ = (-1 : Int32).toInt from q)) p2
      · exact q
    have xn : x.toNatClampNeg = pth m2 i := by show x.toInt.toNat = _; omega
    have hy : gI m2 337448 x.toNatClampNeg = gI m2 337448 (pth m2 i) := by rw [xn]
    have hyn : (gI m2 337448 (pth m2 i)).toInt.toNat = pth m2 (i + 1) := rfl
    have i1 := idx (x := x) (y := gI m2 337448 x.toNatClampNeg) (by omega) (by omega) (by rw [hy]; omega) (by rw [hy]; omega)
    have n1 : (82 * gI m2 337448 x.toNatClampNeg + x).toNatClampNeg = edg m2 i := by
      rw [i1.2, hy, hyn]
      unfold edg
      omega
    have y0 : 0 ≤ (gI m2 337448 x.toNatClampNeg).toInt ∧ (gI m2 337448 x.toNatClampNeg).toInt ≤ 81 := by rw [hy]; exact ⟨hy0, hyr.2⟩
    refine At.ls okX7_flowBy 80 ⟨_, _, rfl⟩ ?_
    (conv => whnf)
    refine And.intro (fun h => ?_) (fun h => ?_)
    · have hN : pth m2 i = 80 := by have := congrArg Int32.toInt h; rw [e80] at this; omega
      have hi0 : i ≠ 0 := fun q => by rw [q] at hN; exact absurd (show 81 = 80 from hN) (by decide)
      (conv => whnf)
      refine And.intro rfl (flSend (pos := pos) hS.1 h81 ht l1 h0 hN (fun m4 x4 s4 g4 r4 => hgo m4 _ _ x4 s4 g4 (by omega)) _ 0 81 m2 rfl (Nat.zero_le _) rfl hS (fun _ => rfl) hG (fun j _ hj => hed j hj) ?_)
      rw [if_neg (fun q => hi0 q.symm), Int.sub_zero]
    · have h80 : pth m2 i ≠ 80 := fun q => h (Int32.toInt_inj.mp (by rw [e80]; omega))
      obtain ⟨k1, k2, k3⟩ := ht _ p1 p2 h80
      have le0 := hG.1 (edg m2 i) (by unfold edg; rw [← hyn]; omega)
      have lne : Lf m2 (edg m2 i) ≠ 0 := fun q => k3 (Int32.toInt_inj.mp q)
      (conv => whnf)
      refine And.intro (vp_in_iff.mpr ⟨by omega, by omega⟩) ?_
      (conv => whnf)
      refine And.intro (vp_in_iff.mpr ⟨show 0 ≤ (82 * gI m2 337448 x.toNatClampNeg + x).toInt by omega, show (82 * gI m2 337448 x.toNatClampNeg + x).toInt < _ by omega⟩) ?_
      (conv => whnf)
      refine And.intro (vp_in_iff.mpr ⟨by omega, by omega⟩) ?_
      (conv => whnf)
      have ev : (gI m2 27543064 (82 * gI m2 337448 x.toNatClampNeg + x).toNatClampNeg).toInt = Lf m2 (edg m2 i) := by rw [n1]; rfl
      refine And.intro rfl (ih _ (by rw [← hn]; exact k2) (i + 1) (gI m2 337448 x.toNatClampNeg) (if gI m2 27543064 (82 * gI m2 337448 x.toNatClampNeg + x).toNatClampNeg < lst then gI m2 27543064 (82 * gI m2 337448 x.toNatClampNeg + x).toNatClampNeg else lst) rfl (fun j hj => ?_) (by rw [hy]; omega) ?_ (fun j hj => ?_))
      · by_cases q : j = i
        · rw [q]; exact h80
        · exact h0 j (by omega)
      · split
        · omega
        · exact l1
      · have hlt := @lt_i (gI m2 27543064 (82 * gI m2 337448 x.toNatClampNeg + x).toNatClampNeg) lst
        by_cases q : j = i
        · subst q
          split
          · omega
          · rename_i hh
            rw [hlt] at hh
            omega
        · have := hed j (by omega)
          split
          · rename_i hh
            rw [hlt] at hh
            omega
          · exact this
set_option maxRecDepth 100000 in
set_option maxHeartbeats 4000000 in
theorem flMain : ∀ (n : Nat) (al : Int32) (w4 w5 : Value) (m1 : MM), (srcS m1).toNat = n → St wFl m m1 → GF m1 → At (E0 3) mX7_flowBy (qi (QF m)) 187 [.ref 1175, .int fm, .int wt, .int al, w4, w5] [] m1 := by
  intro n
  induction n using Nat.strongRecOn with
  | ind n ih =>
    intro al w4 w5 m1 hn hS hG
    refine At.ls okX7_flowBy 80 ⟨_, _, rfl⟩ ?_
    (conv => whnf)
    refine ⟨1, by decide, _, hpReaches hS.1, ?_⟩
    rintro r m2 ⟨hS2, hT⟩
    have hS3 : St wFl m m2 := ⟨hS2.1, hS2.2.1.trans hS.2.1, Fr_tr hS.2.2 hS2.2.2 (by decide)⟩
    have lf : ∀ k, Lf m2 k = Lf m1 k := fun k => by unfold Lf; rw [rowEq hS2.2.2 rfl (by decide)]
    have hG2 : GF m2 := ⟨fun k hk => by rw [lf]; exact hG.1 k hk, fun u v hu hv huv => by rw [lf, lf]; exact hG.2 u v hu hv huv⟩
    have hs2 : srcS m2 = srcS m1 := sm_same 82 (fun w _ => lf _)
    (conv => whnf)
    refine And.intro (fun h => ?_) (fun h => ?_)
    · exact hS3
    · obtain ⟨h81, pos, ht⟩ := hT h
      (conv => whnf)
      refine And.intro rfl (flMin (pos := pos) hS3 h81 ht hG2 (fun m4 al4 l4 x4 s4 g4 r4 => ?_) _ 0 81 999999 rfl (fun j hj => absurd hj (Nat.not_lt_zero _)) rfl (by decide) (fun j hj => absurd hj (Nat.not_lt_zero _)))
      have nn : 0 ≤ srcS m4 := sm_nn 82 (fun w hw => g4.1 _ (by omega))
      exact ih _ (by omega) al4 _ _ m4 rfl s4 g4
end Fm
theorem mulc {x c : Int32} {n : Int} (hc : c.toInt = n) (h1 : -2147483648 ≤ n * x.toInt) (h2 : n * x.toInt ≤ 2147483647) : (c * x).toInt = n * x.toInt := by
  have := tI_mul (x := c) (y := x) (by rw [hc]; exact h1) (by rw [hc]; exact h2)
  rw [this, hc]
section Ff
variable {m : MM} {fm wt : Int32} {c : Nat × Nat}
set_option maxRecDepth 100000 in
set_option maxHeartbeats 4000000 in
/-- the inner filling loop -/
theorem flIn (hc : c = cA ∨ c = cB) (hb : m.2.2 = c) (f0 : 0 ≤ fm.toInt) (f1 : fm.toInt ≤ 11) (w0 : 0 ≤ wt.toInt) (w1 : wt.toInt ≤ 3) (s : Int32) (s0 : 0 ≤ s.toInt) (s1 : s.toInt ≤ 39) (hgo : ∀ (x : Value) (y : Value) (m1 : MM), St wFl m m1 → FB m1 → At (E0 3) mX7_flowBy (qi (QF m)) 26 [.ref 1175, .int fm, .int wt, .int (s + 1), x, y] [] m1) :
    ∀ (n : Nat) (b : Int32) (w5 : Value) (m1 : MM), (40 - b.toInt).toNat = n → 0 ≤ b.toInt → St wFl m m1 → FB m1 → At (E0 3) mX7_flowBy (qi (QF m)) 126 [.ref 1175, .int fm, .int wt, .int s, .int b, w5] [] m1 := by
  have e40 := addc (x := s) (c := 40) (n := 40) rfl (by omega) (by omega)
  have step : ∀ (b : Int32) (w5 : Value) (m1 : MM), 0 ≤ b.toInt → St wFl m m1 → FB m1 → (b.toInt < 40 → ∀ m2, St wFl m m2 → FB m2 → At (E0 3) mX7_flowBy (qi (QF m)) 126 [.ref 1175, .int fm, .int wt, .int s, .int (b + 1), w5] [] m2) → At (E0 3) mX7_flowBy (qi (QF m)) 126 [.ref 1175, .int fm, .int wt, .int s, .int b, w5] [] m1 := by
    intro b w5 m1 b0 hS hF hnx
    have hsz : (0 : Int) ≤ (gI m1 1175 6).toInt ∧ (gI m1 1175 6).toInt ≤ 40 := hS.1.1 1175 6
    refine At.ls okX7_flowBy 80 ⟨_, _, rfl⟩ ?_
    (conv => whnf)
    refine And.intro (fun h => ?_) (fun h => ?_)
    · (conv => whnf)
      exact And.intro rfl (hgo _ _ m1 hS hF)
    · have h : ¬ gI m1 1175 6 ≤ b := h
      rw [le_i] at h
      (conv => whnf)
      refine ⟨1, by decide, _, SafeC.ci (sfX7_counts c hc ([(2, 1175, 0), (0, 0, 39), (0, 0, 3)], 1, [((0, 0, 0), [], []), ((0, 1, 1), [], [])], [], []) (by unfold csX7_counts; decide)) (by decide) ⟨rfl, ⟨b, rfl, b0, by show _ ≤ (39 : Int); omega⟩, ⟨wt, rfl, w0, w1⟩, trivial⟩ hS.1 (hS.2.1.trans hb) noPre, ?_⟩
      intro r m2 hP
      have hS2 := hS.call hP (fun _ q => by cases q)
      have hF2 : FB m2 := fun k hk => by unfold Lf; rw [rowEq hP.2.2.1 rfl (fun q => by cases q)]; exact hF k hk
      (conv => whnf)
      refine And.intro (fun h2 => ?_) (fun h2 => ?_)
      · (conv => whnf)
        exact And.intro rfl (hnx (by omega) m2 hS2 hF2)
      · (conv => whnf)
        refine ⟨1, by decide, _, SafeC.ci (sfX7_mayHand c hc ([(2, 1175, 0), (0, 0, 39), (0, 0, 39), (0, 0, 11)], 1, [((0, 0, 0), [], []), ((0, 1, 1), [], [])], [], []) (by unfold csX7_mayHand; decide)) (by decide) ⟨rfl, ⟨s, rfl, s0, s1⟩, ⟨b, rfl, b0, by show _ ≤ (39 : Int); omega⟩, ⟨fm, rfl, f0, f1⟩, trivial⟩ hS2.1 (hS2.2.1.trans hb) noPre, ?_⟩
        intro r3 m3 hP3
        have hS3 := hS2.call hP3 (fun _ q => by cases q)
        have hF3 : FB m3 := fun k hk => by unfold Lf; rw [rowEq hP3.2.2.1 rfl (fun q => by cases q)]; exact hF2 k hk
        (conv => whnf)
        refine And.intro (fun h3 => ?_) (fun h3 => ?_)
        · (conv => whnf)
          exact And.intro rfl (hnx (by omega) m3 hS3 hF3)
        · have e40' : (40 + s).toInt = 40 + s.toInt := by rw [Int32.add_comm, e40]; omega
          have em := mulc (x := 40 + s) (c := 82) (n := 82) rfl (by omega) (by omega)
          have ea : (82 * (40 + s) + b).toInt = 82 * (40 + s.toInt) + b.toInt := by
            have := tI_add (x := 82 * (40 + s)) (y := b) (by unfold i32lo; omega) (by unfold i32hi; omega)
            omega
          (conv => whnf)
          refine And.intro (vp_in_iff.mpr ⟨by omega, by omega⟩) ?_
          (conv => whnf)
          exact And.intro rfl (hnx (by omega) _ hS3.lrow (FB_set hF3 (by decide) (by decide)))
  intro n
  induction n with
  | zero =>
    intro b w5 m1 hn b0 hS hF
    exact step b w5 m1 b0 hS hF (fun h => by omega)
  | succ n ih =>
    intro b w5 m1 hn b0 hS hF
    exact step b w5 m1 b0 hS hF (fun h m2 hS2 hF2 => ih (b + 1) w5 m2 (by rw [inc1 (by omega)]; omega) (by rw [inc1 (by omega)]; omega) hS2 hF2)
set_option maxRecDepth 100000 in
set_option maxHeartbeats 4000000 in
/-- the outer filling loop -/
theorem flFill (hc : c = cA ∨ c = cB) (hb : m.2.2 = c) (f0 : 0 ≤ fm.toInt) (f1 : fm.toInt ≤ 11) (w0 : 0 ≤ wt.toInt) (w1 : wt.toInt ≤ 3) :
    ∀ (n : Nat) (s : Int32) (x y : Value) (m1 : MM), (40 - s.toInt).toNat = n → 0 ≤ s.toInt → St wFl m m1 → FB m1 → At (E0 3) mX7_flowBy (qi (QF m)) 26 [.ref 1175, .int fm, .int wt, .int s, x, y] [] m1 := by
  have step : ∀ (s : Int32) (x y : Value) (m1 : MM), 0 ≤ s.toInt → St wFl m m1 → FB m1 → (s.toInt < 40 → ∀ (x y : Value) (m2 : MM), St wFl m m2 → FB m2 → At (E0 3) mX7_flowBy (qi (QF m)) 26 [.ref 1175, .int fm, .int wt, .int (s + 1), x, y] [] m2) → At (E0 3) mX7_flowBy (qi (QF m)) 26 [.ref 1175, .int fm, .int wt, .int s, x, y] [] m1 := by
    intro s x y m1 s0 hS hF hnx
    have hsz : (0 : Int) ≤ (gI m1 1175 6).toInt ∧ (gI m1 1175 6).toInt ≤ 40 := hS.1.1 1175 6
    refine At.ls okX7_flowBy 80 ⟨_, _, rfl⟩ ?_
    (conv => whnf)
    refine And.intro (fun h => ?_) (fun h => ?_)
    · (conv => whnf)
      exact And.intro rfl (flMain _ 0 _ _ m1 rfl hS hF.gf)
    · have h : ¬ gI m1 1175 6 ≤ s := h
      rw [le_i] at h
      (conv => whnf)
      refine ⟨1, by decide, _, SafeC.ci (sfX7_counts c hc ([(2, 1175, 0), (0, 0, 39), (0, 0, 3)], 1, [((0, 0, 0), [], []), ((0, 1, 1), [], [])], [], []) (by unfold csX7_counts; decide)) (by decide) ⟨rfl, ⟨s, rfl, s0, by show _ ≤ (39 : Int); omega⟩, ⟨wt, rfl, w0, w1⟩, trivial⟩ hS.1 (hS.2.1.trans hb) noPre, ?_⟩
      intro r m2 hP
      have hS2 := hS.call hP (fun _ q => by cases q)
      have hF2 : FB m2 := fun k hk => by unfold Lf; rw [rowEq hP.2.2.1 rfl (fun q => by cases q)]; exact hF k hk
      have e1 := mulc (x := s) (c := 82) (n := 82) rfl (by omega) (by omega)
      have e2 : (82 * s + 40).toInt = 82 * s.toInt + 40 := by
        have := addc (x := 82 * s) (c := 40) (n := 40) rfl (by omega) (by omega)
        omega
      have e3 : (82 * s + 40 + s).toInt = 83 * s.toInt + 40 := by
        have := tI_add (x := 82 * s + 40) (y := s) (by unfold i32lo; omega) (by unfold i32hi; omega)
        omega
      have e4 : (6560 + s).toInt = 6560 + s.toInt := by
        have e0 : (6560 : Int32).toInt = 6560 := rfl
        have := tI_add (x := 6560) (y := s) (by unfold i32lo; omega) (by unfold i32hi; omega)
        omega
      have e40' : (40 + s).toInt = 40 + s.toInt := by
        have e0 : (40 : Int32).toInt = 40 := rfl
        have := tI_add (x := 40) (y := s) (by unfold i32lo; omega) (by unfold i32hi; omega)
        omega
      have em := mulc (x := 40 + s) (c := 82) (n := 82) rfl (by omega) (by omega)
      have e5 : (82 * (40 + s) + 81).toInt = 82 * (40 + s.toInt) + 81 := by
        have := addc (x := 82 * (40 + s)) (c := 81) (n := 81) rfl (by omega) (by omega)
        omega
      have nu : ∀ (m9 : MM), St wFl m m9 → (0 : Int) ≤ (gI m9 329080 s.toNatClampNeg).toInt ∧ (gI m9 329080 s.toNatClampNeg).toInt ≤ 999 := fun m9 h9 => h9.1.1 329080 _
      have put : ∀ (m9 : MM) (k : Nat) (v : Int32), (0 : Int) ≤ v.toInt ∧ v.toInt ≤ 999 → St wFl m m9 → FB m9 → St wFl m (sI m9 27543064 k v) ∧ FB (sI m9 27543064 k v) := fun m9 k v hv h9 f9 => ⟨h9.lrow, FB_set f9 hv.1 (by omega)⟩
      (conv => whnf)
      refine And.intro (fun h2 => ?_) (fun h2 => ?_)
      · (conv => whnf)
        refine And.intro (vp_in_iff.mpr ⟨by omega, by omega⟩) ?_
        (conv => whnf)
        refine And.intro (vp_in_iff.mpr ⟨by omega, by omega⟩) ?_
        obtain ⟨hS3, hF3⟩ := put m2 (82 * s + 40 + s).toNatClampNeg (gI m2 329080 s.toNatClampNeg) (nu m2 hS2) hS2 hF2
        generalize sI m2 27543064 (82 * s + 40 + s).toNatClampNeg (gI m2 329080 s.toNatClampNeg) = m3 at hS3 hF3 ⊢
        (conv => whnf)
        refine And.intro (vp_in_iff.mpr ⟨by omega, by omega⟩) ?_
        (conv => whnf)
        refine And.intro (fun _ => ?_) (fun _ => ?_)
        · (conv => whnf)
          refine And.intro (vp_in_iff.mpr ⟨by omega, by omega⟩) ?_
          (conv => whnf)
          refine And.intro (fun _ => ?_) (fun _ => ?_)
          · (conv => whnf)
            exact And.intro rfl (flIn hc hb f0 f1 w0 w1 s s0 (by omega) (hnx (by omega)) _ 0 _ m3 rfl (by decide) hS3 hF3)
          · (conv => whnf)
            refine And.intro (vp_in_iff.mpr ⟨by omega, by omega⟩) ?_
            (conv => whnf)
            refine And.intro (vp_in_iff.mpr ⟨by omega, by omega⟩) ?_
            obtain ⟨hS4, hF4⟩ := put m3 (82 * (40 + s) + 81).toNatClampNeg (gI m3 329080 s.toNatClampNeg) (nu m3 hS3) hS3 hF3
            (conv => whnf)
            exact And.intro rfl (flIn hc hb f0 f1 w0 w1 s s0 (by omega) (hnx (by omega)) _ 0 _ _ rfl (by decide) hS4 hF4)
        · (conv => whnf)
          refine And.intro (vp_in_iff.mpr ⟨by omega, by omega⟩) ?_
          (conv => whnf)
          refine And.intro (vp_in_iff.mpr ⟨by omega, by omega⟩) ?_
          obtain ⟨hS5, hF5⟩ := put m3 (6560 + s).toNatClampNeg (gI m3 329080 s.toNatClampNeg) (nu m3 hS3) hS3 hF3
          generalize sI m3 27543064 (6560 + s).toNatClampNeg (gI m3 329080 s.toNatClampNeg) = m5 at hS5 hF5 ⊢
          (conv => whnf)
          refine And.intro (vp_in_iff.mpr ⟨by omega, by omega⟩) ?_
          (conv => whnf)
          refine And.intro (fun _ => ?_) (fun _ => ?_)
          · (conv => whnf)
            exact And.intro rfl (flIn hc hb f0 f1 w0 w1 s s0 (by omega) (hnx (by omega)) _ 0 _ m5 rfl (by decide) hS5 hF5)
          · (conv => whnf)
            refine And.intro (vp_in_iff.mpr ⟨by omega, by omega⟩) ?_
            (conv => whnf)
            refine And.intro (vp_in_iff.mpr ⟨by omega, by omega⟩) ?_
            obtain ⟨hS4, hF4⟩ := put m5 (82 * (40 + s) + 81).toNatClampNeg (gI m5 329080 s.toNatClampNeg) (nu m5 hS5) hS5 hF5
            (conv => whnf)
            exact And.intro rfl (flIn hc hb f0 f1 w0 w1 s s0 (by omega) (hnx (by omega)) _ 0 _ _ rfl (by decide) hS4 hF4)
      · (conv => whnf)
        exact And.intro rfl (hnx (by omega) _ _ m2 hS2 hF2)
  intro n
  induction n with
  | zero =>
    intro s x y m1 hn s0 hS hF
    exact step s x y m1 s0 hS hF (fun h => by omega)
  | succ n ih =>
    intro s x y m1 hn s0 hS hF
    exact step s x y m1 s0 hS hF (fun h x2 y2 m2 hS2 hF2 => ih (s + 1) x2 y2 m2 (by rw [inc1 (by omega)]; omega) (by rw [inc1 (by omega)]; omega) hS2 hF2)
set_option maxRecDepth 100000 in
set_option maxHeartbeats 4000000 in
theorem flZero (hc : c = cA ∨ c = cB) (hb : m.2.2 = c) (f0 : 0 ≤ fm.toInt) (f1 : fm.toInt ≤ 11) (w0 : 0 ≤ wt.toInt) (w1 : wt.toInt ≤ 3) :
    ∀ (n : Nat) (k : Int32) (m1 : MM), (6724 - k.toInt).toNat = n → 0 ≤ k.toInt → k.toInt ≤ 6724 → St wFl m m1 → (∀ j : Nat, (j : Int) < k.toInt → gI m1 27543064 j = 0) → At (E0 3) mX7_flowBy (qi (QF m)) 2 [.ref 1175, .int fm, .int wt, .int k, .null, .null] [] m1 := by
  intro n
  induction n with
  | zero =>
    intro k m1 hn k0 k1 hS hall
    refine At.ls okX7_flowBy 80 ⟨_, _, rfl⟩ ?_
    (conv => whnf)
    refine And.intro (fun h => ?_) (fun h => absurd (le_i.mpr (show (6724 : Int) ≤ _ by omega)) h)
    (conv => whnf)
    refine And.intro rfl (flFill hc hb f0 f1 w0 w1 _ 0 _ _ m1 rfl (by decide) hS (fun j hj => ?_))
    unfold Lf
    rw [hall j (by omega)]
    decide
  | succ n ih =>
    intro k m1 hn k0 k1 hS hall
    refine At.ls okX7_flowBy 80 ⟨_, _, rfl⟩ ?_
    (conv => whnf)
    refine And.intro (fun h => absurd (show (6724 : Int) ≤ k.toInt from le_i.mp h) (by omega)) (fun h => ?_)
    (conv => whnf)
    refine And.intro (vp_in_iff.mpr ⟨by omega, by omega⟩) ?_
    (conv => whnf)
    refine And.intro rfl (ih (k + 1) _ (by rw [inc1 (by omega)]; omega) (by rw [inc1 (by omega)]; omega) (by rw [inc1 (by omega)]; omega) hS.lrow (fun j hj => ?_))
    rw [inc1 (by omega)] at hj
    rw [gI_sI]
    by_cases q : j = k.toNatClampNeg
    · rw [if_pos ⟨rfl, q⟩]
    · rw [if_neg (fun z => q z.2)]
      have q : j ≠ k.toInt.toNat := q
      exact hall j (by omega)
set_option maxRecDepth 100000 in
theorem hpFlowBy (hc : c = cA ∨ c = cB) (hb : m.2.2 = c) (hM : Mok TYg m) (f0 : 0 ≤ fm.toInt) (f1 : fm.toInt ≤ 11) (w0 : 0 ≤ wt.toInt) (w1 : wt.toInt ≤ 3) : CI 3 mX7_flowBy [.ref 1175, .int fm, .int wt] m (QF m) := by
  refine At.gs okX7_flowBy 80 ?_
  (conv => whnf)
  exact And.intro rfl (flZero hc hb f0 f1 w0 w1 _ 0 m rfl (by decide) (by decide) (St.rf hM) (fun j hj => by have : (0 : Int32).toInt = 0 := rfl; omega))
end Ff
def wFw : List Nat := 4294968471 :: wFl
def acFlow7 : AC := ([(2, 1175, 0), (0, -2147483648, 2147483647), (0, -2147483648, 2147483647)], 5, [((0, -2147483648, 2147483647), [], [])], wFw, [])
theorem fwEnd {m m' : MM} {as : List Value} {r : Int32} (h : St wFw m m') : PC TYg acFlow7 m as (some (.int r)) m' :=
  ⟨h.1, h.2.1, h.2.2, _, List.mem_singleton.mpr rfl, ⟨by decide, top_in⟩, (fun _ h => by cases h), (fun _ h => by cases h)⟩
set_option maxRecDepth 100000 in
set_option maxHeartbeats 4000000 in
theorem hpFlow7 (c : Nat × Nat) (hc : c = cA ∨ c = cB) : SafeC TYg c mX7_flow acFlow7 := by
  intro as m hF hM hb _
  match as, hF with
  | [x0, x1, x2], hF =>
   obtain ⟨e0, ⟨fm, rfl, -⟩, ⟨wt, rfl, -⟩, _⟩ := hF
   have e0 : x0 = .ref 1175 := e0
   subst e0
   have hS0 : St wFw m (sI m 1175 0 0) := (St.rf hM).fld (by decide) (by decide) (by decide) (fun _ q => by omega)
   refine At.gs okX7_flow 60 ?_
   (conv => whnf)
   refine ⟨1, by decide, _, SafeC.ci (sfX7_isFirm c hc _ (List.mem_singleton.mpr rfl)) (by decide) ⟨rfl, top_in, trivial⟩ hS0.1 (hS0.2.1.trans hb) noPre, ?_⟩
   intro r m2 hP
   have hS2 := hS0.call hP (fun _ q => by cases q)
   have hg : (0 : Int) ≤ (gI m2 1175 4).toInt ∧ (gI m2 1175 4).toInt ≤ 4 := hS2.1.1 1175 4
   have e0 : (0 : Int32).toInt = 0 := rfl
   (conv => whnf)
   refine And.intro (fun _ => fwEnd hS2) (fun h => ?_)
   have hfm : 0 ≤ fm.toInt ∧ fm.toInt ≤ 11 := by
     obtain ⟨-, -, -, o, ho, oo1, oo2, oo3⟩ := hP
     rcases List.mem_cons.mp ho with rfl | ho
     · obtain ⟨i, ei, g1, g2⟩ := oo1.2
       cases ei
       exact absurd (Int32.toInt_inj.mp (show r.toInt = (0 : Int32).toInt by simp only at g1 g2; omega)) h
     · rw [List.mem_singleton.mp ho] at oo3
       exact oo3 (1, (0, 11)) (List.mem_singleton.mpr rfl) fm rfl
   (conv => whnf)
   refine And.intro (fun _ => fwEnd hS2) (fun h2 => ?_)
   rw [lt_i] at h2
   (conv => whnf)
   refine And.intro (fun h3 => ?_) (fun _ => fwEnd hS2)
   have h3 : wt < gI m2 1175 4 := h3
   rw [lt_i] at h3
   (conv => whnf)
   refine ⟨3, by decide, _, hpFlowBy hc (hS2.2.1.trans hb) hS2.1 hfm.1 hfm.2 (by omega) (by omega), ?_⟩
   intro r3 m3 hQ
   exact fwEnd ⟨hQ.1, hQ.2.1.trans hS2.2.1, Fr_tr hS2.2.2 hQ.2.2 (by decide)⟩
