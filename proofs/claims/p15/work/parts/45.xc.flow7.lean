/-! flowBy of the model by values: what is sent is a flow -/
def gM (c : Nat → Nat → Int) (m : MM) : Nat → Nat → Int := fun u v => c u v - Lf m (82 * u + v)
def QFV (c : Nat → Nat → Int) (m : MM) : Int32 → MM → Prop := fun r m' => St wFl m m' ∧ FlO c r.toInt
theorem WyI_cg {c g0 g g' : Nat → Nat → Int} {v : Nat} {d : Int} (h : WyI c g0 g v d) (e : ∀ u v, u < 82 → v < 82 → g' u v = g u v) : WyI c g0 g' v d := by
  refine ⟨fun a b ha hb => by rw [e a b ha hb, e b a hb ha]; exact h.1 a b ha hb, fun a b ha hb => by rw [e a b ha hb]; exact h.2.1 a b ha hb, fun a ha => ?_⟩
  rw [sm_same (f := fun w => g a w) (g := fun w => g' a w) 82 (fun w hw => e a w ha hw)]
  exact h.2.2 a ha
theorem NF_cg {c g g' : Nat → Nat → Int} (h : NF c g) (e : ∀ u v, u < 82 → v < 82 → g' u v = g u v) : NF c g' ∧ nvl g' = nvl g := by
  refine ⟨⟨fun a b ha hb => by rw [e a b ha hb, e b a hb ha]; exact h.1 a b ha hb, fun a b ha hb => by rw [e a b ha hb]; exact h.2.1 a b ha hb, fun a ha => ?_⟩, sm_same 82 (fun w hw => e 80 w (by decide) hw)⟩
  rw [sm_same (f := fun w => g a w) (g := fun w => g' a w) 82 (fun w hw => e a w (by omega) hw)]
  exact h.2.2 a ha
theorem nvl_le {c g : Nat → Nat → Int} (h : NF c g) : nvl g ≤ sm (fun v => c 80 v) 82 := sm_le 82 (fun v hv => h.2.1 80 v (by decide) hv)
theorem snd_all {m1 : MM} {u v : Nat} {lst : Int32} (hG : GF m1) (hu : u < 82) (hv : v < 82) (huv : u ≠ v) (l1 : 1 ≤ lst.toInt) (l2 : lst.toInt ≤ Lf m1 (82 * u + v)) :
    ∀ k, Lf (sI (sI m1 27543064 (82 * u + v) (gI m1 27543064 (82 * u + v) - lst)) 27543064 (82 * v + u) (gI m1 27543064 (82 * v + u) + lst)) k = if k = 82 * v + u then Lf m1 (82 * v + u) + lst.toInt else if k = 82 * u + v then Lf m1 (82 * u + v) - lst.toInt else Lf m1 k := by
  have hs := hG.2 u v hu hv huv
  have n1 := hG.1 (82 * u + v) (by omega)
  have n2 := hG.1 (82 * v + u) (by omega)
  have es : (gI m1 27543064 (82 * u + v) - lst).toInt = Lf m1 (82 * u + v) - lst.toInt := by
    unfold Lf at *
    exact tI_sub (by unfold i32lo; omega) (by unfold i32hi; omega)
  have ea : (gI m1 27543064 (82 * v + u) + lst).toInt = Lf m1 (82 * v + u) + lst.toInt := by
    unfold Lf at *
    exact tI_add (by unfold i32lo; omega) (by unfold i32hi; omega)
  intro k
  rw [Lf_sI, Lf_sI, es, ea]
theorem gM_snd {c : Nat → Nat → Int} {m m' : MM} {a b : Nat} {d : Int} (ha : a < 82) (hb : b < 82) (hab : a ≠ b) (h : ∀ k, Lf m' k = if k = 82 * b + a then Lf m (82 * b + a) + d else if k = 82 * a + b then Lf m (82 * a + b) - d else Lf m k) : ∀ u v, u < 82 → v < 82 → gM c m' u v = pce (gM c m) a b d u v := fun u v hu hv => by
  unfold pce gM
  rw [h]
  by_cases q1 : u = a ∧ v = b
  · obtain ⟨rfl, rfl⟩ := q1
    rw [if_neg (show ¬ 82 * u + v = 82 * v + u by omega), if_pos rfl, if_pos ⟨rfl, rfl⟩, if_neg (fun z => hab z.1)]
    omega
  · by_cases q2 : u = b ∧ v = a
    · obtain ⟨rfl, rfl⟩ := q2
      rw [if_pos rfl, if_neg q1, if_pos ⟨rfl, rfl⟩]
      omega
    · rw [if_neg (fun z => q2 (edge_inj hv ha z)), if_neg (fun z => q1 (edge_inj hv hb z)), if_neg q1, if_neg q2]
      omega
section Fq
variable {m : MM} {fm wt : Int32}
set_option maxRecDepth 100000 in
set_option maxHeartbeats 4000000 in
theorem fvSend {c : Nat → Nat → Int} {g0 : Nat → Nat → Int} {m2 : MM} {al lst : Int32} {N : Nat} {pos : Nat → Nat} (hM2 : Mok TYg m2) (h81 : gI m2 337448 81 ≠ -1) (ht : ∀ v, v < 82 → gI m2 337448 v ≠ -1 → v ≠ 80 → gI m2 337448 (gI m2 337448 v).toInt.toNat ≠ -1 ∧ pos (gI m2 337448 v).toInt.toNat < pos v ∧ gI m2 27543064 (82 * (gI m2 337448 v).toInt.toNat + v) ≠ 0)
    (l1 : 1 ≤ lst.toInt) (hN0 : ∀ j, j < N → pth m2 j ≠ 80) (hN : pth m2 N = 80) (hgo : ∀ (m4 : MM) (x : Int32), St wFl m m4 → GF m4 → srcS m4 = srcS m2 - lst.toInt → WyI c g0 (gM c m4) 80 lst.toInt → At (E0 3) mX7_flowBy (qi (QFV c m)) 187 [.ref 1175, .int fm, .int wt, .int (al + lst), .int lst, .int x] [] m4) :
    ∀ (n i : Nat) (x : Int32) (m3 : MM), N - i = n → i ≤ N → x.toInt = (pth m2 i : Int) → St wFl m m3 → (∀ w, gI m3 337448 w = gI m2 337448 w) → GF m3 → (∀ j, i ≤ j → j < N → lst.toInt ≤ Lf m3 (edg m2 j)) → srcS m3 = srcS m2 - (if i = N then lst.toInt else 0) → WyI c g0 (gM c m3) (pth m2 i) lst.toInt → At (E0 3) mX7_flowBy (qi (QFV c m)) 250 [.ref 1175, .int fm, .int wt, .int al, .int lst, .int x] [] m3 := by
  have e80 : (80 : Int32).toInt = 80 := rfl
  intro n
  induction n with
  | zero =>
    intro i x m3 hn hi hx hS hcb hG hed hsr hwy
    obtain rfl : i = N := by omega
    rw [hN] at hx hwy
    rw [if_pos rfl] at hsr
    refine At.ls okX7_flowBy 80 ⟨_, _, rfl⟩ ?_
    (conv => whnf)
    refine And.intro (fun h => ?_) (fun h => absurd (Int32.toInt_inj.mp (by rw [e80]; exact hx)) h)
    (conv => whnf)
    exact And.intro rfl (hgo m3 x hS hG hsr hwy)
  | succ n ih =>
    intro i x m3 hn hi hx hS hcb hG hed hsr hwy
    have hiN : i < N := by omega
    obtain ⟨p1, p2, p3⟩ := pth_ok hM2 h81 ht i (fun j hj => hN0 j (by omega))
    obtain ⟨r1, r2, r3⟩ := pth_ok hM2 h81 ht (i + 1) (fun j hj => hN0 j (by omega))
    have hne := hN0 i hiN
    have xn : x.toNatClampNeg = pth m2 i := by show x.toInt.toNat = _; omega
    have hy : gI m3 337448 x.toNatClampNeg = gI m2 337448 (pth m2 i) := by rw [xn, hcb]
    have hyr : (-1 : Int) ≤ (gI m2 337448 (pth m2 i)).toInt ∧ (gI m2 337448 (pth m2 i)).toInt ≤ 81 := hM2.1 337448 _
    have hy0 : 0 ≤ (gI m2 337448 (pth m2 i)).toInt := by
      rcases (show (gI m2 337448 (pth m2 i)).toInt = -1 ∨ 0 ≤ (gI m2 337448 (pth m2 i)).toInt by omega) with q | q
      · exact absurd (Int32.toInt_inj.mp (show _ = (-1 : Int32).toInt from q)) p2
      · exact q
    have hyn : (gI m2 337448 (pth m2 i)).toInt.toNat = pth m2 (i + 1) := rfl
    have huv : pth m2 (i + 1) ≠ pth m2 i := fun q => by have := r3 i (by omega); rw [q] at this; omega
    have i1 := idx (x := x) (y := gI m3 337448 x.toNatClampNeg) (by omega) (by omega) (by rw [hy]; omega) (by rw [hy]; omega)
    have i2 := idx (x := gI m3 337448 x.toNatClampNeg) (y := x) (by rw [hy]; omega) (by rw [hy]; omega) (by omega) (by omega)
    have x0 : 0 ≤ x.toInt ∧ x.toInt ≤ 81 := by omega
    have y0 : 0 ≤ (gI m3 337448 x.toNatClampNeg).toInt ∧ (gI m3 337448 x.toNatClampNeg).toInt ≤ 81 := by rw [hy]; exact ⟨hy0, hyr.2⟩
    have n1 : (82 * gI m3 337448 x.toNatClampNeg + x).toNatClampNeg = edg m2 i := by
      rw [i1.2, hy, hyn]
      unfold edg
      omega
    have n2 : (82 * x + gI m3 337448 x.toNatClampNeg).toNatClampNeg = 82 * pth m2 i + pth m2 (i + 1) := by
      rw [i2.2, hy, hyn]
      omega
    have hne12 : edg m2 i ≠ 82 * pth m2 i + pth m2 (i + 1) := by unfold edg; omega
    obtain ⟨g1, g2, g3⟩ := GF_send (m1 := m3) (u := pth m2 (i + 1)) (v := pth m2 i) (lst := lst) hG r1 p1 huv l1 (hed i (Nat.le_refl _) hiN)
    have hmem : sndM m3 (82 * gI m3 337448 x.toNatClampNeg + x).toNatClampNeg (82 * x + gI m3 337448 x.toNatClampNeg).toNatClampNeg lst = sI (sI m3 27543064 (82 * pth m2 (i + 1) + pth m2 i) (gI m3 27543064 (82 * pth m2 (i + 1) + pth m2 i) - lst)) 27543064 (82 * pth m2 i + pth m2 (i + 1)) (gI m3 27543064 (82 * pth m2 i + pth m2 (i + 1)) + lst) := by
      rw [n1, n2, sndM_eq hne12]
      rfl
    have gA := snd_all (m1 := m3) (u := pth m2 (i + 1)) (v := pth m2 i) (lst := lst) hG r1 p1 huv l1 (hed i (Nat.le_refl _) hiN)
    rw [← hmem] at g1 g2 g3 gA
    have hwy5 := WyI_cg (WyI_s (a := pth m2 (i + 1)) hwy r1 p1 (by omega) (by
      have h1 := hed i (Nat.le_refl _) hiN
      unfold edg at h1
      unfold gM
      omega) huv) (gM_snd (c := c) r1 p1 huv gA)
    have hS5 : St wFl m (sndM m3 (82 * gI m3 337448 x.toNatClampNeg + x).toNatClampNeg (82 * x + gI m3 337448 x.toNatClampNeg).toNatClampNeg lst) := hS.lrow.lrow
    have hcb5 : ∀ w, gI (sndM m3 (82 * gI m3 337448 x.toNatClampNeg + x).toNatClampNeg (82 * x + gI m3 337448 x.toNatClampNeg).toNatClampNeg lst) 337448 w = gI m2 337448 w := fun w => by
      unfold sndM
      rw [gI_sI, if_neg (fun q => absurd q.1 (by decide)), gI_sI, if_neg (fun q => absurd q.1 (by decide))]
      exact hcb w
    have hed5 : ∀ j, i + 1 ≤ j → j < N → lst.toInt ≤ Lf (sndM m3 (82 * gI m3 337448 x.toNatClampNeg + x).toNatClampNeg (82 * x + gI m3 337448 x.toNatClampNeg).toNatClampNeg lst) (edg m2 j) := fun j hj hjN => by
      obtain ⟨a1, a2, a3⟩ := pth_ok hM2 h81 ht j (fun z hz => hN0 z (by omega))
      obtain ⟨b1, b2, b3⟩ := pth_ok hM2 h81 ht (j + 1) (fun z hz => hN0 z (by omega))
      rw [g2 (edg m2 j) (fun q => ?_) (fun q => ?_)]
      · exact hed j (by omega) hjN
      · have := (edge_inj a1 p1 q).2
        have h3 := a3 i (by omega)
        rw [this] at h3
        omega
      · have := (edge_inj a1 r1 q).1
        have h3 := b3 i (by omega)
        rw [this] at h3
        omega
    have hsr5 : srcS (sndM m3 (82 * gI m3 337448 x.toNatClampNeg + x).toNatClampNeg (82 * x + gI m3 337448 x.toNatClampNeg).toNatClampNeg lst) = srcS m2 - (if i + 1 = N then lst.toInt else 0) := by
      rw [if_neg (by omega)] at hsr
      by_cases q : i + 1 = N
      · rw [if_pos q]
        have hu : pth m2 (i + 1) = 80 := by rw [q]; exact hN
        have := sm_upd (f := fun w => Lf m3 (6560 + w)) (g := fun w => Lf (sndM m3 (82 * gI m3 337448 x.toNatClampNeg + x).toNatClampNeg (82 * x + gI m3 337448 x.toNatClampNeg).toNatClampNeg lst) (6560 + w)) (v := pth m2 i) 82 (fun w hw hwv => g2 _ (by rw [hu]; omega) (by omega))
        rw [if_pos p1] at this
        rw [show 6560 + pth m2 i = 82 * pth m2 (i + 1) + pth m2 i by rw [hu], g3] at this
        unfold srcS at hsr ⊢
        omega
      · rw [if_neg q]
        have hu : pth m2 (i + 1) ≠ 80 := hN0 _ (by omega)
        unfold srcS at hsr ⊢
        rw [sm_same 82 (fun w hw => g2 _ (by omega) (by omega))]
        exact hsr
    have hx5 : (gI m3 337448 x.toNatClampNeg).toInt = (pth m2 (i + 1) : Int) := by rw [hy]; omega
    refine At.ls okX7_flowBy 80 ⟨_, _, rfl⟩ ?_
    (conv => whnf)
    refine And.intro (fun h => absurd (show (pth m2 i : Int) = 80 by have := congrArg Int32.toInt h; rw [e80] at this; omega) (by omega)) (fun h => ?_)
    (conv => whnf)
    refine And.intro (vp_in_iff.mpr ⟨by omega, by omega⟩) ?_
    (conv => whnf)
    refine And.intro (vp_in_iff.mpr ⟨show 0 ≤ (82 * gI m3 337448 x.toNatClampNeg + x).toInt by omega, show (82 * gI m3 337448 x.toNatClampNeg + x).toInt < _ by omega⟩) ?_
    (conv => whnf)
    refine And.intro (vp_in_iff.mpr ⟨show 0 ≤ (82 * gI m3 337448 x.toNatClampNeg + x).toInt by omega, show (82 * gI m3 337448 x.toNatClampNeg + x).toInt < _ by omega⟩) ?_
    (conv => whnf)
    refine And.intro (vp_in_iff.mpr ⟨by omega, by omega⟩) ?_
    (conv => whnf)
    refine And.intro (vp_in_iff.mpr ⟨show 0 ≤ (82 * x + gI m3 337448 x.toNatClampNeg).toInt by omega, show (82 * x + gI m3 337448 x.toNatClampNeg).toInt < _ by omega⟩) ?_
    (conv => whnf)
    refine And.intro (vp_in_iff.mpr ⟨show 0 ≤ (82 * x + gI m3 337448 x.toNatClampNeg).toInt by omega, show (82 * x + gI m3 337448 x.toNatClampNeg).toInt < _ by omega⟩) ?_
    (conv => whnf)
    refine And.intro (vp_in_iff.mpr ⟨by omega, by omega⟩) ?_
    (conv => whnf)
    exact And.intro rfl (ih (i + 1) (gI m3 337448 x.toNatClampNeg) (sndM m3 (82 * gI m3 337448 x.toNatClampNeg + x).toNatClampNeg (82 * x + gI m3 337448 x.toNatClampNeg).toNatClampNeg lst) (by omega) (by omega) hx5 hS5 hcb5 g1 hed5 hsr5 hwy5)
end Fq
section Fn
variable {m : MM} {fm wt : Int32} {c : Nat → Nat → Int}
set_option maxRecDepth 100000 in
set_option maxHeartbeats 4000000 in
theorem fvMin {m2 : MM} {al : Int32} {pos : Nat → Nat} (hS : St wFl m m2) (h81 : gI m2 337448 81 ≠ -1) (ht : ∀ v, v < 82 → gI m2 337448 v ≠ -1 → v ≠ 80 → gI m2 337448 (gI m2 337448 v).toInt.toNat ≠ -1 ∧ pos (gI m2 337448 v).toInt.toNat < pos v ∧ gI m2 27543064 (82 * (gI m2 337448 v).toInt.toNat + v) ≠ 0) (hG : GF m2) (hcap : sm (fun v => c 80 v) 82 ≤ 1000000) (hN7 : NF c (gM c m2)) (hA7 : nvl (gM c m2) = al.toInt) (al0 : 0 ≤ al.toInt)
    (hgo : ∀ (m4 : MM) (al l x : Int32), St wFl m m4 → GF m4 → srcS m4 < srcS m2 → NF c (gM c m4) → nvl (gM c m4) = al.toInt → 0 ≤ al.toInt → At (E0 3) mX7_flowBy (qi (QFV c m)) 187 [.ref 1175, .int fm, .int wt, .int al, .int l, .int x] [] m4) :
    ∀ (n i : Nat) (x lst : Int32), pos (pth m2 i) = n → (∀ j, j < i → pth m2 j ≠ 80) → x.toInt = (pth m2 i : Int) → 1 ≤ lst.toInt → lst.toInt ≤ 999999 → (∀ j, j < i → lst.toInt ≤ Lf m2 (edg m2 j)) → At (E0 3) mX7_flowBy (qi (QFV c m)) 202 [.ref 1175, .int fm, .int wt, .int al, .int lst, .int x] [] m2 := by
  have e80 : (80 : Int32).toInt = 80 := rfl
  intro n
  induction n using Nat.strongRecOn with
  | ind n ih =>
    intro i x lst hn h0 hx l1 l9 hed
    obtain ⟨p1, p2, p3⟩ := pth_ok hS.1 h81 ht i h0
    have hyr : (-1 : Int) ≤ (gI m2 337448 (pth m2 i)).toInt ∧ (gI m2 337448 (pth m2 i)).toInt ≤ 81 := hS.1.1 337448 _
    have hy0 : 0 ≤ (gI m2 337448 (pth m2 i)).toInt := by
      rcases (show (gI m2 337448 (pth m2 i)).toInt = -1 ∨ 0 ≤ (gI m2 337448 (pth m2 i)).toInt by omega) with q | q
      · exact absurd (Int32.toInt_inj.mp (show _ = (-1 : Int32).toInt from q)) p2
      · exact q
    have xn : x.toNatClampNeg = pth m2 i := by show x.toInt.toNat = _; omega
    have hy : gI m2 337448 x.toNatClampNeg = gI m2 337448 (pth m2 i) := by rw [xn]
    have hyn : (gI m2 337448 (pth m2 i)).toInt.toNat = pth m2 (i + 1) := rfl
    have i1 := idx (x := x) (y := gI m2 337448 x.toNatClampNeg) (by omega) (by omega) (by rw [hy]; omega) (by rw [hy]; omega)
    have n1 : (82 * gI m2 337448 x.toNatClampNeg + x).toNatClampNeg = edg m2 i := by
      rw [i1.2, hy, hyn]
      unfold edg
      omega
    have y0 : 0 ≤ (gI m2 337448 x.toNatClampNeg).toInt ∧ (gI m2 337448 x.toNatClampNeg).toInt ≤ 81 := by rw [hy]; exact ⟨hy0, hyr.2⟩
    refine At.ls okX7_flowBy 80 ⟨_, _, rfl⟩ ?_
    (conv => whnf)
    refine And.intro (fun h => ?_) (fun h => ?_)
    · have hN : pth m2 i = 80 := by have := congrArg Int32.toInt h; rw [e80] at this; omega
      have hi0 : i ≠ 0 := fun q => by rw [q] at hN; exact absurd (show 81 = 80 from hN) (by decide)
      (conv => whnf)
      refine And.intro rfl (fvSend (c := c) (g0 := gM c m2) (pos := pos) hS.1 h81 ht l1 h0 hN (fun m4 x4 s4 g4 r4 w4 => ?_) _ 0 81 m2 rfl (Nat.zero_le _) rfl hS (fun _ => rfl) hG (fun j _ hj => hed j hj) ?_ (WyI_0 hN7))
      · obtain ⟨e1, e2⟩ := WyI_e hN7 w4
        have b1 := nvl_le hN7
        have ea : (al + lst).toInt = al.toInt + lst.toInt := tI_add (by unfold i32lo; omega) (by unfold i32hi; omega)
        exact hgo m4 _ _ x4 s4 g4 (by omega) e1 (by rw [ea]; omega) (by rw [ea]; omega)
      · rw [if_neg (fun q => hi0 q.symm), Int.sub_zero]
    · have h80 : pth m2 i ≠ 80 := fun q => h (Int32.toInt_inj.mp (by rw [e80]; omega))
      obtain ⟨k1, k2, k3⟩ := ht _ p1 p2 h80
      have le0 := hG.1 (edg m2 i) (by unfold edg; rw [← hyn]; omega)
      have lne : Lf m2 (edg m2 i) ≠ 0 := fun q => k3 (Int32.toInt_inj.mp q)
      (conv => whnf)
      refine And.intro (vp_in_iff.mpr ⟨by omega, by omega⟩) ?_
      (conv => whnf)
      refine And.intro (vp_in_iff.mpr ⟨show 0 ≤ (82 * gI m2 337448 x.toNatClampNeg + x).toInt by omega, show (82 * gI m2 337448 x.toNatClampNeg + x).toInt < _ by omega⟩) ?_
      (conv => whnf)
      refine And.intro (vp_in_iff.mpr ⟨by omega, by omega⟩) ?_
      (conv => whnf)
      have ev : (gI m2 27543064 (82 * gI m2 337448 x.toNatClampNeg + x).toNatClampNeg).toInt = Lf m2 (edg m2 i) := by rw [n1]; rfl
      refine And.intro rfl (ih _ (by rw [← hn]; exact k2) (i + 1) (gI m2 337448 x.toNatClampNeg) (if gI m2 27543064 (82 * gI m2 337448 x.toNatClampNeg + x).toNatClampNeg < lst then gI m2 27543064 (82 * gI m2 337448 x.toNatClampNeg + x).toNatClampNeg else lst) rfl (fun j hj => ?_) (by rw [hy]; omega) ?_ ?_ (fun j hj => ?_))
      · by_cases q : j = i
        · rw [q]; exact h80
        · exact h0 j (by omega)
      · split
        · omega
        · exact l1
      · have hlt := @lt_i (gI m2 27543064 (82 * gI m2 337448 x.toNatClampNeg + x).toNatClampNeg) lst
        split
        · rename_i hh
          rw [hlt] at hh
          omega
        · exact l9
      · have hlt := @lt_i (gI m2 27543064 (82 * gI m2 337448 x.toNatClampNeg + x).toNatClampNeg) lst
        by_cases q : j = i
        · subst q
          split
          · omega
          · rename_i hh
            rw [hlt] at hh
            omega
        · have := hed j (by omega)
          split
          · rename_i hh
            rw [hlt] at hh
            omega
          · exact this
set_option maxRecDepth 100000 in
set_option maxHeartbeats 4000000 in
theorem fvMain (hcap : sm (fun v => c 80 v) 82 ≤ 1000000) : ∀ (n : Nat) (al : Int32) (w4 w5 : Value) (m1 : MM), (srcS m1).toNat = n → St wFl m m1 → GF m1 → NF c (gM c m1) → nvl (gM c m1) = al.toInt → 0 ≤ al.toInt → At (E0 3) mX7_flowBy (qi (QFV c m)) 187 [.ref 1175, .int fm, .int wt, .int al, w4, w5] [] m1 := by
  intro n
  induction n using Nat.strongRecOn with
  | ind n ih =>
    intro al w4 w5 m1 hn hS hG hN7 hA7 al0
    refine At.ls okX7_flowBy 80 ⟨_, _, rfl⟩ ?_
    (conv => whnf)
    refine ⟨1, by decide, _, rxReaches hS.1, ?_⟩
    rintro r m2 ⟨hS2, hT, hB⟩
    have hS3 : St wFl m m2 := ⟨hS2.1, hS2.2.1.trans hS.2.1, Fr_tr hS.2.2 hS2.2.2 (by decide)⟩
    have lf : ∀ k, Lf m2 k = Lf m1 k := fun k => by unfold Lf; rw [rowEq hS2.2.2 rfl (by decide)]
    have hG2 : GF m2 := ⟨fun k hk => by rw [lf]; exact hG.1 k hk, fun u v hu hv huv => by rw [lf, lf]; exact hG.2 u v hu hv huv⟩
    have hs2 : srcS m2 = srcS m1 := sm_same 82 (fun w _ => lf _)
    obtain ⟨hN2, hA2⟩ := NF_cg (g' := gM c m2) hN7 (fun u v _ _ => by unfold gM; rw [lf])
    rw [hA7] at hA2
    (conv => whnf)
    refine And.intro (fun h => ?_) (fun h => ?_)
    · have h : r = 0 := h
      obtain ⟨b1, b2, b3⟩ := hB h
      refine ⟨hS3, gM c m2, fun v => decide (gI m2 337448 v ≠ -1), hN2, decide_eq_true b1, decide_eq_false (fun z => z b2), fun u v hu hv hX hY => ?_, hA2.symm⟩
      have x1 : gI m2 337448 u ≠ -1 := of_decide_eq_true hX
      have x2 : gI m2 337448 v = -1 := Classical.byContradiction (fun z => of_decide_eq_false hY z)
      unfold gM Lf
      rw [b3 u v hu hv x1 x2]
      exact Int.sub_zero _
    · obtain ⟨h81, pos, ht⟩ := hT h
      (conv => whnf)
      refine And.intro rfl (fvMin (pos := pos) hS3 h81 ht hG2 hcap hN2 hA2 al0 (fun m4 al4 l4 x4 s4 g4 r4 n4 v4 a4 => ?_) _ 0 81 999999 rfl (fun j hj => absurd hj (Nat.not_lt_zero _)) rfl (by decide) (by decide) (fun j hj => absurd hj (Nat.not_lt_zero _)))
      have nn : 0 ≤ srcS m4 := sm_nn 82 (fun w hw => g4.1 _ (by omega))
      exact ih _ (by omega) al4 _ _ m4 rfl s4 g4 n4 v4 a4
end Fn
