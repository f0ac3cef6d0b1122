/-! flowBy and flow of the model, by hand -/
def sm (f : Nat → Int) : Nat → Int
  | 0 => 0
  | n + 1 => sm f n + f n
theorem sm_upd {f g : Nat → Int} {v : Nat} : ∀ n, (∀ w, w < n → w ≠ v → g w = f w) → sm g n = sm f n + (if v < n then g v - f v else 0)
  | 0, _ => rfl
  | n + 1, ho => by
    have ih := sm_upd n (fun w hw => ho w (by omega))
    unfold sm
    by_cases q : v = n
    · subst q
      rw [if_neg (Nat.lt_irrefl v)] at ih
      rw [if_pos (Nat.lt_succ_self v)]
      omega
    · rw [ho n (Nat.lt_succ_self n) (fun z => q z.symm)]
      by_cases q2 : v < n
      · rw [if_pos q2] at ih
        rw [if_pos (show v < n + 1 by omega)]
        omega
      · rw [if_neg q2] at ih
        rw [if_neg (show ¬ v < n + 1 by omega)]
        omega
theorem sm_same {f g : Nat → Int} : ∀ n, (∀ w, w < n → g w = f w) → sm g n = sm f n
  | 0, _ => rfl
  | n + 1, ho => by
    unfold sm
    rw [sm_same n (fun w hw => ho w (by omega)), ho n (Nat.lt_succ_self n)]
theorem sm_nn {f : Nat → Int} : ∀ n, (∀ w, w < n → 0 ≤ f w) → 0 ≤ sm f n
  | 0, _ => Int.le_refl _
  | n + 1, h => by
    unfold sm
    have h1 := sm_nn n (fun w hw => h w (by omega))
    have h2 := h n (by omega)
    omega
def wFl : List Nat := [27543064, 337448, 337464]
theorem St.lrow {m m1 : MM} {k : Nat} {v : Int32} (h : St wFl m m1) : St wFl m (sI m1 27543064 k v) := h.row (a := 27543064) rfl (by decide) (tI_lo v) (tI_hi v)
def Lf (m : MM) (k : Nat) : Int := (gI m 27543064 k).toInt
def FB (m : MM) : Prop := ∀ k, k < 6724 → 0 ≤ Lf m k ∧ Lf m k ≤ 999999
def GF (m : MM) : Prop := (∀ k, k < 6724 → 0 ≤ Lf m k) ∧ ∀ u v, u < 82 → v < 82 → u ≠ v → Lf m (82 * u + v) + Lf m (82 * v + u) ≤ 1999998
theorem FB.gf {m : MM} (h : FB m) : GF m := ⟨fun k hk => (h k hk).1, fun u v hu hv _ => by
  have h1 := (h (82 * u + v) (by omega)).2
  have h2 := (h (82 * v + u) (by omega)).2
  omega⟩
def srcS (m : MM) : Int := sm (fun w => Lf m (6560 + w)) 82
theorem Lf_sI {m : MM} {k j : Nat} {x : Int32} : Lf (sI m 27543064 k x) j = if j = k then x.toInt else Lf m j := by
  unfold Lf
  rw [gI_sI]
  by_cases q : j = k
  · rw [if_pos ⟨rfl, q⟩, if_pos q]
  · rw [if_neg (fun z => q z.2), if_neg q]
theorem FB_set {m : MM} {k : Nat} {x : Int32} (h : FB m) (h0 : 0 ≤ x.toInt) (h1 : x.toInt ≤ 999999) : FB (sI m 27543064 k x) := fun j hj => by
  rw [Lf_sI]
  by_cases q : j = k
  · rw [if_pos q]; exact ⟨h0, h1⟩
  · rw [if_neg q]; exact h j hj
/-- the way from the sink, back -/
def pth (m : MM) : Nat → Nat
  | 0 => 81
  | i + 1 => (gI m 337448 (pth m i)).toInt.toNat
def edg (m : MM) (i : Nat) : Nat := 82 * pth m (i + 1) + pth m i
theorem pth_ok {m : MM} {pos : Nat → Nat} (hM : Mok TYg m) (h81 : gI m 337448 81 ≠ -1) (ht : ∀ v, v < 82 → gI m 337448 v ≠ -1 → v ≠ 80 → gI m 337448 (gI m 337448 v).toInt.toNat ≠ -1 ∧ pos (gI m 337448 v).toInt.toNat < pos v ∧ gI m 27543064 (82 * (gI m 337448 v).toInt.toNat + v) ≠ 0) : ∀ i, (∀ j, j < i → pth m j ≠ 80) → pth m i < 82 ∧ gI m 337448 (pth m i) ≠ -1 ∧ ∀ j, j < i → pos (pth m i) < pos (pth m j)
  | 0, _ => ⟨show 81 < 82 by decide, h81, fun j hj => absurd hj (Nat.not_lt_zero _)⟩
  | i + 1, h => by
    obtain ⟨g1, g2, g3⟩ := pth_ok hM h81 ht i (fun j hj => h j (by omega))
    obtain ⟨k1, k2, k3⟩ := ht _ g1 g2 (h i (by omega))
    have hr : (-1 : Int) ≤ (gI m 337448 (pth m i)).toInt ∧ (gI m 337448 (pth m i)).toInt ≤ 81 := hM.1 337448 _
    refine ⟨by show (gI m 337448 (pth m i)).toInt.toNat < 82; omega, k1, fun j hj => ?_⟩
    show pos (gI m 337448 (pth m i)).toInt.toNat < _
    by_cases q : j = i
    · rw [q]; exact k2
    · have := g3 j (by omega)
      omega
theorem edge_inj {a b c d : Nat} (hb : b < 82) (hd : d < 82) (h : 82 * a + b = 82 * c + d) : a = c ∧ b = d := by omega
section Fl
variable {m : MM} {fm wt : Int32}
/-- one piece of the way is sent along -/
theorem GF_send {m1 : MM} {u v : Nat} {lst : Int32} (hG : GF m1) (hu : u < 82) (hv : v < 82) (huv : u ≠ v) (l1 : 1 ≤ lst.toInt) (l2 : lst.toInt ≤ Lf m1 (82 * u + v)) :
    GF (sI (sI m1 27543064 (82 * u + v) (gI m1 27543064 (82 * u + v) - lst)) 27543064 (82 * v + u) (gI m1 27543064 (82 * v + u) + lst)) ∧ (∀ k, k ≠ 82 * u + v → k ≠ 82 * v + u → Lf (sI (sI m1 27543064 (82 * u + v) (gI m1 27543064 (82 * u + v) - lst)) 27543064 (82 * v + u) (gI m1 27543064 (82 * v + u) + lst)) k = Lf m1 k) ∧ Lf (sI (sI m1 27543064 (82 * u + v) (gI m1 27543064 (82 * u + v) - lst)) 27543064 (82 * v + u) (gI m1 27543064 (82 * v + u) + lst)) (82 * u + v) = Lf m1 (82 * u + v) - lst.toInt := by
  have hs := hG.2 u v hu hv huv
  have n1 := hG.1 (82 * u + v) (by omega)
  have n2 := hG.1 (82 * v + u) (by omega)
  have ne : 82 * u + v ≠ 82 * v + u := by omega
  have es : (gI m1 27543064 (82 * u + v) - lst).toInt = Lf m1 (82 * u + v) - lst.toInt := by
    unfold Lf at *
    exact tI_sub (by unfold i32lo; omega) (by unfold i32hi; omega)
  have ea : (gI m1 27543064 (82 * v + u) + lst).toInt = Lf m1 (82 * v + u) + lst.toInt := by
    unfold Lf at *
    exact tI_add (by unfold i32lo; omega) (by unfold i32hi; omega)
  have e1 : ∀ k, Lf (sI (sI m1 27543064 (82 * u + v) (gI m1 27543064 (82 * u + v) - lst)) 27543064 (82 * v + u) (gI m1 27543064 (82 * v + u) + lst)) k = if k = 82 * v + u then Lf m1 (82 * v + u) + lst.toInt else if k = 82 * u + v then Lf m1 (82 * u + v) - lst.toInt else Lf m1 k := fun k => by
    rw [Lf_sI, Lf_sI, es, ea]
  refine ⟨⟨fun k hk => ?_, fun a b ha hb hab => ?_⟩, fun k k1 k2 => ?_, ?_⟩
  · rw [e1]
    have := hG.1 k hk
    split
    · omega
    · split <;> omega
  · rw [e1, e1]
    have hp := hG.2 a b ha hb hab
    by_cases q1 : a = u ∧ b = v
    · obtain ⟨rfl, rfl⟩ := q1
      rw [if_neg ne, if_pos rfl, if_pos rfl]
      omega
    · by_cases q2 : a = v ∧ b = u
      · obtain ⟨rfl, rfl⟩ := q2
        rw [if_pos rfl, if_neg (fun z => ne z), if_pos rfl]
        omega
      · rw [if_neg (show ¬ 82 * a + b = 82 * v + u from fun z => q2 (edge_inj hb hu z)), if_neg (show ¬ 82 * a + b = 82 * u + v from fun z => q1 (edge_inj hb hv z)), if_neg (show ¬ 82 * b + a = 82 * v + u from fun z => q1 (edge_inj ha hu z).symm), if_neg (show ¬ 82 * b + a = 82 * u + v from fun z => q2 (edge_inj ha hv z).symm)]
        exact hp
  · rw [e1, if_neg k2, if_neg k1]
  · rw [e1, if_neg ne, if_pos rfl]
def sndM (m1 : MM) (e1 e2 : Nat) (lst : Int32) : MM := sI (sI m1 27543064 e1 (gI m1 27543064 e1 - lst)) 27543064 e2 (gI (sI m1 27543064 e1 (gI m1 27543064 e1 - lst)) 27543064 e2 + lst)
theorem sndM_eq {m1 : MM} {e1 e2 : Nat} {lst : Int32} (h : e1 ≠ e2) : sndM m1 e1 e2 lst = sI (sI m1 27543064 e1 (gI m1 27543064 e1 - lst)) 27543064 e2 (gI m1 27543064 e2 + lst) := by
  unfold sndM
  rw [gI_sI (m := m1) (a := 27543064) (k := e1) (b := 27543064) (j := e2), if_neg (fun q => h q.2.symm)]
theorem idx {x y : Int32} (hx0 : 0 ≤ x.toInt) (hx : x.toInt ≤ 81) (hy0 : 0 ≤ y.toInt) (hy : y.toInt ≤ 81) : (82 * y + x).toInt = 82 * y.toInt + x.toInt ∧ (82 * y + x).toNatClampNeg = 82 * y.toInt.toNat + x.toInt.toNat := by
  have e82 : (82 : Int32).toInt = 82 := rfl
  have em : (82 * y).toInt = 82 * y.toInt := by
    have := tI_mul (x := 82) (y := y) (by rw [e82]; unfold i32lo; omega) (by rw [e82]; unfold i32hi; omega)
    rw [this, e82]
  have ea : (82 * y + x).toInt = 82 * y.toInt + x.toInt := by
    have := tI_add (x := 82 * y) (y := x) (by rw [em]; unfold i32lo; omega) (by rw [em]; unfold i32hi; omega)
    rw [this, em]
  refine ⟨ea, ?_⟩
  show (82 * y + x).toInt.toNat = _
  rw [ea]
  omega
def QF (m : MM) : Int32 → MM → Prop := fun _ m' => St wFl m m'
set_option maxRecDepth 100000 in
set_option maxHeartbeats 4000000 in
/-- the second walk along the way -/
theorem flSend {m2 : MM} {al lst : Int32} {N : Nat} {pos : Nat → Nat} (hM2 : Mok TYg m2) (h81 : gI m2 337448 81 ≠ -1) (ht : ∀ v, v < 82 → gI m2 337448 v ≠ -1 → v ≠ 80 → gI m2 337448 (gI m2 337448 v).toInt.toNat ≠ -1 ∧ pos (gI m2 337448 v).toInt.toNat < pos v ∧ gI m2 27543064 (82 * (gI m2 337448 v).toInt.toNat + v) ≠ 0)
    (l1 : 1 ≤ lst.toInt) (hN0 : ∀ j, j < N → pth m2 j ≠ 80) (hN : pth m2 N = 80) (hgo : ∀ (m4 : MM) (x : Int32), St wFl m m4 → GF m4 → srcS m4 = srcS m2 - lst.toInt → At (E0 3) mX7_flowBy (qi (QF m)) 187 [.ref 1175, .int fm, .int wt, .int (al + lst), .int lst, .int x] [] m4) :
    ∀ (n i : Nat) (x : Int32) (m3 : MM), N - i = n → i ≤ N → x.toInt = (pth m2 i : Int) → St wFl m m3 → (∀ w, gI m3 337448 w = gI m2 337448 w) → GF m3 → (∀ j, i ≤ j → j < N → lst.toInt ≤ Lf m3 (edg m2 j)) → srcS m3 = srcS m2 - (if i = N then lst.toInt else 0) → At (E0 3) mX7_flowBy (qi (QF m)) 250 [.ref 1175, .int fm, .int wt, .int al, .int lst, .int x] [] m3 := by
  have e80 : (80 : Int32).toInt = 80 := rfl
  intro n
  induction n with
  | zero =>
    intro i x m3 hn hi hx hS hcb hG hed hsr
    obtain rfl : i = N := by omega
    rw [hN] at hx
    rw [if_pos rfl] at hsr
    refine At.ls okX7_flowBy 80 ⟨_, _, rfl⟩ ?_
    (conv => whnf)
    refine And.intro (fun h => ?_) (fun h => absurd (Int32.toInt_inj.mp (by rw [e80]; exact hx)) h)
    (conv => whnf)
    exact And.intro rfl (hgo m3 x hS hG hsr)
  | succ n ih =>
    intro i x m3 hn hi hx hS hcb hG hed hsr
    have hiN : i < N := by omega
    obtain ⟨p1, p2, p3⟩ := pth_ok hM2 h81 ht i (fun j hj => hN0 j (by omega))
    obtain ⟨r1, r2, r3⟩ := pth_ok hM2 h81 ht (i + 1) (fun j hj => hN0 j (by omega))
    have hne := hN0 i hiN
    have xn : x.toNatClampNeg = pth m2 i := by show x.toInt.toNat = _; omega
    have hy : gI m3 337448 x.toNatClampNeg = gI m2 337448 (pth m2 i) := by rw [xn, hcb]
    have hyr : (-1 : Int) ≤ (gI m2 337448 (pth m2 i)).toInt ∧ (gI m2 337448 (pth m2 i)).toInt ≤ 81 := hM2.1 337448 _
    have hy0 : 0 ≤ (gI m2 337448 (pth m2 i)).toInt := by
      rcases (show (gI m2 337448 (pth m2 i)).toInt = -1 ∨ 0 ≤ (gI m2 337448 (pth m2 i)).toInt by omega) with q | q
      · exact absurd (Int32.toInt_inj.mp (show _ = (-1 : Int32).toInt from q)) p2
      · exact q
    have hyn : (gI m2 337448 (pth m2 i)).toInt.toNat = pth m2 (i + 1) := rfl
    have huv : pth m2 (i + 1) ≠ pth m2 i := fun q => by have := r3 i (by omega); rw [q] at this; omega
    have i1 := idx (x := x) (y := gI m3 337448 x.toNatClampNeg) (by omega) (by omega) (by rw [hy]; omega) (by rw [hy]; omega)
    have i2 := idx (x := gI m3 337448 x.toNatClampNeg) (y := x) (by rw [hy]; omega) (by rw [hy]; omega) (by omega) (by omega)
    have x0 : 0 ≤ x.toInt ∧ x.toInt ≤ 81 := by omega
    have y0 : 0 ≤ (gI m3 337448 x.toNatClampNeg).toInt ∧ (gI m3 337448 x.toNatClampNeg).toInt ≤ 81 := by rw [hy]; exact ⟨hy0, hyr.2⟩
    have n1 : (82 * gI m3 337448 x.toNatClampNeg + x).toNatClampNeg = edg m2 i := by
      rw [i1.2, hy, hyn]
      unfold edg
      omega
    have n2 : (82 * x + gI m3 337448 x.toNatClampNeg).toNatClampNeg = 82 * pth m2 i + pth m2 (i + 1) := by
      rw [i2.2, hy, hyn]
      omega
    have hne12 : edg m2 i ≠ 82 * pth m2 i + pth m2 (i + 1) := by unfold edg; omega
    obtain ⟨g1, g2, g3⟩ := GF_send (m1 := m3) (u := pth m2 (i + 1)) (v := pth m2 i) (lst := lst) hG r1 p1 huv l1 (hed i (Nat.le_refl _) hiN)
    have hmem : sndM m3 (82 * gI m3 337448 x.toNatClampNeg + x).toNatClampNeg (82 * x + gI m3 337448 x.toNatClampNeg).toNatClampNeg lst = sI (sI m3 27543064 (82 * pth m2 (i + 1) + pth m2 i) (gI m3 27543064 (82 * pth m2 (i + 1) + pth m2 i) - lst)) 27543064 (82 * pth m2 i + pth m2 (i + 1)) (gI m3 27543064 (82 * pth m2 i + pth m2 (i + 1)) + lst) := by
      rw [n1, n2, sndM_eq hne12]
      rfl
    rw [← hmem] at g1 g2 g3
    have hS5 : St wFl m (sndM m3 (82 * gI m3 337448 x.toNatClampNeg + x).toNatClampNeg (82 * x + gI m3 337448 x.toNatClampNeg).toNatClampNeg lst) := hS.lrow.lrow
    have hcb5 : ∀ w, gI (sndM m3 (82 * gI m3 337448 x.toNatClampNeg + x).toNatClampNeg (82 * x + gI m3 337448 x.toNatClampNeg).toNatClampNeg lst) 337448 w = gI m2 337448 w := fun w => by
      unfold sndM
      rw [gI_sI, if_neg (fun q => absurd q.1 (by decide)), gI_sI, if_neg (fun q => absurd q.1 (by decide))]
      exact hcb w
    have hed5 : ∀ j, i + 1 ≤ j → j < N → lst.toInt ≤ Lf (sndM m3 (82 * gI m3 337448 x.toNatClampNeg + x).toNatClampNeg (82 * x + gI m3 337448 x.toNatClampNeg).toNatClampNeg lst) (edg m2 j) := fun j hj hjN => by
      obtain ⟨a1, a2, a3⟩ := pth_ok hM2 h81 ht j (fun z hz => hN0 z (by omega))
      obtain ⟨b1, b2, b3⟩ := pth_ok hM2 h81 ht (j + 1) (fun z hz => hN0 z (by omega))
      rw [g2 (edg m2 j) (fun q => ?_) (fun q => ?_)]
      · exact hed j (by omega) hjN
      · have := (edge_inj a1 p1 q).2
        have h3 := a3 i (by omega)
        rw [this] at h3
        omega
      · have := (edge_inj a1 r1 q).1
        have h3 := b3 i (by omega)
        rw [this] at h3
        omega
    have hsr5 : srcS (sndM m3 (82 * gI m3 337448 x.toNatClampNeg + x).toNatClampNeg (82 * x + gI m3 337448 x.toNatClampNeg).toNatClampNeg lst) = srcS m2 - (if i + 1 = N then lst.toInt else 0) := by
      rw [if_neg (by omega)] at hsr
      by_cases q : i + 1 = N
      · rw [if_pos q]
        have hu : pth m2 (i + 1) = 80 := by rw [q]; exact hN
        have := sm_upd (f := fun w => Lf m3 (6560 + w)) (g := fun w => Lf (sndM m3 (82 * gI m3 337448 x.toNatClampNeg + x).toNatClampNeg (82 * x + gI m3 337448 x.toNatClampNeg).toNatClampNeg lst) (6560 + w)) (v := pth m2 i) 82 (fun w hw hwv => g2 _ (by rw [hu]; omega) (by omega))
        rw [if_pos p1] at this
        rw [show 6560 + pth m2 i = 82 * pth m2 (i + 1) + pth m2 i by rw [hu], g3] at this
        unfold srcS at hsr ⊢
        omega
      · rw [if_neg q]
        have hu : pth m2 (i + 1) ≠ 80 := hN0 _ (by omega)
        unfold srcS at hsr ⊢
        rw [sm_same 82 (fun w hw => g2 _ (by omega) (by omega))]
        exact hsr
    have hx5 : (gI m3 337448 x.toNatClampNeg).toInt = (pth m2 (i + 1) : Int) := by rw [hy]; omega
    refine At.ls okX7_flowBy 80 ⟨_, _, rfl⟩ ?_
    (conv => whnf)
    refine And.intro (fun h => absurd (show (pth m2 i : Int) = 80 by have := congrArg Int32.toInt h; rw [e80] at this; omega) (by omega)) (fun h => ?_)
    (conv => whnf)
    refine And.intro (vp_in_iff.mpr ⟨by omega, by omega⟩) ?_
    (conv => whnf)
    refine And.intro (vp_in_iff.mpr ⟨show 0 ≤ (82 * gI m3 337448 x.toNatClampNeg + x).toInt by omega, show (82 * gI m3 337448 x.toNatClampNeg + x).toInt < _ by omega⟩) ?_
    (conv => whnf)
    refine And.intro (vp_in_iff.mpr ⟨show 0 ≤ (82 * gI m3 337448 x.toNatClampNeg + x).toInt by omega, show (82 * gI m3 337448 x.toNatClampNeg + x).toInt < _ by omega⟩) ?_
    (conv => whnf)
    refine And.intro (vp_in_iff.mpr ⟨by omega, by omega⟩) ?_
    (conv => whnf)
    refine And.intro (vp_in_iff.mpr ⟨show 0 ≤ (82 * x + gI m3 337448 x.toNatClampNeg).toInt by omega, show (82 * x + gI m3 337448 x.toNatClampNeg).toInt < _ by omega⟩) ?_
    (conv => whnf)
    refine And.intro (vp_in_iff.mpr ⟨show 0 ≤ (82 * x + gI m3 337448 x.toNatClampNeg).toInt by omega, show (82 * x + gI m3 337448 x.toNatClampNeg).toInt < _ by omega⟩) ?_
    (conv => whnf)
    refine And.intro (vp_in_iff.mpr ⟨by omega, by omega⟩) ?_
    (conv => whnf)
    exact And.intro rfl (ih (i + 1) (gI m3 337448 x.toNatClampNeg) (sndM m3 (82 * gI m3 337448 x.toNatClampNeg + x).toNatClampNeg (82 * x + gI m3 337448 x.toNatClampNeg).toNatClampNeg lst) (by omega) (by omega) hx5 hS5 hcb5 g1 hed5 hsr5)
end Fl
