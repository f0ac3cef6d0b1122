/-! judge of the model: the walk -/
theorem fitP_cg {V : VW} {g g' : Nat → Int32} {st wy : Int32} {t : Nat → Nat} {k s : Nat} (h1 : g s = g' s) (h2 : g (t (k - 1)) = g' (t (k - 1))) : fitP V g st wy t k s ↔ fitP V g' st wy t k s := by
  unfold fitP
  rw [h1, h2]
def JmQ (m : MM) (wy nn : Int32) (l : Int64) : QQ := qi (fun r m' => St wJ7 m m' ∧ JdR (vw m) (gI m 1175 39) wy nn l r)
/-- the first k sales of the row are laid -/
def JmI (m : MM) (wy : Int32) (l : Int64) (k : Nat) (m1 : MM) : Prop := St wJ7 m m1 ∧ (∀ i, i < (vw m).1 3 → gI m1 165384 i = (vw m).2 11 i) ∧ gI m1 1175 48 = wy ∧ ∀ i, i < k → gI m1 26104 i = nI (tolT l i)
section Jm
variable {m : MM} {wy nn : Int32} {l : Int64} {n : Nat}
theorem JmQ_0 (hV : jdV (vw m) wy nn l) (hn : nn.toInt.toNat = n) {m1 : MM} (hS : St wJ7 m m1) (h : ¬ jdP (vw m) (gI m 1175 39) wy n (tolT l)) : JmQ m wy nn l (some (.int 0)) m1 := ⟨hS, Or.inr ⟨hV, Or.inr ⟨by rw [hn]; exact h, rfl⟩⟩⟩
theorem JmQ_1 (hV : jdV (vw m) wy nn l) (hn : nn.toInt.toNat = n) {m1 : MM} (hS : St wJ7 m m1) (h : jdP (vw m) (gI m 1175 39) wy n (tolT l)) : JmQ m wy nn l (some (.int 1)) m1 := ⟨hS, Or.inr ⟨hV, Or.inl ⟨by rw [hn]; exact h, rfl⟩⟩⟩
set_option maxRecDepth 100000 in
set_option maxHeartbeats 8000000 in
theorem jm148 (hW : Wf (vw m)) (hV : jdV (vw m) wy nn l) (hn : nn.toInt.toNat = n) (n2 : 2 ≤ n) (n6 : n ≤ 6) (hw : wy = 0 ∨ wy = 1) (ht : ∀ i, i < n → grp l (nI i) = nI (tolT l i) ∧ tolT l i < (vw m).1 3)
    (c0 : bt (gI m 1175 39) ((vw m).2 10 (tolT l 0)) = 0 ∧ bt (gI m 1175 39) ((vw m).2 11 (tolT l 0)) = 0) (c1 : wy = 0 → (vw m).2 16 (tolT l 0) ≠ 0) : ∀ (f k : Nat) (m1 : MM), k + f = n → 1 ≤ k → JmI m wy l k m1 → (∀ j, 1 ≤ j → j < k → fitP (vw m) ((vw m).2 11) (gI m 1175 39) wy (tolT l) j (tolT l j)) → At (E0 4) mX7_judge (JmQ m wy nn l) 148 [.ref 1175, .int wy, .int (nI n), .long l, .null, .int (nI k)] [] m1 := by
  have h40 := hW.1.2.2.2
  have hJ := jd_of (st := gI m 1175 39) (wy := wy) (n := n) (t := tolT l) hW n2 (fun i hi => (ht i hi).2) hw
  have facts : ∀ {m1 : MM}, St wJ7 m m1 → vw m1 = vw m ∧ gI m1 1175 39 = gI m 1175 39 := fun {m1} hS => ⟨vw_fr hS.2.2 (by decide +kernel), fr1 hS.2.2 (by decide)⟩
  intro f
  induction f with
  | zero =>
    intro k m1 hk k1 hI hA
    obtain rfl : k = n := by omega
    obtain ⟨hS, hg, hy, hr⟩ := hI
    obtain ⟨hv, hst⟩ := facts hS
    obtain ⟨l1, l2⟩ := ht (k - 1) (by omega)
    obtain ⟨z1, z2⟩ := ht 0 (by omega)
    have ck : nI k - 1 = nI (k - 1) := pk_sub (a := k) (b := 1) k1
    have el : gI m1 26104 (nI k - 1).toNatClampNeg = nI (tolT l (k - 1)) := by rw [ck, nI_clamp (by omega)]; exact hr _ (by omega)
    have e0 : gI m1 26104 (Int32.toNatClampNeg 0) = nI (tolT l 0) := hr 0 (by omega)
    have eg : gI m1 165384 (nI (tolT l (k - 1))).toNatClampNeg = (vw m).2 11 (tolT l (k - 1)) := by rw [nI_clamp (by omega)]; exact hg _ l2
    have ef : gI m1 329048 (nI (tolT l 0)).toNatClampNeg = (vw m).2 10 (tolT l 0) := by
      rw [nI_clamp (by omega), ← hv]; rfl
    refine At.ls okX7_judge 80 ⟨_, _, rfl⟩ ?_
    (conv => whnf)
    refine And.intro (fun q => ?_) (fun q => ?_)
    case refine_2 => rw [le_i] at q; omega
    (conv => whnf)
    refine And.intro (by rw [ck]; exact vp_in_nI (by omega) (by decide)) ?_
    rw [el]
    (conv => whnf)
    refine And.intro (vp_in_nI (by omega) (by decide)) ?_
    (conv => whnf)
    refine And.intro (vp_in_iff.mpr (by decide)) ?_
    rw [e0]
    (conv => whnf)
    refine And.intro (vp_in_nI (by omega) (by decide)) ?_
    (conv => whnf)
    refine And.intro (fun q2 => ?_) (fun q2 => ?_)
    · have q2 : ¬ gI m1 165384 (nI (tolT l (k - 1))).toNatClampNeg = gI m1 329048 (nI (tolT l 0)).toNatClampNeg := q2
      rw [eg, ef] at q2
      exact JmQ_0 hV hn hS (fun z => q2 (hJ.mp z).2.2.2)
    · have q2 : gI m1 165384 (nI (tolT l (k - 1))).toNatClampNeg = gI m1 329048 (nI (tolT l 0)).toNatClampNeg := q2
      rw [eg, ef] at q2
      exact JmQ_1 hV hn hS (hJ.mpr ⟨c0, c1, hA, q2⟩)
  | succ f ih =>
    intro k m1 hk k1 hI hA
    obtain ⟨hS, hg, hy, hr⟩ := hI
    obtain ⟨t1, t2⟩ := ht k (by omega)
    have ek : (nI k).toNatClampNeg = k := nI_clamp (by omega)
    have esg : ((l >>> ((6 * nI k).toInt64 &&& 63)) &&& 63).toInt32 = nI (tolT l k) := (sg_grp l (by omega)).trans t1
    have tk : (nI (tolT l k)).toInt = (tolT l k : Int) := nI_toInt (by omega)
    have S2 : St wJ7 m (sI m1 26104 k (nI (tolT l k))) := hS.row rfl (by decide) (show (0 : Int) ≤ _ by omega) (show _ ≤ (39 : Int) by omega)
    have r2 : ∀ i, i < k + 1 → gI (sI m1 26104 k (nI (tolT l k))) 26104 i = nI (tolT l i) := fun i hi => by
      rw [gI_if]
      by_cases z : i = k
      · rw [if_pos ⟨rfl, z⟩, z]
      · rw [if_neg (fun y => z y.2)]; exact hr i (by omega)
    have g2 : ∀ i, i < (vw m).1 3 → gI (sI m1 26104 k (nI (tolT l k))) 165384 i = (vw m).2 11 i := fun i hi => by
      rw [gI_if, if_neg (fun y => absurd y.1 (by decide))]; exact hg i hi
    have y2 : gI (sI m1 26104 k (nI (tolT l k))) 1175 48 = wy := by rw [gI_if, if_neg (fun y => absurd y.1 (by decide))]; exact hy
    refine At.ls okX7_judge 80 ⟨_, _, rfl⟩ ?_
    (conv => whnf)
    refine And.intro (fun q => ?_) (fun q => ?_)
    · rw [le_i, nI_toInt (by omega), nI_toInt (by omega)] at q
      omega
    (conv => whnf)
    refine And.intro (vp_in_nI (by omega) (by decide)) ?_
    rw [ek, esg]
    revert S2 r2 g2 y2
    generalize sI m1 26104 k (nI (tolT l k)) = m2
    intro S2 r2 g2 y2
    obtain ⟨hv2, hst2⟩ := facts S2
    have e2 : gI m2 26104 (nI k).toNatClampNeg = nI (tolT l k) := by rw [ek]; exact r2 k (by omega)
    have sf := s_fits (m := m2) (k := k) (s := tolT l k) (t := tolT l) k1 (by omega) (by omega) (fun i hi => ⟨r2 i (by omega), by have := (ht i (by omega)).2; omega⟩)
    rw [hv2, hst2, y2] at sf
    have hcg : fitP (vw m) (fun i => gI m2 165384 i) (gI m 1175 39) wy (tolT l) k (tolT l k) ↔ fitP (vw m) ((vw m).2 11) (gI m 1175 39) wy (tolT l) k (tolT l k) := fitP_cg (g2 _ t2) (g2 _ (ht (k - 1) (by omega)).2)
    (conv => whnf)
    refine And.intro (vp_in_nI (by omega) (by decide)) ?_
    rw [e2]
    (conv => whnf)
    refine ⟨2, by decide, _, sf, ?_⟩
    rintro r m' ⟨hmm, hr5⟩; have hmm := hmm.symm; subst hmm
    (conv => whnf)
    refine And.intro (fun q2 => ?_) (fun q2 => ?_)
    · have hf : fitP (vw m) ((vw m).2 11) (gI m 1175 39) wy (tolT l) k (tolT l k) := by
        rcases hr5 with ⟨x1, x2⟩ | ⟨x1, x2⟩
        · exact hcg.mp x1
        · exact absurd x2 q2
      (conv => whnf)
      refine And.intro rfl ?_
      have y := ih (k + 1) m2 (by omega) (by omega) ⟨S2, g2, y2, r2⟩ (fun j j1 j2 => by
        by_cases z : j = k
        · rw [z]; exact hf
        · exact hA j j1 (by omega))
      rw [← nI_1] at y
      exact y
    · have hf : ¬ fitP (vw m) ((vw m).2 11) (gI m 1175 39) wy (tolT l) k (tolT l k) := by
        rcases hr5 with ⟨x1, x2⟩ | ⟨x1, x2⟩
        · rw [x2] at q2; exact absurd q2 (by decide)
        · exact fun z => x1 (hcg.mpr z)
      exact JmQ_0 hV hn S2 (fun z => hf ((hJ.mp z).2.2.1 k k1 (by omega)))
set_option maxRecDepth 100000 in
set_option maxHeartbeats 8000000 in
theorem jm66 (hM : Mok TYg m) (hW : Wf (vw m)) (hV : jdV (vw m) wy nn l) (hnn : nn = nI n) (n2 : 2 ≤ n) (n6 : n ≤ 6) (ht : ∀ i, i < n → grp l (nI i) = nI (tolT l i) ∧ tolT l i < (vw m).1 3) : ∀ (f k : Nat) (m1 : MM), k + f = (vw m).1 3 → St wJ7 m m1 → (∀ i, i < k → gI m1 165384 i = (vw m).2 11 i) → At (E0 4) mX7_judge (JmQ m wy nn l) 66 [.ref 1175, .int wy, .int (nI n), .long l, .null, .int (nI k)] [] m1 := by
  have h40 := hW.1.2.2.2
  have hn : nn.toInt.toNat = n := by rw [hnn, nI_toInt (by omega)]; rfl
  have hw : wy = 0 ∨ wy = 1 := by
    have h0 : (0 : Int32).toInt = 0 := rfl
    have h1 : (1 : Int32).toInt = 1 := rfl
    rcases (by have := hV.2.1; omega : wy.toInt = 0 ∨ wy.toInt = 1) with q | q
    · exact Or.inl (Int32.toInt_inj.mp (by rw [q, h0]))
    · exact Or.inr (Int32.toInt_inj.mp (by rw [q, h1]))
  have hJ := jd_of (st := gI m 1175 39) (wy := wy) (n := n) (t := tolT l) hW n2 (fun i hi => (ht i hi).2) hw
  have c6 := vw3 hM
  have facts : ∀ {m1 : MM}, St wJ7 m m1 → vw m1 = vw m ∧ gI m1 1175 39 = gI m 1175 39 ∧ gI m1 1175 6 = gI m 1175 6 := fun {m1} hS => ⟨vw_fr hS.2.2 (by decide +kernel), fr1 hS.2.2 (by decide), fr1 hS.2.2 (by decide)⟩
  intro f
  induction f with
  | zero =>
    intro k m1 hk hS hg
    obtain rfl : k = (vw m).1 3 := by omega
    obtain ⟨hv, hst, h6⟩ := facts hS
    obtain ⟨tz1, tz2⟩ := ht 0 (by omega)
    have tk : (nI (tolT l 0)).toInt = (tolT l 0 : Int) := nI_toInt (by omega)
    have esg : (l &&& 63).toInt32 = nI (tolT l 0) := (sg0 l).symm.trans ((sg_grp l (by omega)).trans tz1)
    have S1 : St wJ7 m (sI m1 1175 48 wy) := hS.fld (by decide) (tI_lo wy) (tI_hi wy) (fun _ q => by omega)
    have S2 : St wJ7 m (sI (sI m1 1175 48 wy) 26104 0 (nI (tolT l 0))) := S1.row rfl (by decide) (show (0 : Int) ≤ _ by omega) (show _ ≤ (39 : Int) by omega)
    have r2 : gI (sI (sI m1 1175 48 wy) 26104 0 (nI (tolT l 0))) 26104 0 = nI (tolT l 0) := by rw [gI_if, if_pos ⟨rfl, rfl⟩]
    have g2 : ∀ i, i < (vw m).1 3 → gI (sI (sI m1 1175 48 wy) 26104 0 (nI (tolT l 0))) 165384 i = (vw m).2 11 i := fun i hi => by
      rw [gI_if, if_neg (fun y => absurd y.1 (by decide)), gI_if, if_neg (fun y => absurd y.1 (by decide))]; exact hg i hi
    have y2 : gI (sI (sI m1 1175 48 wy) 26104 0 (nI (tolT l 0))) 1175 48 = wy := by rw [gI_if, if_neg (fun y => absurd y.1 (by decide)), gI_if, if_pos ⟨rfl, rfl⟩]
    refine At.ls okX7_judge 80 ⟨_, _, rfl⟩ ?_
    (conv => whnf)
    refine And.intro (fun q => ?_) (fun q => ?_)
    case refine_2 =>
      have q : ¬ gI m1 1175 6 ≤ nI ((vw m).1 3) := q
      rw [h6, le_i, nI_toInt (by omega)] at q
      omega
    (conv => whnf)
    refine And.intro (vp_in_iff.mpr (by decide)) ?_
    rw [esg]
    show _ ∧ _
    (conv => whnf)
    refine And.intro (vp_in_iff.mpr (by decide)) ?_
    have key : ∀ m2 : MM, m2 = sI (sI m1 1175 48 wy) 26104 0 (nI (tolT l 0)) → St wJ7 m m2 → gI m2 26104 0 = nI (tolT l 0) → (∀ i, i < (vw m).1 3 → gI m2 165384 i = (vw m).2 11 i) → gI m2 1175 48 = wy → CI 1 mX7_isStopped [.ref 1175, .int (nI (tolT l 0))] m2 (fun r m' => m' = m2 ∧ z1 (¬ (bt (gI m 1175 39) ((vw m).2 10 (tolT l 0)) = 0 ∧ bt (gI m 1175 39) ((vw m).2 11 (tolT l 0)) = 0)) r) := fun m2 _ S2 _ g2 _ => by
      obtain ⟨hv2, hst2, -⟩ := facts S2
      have y := s_isStopped (m := m2) (s := tolT l 0) (by omega)
      have e1 : gI m2 329048 (tolT l 0) = (vw m).2 10 (tolT l 0) := by rw [← hv2]; rfl
      rw [hst2, e1, g2 _ tz2] at y
      exact y
    have kk := key _ rfl S2 r2 g2 y2
    have e2 : gI (sI (sI m1 1175 48 wy) 26104 (Int32.toNatClampNeg 0) (nI (tolT l 0))) 26104 (Int32.toNatClampNeg 0) = nI (tolT l 0) := r2
    rw [e2]
    revert S2 r2 g2 y2 kk
    show St wJ7 m (sI (sI m1 1175 48 wy) 26104 (Int32.toNatClampNeg 0) (nI (tolT l 0))) → gI (sI (sI m1 1175 48 wy) 26104 (Int32.toNatClampNeg 0) (nI (tolT l 0))) 26104 0 = nI (tolT l 0) → (∀ i, i < (vw m).1 3 → gI (sI (sI m1 1175 48 wy) 26104 (Int32.toNatClampNeg 0) (nI (tolT l 0))) 165384 i = (vw m).2 11 i) → gI (sI (sI m1 1175 48 wy) 26104 (Int32.toNatClampNeg 0) (nI (tolT l 0))) 1175 48 = wy → CI 1 mX7_isStopped [.ref 1175, .int (nI (tolT l 0))] (sI (sI m1 1175 48 wy) 26104 (Int32.toNatClampNeg 0) (nI (tolT l 0))) (fun r m' => m' = (sI (sI m1 1175 48 wy) 26104 (Int32.toNatClampNeg 0) (nI (tolT l 0))) ∧ z1 (¬ (bt (gI m 1175 39) ((vw m).2 10 (tolT l 0)) = 0 ∧ bt (gI m 1175 39) ((vw m).2 11 (tolT l 0)) = 0)) r) → _
    generalize sI (sI m1 1175 48 wy) 26104 (Int32.toNatClampNeg 0) (nI (tolT l 0)) = m2
    intro S2 r2 g2 y2 kk
    obtain ⟨hv2, hst2, -⟩ := facts S2
    (conv => whnf)
    refine ⟨1, by decide, _, kk, ?_⟩
    rintro r m' ⟨hmm, hr⟩; have hmm := hmm.symm; subst hmm
    (conv => whnf)
    refine And.intro (fun q1 => ?_) (fun q1 => ?_)
    · have c0 : ¬ (bt (gI m 1175 39) ((vw m).2 10 (tolT l 0)) = 0 ∧ bt (gI m 1175 39) ((vw m).2 11 (tolT l 0)) = 0) := by
        rcases hr with ⟨x1, x2⟩ | ⟨x1, x2⟩
        · exact x1
        · exact absurd x2 q1
      exact JmQ_0 hV hn S2 (fun z => c0 (hJ.mp z).1)
    have c0 : bt (gI m 1175 39) ((vw m).2 10 (tolT l 0)) = 0 ∧ bt (gI m 1175 39) ((vw m).2 11 (tolT l 0)) = 0 := by
      rcases hr with ⟨x1, x2⟩ | ⟨x1, x2⟩
      · rw [x2] at q1; exact absurd q1 (by decide)
      · exact Decidable.byContradiction x1
    have go : (wy = 0 → (vw m).2 16 (tolT l 0) ≠ 0) → At (E0 4) mX7_judge (JmQ m wy nn l) 148 [.ref 1175, .int wy, .int (nI n), .long l, .null, .int (nI 1)] [] m2 := fun c1 => jm148 hW hV hn n2 n6 hw ht c0 c1 (n - 1) 1 m2 (by omega) (Nat.le_refl _) ⟨S2, g2, y2, fun i hi => by rw [show i = 0 by omega]; exact r2⟩ (fun j j1 j2 => by omega)
    (conv => whnf)
    refine And.intro (fun q2 => ?_) (fun q2 => ?_)
    · (conv => whnf)
      exact And.intro rfl (go (fun z => absurd z q2))
    · have e3 : gI m2 26104 (Int32.toNatClampNeg 0) = nI (tolT l 0) := r2
      (conv => whnf)
      refine And.intro (vp_in_iff.mpr (by decide)) ?_
      rw [e3]
      (conv => whnf)
      refine And.intro (vp_in_nI (by omega) (by decide)) ?_
      have e4 : gI m2 329144 (nI (tolT l 0)).toNatClampNeg = (vw m).2 16 (tolT l 0) := by rw [nI_clamp (by omega), ← hv2]; rfl
      (conv => whnf)
      refine And.intro (fun q3 => ?_) (fun q3 => ?_)
      · have q3 : ¬ gI m2 329144 (nI (tolT l 0)).toNatClampNeg = 0 := q3
        rw [e4] at q3
        (conv => whnf)
        exact And.intro rfl (go (fun _ => q3))
      · have q3 : gI m2 329144 (nI (tolT l 0)).toNatClampNeg = 0 := q3
        rw [e4] at q3
        exact JmQ_0 hV hn S2 (fun z => (hJ.mp z).2.1 q2 q3)
  | succ f ih =>
    intro k m1 hk hS hg
    obtain ⟨hv, hst, h6⟩ := facts hS
    have ek : (nI k).toNatClampNeg = k := nI_clamp (by omega)
    have e11 : gI m1 329064 (nI k).toNatClampNeg = (vw m).2 11 k := by rw [ek, ← hv]; rfl
    have b11 : (0 : Int) ≤ ((vw m).2 11 k).toInt ∧ ((vw m).2 11 k).toInt ≤ 11 := hM.1 329064 k
    refine At.ls okX7_judge 80 ⟨_, _, rfl⟩ ?_
    (conv => whnf)
    refine And.intro (fun q => ?_) (fun q => ?_)
    · have q : gI m1 1175 6 ≤ nI k := q
      rw [h6, le_i, nI_toInt (by omega)] at q
      omega
    (conv => whnf)
    refine And.intro (vp_in_nI (by omega) (by decide)) ?_
    (conv => whnf)
    refine And.intro (vp_in_nI (by omega) (by decide)) ?_
    rw [e11, ek]
    have S2 : St wJ7 m (sI m1 165384 k ((vw m).2 11 k)) := hS.row rfl (by decide) b11.1 b11.2
    (conv => whnf)
    refine And.intro rfl ?_
    have y := ih (k + 1) _ (by omega) S2 (fun i hi => by
      rw [gI_if]
      by_cases z : i = k
      · rw [if_pos ⟨rfl, z⟩, z]
      · rw [if_neg (fun u => z u.2)]; exact hg i (by omega))
    rw [← nI_1] at y
    exact y
set_option maxRecDepth 100000 in
set_option maxHeartbeats 8000000 in
theorem s_judge (hM : Mok TYg m) (hW : Wf (vw m)) : CI 4 mX7_judge [.ref 1175, .int wy, .int nn, .long l] m (fun r m' => St wJ7 m m' ∧ JdR (vw m) (gI m 1175 39) wy nn l r) := by
  have e0 : (0 : Int32).toInt = 0 := rfl
  have e1 : (1 : Int32).toInt = 1 := rfl
  have e2 : (2 : Int32).toInt = 2 := rfl
  have e6 : (6 : Int32).toInt = 6 := rfl
  have h40 := hW.1.2.2.2
  have S0 : St wJ7 m (sI m 1175 0 0) := (St.rf hM).fld (by decide) (by decide) (by decide) (fun _ q => by omega)
  have no : ¬ jdV (vw m) wy nn l → JmQ m wy nn l (some (.int (-1))) (sI m 1175 0 0) := fun z => ⟨S0, Or.inl ⟨z, rfl⟩⟩
  show At (E0 4) mX7_judge (JmQ m wy nn l) 0 _ [] m
  have lp : ∀ n : Nat, nn = nI n → 2 ≤ n → n ≤ 6 → (0 ≤ wy.toInt ∧ wy.toInt ≤ 1) → ∀ (f k : Nat), k + f = n → (∀ i, i < k → 0 ≤ (grp l (nI i)).toInt ∧ (grp l (nI i)).toInt < (vw m).1 3) → At (E0 4) mX7_judge (JmQ m wy nn l) 30 [.ref 1175, .int wy, .int (nI n), .long l, .null, .int (nI k)] [] (sI m 1175 0 0) := by
    intro n hn n2 n6 hwy f
    induction f with
    | zero =>
      intro k hk hA
      obtain rfl : k = n := by omega
      have hnn : nn.toInt.toNat = k := by rw [hn, nI_toInt (by omega)]; rfl
      have hV : jdV (vw m) wy nn l := ⟨by rw [hn, nI_toInt (by omega)]; omega, hwy, by rw [hnn]; exact hA⟩
      refine At.ls okX7_judge 60 ⟨_, _, rfl⟩ ?_
      (conv => whnf)
      refine And.intro (fun q => ?_) (fun q => ?_)
      · (conv => whnf)
        refine And.intro rfl (jm66 hM hW hV hn n2 n6 (fun i hi => ?_) ((vw m).1 3) 0 _ (Nat.zero_add _) S0 (fun i hi => absurd hi (Nat.not_lt_zero _)))
        have := hA i hi
        refine ⟨nI_back ?_, ?_⟩
        · unfold tolT
          rw [clamp_toNat]; omega
        · unfold tolT
          rw [clamp_toNat]; omega
      · rw [le_i] at q
        omega
    | succ f ih =>
      intro k hk hA
      have esg : ((l >>> ((6 * nI k).toInt64 &&& 63)) &&& 63).toInt32 = grp l (nI k) := sg_grp l (by omega)
      refine At.ls okX7_judge 60 ⟨_, _, rfl⟩ ?_
      (conv => whnf)
      refine And.intro (fun q => ?_) (fun q => ?_)
      · rw [le_i, nI_toInt (by omega), nI_toInt (by omega)] at q
        omega
      (conv => whnf)
      rw [esg]
      refine ⟨1, by decide, _, s_isSale (m := sI m 1175 0 0), ?_⟩
      rintro r m' ⟨hmm, hr⟩; have hmm := hmm.symm; subst hmm
      have hr : z1 (0 ≤ (grp l (nI k)).toInt ∧ (grp l (nI k)).toInt < (gI m 1175 6).toInt) r := hr
      rw [vw3 hM] at hr
      (conv => whnf)
      refine And.intro (fun q2 => ?_) (fun q2 => ?_)
      · rcases hr with ⟨y1, y2⟩ | ⟨y1, y2⟩
        · (conv => whnf)
          refine And.intro rfl ?_
          have y := ih (k + 1) (by omega) (fun i hi => by
            by_cases z : i = k
            · rw [z]; exact y1
            · exact hA i (by omega))
          rw [← nI_1] at y
          exact y
        · exact absurd y2 q2
      · rcases hr with ⟨y1, y2⟩ | ⟨y1, y2⟩
        · rw [y2] at q2; exact absurd q2 (by decide)
        · refine no (fun z => y1 (z.2.2 k ?_))
          rw [hn, nI_toInt (by omega)]
          show k < n
          omega
  refine At.gs okX7_judge 80 ?_
  (conv => whnf)
  refine And.intro (fun q => ?_) (fun q => ?_)
  · rw [lt_i, e0] at q
    exact no (fun z => by have := z.2.1; omega)
  rw [lt_i, e0] at q
  (conv => whnf)
  refine And.intro (fun q1 => ?_) (fun q1 => ?_)
  · rw [lt_i, e1] at q1
    exact no (fun z => by have := z.2.1; omega)
  rw [lt_i, e1] at q1
  (conv => whnf)
  refine And.intro (fun q2 => ?_) (fun q2 => ?_)
  · rw [lt_i, e2] at q2
    exact no (fun z => by have := z.1; omega)
  rw [lt_i, e2] at q2
  (conv => whnf)
  refine And.intro (fun q3 => ?_) (fun q3 => ?_)
  · rw [le_i, e6] at q3
    have hn : nn = nI nn.toInt.toNat := nI_back (by omega)
    (conv => whnf)
    refine And.intro rfl ?_
    have y := lp nn.toInt.toNat hn (by omega) (by omega) ⟨by omega, by omega⟩ _ 0 (Nat.zero_add _) (fun i hi => absurd hi (Nat.not_lt_zero _))
    rw [← hn] at y
    exact y
  · rw [le_i, e6] at q3
    exact no (fun z => by have := z.1; omega)
end Jm
