/-! pay, undo, sell: both sides in full; what they leave -/
theorem gI_rf {m : MM} {c k a i : Nat} {v : Int32} (ha : Nat.ble 8 (a % 16) = true) (hc : Nat.ble 8 (c % 16) = false) : gI (sI m c k v) a i = gI m a i := by
  rw [gI_if, if_neg (fun z => by rw [z.1, hc] at ha; cases ha)]
theorem gI_fr {m : MM} {c k a i : Nat} {v : Int32} (ha : Nat.ble 8 (a % 16) = false) (hc : Nat.ble 8 (c % 16) = true) : gI (sI m c k v) a i = gI m a i := by
  rw [gI_if, if_neg (fun z => by rw [z.1, hc] at ha; cases ha)]
/-- values into rows, at one place -/
def putL (L : List (Nat × Int32)) (n : Nat) (m : MM) : MM := match L with
  | [] => m
  | q :: r => putL r n (sI m q.1 n q.2)
def lkp (a : Nat) : List (Nat × Int32) → Option Int32
  | [] => none
  | q :: r => match Nat.beq q.1 a with
    | true => some q.2
    | false => lkp a r
def lkv (x : Option Int32) (v : Int32) : Int32 := match x with
  | some y => y
  | none => v
theorem lkp_no {a : Nat} : ∀ (L : List (Nat × Int32)), ¬ a ∈ L.map (fun q => q.1) → lkp a L = none
  | [], _ => rfl
  | q :: r, h => by
    have h1 : ¬ q.1 = a := fun z => h (by rw [List.map_cons, z]; exact List.mem_cons_self)
    unfold lkp
    split
    · rename_i z
      exact absurd (Nat.eq_of_beq_eq_true z) h1
    · exact lkp_no r (fun z => h (by rw [List.map_cons]; exact List.mem_cons_of_mem _ z))
theorem lkp_c {a : Nat} {q : Nat × Int32} {r : List (Nat × Int32)} : lkp a (q :: r) = if q.1 = a then some q.2 else lkp a r := by
  show (match Nat.beq q.1 a with
    | true => some q.2
    | false => lkp a r) = _
  cases hb : Nat.beq q.1 a with
  | true => rw [if_pos (Nat.eq_of_beq_eq_true hb)]
  | false => rw [if_neg (fun z => by rw [z, Nat.beq_refl] at hb; cases hb)]
theorem putL_g {n : Nat} : ∀ (L : List (Nat × Int32)) (m : MM) (a i : Nat), (L.map (fun q => q.1)).Nodup → gI (putL L n m) a i = if i = n then lkv (lkp a L) (gI m a i) else gI m a i
  | [], m, a, i, _ => by
    show gI m a i = if i = n then gI m a i else gI m a i
    split <;> rfl
  | q :: r, m, a, i, hn => by
    rw [List.map_cons, List.nodup_cons] at hn
    show gI (putL r n (sI m q.1 n q.2)) a i = _
    rw [putL_g r _ a i hn.2, gI_if, lkp_c]
    by_cases hi : i = n
    · rw [if_pos hi, if_pos hi]
      by_cases z : q.1 = a
      · rw [if_pos z, lkp_no r (by rw [← z]; exact hn.1), if_pos ⟨z.symm, hi⟩]; rfl
      · rw [if_neg z, if_neg (fun y => z y.1.symm)]
    · rw [if_neg hi, if_neg hi, if_neg (fun y => hi y.2)]
theorem putL_f {n : Nat} : ∀ (L : List (Nat × Int32)) (m : MM) (a i : Nat), L.all (fun q => Nat.ble 8 (q.1 % 16)) = true → Nat.ble 8 (a % 16) = false → gI (putL L n m) a i = gI m a i
  | [], _, _, _, _, _ => rfl
  | q :: r, m, a, i, h, ha => by
    rw [List.all_cons, Bool.and_eq_true] at h
    show gI (putL r n (sI m q.1 n q.2)) a i = _
    rw [putL_f r _ a i h.2 ha, gI_fr ha h.1]
theorem putL_c {n : Nat} : ∀ (L : List (Nat × Int32)) (m : MM), (putL L n m).2.2 = m.2.2
  | [], _ => rfl
  | q :: r, m => putL_c r _
theorem putL_St {W : List Nat} {n : Nat} {m0 : MM} : ∀ (L : List (Nat × Int32)) (m : MM), St W m0 m → (∀ q ∈ L, Nat.ble 8 (q.1 % 16) = true ∧ q.1 ∈ W ∧ (TYg.2 q.1).1 ≤ q.2.toInt ∧ q.2.toInt ≤ (TYg.2 q.1).2) → St W m0 (putL L n m)
  | [], m, h, _ => h
  | q :: r, m, h, hL => by
    obtain ⟨h1, h2, h3, h4⟩ := hL q List.mem_cons_self
    exact putL_St r _ (h.row h1 h2 h3 h4) (fun x hx => hL x (List.mem_cons_of_mem _ hx))
/-- some rows get a value at place n, on both sides -/
def UpR (bk : Nat) (L : Nat → Option Int32) (n : Nat) (m m' : MM) : Prop := ∀ r, r < 17 → ∀ i, gI m' (rowC bk r) i = (if i = n then lkv (L r) (gI m (rowC bk r) i) else gI m (rowC bk r) i) ∧ gI m' (rowM r) i = (if i = n then lkv (L r) (gI m (rowM r) i) else gI m (rowM r) i)
theorem SB.up {bk n : Nat} {L : Nat → Option Int32} {m m' : MM} (h : SB bk m) (hU : UpR bk L n m m') (hk : ∀ k, k < 4 → gI m' (cntC bk k) (cntF k) = gI m' 1175 (cntM k)) (hN : ∀ r, r < 17 → r ≠ 9 → ∀ i, i < (vw m').1 (own r) → i < (vw m).1 (own r) ∨ (i = n ∧ (L r).isSome = true))
    (ht : (gI m' (cntC bk 3) 8).toInt = (gI m' 1175 6).toInt - (gI m' 1175 7).toInt) (h5 : gI m' 6 5 = gI m' 1175 39) (h6 : gI m' 6 6 = gI m' 1175 40) (hW : Wf (vw m')) : SB bk m' := by
  refine ⟨hk, fun r hr h9 i hi => ?_, ht, h5, h6, hW⟩
  obtain ⟨u1, u2⟩ := hU r hr i
  show _ = gI m' (rowN r) i
  rw [rowN_M r hr, u1, u2]
  by_cases q : i = n
  · rw [if_pos q, if_pos q]
    rcases hN r hr h9 i hi with z | z
    · have e := h.2.1 r hr h9 i z
      have e : gI m (rowC bk r) i = gI m (rowN r) i := e
      rw [rowN_M r hr] at e
      rw [e]
    · cases hL : L r with
      | none => rw [hL] at z; exact absurd z.2 (by decide)
      | some v => rfl
  · rw [if_neg q, if_neg q]
    rcases hN r hr h9 i hi with z | z
    · have e := h.2.1 r hr h9 i z
      have e : gI m (rowC bk r) i = gI m (rowN r) i := e
      rw [rowN_M r hr] at e
      exact e
    · exact absurd z.1 q
theorem UpR.vw {bk n : Nat} {L : Nat → Option Int32} {m m' : MM} (hU : UpR bk L n m m') {r : Nat} (hr : r < 17) (i : Nat) : (vw m').2 r i = if i = n then lkv (L r) ((vw m).2 r i) else (vw m).2 r i := by
  show gI m' (rowN r) i = if i = n then lkv (L r) (gI m (rowN r) i) else gI m (rowN r) i
  rw [rowN_M r hr]
  exact (hU r hr i).2
/-! pay -/
def payL (v : Int32) : Nat → Option Int32 := fun r => if r = 8 then some v else none
def PyP (n : Nat) (f s : Int32) (p : Int32) : Prop := (0 ≤ f.toInt ∧ f.toInt < n) ∧ 0 ≤ s.toInt ∧ p.toInt + s.toInt ≤ 999999
set_option maxRecDepth 100000 in
set_option maxHeartbeats 4000000 in
theorem s_pay {m : MM} {f s : Int32} (hM : Mok TYg m) (hW : Wf (vw m)) : CI 2 mX7_pay [.ref 1175, .int f, .int s] m (fun r m' => (PyP ((vw m).1 2) f s ((vw m).2 8 f.toNatClampNeg) ∧ r = (vw m).2 8 f.toNatClampNeg + s ∧ m' = sI (sI m 1175 0 0) 99640 f.toNatClampNeg ((vw m).2 8 f.toNatClampNeg + s)) ∨ (¬ PyP ((vw m).1 2) f s ((vw m).2 8 f.toNatClampNeg) ∧ r = -1 ∧ m' = sI m 1175 0 0)) := by
  have e0 : (0 : Int32).toInt = 0 := rfl
  have e9 : (999999 : Int32).toInt = 999999 := rfl
  have h12 := hW.1.2.2.1
  refine At.gs okX7_pay 80 ?_
  (conv => whnf)
  refine ⟨1, by decide, _, s_isFirm (m := sI m 1175 0 0), ?_⟩
  rintro r m' ⟨hmm, hr⟩; have hmm := hmm.symm; subst hmm
  have hr : z1 (0 ≤ f.toInt ∧ f.toInt < (gI m 1175 5).toInt) r := hr
  rw [vw2 hM] at hr
  (conv => whnf)
  refine And.intro (fun q => ?_) (fun q => ?_)
  · rcases hr with ⟨p1, p2⟩ | ⟨p1, p2⟩
    · rw [p2] at q; exact absurd q (by decide)
    · exact Or.inr ⟨fun z => p1 z.1, rfl, rfl⟩
  · rcases hr with ⟨p1, p2⟩ | ⟨p1, p2⟩
    · have hp := (hW.2.2.1 f.toNatClampNeg (by show f.toInt.toNat < _; omega)).2.2
      have vf : vp_in f 24 := vp_in_iff.mpr ⟨by omega, show f.toInt < ((24 : Nat) : Int) by omega⟩
      (conv => whnf)
      refine And.intro (fun q1 => ?_) (fun q1 => ?_)
      · rw [lt_i, e0] at q1
        exact Or.inr ⟨fun z => by have := z.2.1; omega, rfl, rfl⟩
      · rw [lt_i, e0] at q1
        (conv => whnf)
        refine And.intro (fun q2 => ?_) (fun q2 => ?_)
        · rw [lt_i, e9] at q2
          exact Or.inr ⟨fun z => by have := z.2.2; omega, rfl, rfl⟩
        · rw [lt_i, e9] at q2
          have ea : ((vw m).2 8 f.toNatClampNeg + s).toInt = ((vw m).2 8 f.toNatClampNeg).toInt + s.toInt := tI_add (by unfold i32lo; omega) (by unfold i32hi; omega)
          (conv => whnf)
          refine And.intro vf ?_
          (conv => whnf)
          refine And.intro (fun q3 => ?_) (fun q3 => ?_)
          · have q3 : (vw m).2 8 f.toNatClampNeg + s ≤ 999999 := q3
            rw [le_i, e9, ea] at q3
            (conv => whnf)
            refine And.intro vf ?_
            (conv => whnf)
            refine And.intro vf ?_
            (conv => whnf)
            refine And.intro vf ?_
            refine Or.inl ⟨⟨p1, by omega, q3⟩, ?_, rfl⟩
            show gI (sI (sI m 1175 0 0) 99640 f.toNatClampNeg ((vw m).2 8 f.toNatClampNeg + s)) 99640 f.toNatClampNeg = _
            rw [gI_if, if_pos ⟨rfl, rfl⟩]
          · have q3 : ¬ (vw m).2 8 f.toNatClampNeg + s ≤ 999999 := q3
            rw [le_i, e9, ea] at q3
            exact Or.inr ⟨fun z => q3 z.2.2, rfl, rfl⟩
    · rw [p2] at q; exact absurd rfl q
set_option maxRecDepth 100000 in
set_option maxHeartbeats 4000000 in
theorem r_pay_336 {m : MM} {f s : Int32} (hM : Mok TYg m) (h : SB 336 m) (hc : m.2.2 = (336, 720)) : CI 2 mX6_pay [.ref 6, .int f, .int s] m (fun r m' => (PyP ((vw m).1 2) f s ((vw m).2 8 f.toNatClampNeg) ∧ r = (vw m).2 8 f.toNatClampNeg + s ∧ m' = sI m 49816 f.toNatClampNeg ((vw m).2 8 f.toNatClampNeg + s)) ∨ (¬ PyP ((vw m).1 2) f s ((vw m).2 8 f.toNatClampNeg) ∧ r = -1 ∧ m' = m)) := by
  obtain ⟨ff, g, c⟩ := m
  obtain rfl : c = (336, 720) := hc
  have e0 : (0 : Int32).toInt = 0 := rfl
  have e9 : (999999 : Int32).toInt = 999999 := rfl
  have hW := h.2.2.2.2.2
  have h12 := hW.1.2.2.1
  have e2 : gI (ff, g, (336, 720)) 418 1 = gI (ff, g, (336, 720)) 1175 5 := h.1 2 (by decide)
  have c2 : (gI (ff, g, (336, 720)) 418 1).toInt = (vw (ff, g, (336, 720))).1 2 := by rw [e2]; exact vw2 hM
  refine At.gs okX6_pay 80 ?_
  (conv => whnf)
  refine ⟨1, by decide, _, r_has_418, ?_⟩
  rintro r m' ⟨hmm, hr⟩; have hmm := hmm.symm; subst hmm
  rw [c2] at hr
  (conv => whnf)
  refine And.intro (fun q => ?_) (fun q => ?_)
  · rcases hr with ⟨p1, p2⟩ | ⟨p1, p2⟩
    · rw [p2] at q; exact absurd q (by decide)
    · exact Or.inr ⟨fun z => p1 z.1, rfl, rfl⟩
  · rcases hr with ⟨p1, p2⟩ | ⟨p1, p2⟩
    · have hfl : f.toNatClampNeg < (vw (ff, g, (336, 720))).1 2 := by show f.toInt.toNat < _; omega
      have hp := (hW.2.2.1 f.toNatClampNeg hfl).2.2
      have vf : vp_in f 12 := vp_in_iff.mpr ⟨by omega, show f.toInt < ((12 : Nat) : Int) by omega⟩
      have c8 : gI (ff, g, (336, 720)) 49816 f.toNatClampNeg = (vw (ff, g, (336, 720))).2 8 f.toNatClampNeg := h.2.1 8 (by decide) (by decide) _ hfl
      have es : (999999 - (vw (ff, g, (336, 720))).2 8 f.toNatClampNeg).toInt = 999999 - ((vw (ff, g, (336, 720))).2 8 f.toNatClampNeg).toInt := by
        rw [tI_sub (by rw [e9]; unfold i32lo; omega) (by rw [e9]; unfold i32hi; omega), e9]
      (conv => whnf)
      refine And.intro vf ?_
      (conv => whnf)
      refine ⟨1, by decide, _, r_within, ?_⟩
      rintro r3 m' ⟨hmm, hr3⟩; have hmm := hmm.symm; subst hmm
      have hr3 : z1 ((0 : Int32).toInt ≤ s.toInt ∧ s.toInt ≤ (999999 - gI (ff, g, (336, 720)) 49816 f.toNatClampNeg).toInt) r3 := hr3
      rw [c8, es, e0] at hr3
      (conv => whnf)
      refine And.intro (fun q3 => ?_) (fun q3 => ?_)
      · rcases hr3 with ⟨y1, y2⟩ | ⟨y1, y2⟩
        · (conv => whnf)
          refine And.intro vf ?_
          (conv => whnf)
          refine And.intro vf ?_
          (conv => whnf)
          refine And.intro vf ?_
          refine Or.inl ⟨⟨p1, by omega, by omega⟩, ?_, ?_⟩
          · show gI (sI (ff, g, (336, 720)) 49816 f.toNatClampNeg (gI (ff, g, (336, 720)) 49816 f.toNatClampNeg + s)) 49816 f.toNatClampNeg = _
            rw [gI_if, if_pos ⟨rfl, rfl⟩, c8]
          · rw [← c8]
        · exact absurd y2 q3
      · rcases hr3 with ⟨y1, y2⟩ | ⟨y1, y2⟩
        · rw [y2] at q3; exact absurd q3 (by decide)
        · exact Or.inr ⟨fun z => y1 ⟨z.2.1, by have := z.2.2; omega⟩, rfl, rfl⟩
    · exact absurd p2 q
theorem pay_up_336 {m : MM} {n : Nat} {v : Int32} : UpR 336 (payL v) n m (sI (sI (sI m 49816 n v) 1175 0 0) 99640 n v) := by
  intro r hr i
  have a1 : Nat.ble 8 (rowC 336 r % 16) = true := rowC_8 (by unfold isBk; omega) r hr
  have a2 : Nat.ble 8 (rowM r % 16) = true := rowM_8 r hr
  have b1 : ∀ r, r < 17 → (rowC 336 r = 99640 → False) ∧ (rowC 336 r = 49816 → r = 8) ∧ (rowM r = 49816 → False) ∧ (rowM r = 99640 → r = 8) := by decide +kernel
  obtain ⟨y1, y2, y3, y4⟩ := b1 r hr
  refine ⟨?_, ?_⟩
  · rw [gI_if, if_neg (fun z => y1 z.1), gI_rf a1 (by decide), gI_if]
    unfold payL
    by_cases q : i = n
    · rw [if_pos q]
      by_cases q2 : r = 8
      · subst q2
        rw [if_pos ⟨rfl, q⟩, if_pos rfl]; rfl
      · rw [if_neg (fun z => q2 (y2 z.1)), if_neg q2]; rfl
    · rw [if_neg q, if_neg (fun z => q z.2)]
  · rw [gI_if]
    unfold payL
    by_cases q : i = n
    · rw [if_pos q]
      by_cases q2 : r = 8
      · subst q2
        rw [if_pos ⟨rfl, q⟩, if_pos rfl]; rfl
      · rw [if_neg (fun z => q2 (y4 z.1)), if_neg q2, gI_rf a2 (by decide), gI_if, if_neg (fun z => y3 z.1)]; rfl
    · rw [if_neg q, if_neg (fun z => q z.2), gI_rf a2 (by decide), gI_if, if_neg (fun z => y3 z.1)]
theorem pay_sb_336 {m : MM} {n : Nat} {v : Int32} (h : SB 336 m) (h0 : 0 ≤ v.toInt) (h1 : v.toInt ≤ 999999) : SB 336 (sI (sI (sI m 49816 n v) 1175 0 0) 99640 n v) := by
  have hU := pay_up_336 (m := m) (n := n) (v := v)
  have hc : ∀ k, (vw (sI (sI (sI m 49816 n v) 1175 0 0) 99640 n v)).1 k = (vw m).1 k := fun k => by
    show (gI (sI (sI (sI m 49816 n v) 1175 0 0) 99640 n v) 1175 (cntM k)).toInt.toNat = (gI m 1175 (cntM k)).toInt.toNat
    have : cntM k ≠ 0 := by unfold cntM; split <;> decide
    rw [gI_fr rfl (by decide), gI_if, if_neg (fun z => this z.2), gI_fr rfl (by decide)]
  have hr : ∀ r, r < 17 → r ≠ 8 → ∀ i, (vw (sI (sI (sI m 49816 n v) 1175 0 0) 99640 n v)).2 r i = (vw m).2 r i := fun r hr h8 i => by
    rw [hU.vw hr i]
    unfold payL
    rw [if_neg h8]
    show (if i = n then (vw m).2 r i else (vw m).2 r i) = _
    split <;> rfl
  have h8 : ∀ i, (vw (sI (sI (sI m 49816 n v) 1175 0 0) 99640 n v)).2 8 i = if i = n then v else (vw m).2 8 i := fun i => hU.vw (by decide) i
  obtain ⟨w1, w2, w3, w4⟩ := h.2.2.2.2.2
  refine SB.up h hU (fun k hk => ?_) (fun r hr h9 i hi => Or.inl (by rw [hc] at hi; exact hi)) h.2.2.1 h.2.2.2.1 h.2.2.2.2.1 ⟨by rw [hc, hc, hc, hc]; exact w1, fun l hl => ?_, fun f hf => ?_, fun s hs => ?_⟩
  · have y := h.1 k hk
    rcases (by omega : k = 0 ∨ k = 1 ∨ k = 2 ∨ k = 3) with rfl | rfl | rfl | rfl <;> exact y
  · rw [hc] at hl
    rw [hr 1 (by decide) (by decide)]
    exact w2 l hl
  · rw [hc] at hf
    rw [hr 4 (by decide) (by decide), hr 5 (by decide) (by decide), h8, hc]
    refine ⟨(w3 f hf).1, (w3 f hf).2.1, ?_⟩
    split
    · exact ⟨h0, h1⟩
    · exact (w3 f hf).2.2
  · rw [hc] at hs
    rw [hr 10 (by decide) (by decide), hr 11 (by decide) (by decide), hr 12 (by decide) (by decide), hr 13 (by decide) (by decide), hr 14 (by decide) (by decide), hr 15 (by decide) (by decide), hr 16 (by decide) (by decide), hc, hc]
    exact w4 s hs
set_option maxRecDepth 100000 in
set_option maxHeartbeats 4000000 in
theorem r_pay_720 {m : MM} {f s : Int32} (hM : Mok TYg m) (h : SB 720 m) (hc : m.2.2 = (720, 336)) : CI 2 mX6_pay [.ref 6, .int f, .int s] m (fun r m' => (PyP ((vw m).1 2) f s ((vw m).2 8 f.toNatClampNeg) ∧ r = (vw m).2 8 f.toNatClampNeg + s ∧ m' = sI m 50200 f.toNatClampNeg ((vw m).2 8 f.toNatClampNeg + s)) ∨ (¬ PyP ((vw m).1 2) f s ((vw m).2 8 f.toNatClampNeg) ∧ r = -1 ∧ m' = m)) := by
  obtain ⟨ff, g, c⟩ := m
  obtain rfl : c = (720, 336) := hc
  have e0 : (0 : Int32).toInt = 0 := rfl
  have e9 : (999999 : Int32).toInt = 999999 := rfl
  have hW := h.2.2.2.2.2
  have h12 := hW.1.2.2.1
  have e2 : gI (ff, g, (720, 336)) 802 1 = gI (ff, g, (720, 336)) 1175 5 := h.1 2 (by decide)
  have c2 : (gI (ff, g, (720, 336)) 802 1).toInt = (vw (ff, g, (720, 336))).1 2 := by rw [e2]; exact vw2 hM
  refine At.gs okX6_pay 80 ?_
  (conv => whnf)
  refine ⟨1, by decide, _, r_has_802, ?_⟩
  rintro r m' ⟨hmm, hr⟩; have hmm := hmm.symm; subst hmm
  rw [c2] at hr
  (conv => whnf)
  refine And.intro (fun q => ?_) (fun q => ?_)
  · rcases hr with ⟨p1, p2⟩ | ⟨p1, p2⟩
    · rw [p2] at q; exact absurd q (by decide)
    · exact Or.inr ⟨fun z => p1 z.1, rfl, rfl⟩
  · rcases hr with ⟨p1, p2⟩ | ⟨p1, p2⟩
    · have hfl : f.toNatClampNeg < (vw (ff, g, (720, 336))).1 2 := by show f.toInt.toNat < _; omega
      have hp := (hW.2.2.1 f.toNatClampNeg hfl).2.2
      have vf : vp_in f 12 := vp_in_iff.mpr ⟨by omega, show f.toInt < ((12 : Nat) : Int) by omega⟩
      have c8 : gI (ff, g, (720, 336)) 50200 f.toNatClampNeg = (vw (ff, g, (720, 336))).2 8 f.toNatClampNeg := h.2.1 8 (by decide) (by decide) _ hfl
      have es : (999999 - (vw (ff, g, (720, 336))).2 8 f.toNatClampNeg).toInt = 999999 - ((vw (ff, g, (720, 336))).2 8 f.toNatClampNeg).toInt := by
        rw [tI_sub (by rw [e9]; unfold i32lo; omega) (by rw [e9]; unfold i32hi; omega), e9]
      (conv => whnf)
      refine And.intro vf ?_
      (conv => whnf)
      refine ⟨1, by decide, _, r_within, ?_⟩
      rintro r3 m' ⟨hmm, hr3⟩; have hmm := hmm.symm; subst hmm
      have hr3 : z1 ((0 : Int32).toInt ≤ s.toInt ∧ s.toInt ≤ (999999 - gI (ff, g, (720, 336)) 50200 f.toNatClampNeg).toInt) r3 := hr3
      rw [c8, es, e0] at hr3
      (conv => whnf)
      refine And.intro (fun q3 => ?_) (fun q3 => ?_)
      · rcases hr3 with ⟨y1, y2⟩ | ⟨y1, y2⟩
        · (conv => whnf)
          refine And.intro vf ?_
          (conv => whnf)
          refine And.intro vf ?_
          (conv => whnf)
          refine And.intro vf ?_
          refine Or.inl ⟨⟨p1, by omega, by omega⟩, ?_, ?_⟩
          · show gI (sI (ff, g, (720, 336)) 50200 f.toNatClampNeg (gI (ff, g, (720, 336)) 50200 f.toNatClampNeg + s)) 50200 f.toNatClampNeg = _
            rw [gI_if, if_pos ⟨rfl, rfl⟩, c8]
          · rw [← c8]
        · exact absurd y2 q3
      · rcases hr3 with ⟨y1, y2⟩ | ⟨y1, y2⟩
        · rw [y2] at q3; exact absurd q3 (by decide)
        · exact Or.inr ⟨fun z => y1 ⟨z.2.1, by have := z.2.2; omega⟩, rfl, rfl⟩
    · exact absurd p2 q
theorem pay_up_720 {m : MM} {n : Nat} {v : Int32} : UpR 720 (payL v) n m (sI (sI (sI m 50200 n v) 1175 0 0) 99640 n v) := by
  intro r hr i
  have a1 : Nat.ble 8 (rowC 720 r % 16) = true := rowC_8 (by unfold isBk; omega) r hr
  have a2 : Nat.ble 8 (rowM r % 16) = true := rowM_8 r hr
  have b1 : ∀ r, r < 17 → (rowC 720 r = 99640 → False) ∧ (rowC 720 r = 50200 → r = 8) ∧ (rowM r = 50200 → False) ∧ (rowM r = 99640 → r = 8) := by decide +kernel
  obtain ⟨y1, y2, y3, y4⟩ := b1 r hr
  refine ⟨?_, ?_⟩
  · rw [gI_if, if_neg (fun z => y1 z.1), gI_rf a1 (by decide), gI_if]
    unfold payL
    by_cases q : i = n
    · rw [if_pos q]
      by_cases q2 : r = 8
      · subst q2
        rw [if_pos ⟨rfl, q⟩, if_pos rfl]; rfl
      · rw [if_neg (fun z => q2 (y2 z.1)), if_neg q2]; rfl
    · rw [if_neg q, if_neg (fun z => q z.2)]
  · rw [gI_if]
    unfold payL
    by_cases q : i = n
    · rw [if_pos q]
      by_cases q2 : r = 8
      · subst q2
        rw [if_pos ⟨rfl, q⟩, if_pos rfl]; rfl
      · rw [if_neg (fun z => q2 (y4 z.1)), if_neg q2, gI_rf a2 (by decide), gI_if, if_neg (fun z => y3 z.1)]; rfl
    · rw [if_neg q, if_neg (fun z => q z.2), gI_rf a2 (by decide), gI_if, if_neg (fun z => y3 z.1)]
theorem pay_sb_720 {m : MM} {n : Nat} {v : Int32} (h : SB 720 m) (h0 : 0 ≤ v.toInt) (h1 : v.toInt ≤ 999999) : SB 720 (sI (sI (sI m 50200 n v) 1175 0 0) 99640 n v) := by
  have hU := pay_up_720 (m := m) (n := n) (v := v)
  have hc : ∀ k, (vw (sI (sI (sI m 50200 n v) 1175 0 0) 99640 n v)).1 k = (vw m).1 k := fun k => by
    show (gI (sI (sI (sI m 50200 n v) 1175 0 0) 99640 n v) 1175 (cntM k)).toInt.toNat = (gI m 1175 (cntM k)).toInt.toNat
    have : cntM k ≠ 0 := by unfold cntM; split <;> decide
    rw [gI_fr rfl (by decide), gI_if, if_neg (fun z => this z.2), gI_fr rfl (by decide)]
  have hr : ∀ r, r < 17 → r ≠ 8 → ∀ i, (vw (sI (sI (sI m 50200 n v) 1175 0 0) 99640 n v)).2 r i = (vw m).2 r i := fun r hr h8 i => by
    rw [hU.vw hr i]
    unfold payL
    rw [if_neg h8]
    show (if i = n then (vw m).2 r i else (vw m).2 r i) = _
    split <;> rfl
  have h8 : ∀ i, (vw (sI (sI (sI m 50200 n v) 1175 0 0) 99640 n v)).2 8 i = if i = n then v else (vw m).2 8 i := fun i => hU.vw (by decide) i
  obtain ⟨w1, w2, w3, w4⟩ := h.2.2.2.2.2
  refine SB.up h hU (fun k hk => ?_) (fun r hr h9 i hi => Or.inl (by rw [hc] at hi; exact hi)) h.2.2.1 h.2.2.2.1 h.2.2.2.2.1 ⟨by rw [hc, hc, hc, hc]; exact w1, fun l hl => ?_, fun f hf => ?_, fun s hs => ?_⟩
  · have y := h.1 k hk
    rcases (by omega : k = 0 ∨ k = 1 ∨ k = 2 ∨ k = 3) with rfl | rfl | rfl | rfl <;> exact y
  · rw [hc] at hl
    rw [hr 1 (by decide) (by decide)]
    exact w2 l hl
  · rw [hc] at hf
    rw [hr 4 (by decide) (by decide), hr 5 (by decide) (by decide), h8, hc]
    refine ⟨(w3 f hf).1, (w3 f hf).2.1, ?_⟩
    split
    · exact ⟨h0, h1⟩
    · exact (w3 f hf).2.2
  · rw [hc] at hs
    rw [hr 10 (by decide) (by decide), hr 11 (by decide) (by decide), hr 12 (by decide) (by decide), hr 13 (by decide) (by decide), hr 14 (by decide) (by decide), hr 15 (by decide) (by decide), hr 16 (by decide) (by decide), hc, hc]
    exact w4 s hs
/-! undo -/
set_option maxRecDepth 100000 in
set_option maxHeartbeats 4000000 in
theorem s_undo {m : MM} : CI 1 mX7_undo [.ref 1175] m (fun r m' => (gI m 1175 6 = gI m 1175 7 ∧ r = -1 ∧ m' = sI m 1175 0 0) ∨ (¬ gI m 1175 6 = gI m 1175 7 ∧ r = gI m 1175 6 - 1 - gI m 1175 7 ∧ m' = sI (sI m 1175 0 0) 1175 6 (gI m 1175 6 - 1))) := by
  refine At.gs okX7_undo 60 ?_
  (conv => whnf)
  refine And.intro (fun h => ?_) (fun h => ?_)
  · exact Or.inr ⟨h, rfl, rfl⟩
  · exact Or.inl ⟨h, rfl, rfl⟩
set_option maxRecDepth 100000 in
set_option maxHeartbeats 4000000 in
theorem r_undo_336 {m : MM} (hc : m.2.2 = (336, 720)) : CI 2 mX6_undo [.ref 6] m (fun r m' => (((gI m 452 8).toInt ≤ 0 ∨ (gI m 452 7).toInt ≤ 0) ∧ r = -1 ∧ m' = m) ∨ ((0 < (gI m 452 8).toInt ∧ 0 < (gI m 452 7).toInt) ∧ r = gI m 452 8 - 1 ∧ m' = sI (sI (sI m 452 7 (gI m 452 7 - 1)) 452 8 (gI m 452 8 - 1)) 49 13 0)) := by
  obtain ⟨ff, g, c⟩ := m
  obtain rfl : c = (336, 720) := hc
  have e0 : (0 : Int32).toInt = 0 := rfl
  refine At.gs okX6_undo 80 ?_
  (conv => whnf)
  refine And.intro (fun q => ?_) (fun q => ?_)
  · rw [le_i, e0] at q
    exact Or.inl ⟨Or.inl q, rfl, rfl⟩
  · rw [le_i, e0] at q
    (conv => whnf)
    refine And.intro (fun q2 => ?_) (fun q2 => ?_)
    · rw [lt_i, e0] at q2
      (conv => whnf)
      refine ⟨1, by decide, _, r_forget, ?_⟩
      rintro m' hmm; subst hmm
      exact Or.inr ⟨⟨by have q : ¬ (gI (ff, g, (336, 720)) 452 8).toInt ≤ 0 := q; omega, q2⟩, rfl, rfl⟩
    · rw [lt_i, e0] at q2
      exact Or.inl ⟨Or.inr (by have q2 : ¬ 0 < (gI (ff, g, (336, 720)) 452 7).toInt := q2; omega), rfl, rfl⟩
set_option maxRecDepth 100000 in
set_option maxHeartbeats 4000000 in
theorem r_undo_720 {m : MM} (hc : m.2.2 = (720, 336)) : CI 2 mX6_undo [.ref 6] m (fun r m' => (((gI m 836 8).toInt ≤ 0 ∨ (gI m 836 7).toInt ≤ 0) ∧ r = -1 ∧ m' = m) ∨ ((0 < (gI m 836 8).toInt ∧ 0 < (gI m 836 7).toInt) ∧ r = gI m 836 8 - 1 ∧ m' = sI (sI (sI m 836 7 (gI m 836 7 - 1)) 836 8 (gI m 836 8 - 1)) 49 13 0)) := by
  obtain ⟨ff, g, c⟩ := m
  obtain rfl : c = (720, 336) := hc
  have e0 : (0 : Int32).toInt = 0 := rfl
  refine At.gs okX6_undo 80 ?_
  (conv => whnf)
  refine And.intro (fun q => ?_) (fun q => ?_)
  · rw [le_i, e0] at q
    exact Or.inl ⟨Or.inl q, rfl, rfl⟩
  · rw [le_i, e0] at q
    (conv => whnf)
    refine And.intro (fun q2 => ?_) (fun q2 => ?_)
    · rw [lt_i, e0] at q2
      (conv => whnf)
      refine ⟨1, by decide, _, r_forget, ?_⟩
      rintro m' hmm; subst hmm
      exact Or.inr ⟨⟨by have q : ¬ (gI (ff, g, (720, 336)) 836 8).toInt ≤ 0 := q; omega, q2⟩, rfl, rfl⟩
    · rw [lt_i, e0] at q2
      exact Or.inl ⟨Or.inr (by have q2 : ¬ 0 < (gI (ff, g, (720, 336)) 836 7).toInt := q2; omega), rfl, rfl⟩
