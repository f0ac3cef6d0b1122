/-! fewest of both -/
section Bd
variable {V : VW} {ru : Int32}
theorem rate_rng (hW : Wf V) {s : Nat} (hs : s < V.1 3) : 0 ≤ (rateP V ru s).toInt ∧ (rateP V ru s).toInt ≤ 40 := by
  have e0 : (0 : Int32).toInt = 0 := rfl
  obtain ⟨f, f1, f2, f3⟩ := hW.frm hs
  obtain ⟨l, l1, l2, l3⟩ := hW.lan f1
  unfold rateP
  by_cases q : lanS V s = lanB V s ∧ bt ru (lanS V s) = 0
  · rw [if_pos q]
    have e : (lanS V s).toNatClampNeg = l := by
      unfold lanS
      rw [f3]
      exact l3
    rw [e]
    exact hW.2.1 l l1
  · rw [if_neg q, e0]; exact ⟨Int.le_refl 0, by decide⟩
theorem eac_rng (hW : Wf V) {s : Nat} (hs : s < V.1 3) : 0 ≤ (eacP V ru s).toInt ∧ (eacP V ru s).toInt ≤ 39960 := by
  have r := rate_rng (ru := ru) hW hs
  have p := (hW.2.2.2 s hs).2.2.2.2.2.1
  have a : 0 ≤ (V.2 14 s).toInt * (rateP V ru s).toInt := Int.mul_nonneg (by omega) (by omega)
  have b : (V.2 14 s).toInt * (rateP V ru s).toInt ≤ 999 * 40 := Int.mul_le_mul (by omega) (by omega) (by omega) (by omega)
  unfold eacP
  rw [tI_mul (by unfold i32lo; omega) (by unfold i32hi; omega)]
  omega
theorem dif_rng (hW : Wf V) {row : List Nat} {i : Nat} (hr : ∀ i, i < row.length → row.getD i 0 < V.1 3) (hi : i < row.length) : (difP V ru row i).toInt ≤ 39960 := by
  have a := eac_rng (ru := ru) hW (hr i hi)
  have b := eac_rng (ru := ru) hW (hr _ (prvI_lt (by omega) hi))
  unfold difP
  rw [tI_sub (by unfold i32lo; omega) (by unfold i32hi; omega)]
  omega
theorem tkS_rng (hW : Wf V) {ck : Nat → Bool} {row : List Nat} (hr : ∀ i, i < row.length → row.getD i 0 < V.1 3) (h6 : row.length ≤ 6) : ∀ n, n ≤ row.length → 0 ≤ (tkS V ck ru row n).toInt ∧ (tkS V ck ru row n).toInt ≤ 39960 * n
  | 0, _ => ⟨Int.le_refl 0, Int.le_refl 0⟩
  | n + 1, h => by
    have e0 : (0 : Int32).toInt = 0 := rfl
    have ih := tkS_rng hW (ck := ck) hr h6 n (by omega)
    have d := dif_rng (ru := ru) hW hr (show n < row.length by omega)
    show 0 ≤ (if ck (row.getD n 0) = true then tkS V ck ru row n + (if 0 < difP V ru row n then difP V ru row n else 0) else tkS V ck ru row n).toInt ∧ (if ck (row.getD n 0) = true then tkS V ck ru row n + (if 0 < difP V ru row n then difP V ru row n else 0) else tkS V ck ru row n).toInt ≤ 39960 * ((n + 1 : Nat) : Int)
    by_cases q : ck (row.getD n 0) = true
    · rw [if_pos q]
      by_cases y : 0 < difP V ru row n
      · rw [if_pos y]
        rw [lt_i, e0] at y
        rw [tI_add (by unfold i32lo; omega) (by unfold i32hi; omega)]
        omega
      · rw [if_neg y, tI_add (by rw [e0]; unfold i32lo; omega) (by rw [e0]; unfold i32hi; omega), e0]
        omega
    · rw [if_neg q]
      omega
theorem car_rng (hW : Wf V) {row : List Nat} (hr : ∀ i, i < row.length → row.getD i 0 < V.1 3) : ∀ n, n ≤ row.length → 1 ≤ (carP V row n).toInt ∧ (carP V row n).toInt ≤ 999
  | 0, _ => ⟨show (1 : Int) ≤ (999 : Int32).toInt by decide, show (999 : Int32).toInt ≤ 999 by decide⟩
  | n + 1, h => by
    have ih := car_rng hW hr n (by omega)
    have p := (hW.2.2.2 _ (hr n (by omega))).2.2.2.1
    show 1 ≤ (if V.2 12 (row.getD n 0) < carP V row n then V.2 12 (row.getD n 0) else carP V row n).toInt ∧ _ ≤ _
    by_cases q : V.2 12 (row.getD n 0) < carP V row n
    · rw [show carP V row (n + 1) = V.2 12 (row.getD n 0) from if_pos q, if_pos q]
      omega
    · rw [show carP V row (n + 1) = carP V row n from if_neg q, if_neg q]
      omega
theorem tak_rng (hW : Wf V) {ck : Nat → Bool} {row : List Nat} (hr : ∀ i, i < row.length → row.getD i 0 < V.1 3) (h6 : row.length ≤ 6) : 0 ≤ (takP V ck ru row).toInt ∧ (takP V ck ru row).toInt ≤ 240000000 := by
  have a := tkS_rng (ru := ru) (ck := ck) hW hr h6 row.length (Nat.le_refl _)
  have b := car_rng hW hr row.length (Nat.le_refl _)
  have c : 0 ≤ (tkS V ck ru row row.length).toInt * (carP V row row.length).toInt := Int.mul_nonneg (by omega) (by omega)
  have d : (tkS V ck ru row row.length).toInt * (carP V row row.length).toInt ≤ 239760 * 999 := Int.mul_le_mul (by omega) (by omega) (by omega) (by omega)
  unfold takP
  rw [tI_mul (by unfold i32lo; omega) (by unfold i32hi; omega)]
  omega
end Bd
theorem lJ_add {x y : Int64} (h1 : -9223372036854775808 ≤ x.toInt + y.toInt) (h2 : x.toInt + y.toInt ≤ 9223372036854775807) : (x + y).toInt = x.toInt + y.toInt := by
  rw [Int64.toInt_add]
  exact bm64 h1 h2
theorem lgc_gt (x y : Int64) : 0 < lg_cmp x y ↔ y.toInt < x.toInt := by
  rw [← Int64.lt_iff_toInt_lt]
  unfold lg_cmp
  by_cases q : x > y
  · rw [if_pos q]
    exact ⟨fun _ => q, fun _ => by decide⟩
  · rw [if_neg q]
    refine ⟨fun z => ?_, fun z => absurd z q⟩
    split at z
    · exact absurd z (by decide)
    · exact absurd z (by decide)
theorem lgc_lt (x y : Int64) : lg_cmp x y < 0 ↔ x.toInt < y.toInt := by
  unfold lg_cmp
  by_cases q : x > y
  · rw [if_pos q]
    refine ⟨fun z => absurd z (by decide), fun z => ?_⟩
    have := Int64.lt_iff_toInt_lt.mp q
    omega
  · rw [if_neg q]
    have nq : ¬ y.toInt < x.toInt := fun z => q (Int64.lt_iff_toInt_lt.mpr z)
    by_cases e : x = y
    · rw [if_pos e]
      refine ⟨fun z => absurd z (by decide), fun z => ?_⟩
      rw [e] at z; omega
    · rw [if_neg e]
      refine ⟨fun _ => ?_, fun _ => by decide⟩
      have : x.toInt ≠ y.toInt := fun z => e (Int64.toInt_inj.mp z)
      omega
theorem lgc_ge0 (t : Int64) : 0 ≤ lg_cmp t 0 ↔ 0 ≤ t.toInt := by
  have h := lgc_lt t 0
  have e0 : (0 : Int64).toInt = 0 := rfl
  have e1 : (0 : Int32).toInt = 0 := rfl
  rw [e0, lt_i, e1] at h
  rw [le_i, e1]
  omega
/-- what is left by rounds without firms of S -/
def lfS (V : VW) (ru : Int32) (L : List (List Nat)) (S : Int32) : Nat → Int
  | 0 => 0
  | n + 1 => lfS V ru L S n + (if frmP V (L.getD n []) (L.getD n []).length &&& S = 0 then (takP V (ckM V ru) ru (L.getD n [])).toInt else 0)
theorem lfS_rng {V : VW} {ru S : Int32} {L : List (List Nat)} (hW : Wf V) (hr : ∀ i, i < L.length → (L.getD i []).length ≤ 6 ∧ ∀ j, j < (L.getD i []).length → (L.getD i []).getD j 0 < V.1 3) : ∀ n, n ≤ L.length → 0 ≤ lfS V ru L S n ∧ lfS V ru L S n ≤ 240000000 * n
  | 0, _ => ⟨Int.le_refl 0, Int.le_refl 0⟩
  | n + 1, h => by
    have ih := lfS_rng (ru := ru) (S := S) hW hr n (by omega)
    have t := tak_rng (ru := ru) (ck := ckM V ru) hW (hr n (by omega)).2 (hr n (by omega)).1
    show 0 ≤ lfS V ru L S n + (if _ then _ else _) ∧ lfS V ru L S n + (if _ then _ else _) ≤ 240000000 * ((n + 1 : Nat) : Int)
    split <;> omega
def FwO (V : VW) (ru : Int32) (L : List (List Nat)) (t : Int) (S : Nat) : Prop := lfS V ru L (nI S) L.length ≤ t
/-- the fewest of those that do -/
def FwB (n : Nat) (Ok : Nat → Prop) (b : Nat) : Prop := b < 2 ^ n ∧ Ok b ∧ ∀ c, c < 2 ^ n → Ok c → popS b 31 < popS c 31 ∨ (popS b 31 = popS c 31 ∧ b ≤ c)
theorem FwB_1 {n b b' : Nat} {Ok : Nat → Prop} (h : FwB n Ok b) (h' : FwB n Ok b') : b = b' := by
  have a := h.2.2 b' h'.1 h'.2.1
  have c := h'.2.2 b h.1 h.2.1
  omega
theorem popS_up {N k : Nat} (h : N < 2 ^ k) : ∀ j, popS N (k + j) = popS N k
  | 0 => rfl
  | j + 1 => by
    show popS N (k + j) + N / 2 ^ (k + j) % 2 = popS N k
    have h2 : N < 2 ^ (k + j) := Nat.lt_of_lt_of_le h (Nat.pow_le_pow_right (by decide) (by omega))
    rw [popS_up h j, Nat.div_eq_of_lt h2]
    rfl
theorem popS_mod (N M : Nat) : ∀ k, popS (N + M * 2 ^ k) k = popS N k
  | k => by
    have key : ∀ j, j ≤ k → popS (N + M * 2 ^ k) j = popS N j := by
      intro j
      induction j with
      | zero => intro _; rfl
      | succ j ih =>
        intro hj
        show popS (N + M * 2 ^ k) j + (N + M * 2 ^ k) / 2 ^ j % 2 = popS N j + N / 2 ^ j % 2
        rw [ih (by omega)]
        obtain ⟨e, he⟩ : ∃ e, k = j + (e + 1) := ⟨k - j - 1, by omega⟩
        have hp : 0 < 2 ^ j := Nat.pow_pos (by decide)
        have e2 : M * 2 ^ k = 2 ^ j * (2 * (M * 2 ^ e)) := by
          rw [he, Nat.pow_add, Nat.pow_succ]
          ac_rfl
        rw [e2, Nat.add_mul_div_left _ _ hp, Nat.add_mul_mod_self_left]
    exact key k (Nat.le_refl _)
theorem popS_full : ∀ n c, c < 2 ^ n → n ≤ popS c n → c = 2 ^ n - 1
  | 0, c, h, _ => by
    have h : c < 1 := h
    show c = 0
    omega
  | n + 1, c, h, hp => by
    have hp : n + 1 ≤ popS c n + c / 2 ^ n % 2 := hp
    have l := popS_le c n
    rw [Nat.pow_succ] at h ⊢
    have hpos : 0 < 2 ^ n := Nat.pow_pos (by decide)
    have hd : 2 ^ n ≤ c := by
      refine Nat.le_of_not_lt (fun z => ?_)
      rw [Nat.div_eq_of_lt z] at hp
      omega
    have e : popS c n = popS (c - 2 ^ n) n := by
      have := popS_mod (c - 2 ^ n) 1 n
      rw [Nat.one_mul, show c - 2 ^ n + 2 ^ n = c by omega] at this
      exact this
    have ih := popS_full n (c - 2 ^ n) (by omega) (by omega)
    omega
/-- if no lesser set does, it is all firms -/
theorem FwB_all {n : Nat} {Ok : Nat → Prop} (hn : n ≤ 12) (hf : Ok (2 ^ n - 1)) (h : ∀ c, c < 2 ^ n → popS c 31 < n → ¬ Ok c) : FwB n Ok (2 ^ n - 1) := by
  have hpos : 0 < 2 ^ n := Nat.pow_pos (by decide)
  refine ⟨by omega, hf, fun c hc ho => ?_⟩
  have h1 : n ≤ popS c 31 := Nat.le_of_not_lt (fun z => h c hc z ho)
  have e : popS c 31 = popS c n := by
    have := popS_up hc (31 - n)
    rw [show n + (31 - n) = 31 by omega] at this
    exact this
  have := popS_full n c hc (by omega)
  exact Or.inr ⟨by rw [this], by omega⟩
/-- stopping all leaves nothing -/
theorem lfS_all {V : VW} {ru : Int32} {L : List (List Nat)} (hW : Wf V) (hr : ∀ i, i < L.length → 2 ≤ (L.getD i []).length ∧ (L.getD i []).length ≤ 6 ∧ ∀ j, j < (L.getD i []).length → (L.getD i []).getD j 0 < V.1 3) : ∀ n, n ≤ L.length → lfS V ru L (nI (2 ^ V.1 2 - 1)) n = 0
  | 0, _ => rfl
  | n + 1, h => by
    show lfS V ru L _ n + (if _ then _ else _) = 0
    rw [lfS_all hW hr n (by omega)]
    obtain ⟨w1, w2, w3⟩ := hr n (by omega)
    have h12 := hW.1.2.2.1
    have key : ∀ k, k ≤ (L.getD n []).length → ∃ X, frmP V (L.getD n []) k = nI X ∧ StX X (fun t => ∃ j, j < k ∧ V.2 10 ((L.getD n []).getD j 0) = nI t) := by
      intro k
      induction k with
      | zero => exact fun _ => ⟨0, rfl, StX.no (fun t _ ⟨j, j1, _⟩ => absurd j1 (Nat.not_lt_zero _))⟩
      | succ k ih =>
        intro hk
        obtain ⟨X, e, hX⟩ := ih (by omega)
        obtain ⟨f, f1, f2, f3⟩ := hW.frm (w3 k (by omega))
        refine ⟨X ||| 2 ^ f, ?_, hX.put (show f < 12 by omega) (fun u hu => ⟨fun ⟨j, j1, j2⟩ => ?_, fun z => ?_⟩)⟩
        · show frmP V (L.getD n []) k ||| _ = _
          rw [e, f2, shl1 (by omega), nI_or]
        · by_cases y : j = k
          · rw [y, f2] at j2
            exact Or.inr (nI_inj (by omega) (by omega) j2).symm
          · exact Or.inl ⟨j, by omega, j2⟩
        · rcases z with ⟨j, j1, j2⟩ | z
          · exact ⟨j, by omega, j2⟩
          · exact ⟨k, by omega, by rw [z]; exact f2⟩
    obtain ⟨X, e, hX⟩ := key _ (Nat.le_refl _)
    obtain ⟨f, f1, f2, f3⟩ := hW.frm (w3 0 (by omega))
    have full : StX (2 ^ V.1 2 - 1) (fun t => t < V.1 2) := by
      have hp : 2 ^ V.1 2 ≤ 2 ^ 12 := Nat.pow_le_pow_right (by decide) h12
      refine ⟨by omega, fun t _ => ?_⟩
      rw [Nat.testBit_two_pow_sub_one]
      exact decide_eq_true_iff
    have m := hX.meet full
    rw [e, if_neg (fun z => (m.mp z) ⟨f, by omega, ⟨0, by omega, f2⟩, f1⟩)]
    rfl
/-- what is answered to fewest -/
def FwR (m : MM) (wy k d : Int32) (t : Int64) (r : Int32) : Prop := (¬ (0 ≤ t.toInt ∧ AsP wy k d) ∧ r = -1) ∨ ((0 ≤ t.toInt ∧ AsP wy k d) ∧ ((200 < (rnL7 m wy k d).length ∧ r = -2) ∨ ((rnL7 m wy k d).length ≤ 200 ∧ ∃ b, FwB ((vw m).1 2) (FwO (vw m) (gI m 1175 40) (rnL7 m wy k d) t.toInt) b ∧ r = nI b)))
theorem FwR_1 {m : MM} {wy k d : Int32} {t : Int64} {r1 r2 : Int32} (h1 : FwR m wy k d t r1) (h2 : FwR m wy k d t r2) : r1 = r2 := by
  rcases h1 with ⟨a, b⟩ | ⟨a, b⟩
  · rcases h2 with ⟨c, e⟩ | ⟨c, e⟩
    · rw [b, e]
    · exact absurd c a
  · rcases h2 with ⟨c, e⟩ | ⟨c, e⟩
    · exact absurd a c
    · rcases b with ⟨b1, b2⟩ | ⟨b1, b', b2, b3⟩
      · rcases e with ⟨e1, e2⟩ | ⟨e1, e2⟩
        · rw [b2, e2]
        · omega
      · rcases e with ⟨e1, e2⟩ | ⟨e1, e', e2, e3⟩
        · omega
        · rw [b3, e3, FwB_1 b2 e2]
/-- what the kept rounds leave -/
def smK (m : MM) (S : Int32) : Nat → Int
  | 0 => 0
  | j + 1 => smK m S j + (if gI m 820312 j &&& S = 0 then (gI m 820328 j).toInt else 0)
theorem smK_cg {m m' : MM} {S : Int32} : ∀ n, (∀ j, j < n → gI m' 820312 j = gI m 820312 j ∧ gI m' 820328 j = gI m 820328 j) → smK m' S n = smK m S n
  | 0, _ => rfl
  | n + 1, h => by
    show smK m' S n + _ = smK m S n + _
    rw [smK_cg n (fun j hj => h j (by omega)), (h n (by omega)).1, (h n (by omega)).2]
def KpW (m : MM) (n : Nat) : Prop := ∀ j, j < n → 0 ≤ (gI m 820328 j).toInt ∧ (gI m 820328 j).toInt ≤ 240000000
theorem smK_rng {m : MM} {S : Int32} : ∀ n, KpW m n → 0 ≤ smK m S n ∧ smK m S n ≤ 240000000 * n
  | 0, _ => ⟨Int.le_refl 0, Int.le_refl 0⟩
  | n + 1, h => by
    have ih := smK_rng (S := S) n (fun j hj => h j (by omega))
    have t := h n (by omega)
    show 0 ≤ smK m S n + (if _ then _ else _) ∧ smK m S n + (if _ then _ else _) ≤ 240000000 * ((n + 1 : Nat) : Int)
    split <;> omega
theorem smK_mono {m : MM} {S : Int32} {a : Nat} : ∀ n, a ≤ n → KpW m n → smK m S a ≤ smK m S n
  | 0, h, _ => by rw [show a = 0 by omega]; exact Int.le_refl _
  | n + 1, h, hw => by
    by_cases q : a = n + 1
    · rw [q]; exact Int.le_refl _
    · have ih := smK_mono (m := m) (S := S) (a := a) n (by omega) (fun j hj => hw j (by omega))
      have t := hw n (by omega)
      show _ ≤ smK m S n + (if _ then _ else _)
      split <;> omega
set_option maxRecDepth 100000 in
set_option maxHeartbeats 8000000 in
theorem r_left {m : MM} {S : Int32} {t : Int64} {K : Nat} (hK : K ≤ 200) (hw : KpW m K) (ht : 0 ≤ t.toInt) : CI 1 mX6_leftIsAtMost [.ref 6, .int S, .int (nI K), .long t] m (fun r m' => m' = m ∧ z1 (smK m S K ≤ t.toInt) r) := by
  have lp : ∀ (d j : Nat) (x : Int64), j + d = K → x.toInt = smK m S j → smK m S j ≤ t.toInt → At (E0 1) mX6_leftIsAtMost (qi (fun r m' => m' = m ∧ z1 (smK m S K ≤ t.toInt) r)) 6 [.ref 6, .int S, .int (nI K), .long t, .null, .long x, .null, .int (nI j)] [] m := by
    intro d
    induction d with
    | zero =>
      intro j x hd hx hl
      refine At.ls okX6_leftIsAtMost 60 ⟨_, _, rfl⟩ ?_
      (conv => whnf)
      refine And.intro (fun p => ?_) (fun p => ?_)
      · exact ⟨Or.inr rfl, rfl, Or.inl ⟨by rw [show K = j by omega]; exact hl, rfl⟩⟩
      · have p : ¬ nI K ≤ nI j := p
        rw [le_i, nI_toInt (by omega), nI_toInt (by omega)] at p
        omega
    | succ d ih =>
      intro j x hd hx hl
      have vj : vp_in (nI j) 200 := vp_in_nI (by omega) (by decide)
      have jc : (nI j).toNatClampNeg = j := nI_clamp (by omega)
      have sr := smK_rng (m := m) (S := S) j (fun i hi => hw i (by omega))
      have wj := hw j (by omega)
      have next : ∀ x' : Int64, x'.toInt = smK m S (j + 1) → smK m S (j + 1) ≤ t.toInt → At (E0 1) mX6_leftIsAtMost (qi (fun r m' => m' = m ∧ z1 (smK m S K ≤ t.toInt) r)) 6 [.ref 6, .int S, .int (nI K), .long t, .null, .long x', .null, .int (nI j + 1)] [] m := by
        intro x' h1 h2
        have z := ih (j + 1) x' (by omega) h1 h2
        rw [← nI_1] at z
        exact z
      refine At.ls okX6_leftIsAtMost 80 ⟨_, _, rfl⟩ ?_
      (conv => whnf)
      refine And.intro (fun p => ?_) (fun p => ?_)
      · have p : nI K ≤ nI j := p
        rw [le_i, nI_toInt (by omega), nI_toInt (by omega)] at p
        omega
      (conv => whnf)
      refine And.intro vj ?_
      (conv => whnf)
      refine And.intro (fun q => ?_) (fun q => ?_)
      · have q : ¬ gI m 820312 (nI j).toNatClampNeg &&& S = 0 := q
        rw [jc] at q
        have e : smK m S (j + 1) = smK m S j := by
          show smK m S j + (if _ then _ else _) = _
          rw [if_neg q, Int.add_zero]
        (conv => whnf)
        exact And.intro rfl (next x (by rw [e]; exact hx) (by rw [e]; exact hl))
      have q : gI m 820312 (nI j).toNatClampNeg &&& S = 0 := q
      rw [jc] at q
      have e : smK m S (j + 1) = smK m S j + (gI m 820328 j).toInt := by
        show smK m S j + (if _ then _ else _) = _
        rw [if_pos q]
      have ex : (x + (gI m 820328 (nI j).toNatClampNeg).toInt64).toInt = smK m S (j + 1) := by
        rw [lJ_add (by rw [hx, jc, Int32.toInt_toInt64]; omega) (by rw [hx, jc, Int32.toInt_toInt64]; omega), hx, jc, Int32.toInt_toInt64, e]
      (conv => whnf)
      refine And.intro vj ?_
      (conv => whnf)
      refine And.intro (fun q2 => ?_) (fun q2 => ?_)
      · have q2 : lg_cmp (x + (gI m 820328 (nI j).toNatClampNeg).toInt64) t ≤ 0 := q2
        have q3 : ¬ 0 < lg_cmp (x + (gI m 820328 (nI j).toNatClampNeg).toInt64) t := fun z => by
          rw [lt_i] at z
          rw [le_i] at q2
          omega
        rw [lgc_gt, ex] at q3
        (conv => whnf)
        exact And.intro rfl (next _ ex (by omega))
      · have q2 : ¬ lg_cmp (x + (gI m 820328 (nI j).toNatClampNeg).toInt64) t ≤ 0 := q2
        have q3 : 0 < lg_cmp (x + (gI m 820328 (nI j).toNatClampNeg).toInt64) t := by
          rw [lt_i]
          rw [le_i] at q2
          omega
        rw [lgc_gt, ex] at q3
        have := smK_mono (m := m) (S := S) (a := j + 1) K (by omega) hw
        exact ⟨Or.inl rfl, rfl, Or.inr ⟨fun z => by omega, rfl⟩⟩
  refine At.gs okX6_leftIsAtMost 60 ?_
  (conv => whnf)
  exact And.intro rfl (lp K 0 0 (by omega) rfl ht)
section Fe
variable {m : MM}
set_option maxRecDepth 100000 in
set_option maxHeartbeats 16000000 in
theorem r_keepW_336 {L : List (List Nat)} (hM : Mok TYg m) (h : SB 336 m) (hc : m.2.2 = (336, 720)) (hF : FS L m) (hl : L.length ≤ 200) (hr : ∀ i, i < L.length → 2 ≤ (L.getD i []).length ∧ (L.getD i []).length ≤ 6 ∧ ∀ j, j < (L.getD i []).length → (L.getD i []).getD j 0 < (vw m).1 3) : CI 5 mX6_keepWorthy [.ref 6, .int (nI L.length)] m (fun r m' => St [49864, 820312, 820328] m m' ∧ ∃ K, K ≤ 200 ∧ r = nI K ∧ KpW m' K ∧ ∀ S, smK m' S K = lfS (vw m) (gI m 1175 40) L S L.length) := by
  obtain ⟨ff, g, c⟩ := m
  obtain rfl : c = (336, 720) := hc
  have hW := h.2.2.2.2.2
  have e0 : (0 : Int32).toInt = 0 := rfl
  refine At.gs okX6_keepWorthy 80 ?_
  (conv => whnf)
  dsimp only
  (conv => whnf)
  refine ⟨4, by decide, _, r_missing_336 hM h, ?_⟩
  rintro mi m1 ⟨S1, hmi⟩
  have ru1 : gI (ff, g, (336, 720)) 6 6 = gI (ff, g, (336, 720)) 1175 40 := h.2.2.2.2.1
  rw [ru1] at hmi
  have lp : ∀ (dd i K : Nat) (v5 : Value) (m2 : MM), i + dd = L.length → K ≤ i → St [49864, 820312, 820328] (ff, g, (336, 720)) m2 → KpW m2 K → (∀ S, smK m2 S K = lfS (vw (ff, g, (336, 720))) (gI (ff, g, (336, 720)) 1175 40) L S i) → At (E0 5) mX6_keepWorthy (qi (fun r m' => St [49864, 820312, 820328] (ff, g, (336, 720)) m' ∧ ∃ K, K ≤ 200 ∧ r = nI K ∧ KpW m' K ∧ ∀ S, smK m' S K = lfS (vw (ff, g, (336, 720))) (gI (ff, g, (336, 720)) 1175 40) L S L.length)) 17 [.ref 6, .int (nI L.length), .int mi, .int (nI K), .int (nI i), v5] [] m2 := by
    intro dd
    induction dd with
    | zero =>
      intro i K v5 m2 hi hK S2 hw hs
      refine At.ls okX6_keepWorthy 60 ⟨_, _, rfl⟩ ?_
      (conv => whnf)
      refine And.intro (fun p => ?_) (fun p => ?_)
      · rw [show i = L.length by omega] at hs
        exact ⟨S2, K, by omega, rfl, hw, hs⟩
      · have p : ¬ nI L.length ≤ nI i := p
        rw [le_i, nI_toInt (by omega), nI_toInt (by omega)] at p
        omega
    | succ dd ih =>
      intro i K v5 m2 hi hK S2 hw hs
      have ic : (nI i).toNatClampNeg = i := nI_clamp (by omega)
      have kc : (nI K).toNatClampNeg = K := nI_clamp (by omega)
      have vi : vp_in (nI i) 200 := vp_in_nI (by omega) (by decide)
      have vk : vp_in (nI K) 200 := vp_in_nI (by omega) (by decide)
      obtain ⟨w1, w2, w3⟩ := hr i (by omega)
      have hF2 : FS L m2 := hF.fr S2.2.2 (by decide)
      obtain ⟨y1, y2⟩ := hF2.2 i (by omega) (by omega)
      have h2 : SB 336 m2 := h.fr (by unfold isBk; omega) S2.2.2 (by decide +kernel)
      have hv2 : vw m2 = vw (ff, g, (336, 720)) := vw_fr S2.2.2 (by decide +kernel)
      have ru2 : gI m2 6 6 = gI (ff, g, (336, 720)) 1175 40 := (fr1 S2.2.2 (by decide)).trans ru1
      have hc2 : m2.2.2 = (336, 720) := S2.2.1
      obtain ⟨f2, g2, c2⟩ := m2
      obtain rfl : c2 = (336, 720) := hc2
      have tr := tak_rng (ru := gI (ff, g, (336, 720)) 1175 40) (ck := ckM (vw (ff, g, (336, 720))) (gI (ff, g, (336, 720)) 1175 40)) hW w3 w2
      have hc : CI 3 mX0_takenBy [.ref 336, .long (gJ (f2, g2, (336, 720)) 819273 (nI i).toNatClampNeg), .int (gI (f2, g2, (336, 720)) 819288 (nI i).toNatClampNeg), .int mi, .int (gI (f2, g2, (336, 720)) 6 6)] (f2, g2, (336, 720)) (fun r m' => m' = (f2, g2, (336, 720)) ∧ r = takP (vw (ff, g, (336, 720))) (ckM (vw (ff, g, (336, 720))) (gI (ff, g, (336, 720)) 1175 40)) (gI (ff, g, (336, 720)) 1175 40) (L.getD i [])) := by
        rw [ic, y2, ru2]
        have z := r_taken_336 (m := (f2, g2, (336, 720))) (ms := mi) (ru := gI (ff, g, (336, 720)) 1175 40) S2.1 h2 y1 (by rw [hv2]; exact w3) (by omega) w2
        rw [hv2] at z
        refine CI.mono z (fun r m' hq => ⟨hq.1, ?_⟩)
        rw [hq.2, hmi]
        exact takP_cg (fun j hj => ck_eq hW (w3 j hj))
      have hcf : ∀ v : Int32, CI 2 mX0_firmsOf [.ref 336, .long (gJ (sI (f2, g2, (336, 720)) 820328 (nI K).toNatClampNeg v) 819273 (nI i).toNatClampNeg), .int (gI (sI (f2, g2, (336, 720)) 820328 (nI K).toNatClampNeg v) 819288 (nI i).toNatClampNeg)] (sI (f2, g2, (336, 720)) 820328 (nI K).toNatClampNeg v) (fun r m' => m' = sI (f2, g2, (336, 720)) 820328 (nI K).toNatClampNeg v ∧ r = frmP (vw (ff, g, (336, 720))) (L.getD i []) (L.getD i []).length) := by
        intro v
        have Sv : St [820328] (f2, g2, (336, 720)) (sI (f2, g2, (336, 720)) 820328 (nI K).toNatClampNeg v) := (St.rf S2.1).row rfl (by decide) (tI_lo _) (tI_hi _)
        have hsv : SB 336 (sI (f2, g2, (336, 720)) 820328 (nI K).toNatClampNeg v) := h2.fr (by unfold isBk; omega) Sv.2.2 (by decide +kernel)
        have hvv : vw (sI (f2, g2, (336, 720)) 820328 (nI K).toNatClampNeg v) = vw (ff, g, (336, 720)) := (vw_fr Sv.2.2 (by decide +kernel)).trans hv2
        have y1v : (gJ (sI (f2, g2, (336, 720)) 820328 (nI K).toNatClampNeg v) 819273 i).toInt = encN (L.getD i []) := y1
        have y2v : gI (sI (f2, g2, (336, 720)) 820328 (nI K).toNatClampNeg v) 819288 i = nI (L.getD i []).length := by rw [gI_if, if_neg (fun z => absurd z.1 (by decide))]; exact y2
        rw [ic, y2v]
        have z := r_firmsOf_336 hsv y1v (by rw [hvv]; exact w3) w2
        rw [hvv] at z
        exact z
      refine At.ls okX6_keepWorthy 120 ⟨_, _, rfl⟩ ?_
      (conv => whnf)
      refine And.intro (fun p => ?_) (fun p => ?_)
      · have p : nI L.length ≤ nI i := p
        rw [le_i, nI_toInt (by omega), nI_toInt (by omega)] at p
        omega
      (conv => whnf)
      dsimp only
      (conv => whnf)
      refine And.intro vi ?_
      (conv => whnf)
      refine And.intro vi ?_
      (conv => whnf)
      refine ⟨3, by decide, _, hc, ?_⟩
      rintro r m' ⟨hmm, hq⟩; have hmm := hmm.symm; subst hmm
      rw [← hq] at tr
      (conv => whnf)
      refine And.intro (fun q => ?_) (fun q => ?_)
      · have q : r ≤ 0 := q
        rw [le_i, e0] at q
        have z := ih (i + 1) K (.int r) (f2, g2, (336, 720)) (by omega) (by omega) S2 hw (fun S => by
          show _ = lfS _ _ L S i + (if _ then _ else _)
          rw [hs S, ← hq]
          split
          · omega
          · omega)
        rw [← nI_1] at z
        (conv => whnf)
        exact And.intro rfl z
      have q : ¬ r ≤ 0 := q
      rw [le_i, e0] at q
      (conv => whnf)
      refine And.intro vk ?_
      (conv => whnf)
      dsimp only [sI_c]
      (conv => whnf)
      refine And.intro vi ?_
      (conv => whnf)
      refine And.intro vi ?_
      (conv => whnf)
      refine ⟨2, by decide, _, hcf r, ?_⟩
      rintro r2 m' ⟨hmm, hq2⟩; have hmm := hmm.symm; subst hmm
      (conv => whnf)
      refine And.intro vk ?_
      have S3 : St [49864, 820312, 820328] (ff, g, (336, 720)) (sI (sI (f2, g2, (336, 720)) 820328 (nI K).toNatClampNeg r) 820312 (nI K).toNatClampNeg r2) := (S2.row (a := 820328) rfl (by decide) (tI_lo _) (tI_hi _)).row (a := 820312) rfl (by decide) (tI_lo _) (tI_hi _)
      have cell : ∀ j, gI (sI (sI (f2, g2, (336, 720)) 820328 (nI K).toNatClampNeg r) 820312 (nI K).toNatClampNeg r2) 820312 j = (if j = K then r2 else gI (f2, g2, (336, 720)) 820312 j) ∧ gI (sI (sI (f2, g2, (336, 720)) 820328 (nI K).toNatClampNeg r) 820312 (nI K).toNatClampNeg r2) 820328 j = (if j = K then r else gI (f2, g2, (336, 720)) 820328 j) := by
        intro j
        rw [kc, gI_if, gI_if, gI_if, gI_if]
        constructor
        · by_cases y : j = K
          · rw [if_pos ⟨rfl, y⟩, if_pos y]
          · rw [if_neg (fun z => y z.2), if_neg y, if_neg (fun z => y z.2)]
        · by_cases y : j = K
          · rw [if_neg (fun z => absurd z.1 (by decide)), if_pos ⟨rfl, y⟩, if_pos y]
          · rw [if_neg (fun z => y z.2), if_neg (fun z => y z.2), if_neg y]
      have z := ih (i + 1) (K + 1) (.int r) _ (by omega) (by omega) S3 (fun j hj => by
        rw [(cell j).2]
        by_cases y : j = K
        · rw [if_pos y]; omega
        · rw [if_neg y]; exact hw j (by omega)) (fun S => by
        show smK _ S K + (if _ then _ else _) = lfS _ _ L S i + (if _ then _ else _)
        rw [smK_cg (m := (f2, g2, (336, 720))) K (fun j hj => by rw [(cell j).1, (cell j).2, if_neg (by omega), if_neg (by omega)]; exact ⟨rfl, rfl⟩), hs S, (cell K).1, (cell K).2, if_pos rfl, if_pos rfl, hq2, ← hq])
      rw [← nI_1, ← nI_1] at z
      (conv => whnf)
      exact And.intro rfl z
  (conv => whnf)
  exact And.intro rfl (lp L.length 0 0 _ m1 (by omega) (by omega) (S1.wd (by decide)) (fun j hj => absurd hj (Nat.not_lt_zero _)) (fun S => rfl))
set_option maxRecDepth 100000 in
set_option maxHeartbeats 16000000 in
theorem r_fewest_336 {wy k d : Int32} {t : Int64} (hM : Mok TYg m) (h : SB 336 m) (hc : m.2.2 = (336, 720)) (hF : FM (vw m) m) : CI 11 mX6_fewest [.ref 6, .int wy, .int k, .int d, .long t] m (fun r m' => FmP m m' ∧ FwR m wy k d t r) := by
  obtain ⟨ff, g, c⟩ := m
  obtain rfl : c = (336, 720) := hc
  have hW := h.2.2.2.2.2
  have h12 := hW.1.2.2.1
  have e0 : (0 : Int32).toInt = 0 := rfl
  have hp2 : 2 ^ (vw (ff, g, (336, 720))).1 2 ≤ 2 ^ 12 := Nat.pow_le_pow_right (by decide) h12
  have hpos : 0 < 2 ^ (vw (ff, g, (336, 720))).1 2 := Nat.pow_pos (by decide)
  refine At.gs okX6_fewest 100 ?_
  (conv => whnf)
  refine And.intro (fun q0 => ?_) (fun q0 => ?_)
  case refine_2 =>
    have q0 : ¬ 0 ≤ lg_cmp t 0 := q0
    rw [lgc_ge0] at q0
    exact ⟨FmP.rf hM hF, Or.inl ⟨fun z => q0 z.1, rfl⟩⟩
  have q0 : 0 ≤ lg_cmp t 0 := q0
  rw [lgc_ge0] at q0
  (conv => whnf)
  refine ⟨10, by decide, _, r_gather_336 hM h rfl hF, ?_⟩
  rintro r m1 hq
  obtain ⟨P1, A1⟩ := ga_cs hM hF hq
  clear hq
  (conv => whnf)
  rcases A1 with ⟨a1, a2⟩ | ⟨a1, a2, a3⟩ | ⟨hA, hl, hr, hS, S1⟩
  · subst a2
    refine And.intro (fun q => absurd q (by decide)) (fun _ => ?_)
    exact ⟨P1, Or.inl ⟨fun z => a1 z.2, rfl⟩⟩
  · subst a3
    refine And.intro (fun q => absurd q (by decide)) (fun _ => ?_)
    exact ⟨P1, Or.inr ⟨⟨q0, a1⟩, Or.inl ⟨a2, rfl⟩⟩⟩
  subst hr
  refine And.intro (fun _ => ?_) (fun q => absurd (show (0 : Int32) ≤ nI (rnL7 (ff, g, (336, 720)) wy k d).length by rw [le_i, e0, nI_toInt (by omega)]; omega) q)
  have h1 : SB 336 m1 := h.fr (by unfold isBk; omega) S1.2.2 (by decide +kernel)
  have hv1 : vw m1 = vw (ff, g, (336, 720)) := vw_fr S1.2.2 (by decide +kernel)
  have hc1 : m1.2.2 = (336, 720) := P1.1.2.1
  have r40 : gI m1 1175 40 = gI (ff, g, (336, 720)) 1175 40 := fr1 S1.2.2 (by decide)
  have hk := r_keepW_336 (m := m1) (L := rnL7 (ff, g, (336, 720)) wy k d) S1.1 h1 hc1 hS hl (fun i hi => by rw [hv1]; exact L_row hA hi)
  rw [hv1, r40] at hk
  (conv => whnf)
  refine ⟨5, by decide, _, hk, ?_⟩
  rintro rk m2 ⟨S2, K, K200, hrk, hw, hs⟩
  subst hrk
  have P2 : FmP (ff, g, (336, 720)) m2 := P1.sc S2 (by decide) (by decide)
  have h2 : SB 336 m2 := h1.fr (by unfold isBk; omega) S2.2.2 (by decide +kernel)
  have hv2 : vw m2 = vw (ff, g, (336, 720)) := (vw_fr S2.2.2 (by decide +kernel)).trans hv1
  have ec5 : gI m2 418 1 = nI ((vw (ff, g, (336, 720))).1 2) := by
    have e : gI m2 418 1 = gI m2 1175 5 := h2.1 2 (by decide)
    rw [e, nI_back (vw2 P2.1.1), hv2]
  have hc2 : m2.2.2 = (336, 720) := P2.1.2.1
  have lim : (1 : Int32) <<< (nI ((vw (ff, g, (336, 720))).1 2) &&& 31) = nI (2 ^ (vw (ff, g, (336, 720))).1 2) := shl1 (by omega)
  obtain ⟨f2, g2, c2⟩ := m2
  obtain rfl : c2 = (336, 720) := hc2
  have okS : ∀ b, (smK (f2, g2, (336, 720)) (nI b) K ≤ t.toInt ↔ FwO (vw (ff, g, (336, 720))) (gI (ff, g, (336, 720)) 1175 40) (rnL7 (ff, g, (336, 720)) wy k d) t.toInt b) := fun b => by
    unfold FwO
    rw [hs]
  have lp : ∀ (dd a : Nat) (v10 : Value), a + dd = (vw (ff, g, (336, 720))).1 2 → (∀ c, c < 2 ^ (vw (ff, g, (336, 720))).1 2 → popS c 31 < a → ¬ FwO (vw (ff, g, (336, 720))) (gI (ff, g, (336, 720)) 1175 40) (rnL7 (ff, g, (336, 720)) wy k d) t.toInt c) → At (E0 11) mX6_fewest (qi (fun r m' => FmP (ff, g, (336, 720)) m' ∧ FwR (ff, g, (336, 720)) wy k d t r)) 49 [.ref 6, .int wy, .int k, .int d, .long t, .null, .int (nI (rnL7 (ff, g, (336, 720)) wy k d).length), .int (nI K), .int (nI ((vw (ff, g, (336, 720))).1 2)), .int (nI a), v10] [] (f2, g2, (336, 720)) := by
    intro dd
    induction dd with
    | zero =>
      intro a v10 ha hn
      refine At.ls okX6_fewest 60 ⟨_, _, rfl⟩ ?_
      (conv => whnf)
      refine And.intro (fun p => ?_) (fun p => ?_)
      · have e : (1 : Int32) <<< (nI ((vw (ff, g, (336, 720))).1 2) &&& 31) - 1 = nI (2 ^ (vw (ff, g, (336, 720))).1 2 - 1) := by
          rw [lim]
          exact pk_sub (a := 2 ^ (vw (ff, g, (336, 720))).1 2) (b := 1) hpos
        refine ⟨P2, Or.inr ⟨⟨q0, hA⟩, Or.inr ⟨hl, 2 ^ (vw (ff, g, (336, 720))).1 2 - 1, FwB_all h12 ?_ (fun c hc hp => hn c hc (by omega)), e⟩⟩⟩
        unfold FwO
        rw [lfS_all hW (fun i hi => L_row hA hi) _ (Nat.le_refl _)]
        exact q0
      · have p : ¬ nI ((vw (ff, g, (336, 720))).1 2) ≤ nI a := p
        rw [le_i, nI_toInt (by omega), nI_toInt (by omega)] at p
        omega
    | succ dd ih =>
      intro a v10 ha hn
      have lp2 : ∀ (d2 b : Nat), b + d2 = 2 ^ (vw (ff, g, (336, 720))).1 2 → (∀ c, c < b → popS c 31 = a → ¬ FwO (vw (ff, g, (336, 720))) (gI (ff, g, (336, 720)) 1175 40) (rnL7 (ff, g, (336, 720)) wy k d) t.toInt c) → At (E0 11) mX6_fewest (qi (fun r m' => FmP (ff, g, (336, 720)) m' ∧ FwR (ff, g, (336, 720)) wy k d t r)) 59 [.ref 6, .int wy, .int k, .int d, .long t, .null, .int (nI (rnL7 (ff, g, (336, 720)) wy k d).length), .int (nI K), .int (nI ((vw (ff, g, (336, 720))).1 2)), .int (nI a), .int (nI b)] [] (f2, g2, (336, 720)) := by
        intro d2
        induction d2 with
        | zero =>
          intro b hb hb2
          refine At.ls okX6_fewest 60 ⟨_, _, rfl⟩ ?_
          (conv => whnf)
          refine And.intro (fun p => ?_) (fun p => ?_)
          · (conv => whnf)
            have z := ih (a + 1) (.int (nI b)) (by omega) (fun c hc hp => by
              by_cases y : popS c 31 = a
              · exact hb2 c (by omega) y
              · exact hn c hc (by omega))
            rw [← nI_1] at z
            exact And.intro rfl z
          · have p : ¬ (1 : Int32) <<< (nI ((vw (ff, g, (336, 720))).1 2) &&& 31) ≤ nI b := p
            rw [lim, le_i, nI_toInt (by omega), nI_toInt (by omega)] at p
            omega
        | succ d2 ih2 =>
          intro b hb hb2
          have hbl : b < 2 ^ (vw (ff, g, (336, 720))).1 2 := by omega
          have next : ¬ (popS b 31 = a ∧ FwO (vw (ff, g, (336, 720))) (gI (ff, g, (336, 720)) 1175 40) (rnL7 (ff, g, (336, 720)) wy k d) t.toInt b) → At (E0 11) mX6_fewest (qi (fun r m' => FmP (ff, g, (336, 720)) m' ∧ FwR (ff, g, (336, 720)) wy k d t r)) 59 [.ref 6, .int wy, .int k, .int d, .long t, .null, .int (nI (rnL7 (ff, g, (336, 720)) wy k d).length), .int (nI K), .int (nI ((vw (ff, g, (336, 720))).1 2)), .int (nI a), .int (nI b + 1)] [] (f2, g2, (336, 720)) := by
            intro hne
            have z := ih2 (b + 1) (by omega) (fun c hc hp => by
              by_cases y : c = b
              · rw [y] at hp ⊢
                exact fun u => hne ⟨hp, u⟩
              · exact hb2 c (by omega) hp)
            rw [← nI_1] at z
            exact z
          have pl := popS_le b 31
          refine At.ls okX6_fewest 80 ⟨_, _, rfl⟩ ?_
          (conv => whnf)
          refine And.intro (fun p => ?_) (fun p => ?_)
          · have p : (1 : Int32) <<< (nI ((vw (ff, g, (336, 720))).1 2) &&& 31) ≤ nI b := p
            rw [lim, le_i, nI_toInt (by omega), nI_toInt (by omega)] at p
            omega
          (conv => whnf)
          refine ⟨1, by decide, _, r_bitC, ?_⟩
          rintro rb m' ⟨hmm, hb3⟩; have hmm := hmm.symm; subst hmm
          rw [bc_ok (by omega)] at hb3
          subst hb3
          (conv => whnf)
          refine And.intro (fun q => ?_) (fun q => ?_)
          · have q : ¬ nI (popS b 31) = nI a := q
            (conv => whnf)
            exact And.intro rfl (next (fun z => q (by rw [z.1])))
          have q : nI (popS b 31) = nI a := q
          have q := nI_inj (by omega) (by omega) q
          (conv => whnf)
          refine ⟨1, by decide, _, r_left (S := nI b) K200 hw q0, ?_⟩
          rintro rl m' ⟨hmm, hz⟩; have hmm := hmm.symm; subst hmm
          rw [z1_cg (okS b)] at hz
          (conv => whnf)
          refine And.intro (fun q2 => ?_) (fun q2 => ?_)
          · have q2 : rl = 0 := q2
            rcases hz with ⟨u1, u2⟩ | ⟨u1, u2⟩
            · rw [u2] at q2; exact absurd q2 (by decide)
            · (conv => whnf)
              exact And.intro rfl (next (fun z => u1 z.2))
          · rcases hz with ⟨u1, u2⟩ | ⟨u1, u2⟩
            · refine ⟨P2, Or.inr ⟨⟨q0, hA⟩, Or.inr ⟨hl, b, ⟨hbl, u1, fun c hc ho => ?_⟩, rfl⟩⟩⟩
              have c1 : ¬ popS c 31 < a := fun z => hn c hc z ho
              by_cases y : popS c 31 = a
              · have c2 : ¬ c < b := fun z => hb2 c z y ho
                exact Or.inr ⟨by omega, by omega⟩
              · exact Or.inl (by omega)
            · exact absurd u2 q2
      refine At.ls okX6_fewest 60 ⟨_, _, rfl⟩ ?_
      (conv => whnf)
      refine And.intro (fun p => ?_) (fun p => ?_)
      · have p : nI ((vw (ff, g, (336, 720))).1 2) ≤ nI a := p
        rw [le_i, nI_toInt (by omega), nI_toInt (by omega)] at p
        omega
      (conv => whnf)
      exact And.intro rfl (lp2 (2 ^ (vw (ff, g, (336, 720))).1 2) 0 (by omega) (fun c hc => absurd hc (Nat.not_lt_zero _)))
  have z := lp ((vw (ff, g, (336, 720))).1 2) 0 .null (by omega) (fun c _ hp => absurd hp (Nat.not_lt_zero _))
  rw [← ec5] at z
  (conv => whnf)
  dsimp only
  (conv => whnf)
  exact And.intro rfl z
set_option maxRecDepth 100000 in
set_option maxHeartbeats 16000000 in
theorem r_keepW_720 {L : List (List Nat)} (hM : Mok TYg m) (h : SB 720 m) (hc : m.2.2 = (720, 336)) (hF : FS L m) (hl : L.length ≤ 200) (hr : ∀ i, i < L.length → 2 ≤ (L.getD i []).length ∧ (L.getD i []).length ≤ 6 ∧ ∀ j, j < (L.getD i []).length → (L.getD i []).getD j 0 < (vw m).1 3) : CI 5 mX6_keepWorthy [.ref 6, .int (nI L.length)] m (fun r m' => St [50248, 820312, 820328] m m' ∧ ∃ K, K ≤ 200 ∧ r = nI K ∧ KpW m' K ∧ ∀ S, smK m' S K = lfS (vw m) (gI m 1175 40) L S L.length) := by
  obtain ⟨ff, g, c⟩ := m
  obtain rfl : c = (720, 336) := hc
  have hW := h.2.2.2.2.2
  have e0 : (0 : Int32).toInt = 0 := rfl
  refine At.gs okX6_keepWorthy 80 ?_
  (conv => whnf)
  dsimp only
  (conv => whnf)
  refine ⟨4, by decide, _, r_missing_720 hM h, ?_⟩
  rintro mi m1 ⟨S1, hmi⟩
  have ru1 : gI (ff, g, (720, 336)) 6 6 = gI (ff, g, (720, 336)) 1175 40 := h.2.2.2.2.1
  rw [ru1] at hmi
  have lp : ∀ (dd i K : Nat) (v5 : Value) (m2 : MM), i + dd = L.length → K ≤ i → St [50248, 820312, 820328] (ff, g, (720, 336)) m2 → KpW m2 K → (∀ S, smK m2 S K = lfS (vw (ff, g, (720, 336))) (gI (ff, g, (720, 336)) 1175 40) L S i) → At (E0 5) mX6_keepWorthy (qi (fun r m' => St [50248, 820312, 820328] (ff, g, (720, 336)) m' ∧ ∃ K, K ≤ 200 ∧ r = nI K ∧ KpW m' K ∧ ∀ S, smK m' S K = lfS (vw (ff, g, (720, 336))) (gI (ff, g, (720, 336)) 1175 40) L S L.length)) 17 [.ref 6, .int (nI L.length), .int mi, .int (nI K), .int (nI i), v5] [] m2 := by
    intro dd
    induction dd with
    | zero =>
      intro i K v5 m2 hi hK S2 hw hs
      refine At.ls okX6_keepWorthy 60 ⟨_, _, rfl⟩ ?_
      (conv => whnf)
      refine And.intro (fun p => ?_) (fun p => ?_)
      · rw [show i = L.length by omega] at hs
        exact ⟨S2, K, by omega, rfl, hw, hs⟩
      · have p : ¬ nI L.length ≤ nI i := p
        rw [le_i, nI_toInt (by omega), nI_toInt (by omega)] at p
        omega
    | succ dd ih =>
      intro i K v5 m2 hi hK S2 hw hs
      have ic : (nI i).toNatClampNeg = i := nI_clamp (by omega)
      have kc : (nI K).toNatClampNeg = K := nI_clamp (by omega)
      have vi : vp_in (nI i) 200 := vp_in_nI (by omega) (by decide)
      have vk : vp_in (nI K) 200 := vp_in_nI (by omega) (by decide)
      obtain ⟨w1, w2, w3⟩ := hr i (by omega)
      have hF2 : FS L m2 := hF.fr S2.2.2 (by decide)
      obtain ⟨y1, y2⟩ := hF2.2 i (by omega) (by omega)
      have h2 : SB 720 m2 := h.fr (by unfold isBk; omega) S2.2.2 (by decide +kernel)
      have hv2 : vw m2 = vw (ff, g, (720, 336)) := vw_fr S2.2.2 (by decide +kernel)
      have ru2 : gI m2 6 6 = gI (ff, g, (720, 336)) 1175 40 := (fr1 S2.2.2 (by decide)).trans ru1
      have hc2 : m2.2.2 = (720, 336) := S2.2.1
      obtain ⟨f2, g2, c2⟩ := m2
      obtain rfl : c2 = (720, 336) := hc2
      have tr := tak_rng (ru := gI (ff, g, (720, 336)) 1175 40) (ck := ckM (vw (ff, g, (720, 336))) (gI (ff, g, (720, 336)) 1175 40)) hW w3 w2
      have hc : CI 3 mX0_takenBy [.ref 720, .long (gJ (f2, g2, (720, 336)) 819273 (nI i).toNatClampNeg), .int (gI (f2, g2, (720, 336)) 819288 (nI i).toNatClampNeg), .int mi, .int (gI (f2, g2, (720, 336)) 6 6)] (f2, g2, (720, 336)) (fun r m' => m' = (f2, g2, (720, 336)) ∧ r = takP (vw (ff, g, (720, 336))) (ckM (vw (ff, g, (720, 336))) (gI (ff, g, (720, 336)) 1175 40)) (gI (ff, g, (720, 336)) 1175 40) (L.getD i [])) := by
        rw [ic, y2, ru2]
        have z := r_taken_720 (m := (f2, g2, (720, 336))) (ms := mi) (ru := gI (ff, g, (720, 336)) 1175 40) S2.1 h2 y1 (by rw [hv2]; exact w3) (by omega) w2
        rw [hv2] at z
        refine CI.mono z (fun r m' hq => ⟨hq.1, ?_⟩)
        rw [hq.2, hmi]
        exact takP_cg (fun j hj => ck_eq hW (w3 j hj))
      have hcf : ∀ v : Int32, CI 2 mX0_firmsOf [.ref 720, .long (gJ (sI (f2, g2, (720, 336)) 820328 (nI K).toNatClampNeg v) 819273 (nI i).toNatClampNeg), .int (gI (sI (f2, g2, (720, 336)) 820328 (nI K).toNatClampNeg v) 819288 (nI i).toNatClampNeg)] (sI (f2, g2, (720, 336)) 820328 (nI K).toNatClampNeg v) (fun r m' => m' = sI (f2, g2, (720, 336)) 820328 (nI K).toNatClampNeg v ∧ r = frmP (vw (ff, g, (720, 336))) (L.getD i []) (L.getD i []).length) := by
        intro v
        have Sv : St [820328] (f2, g2, (720, 336)) (sI (f2, g2, (720, 336)) 820328 (nI K).toNatClampNeg v) := (St.rf S2.1).row rfl (by decide) (tI_lo _) (tI_hi _)
        have hsv : SB 720 (sI (f2, g2, (720, 336)) 820328 (nI K).toNatClampNeg v) := h2.fr (by unfold isBk; omega) Sv.2.2 (by decide +kernel)
        have hvv : vw (sI (f2, g2, (720, 336)) 820328 (nI K).toNatClampNeg v) = vw (ff, g, (720, 336)) := (vw_fr Sv.2.2 (by decide +kernel)).trans hv2
        have y1v : (gJ (sI (f2, g2, (720, 336)) 820328 (nI K).toNatClampNeg v) 819273 i).toInt = encN (L.getD i []) := y1
        have y2v : gI (sI (f2, g2, (720, 336)) 820328 (nI K).toNatClampNeg v) 819288 i = nI (L.getD i []).length := by rw [gI_if, if_neg (fun z => absurd z.1 (by decide))]; exact y2
        rw [ic, y2v]
        have z := r_firmsOf_720 hsv y1v (by rw [hvv]; exact w3) w2
        rw [hvv] at z
        exact z
      refine At.ls okX6_keepWorthy 120 ⟨_, _, rfl⟩ ?_
      (conv => whnf)
      refine And.intro (fun p => ?_) (fun p => ?_)
      · have p : nI L.length ≤ nI i := p
        rw [le_i, nI_toInt (by omega), nI_toInt (by omega)] at p
        omega
      (conv => whnf)
      dsimp only
      (conv => whnf)
      refine And.intro vi ?_
      (conv => whnf)
      refine And.intro vi ?_
      (conv => whnf)
      refine ⟨3, by decide, _, hc, ?_⟩
      rintro r m' ⟨hmm, hq⟩; have hmm := hmm.symm; subst hmm
      rw [← hq] at tr
      (conv => whnf)
      refine And.intro (fun q => ?_) (fun q => ?_)
      · have q : r ≤ 0 := q
        rw [le_i, e0] at q
        have z := ih (i + 1) K (.int r) (f2, g2, (720, 336)) (by omega) (by omega) S2 hw (fun S => by
          show _ = lfS _ _ L S i + (if _ then _ else _)
          rw [hs S, ← hq]
          split
          · omega
          · omega)
        rw [← nI_1] at z
        (conv => whnf)
        exact And.intro rfl z
      have q : ¬ r ≤ 0 := q
      rw [le_i, e0] at q
      (conv => whnf)
      refine And.intro vk ?_
      (conv => whnf)
      dsimp only [sI_c]
      (conv => whnf)
      refine And.intro vi ?_
      (conv => whnf)
      refine And.intro vi ?_
      (conv => whnf)
      refine ⟨2, by decide, _, hcf r, ?_⟩
      rintro r2 m' ⟨hmm, hq2⟩; have hmm := hmm.symm; subst hmm
      (conv => whnf)
      refine And.intro vk ?_
      have S3 : St [50248, 820312, 820328] (ff, g, (720, 336)) (sI (sI (f2, g2, (720, 336)) 820328 (nI K).toNatClampNeg r) 820312 (nI K).toNatClampNeg r2) := (S2.row (a := 820328) rfl (by decide) (tI_lo _) (tI_hi _)).row (a := 820312) rfl (by decide) (tI_lo _) (tI_hi _)
      have cell : ∀ j, gI (sI (sI (f2, g2, (720, 336)) 820328 (nI K).toNatClampNeg r) 820312 (nI K).toNatClampNeg r2) 820312 j = (if j = K then r2 else gI (f2, g2, (720, 336)) 820312 j) ∧ gI (sI (sI (f2, g2, (720, 336)) 820328 (nI K).toNatClampNeg r) 820312 (nI K).toNatClampNeg r2) 820328 j = (if j = K then r else gI (f2, g2, (720, 336)) 820328 j) := by
        intro j
        rw [kc, gI_if, gI_if, gI_if, gI_if]
        constructor
        · by_cases y : j = K
          · rw [if_pos ⟨rfl, y⟩, if_pos y]
          · rw [if_neg (fun z => y z.2), if_neg y, if_neg (fun z => y z.2)]
        · by_cases y : j = K
          · rw [if_neg (fun z => absurd z.1 (by decide)), if_pos ⟨rfl, y⟩, if_pos y]
          · rw [if_neg (fun z => y z.2), if_neg (fun z => y z.2), if_neg y]
      have z := ih (i + 1) (K + 1) (.int r) _ (by omega) (by omega) S3 (fun j hj => by
        rw [(cell j).2]
        by_cases y : j = K
        · rw [if_pos y]; omega
        · rw [if_neg y]; exact hw j (by omega)) (fun S => by
        show smK _ S K + (if _ then _ else _) = lfS _ _ L S i + (if _ then _ else _)
        rw [smK_cg (m := (f2, g2, (720, 336))) K (fun j hj => by rw [(cell j).1, (cell j).2, if_neg (by omega), if_neg (by omega)]; exact ⟨rfl, rfl⟩), hs S, (cell K).1, (cell K).2, if_pos rfl, if_pos rfl, hq2, ← hq])
      rw [← nI_1, ← nI_1] at z
      (conv => whnf)
      exact And.intro rfl z
  (conv => whnf)
  exact And.intro rfl (lp L.length 0 0 _ m1 (by omega) (by omega) (S1.wd (by decide)) (fun j hj => absurd hj (Nat.not_lt_zero _)) (fun S => rfl))
set_option maxRecDepth 100000 in
set_option maxHeartbeats 16000000 in
theorem r_fewest_720 {wy k d : Int32} {t : Int64} (hM : Mok TYg m) (h : SB 720 m) (hc : m.2.2 = (720, 336)) (hF : FM (vw m) m) : CI 11 mX6_fewest [.ref 6, .int wy, .int k, .int d, .long t] m (fun r m' => FmP m m' ∧ FwR m wy k d t r) := by
  obtain ⟨ff, g, c⟩ := m
  obtain rfl : c = (720, 336) := hc
  have hW := h.2.2.2.2.2
  have h12 := hW.1.2.2.1
  have e0 : (0 : Int32).toInt = 0 := rfl
  have hp2 : 2 ^ (vw (ff, g, (720, 336))).1 2 ≤ 2 ^ 12 := Nat.pow_le_pow_right (by decide) h12
  have hpos : 0 < 2 ^ (vw (ff, g, (720, 336))).1 2 := Nat.pow_pos (by decide)
  refine At.gs okX6_fewest 100 ?_
  (conv => whnf)
  refine And.intro (fun q0 => ?_) (fun q0 => ?_)
  case refine_2 =>
    have q0 : ¬ 0 ≤ lg_cmp t 0 := q0
    rw [lgc_ge0] at q0
    exact ⟨FmP.rf hM hF, Or.inl ⟨fun z => q0 z.1, rfl⟩⟩
  have q0 : 0 ≤ lg_cmp t 0 := q0
  rw [lgc_ge0] at q0
  (conv => whnf)
  refine ⟨10, by decide, _, r_gather_720 hM h rfl hF, ?_⟩
  rintro r m1 hq
  obtain ⟨P1, A1⟩ := ga_cs hM hF hq
  clear hq
  (conv => whnf)
  rcases A1 with ⟨a1, a2⟩ | ⟨a1, a2, a3⟩ | ⟨hA, hl, hr, hS, S1⟩
  · subst a2
    refine And.intro (fun q => absurd q (by decide)) (fun _ => ?_)
    exact ⟨P1, Or.inl ⟨fun z => a1 z.2, rfl⟩⟩
  · subst a3
    refine And.intro (fun q => absurd q (by decide)) (fun _ => ?_)
    exact ⟨P1, Or.inr ⟨⟨q0, a1⟩, Or.inl ⟨a2, rfl⟩⟩⟩
  subst hr
  refine And.intro (fun _ => ?_) (fun q => absurd (show (0 : Int32) ≤ nI (rnL7 (ff, g, (720, 336)) wy k d).length by rw [le_i, e0, nI_toInt (by omega)]; omega) q)
  have h1 : SB 720 m1 := h.fr (by unfold isBk; omega) S1.2.2 (by decide +kernel)
  have hv1 : vw m1 = vw (ff, g, (720, 336)) := vw_fr S1.2.2 (by decide +kernel)
  have hc1 : m1.2.2 = (720, 336) := P1.1.2.1
  have r40 : gI m1 1175 40 = gI (ff, g, (720, 336)) 1175 40 := fr1 S1.2.2 (by decide)
  have hk := r_keepW_720 (m := m1) (L := rnL7 (ff, g, (720, 336)) wy k d) S1.1 h1 hc1 hS hl (fun i hi => by rw [hv1]; exact L_row hA hi)
  rw [hv1, r40] at hk
  (conv => whnf)
  refine ⟨5, by decide, _, hk, ?_⟩
  rintro rk m2 ⟨S2, K, K200, hrk, hw, hs⟩
  subst hrk
  have P2 : FmP (ff, g, (720, 336)) m2 := P1.sc S2 (by decide) (by decide)
  have h2 : SB 720 m2 := h1.fr (by unfold isBk; omega) S2.2.2 (by decide +kernel)
  have hv2 : vw m2 = vw (ff, g, (720, 336)) := (vw_fr S2.2.2 (by decide +kernel)).trans hv1
  have ec5 : gI m2 802 1 = nI ((vw (ff, g, (720, 336))).1 2) := by
    have e : gI m2 802 1 = gI m2 1175 5 := h2.1 2 (by decide)
    rw [e, nI_back (vw2 P2.1.1), hv2]
  have hc2 : m2.2.2 = (720, 336) := P2.1.2.1
  have lim : (1 : Int32) <<< (nI ((vw (ff, g, (720, 336))).1 2) &&& 31) = nI (2 ^ (vw (ff, g, (720, 336))).1 2) := shl1 (by omega)
  obtain ⟨f2, g2, c2⟩ := m2
  obtain rfl : c2 = (720, 336) := hc2
  have okS : ∀ b, (smK (f2, g2, (720, 336)) (nI b) K ≤ t.toInt ↔ FwO (vw (ff, g, (720, 336))) (gI (ff, g, (720, 336)) 1175 40) (rnL7 (ff, g, (720, 336)) wy k d) t.toInt b) := fun b => by
    unfold FwO
    rw [hs]
  have lp : ∀ (dd a : Nat) (v10 : Value), a + dd = (vw (ff, g, (720, 336))).1 2 → (∀ c, c < 2 ^ (vw (ff, g, (720, 336))).1 2 → popS c 31 < a → ¬ FwO (vw (ff, g, (720, 336))) (gI (ff, g, (720, 336)) 1175 40) (rnL7 (ff, g, (720, 336)) wy k d) t.toInt c) → At (E0 11) mX6_fewest (qi (fun r m' => FmP (ff, g, (720, 336)) m' ∧ FwR (ff, g, (720, 336)) wy k d t r)) 49 [.ref 6, .int wy, .int k, .int d, .long t, .null, .int (nI (rnL7 (ff, g, (720, 336)) wy k d).length), .int (nI K), .int (nI ((vw (ff, g, (720, 336))).1 2)), .int (nI a), v10] [] (f2, g2, (720, 336)) := by
    intro dd
    induction dd with
    | zero =>
      intro a v10 ha hn
      refine At.ls okX6_fewest 60 ⟨_, _, rfl⟩ ?_
      (conv => whnf)
      refine And.intro (fun p => ?_) (fun p => ?_)
      · have e : (1 : Int32) <<< (nI ((vw (ff, g, (720, 336))).1 2) &&& 31) - 1 = nI (2 ^ (vw (ff, g, (720, 336))).1 2 - 1) := by
          rw [lim]
          exact pk_sub (a := 2 ^ (vw (ff, g, (720, 336))).1 2) (b := 1) hpos
        refine ⟨P2, Or.inr ⟨⟨q0, hA⟩, Or.inr ⟨hl, 2 ^ (vw (ff, g, (720, 336))).1 2 - 1, FwB_all h12 ?_ (fun c hc hp => hn c hc (by omega)), e⟩⟩⟩
        unfold FwO
        rw [lfS_all hW (fun i hi => L_row hA hi) _ (Nat.le_refl _)]
        exact q0
      · have p : ¬ nI ((vw (ff, g, (720, 336))).1 2) ≤ nI a := p
        rw [le_i, nI_toInt (by omega), nI_toInt (by omega)] at p
        omega
    | succ dd ih =>
      intro a v10 ha hn
      have lp2 : ∀ (d2 b : Nat), b + d2 = 2 ^ (vw (ff, g, (720, 336))).1 2 → (∀ c, c < b → popS c 31 = a → ¬ FwO (vw (ff, g, (720, 336))) (gI (ff, g, (720, 336)) 1175 40) (rnL7 (ff, g, (720, 336)) wy k d) t.toInt c) → At (E0 11) mX6_fewest (qi (fun r m' => FmP (ff, g, (720, 336)) m' ∧ FwR (ff, g, (720, 336)) wy k d t r)) 59 [.ref 6, .int wy, .int k, .int d, .long t, .null, .int (nI (rnL7 (ff, g, (720, 336)) wy k d).length), .int (nI K), .int (nI ((vw (ff, g, (720, 336))).1 2)), .int (nI a), .int (nI b)] [] (f2, g2, (720, 336)) := by
        intro d2
        induction d2 with
        | zero =>
          intro b hb hb2
          refine At.ls okX6_fewest 60 ⟨_, _, rfl⟩ ?_
          (conv => whnf)
          refine And.intro (fun p => ?_) (fun p => ?_)
          · (conv => whnf)
            have z := ih (a + 1) (.int (nI b)) (by omega) (fun c hc hp => by
              by_cases y : popS c 31 = a
              · exact hb2 c (by omega) y
              · exact hn c hc (by omega))
            rw [← nI_1] at z
            exact And.intro rfl z
          · have p : ¬ (1 : Int32) <<< (nI ((vw (ff, g, (720, 336))).1 2) &&& 31) ≤ nI b := p
            rw [lim, le_i, nI_toInt (by omega), nI_toInt (by omega)] at p
            omega
        | succ d2 ih2 =>
          intro b hb hb2
          have hbl : b < 2 ^ (vw (ff, g, (720, 336))).1 2 := by omega
          have next : ¬ (popS b 31 = a ∧ FwO (vw (ff, g, (720, 336))) (gI (ff, g, (720, 336)) 1175 40) (rnL7 (ff, g, (720, 336)) wy k d) t.toInt b) → At (E0 11) mX6_fewest (qi (fun r m' => FmP (ff, g, (720, 336)) m' ∧ FwR (ff, g, (720, 336)) wy k d t r)) 59 [.ref 6, .int wy, .int k, .int d, .long t, .null, .int (nI (rnL7 (ff, g, (720, 336)) wy k d).length), .int (nI K), .int (nI ((vw (ff, g, (720, 336))).1 2)), .int (nI a), .int (nI b + 1)] [] (f2, g2, (720, 336)) := by
            intro hne
            have z := ih2 (b + 1) (by omega) (fun c hc hp => by
              by_cases y : c = b
              · rw [y] at hp ⊢
                exact fun u => hne ⟨hp, u⟩
              · exact hb2 c (by omega) hp)
            rw [← nI_1] at z
            exact z
          have pl := popS_le b 31
          refine At.ls okX6_fewest 80 ⟨_, _, rfl⟩ ?_
          (conv => whnf)
          refine And.intro (fun p => ?_) (fun p => ?_)
          · have p : (1 : Int32) <<< (nI ((vw (ff, g, (720, 336))).1 2) &&& 31) ≤ nI b := p
            rw [lim, le_i, nI_toInt (by omega), nI_toInt (by omega)] at p
            omega
          (conv => whnf)
          refine ⟨1, by decide, _, r_bitC, ?_⟩
          rintro rb m' ⟨hmm, hb3⟩; have hmm := hmm.symm; subst hmm
          rw [bc_ok (by omega)] at hb3
          subst hb3
          (conv => whnf)
          refine And.intro (fun q => ?_) (fun q => ?_)
          · have q : ¬ nI (popS b 31) = nI a := q
            (conv => whnf)
            exact And.intro rfl (next (fun z => q (by rw [z.1])))
          have q : nI (popS b 31) = nI a := q
          have q := nI_inj (by omega) (by omega) q
          (conv => whnf)
          refine ⟨1, by decide, _, r_left (S := nI b) K200 hw q0, ?_⟩
          rintro rl m' ⟨hmm, hz⟩; have hmm := hmm.symm; subst hmm
          rw [z1_cg (okS b)] at hz
          (conv => whnf)
          refine And.intro (fun q2 => ?_) (fun q2 => ?_)
          · have q2 : rl = 0 := q2
            rcases hz with ⟨u1, u2⟩ | ⟨u1, u2⟩
            · rw [u2] at q2; exact absurd q2 (by decide)
            · (conv => whnf)
              exact And.intro rfl (next (fun z => u1 z.2))
          · rcases hz with ⟨u1, u2⟩ | ⟨u1, u2⟩
            · refine ⟨P2, Or.inr ⟨⟨q0, hA⟩, Or.inr ⟨hl, b, ⟨hbl, u1, fun c hc ho => ?_⟩, rfl⟩⟩⟩
              have c1 : ¬ popS c 31 < a := fun z => hn c hc z ho
              by_cases y : popS c 31 = a
              · have c2 : ¬ c < b := fun z => hb2 c z y ho
                exact Or.inr ⟨by omega, by omega⟩
              · exact Or.inl (by omega)
            · exact absurd u2 q2
      refine At.ls okX6_fewest 60 ⟨_, _, rfl⟩ ?_
      (conv => whnf)
      refine And.intro (fun p => ?_) (fun p => ?_)
      · have p : nI ((vw (ff, g, (720, 336))).1 2) ≤ nI a := p
        rw [le_i, nI_toInt (by omega), nI_toInt (by omega)] at p
        omega
      (conv => whnf)
      exact And.intro rfl (lp2 (2 ^ (vw (ff, g, (720, 336))).1 2) 0 (by omega) (fun c hc => absurd hc (Nat.not_lt_zero _)))
  have z := lp ((vw (ff, g, (720, 336))).1 2) 0 .null (by omega) (fun c _ hp => absurd hp (Nat.not_lt_zero _))
  rw [← ec5] at z
  (conv => whnf)
  dsimp only
  (conv => whnf)
  exact And.intro rfl z
end Fe
