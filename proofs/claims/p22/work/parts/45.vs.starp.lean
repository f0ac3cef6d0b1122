/-! starve of both -/
def sL (f : Nat → Int) : Nat → Int
  | 0 => 0
  | n + 1 => sL f n + f n
theorem sL_cg {f g : Nat → Int} : ∀ n, (∀ i, i < n → f i = g i) → sL f n = sL g n
  | 0, _ => rfl
  | n + 1, h => by
    show sL f n + f n = sL g n + g n
    rw [sL_cg n (fun i hi => h i (by omega)), h n (by omega)]
theorem sL_add {f g : Nat → Int} : ∀ n, sL (fun i => f i + g i) n = sL f n + sL g n
  | 0 => rfl
  | n + 1 => by
    show sL (fun i => f i + g i) n + (f n + g n) = sL f n + f n + (sL g n + g n)
    rw [sL_add n]
    omega
theorem sL_mul {f : Nat → Int} {c : Int} : ∀ n, sL (fun i => f i * c) n = sL f n * c
  | 0 => (Int.zero_mul c).symm
  | n + 1 => by
    show sL (fun i => f i * c) n + f n * c = (sL f n + f n) * c
    rw [sL_mul n, Int.add_mul]
theorem sL_0 : ∀ n, sL (fun _ => 0) n = 0
  | 0 => rfl
  | n + 1 => by
    show sL (fun _ => 0) n + 0 = 0
    rw [sL_0 n]
    rfl
theorem sL_one {a : Nat} {x : Int} : ∀ n, sL (fun l => if l = a then x else 0) n = if a < n then x else 0
  | 0 => rfl
  | n + 1 => by
    show sL (fun l => if l = a then x else 0) n + (if n = a then x else 0) = _
    rw [sL_one n]
    by_cases q : n = a
    · rw [if_neg (by omega), if_pos q, if_pos (by omega)]
      omega
    · rw [if_neg q]
      by_cases y : a < n
      · rw [if_pos y, if_pos (by omega)]; omega
      · rw [if_neg y, if_neg (by omega)]; rfl
theorem sL_rng {f : Nat → Int} {M : Int} : ∀ n, (∀ i, i < n → 0 ≤ f i ∧ f i ≤ M) → 0 ≤ sL f n ∧ sL f n ≤ M * n
  | 0, _ => ⟨Int.le_refl 0, by show (0 : Int) ≤ M * 0; rw [Int.mul_zero]; exact Int.le_refl 0⟩
  | n + 1, h => by
    have ih := sL_rng n (fun i hi => h i (by omega))
    have t := h n (by omega)
    have e : M * ((n + 1 : Nat) : Int) = M * n + M := by
      rw [Int.natCast_add, Int.mul_add]
      show M * n + M * 1 = _
      rw [Int.mul_one]
    show 0 ≤ sL f n + f n ∧ sL f n + f n ≤ M * ((n + 1 : Nat) : Int)
    rw [e]
    omega
section Rg
variable {V : VW} {g : Nat → Int32} {st wy : Int32}
/-- a row's sales go from one to the next -/
def RgI (V : VW) (g : Nat → Int32) (row : List Nat) : Prop := ∀ k, k + 1 < row.length → g (row.getD k 0) = V.2 10 (row.getD (k + 1) 0)
theorem rnO_rg {hm : Int32} {late : Int} {x : List Nat} : ∀ n row last, 1 ≤ row.length → row.getD (row.length - 1) 0 = last → RgI V g row → V.2 10 (row.getD 0 0) = hm → x ∈ rnO (V.1 3) (V.2 10) g hm (rnC V g st wy hm late) n row last → RgI V g x ∧ g (x.getD (x.length - 1) 0) = V.2 10 (x.getD 0 0)
  | 0, row, last, h1, hl, hR, h0, h => by
    obtain ⟨a, b⟩ := rnP_mem h
    rw [List.mem_singleton.mp b, hl, h0]
    exact ⟨hR, a.1⟩
  | n + 1, row, last, h1, hl, hR, h0, h => by
    rcases List.mem_append.mp h with q | q
    · obtain ⟨a, b⟩ := rnP_mem q
      rw [List.mem_singleton.mp b, hl, h0]
      exact ⟨hR, a.1⟩
    · obtain ⟨s, s1, s2⟩ := rnF_mem _ (rnP_mem q).2
      obtain ⟨s3, s4⟩ := rnP_mem s2
      refine rnO_rg n (row ++ [s]) s (by rw [len_r]; omega) (by rw [len_r, Nat.add_sub_cancel]; exact gD_r) (fun k hk => ?_) (by rw [gD_l (by omega)]; exact h0) s4
      rw [len_r] at hk
      by_cases y : k + 1 < row.length
      · rw [gD_l (by omega), gD_l y]; exact hR k y
      · rw [gD_l (show k < row.length by omega), show k + 1 = row.length by omega, gD_r, show k = row.length - 1 by omega, hl]
        exact s3.1.2.2.1.symm
theorem rnAC_rg {k : Nat} {d : Int} {x : List Nat} (h : x ∈ rnAC V g st wy k d) : ∀ j, j < x.length → g (x.getD (prvI x.length j) 0) = V.2 10 (x.getD j 0) := by
  obtain ⟨s, s1, s2⟩ := rnF_mem _ h
  have y := rnO_rg (V := V) (g := g) (st := st) (wy := wy) (k - 1) [s] s (Nat.le_refl _) rfl (fun k hk => absurd (show k + 1 < 1 from hk) (by omega)) rfl (rnP_mem s2).2
  intro j hj
  unfold prvI
  by_cases q : j = 0
  · rw [if_pos q, q]; exact y.2
  · rw [if_neg q]
    have := y.1 (j - 1) (by omega)
    rw [show j - 1 + 1 = j by omega] at this
    exact this
end Rg
section Sv
variable {V : VW}
def dmx (V : VW) (ru : Int32) (row : List Nat) (k : Nat) : Int := if 0 < difP V ru row k then (difP V ru row k).toInt else 0
def zS (V : VW) (ck : Nat → Bool) (ru : Int32) (row : List Nat) : Nat → Int := sL (fun k => if ck (row.getD k 0) = true then dmx V ru row k else 0)
theorem tkS_z (hW : Wf V) {ck : Nat → Bool} {ru : Int32} {row : List Nat} (hr : ∀ i, i < row.length → row.getD i 0 < V.1 3) (h6 : row.length ≤ 6) : ∀ n, n ≤ row.length → (tkS V ck ru row n).toInt = zS V ck ru row n
  | 0, _ => rfl
  | n + 1, h => by
    have e0 : (0 : Int32).toInt = 0 := rfl
    have ih := tkS_z hW (ck := ck) (ru := ru) hr h6 n (by omega)
    have b := tkS_rng (ru := ru) (ck := ck) hW hr h6 n (by omega)
    have d := dif_rng (ru := ru) hW hr (show n < row.length by omega)
    show (if ck (row.getD n 0) = true then tkS V ck ru row n + (if 0 < difP V ru row n then difP V ru row n else 0) else tkS V ck ru row n).toInt = zS V ck ru row n + (if ck (row.getD n 0) = true then dmx V ru row n else 0)
    unfold dmx
    by_cases q : ck (row.getD n 0) = true
    · rw [if_pos q, if_pos q]
      by_cases y : 0 < difP V ru row n
      · rw [if_pos y, if_pos y]
        rw [lt_i, e0] at y
        rw [tI_add (by unfold i32lo; omega) (by unfold i32hi; omega), ih]
      · rw [if_neg y, if_neg y, tI_add (by rw [e0]; unfold i32lo; omega) (by rw [e0]; unfold i32hi; omega), e0, ih]
    · rw [if_neg q, if_neg q, ih]
      omega
theorem tak_z (hW : Wf V) {ck : Nat → Bool} {ru : Int32} {row : List Nat} (hr : ∀ i, i < row.length → row.getD i 0 < V.1 3) (h6 : row.length ≤ 6) : (takP V ck ru row).toInt = zS V ck ru row row.length * (carP V row row.length).toInt := by
  have a := tkS_rng (ru := ru) (ck := ck) hW hr h6 row.length (Nat.le_refl _)
  have b := car_rng hW hr row.length (Nat.le_refl _)
  have c : 0 ≤ (tkS V ck ru row row.length).toInt * (carP V row row.length).toInt := Int.mul_nonneg (by omega) (by omega)
  have d : (tkS V ck ru row row.length).toInt * (carP V row row.length).toInt ≤ 239760 * 999 := Int.mul_le_mul (by omega) (by omega) (by omega) (by omega)
  unfold takP
  rw [tI_mul (by unfold i32lo; omega) (by unfold i32hi; omega), tkS_z hW hr h6 _ (Nat.le_refl _)]
/-- missing, and of land l -/
def ckL (V : VW) (l s : Nat) : Bool := misB V 0 (V.2 10 s).toNatClampNeg && decide (lanS V s = nI l)
/-- the rule in a firm's own land takes its part away, the rule elsewhere nothing -/
theorem dmx_S (hW : Wf V) {S : Int32} {row : List Nat} {k : Nat} (hr : ∀ i, i < row.length → row.getD i 0 < V.1 3) (hk : k < row.length) (hg : V.2 11 (row.getD (prvI row.length k) 0) = V.2 10 (row.getD k 0)) : dmx V S row k = if bt S (lanS V (row.getD k 0)) = 0 then dmx V 0 row k else 0 := by
  have lb : lanB V (row.getD (prvI row.length k) 0) = lanS V (row.getD k 0) := by unfold lanB lanS; rw [hg]
  have b0 : ∀ x : Int32, bt 0 x = 0 := fun x => by
    unfold bt
    rw [show (0 : Int32) >>> (x &&& 31) = 0 by
      apply Int32.toBitVec_inj.mp
      rw [Int32.toBitVec_shiftRight]
      show BitVec.sshiftRight' 0#32 _ = 0#32
      rw [BitVec.sshiftRight_eq', BitVec.zero_sshiftRight]]
    rfl
  have e0 : (0 : Int32).toInt = 0 := rfl
  have key : bt S (lanS V (row.getD k 0)) = 0 → difP V S row k = difP V 0 row k := by
    intro h
    unfold difP eacP
    have r1 : rateP V S (row.getD k 0) = rateP V 0 (row.getD k 0) := by
      unfold rateP
      rw [h, b0]
    have r2 : rateP V S (row.getD (prvI row.length k) 0) = rateP V 0 (row.getD (prvI row.length k) 0) := by
      unfold rateP
      rw [b0]
      by_cases q : lanS V (row.getD (prvI row.length k) 0) = lanB V (row.getD (prvI row.length k) 0)
      · rw [q, lb, h]
      · rw [if_neg (fun z => q z.1), if_neg (fun z => q z.1)]
    rw [r1, r2]
  have zer : ¬ bt S (lanS V (row.getD k 0)) = 0 → difP V S row k = 0 := by
    intro h
    unfold difP eacP
    have r1 : rateP V S (row.getD k 0) = 0 := by
      unfold rateP
      rw [if_neg (fun z => h z.2)]
    have r2 : rateP V S (row.getD (prvI row.length k) 0) = 0 := by
      unfold rateP
      by_cases q : lanS V (row.getD (prvI row.length k) 0) = lanB V (row.getD (prvI row.length k) 0)
      · rw [q, lb, if_neg (fun z => h z.2)]
      · rw [if_neg (fun z => q z.1)]
    rw [r1, r2, Int32.mul_zero, Int32.mul_zero]
    rfl
  unfold dmx
  by_cases h : bt S (lanS V (row.getD k 0)) = 0
  · rw [if_pos h, key h]
  · rw [if_neg h, zer h, if_neg (by rw [lt_i, e0]; omega)]
/-- by lands -/
theorem zS_L (hW : Wf V) {S : Int32} {row : List Nat} (hr : ∀ i, i < row.length → row.getD i 0 < V.1 3) (hg : ∀ j, j < row.length → V.2 11 (row.getD (prvI row.length j) 0) = V.2 10 (row.getD j 0)) : ∀ n, n ≤ row.length → zS V (ckM V 0) S row n = sL (fun l => if bt S (nI l) = 0 then zS V (ckL V l) 0 row n else 0) (V.1 0)
  | 0, _ => by
    show (0 : Int) = _
    rw [sL_cg (g := fun _ => 0) (V.1 0) (fun l _ => by
      show (if bt S (nI l) = 0 then (0 : Int) else 0) = 0
      split <;> rfl), sL_0]
  | n + 1, h => by
    have ih := zS_L hW (S := S) hr hg n (by omega)
    have hn : n < row.length := by omega
    obtain ⟨f, f1, f2, f3⟩ := hW.frm (hr n hn)
    obtain ⟨l0, l1, l2, l3⟩ := hW.lan f1
    have eL : lanS V (row.getD n 0) = nI l0 := by unfold lanS; rw [f3]; exact l2
    have d := dmx_S hW (S := S) hr hn (hg n hn)
    rw [eL] at d
    show zS V (ckM V 0) S row n + (if ckM V 0 (row.getD n 0) = true then dmx V S row n else 0) = _
    have so : sL (fun l => if l = l0 then (if ckM V 0 (row.getD n 0) = true then (if bt S (nI l0) = 0 then dmx V 0 row n else 0) else 0) else 0) (V.1 0) = (if ckM V 0 (row.getD n 0) = true then (if bt S (nI l0) = 0 then dmx V 0 row n else 0) else 0) := (sL_one (V.1 0)).trans (if_pos l1)
    rw [ih, d, ← so, ← sL_add]
    refine sL_cg _ (fun l hl => ?_)
    show (if bt S (nI l) = 0 then zS V (ckL V l) 0 row n else 0) + (if l = l0 then _ else 0) = if bt S (nI l) = 0 then zS V (ckL V l) 0 row n + (if ckL V l (row.getD n 0) = true then dmx V 0 row n else 0) else 0
    have ec : ckL V l (row.getD n 0) = (ckM V 0 (row.getD n 0) && decide (l = l0)) := by
      unfold ckL ckM
      rw [eL]
      congr 1
      by_cases y : l = l0
      · rw [decide_eq_true y, y, decide_eq_true rfl]
      · rw [decide_eq_false y]
        exact decide_eq_false (fun z => y (nI_inj (by have := hW.1.1; omega) (by have := hW.1.1; omega) z).symm)
    rw [ec]
    by_cases y : l = l0
    · rw [if_pos y, decide_eq_true y, Bool.and_true, y]
      by_cases u : bt S (nI l0) = 0
      · rw [if_pos u, if_pos u, if_pos u]
      · rw [if_neg u, if_neg u, if_neg u]
        split <;> rfl
    · rw [if_neg y, decide_eq_false y, Int.add_zero]
      simp only [Bool.and_false, Bool.false_eq_true, ↓reduceIte, Int.add_zero]
/-- what all rounds take by the firms of land l -/
def TL (V : VW) (L : List (List Nat)) (l : Nat) : Int := sL (fun i => (takP V (ckL V l) 0 (L.getD i [])).toInt) L.length
def burL (V : VW) (l : Nat) : Nat := cntB (honB V (nI l)) (V.1 3)
def TOL (V : VW) (L : List (List Nat)) (S : Int32) : Int := sL (fun l => if bt S (nI l) = 0 then TL V L l else 0) (V.1 0)
def BI (V : VW) (S : Int32) : Int := sL (fun l => if bt S (nI l) = 0 then 0 else (burL V l : Int)) (V.1 0)
/-- the takes by the rule in S are those of the lands without it -/
theorem TOL_all (hW : Wf V) {S : Int32} {L : List (List Nat)} (hr : ∀ i, i < L.length → (L.getD i []).length ≤ 6 ∧ (∀ j, j < (L.getD i []).length → (L.getD i []).getD j 0 < V.1 3) ∧ ∀ j, j < (L.getD i []).length → V.2 11 ((L.getD i []).getD (prvI (L.getD i []).length j) 0) = V.2 10 ((L.getD i []).getD j 0)) : ∀ n, n ≤ L.length → sL (fun i => (takP V (ckM V 0) S (L.getD i [])).toInt) n = sL (fun l => if bt S (nI l) = 0 then sL (fun i => (takP V (ckL V l) 0 (L.getD i [])).toInt) n else 0) (V.1 0)
  | 0, _ => by
    show (0 : Int) = _
    rw [sL_cg (g := fun _ => 0) (V.1 0) (fun l _ => by
      show (if bt S (nI l) = 0 then (0 : Int) else 0) = 0
      split <;> rfl), sL_0]
  | n + 1, h => by
    obtain ⟨w2, w3, w4⟩ := hr n (by omega)
    show sL _ n + (takP V (ckM V 0) S (L.getD n [])).toInt = _
    rw [TOL_all hW hr n (by omega), tak_z hW w3 w2, zS_L hW w3 w4 _ (Nat.le_refl _), ← sL_mul, ← sL_add]
    refine sL_cg _ (fun l _ => ?_)
    show (if bt S (nI l) = 0 then _ else 0) + (if bt S (nI l) = 0 then _ else 0) * _ = if bt S (nI l) = 0 then sL _ n + (takP V (ckL V l) 0 (L.getD n [])).toInt else 0
    by_cases u : bt S (nI l) = 0
    · rw [if_pos u, if_pos u, if_pos u, tak_z hW w3 w2]
    · rw [if_neg u, if_neg u, if_neg u, Int.zero_mul]
      rfl
theorem burL_le (hW : Wf V) (l : Nat) : burL V l ≤ 40 := Nat.le_trans (cntB_le _ _) hW.1.2.2.2
theorem BI_rng (hW : Wf V) (S : Int32) : ∀ n, n ≤ 5 → 0 ≤ sL (fun l => if bt S (nI l) = 0 then 0 else (burL V l : Int)) n ∧ sL (fun l => if bt S (nI l) = 0 then 0 else (burL V l : Int)) n ≤ 40 * n := fun n _ => sL_rng n (fun l _ => by
  have := burL_le hW l
  show 0 ≤ (if bt S (nI l) = 0 then (0 : Int) else (burL V l : Int)) ∧ (if bt S (nI l) = 0 then (0 : Int) else (burL V l : Int)) ≤ 40
  split <;> omega)
theorem TL_rng (hW : Wf V) {L : List (List Nat)} (hl : L.length ≤ 200) (hr : ∀ i, i < L.length → (L.getD i []).length ≤ 6 ∧ ∀ j, j < (L.getD i []).length → (L.getD i []).getD j 0 < V.1 3) (l : Nat) : ∀ n, n ≤ L.length → 0 ≤ sL (fun i => (takP V (ckL V l) 0 (L.getD i [])).toInt) n ∧ sL (fun i => (takP V (ckL V l) 0 (L.getD i [])).toInt) n ≤ 48000000000 := fun n hn => by
  have := sL_rng (f := fun i => (takP V (ckL V l) 0 (L.getD i [])).toInt) (M := 240000000) n (fun i hi => tak_rng hW (hr i (by omega)).2 (hr i (by omega)).1)
  omega
theorem TO_rng (hW : Wf V) {L : List (List Nat)} (hl : L.length ≤ 200) (hr : ∀ i, i < L.length → (L.getD i []).length ≤ 6 ∧ ∀ j, j < (L.getD i []).length → (L.getD i []).getD j 0 < V.1 3) (S : Int32) : ∀ n, n ≤ 5 → 0 ≤ sL (fun l => if bt S (nI l) = 0 then TL V L l else 0) n ∧ sL (fun l => if bt S (nI l) = 0 then TL V L l else 0) n ≤ 48000000000 * n := fun n _ => sL_rng n (fun l _ => by
  have := TL_rng hW hl hr l L.length (Nat.le_refl _)
  show 0 ≤ (if bt S (nI l) = 0 then TL V L l else 0) ∧ (if bt S (nI l) = 0 then TL V L l else 0) ≤ 48000000000
  unfold TL
  split <;> omega)
/-- the lands that starve best, of sets below s -/
def SvB (V : VW) (L : List (List Nat)) (pu : Int) (s b : Nat) : Prop := b < s ∧ BI V (nI b) ≤ pu ∧ ∀ c, c < s → BI V (nI c) ≤ pu → TOL V L (nI b) < TOL V L (nI c) ∨ (TOL V L (nI b) = TOL V L (nI c) ∧ (BI V (nI b) < BI V (nI c) ∨ (BI V (nI b) = BI V (nI c) ∧ b ≤ c)))
theorem SvB_1 {L : List (List Nat)} {pu : Int} {s b b' : Nat} (h : SvB V L pu s b) (h' : SvB V L pu s b') : b = b' := by
  have a := h.2.2 b' h'.1 h'.2.1
  have c := h'.2.2 b h.1 h.2.1
  omega
theorem SvB_put {L : List (List Nat)} {pu : Int} {s b : Nat} (h : SvB V L pu s b) (hp : BI V (nI s) ≤ pu) (hx : TOL V L (nI s) < TOL V L (nI b) ∨ (TOL V L (nI s) = TOL V L (nI b) ∧ BI V (nI s) < BI V (nI b))) : SvB V L pu (s + 1) s := by
  refine ⟨by omega, hp, fun c hc hcp => ?_⟩
  by_cases y : c = s
  · rw [y]; exact Or.inr ⟨rfl, Or.inr ⟨rfl, Nat.le_refl _⟩⟩
  · have := h.2.2 c (by omega) hcp
    omega
theorem SvB_no {L : List (List Nat)} {pu : Int} {s b : Nat} (h : SvB V L pu s b) (hx : BI V (nI s) ≤ pu → ¬ (TOL V L (nI s) < TOL V L (nI b) ∨ (TOL V L (nI s) = TOL V L (nI b) ∧ BI V (nI s) < BI V (nI b)))) : SvB V L pu (s + 1) b := by
  have hb := h.1
  refine ⟨by omega, h.2.1, fun c hc hcp => ?_⟩
  by_cases y : c = s
  · rw [y] at hcp ⊢
    have := hx hcp
    omega
  · exact h.2.2 c (by omega) hcp
theorem BI_0 : BI V (nI 0) = 0 := by
  unfold BI
  rw [sL_cg (g := fun _ => 0) (V.1 0) (fun l _ => by
    have : bt (nI 0) (nI l) = 0 := by
      show bt 0 (nI l) = 0
      unfold bt
      rw [show (0 : Int32) >>> (nI l &&& 31) = 0 by
        apply Int32.toBitVec_inj.mp
        rw [Int32.toBitVec_shiftRight]
        show BitVec.sshiftRight' 0#32 _ = 0#32
        rw [BitVec.sshiftRight_eq', BitVec.zero_sshiftRight]]
      rfl
    exact if_pos this), sL_0]
end Sv
/-- what is answered to starve -/
def SvV (m : MM) (wy k d wt : Int32) (b : Nat) (r : Int64) : Prop := r.toInt = if wt = 0 then (b : Int) else if wt = 1 then TOL (vw m) (rnL7 m wy k d) (nI b) else BI (vw m) (nI b)
def SvR (m : MM) (wy k d pu wt : Int32) (r : Int64) : Prop := (¬ ((0 ≤ pu.toInt ∧ 0 ≤ wt.toInt ∧ wt.toInt ≤ 2) ∧ AsP wy k d) ∧ r = -1) ∨ (((0 ≤ pu.toInt ∧ 0 ≤ wt.toInt ∧ wt.toInt ≤ 2) ∧ AsP wy k d) ∧ ((200 < (rnL7 m wy k d).length ∧ r = -2) ∨ ((rnL7 m wy k d).length ≤ 200 ∧ ∃ b, SvB (vw m) (rnL7 m wy k d) pu.toInt (2 ^ (vw m).1 0) b ∧ SvV m wy k d wt b r)))
theorem SvR_1 {m : MM} {wy k d pu wt : Int32} {r1 r2 : Int64} (h1 : SvR m wy k d pu wt r1) (h2 : SvR m wy k d pu wt r2) : r1 = r2 := by
  rcases h1 with ⟨a, b⟩ | ⟨a, b⟩
  · rcases h2 with ⟨c, e⟩ | ⟨c, e⟩
    · rw [b, e]
    · exact absurd c a
  · rcases h2 with ⟨c, e⟩ | ⟨c, e⟩
    · exact absurd a c
    · rcases b with ⟨b1, b2⟩ | ⟨b1, b', b2, b3⟩
      · rcases e with ⟨e1, e2⟩ | ⟨e1, e2⟩
        · rw [b2, e2]
        · omega
      · rcases e with ⟨e1, e2⟩ | ⟨e1, e', e2, e3⟩
        · omega
        · have := SvB_1 b2 e2
          subst this
          exact Int64.toInt_inj.mp (b3.trans e3.symm)
theorem L_rg {m : MM} {wy k d : Int32} {i : Nat} (hi : i < (rnL7 m wy k d).length) : ∀ j, j < ((rnL7 m wy k d).getD i []).length → (vw m).2 11 (((rnL7 m wy k d).getD i []).getD (prvI ((rnL7 m wy k d).getD i []).length j) 0) = (vw m).2 10 (((rnL7 m wy k d).getD i []).getD j 0) := rnAC_rg (gL_mem hi)
