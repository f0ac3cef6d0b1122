/-! what may flow: the capacities of the model, and how they are laid -/
def ctB (V : VW) (st w : Int32) (s : Nat) : Bool := decide (V.2 13 s = w) && decide (bt st (V.2 10 s) = 0) && decide (bt st (V.2 11 s) = 0)
def mhB (V : VW) (f : Int32) (a b : Nat) : Bool := decide (V.2 11 a = V.2 10 b) && decide (V.2 11 a ≠ f) && decide ((V.2 15 a).toInt ≤ (V.2 15 b).toInt)
def cpF (V : VW) (f w st : Int32) (u v : Nat) : Int :=
  if u < 40 then (if v = u + 40 ∧ u < V.1 3 ∧ ctB V st w u = true then (V.2 12 u).toInt else 0)
  else if u < 80 then (if u - 40 < V.1 3 ∧ ctB V st w (u - 40) = true then (if v = 81 then (if V.2 11 (u - 40) = f then (V.2 12 (u - 40)).toInt else 0) else if v < V.1 3 ∧ ctB V st w v = true ∧ mhB V f (u - 40) v = true then 999999 else 0) else 0)
  else if u = 80 then (if v < V.1 3 ∧ ctB V st w v = true ∧ V.2 10 v = f then (V.2 12 v).toInt else 0)
  else 0
/-- whose sale's a cell is -/
def ow7 (u v : Nat) : Nat := if u < 40 then u else if u < 80 then u - 40 else if u = 80 then v else 100
theorem ow7_1 {u v : Nat} (h : u < 40) : ow7 u v = u := if_pos h
theorem ow7_2 {u v : Nat} (h1 : ¬ u < 40) (h2 : u < 80) : ow7 u v = u - 40 := by unfold ow7; rw [if_neg h1, if_pos h2]
theorem ow7_3 {v : Nat} : ow7 80 v = v := by unfold ow7; rw [if_neg (by decide), if_neg (by decide), if_pos rfl]
theorem ow7_4 {v : Nat} : ow7 81 v = 100 := by unfold ow7; rw [if_neg (by decide), if_neg (by decide), if_neg (by decide)]
section Xd
variable {V : VW} {f w st : Int32}
theorem cp_1 {u v : Nat} (h : u < 40) : cpF V f w st u v = if v = u + 40 ∧ u < V.1 3 ∧ ctB V st w u = true then (V.2 12 u).toInt else 0 := if_pos h
theorem cp_2 {u v : Nat} (h1 : ¬ u < 40) (h2 : u < 80) : cpF V f w st u v = if u - 40 < V.1 3 ∧ ctB V st w (u - 40) = true then (if v = 81 then (if V.2 11 (u - 40) = f then (V.2 12 (u - 40)).toInt else 0) else if v < V.1 3 ∧ ctB V st w v = true ∧ mhB V f (u - 40) v = true then 999999 else 0) else 0 := by
  unfold cpF
  rw [if_neg h1, if_pos h2]
theorem cp_3 {v : Nat} : cpF V f w st 80 v = if v < V.1 3 ∧ ctB V st w v = true ∧ V.2 10 v = f then (V.2 12 v).toInt else 0 := by
  unfold cpF
  rw [if_neg (by decide), if_neg (by decide), if_pos rfl]
theorem cp_4 {v : Nat} : cpF V f w st 81 v = 0 := by
  unfold cpF
  rw [if_neg (by decide), if_neg (by decide), if_neg (by decide)]
theorem cp_no {u v s : Nat} (hu : u < 82) (hs : s < 40) (ho : ow7 u v = s) (hc : ctB V st w s = false) : cpF V f w st u v = 0 := by
  have hc : ¬ ctB V st w s = true := fun z => by rw [hc] at z; cases z
  by_cases h1 : u < 40
  · rw [ow7_1 h1] at ho
    rw [cp_1 h1, if_neg (fun z => hc (by rw [← ho]; exact z.2.2))]
  · by_cases h2 : u < 80
    · rw [ow7_2 h1 h2] at ho
      rw [cp_2 h1 h2, if_neg (fun z => hc (by rw [← ho]; exact z.2))]
    · by_cases h3 : u = 80
      · rw [h3, ow7_3] at ho
        rw [h3, cp_3, if_neg (fun z => hc (by rw [← ho]; exact z.2.1))]
      · rw [show u = 81 by omega, cp_4]
theorem cp_hi {u v : Nat} (hu : u < 82) (ho : V.1 3 ≤ ow7 u v) : cpF V f w st u v = 0 := by
  by_cases h1 : u < 40
  · rw [ow7_1 h1] at ho
    rw [cp_1 h1, if_neg (fun z => by omega)]
  · by_cases h2 : u < 80
    · rw [ow7_2 h1 h2] at ho
      rw [cp_2 h1 h2, if_neg (fun z => by omega)]
    · by_cases h3 : u = 80
      · rw [h3, ow7_3] at ho
        rw [h3, cp_3, if_neg (fun z => by omega)]
      · rw [show u = 81 by omega, cp_4]
/-- the cells of sales below s are laid -/
def FIs (V : VW) (f w st : Int32) (s : Nat) (m : MM) : Prop := ∀ u v, u < 82 → v < 82 → Lf m (82 * u + v) = if ow7 u v < s then cpF V f w st u v else 0
/-- and of s those but for what it hands on to b and above -/
def FIb (V : VW) (f w st : Int32) (s b : Nat) (m : MM) : Prop := ∀ u v, u < 82 → v < 82 → Lf m (82 * u + v) = if ow7 u v < s ∨ (ow7 u v = s ∧ ¬ (u = 40 + s ∧ b ≤ v ∧ v < 40)) then cpF V f w st u v else 0
theorem FIs.no {s : Nat} {m : MM} (h : FIs V f w st s m) (hs : s < 40) (hc : ctB V st w s = false) : FIs V f w st (s + 1) m := fun u v hu hv => by
  rw [h u v hu hv]
  by_cases q : ow7 u v = s
  · rw [if_neg (by omega), if_pos (by omega), cp_no hu hs q hc]
  · by_cases q2 : ow7 u v < s
    · rw [if_pos q2, if_pos (by omega)]
    · rw [if_neg q2, if_neg (by omega)]
theorem FIs.all {m : MM} (h : FIs V f w st (V.1 3) m) : ∀ u v, u < 82 → v < 82 → Lf m (82 * u + v) = cpF V f w st u v := fun u v hu hv => by
  rw [h u v hu hv]
  by_cases q : ow7 u v < V.1 3
  · rw [if_pos q]
  · rw [if_neg q, cp_hi hu (by omega)]
theorem FIb.end {s : Nat} {m : MM} (h : FIb V f w st s (V.1 3) m) (hs : s < 40) : FIs V f w st (s + 1) m := fun u v hu hv => by
  rw [h u v hu hv]
  by_cases q : ow7 u v = s
  · rw [if_pos (show ow7 u v < s + 1 by omega)]
    by_cases y : u = 40 + s ∧ V.1 3 ≤ v ∧ v < 40
    · rw [if_neg (fun z => by rcases z with z | z; omega; exact z.2 y), cp_2 (by omega) (by omega), if_neg (show ¬ v = 81 by omega), if_neg (show ¬ (v < V.1 3 ∧ ctB V st w v = true ∧ mhB V f (u - 40) v = true) from fun z => by omega)]
      split <;> rfl
    · rw [if_pos (Or.inr ⟨q, y⟩)]
  · by_cases q2 : ow7 u v < s
    · rw [if_pos (Or.inl q2), if_pos (by omega)]
    · rw [if_neg (fun z => by rcases z with z | z; omega; exact q z.1), if_neg (by omega)]
theorem FIb.go {s b : Nat} {m : MM} (h : FIb V f w st s b m) (hs : s < V.1 3) (h40 : V.1 3 ≤ 40) (hb : b < V.1 3) (hc : ctB V st w s = true) (hn : ¬ (ctB V st w b = true ∧ mhB V f s b = true)) : FIb V f w st s (b + 1) m := fun u v hu hv => by
  rw [h u v hu hv]
  by_cases y : u = 40 + s ∧ v = b
  · have o : ow7 u v = s := by rw [ow7_2 (by omega) (by omega)]; omega
    rw [if_neg (fun z => by rcases z with z | z; omega; exact z.2 ⟨y.1, by omega, by omega⟩), if_pos (Or.inr ⟨o, fun z => by omega⟩), cp_2 (by omega) (by omega), if_neg (show ¬ v = 81 by omega), if_neg (show ¬ (v < V.1 3 ∧ ctB V st w v = true ∧ mhB V f (u - 40) v = true) from fun z => hn (by rw [show s = u - 40 by omega, ← y.2]; exact ⟨z.2.1, z.2.2⟩))]
    split <;> rfl
  · by_cases q : ow7 u v < s ∨ (ow7 u v = s ∧ ¬ (u = 40 + s ∧ b ≤ v ∧ v < 40))
    · rw [if_pos q, if_pos (by
        rcases q with q | q
        · exact Or.inl q
        · exact Or.inr ⟨q.1, fun z => q.2 ⟨z.1, by omega, z.2.2⟩⟩)]
    · rw [if_neg q, if_neg (fun z => by
        rcases z with z | z
        · exact q (Or.inl z)
        · exact q (Or.inr ⟨z.1, fun x => z.2 ⟨x.1, by omega, x.2.2⟩⟩))]
theorem FIb.put {s b : Nat} {m m' : MM} (h : FIb V f w st s b m) (hs : s < V.1 3) (h40 : V.1 3 ≤ 40) (hb : b < V.1 3) (hc : ctB V st w s = true) (hd : ctB V st w b = true) (he : mhB V f s b = true) (hm : ∀ k, Lf m' k = if k = 82 * (40 + s) + b then 999999 else Lf m k) : FIb V f w st s (b + 1) m' := fun u v hu hv => by
  rw [hm]
  by_cases y : u = 40 + s ∧ v = b
  · have o : ow7 u v = s := by rw [ow7_2 (by omega) (by omega)]; omega
    have e1 : u - 40 = s := by omega
    rw [if_pos (by omega), if_pos (Or.inr ⟨o, fun z => by omega⟩), cp_2 (by omega) (by omega), e1, y.2, if_pos ⟨hs, hc⟩, if_neg (show ¬ b = 81 by omega), if_pos ⟨hb, hd, he⟩]
  · rw [if_neg (fun z => y (edge_inj hv (by omega) z)), h u v hu hv]
    by_cases q : ow7 u v < s ∨ (ow7 u v = s ∧ ¬ (u = 40 + s ∧ b ≤ v ∧ v < 40))
    · rw [if_pos q, if_pos (by
        rcases q with q | q
        · exact Or.inl q
        · exact Or.inr ⟨q.1, fun z => q.2 ⟨z.1, by omega, z.2.2⟩⟩)]
    · rw [if_neg q, if_neg (fun z => by
        rcases z with z | z
        · exact q (Or.inl z)
        · exact q (Or.inr ⟨z.1, fun x => z.2 ⟨x.1, by omega, x.2.2⟩⟩))]
theorem FIs.lay {s : Nat} {m m' : MM} (h : FIs V f w st s m) (hs : s < V.1 3) (h40 : V.1 3 ≤ 40) (hc : ctB V st w s = true) (hm : ∀ k, Lf m' k = if k = 82 * (40 + s) + 81 ∧ V.2 11 s = f then (V.2 12 s).toInt else if k = 6560 + s ∧ V.2 10 s = f then (V.2 12 s).toInt else if k = 82 * s + 40 + s then (V.2 12 s).toInt else Lf m k) : FIb V f w st s 0 m' := fun u v hu hv => by
  rw [hm]
  by_cases h1 : u < 40
  · rw [if_neg (fun z => by omega), if_neg (fun z => by omega), ow7_1 h1, cp_1 h1]
    by_cases y : u = s
    · rw [y, if_pos (Or.inr ⟨rfl, fun z => by omega⟩)]
      by_cases x : v = s + 40
      · rw [if_pos (by omega), if_pos ⟨x, hs, hc⟩]
      · rw [if_neg (by omega), if_neg (fun z => x z.1), ← y, h u v hu hv, ow7_1 h1, if_neg (by omega)]
    · rw [if_neg (fun z => y (edge_inj hv (show 40 + s < 82 by omega) (by omega : 82 * u + v = 82 * s + (40 + s))).1), h u v hu hv, ow7_1 h1, cp_1 h1]
      by_cases x : u < s
      · rw [if_pos x, if_pos (Or.inl x)]
      · rw [if_neg x, if_neg (fun z => by omega)]
  · by_cases h2 : u < 80
    · rw [ow7_2 h1 h2]
      by_cases y : u = 40 + s
      · have e1 : u - 40 = s := by omega
        rw [cp_2 h1 h2, e1, if_pos (show s < V.1 3 ∧ ctB V st w s = true from ⟨hs, hc⟩)]
        by_cases x : v = 81
        · rw [if_pos (show s < s ∨ (s = s ∧ ¬ (u = 40 + s ∧ 0 ≤ v ∧ v < 40)) from Or.inr ⟨rfl, fun z => by omega⟩), if_pos x]
          by_cases t : V.2 11 s = f
          · rw [if_pos ⟨by omega, t⟩, if_pos t]
          · rw [if_neg (fun z => t z.2), if_neg (fun z => by omega), if_neg (by omega), if_neg t, h u v hu hv, ow7_2 h1 h2, if_neg (by omega)]
        · rw [if_neg (fun z => by omega), if_neg (fun z => by omega), if_neg (by omega), h u v hu hv, ow7_2 h1 h2, if_neg (by omega), if_neg x]
          by_cases t : v < 40
          · rw [if_neg (fun z => by
              rcases z with z | z
              · omega
              · exact z.2 ⟨y, by omega, t⟩)]
          · rw [if_neg (show ¬ (v < V.1 3 ∧ ctB V st w v = true ∧ mhB V f s v = true) from fun z => by omega)]
            split <;> rfl
      · rw [if_neg (fun z => by omega), if_neg (fun z => by omega), if_neg (by omega), h u v hu hv, ow7_2 h1 h2]
        by_cases x : u - 40 < s
        · rw [if_pos x, if_pos (Or.inl x)]
        · rw [if_neg x, if_neg (fun z => by omega)]
    · by_cases h3 : u = 80
      · rw [h3, ow7_3, cp_3]
        have hx := h 80 v (by decide) hv
        rw [ow7_3, cp_3] at hx
        rw [if_neg (fun z => by omega)]
        by_cases y : v = s
        · rw [y, if_pos (show s < s ∨ (s = s ∧ ¬ (80 = 40 + s ∧ 0 ≤ s ∧ s < 40)) from Or.inr ⟨rfl, fun z => by omega⟩)]
          by_cases t : V.2 10 s = f
          · rw [if_pos ⟨by omega, t⟩, if_pos ⟨hs, hc, t⟩]
          · rw [y, if_neg (by omega)] at hx
            rw [if_neg (fun z => t z.2), if_neg (by omega), hx, if_neg (fun z => t z.2.2)]
        · rw [if_neg (fun z => by omega), if_neg (by omega), hx]
          by_cases x : v < s
          · rw [if_pos x, if_pos (Or.inl x)]
          · rw [if_neg x, if_neg (fun z => by omega)]
      · have h4 : u = 81 := by omega
        rw [if_neg (fun z => by omega), if_neg (fun z => by omega), if_neg (by omega), h u v hu hv, h4, ow7_4, if_neg (by omega), if_neg (fun z => by omega)]
theorem cp_rng (hW : Wf V) {u v : Nat} (hu : u < 82) : 0 ≤ cpF V f w st u v ∧ cpF V f w st u v ≤ 999999 := by
  have nm : ∀ s, s < V.1 3 → 0 ≤ (V.2 12 s).toInt ∧ (V.2 12 s).toInt ≤ 999999 := fun s hs => by
    have := (hW.2.2.2 s hs).2.2.2.1
    omega
  by_cases h1 : u < 40
  · rw [cp_1 h1]
    by_cases y : v = u + 40 ∧ u < V.1 3 ∧ ctB V st w u = true
    · rw [if_pos y]; exact nm u y.2.1
    · rw [if_neg y]; omega
  · by_cases h2 : u < 80
    · rw [cp_2 h1 h2]
      by_cases y : u - 40 < V.1 3 ∧ ctB V st w (u - 40) = true
      · rw [if_pos y]
        have := nm _ y.1
        split
        · split <;> omega
        · split <;> omega
      · rw [if_neg y]; omega
    · by_cases h3 : u = 80
      · rw [h3, cp_3]
        by_cases y : v < V.1 3 ∧ ctB V st w v = true ∧ V.2 10 v = f
        · rw [if_pos y]; exact nm v y.1
        · rw [if_neg y]; omega
      · rw [show u = 81 by omega, cp_4]; omega
theorem sm_top {g : Nat → Int} {M : Int} : ∀ n, (∀ i, i < n → g i ≤ M) → sm g n ≤ M * n
  | 0, _ => by
    show (0 : Int) ≤ M * 0
    omega
  | n + 1, h => by
    have a := sm_top n (fun i hi => h i (by omega))
    have b := h n (by omega)
    have e : M * ((n + 1 : Nat) : Int) = M * n + M := by
      rw [show ((n + 1 : Nat) : Int) = (n : Int) + 1 by omega, Int.mul_add, Int.mul_one]
    show sm g n + g n ≤ M * ((n + 1 : Nat) : Int)
    omega
theorem cp_src (hW : Wf V) : sm (fun v => cpF V f w st 80 v) 82 ≤ 1000000 := by
  have h := sm_top (g := fun v => cpF V f w st 80 v) (M := 999) 82 (fun v _ => by
    show cpF V f w st 80 v ≤ 999
    rw [cp_3]
    by_cases y : v < V.1 3 ∧ ctB V st w v = true ∧ V.2 10 v = f
    · rw [if_pos y]
      have := (hW.2.2.2 v y.1).2.2.2.1
      omega
    · rw [if_neg y]; omega)
  omega
end Xd
section Xe
variable {m : MM}
set_option maxRecDepth 100000 in
theorem s_counts {s : Nat} {w : Int32} (hs : s < 40) : CI 1 mX7_counts [.ref 1175, .int (nI s), .int w] m (fun r m' => m' = m ∧ z1 (ctB (vw m) (gI m 1175 39) w s = true) r) := by
  have vs : vp_in (nI s) 80 := vp_in_nI (by omega) (by decide)
  have sc : (nI s).toNatClampNeg = s := nI_clamp (by omega)
  have r13 : gI m 329096 (nI s).toNatClampNeg = (vw m).2 13 s := by rw [sc]; rfl
  have r10 : gI m 329048 (nI s).toNatClampNeg = (vw m).2 10 s := by rw [sc]; rfl
  have r11 : gI m 329064 (nI s).toNatClampNeg = (vw m).2 11 s := by rw [sc]; rfl
  have no : ∀ r : Int32, r = 0 → ¬ (ctB (vw m) (gI m 1175 39) w s = true) → z1 (ctB (vw m) (gI m 1175 39) w s = true) r := fun r h1 h2 => Or.inr ⟨h2, h1⟩
  refine At.gs okX7_counts 60 ?_
  (conv => whnf)
  refine And.intro vs ?_
  (conv => whnf)
  refine And.intro (fun p => ?_) (fun p => ?_)
  · have p : ¬ gI m 329096 (nI s).toNatClampNeg = w := p
    rw [r13] at p
    refine ⟨Or.inl rfl, rfl, no 0 rfl (fun z => ?_)⟩
    unfold ctB at z
    rw [decide_eq_false p] at z
    cases z
  have p : gI m 329096 (nI s).toNatClampNeg = w := p
  rw [r13] at p
  (conv => whnf)
  refine And.intro vs ?_
  (conv => whnf)
  refine And.intro (fun p2 => ?_) (fun p2 => ?_)
  · have p2 : ¬ bt (gI m 1175 39) (gI m 329048 (nI s).toNatClampNeg) = 0 := p2
    rw [r10] at p2
    refine ⟨Or.inl rfl, rfl, no 0 rfl (fun z => ?_)⟩
    unfold ctB at z
    rw [decide_eq_true p, decide_eq_false p2] at z
    cases z
  have p2 : bt (gI m 1175 39) (gI m 329048 (nI s).toNatClampNeg) = 0 := p2
  rw [r10] at p2
  (conv => whnf)
  refine And.intro vs ?_
  (conv => whnf)
  refine And.intro (fun p3 => ?_) (fun p3 => ?_)
  · have p3 : ¬ bt (gI m 1175 39) (gI m 329064 (nI s).toNatClampNeg) = 0 := p3
    rw [r11] at p3
    refine ⟨Or.inl rfl, rfl, no 0 rfl (fun z => ?_)⟩
    unfold ctB at z
    rw [decide_eq_true p, decide_eq_true p2, decide_eq_false p3] at z
    cases z
  · have p3 : bt (gI m 1175 39) (gI m 329064 (nI s).toNatClampNeg) = 0 := p3
    rw [r11] at p3
    refine ⟨Or.inr rfl, rfl, Or.inl ⟨?_, rfl⟩⟩
    unfold ctB
    rw [decide_eq_true p, decide_eq_true p2, decide_eq_true p3]
    rfl
set_option maxRecDepth 100000 in
theorem s_mayHand {a b : Nat} {f : Int32} (ha : a < 40) (hb : b < 40) : CI 1 mX7_mayHand [.ref 1175, .int (nI a), .int (nI b), .int f] m (fun r m' => m' = m ∧ z1 (mhB (vw m) f a b = true) r) := by
  have va : vp_in (nI a) 80 := vp_in_nI (by omega) (by decide)
  have vb : vp_in (nI b) 80 := vp_in_nI (by omega) (by decide)
  have ac : (nI a).toNatClampNeg = a := nI_clamp (by omega)
  have bc : (nI b).toNatClampNeg = b := nI_clamp (by omega)
  have r11 : gI m 329064 (nI a).toNatClampNeg = (vw m).2 11 a := by rw [ac]; rfl
  have r10 : gI m 329048 (nI b).toNatClampNeg = (vw m).2 10 b := by rw [bc]; rfl
  have r15 : gI m 329128 (nI a).toNatClampNeg = (vw m).2 15 a := by rw [ac]; rfl
  have q15 : gI m 329128 (nI b).toNatClampNeg = (vw m).2 15 b := by rw [bc]; rfl
  have no : ∀ r : Int32, r = 0 → ¬ (mhB (vw m) f a b = true) → z1 (mhB (vw m) f a b = true) r := fun r h1 h2 => Or.inr ⟨h2, h1⟩
  refine At.gs okX7_mayHand 60 ?_
  (conv => whnf)
  refine And.intro va ?_
  (conv => whnf)
  refine And.intro vb ?_
  (conv => whnf)
  refine And.intro (fun p => ?_) (fun p => ?_)
  · have p : ¬ gI m 329064 (nI a).toNatClampNeg = gI m 329048 (nI b).toNatClampNeg := p
    rw [r11, r10] at p
    refine ⟨Or.inl rfl, rfl, no 0 rfl (fun z => ?_)⟩
    unfold mhB at z
    rw [decide_eq_false p] at z
    cases z
  have p : gI m 329064 (nI a).toNatClampNeg = gI m 329048 (nI b).toNatClampNeg := p
  rw [r11, r10] at p
  (conv => whnf)
  refine And.intro va ?_
  (conv => whnf)
  refine And.intro (fun p2 => ?_) (fun p2 => ?_)
  · have p2 : gI m 329064 (nI a).toNatClampNeg = f := p2
    rw [r11] at p2
    refine ⟨Or.inl rfl, rfl, no 0 rfl (fun z => ?_)⟩
    unfold mhB at z
    rw [decide_eq_true p, decide_eq_false (fun y => y p2)] at z
    cases z
  have p2 : ¬ gI m 329064 (nI a).toNatClampNeg = f := p2
  rw [r11] at p2
  (conv => whnf)
  refine And.intro va ?_
  (conv => whnf)
  refine And.intro vb ?_
  (conv => whnf)
  refine And.intro (fun p3 => ?_) (fun p3 => ?_)
  · have p3 : gI m 329128 (nI b).toNatClampNeg < gI m 329128 (nI a).toNatClampNeg := p3
    rw [r15, q15, lt_i] at p3
    refine ⟨Or.inl rfl, rfl, no 0 rfl (fun z => ?_)⟩
    unfold mhB at z
    rw [decide_eq_true p, decide_eq_true p2, decide_eq_false (by omega)] at z
    cases z
  · have p3 : ¬ gI m 329128 (nI b).toNatClampNeg < gI m 329128 (nI a).toNatClampNeg := p3
    rw [r15, q15, lt_i] at p3
    refine ⟨Or.inr rfl, rfl, Or.inl ⟨?_, rfl⟩⟩
    unfold mhB
    rw [decide_eq_true p, decide_eq_true p2, decide_eq_true (by omega)]
    rfl
end Xe
