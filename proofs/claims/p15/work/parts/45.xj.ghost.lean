/-! the class's streams beside a flow: what is carried and handed on is a flow in the model's net -/
theorem sm_at2 {f : Nat → Int} {a b n : Nat} (ha : a < n) (hb : b < n) (hab : a ≠ b) (h : ∀ i, i < n → i ≠ a → i ≠ b → f i = 0) : sm f n = f a + f b := by
  have e : sm f n = sm (fun i => (if i = a then f a else 0) + (if i = b then f b else 0)) n := sm_same n (fun i hi => by
    by_cases q1 : i = a
    · rw [if_pos q1, if_neg (fun z => hab (q1.symm.trans z)), q1]; omega
    · by_cases q2 : i = b
      · rw [if_neg q1, if_pos q2, q2]; omega
      · rw [if_neg q1, if_neg q2, h i hi q1 q2]; rfl)
  rw [e, sm_add, sm_at (f := fun i => if i = a then f a else 0) ha (fun i _ hne => if_neg hne), sm_at (f := fun i => if i = b then f b else 0) hb (fun i _ hne => if_neg hne), if_pos rfl, if_pos rfl]
theorem sm_pos2 {f : Nat → Int} {a b n : Nat} (ha : a < n) (hb : b < n) (hab : a ≠ b) (h : ∀ i, i < n → i ≠ a → f i ≤ 0) (hs : sm f n = 0) : - f b ≤ f a := by
  have e := sm_at2 (f := fun i => if i = a then f a else if i = b then f b else 0) ha hb hab (fun i _ h1 h2 => by rw [if_neg h1, if_neg h2])
  have l := sm_le (f := f) (g := fun i => if i = a then f a else if i = b then f b else 0) n (fun i hi => by
    by_cases q1 : i = a
    · rw [if_pos q1, q1]; exact Int.le_refl _
    · by_cases q2 : i = b
      · rw [if_neg q1, if_pos q2, q2]; exact Int.le_refl _
      · rw [if_neg q1, if_neg q2]; exact h i hi q1)
  rw [e, if_pos rfl, if_neg (fun z => hab z.symm), if_pos rfl] at l
  omega
theorem NF.zz {c g : Nat → Nat → Int} (h : NF c g) {u v : Nat} (hu : u < 82) (hv : v < 82) (h1 : c u v ≤ 0) (h2 : c v u ≤ 0) : g u v = 0 := by
  have a := h.1 u v hu hv
  have b := h.2.1 u v hu hv
  have d := h.2.1 v u hv hu
  omega
def GR (L : List Nat) (m : MM) (g : Nat → Nat → Int) : Prop := (∀ j, j < L.length → g (L.getD j 0) (40 + L.getD j 0) = (gI m 164120 j).toInt) ∧ (∀ i j, i < L.length → j < L.length → i ≠ j → g (40 + L.getD i 0) (L.getD j 0) = (gI m 6553896 (i * L.length + j)).toInt) ∧ ∀ j, j < L.length → (gI m 6553896 (j * L.length + j)).toInt = 0
section Xj
variable {V : VW} {f w st : Int32}
theorem cp_pipe {s : Nat} (hs : s < V.1 3) (h40 : V.1 3 ≤ 40) (hc : ctB V st w s = true) : cpF V f w st s (40 + s) = (V.2 12 s).toInt := by rw [cp_1 (by omega), if_pos ⟨by omega, hs, hc⟩]
theorem cp_in0 {s v : Nat} (hs : s < 40) (hv : v ≠ 40 + s) : cpF V f w st s v = 0 := by rw [cp_1 hs, if_neg (fun z => hv (by omega))]
theorem cp_hand {s t : Nat} (hs : s < V.1 3) (h40 : V.1 3 ≤ 40) (ht : t < V.1 3) (h1 : ctB V st w s = true) (h2 : ctB V st w t = true) (h3 : mhB V f s t = true) : cpF V f w st (40 + s) t = 999999 := by
  have e : 40 + s - 40 = s := by omega
  rw [cp_2 (by omega) (by omega), e, if_pos ⟨hs, h1⟩, if_neg (by omega), if_pos ⟨ht, h2, h3⟩]
theorem cp_hand0 {s t : Nat} (hs : s < 40) (ht : t < 81) (h : ¬ (t < V.1 3 ∧ ctB V st w t = true ∧ mhB V f s t = true)) : cpF V f w st (40 + s) t = 0 := by
  have e : 40 + s - 40 = s := by omega
  rw [cp_2 (by omega) (by omega), e, if_neg (show ¬ t = 81 by omega), if_neg h]
  split <;> rfl
theorem cp_sink {s : Nat} (hs : s < V.1 3) (h40 : V.1 3 ≤ 40) (hc : ctB V st w s = true) (hf : V.2 11 s = f) : cpF V f w st (40 + s) 81 = (V.2 12 s).toInt := by
  have e : 40 + s - 40 = s := by omega
  rw [cp_2 (by omega) (by omega), e, if_pos ⟨hs, hc⟩, if_pos rfl, if_pos hf]
theorem cp_sink0 {s : Nat} (hs : s < 40) (hf : V.2 11 s ≠ f) : cpF V f w st (40 + s) 81 = 0 := by
  have e : 40 + s - 40 = s := by omega
  rw [cp_2 (by omega) (by omega), e, if_pos rfl, if_neg hf]
  split <;> rfl
theorem cp_src1 {s : Nat} (hs : s < V.1 3) (hc : ctB V st w s = true) (hf : V.2 10 s = f) : cpF V f w st 80 s = (V.2 12 s).toInt := by rw [cp_3, if_pos ⟨hs, hc, hf⟩]
theorem cp_src0 {s : Nat} (h : ¬ (s < V.1 3 ∧ ctB V st w s = true ∧ V.2 10 s = f)) : cpF V f w st 80 s = 0 := by rw [cp_3, if_neg h]
/-- nothing goes to the source -/
theorem cp_to80 {u : Nat} (hu : u < 82) (h40 : V.1 3 ≤ 40) : cpF V f w st u 80 = 0 := by
  by_cases h1 : u < 40
  · exact cp_in0 h1 (by omega)
  · by_cases h2 : u < 80
    · rw [show u = 40 + (u - 40) by omega]
      exact cp_hand0 (by omega) (by decide) (fun z => by omega)
    · by_cases h3 : u = 80
      · rw [h3]; exact cp_src0 (fun z => by omega)
      · rw [show u = 81 by omega, cp_4]
theorem mh_self {s : Nat} (hW : Wf V) (hs : s < V.1 3) : ¬ mhB V f s s = true := fun z => by
  unfold mhB at z
  rw [Bool.and_eq_true, Bool.and_eq_true] at z
  exact (hW.2.2.2 s hs).2.2.1 (of_decide_eq_true z.1.1).symm
theorem mh_home {s t : Nat} (hf : V.2 11 s = f) : ¬ mhB V f s t = true := fun z => by
  unfold mhB at z
  rw [Bool.and_eq_true, Bool.and_eq_true] at z
  exact (of_decide_eq_true z.1.2) hf
theorem mh_to {s t : Nat} (hf : V.2 10 t = f) : ¬ mhB V f s t = true := fun z => by
  unfold mhB at z
  rw [Bool.and_eq_true, Bool.and_eq_true] at z
  exact (of_decide_eq_true z.1.2) ((of_decide_eq_true z.1.1).trans hf)
variable {L : List Nat} {m : MM} {g : Nat → Nat → Int}
/-- the sales of L -/
def LG (V : VW) (st w : Int32) (L : List Nat) : Prop := L.length ≤ 40 ∧ (∀ j, j < L.length → L.getD j 0 < V.1 3 ∧ ctB V st w (L.getD j 0) = true) ∧ (∀ i j, i < L.length → j < L.length → i ≠ j → L.getD i 0 ≠ L.getD j 0) ∧ ∀ s, s < V.1 3 → ctB V st w s = true → ∃ j, j < L.length ∧ L.getD j 0 = s
theorem LG_of (hW : Wf V) : LG V st w (ctL (ctB V st w) (V.1 3)) := by
  refine ⟨Nat.le_trans (ctL_len _ _) hW.1.2.2.2, fun j hj => ctL_at _ _ j hj, fun i j hi hj hij => ?_, fun s hs hc => ctL_in _ _ s hs hc⟩
  rcases Nat.lt_or_gt_of_ne hij with q | q
  · have := ctL_lt (ctB V st w) (V.1 3) i j q hj; omega
  · have := ctL_lt (ctB V st w) (V.1 3) j i q hi; omega
theorem gr_car (hW : Wf V) (hL : LG V st w L) (hN : NF (cpF V f w st) g) (hG : GR L m g) {j : Nat} (hj : j < L.length) : 0 ≤ (gI m 164120 j).toInt ∧ (gI m 164120 j).toInt ≤ (V.2 12 (L.getD j 0)).toInt ∧ (V.2 12 (L.getD j 0)).toInt ≤ 999 ∧ 1 ≤ (V.2 12 (L.getD j 0)).toInt := by
  have h40 := hW.1.2.2.2
  obtain ⟨s1, s2⟩ := hL.2.1 j hj
  have nm := (hW.2.2.2 _ s1).2.2.2.1
  have e := hG.1 j hj
  have a := hN.2.1 (L.getD j 0) (40 + L.getD j 0) (by omega) (by omega)
  have b := hN.2.1 (40 + L.getD j 0) (L.getD j 0) (by omega) (by omega)
  have d := hN.1 (L.getD j 0) (40 + L.getD j 0) (by omega) (by omega)
  rw [cp_pipe s1 h40 s2] at a
  rw [cp_hand0 (by omega) (by omega) (fun z => mh_self hW s1 z.2.2)] at b
  exact ⟨by omega, by omega, nm.2, nm.1⟩
theorem gr_han (hW : Wf V) (hL : LG V st w L) (hN : NF (cpF V f w st) g) (hG : GR L m g) {i j : Nat} (hi : i < L.length) (hj : j < L.length) : 0 ≤ (gI m 6553896 (i * L.length + j)).toInt ∧ (gI m 6553896 (i * L.length + j)).toInt ≤ (gI m 164120 j).toInt := by
  have h40 := hW.1.2.2.2
  by_cases q : i = j
  · rw [q, hG.2.2 j hj]
    exact ⟨Int.le_refl 0, (gr_car hW hL hN hG hj).1⟩
  obtain ⟨s1, s2⟩ := hL.2.1 j hj
  obtain ⟨t1, t2⟩ := hL.2.1 i hi
  have ne := hL.2.2.1 i j hi hj q
  have e := hG.2.1 i j hi hj q
  have e2 := hG.1 j hj
  have d := hN.1 (40 + L.getD i 0) (L.getD j 0) (by omega) (by omega)
  have b := hN.2.1 (L.getD j 0) (40 + L.getD i 0) (by omega) (by omega)
  rw [cp_in0 (by omega) (by omega)] at b
  have p := sm_pos2 (f := fun v => g (L.getD j 0) v) (a := 40 + L.getD j 0) (b := 40 + L.getD i 0) (n := 82) (by omega) (by omega) (by omega) (fun v hv hne => by
    have := hN.2.1 (L.getD j 0) v (by omega) hv
    rw [cp_in0 (by omega) hne] at this
    exact this) (hN.2.2 _ (by omega))
  exact ⟨by omega, by omega⟩
/-- a sale from home takes nothing over, and is fed by the source -/
theorem gr_src (hW : Wf V) (hL : LG V st w L) (hN : NF (cpF V f w st) g) (hG : GR L m g) {j : Nat} (hj : j < L.length) (hf : V.2 10 (L.getD j 0) = f) : (∀ i, i < L.length → (gI m 6553896 (i * L.length + j)).toInt = 0) ∧ g 80 (L.getD j 0) = (gI m 164120 j).toInt := by
  have h40 := hW.1.2.2.2
  obtain ⟨s1, s2⟩ := hL.2.1 j hj
  have zh : ∀ t, t < 40 → t ≠ L.getD j 0 → g (L.getD j 0) (40 + t) = 0 := fun t ht hne => hN.zz (by omega) (by omega) (by rw [cp_in0 (by omega) (by omega)]; exact Int.le_refl 0) (by rw [cp_hand0 ht (by omega) (fun z => mh_to hf z.2.2)]; exact Int.le_refl 0)
  refine ⟨fun i hi => ?_, ?_⟩
  · by_cases q : i = j
    · rw [q]; exact hG.2.2 j hj
    · obtain ⟨t1, t2⟩ := hL.2.1 i hi
      have := zh (L.getD i 0) (by omega) (hL.2.2.1 i j hi hj q)
      have e := hG.2.1 i j hi hj q
      have d := hN.1 (40 + L.getD i 0) (L.getD j 0) (by omega) (by omega)
      omega
  · have e2 := hG.1 j hj
    have d := hN.1 80 (L.getD j 0) (by decide) (by omega)
    have p := sm_at2 (f := fun v => g (L.getD j 0) v) (a := 40 + L.getD j 0) (b := 80) (n := 82) (by omega) (by decide) (by omega) (fun v hv h1 h2 => by
      by_cases q1 : v < 40
      · exact hN.zz (by omega) hv (by rw [cp_in0 (by omega) h1]; exact Int.le_refl 0) (by rw [cp_in0 q1 (by omega)]; exact Int.le_refl 0)
      · by_cases q2 : v < 80
        · have y := zh (v - 40) (by omega) (by omega)
          rw [show 40 + (v - 40) = v by omega] at y
          exact y
        · rw [show v = 81 by omega]
          exact hN.zz (by omega) (by decide) (by rw [cp_in0 (by omega) (by omega)]; exact Int.le_refl 0) (by rw [cp_4]; exact Int.le_refl 0))
    rw [hN.2.2 _ (by omega)] at p
    omega
/-- a sale to home hands nothing on -/
theorem gr_snk (hW : Wf V) (hL : LG V st w L) (hN : NF (cpF V f w st) g) (hG : GR L m g) {j : Nat} (hj : j < L.length) (hf : V.2 11 (L.getD j 0) = f) : (∀ i, i < L.length → (gI m 6553896 (j * L.length + i)).toInt = 0) ∧ g (40 + L.getD j 0) 81 = (gI m 164120 j).toInt := by
  have h40 := hW.1.2.2.2
  obtain ⟨s1, s2⟩ := hL.2.1 j hj
  have zh : ∀ t, t < 40 → t ≠ L.getD j 0 → g (40 + L.getD j 0) t = 0 := fun t ht hne => hN.zz (by omega) (by omega) (by rw [cp_hand0 (by omega) (by omega) (fun z => mh_home hf z.2.2)]; exact Int.le_refl 0) (by rw [cp_in0 ht (by omega)]; exact Int.le_refl 0)
  refine ⟨fun i hi => ?_, ?_⟩
  · by_cases q : i = j
    · rw [q]; exact hG.2.2 j hj
    · obtain ⟨t1, t2⟩ := hL.2.1 i hi
      have := zh (L.getD i 0) (by omega) (hL.2.2.1 i j hi hj q)
      have e := hG.2.1 j i hj hi (fun z => q z.symm)
      omega
  · have e2 := hG.1 j hj
    have d := hN.1 (L.getD j 0) (40 + L.getD j 0) (by omega) (by omega)
    have p := sm_at2 (f := fun v => g (40 + L.getD j 0) v) (a := L.getD j 0) (b := 81) (n := 82) (by omega) (by decide) (by omega) (fun v hv h1 h2 => by
      by_cases q1 : v < 40
      · exact zh v q1 h1
      · by_cases q2 : v < 80
        · exact hN.zz (by omega) hv (by rw [cp_hand0 (by omega) (by omega) (fun z => by omega)]; exact Int.le_refl 0) (by rw [show v = 40 + (v - 40) by omega, cp_hand0 (by omega) (by omega) (fun z => by omega)]; exact Int.le_refl 0)
        · rw [show v = 80 by omega]
          exact hN.zz (by omega) (by decide) (by rw [cp_to80 (by omega) h40]; exact Int.le_refl 0) (by rw [cp_src0 (fun z => by omega)]; exact Int.le_refl 0))
    rw [hN.2.2 _ (by omega)] at p
    omega
def nd5 (L : List Nat) (v : Nat) : Nat := if v % 2 = 0 then L.getD (v / 2) 0 else 40 + L.getD (v / 2) 0
theorem nd5_0 {j : Nat} : nd5 L (2 * j) = L.getD j 0 := by
  unfold nd5
  rw [if_pos (by omega), show 2 * j / 2 = j by omega]
theorem nd5_1 {j : Nat} : nd5 L (2 * j + 1) = 40 + L.getD j 0 := by
  unfold nd5
  rw [if_neg (by omega), show (2 * j + 1) / 2 = j by omega]
theorem nd5_lt (hW : Wf V) (hL : LG V st w L) {v : Nat} (hv : v < 2 * L.length) : nd5 L v < 80 := by
  have h40 := hW.1.2.2.2
  have := (hL.2.1 (v / 2) (by omega)).1
  unfold nd5
  split <;> omega
theorem nd5_inj (hW : Wf V) (hL : LG V st w L) {u v : Nat} (hu : u < 2 * L.length) (hv : v < 2 * L.length) (h : nd5 L u = nd5 L v) : u = v := by
  have h40 := hW.1.2.2.2
  have a := (hL.2.1 (u / 2) (by omega)).1
  have b := (hL.2.1 (v / 2) (by omega)).1
  unfold nd5 at h
  by_cases q : u / 2 = v / 2
  · rw [q] at h
    by_cases x : u % 2 = 0
    · by_cases y : v % 2 = 0
      · omega
      · rw [if_pos x, if_neg y] at h; omega
    · by_cases y : v % 2 = 0
      · rw [if_neg x, if_pos y] at h; omega
      · omega
  · have ne := hL.2.2.1 (u / 2) (v / 2) (by omega) (by omega) q
    by_cases x : u % 2 = 0
    · by_cases y : v % 2 = 0
      · rw [if_pos x, if_pos y] at h; exact absurd h ne
      · rw [if_pos x, if_neg y] at h; omega
    · by_cases y : v % 2 = 0
      · rw [if_neg x, if_pos y] at h; omega
      · rw [if_neg x, if_neg y] at h; omega
/-- an end that can be gone to has space in the flow -/
theorem eg_cap (hW : Wf V) (hL : LG V st w L) (hN : NF (cpF V f w st) g) (hG : GR L m g) (hX : SX V L m) {u v : Nat} {d : Int} (hd : d ≤ 999) (hE : Eg m L.length f u v) (hs : d ≤ spV m L.length u v) : g (nd5 L u) (nd5 L v) + d ≤ cpF V f w st (nd5 L u) (nd5 L v) := by
  have h40 := hW.1.2.2.2
  rcases hE with ⟨j, j1, rfl, rfl, j4⟩ | ⟨i, j, i1, j1, rfl, rfl, j4⟩ | ⟨j, j1, rfl, rfl, j4⟩ | ⟨j, l, j1, l1, rfl, rfl, j4, j5, j6⟩
  · obtain ⟨s1, s2⟩ := hL.2.1 j j1
    unfold spV at hs
    rw [if_pos (by omega), if_pos (by omega), show 2 * j / 2 = j by omega, (hX.2 j j1).2.2.2] at hs
    rw [nd5_0, nd5_1, hG.1 j j1, cp_pipe s1 h40 s2]
    omega
  · have q : i ≠ j := fun z => by
      rw [z, hG.2.2 j j1] at j4
      omega
    obtain ⟨s1, s2⟩ := hL.2.1 j j1
    obtain ⟨t1, t2⟩ := hL.2.1 i i1
    have ne := hL.2.2.1 i j i1 j1 q
    have e := hG.2.1 i j i1 j1 q
    have dd := hN.1 (40 + L.getD i 0) (L.getD j 0) (by omega) (by omega)
    unfold spV at hs
    rw [if_neg (by omega), if_pos (by omega), show 2 * j / 2 = j by omega, show (2 * i + 1) / 2 = i by omega] at hs
    rw [nd5_0, nd5_1, cp_in0 (by omega) (by omega)]
    omega
  · obtain ⟨s1, s2⟩ := hL.2.1 j j1
    have e := hG.1 j j1
    have dd := hN.1 (L.getD j 0) (40 + L.getD j 0) (by omega) (by omega)
    unfold spV at hs
    rw [if_pos (by omega), if_neg (by omega), show (2 * j + 1) / 2 = j by omega] at hs
    rw [nd5_0, nd5_1, cp_hand0 (by omega) (by omega) (fun z => mh_self hW s1 z.2.2)]
    omega
  · obtain ⟨s1, s2⟩ := hL.2.1 j j1
    obtain ⟨t1, t2⟩ := hL.2.1 l l1
    rw [(hX.2 l l1).1, (hX.2 j j1).2.1] at j4
    rw [(hX.2 l l1).2.2.1, (hX.2 j j1).2.2.1] at j5
    rw [(hX.2 j j1).2.1] at j6
    have q : j ≠ l := fun z => by
      rw [z] at j4
      exact (hW.2.2.2 _ t1).2.2.1 j4
    have e := hG.2.1 j l j1 l1 q
    have hh := gr_han hW hL hN hG j1 l1
    have hc := gr_car hW hL hN hG l1
    have mh : mhB V f (L.getD j 0) (L.getD l 0) = true := by
      unfold mhB
      rw [decide_eq_true j4.symm, decide_eq_true j6, decide_eq_true j5]
      rfl
    rw [nd5_0, nd5_1, e, cp_hand s1 h40 t1 s2 t2 mh]
    omega
end Xj
