/-! parties: labels; what joinParties of the class leaves -/
/-- p labels the firms below n by E: each by the least it is tied to -/
def LabOn (E : Nat → Nat → Prop) (n : Nat) (p : Nat → Nat) : Prop :=
  (∀ f, f < n → p f ≤ f) ∧ (∀ a b, a < n → b < n → E a b → p a = p b) ∧
  (∀ q : Nat → Nat, (∀ a b, a < n → b < n → E a b → q a = q b) → ∀ f, f < n → q (p f) = q f)
theorem LabOn.cg {E E' : Nat → Nat → Prop} {n : Nat} {p p' : Nat → Nat} (h : LabOn E n p) (hE : ∀ a b, a < n → b < n → (E a b ↔ E' a b)) (hp : ∀ f, f < n → p' f = p f) : LabOn E' n p' := by
  obtain ⟨h1, h2, h3⟩ := h
  refine ⟨fun f hf => by rw [hp f hf]; exact h1 f hf, fun a b ha hb hab => ?_, fun q hq f hf => ?_⟩
  · rw [hp a ha, hp b hb]
    exact h2 a b ha hb ((hE a b ha hb).mpr hab)
  · rw [hp f hf]
    exact h3 q (fun a b ha hb hab => hq a b ha hb ((hE a b ha hb).mp hab)) f hf
theorem LabOn.one {E : Nat → Nat → Prop} {n : Nat} {p p' : Nat → Nat} (h : LabOn E n p) (h' : LabOn E n p') : ∀ f, f < n → p f = p' f := by
  intro f hf
  have a := h.1 f hf
  have b := h'.1 f hf
  have c := h.2.2 p' h'.2.1 f hf
  have d := h'.2.2 p h.2.1 f hf
  have e := h'.1 (p f) (by omega)
  have g := h.1 (p' f) (by omega)
  omega
/-- the labels of a and b become one -/
def mrgL (p : Nat → Nat) (a b : Nat) : Nat → Nat := fun f => if p f = p a ∨ p f = p b then (if p b < p a then p b else p a) else p f
theorem LabOn.mrg {E E' : Nat → Nat → Prop} {n a b : Nat} {p : Nat → Nat} (h : LabOn E n p) (ha : a < n) (hb : b < n) (hE : ∀ x y, x < n → y < n → (E' x y ↔ E x y ∨ (x = a ∧ y = b))) : LabOn E' n (mrgL p a b) := by
  obtain ⟨h1, h2, h3⟩ := h
  have hl : (if p b < p a then p b else p a) ≤ p a ∧ (if p b < p a then p b else p a) ≤ p b ∧ ((if p b < p a then p b else p a) = p a ∨ (if p b < p a then p b else p a) = p b) := by
    by_cases q : p b < p a
    · rw [if_pos q]; exact ⟨by omega, Nat.le_refl _, Or.inr rfl⟩
    · rw [if_neg q]; exact ⟨Nat.le_refl _, by omega, Or.inl rfl⟩
  refine ⟨fun f hf => ?_, fun x y hx hy hxy => ?_, fun q hq f hf => ?_⟩
  · have := h1 f hf
    unfold mrgL
    split
    · rename_i hq
      rcases hq with hq | hq
      · exact Nat.le_trans hl.1 (by omega)
      · exact Nat.le_trans hl.2.1 (by omega)
    · exact this
  · rcases (hE x y hx hy).mp hxy with z | ⟨z1, z2⟩
    · have := h2 x y hx hy z
      unfold mrgL
      rw [this]
    · rw [z1, z2]
      unfold mrgL
      rw [if_pos (Or.inl rfl), if_pos (Or.inr rfl)]
  · have hab : q a = q b := hq a b ha hb ((hE a b ha hb).mpr (Or.inr ⟨rfl, rfl⟩))
    have k := h3 q (fun x y hx hy z => hq x y hx hy ((hE x y hx hy).mpr (Or.inl z)))
    have ka := k a ha
    have kb := k b hb
    have kf := k f hf
    have kl : q (if p b < p a then p b else p a) = q a := by
      rcases hl.2.2 with z | z
      · rw [z, ka]
      · rw [z, kb, hab]
    unfold mrgL
    split
    · rename_i hz
      rw [kl]
      rcases hz with z | z
      · rw [← kf, z, ka]
      · rw [← kf, z, kb, hab]
    · exact kf
theorem LabOn.new {E E' : Nat → Nat → Prop} {n : Nat} {p p' : Nat → Nat} (h : LabOn E n p) (hE : ∀ x y, x < n + 1 → y < n + 1 → (E' x y ↔ x < n ∧ y < n ∧ E x y)) (hp : ∀ f, f < n → p' f = p f) (hn : p' n = n) : LabOn E' (n + 1) p' := by
  obtain ⟨h1, h2, h3⟩ := h
  refine ⟨fun f hf => ?_, fun x y hx hy hxy => ?_, fun q hq f hf => ?_⟩
  · by_cases z : f < n
    · rw [hp f z]; exact h1 f z
    · rw [show f = n by omega, hn]; exact Nat.le_refl _
  · obtain ⟨z1, z2, z3⟩ := (hE x y hx hy).mp hxy
    rw [hp x z1, hp y z2]
    exact h2 x y z1 z2 z3
  · by_cases z : f < n
    · rw [hp f z]
      exact h3 q (fun x y hx hy u => hq x y (by omega) (by omega) ((hE x y (by omega) (by omega)).mpr ⟨hx, hy, u⟩)) f z
    · rw [show f = n by omega, hn]
/-- the pairs seen: firms before i with all before them, i with those before j -/
def edJ (J : Nat → Nat → Prop) (i j : Nat) (x y : Nat) : Prop := J x y ∧ y < x ∧ (x < i ∨ (x = i ∧ y < j))
theorem edJ_new {J : Nat → Nat → Prop} {i x y : Nat} : edJ J i 0 x y ↔ x < i ∧ y < i ∧ edJ J i 0 x y := by
  constructor
  · intro h
    have h2 := h.2.1
    rcases h.2.2 with z | z
    · exact ⟨z, by omega, h⟩
    · exact absurd z.2 (Nat.not_lt_zero _)
  · intro h
    exact h.2.2
theorem edJ_yes {J : Nat → Nat → Prop} {i j x y : Nat} (hj : j < i) (h : J i j) : edJ J i (j + 1) x y ↔ edJ J i j x y ∨ (x = i ∧ y = j) := by
  constructor
  · rintro ⟨h1, h2, h3⟩
    rcases h3 with z | ⟨z1, z2⟩
    · exact Or.inl ⟨h1, h2, Or.inl z⟩
    · by_cases q : y = j
      · exact Or.inr ⟨z1, q⟩
      · exact Or.inl ⟨h1, h2, Or.inr ⟨z1, by omega⟩⟩
  · rintro (⟨h1, h2, h3⟩ | ⟨h1, h2⟩)
    · exact ⟨h1, h2, by omega⟩
    · rw [h1, h2]
      exact ⟨h, hj, Or.inr ⟨rfl, by omega⟩⟩
theorem edJ_no {J : Nat → Nat → Prop} {i j x y : Nat} (h : ¬ J i j) : edJ J i j x y ↔ edJ J i (j + 1) x y := by
  constructor
  · rintro ⟨h1, h2, h3⟩
    exact ⟨h1, h2, by omega⟩
  · rintro ⟨h1, h2, h3⟩
    rcases h3 with z | ⟨z1, z2⟩
    · exact ⟨h1, h2, Or.inl z⟩
    · by_cases q : y = j
      · rw [z1, q] at h1
        exact absurd h1 h
      · exact ⟨h1, h2, Or.inr ⟨z1, by omega⟩⟩
theorem edJ_end {J : Nat → Nat → Prop} {i j x y : Nat} (hj : j = i) : edJ J i j x y ↔ edJ J (i + 1) 0 x y := by
  constructor
  · rintro ⟨h1, h2, h3⟩
    exact ⟨h1, h2, by omega⟩
  · rintro ⟨h1, h2, h3⟩
    exact ⟨h1, h2, by omega⟩
theorem LabOn.full {J : Nat → Nat → Prop} {n : Nat} {p : Nat → Nat} (hs : ∀ x y, J x y → J y x) (h : LabOn (edJ J n 0) n p) : LabOn J n p := by
  obtain ⟨h1, h2, h3⟩ := h
  refine ⟨h1, fun a b ha hb hab => ?_, fun q hq f hf => h3 q (fun x y hx hy z => hq x y hx hy z.1) f hf⟩
  rcases (by omega : b < a ∨ a = b ∨ a < b) with z | z | z
  · exact h2 a b ha hb ⟨hab, z, Or.inl ha⟩
  · rw [z]
  · exact (h2 b a hb ha ⟨hs a b hab, z, Or.inl hb⟩).symm
/-- under one hand: one hand, or one room -/
def joP (hd rm : Nat → Int32) (a b : Nat) : Prop := (hd a ≠ 0 ∧ hd a = hd b) ∨ (rm a ≠ 0 ∧ rm a = rm b)
theorem joP_sy {hd rm : Nat → Int32} {a b : Nat} (h : joP hd rm a b) : joP hd rm b a := by
  rcases h with ⟨h1, h2⟩ | ⟨h1, h2⟩
  · exact Or.inl ⟨by rw [← h2]; exact h1, h2.symm⟩
  · exact Or.inr ⟨by rw [← h2]; exact h1, h2.symm⟩
theorem joP_cg {hd rm hd' rm' : Nat → Int32} {a b : Nat} (h1 : hd a = hd' a) (h2 : hd b = hd' b) (h3 : rm a = rm' a) (h4 : rm b = rm' b) : joP hd rm a b ↔ joP hd' rm' a b := by
  unfold joP
  rw [h1, h2, h3, h4]
theorem nI_i {a b : Nat} (ha : a < 2147483648) (hb : b < 2147483648) (h : nI a = nI b) : a = b := by
  have h := congrArg Int32.toInt h
  rw [nI_toInt ha, nI_toInt hb] at h
  omega
/-- what mergeParties leaves in the row -/
def mgI (n : Nat) (L a b : Int32) (g : Nat → Int32) (f : Nat) : Int32 := if f < n ∧ (g f = a ∨ g f = b) then L else g f
theorem mgI_y {n f : Nat} {L a b : Int32} {g : Nat → Int32} (h : f < n ∧ (g f = a ∨ g f = b)) : mgI n L a b g f = L := if_pos h
theorem mgI_n {n f : Nat} {L a b : Int32} {g : Nat → Int32} (h : ¬ (f < n ∧ (g f = a ∨ g f = b))) : mgI n L a b g f = g f := if_neg h
theorem mg_eq {n i j f : Nat} {p : Nat → Nat} {g : Nat → Int32} (hp : ∀ f, f < i + 1 → p f ≤ f) (hg : ∀ f, f < i + 1 → g f = nI (p f)) (hj : j < i) (hi : i < n) (h12 : n ≤ 12) (hf : f < i + 1) : mgI n (if g j < g i then g j else g i) (g i) (g j) g f = nI (mrgL p i j f) := by
  have bi := hp i (by omega)
  have bj := hp j (by omega)
  have bf := hp f hf
  unfold mgI mrgL
  rw [hg f hf, hg i (by omega), hg j (by omega)]
  have eL : (if nI (p j) < nI (p i) then nI (p j) else nI (p i)) = nI (if p j < p i then p j else p i) := by
    by_cases q : p j < p i
    · rw [if_pos q, if_pos (by rw [lt_i, nI_toInt (by omega), nI_toInt (by omega)]; omega)]
    · rw [if_neg q, if_neg (fun z => by rw [lt_i, nI_toInt (by omega), nI_toInt (by omega)] at z; omega)]
  rw [eL]
  by_cases q : p f = p i ∨ p f = p j
  · rw [if_pos q, if_pos ⟨by omega, by
      rcases q with q | q
      · exact Or.inl (by rw [q])
      · exact Or.inr (by rw [q])⟩]
  · rw [if_neg q, if_neg (fun z => by
      rcases z.2 with u | u
      · exact q (Or.inl (nI_i (by omega) (by omega) u))
      · exact q (Or.inr (nI_i (by omega) (by omega) u)))]
def rowP (bk : Nat) : Nat := match Nat.beq bk 336 with
  | true => 49848
  | false => 50232
theorem rowP_8 {bk : Nat} (hb : isBk bk) : Nat.ble 8 (rowP bk % 16) = true := by
  rcases hb with rfl | rfl <;> decide
/-- joined, by the rows of book bk -/
def joC (bk : Nat) (m : MM) : Nat → Nat → Prop := joP (fun k => gI m (rowC bk 6) k) (fun k => gI m (rowC bk 7) k)
/-- the party row of book bk holds the labels -/
def LbC (bk n : Nat) (m : MM) : Prop := ∃ p : Nat → Nat, LabOn (joC bk m) n p ∧ ∀ f, f < n → gI m (rowP bk) f = nI (p f)
theorem joC_fr {bk : Nat} {W : List Nat} {m m' : MM} (hb : isBk bk) (hF : Fr W m m') (h6 : elm (rowC bk 6) W = false) (h7 : elm (rowC bk 7) W = false) : joC bk m' = joC bk m := by
  unfold joC
  have e6 : (fun k => gI m' (rowC bk 6) k) = (fun k => gI m (rowC bk 6) k) := by
    funext k
    exact row1 hF (rowC_8 hb 6 (by decide)) h6
  have e7 : (fun k => gI m' (rowC bk 7) k) = (fun k => gI m (rowC bk 7) k) := by
    funext k
    exact row1 hF (rowC_8 hb 7 (by decide)) h7
  rw [e6, e7]
def lbFree (bk : Nat) (W : List Nat) : Bool := !(elm (rowC bk 6) W) && !(elm (rowC bk 7) W) && !(elm (rowP bk) W)
theorem elm_not {a : Nat} {W : List Nat} (h : (!(elm a W)) = true) : elm a W = false := by
  cases hq : elm a W with
  | false => rfl
  | true => rw [hq] at h; cases h
theorem LbC.fr {bk n : Nat} {W : List Nat} {m m' : MM} (h : LbC bk n m) (hb : isBk bk) (hF : Fr W m m') (hW : lbFree bk W = true) : LbC bk n m' := by
  unfold lbFree at hW
  simp only [Bool.and_eq_true] at hW
  obtain ⟨⟨w1, w2⟩, w3⟩ := hW
  obtain ⟨p, h1, h2⟩ := h
  refine ⟨p, ?_, fun f hf => ?_⟩
  · rw [joC_fr hb hF (elm_not w1) (elm_not w2)]
    exact h1
  · rw [row1 hF (rowP_8 hb) (elm_not w3)]
    exact h2 f hf
set_option maxRecDepth 100000 in
set_option maxHeartbeats 4000000 in
theorem r_areJoined_336 {m : MM} {a b : Int32} {i j : Nat} (ha : a.toInt = i) (hb : b.toInt = j) (hi : i < 12) (hj : j < 12) : CI 1 mX0_areJoined [.ref 336, .int a, .int b] m (fun r m' => m' = m ∧ z1 (joC 336 m i j) r) := by
  have va : vp_in a 12 := vp_in_iff.mpr ⟨by omega, show a.toInt < ((12 : Nat) : Int) by omega⟩
  have vb : vp_in b 12 := vp_in_iff.mpr ⟨by omega, show b.toInt < ((12 : Nat) : Int) by omega⟩
  refine At.gs okX0_areJoined 80 ?_
  (conv => whnf)
  refine And.intro va ?_
  (conv => whnf)
  refine And.intro (fun h1 => ?_) (fun h1 => ?_)
  · have h1 : gI m 49784 a.toNatClampNeg = 0 := h1
    rw [nat_c ha] at h1
    have no1 : ¬ (gI m 49784 i ≠ 0 ∧ gI m 49784 i = gI m 49784 j) := fun u => u.1 h1
    (conv => whnf)
    refine And.intro va ?_
    (conv => whnf)
    refine And.intro (fun h2 => ?_) (fun h2 => ?_)
    · have h2 : gI m 49800 a.toNatClampNeg = 0 := h2
      rw [nat_c ha] at h2
      exact ⟨Or.inl rfl, rfl, Or.inr ⟨fun z => Or.elim z (fun u => no1 u) (fun u => u.1 h2), rfl⟩⟩
    · have h2 : ¬ gI m 49800 a.toNatClampNeg = 0 := h2
      rw [nat_c ha] at h2
      (conv => whnf)
      refine And.intro va ?_
      (conv => whnf)
      refine And.intro vb ?_
      (conv => whnf)
      refine And.intro (fun h3 => ?_) (fun h3 => ?_)
      · have h3 : ¬ gI m 49800 a.toNatClampNeg = gI m 49800 b.toNatClampNeg := h3
        rw [nat_c ha, nat_c hb] at h3
        exact ⟨Or.inl rfl, rfl, Or.inr ⟨fun z => Or.elim z (fun u => no1 u) (fun u => h3 u.2), rfl⟩⟩
      · have h3 : gI m 49800 a.toNatClampNeg = gI m 49800 b.toNatClampNeg := h3
        rw [nat_c ha, nat_c hb] at h3
        exact ⟨Or.inr rfl, rfl, Or.inl ⟨Or.inr ⟨h2, h3⟩, rfl⟩⟩
  · have h1 : ¬ gI m 49784 a.toNatClampNeg = 0 := h1
    rw [nat_c ha] at h1
    (conv => whnf)
    refine And.intro va ?_
    (conv => whnf)
    refine And.intro vb ?_
    (conv => whnf)
    refine And.intro (fun h4 => ?_) (fun h4 => ?_)
    · have h4 : gI m 49784 a.toNatClampNeg = gI m 49784 b.toNatClampNeg := h4
      rw [nat_c ha, nat_c hb] at h4
      exact ⟨Or.inr rfl, rfl, Or.inl ⟨Or.inl ⟨h1, h4⟩, rfl⟩⟩
    · have h4 : ¬ gI m 49784 a.toNatClampNeg = gI m 49784 b.toNatClampNeg := h4
      rw [nat_c ha, nat_c hb] at h4
      have no1 : ¬ (gI m 49784 i ≠ 0 ∧ gI m 49784 i = gI m 49784 j) := fun u => h4 u.2
      (conv => whnf)
      refine And.intro va ?_
      (conv => whnf)
      refine And.intro (fun h2 => ?_) (fun h2 => ?_)
      · have h2 : gI m 49800 a.toNatClampNeg = 0 := h2
        rw [nat_c ha] at h2
        exact ⟨Or.inl rfl, rfl, Or.inr ⟨fun z => Or.elim z (fun u => no1 u) (fun u => u.1 h2), rfl⟩⟩
      · have h2 : ¬ gI m 49800 a.toNatClampNeg = 0 := h2
        rw [nat_c ha] at h2
        (conv => whnf)
        refine And.intro va ?_
        (conv => whnf)
        refine And.intro vb ?_
        (conv => whnf)
        refine And.intro (fun h3 => ?_) (fun h3 => ?_)
        · have h3 : ¬ gI m 49800 a.toNatClampNeg = gI m 49800 b.toNatClampNeg := h3
          rw [nat_c ha, nat_c hb] at h3
          exact ⟨Or.inl rfl, rfl, Or.inr ⟨fun z => Or.elim z (fun u => no1 u) (fun u => h3 u.2), rfl⟩⟩
        · have h3 : gI m 49800 a.toNatClampNeg = gI m 49800 b.toNatClampNeg := h3
          rw [nat_c ha, nat_c hb] at h3
          exact ⟨Or.inr rfl, rfl, Or.inl ⟨Or.inr ⟨h2, h3⟩, rfl⟩⟩
set_option maxRecDepth 100000 in
set_option maxHeartbeats 8000000 in
theorem r_merge_336 {m : MM} {a b : Int32} {n : Nat} (hM : Mok TYg m) (hn : (gI m 418 1).toInt = n) (h12 : n ≤ 12) : CV 1 mX0_mergeParties [.ref 336, .int a, .int b] m (fun m' => St [49848] m m' ∧ ∀ f, gI m' 49848 f = mgI n (if b < a then b else a) a b (fun k => gI m 49848 k) f) := by
  have lp : ∀ (d k : Nat) (kI : Int32) (m1 : MM), kI.toInt = k → k + d = n → St [49848] m m1 → (∀ f, gI m1 49848 f = mgI k (if b < a then b else a) a b (fun k => gI m 49848 k) f) → At (E0 1) mX0_mergeParties (qv (fun m' => St [49848] m m' ∧ ∀ f, gI m' 49848 f = mgI n (if b < a then b else a) a b (fun k => gI m 49848 k) f)) 9 [.ref 336, .int a, .int b, .int (if b < a then b else a), .int kI] [] m1 := by
    intro d
    induction d with
    | zero =>
      intro k kI m1 hk hd hS hG
      have hn1 : (gI m1 418 1).toInt = n := by rw [fr1 hS.2.2 (by decide)]; exact hn
      refine At.ls okX0_mergeParties 60 ⟨_, _, rfl⟩ ?_
      (conv => whnf)
      refine And.intro (fun h => ?_) (fun h => ?_)
      · refine ⟨hS, fun f => ?_⟩
        rw [hG f, show k = n by omega]
      · have h : ¬ gI m1 418 1 ≤ kI := h
        rw [le_i] at h
        omega
    | succ d ih =>
      intro k kI m1 hk hd hS hG
      have hn1 : (gI m1 418 1).toInt = n := by rw [fr1 hS.2.2 (by decide)]; exact hn
      have e1 : (kI + 1).toInt = ((k + 1 : Nat) : Int) := by rw [inc1 (by omega), hk]; omega
      have v1 : vp_in kI 12 := vp_in_iff.mpr ⟨by omega, show kI.toInt < ((12 : Nat) : Int) by omega⟩
      have kz : kI.toNatClampNeg = k := nat_c hk
      have gk : gI m1 49848 k = gI m 49848 k := by
        rw [hG k]
        exact mgI_n (g := fun k => gI m 49848 k) (fun z => Nat.lt_irrefl _ z.1)
      have oth : ∀ f, f ≠ k → gI m1 49848 f = mgI (k + 1) (if b < a then b else a) a b (fun k => gI m 49848 k) f := by
        intro f hf
        rw [hG f]
        by_cases y : f < k ∧ (gI m 49848 f = a ∨ gI m 49848 f = b)
        · exact (mgI_y (g := fun k => gI m 49848 k) y).trans (mgI_y (g := fun k => gI m 49848 k) ⟨by have := y.1; omega, y.2⟩).symm
        · exact (mgI_n (g := fun k => gI m 49848 k) y).trans (mgI_n (g := fun k => gI m 49848 k) (fun z => y ⟨by have := z.1; omega, z.2⟩)).symm
      have put : (gI m 49848 k = a ∨ gI m 49848 k = b) → ∀ f, gI (sI m1 49848 kI.toNatClampNeg (if b < a then b else a)) 49848 f = mgI (k + 1) (if b < a then b else a) a b (fun k => gI m 49848 k) f := by
        intro hv f
        rw [kz, gI_if]
        by_cases q : f = k
        · rw [if_pos ⟨rfl, q⟩, q]
          exact (mgI_y (g := fun k => gI m 49848 k) ⟨by omega, hv⟩).symm
        · rw [if_neg (fun z => q z.2)]
          exact oth f q
      have skip : ¬ (gI m 49848 k = a ∨ gI m 49848 k = b) → ∀ f, gI m1 49848 f = mgI (k + 1) (if b < a then b else a) a b (fun k => gI m 49848 k) f := by
        intro hv f
        by_cases q : f = k
        · rw [q, gk]
          exact (mgI_n (g := fun k => gI m 49848 k) (fun z => hv z.2)).symm
        · exact oth f q
      have SP : St [49848] m (sI m1 49848 kI.toNatClampNeg (if b < a then b else a)) := hS.row (by decide) (by decide) (tI_lo _) (tI_hi _)
      refine At.ls okX0_mergeParties 80 ⟨_, _, rfl⟩ ?_
      (conv => whnf)
      refine And.intro (fun h => ?_) (fun h => ?_)
      · have h : gI m1 418 1 ≤ kI := h
        rw [le_i] at h
        omega
      · (conv => whnf)
        refine And.intro v1 ?_
        (conv => whnf)
        refine And.intro (fun h2 => ?_) (fun h2 => ?_)
        · have h2 : gI m1 49848 kI.toNatClampNeg = a := h2
          rw [kz, gk] at h2
          (conv => whnf)
          refine And.intro v1 ?_
          (conv => whnf)
          exact And.intro rfl (ih (k + 1) (kI + 1) _ e1 (by omega) SP (put (Or.inl h2)))
        · have h2 : ¬ gI m1 49848 kI.toNatClampNeg = a := h2
          rw [kz, gk] at h2
          (conv => whnf)
          refine And.intro v1 ?_
          (conv => whnf)
          refine And.intro (fun h3 => ?_) (fun h3 => ?_)
          · have h3 : ¬ gI m1 49848 kI.toNatClampNeg = b := h3
            rw [kz, gk] at h3
            (conv => whnf)
            exact And.intro rfl (ih (k + 1) (kI + 1) _ e1 (by omega) hS (skip (fun z => Or.elim z h2 h3)))
          · have h3 : gI m1 49848 kI.toNatClampNeg = b := h3
            rw [kz, gk] at h3
            (conv => whnf)
            refine And.intro v1 ?_
            (conv => whnf)
            exact And.intro rfl (ih (k + 1) (kI + 1) _ e1 (by omega) SP (put (Or.inr h3)))
  refine At.gs okX0_mergeParties 60 ?_
  (conv => whnf)
  refine And.intro rfl (lp n 0 0 m rfl (by omega) (St.rf hM) (fun f => ?_))
  exact (mgI_n (g := fun k => gI m 49848 k) (fun z => Nat.not_lt_zero _ z.1)).symm
set_option maxRecDepth 100000 in
set_option maxHeartbeats 8000000 in
theorem r_join_336 {m : MM} {n : Nat} (hM : Mok TYg m) (hn : (gI m 418 1).toInt = n) (h12 : n ≤ 12) : CV 2 mX0_joinParties [.ref 336] m (fun m' => St [49848] m m' ∧ LbC 336 n m') := by
  have hk : isBk 336 := by unfold isBk; omega
  have jf : ∀ m1, St [49848] m m1 → joC 336 m1 = joC 336 m := fun m1 hS => joC_fr hk hS.2.2 (by decide) (by decide)
  have lp : ∀ (d i : Nat) (iI : Int32) (v : Value) (m1 : MM) (p : Nat → Nat), iI.toInt = i → i + d = n → St [49848] m m1 → LabOn (edJ (joC 336 m) i 0) i p → (∀ f, f < i → gI m1 49848 f = nI (p f)) → At (E0 2) mX0_joinParties (qv (fun m' => St [49848] m m' ∧ LbC 336 n m')) 2 [.ref 336, .int iI, v] [] m1 := by
    intro d
    induction d with
    | zero =>
      intro i iI v m1 p hi hd hS hL hP
      have hn1 : (gI m1 418 1).toInt = n := by rw [fr1 hS.2.2 (by decide)]; exact hn
      refine At.ls okX0_joinParties 60 ⟨_, _, rfl⟩ ?_
      (conv => whnf)
      refine And.intro (fun h => ?_) (fun h => ?_)
      · have e : i = n := by omega
        rw [e] at hL hP
        refine ⟨hS, p, ?_, hP⟩
        rw [jf m1 hS]
        exact LabOn.full (fun x y z => joP_sy z) hL
      · have h : ¬ gI m1 418 1 ≤ iI := h
        rw [le_i] at h
        omega
    | succ d ih =>
      intro i iI v m1 p hi hd hS hL hP
      have hn1 : (gI m1 418 1).toInt = n := by rw [fr1 hS.2.2 (by decide)]; exact hn
      have e1 : (iI + 1).toInt = ((i + 1 : Nat) : Int) := by rw [inc1 (by omega), hi]; omega
      have v1 : vp_in iI 12 := vp_in_iff.mpr ⟨by omega, show iI.toInt < ((12 : Nat) : Int) by omega⟩
      have iz : iI.toNatClampNeg = i := nat_c hi
      have lpI : ∀ (d2 j : Nat) (jI : Int32) (m2 : MM) (p2 : Nat → Nat), jI.toInt = j → j + d2 = i → St [49848] m m2 → LabOn (edJ (joC 336 m) i j) (i + 1) p2 → (∀ f, f < i + 1 → gI m2 49848 f = nI (p2 f)) → At (E0 2) mX0_joinParties (qv (fun m' => St [49848] m m' ∧ LbC 336 n m')) 22 [.ref 336, .int iI, .int jI] [] m2 := by
        intro d2
        induction d2 with
        | zero =>
          intro j jI m2 p2 hj hd2 hS2 hL2 hP2
          refine At.ls okX0_joinParties 60 ⟨_, _, rfl⟩ ?_
          (conv => whnf)
          refine And.intro (fun h => ?_) (fun h => ?_)
          · (conv => whnf)
            exact And.intro rfl (ih (i + 1) (iI + 1) (.int jI) m2 p2 e1 (by omega) hS2 (LabOn.cg hL2 (fun a b _ _ => edJ_end (by omega)) (fun f _ => rfl)) hP2)
          · have h : ¬ iI ≤ jI := h
            rw [le_i] at h
            omega
        | succ d2 ih2 =>
          intro j jI m2 p2 hj hd2 hS2 hL2 hP2
          have hn2 : (gI m2 418 1).toInt = n := by rw [fr1 hS2.2.2 (by decide)]; exact hn
          have ej : (jI + 1).toInt = ((j + 1 : Nat) : Int) := by rw [inc1 (by omega), hj]; omega
          have vj : vp_in jI 12 := vp_in_iff.mpr ⟨by omega, show jI.toInt < ((12 : Nat) : Int) by omega⟩
          have jz : jI.toNatClampNeg = j := nat_c hj
          refine At.ls okX0_joinParties 60 ⟨_, _, rfl⟩ ?_
          (conv => whnf)
          refine And.intro (fun h => ?_) (fun h => ?_)
          · have h : iI ≤ jI := h
            rw [le_i] at h
            omega
          · (conv => whnf)
            refine ⟨1, by decide, _, r_areJoined_336 hi hj (by omega) (by omega), ?_⟩
            rintro r m' ⟨hmm, hr⟩; have hmm := hmm.symm; subst hmm
            rw [jf m2 hS2] at hr
            (conv => whnf)
            refine And.intro (fun q => ?_) (fun q => ?_)
            · rcases hr with ⟨y1, y2⟩ | ⟨y1, y2⟩
              · rw [y2] at q; exact absurd q (by decide)
              · (conv => whnf)
                exact And.intro rfl (ih2 (j + 1) (jI + 1) m2 p2 ej (by omega) hS2 (LabOn.cg hL2 (fun a b _ _ => edJ_no y1) (fun f _ => rfl)) hP2)
            · rcases hr with ⟨y1, y2⟩ | ⟨y1, y2⟩
              · (conv => whnf)
                refine And.intro v1 ?_
                (conv => whnf)
                refine And.intro vj ?_
                (conv => whnf)
                refine ⟨1, by decide, _, r_merge_336 hS2.1 hn2 h12, ?_⟩
                rintro m3 ⟨S3, g3⟩
                rw [iz, jz] at g3
                (conv => whnf)
                exact And.intro rfl (ih2 (j + 1) (jI + 1) m3 (mrgL p2 i j) ej (by omega) (hS2.tr S3 (fun x hx => hx)) (LabOn.mrg hL2 (by omega) (by omega) (fun x y _ _ => edJ_yes (by omega) y1)) (fun f hf => (g3 f).trans (mg_eq (g := fun k => gI m2 49848 k) hL2.1 hP2 (by omega) (by omega) h12 hf)))
              · exact absurd y2 q
      have SP : St [49848] m (sI m1 49848 iI.toNatClampNeg iI) := hS.row (by decide) (by decide) (tI_lo _) (tI_hi _)
      have gP : ∀ f, f < i + 1 → gI (sI m1 49848 iI.toNatClampNeg iI) 49848 f = nI (if f = i then i else p f) := by
        intro f hf
        rw [iz, gI_if]
        by_cases q : f = i
        · rw [if_pos ⟨rfl, q⟩, if_pos q]
          exact nI_back hi
        · rw [if_neg (fun z => q z.2), if_neg q]
          exact hP f (by omega)
      refine At.ls okX0_joinParties 60 ⟨_, _, rfl⟩ ?_
      (conv => whnf)
      refine And.intro (fun h => ?_) (fun h => ?_)
      · have h : gI m1 418 1 ≤ iI := h
        rw [le_i] at h
        omega
      · (conv => whnf)
        refine And.intro v1 ?_
        (conv => whnf)
        exact And.intro rfl (lpI i 0 0 _ (fun f => if f = i then i else p f) rfl (by omega) SP (LabOn.new hL (fun x y _ _ => edJ_new) (fun f hf => if_neg (by omega)) (if_pos rfl)) gP)
  refine At.gs okX0_joinParties 60 ?_
  (conv => whnf)
  exact And.intro rfl (lp n 0 0 _ m (fun f => f) rfl (by omega) (St.rf hM) ⟨fun f hf => absurd hf (Nat.not_lt_zero _), fun a b ha => absurd ha (Nat.not_lt_zero _), fun q hq f hf => absurd hf (Nat.not_lt_zero _)⟩ (fun f hf => absurd hf (Nat.not_lt_zero _)))
set_option maxRecDepth 100000 in
set_option maxHeartbeats 4000000 in
theorem r_areJoined_720 {m : MM} {a b : Int32} {i j : Nat} (ha : a.toInt = i) (hb : b.toInt = j) (hi : i < 12) (hj : j < 12) : CI 1 mX0_areJoined [.ref 720, .int a, .int b] m (fun r m' => m' = m ∧ z1 (joC 720 m i j) r) := by
  have va : vp_in a 12 := vp_in_iff.mpr ⟨by omega, show a.toInt < ((12 : Nat) : Int) by omega⟩
  have vb : vp_in b 12 := vp_in_iff.mpr ⟨by omega, show b.toInt < ((12 : Nat) : Int) by omega⟩
  refine At.gs okX0_areJoined 80 ?_
  (conv => whnf)
  refine And.intro va ?_
  (conv => whnf)
  refine And.intro (fun h1 => ?_) (fun h1 => ?_)
  · have h1 : gI m 50168 a.toNatClampNeg = 0 := h1
    rw [nat_c ha] at h1
    have no1 : ¬ (gI m 50168 i ≠ 0 ∧ gI m 50168 i = gI m 50168 j) := fun u => u.1 h1
    (conv => whnf)
    refine And.intro va ?_
    (conv => whnf)
    refine And.intro (fun h2 => ?_) (fun h2 => ?_)
    · have h2 : gI m 50184 a.toNatClampNeg = 0 := h2
      rw [nat_c ha] at h2
      exact ⟨Or.inl rfl, rfl, Or.inr ⟨fun z => Or.elim z (fun u => no1 u) (fun u => u.1 h2), rfl⟩⟩
    · have h2 : ¬ gI m 50184 a.toNatClampNeg = 0 := h2
      rw [nat_c ha] at h2
      (conv => whnf)
      refine And.intro va ?_
      (conv => whnf)
      refine And.intro vb ?_
      (conv => whnf)
      refine And.intro (fun h3 => ?_) (fun h3 => ?_)
      · have h3 : ¬ gI m 50184 a.toNatClampNeg = gI m 50184 b.toNatClampNeg := h3
        rw [nat_c ha, nat_c hb] at h3
        exact ⟨Or.inl rfl, rfl, Or.inr ⟨fun z => Or.elim z (fun u => no1 u) (fun u => h3 u.2), rfl⟩⟩
      · have h3 : gI m 50184 a.toNatClampNeg = gI m 50184 b.toNatClampNeg := h3
        rw [nat_c ha, nat_c hb] at h3
        exact ⟨Or.inr rfl, rfl, Or.inl ⟨Or.inr ⟨h2, h3⟩, rfl⟩⟩
  · have h1 : ¬ gI m 50168 a.toNatClampNeg = 0 := h1
    rw [nat_c ha] at h1
    (conv => whnf)
    refine And.intro va ?_
    (conv => whnf)
    refine And.intro vb ?_
    (conv => whnf)
    refine And.intro (fun h4 => ?_) (fun h4 => ?_)
    · have h4 : gI m 50168 a.toNatClampNeg = gI m 50168 b.toNatClampNeg := h4
      rw [nat_c ha, nat_c hb] at h4
      exact ⟨Or.inr rfl, rfl, Or.inl ⟨Or.inl ⟨h1, h4⟩, rfl⟩⟩
    · have h4 : ¬ gI m 50168 a.toNatClampNeg = gI m 50168 b.toNatClampNeg := h4
      rw [nat_c ha, nat_c hb] at h4
      have no1 : ¬ (gI m 50168 i ≠ 0 ∧ gI m 50168 i = gI m 50168 j) := fun u => h4 u.2
      (conv => whnf)
      refine And.intro va ?_
      (conv => whnf)
      refine And.intro (fun h2 => ?_) (fun h2 => ?_)
      · have h2 : gI m 50184 a.toNatClampNeg = 0 := h2
        rw [nat_c ha] at h2
        exact ⟨Or.inl rfl, rfl, Or.inr ⟨fun z => Or.elim z (fun u => no1 u) (fun u => u.1 h2), rfl⟩⟩
      · have h2 : ¬ gI m 50184 a.toNatClampNeg = 0 := h2
        rw [nat_c ha] at h2
        (conv => whnf)
        refine And.intro va ?_
        (conv => whnf)
        refine And.intro vb ?_
        (conv => whnf)
        refine And.intro (fun h3 => ?_) (fun h3 => ?_)
        · have h3 : ¬ gI m 50184 a.toNatClampNeg = gI m 50184 b.toNatClampNeg := h3
          rw [nat_c ha, nat_c hb] at h3
          exact ⟨Or.inl rfl, rfl, Or.inr ⟨fun z => Or.elim z (fun u => no1 u) (fun u => h3 u.2), rfl⟩⟩
        · have h3 : gI m 50184 a.toNatClampNeg = gI m 50184 b.toNatClampNeg := h3
          rw [nat_c ha, nat_c hb] at h3
          exact ⟨Or.inr rfl, rfl, Or.inl ⟨Or.inr ⟨h2, h3⟩, rfl⟩⟩
set_option maxRecDepth 100000 in
set_option maxHeartbeats 8000000 in
theorem r_merge_720 {m : MM} {a b : Int32} {n : Nat} (hM : Mok TYg m) (hn : (gI m 802 1).toInt = n) (h12 : n ≤ 12) : CV 1 mX0_mergeParties [.ref 720, .int a, .int b] m (fun m' => St [50232] m m' ∧ ∀ f, gI m' 50232 f = mgI n (if b < a then b else a) a b (fun k => gI m 50232 k) f) := by
  have lp : ∀ (d k : Nat) (kI : Int32) (m1 : MM), kI.toInt = k → k + d = n → St [50232] m m1 → (∀ f, gI m1 50232 f = mgI k (if b < a then b else a) a b (fun k => gI m 50232 k) f) → At (E0 1) mX0_mergeParties (qv (fun m' => St [50232] m m' ∧ ∀ f, gI m' 50232 f = mgI n (if b < a then b else a) a b (fun k => gI m 50232 k) f)) 9 [.ref 720, .int a, .int b, .int (if b < a then b else a), .int kI] [] m1 := by
    intro d
    induction d with
    | zero =>
      intro k kI m1 hk hd hS hG
      have hn1 : (gI m1 802 1).toInt = n := by rw [fr1 hS.2.2 (by decide)]; exact hn
      refine At.ls okX0_mergeParties 60 ⟨_, _, rfl⟩ ?_
      (conv => whnf)
      refine And.intro (fun h => ?_) (fun h => ?_)
      · refine ⟨hS, fun f => ?_⟩
        rw [hG f, show k = n by omega]
      · have h : ¬ gI m1 802 1 ≤ kI := h
        rw [le_i] at h
        omega
    | succ d ih =>
      intro k kI m1 hk hd hS hG
      have hn1 : (gI m1 802 1).toInt = n := by rw [fr1 hS.2.2 (by decide)]; exact hn
      have e1 : (kI + 1).toInt = ((k + 1 : Nat) : Int) := by rw [inc1 (by omega), hk]; omega
      have v1 : vp_in kI 12 := vp_in_iff.mpr ⟨by omega, show kI.toInt < ((12 : Nat) : Int) by omega⟩
      have kz : kI.toNatClampNeg = k := nat_c hk
      have gk : gI m1 50232 k = gI m 50232 k := by
        rw [hG k]
        exact mgI_n (g := fun k => gI m 50232 k) (fun z => Nat.lt_irrefl _ z.1)
      have oth : ∀ f, f ≠ k → gI m1 50232 f = mgI (k + 1) (if b < a then b else a) a b (fun k => gI m 50232 k) f := by
        intro f hf
        rw [hG f]
        by_cases y : f < k ∧ (gI m 50232 f = a ∨ gI m 50232 f = b)
        · exact (mgI_y (g := fun k => gI m 50232 k) y).trans (mgI_y (g := fun k => gI m 50232 k) ⟨by have := y.1; omega, y.2⟩).symm
        · exact (mgI_n (g := fun k => gI m 50232 k) y).trans (mgI_n (g := fun k => gI m 50232 k) (fun z => y ⟨by have := z.1; omega, z.2⟩)).symm
      have put : (gI m 50232 k = a ∨ gI m 50232 k = b) → ∀ f, gI (sI m1 50232 kI.toNatClampNeg (if b < a then b else a)) 50232 f = mgI (k + 1) (if b < a then b else a) a b (fun k => gI m 50232 k) f := by
        intro hv f
        rw [kz, gI_if]
        by_cases q : f = k
        · rw [if_pos ⟨rfl, q⟩, q]
          exact (mgI_y (g := fun k => gI m 50232 k) ⟨by omega, hv⟩).symm
        · rw [if_neg (fun z => q z.2)]
          exact oth f q
      have skip : ¬ (gI m 50232 k = a ∨ gI m 50232 k = b) → ∀ f, gI m1 50232 f = mgI (k + 1) (if b < a then b else a) a b (fun k => gI m 50232 k) f := by
        intro hv f
        by_cases q : f = k
        · rw [q, gk]
          exact (mgI_n (g := fun k => gI m 50232 k) (fun z => hv z.2)).symm
        · exact oth f q
      have SP : St [50232] m (sI m1 50232 kI.toNatClampNeg (if b < a then b else a)) := hS.row (by decide) (by decide) (tI_lo _) (tI_hi _)
      refine At.ls okX0_mergeParties 80 ⟨_, _, rfl⟩ ?_
      (conv => whnf)
      refine And.intro (fun h => ?_) (fun h => ?_)
      · have h : gI m1 802 1 ≤ kI := h
        rw [le_i] at h
        omega
      · (conv => whnf)
        refine And.intro v1 ?_
        (conv => whnf)
        refine And.intro (fun h2 => ?_) (fun h2 => ?_)
        · have h2 : gI m1 50232 kI.toNatClampNeg = a := h2
          rw [kz, gk] at h2
          (conv => whnf)
          refine And.intro v1 ?_
          (conv => whnf)
          exact And.intro rfl (ih (k + 1) (kI + 1) _ e1 (by omega) SP (put (Or.inl h2)))
        · have h2 : ¬ gI m1 50232 kI.toNatClampNeg = a := h2
          rw [kz, gk] at h2
          (conv => whnf)
          refine And.intro v1 ?_
          (conv => whnf)
          refine And.intro (fun h3 => ?_) (fun h3 => ?_)
          · have h3 : ¬ gI m1 50232 kI.toNatClampNeg = b := h3
            rw [kz, gk] at h3
            (conv => whnf)
            exact And.intro rfl (ih (k + 1) (kI + 1) _ e1 (by omega) hS (skip (fun z => Or.elim z h2 h3)))
          · have h3 : gI m1 50232 kI.toNatClampNeg = b := h3
            rw [kz, gk] at h3
            (conv => whnf)
            refine And.intro v1 ?_
            (conv => whnf)
            exact And.intro rfl (ih (k + 1) (kI + 1) _ e1 (by omega) SP (put (Or.inr h3)))
  refine At.gs okX0_mergeParties 60 ?_
  (conv => whnf)
  refine And.intro rfl (lp n 0 0 m rfl (by omega) (St.rf hM) (fun f => ?_))
  exact (mgI_n (g := fun k => gI m 50232 k) (fun z => Nat.not_lt_zero _ z.1)).symm
set_option maxRecDepth 100000 in
set_option maxHeartbeats 8000000 in
theorem r_join_720 {m : MM} {n : Nat} (hM : Mok TYg m) (hn : (gI m 802 1).toInt = n) (h12 : n ≤ 12) : CV 2 mX0_joinParties [.ref 720] m (fun m' => St [50232] m m' ∧ LbC 720 n m') := by
  have hk : isBk 720 := by unfold isBk; omega
  have jf : ∀ m1, St [50232] m m1 → joC 720 m1 = joC 720 m := fun m1 hS => joC_fr hk hS.2.2 (by decide) (by decide)
  have lp : ∀ (d i : Nat) (iI : Int32) (v : Value) (m1 : MM) (p : Nat → Nat), iI.toInt = i → i + d = n → St [50232] m m1 → LabOn (edJ (joC 720 m) i 0) i p → (∀ f, f < i → gI m1 50232 f = nI (p f)) → At (E0 2) mX0_joinParties (qv (fun m' => St [50232] m m' ∧ LbC 720 n m')) 2 [.ref 720, .int iI, v] [] m1 := by
    intro d
    induction d with
    | zero =>
      intro i iI v m1 p hi hd hS hL hP
      have hn1 : (gI m1 802 1).toInt = n := by rw [fr1 hS.2.2 (by decide)]; exact hn
      refine At.ls okX0_joinParties 60 ⟨_, _, rfl⟩ ?_
      (conv => whnf)
      refine And.intro (fun h => ?_) (fun h => ?_)
      · have e : i = n := by omega
        rw [e] at hL hP
        refine ⟨hS, p, ?_, hP⟩
        rw [jf m1 hS]
        exact LabOn.full (fun x y z => joP_sy z) hL
      · have h : ¬ gI m1 802 1 ≤ iI := h
        rw [le_i] at h
        omega
    | succ d ih =>
      intro i iI v m1 p hi hd hS hL hP
      have hn1 : (gI m1 802 1).toInt = n := by rw [fr1 hS.2.2 (by decide)]; exact hn
      have e1 : (iI + 1).toInt = ((i + 1 : Nat) : Int) := by rw [inc1 (by omega), hi]; omega
      have v1 : vp_in iI 12 := vp_in_iff.mpr ⟨by omega, show iI.toInt < ((12 : Nat) : Int) by omega⟩
      have iz : iI.toNatClampNeg = i := nat_c hi
      have lpI : ∀ (d2 j : Nat) (jI : Int32) (m2 : MM) (p2 : Nat → Nat), jI.toInt = j → j + d2 = i → St [50232] m m2 → LabOn (edJ (joC 720 m) i j) (i + 1) p2 → (∀ f, f < i + 1 → gI m2 50232 f = nI (p2 f)) → At (E0 2) mX0_joinParties (qv (fun m' => St [50232] m m' ∧ LbC 720 n m')) 22 [.ref 720, .int iI, .int jI] [] m2 := by
        intro d2
        induction d2 with
        | zero =>
          intro j jI m2 p2 hj hd2 hS2 hL2 hP2
          refine At.ls okX0_joinParties 60 ⟨_, _, rfl⟩ ?_
          (conv => whnf)
          refine And.intro (fun h => ?_) (fun h => ?_)
          · (conv => whnf)
            exact And.intro rfl (ih (i + 1) (iI + 1) (.int jI) m2 p2 e1 (by omega) hS2 (LabOn.cg hL2 (fun a b _ _ => edJ_end (by omega)) (fun f _ => rfl)) hP2)
          · have h : ¬ iI ≤ jI := h
            rw [le_i] at h
            omega
        | succ d2 ih2 =>
          intro j jI m2 p2 hj hd2 hS2 hL2 hP2
          have hn2 : (gI m2 802 1).toInt = n := by rw [fr1 hS2.2.2 (by decide)]; exact hn
          have ej : (jI + 1).toInt = ((j + 1 : Nat) : Int) := by rw [inc1 (by omega), hj]; omega
          have vj : vp_in jI 12 := vp_in_iff.mpr ⟨by omega, show jI.toInt < ((12 : Nat) : Int) by omega⟩
          have jz : jI.toNatClampNeg = j := nat_c hj
          refine At.ls okX0_joinParties 60 ⟨_, _, rfl⟩ ?_
          (conv => whnf)
          refine And.intro (fun h => ?_) (fun h => ?_)
          · have h : iI ≤ jI := h
            rw [le_i] at h
            omega
          · (conv => whnf)
            refine ⟨1, by decide, _, r_areJoined_720 hi hj (by omega) (by omega), ?_⟩
            rintro r m' ⟨hmm, hr⟩; have hmm := hmm.symm; subst hmm
            rw [jf m2 hS2] at hr
            (conv => whnf)
            refine And.intro (fun q => ?_) (fun q => ?_)
            · rcases hr with ⟨y1, y2⟩ | ⟨y1, y2⟩
              · rw [y2] at q; exact absurd q (by decide)
              · (conv => whnf)
                exact And.intro rfl (ih2 (j + 1) (jI + 1) m2 p2 ej (by omega) hS2 (LabOn.cg hL2 (fun a b _ _ => edJ_no y1) (fun f _ => rfl)) hP2)
            · rcases hr with ⟨y1, y2⟩ | ⟨y1, y2⟩
              · (conv => whnf)
                refine And.intro v1 ?_
                (conv => whnf)
                refine And.intro vj ?_
                (conv => whnf)
                refine ⟨1, by decide, _, r_merge_720 hS2.1 hn2 h12, ?_⟩
                rintro m3 ⟨S3, g3⟩
                rw [iz, jz] at g3
                (conv => whnf)
                exact And.intro rfl (ih2 (j + 1) (jI + 1) m3 (mrgL p2 i j) ej (by omega) (hS2.tr S3 (fun x hx => hx)) (LabOn.mrg hL2 (by omega) (by omega) (fun x y _ _ => edJ_yes (by omega) y1)) (fun f hf => (g3 f).trans (mg_eq (g := fun k => gI m2 50232 k) hL2.1 hP2 (by omega) (by omega) h12 hf)))
              · exact absurd y2 q
      have SP : St [50232] m (sI m1 50232 iI.toNatClampNeg iI) := hS.row (by decide) (by decide) (tI_lo _) (tI_hi _)
      have gP : ∀ f, f < i + 1 → gI (sI m1 50232 iI.toNatClampNeg iI) 50232 f = nI (if f = i then i else p f) := by
        intro f hf
        rw [iz, gI_if]
        by_cases q : f = i
        · rw [if_pos ⟨rfl, q⟩, if_pos q]
          exact nI_back hi
        · rw [if_neg (fun z => q z.2), if_neg q]
          exact hP f (by omega)
      refine At.ls okX0_joinParties 60 ⟨_, _, rfl⟩ ?_
      (conv => whnf)
      refine And.intro (fun h => ?_) (fun h => ?_)
      · have h : gI m1 802 1 ≤ iI := h
        rw [le_i] at h
        omega
      · (conv => whnf)
        refine And.intro v1 ?_
        (conv => whnf)
        exact And.intro rfl (lpI i 0 0 _ (fun f => if f = i then i else p f) rfl (by omega) SP (LabOn.new hL (fun x y _ _ => edJ_new) (fun f hf => if_neg (by omega)) (if_pos rfl)) gP)
  refine At.gs okX0_joinParties 60 ?_
  (conv => whnf)
  exact And.intro rfl (lp n 0 0 _ m (fun f => f) rfl (by omega) (St.rf hM) ⟨fun f hf => absurd hf (Nat.not_lt_zero _), fun a b ha => absurd ha (Nat.not_lt_zero _), fun q hq f hf => absurd hf (Nat.not_lt_zero _)⟩ (fun f hf => absurd hf (Nat.not_lt_zero _)))
