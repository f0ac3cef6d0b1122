/-! what a round carries and takes, its firms: of both -/
def carP (V : VW) (row : List Nat) : Nat → Int32
  | 0 => 999
  | n + 1 => if V.2 12 (row.getD n 0) < carP V row n then V.2 12 (row.getD n 0) else carP V row n
def frmP (V : VW) (row : List Nat) : Nat → Int32
  | 0 => 0
  | n + 1 => frmP V row n ||| ((1 : Int32) <<< (V.2 10 (row.getD n 0) &&& 31))
/-- tax on each piece -/
def eacP (V : VW) (ru : Int32) (s : Nat) : Int32 := V.2 14 s * rateP V ru s
def difP (V : VW) (ru : Int32) (row : List Nat) (i : Nat) : Int32 := eacP V ru (row.getD i 0) - eacP V ru (row.getD (prvI row.length i) 0)
/-- what is taken on each piece, by those sales that count -/
def tkS (V : VW) (ck : Nat → Bool) (ru : Int32) (row : List Nat) : Nat → Int32
  | 0 => 0
  | n + 1 => if ck (row.getD n 0) = true then tkS V ck ru row n + (if 0 < difP V ru row n then difP V ru row n else 0) else tkS V ck ru row n
def takP (V : VW) (ck : Nat → Bool) (ru : Int32) (row : List Nat) : Int32 := tkS V ck ru row row.length * carP V row row.length
theorem tkS_cg {V : VW} {ck ck' : Nat → Bool} {ru : Int32} {row : List Nat} : ∀ n, (∀ i, i < n → ck (row.getD i 0) = ck' (row.getD i 0)) → tkS V ck ru row n = tkS V ck' ru row n
  | 0, _ => rfl
  | n + 1, h => by
    show (if ck _ = true then _ else _) = (if ck' _ = true then _ else _)
    rw [tkS_cg n (fun i hi => h i (by omega)), h n (by omega)]
theorem takP_cg {V : VW} {ck ck' : Nat → Bool} {ru : Int32} {row : List Nat} (h : ∀ i, i < row.length → ck (row.getD i 0) = ck' (row.getD i 0)) : takP V ck ru row = takP V ck' ru row := by
  unfold takP
  rw [tkS_cg _ h]
/-- counted by a set of firms; by who is missing -/
def ckB (V : VW) (ms : Int32) (s : Nat) : Bool := decide (bt ms (V.2 10 s) ≠ 0)
def ckM (V : VW) (ru : Int32) (s : Nat) : Bool := misB V ru (V.2 10 s).toNatClampNeg
theorem ck_eq {V : VW} {ru : Int32} (hW : Wf V) {s : Nat} (hs : s < V.1 3) : ckB V (nI (bsN (misB V ru) (V.1 2))) s = ckM V ru s := by
  obtain ⟨f, f1, f2, f3⟩ := hW.frm hs
  have h12 := hW.1.2.2.1
  unfold ckB ckM
  rw [f3, f2, bt_bs (by omega) f1]
  cases misB V ru f with
  | true => rfl
  | false => rfl
theorem prv_rem {n k : Nat} (hk : k < n) : (k + n - 1) % n = prvI n k := by
  unfold prvI
  by_cases q : k = 0
  · rw [if_pos q, q, Nat.zero_add, Nat.mod_eq_of_lt (by omega)]
  · rw [if_neg q, show k + n - 1 = (k - 1) + n by omega, Nat.add_mod_right, Nat.mod_eq_of_lt (by omega)]
theorem grp_enc {x : Int64} {row : List Nat} {i : Nat} (hx : x.toInt = encN row) (hr : ∀ i, i < row.length → row.getD i 0 < 40) (h6 : row.length ≤ 6) (hi : i < row.length) : grp x (nI i) = nI (row.getD i 0) := by
  have h64 : ∀ i, i < row.length → row.getD i 0 < 64 := fun i hi => by have := hr i hi; omega
  have d := encN_dig row i h64
  have hri := hr i hi
  refine Int32.toInt_inj.mp ?_
  rw [grp_int (by rw [hx]; omega) (by omega), hx, nI_toInt (by omega)]
  exact_mod_cast d
theorem h_sale {m : MM} {x : Int64} {row : List Nat} {i : Nat} (hx : x.toInt = encN row) (hr : ∀ i, i < row.length → row.getD i 0 < 40) (h6 : row.length ≤ 6) (hi : i < row.length) : CI 1 mX6_saleAt [.long x, .int (nI i)] m (fun r m' => m' = m ∧ r = nI (row.getD i 0)) := CI.mono h_saleAt (fun r m' h => ⟨h.1, h.2.trans (grp_enc hx hr h6 hi)⟩)
section Tk
variable {m : MM} {x : Int64} {row : List Nat}
set_option maxRecDepth 100000 in
set_option maxHeartbeats 8000000 in
theorem r_carried_336 (h : SB 336 m) (hx : x.toInt = encN row) (hr : ∀ i, i < row.length → row.getD i 0 < (vw m).1 3) (h6 : row.length ≤ 6) : CI 2 mX0_carriedBy [.ref 336, .long x, .int (nI row.length)] m (fun r m' => m' = m ∧ r = carP (vw m) row row.length) := by
  have h40 := h.2.2.2.2.2.1.2.2.2
  have hr4 : ∀ i, i < row.length → row.getD i 0 < 40 := fun i hi => by have := hr i hi; omega
  have lp : ∀ (d i : Nat), i + d = row.length → At (E0 2) mX0_carriedBy (qi (fun r m' => m' = m ∧ r = carP (vw m) row row.length)) 8 [.ref 336, .long x, .null, .int (nI row.length), .int (carP (vw m) row i), .int (nI i)] [] m := by
    intro d
    induction d with
    | zero =>
      intro i hd
      refine At.ls okX0_carriedBy 60 ⟨_, _, rfl⟩ ?_
      (conv => whnf)
      refine And.intro (fun p => ?_) (fun p => ?_)
      · exact ⟨rfl, by rw [show i = row.length by omega]⟩
      · have p : ¬ nI row.length ≤ nI i := p
        rw [le_i, nI_toInt (by omega), nI_toInt (by omega)] at p
        omega
    | succ d ih =>
      intro i hd
      have hi := hr i (by omega)
      refine At.ls okX0_carriedBy 60 ⟨_, _, rfl⟩ ?_
      (conv => whnf)
      refine And.intro (fun p => ?_) (fun p => ?_)
      · have p : nI row.length ≤ nI i := p
        rw [le_i, nI_toInt (by omega), nI_toInt (by omega)] at p
        omega
      (conv => whnf)
      refine ⟨1, by decide, _, h_sale (i := i) hx hr4 h6 (by omega), ?_⟩
      rintro r m' ⟨hmm, hq⟩; have hmm := hmm.symm; subst hmm
      subst hq
      have c12 : gI m 164344 (nI (row.getD i 0)).toNatClampNeg = (vw m).2 12 (row.getD i 0) := by
        rw [nI_clamp (by omega)]
        exact h.2.1 12 (by decide) (by decide) _ hi
      (conv => whnf)
      refine And.intro (show vp_in (nI (row.getD i 0)) 40 from vp_in_nI (by omega) (by decide)) ?_
      (conv => whnf)
      have z := ih (i + 1) (by omega)
      rw [show carP (vw m) row (i + 1) = if (vw m).2 12 (row.getD i 0) < carP (vw m) row i then (vw m).2 12 (row.getD i 0) else carP (vw m) row i from rfl, ← c12, ← nI_1] at z
      exact And.intro rfl z
  refine At.gs okX0_carriedBy 60 ?_
  (conv => whnf)
  exact And.intro rfl (lp row.length 0 (by omega))
set_option maxRecDepth 100000 in
set_option maxHeartbeats 8000000 in
theorem r_firmsOf_336 (h : SB 336 m) (hx : x.toInt = encN row) (hr : ∀ i, i < row.length → row.getD i 0 < (vw m).1 3) (h6 : row.length ≤ 6) : CI 2 mX0_firmsOf [.ref 336, .long x, .int (nI row.length)] m (fun r m' => m' = m ∧ r = frmP (vw m) row row.length) := by
  have h40 := h.2.2.2.2.2.1.2.2.2
  have hr4 : ∀ i, i < row.length → row.getD i 0 < 40 := fun i hi => by have := hr i hi; omega
  have lp : ∀ (d i : Nat), i + d = row.length → At (E0 2) mX0_firmsOf (qi (fun r m' => m' = m ∧ r = frmP (vw m) row row.length)) 6 [.ref 336, .long x, .null, .int (nI row.length), .int (frmP (vw m) row i), .int (nI i)] [] m := by
    intro d
    induction d with
    | zero =>
      intro i hd
      refine At.ls okX0_firmsOf 60 ⟨_, _, rfl⟩ ?_
      (conv => whnf)
      refine And.intro (fun p => ?_) (fun p => ?_)
      · exact ⟨rfl, by rw [show i = row.length by omega]⟩
      · have p : ¬ nI row.length ≤ nI i := p
        rw [le_i, nI_toInt (by omega), nI_toInt (by omega)] at p
        omega
    | succ d ih =>
      intro i hd
      have hi := hr i (by omega)
      refine At.ls okX0_firmsOf 60 ⟨_, _, rfl⟩ ?_
      (conv => whnf)
      refine And.intro (fun p => ?_) (fun p => ?_)
      · have p : nI row.length ≤ nI i := p
        rw [le_i, nI_toInt (by omega), nI_toInt (by omega)] at p
        omega
      (conv => whnf)
      refine ⟨1, by decide, _, h_sale (i := i) hx hr4 h6 (by omega), ?_⟩
      rintro r m' ⟨hmm, hq⟩; have hmm := hmm.symm; subst hmm
      subst hq
      have c10 : gI m 164312 (nI (row.getD i 0)).toNatClampNeg = (vw m).2 10 (row.getD i 0) := by
        rw [nI_clamp (by omega)]
        exact h.2.1 10 (by decide) (by decide) _ hi
      (conv => whnf)
      refine And.intro (show vp_in (nI (row.getD i 0)) 40 from vp_in_nI (by omega) (by decide)) ?_
      (conv => whnf)
      have z := ih (i + 1) (by omega)
      rw [show frmP (vw m) row (i + 1) = frmP (vw m) row i ||| ((1 : Int32) <<< ((vw m).2 10 (row.getD i 0) &&& 31)) from rfl, ← c10, ← nI_1] at z
      exact And.intro rfl z
  refine At.gs okX0_firmsOf 60 ?_
  (conv => whnf)
  exact And.intro rfl (lp row.length 0 (by omega))
set_option maxRecDepth 100000 in
set_option maxHeartbeats 16000000 in
theorem r_taken_336 {ms ru : Int32} (hM : Mok TYg m) (h : SB 336 m) (hx : x.toInt = encN row) (hr : ∀ i, i < row.length → row.getD i 0 < (vw m).1 3) (h1 : 1 ≤ row.length) (h6 : row.length ≤ 6) : CI 3 mX0_takenBy [.ref 336, .long x, .int (nI row.length), .int ms, .int ru] m (fun r m' => m' = m ∧ r = takP (vw m) (ckB (vw m) ms) ru row) := by
  have h40 := h.2.2.2.2.2.1.2.2.2
  have hr4 : ∀ i, i < row.length → row.getD i 0 < 40 := fun i hi => by have := hr i hi; omega
  have lp : ∀ (d i : Nat) (v9 : Value), i + d = row.length → At (E0 3) mX0_takenBy (qi (fun r m' => m' = m ∧ r = takP (vw m) (ckB (vw m) ms) ru row)) 15 [.ref 336, .long x, .null, .int (nI row.length), .int ms, .int ru, .int (tkS (vw m) (ckB (vw m) ms) ru row i), .int (nI (row.getD (prvI row.length i) 0)), .int (nI i), v9] [] m := by
    intro d
    induction d with
    | zero =>
      intro i v9 hd
      refine At.ls okX0_takenBy 80 ⟨_, _, rfl⟩ ?_
      (conv => whnf)
      refine And.intro (fun p => ?_) (fun p => ?_)
      · (conv => whnf)
        refine ⟨2, by decide, _, r_carried_336 h hx hr h6, ?_⟩
        rintro r m' ⟨hmm, hq⟩; have hmm := hmm.symm; subst hmm
        subst hq
        exact ⟨rfl, by rw [show i = row.length by omega]; rfl⟩
      · have p : ¬ nI row.length ≤ nI i := p
        rw [le_i, nI_toInt (by omega), nI_toInt (by omega)] at p
        omega
    | succ d ih =>
      intro i v9 hd
      have hi := hr i (by omega)
      have hp := hr (prvI row.length i) (prvI_lt (by omega) (by omega))
      have vi : vp_in (nI (row.getD i 0)) 40 := vp_in_nI (by omega) (by decide)
      have c10 : gI m 164312 (nI (row.getD i 0)).toNatClampNeg = (vw m).2 10 (row.getD i 0) := by
        rw [nI_clamp (by omega)]
        exact h.2.1 10 (by decide) (by decide) _ hi
      refine At.ls okX0_takenBy 80 ⟨_, _, rfl⟩ ?_
      (conv => whnf)
      refine And.intro (fun p => ?_) (fun p => ?_)
      · have p : nI row.length ≤ nI i := p
        rw [le_i, nI_toInt (by omega), nI_toInt (by omega)] at p
        omega
      (conv => whnf)
      refine ⟨1, by decide, _, h_sale (i := i) hx hr4 h6 (by omega), ?_⟩
      rintro r m' ⟨hmm, hq⟩; have hmm := hmm.symm; subst hmm
      subst hq
      have z := ih (i + 1) (.int (nI (row.getD i 0))) (by omega)
      rw [show prvI row.length (i + 1) = i from rfl, show tkS (vw m) (ckB (vw m) ms) ru row (i + 1) = if ckB (vw m) ms (row.getD i 0) = true then tkS (vw m) (ckB (vw m) ms) ru row i + (if 0 < difP (vw m) ru row i then difP (vw m) ru row i else 0) else tkS (vw m) (ckB (vw m) ms) ru row i from rfl, ← nI_1] at z
      (conv => whnf)
      refine And.intro vi ?_
      (conv => whnf)
      refine And.intro (fun q => ?_) (fun q => ?_)
      · have q : bt ms (gI m 164312 (nI (row.getD i 0)).toNatClampNeg) = 0 := q
        rw [c10] at q
        have hn : ¬ ckB (vw m) ms (row.getD i 0) = true := fun u => (of_decide_eq_true u) q
        rw [if_neg hn] at z
        (conv => whnf)
        exact And.intro rfl z
      have q : ¬ bt ms (gI m 164312 (nI (row.getD i 0)).toNatClampNeg) = 0 := q
      rw [c10] at q
      have hy : ckB (vw m) ms (row.getD i 0) = true := decide_eq_true q
      rw [if_pos hy] at z
      (conv => whnf)
      refine ⟨1, by decide, _, r_taxEach_336 (s := row.getD i 0) hM h (nI_toInt (by omega)) hi, ?_⟩
      rintro r1 m' ⟨hmm, hq1⟩; have hmm := hmm.symm; subst hmm
      (conv => whnf)
      refine ⟨1, by decide, _, r_taxEach_336 (s := row.getD (prvI row.length i) 0) hM h (nI_toInt (by omega)) hp, ?_⟩
      rintro r2 m' ⟨hmm, hq2⟩; have hmm := hmm.symm; subst hmm
      have eD : r1 - r2 = difP (vw m) ru row i := by rw [hq1, hq2]; rfl
      rw [← eD] at z
      (conv => whnf)
      exact And.intro rfl z
  refine At.gs okX0_takenBy 60 ?_
  (conv => whnf)
  refine ⟨1, by decide, _, (show CI 1 mX6_saleAt [.long x, .int (nI row.length - 1)] m (fun r m' => m' = m ∧ r = nI (row.getD (row.length - 1) 0)) by
    rw [show nI row.length - 1 = nI (row.length - 1) from pk_sub (a := row.length) (b := 1) h1]
    exact h_sale (i := row.length - 1) hx hr4 h6 (by omega)), ?_⟩
  rintro r m' ⟨hmm, hq⟩; have hmm := hmm.symm; subst hmm
  subst hq
  (conv => whnf)
  exact And.intro rfl (lp row.length 0 _ (by omega))
set_option maxRecDepth 100000 in
set_option maxHeartbeats 8000000 in
theorem r_carried_720 (h : SB 720 m) (hx : x.toInt = encN row) (hr : ∀ i, i < row.length → row.getD i 0 < (vw m).1 3) (h6 : row.length ≤ 6) : CI 2 mX0_carriedBy [.ref 720, .long x, .int (nI row.length)] m (fun r m' => m' = m ∧ r = carP (vw m) row row.length) := by
  have h40 := h.2.2.2.2.2.1.2.2.2
  have hr4 : ∀ i, i < row.length → row.getD i 0 < 40 := fun i hi => by have := hr i hi; omega
  have lp : ∀ (d i : Nat), i + d = row.length → At (E0 2) mX0_carriedBy (qi (fun r m' => m' = m ∧ r = carP (vw m) row row.length)) 8 [.ref 720, .long x, .null, .int (nI row.length), .int (carP (vw m) row i), .int (nI i)] [] m := by
    intro d
    induction d with
    | zero =>
      intro i hd
      refine At.ls okX0_carriedBy 60 ⟨_, _, rfl⟩ ?_
      (conv => whnf)
      refine And.intro (fun p => ?_) (fun p => ?_)
      · exact ⟨rfl, by rw [show i = row.length by omega]⟩
      · have p : ¬ nI row.length ≤ nI i := p
        rw [le_i, nI_toInt (by omega), nI_toInt (by omega)] at p
        omega
    | succ d ih =>
      intro i hd
      have hi := hr i (by omega)
      refine At.ls okX0_carriedBy 60 ⟨_, _, rfl⟩ ?_
      (conv => whnf)
      refine And.intro (fun p => ?_) (fun p => ?_)
      · have p : nI row.length ≤ nI i := p
        rw [le_i, nI_toInt (by omega), nI_toInt (by omega)] at p
        omega
      (conv => whnf)
      refine ⟨1, by decide, _, h_sale (i := i) hx hr4 h6 (by omega), ?_⟩
      rintro r m' ⟨hmm, hq⟩; have hmm := hmm.symm; subst hmm
      subst hq
      have c12 : gI m 164728 (nI (row.getD i 0)).toNatClampNeg = (vw m).2 12 (row.getD i 0) := by
        rw [nI_clamp (by omega)]
        exact h.2.1 12 (by decide) (by decide) _ hi
      (conv => whnf)
      refine And.intro (show vp_in (nI (row.getD i 0)) 40 from vp_in_nI (by omega) (by decide)) ?_
      (conv => whnf)
      have z := ih (i + 1) (by omega)
      rw [show carP (vw m) row (i + 1) = if (vw m).2 12 (row.getD i 0) < carP (vw m) row i then (vw m).2 12 (row.getD i 0) else carP (vw m) row i from rfl, ← c12, ← nI_1] at z
      exact And.intro rfl z
  refine At.gs okX0_carriedBy 60 ?_
  (conv => whnf)
  exact And.intro rfl (lp row.length 0 (by omega))
set_option maxRecDepth 100000 in
set_option maxHeartbeats 8000000 in
theorem r_firmsOf_720 (h : SB 720 m) (hx : x.toInt = encN row) (hr : ∀ i, i < row.length → row.getD i 0 < (vw m).1 3) (h6 : row.length ≤ 6) : CI 2 mX0_firmsOf [.ref 720, .long x, .int (nI row.length)] m (fun r m' => m' = m ∧ r = frmP (vw m) row row.length) := by
  have h40 := h.2.2.2.2.2.1.2.2.2
  have hr4 : ∀ i, i < row.length → row.getD i 0 < 40 := fun i hi => by have := hr i hi; omega
  have lp : ∀ (d i : Nat), i + d = row.length → At (E0 2) mX0_firmsOf (qi (fun r m' => m' = m ∧ r = frmP (vw m) row row.length)) 6 [.ref 720, .long x, .null, .int (nI row.length), .int (frmP (vw m) row i), .int (nI i)] [] m := by
    intro d
    induction d with
    | zero =>
      intro i hd
      refine At.ls okX0_firmsOf 60 ⟨_, _, rfl⟩ ?_
      (conv => whnf)
      refine And.intro (fun p => ?_) (fun p => ?_)
      · exact ⟨rfl, by rw [show i = row.length by omega]⟩
      · have p : ¬ nI row.length ≤ nI i := p
        rw [le_i, nI_toInt (by omega), nI_toInt (by omega)] at p
        omega
    | succ d ih =>
      intro i hd
      have hi := hr i (by omega)
      refine At.ls okX0_firmsOf 60 ⟨_, _, rfl⟩ ?_
      (conv => whnf)
      refine And.intro (fun p => ?_) (fun p => ?_)
      · have p : nI row.length ≤ nI i := p
        rw [le_i, nI_toInt (by omega), nI_toInt (by omega)] at p
        omega
      (conv => whnf)
      refine ⟨1, by decide, _, h_sale (i := i) hx hr4 h6 (by omega), ?_⟩
      rintro r m' ⟨hmm, hq⟩; have hmm := hmm.symm; subst hmm
      subst hq
      have c10 : gI m 164696 (nI (row.getD i 0)).toNatClampNeg = (vw m).2 10 (row.getD i 0) := by
        rw [nI_clamp (by omega)]
        exact h.2.1 10 (by decide) (by decide) _ hi
      (conv => whnf)
      refine And.intro (show vp_in (nI (row.getD i 0)) 40 from vp_in_nI (by omega) (by decide)) ?_
      (conv => whnf)
      have z := ih (i + 1) (by omega)
      rw [show frmP (vw m) row (i + 1) = frmP (vw m) row i ||| ((1 : Int32) <<< ((vw m).2 10 (row.getD i 0) &&& 31)) from rfl, ← c10, ← nI_1] at z
      exact And.intro rfl z
  refine At.gs okX0_firmsOf 60 ?_
  (conv => whnf)
  exact And.intro rfl (lp row.length 0 (by omega))
set_option maxRecDepth 100000 in
set_option maxHeartbeats 16000000 in
theorem r_taken_720 {ms ru : Int32} (hM : Mok TYg m) (h : SB 720 m) (hx : x.toInt = encN row) (hr : ∀ i, i < row.length → row.getD i 0 < (vw m).1 3) (h1 : 1 ≤ row.length) (h6 : row.length ≤ 6) : CI 3 mX0_takenBy [.ref 720, .long x, .int (nI row.length), .int ms, .int ru] m (fun r m' => m' = m ∧ r = takP (vw m) (ckB (vw m) ms) ru row) := by
  have h40 := h.2.2.2.2.2.1.2.2.2
  have hr4 : ∀ i, i < row.length → row.getD i 0 < 40 := fun i hi => by have := hr i hi; omega
  have lp : ∀ (d i : Nat) (v9 : Value), i + d = row.length → At (E0 3) mX0_takenBy (qi (fun r m' => m' = m ∧ r = takP (vw m) (ckB (vw m) ms) ru row)) 15 [.ref 720, .long x, .null, .int (nI row.length), .int ms, .int ru, .int (tkS (vw m) (ckB (vw m) ms) ru row i), .int (nI (row.getD (prvI row.length i) 0)), .int (nI i), v9] [] m := by
    intro d
    induction d with
    | zero =>
      intro i v9 hd
      refine At.ls okX0_takenBy 80 ⟨_, _, rfl⟩ ?_
      (conv => whnf)
      refine And.intro (fun p => ?_) (fun p => ?_)
      · (conv => whnf)
        refine ⟨2, by decide, _, r_carried_720 h hx hr h6, ?_⟩
        rintro r m' ⟨hmm, hq⟩; have hmm := hmm.symm; subst hmm
        subst hq
        exact ⟨rfl, by rw [show i = row.length by omega]; rfl⟩
      · have p : ¬ nI row.length ≤ nI i := p
        rw [le_i, nI_toInt (by omega), nI_toInt (by omega)] at p
        omega
    | succ d ih =>
      intro i v9 hd
      have hi := hr i (by omega)
      have hp := hr (prvI row.length i) (prvI_lt (by omega) (by omega))
      have vi : vp_in (nI (row.getD i 0)) 40 := vp_in_nI (by omega) (by decide)
      have c10 : gI m 164696 (nI (row.getD i 0)).toNatClampNeg = (vw m).2 10 (row.getD i 0) := by
        rw [nI_clamp (by omega)]
        exact h.2.1 10 (by decide) (by decide) _ hi
      refine At.ls okX0_takenBy 80 ⟨_, _, rfl⟩ ?_
      (conv => whnf)
      refine And.intro (fun p => ?_) (fun p => ?_)
      · have p : nI row.length ≤ nI i := p
        rw [le_i, nI_toInt (by omega), nI_toInt (by omega)] at p
        omega
      (conv => whnf)
      refine ⟨1, by decide, _, h_sale (i := i) hx hr4 h6 (by omega), ?_⟩
      rintro r m' ⟨hmm, hq⟩; have hmm := hmm.symm; subst hmm
      subst hq
      have z := ih (i + 1) (.int (nI (row.getD i 0))) (by omega)
      rw [show prvI row.length (i + 1) = i from rfl, show tkS (vw m) (ckB (vw m) ms) ru row (i + 1) = if ckB (vw m) ms (row.getD i 0) = true then tkS (vw m) (ckB (vw m) ms) ru row i + (if 0 < difP (vw m) ru row i then difP (vw m) ru row i else 0) else tkS (vw m) (ckB (vw m) ms) ru row i from rfl, ← nI_1] at z
      (conv => whnf)
      refine And.intro vi ?_
      (conv => whnf)
      refine And.intro (fun q => ?_) (fun q => ?_)
      · have q : bt ms (gI m 164696 (nI (row.getD i 0)).toNatClampNeg) = 0 := q
        rw [c10] at q
        have hn : ¬ ckB (vw m) ms (row.getD i 0) = true := fun u => (of_decide_eq_true u) q
        rw [if_neg hn] at z
        (conv => whnf)
        exact And.intro rfl z
      have q : ¬ bt ms (gI m 164696 (nI (row.getD i 0)).toNatClampNeg) = 0 := q
      rw [c10] at q
      have hy : ckB (vw m) ms (row.getD i 0) = true := decide_eq_true q
      rw [if_pos hy] at z
      (conv => whnf)
      refine ⟨1, by decide, _, r_taxEach_720 (s := row.getD i 0) hM h (nI_toInt (by omega)) hi, ?_⟩
      rintro r1 m' ⟨hmm, hq1⟩; have hmm := hmm.symm; subst hmm
      (conv => whnf)
      refine ⟨1, by decide, _, r_taxEach_720 (s := row.getD (prvI row.length i) 0) hM h (nI_toInt (by omega)) hp, ?_⟩
      rintro r2 m' ⟨hmm, hq2⟩; have hmm := hmm.symm; subst hmm
      have eD : r1 - r2 = difP (vw m) ru row i := by rw [hq1, hq2]; rfl
      rw [← eD] at z
      (conv => whnf)
      exact And.intro rfl z
  refine At.gs okX0_takenBy 60 ?_
  (conv => whnf)
  refine ⟨1, by decide, _, (show CI 1 mX6_saleAt [.long x, .int (nI row.length - 1)] m (fun r m' => m' = m ∧ r = nI (row.getD (row.length - 1) 0)) by
    rw [show nI row.length - 1 = nI (row.length - 1) from pk_sub (a := row.length) (b := 1) h1]
    exact h_sale (i := row.length - 1) hx hr4 h6 (by omega)), ?_⟩
  rintro r m' ⟨hmm, hq⟩; have hmm := hmm.symm; subst hmm
  subst hq
  (conv => whnf)
  exact And.intro rfl (lp row.length 0 _ (by omega))
/-- row i of the model -/
def RoM (m : MM) (i : Nat) (row : List Nat) : Prop := row.length ≤ 6 ∧ gI m 820712 i = nI row.length ∧ ∀ j, j < row.length → gI m 4916696 (6 * i + j) = nI (row.getD j 0)
theorem rix {i j : Nat} : 6 * nI i + nI j = nI (6 * i + j) := by
  show nI 6 * nI i + nI j = _
  rw [pk_mul, nI_add]
set_option maxRecDepth 100000 in
set_option maxHeartbeats 8000000 in
theorem s_carries {i : Nat} (hi : i < 200) (h : RoM m i row) (hr : ∀ i, i < row.length → row.getD i 0 < 40) : CI 1 mX7_carries [.ref 1175, .int (nI i)] m (fun r m' => m' = m ∧ r = carP (vw m) row row.length) := by
  obtain ⟨h6, hm, hs⟩ := h
  have v2 : vp_in (nI i) 200 := vp_in_nI hi (by decide)
  have ec : gI m 820712 (nI i).toNatClampNeg = nI row.length := by rw [nI_clamp (by omega)]; exact hm
  have lp : ∀ (d k : Nat), k + d = row.length → At (E0 1) mX7_carries (qi (fun r m' => m' = m ∧ r = carP (vw m) row row.length)) 6 [.ref 1175, .int (nI i), .int (carP (vw m) row k), .int (nI k)] [] m := by
    intro d
    induction d with
    | zero =>
      intro k hd
      refine At.ls okX7_carries 60 ⟨_, _, rfl⟩ ?_
      (conv => whnf)
      refine And.intro v2 ?_
      (conv => whnf)
      refine And.intro (fun p => ?_) (fun p => ?_)
      · exact ⟨rfl, by rw [show k = row.length by omega]⟩
      · have p : ¬ gI m 820712 (nI i).toNatClampNeg ≤ nI k := p
        rw [ec, le_i, nI_toInt (by omega), nI_toInt (by omega)] at p
        omega
    | succ d ih =>
      intro k hd
      have hk := hr k (by omega)
      have xc : gI m 4916696 (6 * nI i + nI k).toNatClampNeg = nI (row.getD k 0) := by rw [rix, nI_clamp (by omega)]; exact hs k (by omega)
      have c12 : gI m 329080 (gI m 4916696 (6 * nI i + nI k).toNatClampNeg).toNatClampNeg = (vw m).2 12 (row.getD k 0) := by rw [xc, nI_clamp (by omega)]; rfl
      refine At.ls okX7_carries 80 ⟨_, _, rfl⟩ ?_
      (conv => whnf)
      refine And.intro v2 ?_
      (conv => whnf)
      refine And.intro (fun p => ?_) (fun p => ?_)
      · have p : gI m 820712 (nI i).toNatClampNeg ≤ nI k := p
        rw [ec, le_i, nI_toInt (by omega), nI_toInt (by omega)] at p
        omega
      (conv => whnf)
      refine And.intro (show vp_in (6 * nI i + nI k) 1200 by rw [rix]; exact vp_in_nI (by omega) (by decide)) ?_
      (conv => whnf)
      refine And.intro (show vp_in (gI m 4916696 (6 * nI i + nI k).toNatClampNeg) 80 by rw [xc]; exact vp_in_nI (by omega) (by decide)) ?_
      (conv => whnf)
      have z := ih (k + 1) (by omega)
      rw [show carP (vw m) row (k + 1) = if (vw m).2 12 (row.getD k 0) < carP (vw m) row k then (vw m).2 12 (row.getD k 0) else carP (vw m) row k from rfl, ← c12, ← nI_1] at z
      exact And.intro rfl z
  refine At.gs okX7_carries 60 ?_
  (conv => whnf)
  exact And.intro rfl (lp row.length 0 (by omega))
set_option maxRecDepth 100000 in
set_option maxHeartbeats 8000000 in
theorem s_firmsOf {i : Nat} (hi : i < 200) (h : RoM m i row) (hr : ∀ i, i < row.length → row.getD i 0 < 40) : CI 1 mX7_firmsOf [.ref 1175, .int (nI i)] m (fun r m' => m' = m ∧ r = frmP (vw m) row row.length) := by
  obtain ⟨h6, hm, hs⟩ := h
  have v2 : vp_in (nI i) 200 := vp_in_nI hi (by decide)
  have ec : gI m 820712 (nI i).toNatClampNeg = nI row.length := by rw [nI_clamp (by omega)]; exact hm
  have lp : ∀ (d k : Nat), k + d = row.length → At (E0 1) mX7_firmsOf (qi (fun r m' => m' = m ∧ r = frmP (vw m) row row.length)) 4 [.ref 1175, .int (nI i), .int (frmP (vw m) row k), .int (nI k)] [] m := by
    intro d
    induction d with
    | zero =>
      intro k hd
      refine At.ls okX7_firmsOf 60 ⟨_, _, rfl⟩ ?_
      (conv => whnf)
      refine And.intro v2 ?_
      (conv => whnf)
      refine And.intro (fun p => ?_) (fun p => ?_)
      · exact ⟨rfl, by rw [show k = row.length by omega]⟩
      · have p : ¬ gI m 820712 (nI i).toNatClampNeg ≤ nI k := p
        rw [ec, le_i, nI_toInt (by omega), nI_toInt (by omega)] at p
        omega
    | succ d ih =>
      intro k hd
      have hk := hr k (by omega)
      have xc : gI m 4916696 (6 * nI i + nI k).toNatClampNeg = nI (row.getD k 0) := by rw [rix, nI_clamp (by omega)]; exact hs k (by omega)
      have c10 : gI m 329048 (gI m 4916696 (6 * nI i + nI k).toNatClampNeg).toNatClampNeg = (vw m).2 10 (row.getD k 0) := by rw [xc, nI_clamp (by omega)]; rfl
      refine At.ls okX7_firmsOf 80 ⟨_, _, rfl⟩ ?_
      (conv => whnf)
      refine And.intro v2 ?_
      (conv => whnf)
      refine And.intro (fun p => ?_) (fun p => ?_)
      · have p : gI m 820712 (nI i).toNatClampNeg ≤ nI k := p
        rw [ec, le_i, nI_toInt (by omega), nI_toInt (by omega)] at p
        omega
      (conv => whnf)
      refine And.intro (show vp_in (6 * nI i + nI k) 1200 by rw [rix]; exact vp_in_nI (by omega) (by decide)) ?_
      (conv => whnf)
      refine And.intro (show vp_in (gI m 4916696 (6 * nI i + nI k).toNatClampNeg) 80 by rw [xc]; exact vp_in_nI (by omega) (by decide)) ?_
      (conv => whnf)
      have z := ih (k + 1) (by omega)
      rw [show frmP (vw m) row (k + 1) = frmP (vw m) row k ||| ((1 : Int32) <<< ((vw m).2 10 (row.getD k 0) &&& 31)) from rfl, ← c10, ← nI_1] at z
      exact And.intro rfl z
  refine At.gs okX7_firmsOf 60 ?_
  (conv => whnf)
  exact And.intro rfl (lp row.length 0 (by omega))
set_option maxRecDepth 100000 in
set_option maxHeartbeats 16000000 in
theorem s_takesOf {i : Nat} {mb tb : Int32} (hM : Mok TYg m) (hW : Wf (vw m)) (hi : i < 200) (h : RoM m i row) (h1 : 1 ≤ row.length) (hr : ∀ i, i < row.length → row.getD i 0 < (vw m).1 3) : CI 5 mX7_takesOf [.ref 1175, .int (nI i), .int mb, .int tb] m (fun r m' => m' = m ∧ r = takP (vw m) (ckM (vw m) mb) tb row) := by
  have h40 := hW.1.2.2.2
  have hr4 : ∀ i, i < row.length → row.getD i 0 < 40 := fun i hi => by have := hr i hi; omega
  have hRo := h
  obtain ⟨h6, hm, hs⟩ := h
  have v2 : vp_in (nI i) 200 := vp_in_nI hi (by decide)
  have ec : gI m 820712 (nI i).toNatClampNeg = nI row.length := by rw [nI_clamp (by omega)]; exact hm
  have lp : ∀ (d k : Nat) (v6 v7 : Value), k + d = row.length → At (E0 5) mX7_takesOf (qi (fun r m' => m' = m ∧ r = takP (vw m) (ckM (vw m) mb) tb row)) 6 [.ref 1175, .int (nI i), .int mb, .int tb, .int (tkS (vw m) (ckM (vw m) mb) tb row k), .int (nI k), v6, v7] [] m := by
    intro d
    induction d with
    | zero =>
      intro k v6 v7 hd
      refine At.ls okX7_takesOf 80 ⟨_, _, rfl⟩ ?_
      (conv => whnf)
      refine And.intro v2 ?_
      (conv => whnf)
      refine And.intro (fun p => ?_) (fun p => ?_)
      · (conv => whnf)
        refine ⟨1, by decide, _, s_carries hi hRo hr4, ?_⟩
        rintro r m' ⟨hmm, hq⟩; have hmm := hmm.symm; subst hmm
        subst hq
        exact ⟨rfl, by rw [show k = row.length by omega]; rfl⟩
      · have p : ¬ gI m 820712 (nI i).toNatClampNeg ≤ nI k := p
        rw [ec, le_i, nI_toInt (by omega), nI_toInt (by omega)] at p
        omega
    | succ d ih =>
      intro k v6 v7 hd
      have hk := hr k (by omega)
      have hp := hr (prvI row.length k) (prvI_lt (by omega) (by omega))
      have lp' := prvI_lt (n := row.length) (i := k) (by omega) (by omega)
      have xc : gI m 4916696 (6 * nI i + nI k).toNatClampNeg = nI (row.getD k 0) := by rw [rix, nI_clamp (by omega)]; exact hs k (by omega)
      have rem : (nI k + gI m 820712 (nI i).toNatClampNeg - 1) - (nI k + gI m 820712 (nI i).toNatClampNeg - 1) / gI m 820712 (nI i).toNatClampNeg * gI m 820712 (nI i).toNatClampNeg = nI (prvI row.length k) := by
        rw [ec, nI_add, show nI (k + row.length) - 1 = nI (k + row.length - 1) from pk_sub (a := k + row.length) (b := 1) (by omega), pk_rem (by omega) (by omega) (by omega), prv_rem (by omega)]
      have ixp : 6 * nI i + ((nI k + gI m 820712 (nI i).toNatClampNeg - 1) - (nI k + gI m 820712 (nI i).toNatClampNeg - 1) / gI m 820712 (nI i).toNatClampNeg * gI m 820712 (nI i).toNatClampNeg) = nI (6 * i + prvI row.length k) := by rw [rem, rix]
      have xp : gI m 4916696 (6 * nI i + ((nI k + gI m 820712 (nI i).toNatClampNeg - 1) - (nI k + gI m 820712 (nI i).toNatClampNeg - 1) / gI m 820712 (nI i).toNatClampNeg * gI m 820712 (nI i).toNatClampNeg)).toNatClampNeg = nI (row.getD (prvI row.length k) 0) := by rw [ixp, nI_clamp (by omega)]; exact hs _ lp'
      obtain ⟨f, f1, f2, f3⟩ := hW.frm hk
      have h12 := hW.1.2.2.1
      have c10 : gI m 329048 (gI m 4916696 (6 * nI i + nI k).toNatClampNeg).toNatClampNeg = nI f := by rw [xc, nI_clamp (by omega)]; exact f2
      have c14 : gI m 329112 (gI m 4916696 (6 * nI i + nI k).toNatClampNeg).toNatClampNeg = (vw m).2 14 (row.getD k 0) := by rw [xc, nI_clamp (by omega)]; rfl
      have vk : vp_in (gI m 4916696 (6 * nI i + nI k).toNatClampNeg) 80 := by rw [xc]; exact vp_in_nI (by omega) (by decide)
      refine At.ls okX7_takesOf 120 ⟨_, _, rfl⟩ ?_
      (conv => whnf)
      refine And.intro v2 ?_
      (conv => whnf)
      refine And.intro (fun p => ?_) (fun p => ?_)
      · have p : gI m 820712 (nI i).toNatClampNeg ≤ nI k := p
        rw [ec, le_i, nI_toInt (by omega), nI_toInt (by omega)] at p
        omega
      (conv => whnf)
      refine And.intro (show vp_in (6 * nI i + nI k) 1200 by rw [rix]; exact vp_in_nI (by omega) (by decide)) ?_
      (conv => whnf)
      refine And.intro v2 ?_
      (conv => whnf)
      refine And.intro v2 ?_
      (conv => whnf)
      refine And.intro (show ¬ gI m 820712 (nI i).toNatClampNeg = 0 by
        rw [ec]
        intro u
        have := nI_inj (b := 0) (by omega) (by omega) u
        omega) ?_
      (conv => whnf)
      refine And.intro (show vp_in (6 * nI i + ((nI k + gI m 820712 (nI i).toNatClampNeg - 1) - (nI k + gI m 820712 (nI i).toNatClampNeg - 1) / gI m 820712 (nI i).toNatClampNeg * gI m 820712 (nI i).toNatClampNeg)) 1200 by rw [ixp]; exact vp_in_nI (by omega) (by decide)) ?_
      (conv => whnf)
      refine And.intro vk ?_
      (conv => whnf)
      refine ⟨4, by decide, _, (show CI 4 mX7_isMissing [.ref 1175, .int (gI m 329048 (gI m 4916696 (6 * nI i + nI k).toNatClampNeg).toNatClampNeg), .int mb] m (fun r m' => m' = m ∧ r = if misB (vw m) mb f = true then 1 else 0) by
        rw [c10]
        exact s_missing hM (by omega)), ?_⟩
      rintro r m' ⟨hmm, hq⟩; have hmm := hmm.symm; subst hmm
      have z := ih (k + 1) (.int (gI m 4916696 (6 * nI i + nI k).toNatClampNeg)) (.int (gI m 4916696 (6 * nI i + ((nI k + gI m 820712 (nI i).toNatClampNeg - 1) - (nI k + gI m 820712 (nI i).toNatClampNeg - 1) / gI m 820712 (nI i).toNatClampNeg * gI m 820712 (nI i).toNatClampNeg)).toNatClampNeg)) (by omega)
      rw [show tkS (vw m) (ckM (vw m) mb) tb row (k + 1) = if ckM (vw m) mb (row.getD k 0) = true then tkS (vw m) (ckM (vw m) mb) tb row k + (if 0 < difP (vw m) tb row k then difP (vw m) tb row k else 0) else tkS (vw m) (ckM (vw m) mb) tb row k from rfl, show ckM (vw m) mb (row.getD k 0) = misB (vw m) mb f by unfold ckM; rw [f3], ← nI_1] at z
      (conv => whnf)
      refine And.intro (fun q => ?_) (fun q => ?_)
      case refine_2 =>
        have q : r = 0 := q
        have hn : ¬ misB (vw m) mb f = true := fun u => by
          rw [if_pos u] at hq
          rw [hq] at q
          exact absurd q (by decide)
        rw [if_neg hn] at z
        (conv => whnf)
        exact And.intro rfl z
      have q : ¬ r = 0 := q
      have hy : misB (vw m) mb f = true := by
        by_cases u : misB (vw m) mb f = true
        · exact u
        · rw [if_neg u] at hq; exact absurd hq q
      rw [if_pos hy] at z
      (conv => whnf)
      refine And.intro vk ?_
      (conv => whnf)
      refine ⟨1, by decide, _, s_rate (s := row.getD k 0) (ru := tb) hM (by rw [xc]; exact nI_toInt (by omega)) (by omega), ?_⟩
      rintro r1 m' ⟨hmm, hq1⟩; have hmm := hmm.symm; subst hmm
      (conv => whnf)
      refine And.intro (show vp_in (gI m 4916696 (6 * nI i + ((nI k + gI m 820712 (nI i).toNatClampNeg - 1) - (nI k + gI m 820712 (nI i).toNatClampNeg - 1) / gI m 820712 (nI i).toNatClampNeg * gI m 820712 (nI i).toNatClampNeg)).toNatClampNeg) 80 by rw [xp]; exact vp_in_nI (by omega) (by decide)) ?_
      (conv => whnf)
      refine ⟨1, by decide, _, s_rate (s := row.getD (prvI row.length k) 0) (ru := tb) hM (by rw [xp]; exact nI_toInt (by omega)) (by omega), ?_⟩
      rintro r2 m' ⟨hmm, hq2⟩; have hmm := hmm.symm; subst hmm
      have c14p : gI m 329112 (gI m 4916696 (6 * nI i + ((nI k + gI m 820712 (nI i).toNatClampNeg - 1) - (nI k + gI m 820712 (nI i).toNatClampNeg - 1) / gI m 820712 (nI i).toNatClampNeg * gI m 820712 (nI i).toNatClampNeg)).toNatClampNeg).toNatClampNeg = (vw m).2 14 (row.getD (prvI row.length k) 0) := by rw [xp, nI_clamp (by omega)]; rfl
      have eD : gI m 329112 (gI m 4916696 (6 * nI i + nI k).toNatClampNeg).toNatClampNeg * r1 - gI m 329112 (gI m 4916696 (6 * nI i + ((nI k + gI m 820712 (nI i).toNatClampNeg - 1) - (nI k + gI m 820712 (nI i).toNatClampNeg - 1) / gI m 820712 (nI i).toNatClampNeg * gI m 820712 (nI i).toNatClampNeg)).toNatClampNeg).toNatClampNeg * r2 = difP (vw m) tb row k := by
        rw [c14, c14p, hq1, hq2]
        rfl
      rw [← eD] at z
      (conv => whnf)
      exact And.intro rfl z
  refine At.gs okX7_takesOf 60 ?_
  (conv => whnf)
  exact And.intro rfl (lp row.length 0 _ _ (by omega))
end Tk
