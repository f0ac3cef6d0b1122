/-! what a mark lacks (pure): sales of a mark by days, then numbers -/
section Lk
variable (V : VW) (M : Int32)
def keyP (s : Nat) : Nat := (V.2 15 s).toNatClampNeg * 64 + s
/-- the sale of the mark that is next behind key c (c is one more than the last one's), among the first k -/
def scanP (c : Nat) : Nat → Option Nat
  | 0 => none
  | k + 1 => if V.2 16 k = M ∧ c ≤ keyP V k then (match scanP c k with
    | none => some k
    | some x => if keyP V k < keyP V x then some k else some x) else scanP c k
def gapP (x l : Nat) : Nat := if V.2 10 x = V.2 11 l then 0 else 1
def gapF : Nat → Nat → Nat
  | 0, _ => 0
  | f + 1, l => match scanP V M (keyP V l + 1) (V.1 3) with
    | none => 0
    | some x => gapP V x l + gapF f x
def gapX (f : Nat) : Option Nat → Nat
  | none => match scanP V M 0 (V.1 3) with
    | none => 0
    | some x => gapF V M f x
  | some l => gapF V M f l
def lacN : Nat := gapX V M (V.1 3) none
def cntL (l : Nat) : Nat := cntB (fun s => decide (V.2 16 s = M ∧ keyP V l < keyP V s)) (V.1 3)
end Lk
theorem scanP_n {V : VW} {M : Int32} {c : Nat} : ∀ (k : Nat), scanP V M c k = none → ∀ s, s < k → V.2 16 s = M → keyP V s < c
  | 0, _, s, hs, _ => absurd hs (Nat.not_lt_zero _)
  | k + 1, h, s, hs, hm => by
    unfold scanP at h
    by_cases q : V.2 16 k = M ∧ c ≤ keyP V k
    · rw [if_pos q] at h
      split at h
      · cases h
      · split at h <;> cases h
    · rw [if_neg q] at h
      by_cases z : s = k
      · subst z
        exact Nat.lt_of_not_le (fun y => q ⟨hm, y⟩)
      · exact scanP_n k h s (by omega) hm
theorem scanP_s {V : VW} {M : Int32} {c x : Nat} : ∀ (k : Nat), scanP V M c k = some x → x < k ∧ V.2 16 x = M ∧ c ≤ keyP V x ∧ ∀ s, s < k → V.2 16 s = M → c ≤ keyP V s → keyP V x ≤ keyP V s
  | 0, h => by cases h
  | k + 1, h => by
    unfold scanP at h
    by_cases q : V.2 16 k = M ∧ c ≤ keyP V k
    · rw [if_pos q] at h
      split at h
      · rename_i e
        have hx := Option.some.inj h
        subst hx
        refine ⟨Nat.lt_succ_self _, q.1, q.2, fun s hs hm hc => ?_⟩
        by_cases z : s = k
        · rw [z]; exact Nat.le_refl _
        · have := scanP_n k e s (by omega) hm
          omega
      · rename_i y e
        obtain ⟨y1, y2, y3, y4⟩ := scanP_s k e
        split at h
        · rename_i hlt
          have hx := Option.some.inj h
          subst hx
          refine ⟨Nat.lt_succ_self _, q.1, q.2, fun s hs hm hc => ?_⟩
          by_cases z : s = k
          · rw [z]; exact Nat.le_refl _
          · have := y4 s (by omega) hm hc
            omega
        · rename_i hlt
          have hx := Option.some.inj h
          subst hx
          refine ⟨by omega, y2, y3, fun s hs hm hc => ?_⟩
          by_cases z : s = k
          · rw [z]; omega
          · exact y4 s (by omega) hm hc
    · rw [if_neg q] at h
      obtain ⟨y1, y2, y3, y4⟩ := scanP_s k h
      refine ⟨by omega, y2, y3, fun s hs hm hc => ?_⟩
      by_cases z : s = k
      · rw [z] at hm hc; exact absurd ⟨hm, hc⟩ q
      · exact y4 s (by omega) hm hc
theorem keyP_inj {V : VW} {a b : Nat} (ha : a < 64) (hb : b < 64) (h : keyP V a = keyP V b) : a = b := by
  unfold keyP at h
  omega
theorem cntB_split {p q : Nat → Bool} {x : Nat} (hx : p x = true) (hq : q x = false) (h : ∀ i, i ≠ x → p i = q i) : ∀ n, x < n → cntB p n = cntB q n + 1
  | 0, hn => absurd hn (Nat.not_lt_zero _)
  | n + 1, hn => by
    show cntB p n + (if p n = true then 1 else 0) = cntB q n + (if q n = true then 1 else 0) + 1
    by_cases z : n = x
    · subst z
      have e : ∀ k, k ≤ n → cntB p k = cntB q k := fun k => by
        induction k with
        | zero => intro _; rfl
        | succ k ih =>
          intro hk
          show cntB p k + (if p k = true then 1 else 0) = cntB q k + (if q k = true then 1 else 0)
          rw [ih (by omega), h k (by omega)]
      rw [e n (Nat.le_refl _), hx, hq]
      simp
    · rw [cntB_split hx hq h n (by omega), h n z]
      omega
theorem cntL_s {V : VW} {M : Int32} {l x : Nat} (hn : V.1 3 ≤ 64) (h : scanP V M (keyP V l + 1) (V.1 3) = some x) : cntL V M l = cntL V M x + 1 := by
  obtain ⟨x1, x2, x3, x4⟩ := scanP_s _ h
  unfold cntL
  have e : ∀ n, n ≤ V.1 3 → ∀ q : Nat → Bool, (∀ i, i < V.1 3 → q i = decide (V.2 16 i = M ∧ keyP V x < keyP V i)) → cntB q n = cntB (fun s => decide (V.2 16 s = M ∧ keyP V x < keyP V s)) n := fun n => by
    induction n with
    | zero => intro _ _ _; rfl
    | succ n ih =>
      intro hn q hq
      show cntB q n + (if q n = true then 1 else 0) = _
      rw [ih (by omega) q hq, hq n (by omega)]
      rfl
  have hp := cntB_split (p := fun s => decide (V.2 16 s = M ∧ keyP V l < keyP V s)) (q := fun s => if s = x then false else decide (V.2 16 s = M ∧ keyP V l < keyP V s)) (x := x) (by simp; exact ⟨x2, by omega⟩) (by simp) (fun i hi => by simp [hi]) (V.1 3) x1
  rw [hp, e (V.1 3) (Nat.le_refl _) _ (fun i hi => ?_)]
  by_cases z : i = x
  · subst z
    simp
  · simp only [z, if_false]
    by_cases hm : V.2 16 i = M
    · by_cases y : keyP V l < keyP V i
      · have := x4 i hi hm (by omega)
        have : keyP V x ≠ keyP V i := fun u => z (keyP_inj (by omega) (by omega) u.symm)
        simp [hm]
        omega
      · simp [hm]
        omega
    · simp [hm]
theorem gapF_irr {V : VW} {M : Int32} (hn : V.1 3 ≤ 64) : ∀ (c f l : Nat), cntL V M l = c → c ≤ f → gapF V M f l = gapF V M c l := by
  intro c
  induction c with
  | zero =>
    intro f l hc hf
    cases f with
    | zero => rfl
    | succ f =>
      show (match scanP V M (keyP V l + 1) (V.1 3) with
        | none => 0
        | some x => gapP V x l + gapF V M f x) = 0
      cases hs : scanP V M (keyP V l + 1) (V.1 3) with
      | none => rfl
      | some x =>
        have := cntL_s hn hs
        omega
  | succ c ih =>
    intro f l hc hf
    cases f with
    | zero => omega
    | succ f =>
      show (match scanP V M (keyP V l + 1) (V.1 3) with
        | none => 0
        | some x => gapP V x l + gapF V M f x) = (match scanP V M (keyP V l + 1) (V.1 3) with
        | none => 0
        | some x => gapP V x l + gapF V M c x)
      cases hs : scanP V M (keyP V l + 1) (V.1 3) with
      | none => rfl
      | some x =>
        have := cntL_s hn hs
        show gapP V x l + gapF V M f x = gapP V x l + gapF V M c x
        rw [ih f x (by omega) (by omega)]
theorem cntL_le {V : VW} {M : Int32} (l : Nat) : cntL V M l ≤ V.1 3 := cntB_le _ _
theorem gapX_irr {V : VW} {M : Int32} (hn : V.1 3 ≤ 64) {f : Nat} (hf : V.1 3 ≤ f) (o : Option Nat) : gapX V M f o = gapX V M (V.1 3) o := by
  have k : ∀ l, gapF V M f l = gapF V M (V.1 3) l := fun l => by
    rw [gapF_irr hn _ f l rfl (Nat.le_trans (cntL_le l) hf), gapF_irr hn _ (V.1 3) l rfl (cntL_le l)]
  cases o with
  | none =>
    show (match scanP V M 0 (V.1 3) with
      | none => 0
      | some x => gapF V M f x) = (match scanP V M 0 (V.1 3) with
      | none => 0
      | some x => gapF V M (V.1 3) x)
    cases scanP V M 0 (V.1 3) with
    | none => rfl
    | some x => exact k x
  | some l => exact k l
theorem gapP_le (V : VW) (x l : Nat) : gapP V x l ≤ 1 := by
  unfold gapP
  split <;> omega
theorem gapF_le {V : VW} {M : Int32} : ∀ (f l : Nat), gapF V M f l ≤ f
  | 0, l => Nat.le_refl _
  | f + 1, l => by
    show (match scanP V M (keyP V l + 1) (V.1 3) with
      | none => 0
      | some x => gapP V x l + gapF V M f x) ≤ f + 1
    cases hs : scanP V M (keyP V l + 1) (V.1 3) with
    | none => exact Nat.zero_le _
    | some x =>
      have := gapF_le (V := V) (M := M) f x
      have := gapP_le V x l
      show gapP V x l + gapF V M f x ≤ f + 1
      omega
def optI (o : Option Nat) : Int32 := match o with
  | none => -1
  | some x => nI x
def optC (V : VW) (o : Option Nat) : Nat := match o with
  | none => 0
  | some l => keyP V l + 1
/-- what lacking answers -/
def lacP (V : VW) (M : Int32) : Int32 := if 1 ≤ M.toInt ∧ M.toInt ≤ 99 then nI (lacN V M) else -1
theorem dayN {V : VW} (hW : Wf V) {s : Nat} (hs : s < V.1 3) : ∃ d, d ≤ 400 ∧ V.2 15 s = nI d ∧ (V.2 15 s).toNatClampNeg = d := by
  have y := (hW.2.2.2 s hs).2.2.2.2.2.2.1
  have e : (V.2 15 s).toInt = ((V.2 15 s).toInt.toNat : Nat) := by omega
  exact ⟨(V.2 15 s).toInt.toNat, by omega, nI_back e, rfl⟩
