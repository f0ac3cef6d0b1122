/-! what reading a text means: tokens, lines, books (pure) -/
abbrev BT : Type := Nat → Int
/-- a token: sort (0 end, 1 word, 2 number, 3 stop, 4 none), place, value, place behind it -/
abbrev TK : Type := Nat × Nat × Int × Nat
/-- a book being told: how many lands, goods, firms, sales; rows 0 .. 16 -/
abbrev TB : Type := (Nat → Nat) × (Nat → Nat → Int)
abbrev ER (α : Type) : Type := Sum (Nat × Nat) α
def isB (c : Int) : Bool := decide (c = 10) || decide (c = 32)
def isL (c : Int) : Bool := decide (97 ≤ c) && decide (c ≤ 122)
def isD (c : Int) : Bool := decide (48 ≤ c) && decide (c ≤ 57)
theorem isB_i {c : Int} : isB c = true ↔ c = 10 ∨ c = 32 := by unfold isB; simp
theorem isL_i {c : Int} : isL c = true ↔ 97 ≤ c ∧ c ≤ 122 := by unfold isL; simp
theorem isD_i {c : Int} : isD c = true ↔ 48 ≤ c ∧ c ≤ 57 := by unfold isD; simp
section Spn
variable (P : Int → Bool) (b : BT) (e : Nat)
def spn : Nat → Nat → Nat
  | 0, p => p
  | n + 1, p => if p < e ∧ P (b p) = true then spn n (p + 1) else p
def sp (p : Nat) : Nat := spn P b e (e - p) p
theorem sp_go {p : Nat} (h : p < e) (hP : P (b p) = true) : sp P b e p = sp P b e (p + 1) := by
  unfold sp
  rw [show e - p = (e - (p + 1)) + 1 by omega]
  show (if p < e ∧ P (b p) = true then spn P b e (e - (p + 1)) (p + 1) else p) = _
  rw [if_pos ⟨h, hP⟩]
theorem sp_st {p : Nat} (h : ¬ (p < e ∧ P (b p) = true)) : sp P b e p = p := by
  unfold sp
  cases hn : e - p with
  | zero => rfl
  | succ n =>
    show (if p < e ∧ P (b p) = true then spn P b e n (p + 1) else p) = p
    rw [if_neg h]
theorem spn_ge : ∀ (n p : Nat), p ≤ spn P b e n p
  | 0, p => Nat.le_refl _
  | n + 1, p => by
    show p ≤ (if p < e ∧ P (b p) = true then spn P b e n (p + 1) else p)
    split
    · exact Nat.le_trans (Nat.le_succ p) (spn_ge n (p + 1))
    · exact Nat.le_refl _
theorem sp_ge (p : Nat) : p ≤ sp P b e p := spn_ge P b e _ p
theorem spn_le : ∀ (n p : Nat), p ≤ e → spn P b e n p ≤ e
  | 0, p, h => h
  | n + 1, p, h => by
    show (if p < e ∧ P (b p) = true then spn P b e n (p + 1) else p) ≤ e
    split
    · rename_i q
      exact spn_le n (p + 1) q.1
    · exact h
theorem sp_le {p : Nat} (h : p ≤ e) : sp P b e p ≤ e := spn_le P b e _ p h
theorem spn_all : ∀ (n p : Nat), ∀ j, p ≤ j → j < spn P b e n p → P (b j) = true
  | 0, p, j, h1, h2 => by
    have h2 : j < p := h2
    omega
  | n + 1, p, j, h1, h2 => by
    have h2 : j < (if p < e ∧ P (b p) = true then spn P b e n (p + 1) else p) := h2
    split at h2
    · rename_i q
      by_cases e1 : j = p
      · rw [e1]; exact q.2
      · exact spn_all n (p + 1) j (by omega) h2
    · omega
theorem sp_all {p j : Nat} (h1 : p ≤ j) (h2 : j < sp P b e p) : P (b j) = true := spn_all P b e _ p j h1 h2
end Spn
/-- a word's letters, five bits each, the first highest -/
def lt6 (b : BT) (s n j : Nat) : Int := if j < n then b (s + j) - 96 else 0
def wv (b : BT) (s n : Nat) : Int := lt6 b s n 0 * 33554432 + lt6 b s n 1 * 1048576 + lt6 b s n 2 * 32768 + lt6 b s n 3 * 1024 + lt6 b s n 4 * 32 + lt6 b s n 5
/-- a number; all that is beyond 999999 is 1000000 -/
def nv (b : BT) (s : Nat) : Nat → Int
  | 0 => 0
  | n + 1 => if 10 * nv b s n + (b (s + n) - 48) > 1000000 then 1000000 else 10 * nv b s n + (b (s + n) - 48)
def tokA (b : BT) (e s : Nat) : TK :=
  if e ≤ s then (0, s, 0, s)
  else if isL (b s) = true then (if sp isL b e s - s ≤ 6 then 1 else 4, s, wv b s (sp isL b e s - s), sp isL b e s)
  else if isD (b s) = true then (2, s, nv b s (sp isD b e s - s), sp isD b e s)
  else (if b s = 59 then 3 else 4, s, 0, s + 1)
def tok (b : BT) (e p : Nat) : TK := tokA b e (sp isB b e p)
/-- the words of the language, by their places; -1: none of them -/
def lg (v : Int) : Int := if v = 404164608 then 0 else if v = 251105280 then 1 else if v = 211366912 then 2 else if v = 638981120 then 3 else if v = 538218496 then 4 else if v = 269946880 then 5 else if v = 620213248 then 6 else if v = 136085504 then 7 else if v = 437857280 then 8 else -1
/-- the first place of a value in a row, from j on -/
def fIx (f : Nat → Int) (v : Int) : Nat → Nat → Int
  | 0, _ => -1
  | n + 1, j => if f j = v then (j : Int) else fIx f v n (j + 1)
def bd {α β : Type} (x : ER α) (f : α → ER β) : ER β := match x with
  | .inl e => .inl e
  | .inr a => f a
def own (r : Nat) : Nat := if r < 2 then 0 else if r < 3 then 1 else if r < 10 then 2 else 3
def setR (T : Nat → Nat → Int) (r i : Nat) (v : Int) : Nat → Nat → Int := fun r' i' => if r' = r ∧ i' = i then v else T r' i'
def setN (N : Nat → Nat) (k v : Nat) : Nat → Nat := fun k' => if k' = k then v else N k'
section Lines
variable (b : BT) (e : Nat)
def nx (t : TK) : TK := tok b e t.2.2.2
def numS (lo hi : Int) (t : TK) : ER (Int × TK) :=
  if t.1 = 2 then (if lo ≤ t.2.2.1 ∧ t.2.2.1 ≤ hi then .inr (t.2.2.1, nx b e t) else .inl (2, t.2.1)) else .inl (1, t.2.1)
def isNm (t : TK) : Prop := t.1 = 1 ∧ lg t.2.2.1 = -1
/-- a new name of row r -/
def newS (B : TB) (r : Nat) (t : TK) : ER (Int × TK) :=
  if t.1 = 1 ∧ lg t.2.2.1 = -1 then (if fIx (B.2 r) t.2.2.1 (B.1 (own r)) 0 = -1 then .inr (t.2.2.1, nx b e t) else .inl (3, t.2.1)) else .inl (1, t.2.1)
/-- a new name of row r behind the word of its line, of at most mo -/
def newL (B : TB) (r mo : Nat) (t : TK) : ER (Int × TK) := if B.1 (own r) = mo then .inl (2, t.2.1) else newS b e B r (nx b e t)
/-- a name told ahead, of row r; the token stays -/
def tolS (B : TB) (r : Nat) (t : TK) : ER Int :=
  if t.1 = 1 ∧ lg t.2.2.1 = -1 then (if fIx (B.2 r) t.2.2.1 (B.1 (own r)) 0 = -1 then .inl (4, t.2.1) else .inr (fIx (B.2 r) t.2.2.1 (B.1 (own r)) 0)) else .inl (1, t.2.1)
def landS (B : TB) (t : TK) : ER (TB × TK) :=
  bd (newL b e B 0 5 t) fun x => bd (numS b e 0 40 x.2) fun y =>
  .inr ((setN B.1 0 (B.1 0 + 1), setR (setR B.2 0 (B.1 0) x.1) 1 (B.1 0) y.1), y.2)
def goodS (B : TB) (t : TK) : ER (TB × TK) :=
  bd (newL b e B 2 4 t) fun x => .inr ((setN B.1 1 (B.1 1 + 1), setR B.2 2 (B.1 1) x.1), x.2)
/-- a hand (5, row 6) or a room (6, row 7) of firm f, if one stands here -/
def tieS (f : Nat) (T : Nat → Nat → Int) (t : TK) : ER ((Nat → Nat → Int) × TK) :=
  if t.1 = 1 ∧ (lg t.2.2.1 = 5 ∨ lg t.2.2.1 = 6) then
    (if T (lg t.2.2.1 + 1).toNat f = 0 then bd (numS b e 1 99 (nx b e t)) fun x => .inr (setR T (lg t.2.2.1 + 1).toNat f x.1, x.2) else .inl (3, t.2.1))
  else .inr (T, t)
def firmR (B : TB) (nm land day : Int) : Nat → Nat → Int := setR (setR (setR (setR (setR (setR (setR B.2 3 (B.1 2) nm) 4 (B.1 2) land) 5 (B.1 2) day) 6 (B.1 2) 0) 7 (B.1 2) 0) 8 (B.1 2) 0) 9 (B.1 2) 0
def firmS (B : TB) (t : TK) : ER (TB × TK) :=
  bd (newL b e B 3 12 t) fun x => bd (tolS B 0 x.2) fun l => bd (numS b e 0 400 (nx b e x.2)) fun y =>
  bd (tieS b e (B.1 2) (firmR B x.1 l y.1) y.2) fun u => bd (tieS b e (B.1 2) u.1 u.2) fun v => bd (tieS b e (B.1 2) v.1 v.2) fun w =>
  .inr ((setN B.1 2 (B.1 2 + 1), w.1), w.2)
def dayS (since : Int) (t : TK) : ER (Int × TK) :=
  if t.1 = 1 ∧ lg t.2.2.1 = 7 then
    bd (numS b e 0 400 (nx b e t)) fun x => if x.1 < since then .inl (5, (nx b e t).2.1) else .inr x
  else .inl (1, t.2.1)
def markS (t : TK) : ER (Int × TK) := if t.1 = 1 ∧ lg t.2.2.1 = 8 then numS b e 1 99 (nx b e t) else .inr (0, t)
def saleR (B : TB) (fr to nu go pr da ma : Int) : Nat → Nat → Int := setR (setR (setR (setR (setR (setR (setR B.2 10 (B.1 3) fr) 11 (B.1 3) to) 12 (B.1 3) nu) 13 (B.1 3) go) 14 (B.1 3) pr) 15 (B.1 3) da) 16 (B.1 3) ma
def saleS (B : TB) (t : TK) : ER (TB × TK) :=
  if B.1 3 = 30 then .inl (2, t.2.1) else
  bd (tolS B 3 (nx b e t)) fun fr => bd (tolS B 3 (nx b e (nx b e t))) fun to =>
  if to = fr then .inl (3, (nx b e (nx b e t)).2.1) else
  bd (numS b e 1 999 (nx b e (nx b e (nx b e t)))) fun x => bd (tolS B 2 x.2) fun go => bd (numS b e 1 999 (nx b e x.2)) fun y =>
  bd (dayS b e (if B.2 5 fr.toNat < B.2 5 to.toNat then B.2 5 to.toNat else B.2 5 fr.toNat) y.2) fun d => bd (markS b e d.2) fun k =>
  .inr ((setN B.1 3 (B.1 3 + 1), saleR B fr to x.1 go y.1 d.1 k.1), k.2)
def paidS (B : TB) (t : TK) : ER (TB × TK) :=
  bd (tolS B 3 (nx b e t)) fun f => if B.2 9 f.toNat ≠ 0 then .inl (3, (nx b e t).2.1) else
  bd (numS b e 0 999999 (nx b e (nx b e t))) fun x => .inr ((B.1, setR (setR B.2 8 f.toNat x.1) 9 f.toNat 1), x.2)
def bodyS (B : TB) (t : TK) : ER (TB × TK) :=
  if t.1 = 1 then (if lg t.2.2.1 = 0 then landS b e B t else if lg t.2.2.1 = 1 then goodS b e B t else if lg t.2.2.1 = 2 then firmS b e B t else if lg t.2.2.1 = 3 then saleS b e B t else if lg t.2.2.1 = 4 then paidS b e B t else .inl (1, t.2.1)) else .inl (1, t.2.1)
def lineS (B : TB) (t : TK) : ER (TB × TK) :=
  bd (bodyS b e B t) fun x => if x.2.1 = 3 then .inr (x.1, nx b e x.2) else .inl (1, x.2.2.1)
/-- all lines from here on; ln are behind -/
def bookS : Nat → TB → TK → Nat → ER (TB × Nat)
  | 0, B, _, ln => .inr (B, ln)
  | n + 1, B, t, ln => if t.1 = 0 then .inr (B, ln) else bd (lineS b e B t) fun x => bookS n x.1 x.2 (ln + 1)
end Lines
def B0 : TB := (fun _ => 0, fun _ _ => 0)
def readS (b : BT) (e : Nat) : ER (TB × Nat) := bookS b e 801 B0 (tok b e 0) 0
/-! on tokens -/
theorem tok_s {b : BT} {e p : Nat} (h : p ≤ e) : p ≤ (tok b e p).2.1 ∧ (tok b e p).2.1 ≤ e ∧ (tok b e p).2.1 ≤ (tok b e p).2.2.2 ∧ (tok b e p).2.2.2 ≤ e ∧ ((tok b e p).1 ≠ 0 → (tok b e p).2.1 < (tok b e p).2.2.2) := by
  have h1 := sp_ge isB b e p
  have h2 := sp_le isB b e h
  unfold tok tokA
  split
  · exact ⟨h1, h2, Nat.le_refl _, h2, fun q => absurd rfl q⟩
  · rename_i hs
    have hs : sp isB b e p < e := by omega
    split
    · rename_i hl
      have h3 := sp_ge isL b e (sp isB b e p + 1)
      have h4 := sp_le isL b e (p := sp isB b e p) h2
      rw [← sp_go isL b e hs hl] at h3
      exact ⟨h1, h2, (by show sp isB b e p ≤ sp isL b e (sp isB b e p); omega), h4, fun _ => (by show sp isB b e p < sp isL b e (sp isB b e p); omega)⟩
    · split
      · rename_i hd
        have h3 := sp_ge isD b e (sp isB b e p + 1)
        have h4 := sp_le isD b e (p := sp isB b e p) h2
        rw [← sp_go isD b e hs hd] at h3
        exact ⟨h1, h2, (by show sp isB b e p ≤ sp isD b e (sp isB b e p); omega), h4, fun _ => (by show sp isB b e p < sp isD b e (sp isB b e p); omega)⟩
      · exact ⟨h1, h2, Nat.le_succ _, hs, fun _ => Nat.lt_succ_self _⟩
