/-! states of the abstract machine, what they stand for -/
abbrev AM : Type := List ((Nat × Nat) × AV)
abbrev AS : Type := List AV × List AV × CC × AM
def FA (σ : Nat → Int) : List AV → List Value → Prop
  | [], [] => True
  | v :: r, x :: s => gam σ v x ∧ FA σ r s
  | _, _ => False
theorem FA_cons {σ : Nat → Int} {v : AV} {r : List AV} {st : List Value} (h : FA σ (v :: r) st) : ∃ x s, st = x :: s ∧ gam σ v x ∧ FA σ r s := by
  cases st with
  | nil => exact h.elim
  | cons x s => exact ⟨x, s, rfl, h.1, h.2⟩
theorem FA_nil {σ : Nat → Int} {st : List Value} (h : FA σ [] st) : st = [] := by
  cases st with
  | nil => rfl
  | cons x s => exact h.elim
/-- what a symbol beyond the known ones is does not matter -/
def symB (n : Nat) (v : AV) : Bool := match v.1 with
  | 1 => decide (v.2.1.toNat < n)
  | _ => true
theorem gam_ext {σ τ : Nat → Int} {n : Nat} {v : AV} {x : Value} (hn : ∀ i, i < n → τ i = σ i) (hv : symB n v = true) (h : gam σ v x) : gam τ v x := by
  obtain ⟨t, a, b⟩ := v
  by_cases ht : t = 1
  · subst ht
    obtain ⟨i, h1, h2⟩ := h
    have hl : a.toNat < n := of_decide_eq_true hv
    refine ⟨i, h1, ?_⟩
    show i.toInt = τ a.toNat + b
    rw [hn _ hl]
    exact h2
  · unfold gam at h ⊢
    match t, ht, h with
    | 0, _, h => exact h
    | 2, _, h => exact h
    | 3, _, h => exact h
    | 4, _, h => exact trivial
    | 5, _, h => exact h
    | 6, _, h => exact h
    | 7, _, h => exact h
    | 8, _, h => exact h
    | t + 9, _, h => exact trivial
theorem FA_ext {σ τ : Nat → Int} {n : Nat} (hn : ∀ i, i < n → τ i = σ i) : ∀ {l : List AV} {s : List Value}, l.all (symB n) = true → FA σ l s → FA τ l s
  | [], [], _, _ => trivial
  | [], _ :: _, _, h => h.elim
  | _ :: _, [], _, h => h.elim
  | v :: r, x :: s, hs, h => by
    rw [List.all_cons, Bool.and_eq_true] at hs
    exact ⟨gam_ext hn hs.1 h.1, FA_ext hn hs.2 h.2⟩
/-- a place of a row: a number, or (from 1048576 on) a symbol's value -/
def ixk (σ : Nat → Int) (k : Nat) : Nat := if k < 1048576 then k else (σ (k - 1048576)).toNat
theorem ixk_lt {σ : Nat → Int} {k : Nat} (h : k < 1048576) : ixk σ k = k := if_pos h
def kB (n k : Nat) : Bool := Nat.blt k 1048576 || Nat.blt (k - 1048576) n
theorem ixk_ext {σ τ : Nat → Int} {n k : Nat} (hn : ∀ i, i < n → τ i = σ i) (hk : kB n k = true) : ixk τ k = ixk σ k := by
  unfold ixk
  by_cases h : k < 1048576
  · rw [if_pos h, if_pos h]
  · rw [if_neg h, if_neg h]
    unfold kB at hk
    rcases (Bool.or_eq_true _ _).mp hk with q | q
    · exact absurd (Nat.le_of_ble_eq_true q) h
    · rw [hn _ (Nat.le_of_ble_eq_true q)]
def okM (σ : Nat → Int) (M : AM) (f : Nat → Nat → Int32) : Prop := ∀ q ∈ M, isI q.2 = true ∧ gam σ q.2 (.int (f q.1.1 (ixk σ q.1.2)))
/-- ranges of the memory's ints: fields by place, rows as a whole -/
def tyF (tyO : Nat → Nat → Int × Int) (tyA : Nat → Int × Int) (a k : Nat) : Int × Int := match Nat.blt (a % 16) 8 with
  | true => tyO a k
  | false => tyA a
abbrev TY : Type := (Nat → Nat → Int × Int) × (Nat → Int × Int)
def Mok (Ty : TY) (m : MM) : Prop := (∀ a k, (tyF Ty.1 Ty.2 a k).1 ≤ (gI m a k).toInt ∧ (gI m a k).toInt ≤ (tyF Ty.1 Ty.2 a k).2) ∧ ∀ k, PK (gJ m kF_rows k)
def wk (a k : Nat) : Nat := match Nat.blt (a % 16) 8 with
  | true => a + 4294967296 * (k + 1)
  | false => a
theorem wk_row {a k : Nat} (h : Nat.ble 8 (a % 16) = true) : wk a k = a := by
  unfold wk
  have e : Nat.blt (a % 16) 8 = false := by
    cases hb : Nat.blt (a % 16) 8 with
    | false => rfl
    | true =>
      have h1 := Nat.le_of_ble_eq_true h
      have h2 := Nat.le_of_ble_eq_true hb
      omega
  rw [e]
/-- how far the model's reader is from its end -/
def psi (m : MM) : Nat := 2 * (1000 - (gI m 1175 31).toInt).toNat + (if gI m 1175 33 = 4 then 0 else 1)
/-- what may be written: a row by its cell, a field by cell and place (7: the reader's place may be set anew; without it the reader doesn't go back) -/
def Fr (W : List Nat) (m0 m : MM) : Prop := (∀ a k, ¬ wk a k ∈ W → gI m a k = gI m0 a k ∧ gJ m a k = gJ m0 a k) ∧ (¬ 7 ∈ W → psi m ≤ psi m0)
theorem Fr_rfl (W : List Nat) (m : MM) : Fr W m m := ⟨fun _ _ _ => ⟨rfl, rfl⟩, fun _ => Nat.le_refl _⟩
/-- all that stays fixed on a walk: ranges, which book is now, what may be written, the memory and the symbols at first -/
abbrev GG : Type := TY × (Nat × Nat) × List Nat × MM × Nat × (Nat → Int)
def Rs (Γ : GG) (σ : Nat → Int) (A : AS) (ls st : List Value) (m : MM) : Prop := okC σ A.2.2.1 ∧ FA σ A.1 ls ∧ FA σ A.2.1 st ∧ okM σ A.2.2.2 m.1 ∧ Mok Γ.1 m ∧ m.2.2 = Γ.2.1 ∧ Fr Γ.2.2.1 Γ.2.2.2.1 m ∧ Γ.2.2.2.2.1 ≤ A.2.2.1.length ∧ ∀ i, i < Γ.2.2.2.2.1 → σ i = Γ.2.2.2.2.2 i
def Rl (Γ : GG) (A : AS) (ls st : List Value) (m : MM) : Prop := ∃ σ : Nat → Int, Rs Γ σ A ls st m
abbrev AOP : Type := (AS → Bool) → (Nat → AS → Bool) → (AS → Bool) → AS → Bool
/-- depth, ranges, the books, what may be written -/
abbrev KK : Type := Nat × TY × (Nat × Nat) × List Nat
/-- an abstract operation beside a pure one -/
def Snd (D : KK) (op : OP) (a : AOP) : Prop := ∀ (E : EE) (P : QQ) (Γ : GG), E.1 = D.1 ∧ Γ.1 = D.2.1 ∧ Γ.2.1 = D.2.2.1 ∧ Γ.2.2.1 = D.2.2.2 → ∀ (nx : NX) (jp : Nat → NX) (nxA : AS → Bool) (jpA : Nat → AS → Bool) (rtA : AS → Bool),
  (∀ A ls st m, nxA A = true → Rl Γ A ls st m → nx ls st m) → (∀ t A ls st m, jpA t A = true → Rl Γ A ls st m → jp t ls st m) → (∀ A ls st m, rtA A = true → Rl Γ A ls st m → P st.head? m) →
  ∀ A ls st m, a nxA jpA rtA A = true → Rl Γ A ls st m → op E P nx jp ls st m
theorem rf2_len {C C' : CC} {v : AV} {lo hi : Int} (h : rf2 C v lo hi = some C') : C'.length = C.length := by
  unfold rf2 at h
  simp only at h
  split at h
  · split at h
    · cases h; exact List.length_set
    · cases h; rfl
  · cases h
theorem bLt_len {C C' : CC} {x y : AV} (h : bLt C x y = some C') : C'.length = C.length := by
  unfold bLt at h
  obtain ⟨C1, h1, h2⟩ := Option.bind_eq_some_iff.mp h
  rw [rf2_len h2, rf2_len h1]
theorem bLe_len {C C' : CC} {x y : AV} (h : bLe C x y = some C') : C'.length = C.length := by
  unfold bLe at h
  obtain ⟨C1, h1, h2⟩ := Option.bind_eq_some_iff.mp h
  rw [rf2_len h2, rf2_len h1]
theorem bEq_len {C C' : CC} {x y : AV} (h : bEq C x y = some C') : C'.length = C.length := by
  unfold bEq at h
  obtain ⟨C1, h1, h2⟩ := Option.bind_eq_some_iff.mp h
  rw [rf2_len h2, rf2_len h1]
theorem bNe_len {C C' : CC} {x y : AV} (h : bNe C x y = some C') : C'.length = C.length := by
  unfold bNe at h
  repeat' split at h
  all_goals first
    | exact rf2_len h
    | (cases h; rfl)
/-- a relation of two ints, what the abstract machine makes of it -/
def RelOk (R : Int32 → Int32 → Prop) (b : CC → AV → AV → Option CC) : Prop := ∀ (σ : Nat → Int) (C : CC) (x y : AV) (i j : Int32), okC σ C → isI x = true → isI y = true → gam σ x (.int i) → gam σ y (.int j) → R i j → ∃ C', b C x y = some C' ∧ okC σ C' ∧ C'.length = C.length
theorem rLt : RelOk (fun i j => i < j) bLt := fun σ C x y i j hC hx hy gx gy h => by
  obtain ⟨C', h1, h2⟩ := bLt_ok hC hx hy gx gy h
  exact ⟨C', h1, h2, bLt_len h1⟩
theorem rLe : RelOk (fun i j => i ≤ j) bLe := fun σ C x y i j hC hx hy gx gy h => by
  obtain ⟨C', h1, h2⟩ := bLe_ok hC hx hy gx gy h
  exact ⟨C', h1, h2, bLe_len h1⟩
theorem rEq : RelOk (fun i j => i = j) bEq := fun σ C x y i j hC hx hy gx gy h => by
  obtain ⟨C', h1, h2⟩ := bEq_ok hC hx hy gx gy h
  exact ⟨C', h1, h2, bEq_len h1⟩
theorem rNe : RelOk (fun i j => ¬ i = j) bNe := fun σ C x y i j hC hx hy gx gy h => by
  obtain ⟨C', h1, h2⟩ := bNe_ok hC hx hy gx gy h
  exact ⟨C', h1, h2, bNe_len h1⟩
theorem rGe : RelOk (fun i j => j ≤ i) (fun C x y => bLe C y x) := fun σ C x y i j hC hx hy gx gy h => by
  obtain ⟨C', h1, h2⟩ := bLe_ok hC hy hx gy gx h
  exact ⟨C', h1, h2, bLe_len h1⟩
theorem rGt : RelOk (fun i j => j < i) (fun C x y => bLt C y x) := fun σ C x y i j hC hx hy gx gy h => by
  obtain ⟨C', h1, h2⟩ := bLt_ok hC hy hx gy gx h
  exact ⟨C', h1, h2, bLt_len h1⟩
theorem rNlt : RelOk (fun i j => ¬ i < j) (fun C x y => bLe C y x) := fun σ C x y i j hC hx hy gx gy h => rGe σ C x y i j hC hx hy gx gy (Int32.not_lt.mp h)
theorem rNle : RelOk (fun i j => ¬ i ≤ j) (fun C x y => bLt C y x) := fun σ C x y i j hC hx hy gx gy h => rGt σ C x y i j hC hx hy gx gy (Int32.not_le.mp h)
theorem rNge : RelOk (fun i j => ¬ j ≤ i) bLt := fun σ C x y i j hC hx hy gx gy h => rLt σ C x y i j hC hx hy gx gy (Int32.not_le.mp h)
theorem rNgt : RelOk (fun i j => ¬ j < i) bLe := fun σ C x y i j hC hx hy gx gy h => rLe σ C x y i j hC hx hy gx gy (Int32.not_lt.mp h)
section Sn
variable {D : KK}
/-! pops -/
def a2 (k : AV → AV → List AV → Bool) (S : List AV) : Bool := match S with
  | y :: x :: r => isI y && isI x && k y x r
  | _ => false
def a1 (k : AV → List AV → Bool) (S : List AV) : Bool := match S with
  | x :: r => isI x && k x r
  | _ => false
theorem a2_ok {σ : Nat → Int} {k : AV → AV → List AV → Bool} {S : List AV} {st : List Value} (h : a2 k S = true) (hF : FA σ S st) : ∃ y x r j i s, st = .int j :: .int i :: s ∧ isI y = true ∧ isI x = true ∧ gam σ y (.int j) ∧ gam σ x (.int i) ∧ FA σ r s ∧ k y x r = true := by
  unfold a2 at h
  split at h
  · rename_i y x r
    simp only [Bool.and_eq_true] at h
    obtain ⟨⟨h1, h2⟩, h3⟩ := h
    obtain ⟨vy, s1, rfl, gy, hF1⟩ := FA_cons hF
    obtain ⟨vx, s2, rfl, gx, hF2⟩ := FA_cons hF1
    obtain ⟨j, rfl⟩ := gam_int h1 gy
    obtain ⟨i, rfl⟩ := gam_int h2 gx
    exact ⟨y, x, r, j, i, s2, rfl, h1, h2, gy, gx, hF2, h3⟩
  · cases h
theorem a1_ok {σ : Nat → Int} {k : AV → List AV → Bool} {S : List AV} {st : List Value} (h : a1 k S = true) (hF : FA σ S st) : ∃ x r i s, st = .int i :: s ∧ isI x = true ∧ gam σ x (.int i) ∧ FA σ r s ∧ k x r = true := by
  unfold a1 at h
  split at h
  · rename_i x r
    simp only [Bool.and_eq_true] at h
    obtain ⟨h1, h3⟩ := h
    obtain ⟨vx, s2, rfl, gx, hF2⟩ := FA_cons hF
    obtain ⟨i, rfl⟩ := gam_int h1 gx
    exact ⟨x, r, i, s2, rfl, h1, gx, hF2, h3⟩
  · cases h
/-! ints to ints -/
def aBin (fn : CC → AV → AV → AV) : AOP := fun nx _ _ A => a2 (fun y x r => nx (A.1, fn A.2.2.1 x y :: r, A.2.2)) A.2.1
theorem sBin {op : OP} {f : Int32 → Int32 → Int32} {fn : CC → AV → AV → AV} (hop : ∀ (E : EE) (P : QQ) (nx : NX) (jp : Nat → NX) (ls : List Value) (j i : Int32) (s : List Value) (m : MM), nx ls (.int (f i j) :: s) m → op E P nx jp ls (.int j :: .int i :: s) m)
    (hf : ∀ (σ : Nat → Int) (C : CC) (x y : AV) (i j : Int32), okC σ C → isI x = true → isI y = true → gam σ x (.int i) → gam σ y (.int j) → gam σ (fn C x y) (.int (f i j))) : Snd D op (aBin fn) := by
  intro E P Γ hD nx jp nxA jpA rtA hn hj hr A ls st m h hR
  obtain ⟨σ, hC, hL, hS, hM, hrest⟩ := hR
  obtain ⟨y, x, r, j, i, s, rfl, iy, ix, gy, gx, hF, hk⟩ := a2_ok h hS
  exact hop _ _ _ _ _ _ _ _ _ (hn _ _ _ _ hk ⟨σ, hC, hL, ⟨hf σ _ x y i j hC ix iy gx gy, hF⟩, hM, hrest⟩)
def aUn (fn : CC → AV → AV) : AOP := fun nx _ _ A => a1 (fun x r => nx (A.1, fn A.2.2.1 x :: r, A.2.2)) A.2.1
theorem sUn {op : OP} {f : Int32 → Value} {fn : CC → AV → AV} (hop : ∀ (E : EE) (P : QQ) (nx : NX) (jp : Nat → NX) (ls : List Value) (i : Int32) (s : List Value) (m : MM), nx ls (f i :: s) m → op E P nx jp ls (.int i :: s) m)
    (hf : ∀ (σ : Nat → Int) (C : CC) (x : AV) (i : Int32), okC σ C → isI x = true → gam σ x (.int i) → gam σ (fn C x) (f i)) : Snd D op (aUn fn) := by
  intro E P Γ hD nx jp nxA jpA rtA hn hj hr A ls st m h hR
  obtain ⟨σ, hC, hL, hS, hM, hrest⟩ := hR
  obtain ⟨x, r, i, s, rfl, ix, gx, hF, hk⟩ := a1_ok h hS
  exact hop _ _ _ _ _ _ _ _ (hn _ _ _ _ hk ⟨σ, hC, hL, ⟨hf σ _ x i hC ix gx, hF⟩, hM, hrest⟩)
/-! branches -/
def aCm (bt bn : CC → AV → AV → Option CC) (t : Nat) : AOP := fun nx jp _ A => a2 (fun y x r => gon (bt A.2.2.1 x y) (fun C => jp t (A.1, r, C, A.2.2.2)) && gon (bn A.2.2.1 x y) (fun C => nx (A.1, r, C, A.2.2.2))) A.2.1
theorem sCm {op : OP} {R N : Int32 → Int32 → Prop} {bt bn : CC → AV → AV → Option CC} {t : Nat} (hop : ∀ (E : EE) (P : QQ) (nx : NX) (jp : Nat → NX) (ls : List Value) (j i : Int32) (s : List Value) (m : MM), ((R i j → jp t ls s m) ∧ (N i j → nx ls s m)) → op E P nx jp ls (.int j :: .int i :: s) m) (h1 : RelOk R bt) (h2 : RelOk N bn) : Snd D op (aCm bt bn t) := by
  intro E P Γ hD nx jp nxA jpA rtA hn hj hr A ls st m h hR
  obtain ⟨σ, hC, hL, hS, hM, hm1, hm2, hm3, hn0, hs0⟩ := hR
  obtain ⟨y, x, r, j, i, s, rfl, iy, ix, gy, gx, hF, hk⟩ := a2_ok h hS
  rw [Bool.and_eq_true] at hk
  refine hop _ _ _ _ _ _ _ _ _ ⟨fun q => ?_, fun q => ?_⟩
  · obtain ⟨C', e1, e2, e3⟩ := h1 σ _ x y i j hC ix iy gx gy q
    have hk1 := hk.1
    rw [e1] at hk1
    exact hj _ _ _ _ _ hk1 ⟨σ, e2, hL, hF, hM, hm1, hm2, hm3, by rw [show (A.1, r, C', A.2.2.2).2.2.1.length = C'.length from rfl, e3]; exact hn0, hs0⟩
  · obtain ⟨C', e1, e2, e3⟩ := h2 σ _ x y i j hC ix iy gx gy q
    have hk1 := hk.2
    rw [e1] at hk1
    exact hn _ _ _ _ hk1 ⟨σ, e2, hL, hF, hM, hm1, hm2, hm3, by rw [show (A.1, r, C', A.2.2.2).2.2.1.length = C'.length from rfl, e3]; exact hn0, hs0⟩
def zAV : AV := (0, 0, 0)
theorem gam_z {σ : Nat → Int} : gam σ zAV (.int 0) := ⟨0, rfl, by decide, by decide⟩
def aIf (bt bn : CC → AV → AV → Option CC) (t : Nat) : AOP := fun nx jp _ A => a1 (fun x r => gon (bt A.2.2.1 x zAV) (fun C => jp t (A.1, r, C, A.2.2.2)) && gon (bn A.2.2.1 x zAV) (fun C => nx (A.1, r, C, A.2.2.2))) A.2.1
theorem sIf {op : OP} {R N : Int32 → Int32 → Prop} {bt bn : CC → AV → AV → Option CC} {t : Nat} (hop : ∀ (E : EE) (P : QQ) (nx : NX) (jp : Nat → NX) (ls : List Value) (i : Int32) (s : List Value) (m : MM), ((R i 0 → jp t ls s m) ∧ (N i 0 → nx ls s m)) → op E P nx jp ls (.int i :: s) m) (h1 : RelOk R bt) (h2 : RelOk N bn) : Snd D op (aIf bt bn t) := by
  intro E P Γ hD nx jp nxA jpA rtA hn hj hr A ls st m h hR
  obtain ⟨σ, hC, hL, hS, hM, hm1, hm2, hm3, hn0, hs0⟩ := hR
  obtain ⟨x, r, i, s, rfl, ix, gx, hF, hk⟩ := a1_ok h hS
  rw [Bool.and_eq_true] at hk
  refine hop _ _ _ _ _ _ _ _ ⟨fun q => ?_, fun q => ?_⟩
  · obtain ⟨C', e1, e2, e3⟩ := h1 σ _ x zAV i 0 hC ix rfl gx gam_z q
    have hk1 := hk.1
    rw [e1] at hk1
    exact hj _ _ _ _ _ hk1 ⟨σ, e2, hL, hF, hM, hm1, hm2, hm3, by rw [show (A.1, r, C', A.2.2.2).2.2.1.length = C'.length from rfl, e3]; exact hn0, hs0⟩
  · obtain ⟨C', e1, e2, e3⟩ := h2 σ _ x zAV i 0 hC ix rfl gx gam_z q
    have hk1 := hk.2
    rw [e1] at hk1
    exact hn _ _ _ _ hk1 ⟨σ, e2, hL, hF, hM, hm1, hm2, hm3, by rw [show (A.1, r, C', A.2.2.2).2.2.1.length = C'.length from rfl, e3]; exact hn0, hs0⟩
end Sn
