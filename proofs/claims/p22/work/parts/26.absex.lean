/-! the abstract machine runs a method's rows -/
abbrev ACE : Type := Nat × Nat × Option AOP
def SndAll (D : KK) : List CE → List ACE → Prop
  | [], [] => True
  | q :: r, a :: s => (q.1 = a.1 ∧ (match q.2.2, a.2.2 with
      | none, none => True
      | some op, some ao => Snd D op ao
      | _, _ => False)) ∧ SndAll D r s
  | _, _ => False
theorem sn_nil {D : KK} : SndAll D [] [] := trivial
theorem sn_st {D : KK} {pc len len2 : Nat} {r : List CE} {s : List ACE} (h : SndAll D r s) : SndAll D ((pc, len, none) :: r) ((pc, len2, none) :: s) := ⟨⟨rfl, trivial⟩, h⟩
theorem sn_op {D : KK} {pc len len2 : Nat} {op : OP} {ao : AOP} {r : List CE} {s : List ACE} (h1 : Snd D op ao) (h : SndAll D r s) : SndAll D ((pc, len, some op) :: r) ((pc, len2, some ao) :: s) := ⟨⟨rfl, h1⟩, h⟩
def aseek (t : Nat) : List ACE → List ACE
  | [] => []
  | q :: r => match Nat.beq q.1 t with
    | true => q :: r
    | false => aseek t r
theorem seek_snd {D : KK} (t : Nat) : ∀ {f : List CE} {a : List ACE}, SndAll D f a → SndAll D (seek t f) (aseek t a)
  | [], [], _ => trivial
  | [], _ :: _, h => h.elim
  | _ :: _, [], h => h.elim
  | q :: r, a :: s, h => by
    unfold seek aseek
    rw [h.1.1]
    cases hb : Nat.beq a.1 t with
    | true => exact h
    | false => exact seek_snd t h.2
theorem tail_snd {D : KK} : ∀ {f : List CE} {a : List ACE}, SndAll D f a → SndAll D f.tail a.tail
  | [], [], _ => trivial
  | [], _ :: _, h => h.elim
  | _ :: _, [], h => h.elim
  | q :: r, a :: s, h => h.2
def ax (ps : Nat → Bool) (stp : Nat → AS → Bool) (rt : AS → Bool) (fa : List ACE) : Nat → List ACE → AS → Bool
  | 0, _, _ => false
  | n + 1, code, A => match code with
    | [] => false
    | (pc, _, none) :: _ => match ps pc with
      | true => ax ps stp rt fa n (aseek pc fa).tail A
      | false => stp pc A
    | (_, _, some ao) :: r => ao (ax ps stp rt fa n r) (fun t => ax ps stp rt fa n (aseek t fa)) rt A
theorem ax_ok {D : KK} {E : EE} {P : QQ} {Γ : GG} {K : Nat → NX} {full : List CE} {fa : List ACE} {ps : Nat → Bool} {stp : Nat → AS → Bool} {rt : AS → Bool} (hps : ∀ (n pc : Nat) (ls st : List Value) (m : MM), ps pc = true → sx E P K full n (seek pc full).tail ls st m → K pc ls st m) (hD : E.1 = D.1 ∧ Γ.1 = D.2.1 ∧ Γ.2.1 = D.2.2.1 ∧ Γ.2.2.1 = D.2.2.2) (hS : SndAll D full fa)
    (hK : ∀ pc A ls st m, stp pc A = true → Rl Γ A ls st m → K pc ls st m) (hP : ∀ A ls st m, rt A = true → Rl Γ A ls st m → P st.head? m) :
    ∀ (n : Nat) (code : List CE) (acode : List ACE), SndAll D code acode → ∀ A ls st m, ax ps stp rt fa n acode A = true → Rl Γ A ls st m → sx E P K full n code ls st m := by
  intro n
  induction n with
  | zero => intro code acode hc A ls st m h hR; cases h
  | succ n ih =>
    intro code acode hc A ls st m h hR
    match code, acode, hc, h with
    | [], [], _, h => cases h
    | [], _ :: _, hc, _ => exact hc.elim
    | _ :: _, [], hc, _ => exact hc.elim
    | (pc, len, none) :: r, (pc2, len2, none) :: s, hc, h =>
      have e : pc = pc2 := hc.1.1
      subst e
      unfold ax at h
      simp only at h
      split at h
      · rename_i hp
        exact hps n pc ls st m hp (ih _ _ (tail_snd (seek_snd pc hS)) A ls st m h hR)
      · exact hK pc A ls st m h hR
    | (pc, len, none) :: r, (pc2, len2, some ao) :: s, hc, h => exact hc.1.2.elim
    | (pc, len, some op) :: r, (pc2, len2, none) :: s, hc, h => exact hc.1.2.elim
    | (pc, len, some op) :: r, (pc2, len2, some ao) :: s, hc, h =>
      have hsn : Snd D op ao := hc.1.2
      exact hsn E P Γ hD _ _ _ _ _ (fun A ls st m h hR => ih r s hc.2 A ls st m h hR) (fun t A ls st m h hR => ih _ _ (seek_snd t hS) A ls st m h hR) hP A ls st m h hR
/-! measures -/
def KM : Nat := 17179869184
/-- a measure's part: 0, a local that grows; 1, a field that grows; 2, a local that falls: its bound; 3: a rank -/
abbrev MS : Type := Nat × Nat × Nat × Int
def vI (v : Value) : Int := match v with
  | .int i => i.toInt
  | _ => 0
def mval (s : MS) (ls : List Value) (m : MM) : Nat := min (match s.1 with
  | 0 => s.2.2.2 - vI (gl s.2.1 ls)
  | 1 => s.2.2.2 - (gI m s.2.1 s.2.2.1).toInt
  | 2 => vI (gl s.2.1 ls) - s.2.2.2
  | _ => s.2.2.2).toNat (KM - 2)
def enc : Nat → List Nat → Nat
  | 0, _ => 0
  | d + 1, [] => KM ^ (d + 1) - 1
  | d + 1, x :: r => x * KM ^ d + enc d r
theorem KM_pos (d : Nat) : 0 < KM ^ d := Nat.pow_pos (by decide)
theorem enc_lt : ∀ (d : Nat) (l : List Nat), (∀ x ∈ l, x ≤ KM - 2) → enc d l < KM ^ d
  | 0, l, _ => by cases l <;> exact Nat.zero_lt_one
  | d + 1, [], _ => by
    have := KM_pos (d + 1)
    show KM ^ (d + 1) - 1 < KM ^ (d + 1)
    omega
  | d + 1, x :: r, h => by
    have h1 := enc_lt d r (fun y hy => h y (List.mem_cons_of_mem _ hy))
    have h2 := h x List.mem_cons_self
    have h3 : x * KM ^ d ≤ (KM - 2) * KM ^ d := Nat.mul_le_mul_right _ h2
    have h4 : (KM - 2) * KM ^ d + KM ^ d + KM ^ d = KM * KM ^ d := by
      rw [← Nat.succ_mul, ← Nat.succ_mul]
      rfl
    show x * KM ^ d + enc d r < KM ^ (d + 1)
    rw [Nat.pow_succ, Nat.mul_comm (KM ^ d) KM]
    omega
theorem enc_top {d y : Nat} {r : List Nat} (h : ∀ x ∈ y :: r, x ≤ KM - 2) : enc (d + 1) (y :: r) < enc (d + 1) [] := by
  have h1 := enc_lt d r (fun z hz => h z (List.mem_cons_of_mem _ hz))
  have h2 := h y List.mem_cons_self
  have h3 : y * KM ^ d ≤ (KM - 2) * KM ^ d := Nat.mul_le_mul_right _ h2
  have h4 : (KM - 2) * KM ^ d + KM ^ d + KM ^ d = KM * KM ^ d := by
    rw [← Nat.succ_mul, ← Nat.succ_mul]
    rfl
  have h5 := KM_pos d
  show y * KM ^ d + enc d r < KM ^ (d + 1) - 1
  rw [Nat.pow_succ, Nat.mul_comm (KM ^ d) KM]
  omega
theorem enc_step {d x y : Nat} {r s : List Nat} (hy : y < x) (h : ∀ z ∈ s, z ≤ KM - 2) : enc (d + 1) (y :: s) < enc (d + 1) (x :: r) := by
  have h1 := enc_lt d s h
  have h2 : (y + 1) * KM ^ d ≤ x * KM ^ d := Nat.mul_le_mul_right _ hy
  rw [Nat.succ_mul] at h2
  show y * KM ^ d + enc d s < x * KM ^ d + enc d r
  omega
theorem mval_le (s : MS) (ls : List Value) (m : MM) : mval s ls m ≤ KM - 2 := Nat.min_le_right _ _
def mv (sp : List MS) (ls : List Value) (m : MM) : List Nat := sp.map (fun s => mval s ls m)
theorem mv_le (sp : List MS) (ls : List Value) (m : MM) : ∀ x ∈ mv sp ls m, x ≤ KM - 2 := by
  intro x hx
  obtain ⟨s, -, rfl⟩ := List.mem_map.mp hx
  exact mval_le s ls m
/-! the beginning of a walk: ints become symbols, by their places -/
def ini1 (n : Nat) (v : AV) : AV := match v.1 with
  | 0 => (1, (n : Int), 0)
  | _ => v
theorem ini1_ne {n : Nat} {v : AV} (h : v.1 ≠ 0) : ini1 n v = v := by
  obtain ⟨t, a, b⟩ := v
  cases t with
  | zero => exact absurd rfl h
  | succ t => rfl
def ini : Nat → List AV → List AV
  | _, [] => []
  | n, v :: r => ini1 n v :: ini (n + 1) r
def iniC1 (v : AV) : Int × Int := match v.1 with
  | 0 => v.2
  | _ => (i32lo, i32hi)
theorem iniC1_ne {v : AV} (h : v.1 ≠ 0) : iniC1 v = (i32lo, i32hi) := by
  obtain ⟨t, a, b⟩ := v
  cases t with
  | zero => exact absurd rfl h
  | succ t => rfl
def iniC (L : List AV) : CC := L.map iniC1
theorem vI_rng (x : Value) : i32lo ≤ vI x ∧ vI x ≤ i32hi := by
  cases x with
  | int i => exact ⟨tI_lo i, tI_hi i⟩
  | _ => exact ⟨(show i32lo ≤ 0 by decide), (show (0 : Int) ≤ i32hi by decide)⟩
/-- the fields of a measure are symbols too, behind the locals -/
def isF (s : MS) : Bool := Nat.beq s.1 1 && Nat.blt s.2.2.1 1048576
def fldS (Ty : TY) : Nat → List MS → CC × AM
  | _, [] => ([], [])
  | n, s :: r => match isF s with
    | true => (tyF Ty.1 Ty.2 s.2.1 s.2.2.1 :: (fldS Ty (n + 1) r).1, ((s.2.1, s.2.2.1), (1, (n : Int), 0)) :: (fldS Ty (n + 1) r).2)
    | false => fldS Ty n r
def iniA (Ty : TY) (L : List AV) (sp : List MS) : AS := (ini 0 L, [], iniC L ++ (fldS Ty L.length sp).1, (fldS Ty L.length sp).2)
def iniS (Ty : TY) (L : List AV) (sp : List MS) (ls : List Value) (m : MM) : Nat → Int := fun i => if i < L.length then vI (gl i ls) else ((fldS Ty L.length sp).2.map (fun q => (gI m q.1.1 q.1.2).toInt)).getD (i - L.length) 0
def noSym (L : List AV) : Bool := L.all (fun v => !(Nat.beq v.1 1))
theorem ini_ok {σ : Nat → Int} : ∀ (L : List AV) (ls : List Value) (n : Nat), noSym L = true → FA (fun _ => 0) L ls → (∀ j, j < L.length → σ (n + j) = vI (gl j ls)) → FA σ (ini n L) ls
  | [], [], _, _, _, _ => trivial
  | [], _ :: _, _, _, h, _ => h.elim
  | _ :: _, [], _, _, h, _ => h.elim
  | v :: r, x :: s, n, hn, h, hσ => by
    unfold noSym at hn
    rw [List.all_cons, Bool.and_eq_true] at hn
    refine ⟨?_, ini_ok r s (n + 1) hn.2 h.2 (fun j hj => by
      have := hσ (j + 1) (by simp only [List.length_cons]; omega)
      rw [show n + 1 + j = n + (j + 1) by omega]
      exact this)⟩
    obtain ⟨t, a, b⟩ := v
    by_cases ht : t = 0
    · subst ht
      obtain ⟨i, rfl, -⟩ := h.1
      refine ⟨i, rfl, ?_⟩
      have := hσ 0 (by simp)
      show i.toInt = σ ((n : Int).toNat) + 0
      rw [Int.toNat_natCast, Int.add_zero]
      exact this.symm
    · rw [ini1_ne (v := (t, a, b)) ht]
      exact gam_ext (n := 0) (fun i hi => absurd hi (Nat.not_lt_zero i)) (by
        unfold symB
        have h1 := hn.1
        split
        · rename_i h2
          simp only at h2
          rw [h2] at h1
          cases h1
        · rfl) h.1
theorem agl_at : ∀ (L : List AV) (i : Nat) (v : AV), L[i]? = some v → agl i L = v
  | [], i, v, h => by cases h
  | w :: r, 0, v, h => by cases h; rfl
  | w :: r, i + 1, v, h => agl_at r i v h
theorem iniC_ok {σ : Nat → Int} (L : List AV) (ls : List Value) (hF : FA (fun _ => 0) L ls) (hσ : ∀ j, j < L.length → σ j = vI (gl j ls)) (i : Nat) (q : Int × Int) (hq : (iniC L)[i]? = some q) : q.1 ≤ σ i ∧ σ i ≤ q.2 := by
  unfold iniC at hq
  rw [List.getElem?_map] at hq
  cases hv : L[i]? with
  | none => rw [hv] at hq; cases hq
  | some v =>
    rw [hv] at hq
    have hi : i < L.length := (List.getElem?_eq_some_iff.mp hv).1
    rw [hσ i hi]
    obtain ⟨t, a, b⟩ := v
    have hq : some (iniC1 (t, a, b)) = some q := hq
    by_cases ht : t = 0
    · subst ht
      cases hq
      have g := FA_gl i _ _ hF
      rw [agl_at L i _ hv] at g
      obtain ⟨z, e2, e3, e4⟩ := g
      rw [e2]
      exact ⟨e3, e4⟩
    · rw [iniC1_ne (v := (t, a, b)) ht] at hq
      cases hq
      exact vI_rng _
theorem fldS_ok {Ty : TY} {σ : Nat → Int} {m : MM} (hM : Mok Ty m) : ∀ (sp : List MS) (n : Nat), (∀ j, j < (fldS Ty n sp).2.length → σ (n + j) = ((fldS Ty n sp).2.map (fun q => (gI m q.1.1 q.1.2).toInt)).getD j 0) →
    (fldS Ty n sp).1.length = (fldS Ty n sp).2.length ∧ (∀ (i : Nat) (q : Int × Int), (fldS Ty n sp).1[i]? = some q → q.1 ≤ σ (n + i) ∧ σ (n + i) ≤ q.2) ∧ okM σ (fldS Ty n sp).2 m.1
  | [], n, _ => ⟨rfl, (fun i q h => by cases h), (fun q hq => by cases hq)⟩
  | s :: r, n, hσ => by
    cases hb : isF s with
    | true =>
      simp only [fldS, hb] at hσ ⊢
      have h0 := hσ 0 (by simp)
      simp only [Nat.add_zero, List.map_cons, List.getD_cons_zero] at h0
      obtain ⟨e1, e2, e3⟩ := fldS_ok (σ := σ) hM r (n + 1) (fun j hj => by
        have := hσ (j + 1) (by simp only [List.length_cons]; omega)
        rw [show n + 1 + j = n + (j + 1) by omega, this]
        simp)
      refine ⟨by simp [e1], fun i q hq => ?_, fun q hq => ?_⟩
      · cases i with
        | zero =>
          cases hq
          rw [Nat.add_zero, h0]
          exact hM.1 _ _
        | succ i =>
          have := e2 i q hq
          rw [show n + 1 + i = n + (i + 1) by omega] at this
          exact this
      · rcases List.mem_cons.mp hq with rfl | hq
        · refine ⟨rfl, _, rfl, ?_⟩
          unfold isF at hb
          rw [Bool.and_eq_true] at hb
          show (m.1 s.2.1 (ixk σ s.2.2.1)).toInt = _
          rw [ixk_lt (Nat.le_of_ble_eq_true hb.2)]
          show (m.1 s.2.1 s.2.2.1).toInt = σ ((n : Int).toNat) + 0
          rw [Int.toNat_natCast, Int.add_zero, h0]
          rfl
        · exact e3 q hq
    | false =>
      simp only [fldS, hb] at hσ ⊢
      exact fldS_ok hM r n hσ
