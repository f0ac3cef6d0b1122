/-! locals, constants, the stack -/
def agl : Nat → List AV → AV
  | _, [] => (4, 0, 0)
  | 0, v :: _ => v
  | n + 1, _ :: r => agl n r
theorem FA_gl {σ : Nat → Int} : ∀ (i : Nat) (L : List AV) (ls : List Value), FA σ L ls → gam σ (agl i L) (gl i ls)
  | i, [], [], _ => by cases i <;> trivial
  | i, [], _ :: _, h => h.elim
  | i, _ :: _, [], h => h.elim
  | 0, v :: r, x :: s, h => h.1
  | i + 1, v :: r, x :: s, h => FA_gl i r s h.2
def akl (v : AV) : AV := match Nat.ble 4 v.1 with
  | true => (4, 0, 0)
  | false => v
theorem akl_ok {σ : Nat → Int} {v : AV} {x : Value} (h : gam σ v x) : gam σ (akl v) (kl x) := by
  obtain ⟨t, a, b⟩ := v
  unfold akl
  cases ht : Nat.ble 4 t with
  | true => trivial
  | false =>
    simp only
    have h4 : ¬ 4 ≤ t := fun q => by rw [Nat.ble_eq_true_of_le q] at ht; cases ht
    rcases (show t = 0 ∨ t = 1 ∨ t = 2 ∨ t = 3 by omega) with rfl | rfl | rfl | rfl
    · obtain ⟨i, rfl, h2⟩ := h; exact ⟨i, rfl, h2⟩
    · obtain ⟨i, rfl, h2⟩ := h; exact ⟨i, rfl, h2⟩
    · have h : x = .ref a.toNat := h
      subst h; rfl
    · obtain ⟨n, rfl⟩ := h; exact ⟨n, rfl⟩
def asl1 : Nat → AV → List AV → List AV
  | _, _, [] => []
  | 0, v, _ :: r => v :: r
  | n + 1, v, x :: r => (match n with
    | 0 => akl x
    | _ + 1 => x) :: asl1 n v r
def asl0 : Nat → List AV → List AV
  | _, [] => []
  | 0, _ :: r => (4, 0, 0) :: r
  | n + 1, x :: r => x :: asl0 n r
theorem FA_sl1 {σ : Nat → Int} {v : AV} {x : Value} (hv : gam σ v x) : ∀ (i : Nat) (L : List AV) (ls : List Value), FA σ L ls → FA σ (asl1 i v L) (sl1 i x ls)
  | i, [], [], _ => by cases i <;> trivial
  | i, [], _ :: _, h => h.elim
  | i, _ :: _, [], h => h.elim
  | 0, w :: r, y :: s, h => ⟨hv, h.2⟩
  | 1, w :: r, y :: s, h => ⟨akl_ok h.1, FA_sl1 hv 0 r s h.2⟩
  | i + 2, w :: r, y :: s, h => ⟨h.1, FA_sl1 hv (i + 1) r s h.2⟩
theorem FA_sl0 {σ : Nat → Int} : ∀ (i : Nat) (L : List AV) (ls : List Value), FA σ L ls → FA σ (asl0 i L) (sl0 i ls)
  | i, [], [], _ => by cases i <;> trivial
  | i, [], _ :: _, h => h.elim
  | i, _ :: _, [], h => h.elim
  | 0, w :: r, y :: s, h => ⟨trivial, h.2⟩
  | i + 1, w :: r, y :: s, h => ⟨h.1, FA_sl0 i r s h.2⟩
/-- a value with a range becomes a symbol -/
def wfA (n : Nat) (A : AS) : Bool := A.1.all (symB n) && A.2.1.all (symB n) && A.2.2.2.all (fun q => symB n q.2 && kB n q.1.2)
def alc (A : AS) (v : AV) (k : AV → AS → Bool) : Bool := match Nat.beq v.1 0 && !(decide (v.2.1 = v.2.2)) && wfA A.2.2.1.length A with
  | true => k (1, (A.2.2.1.length : Int), 0) (A.1, A.2.1, A.2.2.1 ++ [v.2], A.2.2.2)
  | false => k v A
theorem alc_ok {Γ : GG} {σ : Nat → Int} {A : AS} {v : AV} {k : AV → AS → Bool} {ls st : List Value} {m : MM} {i : Int32} (hR : Rs Γ σ A ls st m) (g : gam σ v (.int i)) (hv : isI v = true) (h : alc A v k = true) : ∃ σ' v' A', Rs Γ σ' A' ls st m ∧ gam σ' v' (.int i) ∧ isI v' = true ∧ k v' A' = true := by
  unfold alc at h
  split at h
  · rename_i hb
    simp only [Bool.and_eq_true] at hb
    obtain ⟨⟨b1, -⟩, b3⟩ := hb
    obtain ⟨t, lo, hi⟩ := v
    obtain rfl : t = 0 := Nat.eq_of_beq_eq_true b1
    obtain ⟨i2, e1, e2, e3⟩ := g
    cases e1
    simp only at e2 e3
    obtain ⟨hC, hL, hS, hM, h1, h2, h3, h4, h5⟩ := hR
    unfold wfA at b3
    simp only [Bool.and_eq_true] at b3
    obtain ⟨⟨w1, w2⟩, w3⟩ := b3
    have hext : ∀ j, j < A.2.2.1.length → (fun j => if j = A.2.2.1.length then i.toInt else σ j) j = σ j := fun j hj => by
      simp only
      rw [if_neg (by omega)]
    refine ⟨fun j => if j = A.2.2.1.length then i.toInt else σ j, (1, (A.2.2.1.length : Int), 0), (A.1, A.2.1, A.2.2.1 ++ [(lo, hi)], A.2.2.2), ⟨?_, FA_ext hext w1 hL, FA_ext hext w2 hS, ?_, h1, h2, h3, ?_, ?_⟩, ?_, rfl, h⟩
    · intro j q hq
      simp only at hq
      by_cases hj : j < A.2.2.1.length
      · rw [List.getElem?_append_left hj] at hq
        rw [hext j hj]
        exact hC j q hq
      · rw [List.getElem?_append_right (by omega)] at hq
        have hz : j - A.2.2.1.length < 1 := (List.getElem?_eq_some_iff.mp hq).1
        have hj2 : j = A.2.2.1.length := by omega
        subst hj2
        rw [Nat.sub_self] at hq
        cases hq
        simp only [if_true]
        exact ⟨e2, e3⟩
    · intro q hq
      have hw := List.all_eq_true.mp w3 q hq
      rw [Bool.and_eq_true] at hw
      refine ⟨(hM q hq).1, ?_⟩
      rw [ixk_ext hext hw.2]
      exact gam_ext hext hw.1 (hM q hq).2
    · simp only [List.length_append, List.length_singleton]
      omega
    · intro j hj
      rw [hext j (by omega)]
      exact h5 j hj
    · refine ⟨i, rfl, ?_⟩
      simp
  · exact ⟨σ, v, A, hR, g, hv, h⟩
theorem gam_c {σ : Nat → Int} {v : Int32} {n : Int} (hv : v.toInt = n) : gam σ (0, n, n) (.int v) := ⟨v, rfl, by show n ≤ v.toInt; omega, by show v.toInt ≤ n; omega⟩
section Lo
variable {D : KK}
def aIc (n : Int) : AOP := fun nx _ _ A => nx (A.1, (0, n, n) :: A.2.1, A.2.2)
theorem sIc {v : Int32} {n : Int} (hv : v.toInt = n) : Snd D (oIc v) (aIc n) := by
  intro E P Γ hD nx jp nxA jpA rtA hn hj hr A ls st m h hR
  obtain ⟨σ, hC, hL, hS, hrest⟩ := hR
  exact hn _ _ _ _ h ⟨σ, hC, hL, ⟨gam_c hv, hS⟩, hrest⟩
def aJc (n : Int) : AOP := fun nx _ _ A => nx (A.1, (6, n, n) :: A.2.1, A.2.2)
theorem sJc {v : Int64} {n : Int} (hv : v.toInt = n) : Snd D (oJc v) (aJc n) := by
  intro E P Γ hD nx jp nxA jpA rtA hn hj hr A ls st m h hR
  obtain ⟨σ, hC, hL, hS, hrest⟩ := hR
  exact hn _ _ _ _ h ⟨σ, hC, hL, ⟨⟨v, rfl, by show n ≤ v.toInt; omega, by show v.toInt ≤ n; omega⟩, hS⟩, hrest⟩
def isJ (v : AV) : Bool := Nat.beq v.1 5 || Nat.beq v.1 6 || Nat.beq v.1 8
theorem gam_long {σ : Nat → Int} {v : AV} {x : Value} (hv : isJ v = true) (h : gam σ v x) : ∃ l : Int64, x = .long l := by
  obtain ⟨t, a, b⟩ := v
  unfold isJ at hv
  simp only [Bool.or_eq_true] at hv
  rcases hv with (q | q) | q
  · obtain rfl : t = 5 := Nat.eq_of_beq_eq_true q
    obtain ⟨l, h1, -⟩ := h; exact ⟨l, h1⟩
  · obtain rfl : t = 6 := Nat.eq_of_beq_eq_true q
    obtain ⟨l, h1, -⟩ := h; exact ⟨l, h1⟩
  · obtain rfl : t = 8 := Nat.eq_of_beq_eq_true q
    exact h
def isA (v : AV) : Bool := Nat.beq v.1 2 || Nat.beq v.1 3
def aIl (i : Nat) : AOP := fun nx _ _ A => isI (agl i A.1) && nx (A.1, agl i A.1 :: A.2.1, A.2.2)
theorem sIl {i : Nat} : Snd D (oIl i) (aIl i) := by
  intro E P Γ hD nx jp nxA jpA rtA hn hj hr A ls st m h hR
  obtain ⟨σ, hC, hL, hS, hrest⟩ := hR
  unfold aIl at h
  rw [Bool.and_eq_true] at h
  have g := FA_gl i _ _ hL
  obtain ⟨x, e⟩ := gam_int h.1 g
  unfold oIl
  rw [e] at g ⊢
  exact hn _ _ _ _ h.2 ⟨σ, hC, hL, ⟨g, hS⟩, hrest⟩
def aJl (i : Nat) : AOP := fun nx _ _ A => isJ (agl i A.1) && nx (A.1, agl i A.1 :: A.2.1, A.2.2)
theorem sJl {i : Nat} : Snd D (oJl i) (aJl i) := by
  intro E P Γ hD nx jp nxA jpA rtA hn hj hr A ls st m h hR
  obtain ⟨σ, hC, hL, hS, hrest⟩ := hR
  unfold aJl at h
  rw [Bool.and_eq_true] at h
  have g := FA_gl i _ _ hL
  obtain ⟨x, e⟩ := gam_long h.1 g
  unfold oJl
  rw [e] at g ⊢
  exact hn _ _ _ _ h.2 ⟨σ, hC, hL, ⟨g, hS⟩, hrest⟩
def aAl (i : Nat) : AOP := fun nx _ _ A => isA (agl i A.1) && nx (A.1, agl i A.1 :: A.2.1, A.2.2)
theorem sAl {i : Nat} : Snd D (oAl i) (aAl i) := by
  intro E P Γ hD nx jp nxA jpA rtA hn hj hr A ls st m h hR
  obtain ⟨σ, hC, hL, hS, hrest⟩ := hR
  unfold aAl at h
  rw [Bool.and_eq_true] at h
  have g := FA_gl i _ _ hL
  unfold oAl
  generalize agl i A.1 = v at g h
  obtain ⟨t, a, b⟩ := v
  rcases (Bool.or_eq_true _ _).mp h.1 with q | q
  · obtain rfl : t = 2 := Nat.eq_of_beq_eq_true q
    have e : gl i ls = .ref a.toNat := g
    rw [e]
    exact hn _ _ _ _ h.2 ⟨σ, hC, hL, ⟨rfl, hS⟩, hrest⟩
  · obtain rfl : t = 3 := Nat.eq_of_beq_eq_true q
    obtain ⟨n, e⟩ : ∃ n, gl i ls = .retAddr n := g
    rw [e]
    exact hn _ _ _ _ h.2 ⟨σ, hC, hL, ⟨⟨n, rfl⟩, hS⟩, hrest⟩
def aIs (i : Nat) : AOP := fun nx _ _ A => a1 (fun x r => alc (A.1, r, A.2.2) x (fun v B => nx (asl1 i v B.1, B.2))) A.2.1
theorem sIs {i : Nat} : Snd D (oIs i) (aIs i) := by
  intro E P Γ hD nx jp nxA jpA rtA hn hj hr A ls st m h hR
  obtain ⟨σ, hC, hL, hS, hrest⟩ := hR
  obtain ⟨x, r, w, s, rfl, ix, gx, hF, hk⟩ := a1_ok h hS
  obtain ⟨σ', v', B, hB, g', i', hk'⟩ := alc_ok (A := (A.1, r, A.2.2)) (ls := ls) (st := s) (m := m) (Γ := Γ) ⟨hC, hL, hF, hrest⟩ gx ix hk
  obtain ⟨hC', hL', hS', hrest'⟩ := hB
  unfold oIs
  simp only [fl_eq]
  exact hn _ _ _ _ hk' ⟨σ', hC', FA_sl1 g' i _ _ hL', hS', hrest'⟩
def aJs (i : Nat) : AOP := fun nx _ _ A => match A.2.1 with
  | x :: r => isJ x && nx (asl1 i x (asl0 (i + 1) A.1), r, A.2.2)
  | _ => false
theorem sJs {i : Nat} : Snd D (oJs i) (aJs i) := by
  intro E P Γ hD nx jp nxA jpA rtA hn hj hr A ls st m h hR
  obtain ⟨σ, hC, hL, hS, hrest⟩ := hR
  unfold aJs at h
  split at h
  · rename_i x r e
    rw [e] at hS
    rw [Bool.and_eq_true] at h
    obtain ⟨w, s, rfl, gx, hF⟩ := FA_cons hS
    obtain ⟨l, rfl⟩ := gam_long h.1 gx
    unfold oJs
    simp only [fl_eq]
    exact hn _ _ _ _ h.2 ⟨σ, hC, FA_sl1 gx i _ _ (FA_sl0 (i + 1) _ _ hL), hF, hrest⟩
  · cases h
def aAs (i : Nat) : AOP := fun nx _ _ A => match A.2.1 with
  | x :: r => Nat.beq x.1 2 && nx (asl1 i x A.1, r, A.2.2)
  | _ => false
theorem sAs {i : Nat} : Snd D (oAs i) (aAs i) := by
  intro E P Γ hD nx jp nxA jpA rtA hn hj hr A ls st m h hR
  obtain ⟨σ, hC, hL, hS, hrest⟩ := hR
  unfold aAs at h
  split at h
  · rename_i x r e
    rw [e] at hS
    rw [Bool.and_eq_true] at h
    obtain ⟨w, s, rfl, gx, hF⟩ := FA_cons hS
    obtain ⟨t, a, b⟩ := x
    obtain rfl : t = 2 := Nat.eq_of_beq_eq_true h.1
    have ew : w = .ref a.toNat := gx
    subst ew
    unfold oAs
    simp only [fl_eq]
    exact hn _ _ _ _ h.2 ⟨σ, hC, FA_sl1 gx i _ _ hL, hF, hrest⟩
  · cases h
def aInc (i : Nat) (n : Int) : AOP := fun nx _ _ A => isI (agl i A.1) && nx (asl1 i (fAdd A.2.2.1 (agl i A.1) (0, n, n)) A.1, A.2)
theorem sInc {i : Nat} {v : Int32} {n : Int} (hv : v.toInt = n) : Snd D (oInc i v) (aInc i n) := by
  intro E P Γ hD nx jp nxA jpA rtA hn hj hr A ls st m h hR
  obtain ⟨σ, hC, hL, hS, hrest⟩ := hR
  unfold aInc at h
  rw [Bool.and_eq_true] at h
  have g := FA_gl i _ _ hL
  obtain ⟨x, e⟩ := gam_int h.1 g
  unfold oInc
  rw [e] at g ⊢
  simp only [fl_eq]
  exact hn _ _ _ _ h.2 ⟨σ, hC, FA_sl1 (fAdd_ok hC h.1 (y := (0, n, n)) rfl g (gam_c hv)) i _ _ hL, hS, hrest⟩
def aGoto (t : Nat) : AOP := fun _ jp _ A => jp t A
theorem sGoto {t : Nat} : Snd D (oGoto t) (aGoto t) := by
  intro E P Γ hD nx jp nxA jpA rtA hn hj hr A ls st m h hR
  exact hj _ _ _ _ _ h hR
def aNo : AOP := fun _ _ _ _ => false
theorem sNo {op : OP} : Snd D op aNo := by
  intro E P Γ hD nx jp nxA jpA rtA hn hj hr A ls st m h hR
  cases h
def aDup : AOP := fun nx _ _ A => match A.2.1 with
  | x :: r => (isI x || Nat.beq x.1 2) && nx (A.1, x :: x :: r, A.2.2)
  | _ => false
theorem sDup : Snd D oDup aDup := by
  intro E P Γ hD nx jp nxA jpA rtA hn hj hr A ls st m h hR
  obtain ⟨σ, hC, hL, hS, hrest⟩ := hR
  unfold aDup at h
  split at h
  · rename_i x r e
    rw [e] at hS
    rw [Bool.and_eq_true] at h
    obtain ⟨w, s, rfl, gx, hF⟩ := FA_cons hS
    rcases (Bool.or_eq_true _ _).mp h.1 with q | q
    · obtain ⟨i, rfl⟩ := gam_int q gx
      exact hn _ _ _ _ h.2 ⟨σ, hC, hL, ⟨gx, gx, hF⟩, hrest⟩
    · obtain ⟨t, a, b⟩ := x
      obtain rfl : t = 2 := Nat.eq_of_beq_eq_true q
      have ew : w = .ref a.toNat := gx
      subst ew
      exact hn _ _ _ _ h.2 ⟨σ, hC, hL, ⟨rfl, rfl, hF⟩, hrest⟩
  · cases h
def aDup2 : AOP := fun nx _ _ A => match A.2.1 with
  | x :: y :: r => isI x && Nat.beq y.1 2 && nx (A.1, x :: y :: x :: y :: r, A.2.2)
  | _ => false
theorem sDup2 : Snd D oDup2 aDup2 := by
  intro E P Γ hD nx jp nxA jpA rtA hn hj hr A ls st m h hR
  obtain ⟨σ, hC, hL, hS, hrest⟩ := hR
  unfold aDup2 at h
  split at h
  · rename_i x y r e
    rw [e] at hS
    simp only [Bool.and_eq_true] at h
    obtain ⟨w, s, rfl, gx, hF⟩ := FA_cons hS
    obtain ⟨w2, s2, rfl, gy, hF2⟩ := FA_cons hF
    obtain ⟨i, rfl⟩ := gam_int h.1.1 gx
    obtain ⟨t, a, b⟩ := y
    obtain rfl : t = 2 := Nat.eq_of_beq_eq_true h.1.2
    have ew : w2 = .ref a.toNat := gy
    subst ew
    exact hn _ _ _ _ h.2 ⟨σ, hC, hL, ⟨gx, rfl, gx, rfl, hF2⟩, hrest⟩
  · cases h
def aPop : AOP := fun nx _ _ A => a1 (fun _ r => nx (A.1, r, A.2.2)) A.2.1
theorem sPop : Snd D oPop aPop := by
  intro E P Γ hD nx jp nxA jpA rtA hn hj hr A ls st m h hR
  obtain ⟨σ, hC, hL, hS, hrest⟩ := hR
  obtain ⟨x, r, w, s, rfl, ix, gx, hF, hk⟩ := a1_ok h hS
  exact hn _ _ _ _ hk ⟨σ, hC, hL, hF, hrest⟩
def aPop2 : AOP := fun nx _ _ A => match A.2.1 with
  | x :: r => isJ x && nx (A.1, r, A.2.2)
  | _ => false
theorem sPop2 : Snd D oPop2 aPop2 := by
  intro E P Γ hD nx jp nxA jpA rtA hn hj hr A ls st m h hR
  obtain ⟨σ, hC, hL, hS, hrest⟩ := hR
  unfold aPop2 at h
  split at h
  · rename_i x r e
    rw [e] at hS
    rw [Bool.and_eq_true] at h
    obtain ⟨w, s, rfl, gx, hF⟩ := FA_cons hS
    obtain ⟨l, rfl⟩ := gam_long h.1 gx
    exact hn _ _ _ _ h.2 ⟨σ, hC, hL, hF, hrest⟩
  · cases h
/-! longs -/
def aLL : AOP := fun nx _ _ A => match A.2.1 with
  | y :: x :: r => isJ y && isJ x && nx (A.1, (8, 0, 0) :: r, A.2.2)
  | _ => false
theorem sLL {op : OP} {f : Int64 → Int64 → Int64} (hop : ∀ (E : EE) (P : QQ) (nx : NX) (jp : Nat → NX) (ls : List Value) (j i : Int64) (s : List Value) (m : MM), nx ls (.long (f i j) :: s) m → op E P nx jp ls (.long j :: .long i :: s) m) : Snd D op aLL := by
  intro E P Γ hD nx jp nxA jpA rtA hn hj hr A ls st m h hR
  obtain ⟨σ, hC, hL, hS, hrest⟩ := hR
  unfold aLL at h
  split at h
  · rename_i y x r e
    rw [e] at hS
    simp only [Bool.and_eq_true] at h
    obtain ⟨w, s, rfl, gy, hF⟩ := FA_cons hS
    obtain ⟨w2, s2, rfl, gx, hF2⟩ := FA_cons hF
    obtain ⟨j, rfl⟩ := gam_long h.1.1 gy
    obtain ⟨i, rfl⟩ := gam_long h.1.2 gx
    exact hop _ _ _ _ _ _ _ _ _ (hn _ _ _ _ h.2 ⟨σ, hC, hL, ⟨⟨_, rfl⟩, hF2⟩, hrest⟩)
  · cases h
theorem sLadd : Snd D oLadd aLL := sLL (f := fun i j => i + j) (fun _ _ _ _ _ _ _ _ _ h => h)
theorem sLsub : Snd D oLsub aLL := sLL (f := fun i j => i - j) (fun _ _ _ _ _ _ _ _ _ h => h)
theorem sLmul : Snd D oLmul aLL := sLL (f := fun i j => i * j) (fun _ _ _ _ _ _ _ _ _ h => h)
theorem sLand : Snd D oLand aLL := sLL (f := fun i j => i &&& j) (fun _ _ _ _ _ _ _ _ _ h => h)
theorem sLor : Snd D oLor aLL := sLL (f := fun i j => i ||| j) (fun _ _ _ _ _ _ _ _ _ h => h)
def aLI : AOP := fun nx _ _ A => match A.2.1 with
  | y :: x :: r => isI y && isJ x && nx (A.1, (8, 0, 0) :: r, A.2.2)
  | _ => false
theorem sLI {op : OP} {f : Int64 → Int32 → Int64} (hop : ∀ (E : EE) (P : QQ) (nx : NX) (jp : Nat → NX) (ls : List Value) (j : Int32) (i : Int64) (s : List Value) (m : MM), nx ls (.long (f i j) :: s) m → op E P nx jp ls (.int j :: .long i :: s) m) : Snd D op aLI := by
  intro E P Γ hD nx jp nxA jpA rtA hn hj hr A ls st m h hR
  obtain ⟨σ, hC, hL, hS, hrest⟩ := hR
  unfold aLI at h
  split at h
  · rename_i y x r e
    rw [e] at hS
    simp only [Bool.and_eq_true] at h
    obtain ⟨w, s, rfl, gy, hF⟩ := FA_cons hS
    obtain ⟨w2, s2, rfl, gx, hF2⟩ := FA_cons hF
    obtain ⟨j, rfl⟩ := gam_int h.1.1 gy
    obtain ⟨i, rfl⟩ := gam_long h.1.2 gx
    exact hop _ _ _ _ _ _ _ _ _ (hn _ _ _ _ h.2 ⟨σ, hC, hL, ⟨⟨_, rfl⟩, hF2⟩, hrest⟩)
  · cases h
theorem sLshl : Snd D oLshl aLI := sLI (f := fun x y => x <<< (y.toInt64 &&& 63)) (fun _ _ _ _ _ _ _ _ _ h => h)
theorem sLshr : Snd D oLshr aLI := sLI (f := fun x y => x >>> (y.toInt64 &&& 63)) (fun _ _ _ _ _ _ _ _ _ h => h)
theorem sLushr : Snd D oLushr aLI := sLI (f := fun x y => (x.toUInt64 >>> (y.toInt64.toUInt64 &&& Int64.toUInt64 63)).toInt64) (fun _ _ _ _ _ _ _ _ _ h => h)
def aLcmp : AOP := fun nx _ _ A => match A.2.1 with
  | y :: x :: r => isJ y && isJ x && nx (A.1, (0, -1, 1) :: r, A.2.2)
  | _ => false
theorem cmp_rng (x y : Int64) : -1 ≤ (lg_cmp x y).toInt ∧ (lg_cmp x y).toInt ≤ 1 := by
  unfold lg_cmp
  split
  · decide
  · split <;> decide
theorem sLcmp : Snd D oLcmp aLcmp := by
  intro E P Γ hD nx jp nxA jpA rtA hn hj hr A ls st m h hR
  obtain ⟨σ, hC, hL, hS, hrest⟩ := hR
  unfold aLcmp at h
  split at h
  · rename_i y x r e
    rw [e] at hS
    simp only [Bool.and_eq_true] at h
    obtain ⟨w, s, rfl, gy, hF⟩ := FA_cons hS
    obtain ⟨w2, s2, rfl, gx, hF2⟩ := FA_cons hF
    obtain ⟨j, rfl⟩ := gam_long h.1.1 gy
    obtain ⟨i, rfl⟩ := gam_long h.1.2 gx
    exact hn _ _ _ _ h.2 ⟨σ, hC, hL, ⟨⟨_, rfl, cmp_rng i j⟩, hF2⟩, hrest⟩
  · cases h
def aL2i : AOP := fun nx _ _ A => match A.2.1 with
  | x :: r => isJ x && nx (A.1, top32 :: r, A.2.2)
  | _ => false
theorem sL2i : Snd D oL2i aL2i := by
  intro E P Γ hD nx jp nxA jpA rtA hn hj hr A ls st m h hR
  obtain ⟨σ, hC, hL, hS, hrest⟩ := hR
  unfold aL2i at h
  split at h
  · rename_i x r e
    rw [e] at hS
    rw [Bool.and_eq_true] at h
    obtain ⟨w, s, rfl, gx, hF⟩ := FA_cons hS
    obtain ⟨l, rfl⟩ := gam_long h.1 gx
    exact hn _ _ _ _ h.2 ⟨σ, hC, hL, ⟨gam_top _, hF⟩, hrest⟩
  · cases h
end Lo
