/-! the memory -/
theorem gI_sI {m : MM} {a k b j : Nat} {v : Int32} : gI (sI m a k v) b j = if b = a ∧ j = k then v else gI m b j := by
  unfold gI sI
  by_cases h1 : b = a
  · by_cases h2 : j = k <;> simp [h1, h2]
  · simp [h1]
theorem gJ_sI {m : MM} {a k b j : Nat} {v : Int32} : gJ (sI m a k v) b j = gJ m b j := rfl
theorem gJ_sJ {m : MM} {a k b j : Nat} {v : Int64} : gJ (sJ m a k v) b j = if b = a ∧ j = k then v else gJ m b j := by
  unfold gJ sJ
  by_cases h1 : b = a
  · by_cases h2 : j = k <;> simp [h1, h2]
  · simp [h1]
theorem gI_sJ {m : MM} {a k b j : Nat} {v : Int64} : gI (sJ m a k v) b j = gI m b j := rfl
theorem Mok_sI {Ty : TY} {m : MM} {a k : Nat} {v : Int32} (h : Mok Ty m) (h1 : (tyF Ty.1 Ty.2 a k).1 ≤ v.toInt) (h2 : v.toInt ≤ (tyF Ty.1 Ty.2 a k).2) : Mok Ty (sI m a k v) := by
  refine ⟨fun b j => ?_, h.2⟩
  rw [gI_sI]
  split
  · rename_i q
    rw [q.1, q.2]
    exact ⟨h1, h2⟩
  · exact h.1 b j
theorem Mok_sJ {Ty : TY} {m : MM} {a k : Nat} {v : Int64} (h : Mok Ty m) (h1 : a = kF_rows → PK v) : Mok Ty (sJ m a k v) := by
  refine ⟨h.1, fun j => ?_⟩
  rw [gJ_sJ]
  split
  · rename_i q
    exact h1 q.1.symm
  · exact h.2 j
theorem Fr_sI {W : List Nat} {m0 m : MM} {a k : Nat} {v : Int32} (h : Fr W m0 m) (ha : wk a k ∈ W) (hp : ¬ 7 ∈ W → ¬ (a = 1175 ∧ (k = 31 ∨ k = 33))) : Fr W m0 (sI m a k v) := by
  refine ⟨fun b j hb => ?_, fun h7 => ?_⟩
  · refine ⟨?_, (h.1 b j hb).2⟩
    rw [gI_sI, if_neg (fun (q : b = a ∧ j = k) => hb (by rw [q.1, q.2]; exact ha))]
    exact (h.1 b j hb).1
  · have h1 := h.2 h7
    have h2 := hp h7
    unfold psi at h1 ⊢
    have e1 : gI (sI m a k v) 1175 31 = gI m 1175 31 := by rw [gI_sI]; exact if_neg (fun q => h2 ⟨q.1.symm, Or.inl q.2.symm⟩)
    have e2 : gI (sI m a k v) 1175 33 = gI m 1175 33 := by rw [gI_sI]; exact if_neg (fun q => h2 ⟨q.1.symm, Or.inr q.2.symm⟩)
    rw [e1, e2]
    exact h1
theorem Fr_sJ {W : List Nat} {m0 m : MM} {a k : Nat} {v : Int64} (h : Fr W m0 m) (ha : wk a k ∈ W) : Fr W m0 (sJ m a k v) := by
  refine ⟨fun b j hb => ?_, fun h7 => h.2 h7⟩
  refine ⟨(h.1 b j hb).1, ?_⟩
  rw [gJ_sJ, if_neg (fun (q : b = a ∧ j = k) => hb (by rw [q.1, q.2]; exact ha))]
  exact (h.1 b j hb).2
def elm (a : Nat) (W : List Nat) : Bool := W.any (fun b => Nat.beq b a)
theorem elm_in {a : Nat} {W : List Nat} (h : elm a W = true) : a ∈ W := by
  obtain ⟨b, h1, h2⟩ := List.any_eq_true.mp h
  exact (Nat.eq_of_beq_eq_true h2) ▸ h1
def isPs (a k : Nat) : Bool := Nat.beq a 1175 && (Nat.beq k 31 || Nat.beq k 33)
def pOk (a k : Nat) (W : List Nat) : Bool := Nat.blt k 1048576 && (!(isPs a k) || elm 7 W)
theorem pOk_ps {a k : Nat} {W : List Nat} (h : pOk a k W = true) : ¬ 7 ∈ W → ¬ (a = 1175 ∧ (k = 31 ∨ k = 33)) := by
  intro h7 q
  unfold pOk at h
  rw [Bool.and_eq_true] at h
  rcases (Bool.or_eq_true _ _).mp h.2 with z | z
  · have : isPs a k = true := by
      unfold isPs
      rcases q with ⟨rfl, rfl | rfl⟩ <;> rfl
    rw [this] at z
    cases z
  · exact h7 (elm_in z)
def mlk0 (a k : Nat) : AM → Option AV
  | [] => none
  | q :: r => match Nat.beq q.1.1 a && Nat.beq q.1.2 k with
    | true => some q.2
    | false => mlk0 a k r
def mlk (a k : Nat) (M : AM) : Option AV := match Nat.blt k 1048576 with
  | true => mlk0 a k M
  | false => none
theorem mlk_mem {a k : Nat} {v : AV} : ∀ {M : AM}, mlk0 a k M = some v → ((a, k), v) ∈ M
  | [], h => by cases h
  | ((b, j), w) :: r, h => by
    unfold mlk0 at h
    split at h
    · rename_i hb
      simp only [Bool.and_eq_true] at hb
      cases h
      rw [← Nat.eq_of_beq_eq_true hb.1, ← Nat.eq_of_beq_eq_true hb.2]
      exact List.mem_cons_self
    · exact List.mem_cons_of_mem _ (mlk_mem h)
theorem mlk_lt {a k : Nat} {v : AV} {M : AM} (h : mlk a k M = some v) : Nat.blt k 1048576 = true := by
  unfold mlk at h
  split at h
  · assumption
  · cases h
theorem mlk_ok {σ : Nat → Int} {f : Nat → Nat → Int32} {a k : Nat} {v : AV} {M : AM} (hM : okM σ M f) (h : mlk a k M = some v) : isI v = true ∧ gam σ v (.int (f a k)) := by
  have hk := mlk_lt h
  unfold mlk at h
  rw [hk] at h
  have := hM _ (mlk_mem h)
  simp only [ixk_lt (Nat.le_of_ble_eq_true hk)] at this
  exact this
def inR (q t : Int × Int) : Bool := decide (t.1 ≤ q.1) && decide (q.2 ≤ t.2)
section Me
variable {D : KK}
def aGetI (D : KK) (ci k : Nat) : AOP := fun nx _ _ A => match A.2.1 with
  | x :: r => Nat.beq x.1 2 && Nat.beq (x.2.1.toNat % 16) ci && (match mlk x.2.1.toNat k A.2.2.2 with
    | some v => nx (A.1, v :: r, A.2.2)
    | none => Nat.blt k 1048576 && alc (A.1, r, A.2.2) (0, tyF D.2.1.1 D.2.1.2 x.2.1.toNat k) (fun v B => nx (B.1, v :: B.2.1, B.2.2.1, ((x.2.1.toNat, k), v) :: B.2.2.2)))
  | _ => false
theorem sGetI {ci k : Nat} : Snd D (oGetI ci k) (aGetI D ci k) := by
  intro E P Γ hD nx jp nxA jpA rtA hn hj hr A ls st m h hR
  obtain ⟨σ, hC, hL, hS, hM, hrest⟩ := hR
  unfold aGetI at h
  split at h
  · rename_i x r e
    rw [e] at hS
    simp only [Bool.and_eq_true] at h
    obtain ⟨w, s, rfl, gx, hF⟩ := FA_cons hS
    obtain ⟨t, a, b⟩ := x
    obtain rfl : t = 2 := Nat.eq_of_beq_eq_true h.1.1
    have ew : w = .ref a.toNat := gx
    subst ew
    have hb : Nat.beq (a.toNat % 16) ci = true := h.1.2
    unfold oGetI
    simp only [hb]
    have hk := h.2
    simp only at hk
    split at hk
    · rename_i v ev
      have hq := mlk_ok hM ev
      exact hn _ _ _ _ hk ⟨σ, hC, hL, ⟨hq.2, hF⟩, hM, hrest⟩
    · rw [Bool.and_eq_true] at hk
      obtain ⟨hk0, hk⟩ := hk
      have hty := hrest.1.1 a.toNat k
      rw [hD.2.1] at hty
      obtain ⟨σ', v', B, hB, g', i', hk'⟩ := alc_ok (A := (A.1, r, A.2.2)) (ls := ls) (st := s) (m := m) (Γ := Γ) (i := gI m a.toNat k) (v := (0, tyF D.2.1.1 D.2.1.2 a.toNat k)) ⟨hC, hL, hF, hM, hrest⟩ ⟨_, rfl, hty.1, hty.2⟩ rfl hk
      obtain ⟨hC', hL', hS', hM', hrest'⟩ := hB
      refine hn _ _ _ _ hk' ⟨σ', hC', hL', ⟨g', hS'⟩, fun q hq => ?_, hrest'⟩
      rcases List.mem_cons.mp hq with rfl | hq
      · refine ⟨i', ?_⟩
        simp only [ixk_lt (Nat.le_of_ble_eq_true hk0)]
        exact g'
      · exact hM' q hq
  · cases h
def aGetR (tab : List (Nat × Nat)) : AOP := fun nx _ _ A => match A.2.1 with
  | x :: r => Nat.beq x.1 2 && (match fnd x.2.1.toNat tab with
    | some t => nx (A.1, (2, (t : Int), 0) :: r, A.2.2)
    | none => false)
  | _ => false
theorem sGetR {tab : List (Nat × Nat)} : Snd D (oGetR tab) (aGetR tab) := by
  intro E P Γ hD nx jp nxA jpA rtA hn hj hr A ls st m h hR
  obtain ⟨σ, hC, hL, hS, hrest⟩ := hR
  unfold aGetR at h
  split at h
  · rename_i x r e
    rw [e] at hS
    simp only [Bool.and_eq_true] at h
    obtain ⟨w, s, rfl, gx, hF⟩ := FA_cons hS
    obtain ⟨t, a, b⟩ := x
    obtain rfl : t = 2 := Nat.eq_of_beq_eq_true h.1
    have ew : w = .ref a.toNat := gx
    subst ew
    have hk := h.2
    simp only at hk
    unfold oGetR
    simp only
    split at hk
    · rename_i t et
      rw [et]
      exact hn _ _ _ _ hk ⟨σ, hC, hL, ⟨rfl, hF⟩, hrest⟩
    · cases hk
  · cases h
def aGetNw (D : KK) : AOP := fun nx _ _ A => match A.2.1 with
  | x :: r => Nat.beq x.1 2 && Nat.beq (x.2.1.toNat % 16) 6 && nx (A.1, (2, (D.2.2.1.1 : Int), 0) :: r, A.2.2)
  | _ => false
theorem sGetNw : Snd D oGetNw (aGetNw D) := by
  intro E P Γ hD nx jp nxA jpA rtA hn hj hr A ls st m h hR
  obtain ⟨σ, hC, hL, hS, hM, hT, hc, hrest⟩ := hR
  unfold aGetNw at h
  split at h
  · rename_i x r e
    rw [e] at hS
    simp only [Bool.and_eq_true] at h
    obtain ⟨w, s, rfl, gx, hF⟩ := FA_cons hS
    obtain ⟨t, a, b⟩ := x
    obtain rfl : t = 2 := Nat.eq_of_beq_eq_true h.1.1
    have ew : w = .ref a.toNat := gx
    subst ew
    have hb : Nat.beq (a.toNat % 16) 6 = true := h.1.2
    unfold oGetNw
    simp only [hb]
    rw [show m.2.2.1 = D.2.2.1.1 by rw [hc, hD.2.2.1]]
    exact hn _ _ _ _ h.2 ⟨σ, hC, hL, ⟨rfl, hF⟩, hM, hT, hc, hrest⟩
  · cases h
def aGetSp (D : KK) : AOP := fun nx _ _ A => match A.2.1 with
  | x :: r => Nat.beq x.1 2 && Nat.beq (x.2.1.toNat % 16) 6 && nx (A.1, (2, (D.2.2.1.2 : Int), 0) :: r, A.2.2)
  | _ => false
theorem sGetSp : Snd D oGetSp (aGetSp D) := by
  intro E P Γ hD nx jp nxA jpA rtA hn hj hr A ls st m h hR
  obtain ⟨σ, hC, hL, hS, hM, hT, hc, hrest⟩ := hR
  unfold aGetSp at h
  split at h
  · rename_i x r e
    rw [e] at hS
    simp only [Bool.and_eq_true] at h
    obtain ⟨w, s, rfl, gx, hF⟩ := FA_cons hS
    obtain ⟨t, a, b⟩ := x
    obtain rfl : t = 2 := Nat.eq_of_beq_eq_true h.1.1
    have ew : w = .ref a.toNat := gx
    subst ew
    have hb : Nat.beq (a.toNat % 16) 6 = true := h.1.2
    unfold oGetSp
    simp only [hb]
    rw [show m.2.2.2 = D.2.2.1.2 by rw [hc, hD.2.2.1]]
    exact hn _ _ _ _ h.2 ⟨σ, hC, hL, ⟨rfl, hF⟩, hM, hT, hc, hrest⟩
  · cases h
def drp (a k : Nat) (M : AM) : AM := M.filter (fun q => !(Nat.beq q.1.1 a) || (Nat.blt q.1.2 1048576 && !(Nat.beq q.1.2 k)))
def drpA (a : Nat) (M : AM) : AM := M.filter (fun q => !(Nat.beq q.1.1 a))
def aPutI (D : KK) (ci k : Nat) : AOP := fun nx _ _ A => match A.2.1 with
  | v :: x :: r => isI v && Nat.beq x.1 2 && Nat.beq (x.2.1.toNat % 16) ci && inR (rng A.2.2.1 v) (tyF D.2.1.1 D.2.1.2 x.2.1.toNat k) && (elm (wk x.2.1.toNat k) D.2.2.2 && pOk x.2.1.toNat k D.2.2.2) && nx (A.1, r, A.2.2.1, ((x.2.1.toNat, k), v) :: drp x.2.1.toNat k A.2.2.2)
  | _ => false
theorem putI_core {Γ : GG} {σ : Nat → Int} {A : AS} {ls s : List Value} {m : MM} {r : List AV} {v : AV} {a k : Nat} {i : Int32} (hD : Γ.1 = D.2.1 ∧ Γ.2.2.1 = D.2.2.2) (hC : okC σ A.2.2.1) (hL : FA σ A.1 ls) (hF : FA σ r s) (hM : okM σ A.2.2.2 m.1) (hT : Mok Γ.1 m) (hc : m.2.2 = Γ.2.1) (hW : Fr Γ.2.2.1 Γ.2.2.2.1 m) (hn0 : Γ.2.2.2.2.1 ≤ A.2.2.1.length) (hs0 : ∀ i, i < Γ.2.2.2.2.1 → σ i = Γ.2.2.2.2.2 i)
    (hv : isI v = true) (g : gam σ v (.int i)) (hR : inR (rng A.2.2.1 v) (tyF D.2.1.1 D.2.1.2 a k) = true) (he : elm (wk a k) D.2.2.2 = true ∧ pOk a k D.2.2.2 = true) : Rl Γ (A.1, r, A.2.2.1, ((a, k), v) :: drp a k A.2.2.2) ls s (sI m a k i) := by
  unfold inR at hR
  simp only [Bool.and_eq_true, decide_eq_true_eq] at hR
  have hr := rng_ok hC hv g
  have hk0 : k < 1048576 := by
    have := he.2
    unfold pOk at this
    rw [Bool.and_eq_true] at this
    exact Nat.le_of_ble_eq_true this.1
  refine ⟨σ, hC, hL, hF, fun q hq => ?_, Mok_sI hT (by rw [hD.1]; omega) (by rw [hD.1]; omega), hc, Fr_sI hW (by rw [hD.2]; exact elm_in he.1) (by rw [hD.2]; exact pOk_ps he.2), hn0, hs0⟩
  rcases List.mem_cons.mp hq with rfl | hq
  · refine ⟨hv, ?_⟩
    have e1 : (sI m a k i).1 a k = i := by unfold sI; simp
    simp only [ixk_lt hk0]
    rw [e1]; exact g
  · unfold drp at hq
    rw [List.mem_filter] at hq
    have e1 : (sI m a k i).1 q.1.1 (ixk σ q.1.2) = m.1 q.1.1 (ixk σ q.1.2) := by
      have h2 := hq.2
      have := gI_sI (m := m) (a := a) (k := k) (b := q.1.1) (j := ixk σ q.1.2) (v := i)
      unfold gI at this
      rw [this, if_neg]
      rintro ⟨q1, q2⟩
      rcases (Bool.or_eq_true _ _).mp h2 with z | z
      · rw [q1, show Nat.beq a a = true from Nat.beq_refl _] at z
        cases z
      · rw [Bool.and_eq_true] at z
        have z2 := z.2
        rw [ixk_lt (Nat.le_of_ble_eq_true z.1)] at q2
        rw [q2, show Nat.beq k k = true from Nat.beq_refl _] at z2
        cases z2
    rw [e1]
    exact hM q hq.1
theorem sPutI {ci k : Nat} : Snd D (oPutI ci k) (aPutI D ci k) := by
  intro E P Γ hD nx jp nxA jpA rtA hn hj hr A ls st m h hR
  obtain ⟨σ, hC, hL, hS, hM, hT, hc, hW, hn0, hs0⟩ := hR
  unfold aPutI at h
  split at h
  · rename_i v x r e
    rw [e] at hS
    simp only [Bool.and_eq_true] at h
    obtain ⟨⟨⟨⟨⟨b1, b2⟩, b3⟩, b4⟩, b5⟩, b6⟩ := h
    obtain ⟨w, s, rfl, gv, hF⟩ := FA_cons hS
    obtain ⟨w2, s2, rfl, gx, hF2⟩ := FA_cons hF
    obtain ⟨i, rfl⟩ := gam_int b1 gv
    obtain ⟨t, a, b⟩ := x
    obtain rfl : t = 2 := Nat.eq_of_beq_eq_true b2
    have ew : w2 = .ref a.toNat := gx
    subst ew
    unfold oPutI
    simp only [show Nat.beq (a.toNat % 16) ci = true from b3]
    exact hn _ _ _ _ b6 (putI_core ⟨hD.2.1, hD.2.2.2⟩ hC hL hF2 hM hT hc hW hn0 hs0 b1 gv b4 b5)
  · cases h
def aPutZ (D : KK) (ci k : Nat) : AOP := fun nx _ _ A => match A.2.1 with
  | v :: x :: r => inR (rng A.2.2.1 v) (0, 1) && isI v && Nat.beq x.1 2 && Nat.beq (x.2.1.toNat % 16) ci && inR (rng A.2.2.1 v) (tyF D.2.1.1 D.2.1.2 x.2.1.toNat k) && (elm (wk x.2.1.toNat k) D.2.2.2 && pOk x.2.1.toNat k D.2.2.2) && nx (A.1, r, A.2.2.1, ((x.2.1.toNat, k), v) :: drp x.2.1.toNat k A.2.2.2)
  | _ => false
theorem z01 {σ : Nat → Int} {C : CC} {v : AV} {i : Int32} (hC : okC σ C) (hv : isI v = true) (g : gam σ v (.int i)) (h : inR (rng C v) (0, 1) = true) : i = 0 ∨ i = 1 := by
  unfold inR at h
  simp only [Bool.and_eq_true, decide_eq_true_eq] at h
  have hr := rng_ok hC hv g
  rcases (show i.toInt = 0 ∨ i.toInt = 1 by omega) with q | q
  · exact Or.inl (Int32.toInt_inj.mp q)
  · exact Or.inr (Int32.toInt_inj.mp q)
theorem sPutZ {ci k : Nat} : Snd D (oPutZ ci k) (aPutZ D ci k) := by
  intro E P Γ hD nx jp nxA jpA rtA hn hj hr A ls st m h hR
  obtain ⟨σ, hC, hL, hS, hM, hT, hc, hW, hn0, hs0⟩ := hR
  unfold aPutZ at h
  split at h
  · rename_i v x r e
    rw [e] at hS
    simp only [Bool.and_eq_true] at h
    obtain ⟨⟨⟨⟨⟨⟨b0, b1⟩, b2⟩, b3⟩, b4⟩, b5⟩, b6⟩ := h
    obtain ⟨w, s, rfl, gv, hF⟩ := FA_cons hS
    obtain ⟨w2, s2, rfl, gx, hF2⟩ := FA_cons hF
    obtain ⟨i, rfl⟩ := gam_int b1 gv
    obtain ⟨t, a, b⟩ := x
    obtain rfl : t = 2 := Nat.eq_of_beq_eq_true b2
    have ew : w2 = .ref a.toNat := gx
    subst ew
    unfold oPutZ
    simp only [show Nat.beq (a.toNat % 16) ci = true from b3]
    exact ⟨z01 hC b1 gv b0, hn _ _ _ _ b6 (putI_core ⟨hD.2.1, hD.2.2.2⟩ hC hL hF2 hM hT hc hW hn0 hs0 b1 gv b4 b5)⟩
  · cases h
end Me
