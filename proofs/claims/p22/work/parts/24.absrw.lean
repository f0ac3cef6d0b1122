/-! rows, switches, divisions, ends -/
section Rw
variable {D : KK}
def ixOk (C : CC) (v : AV) (n : Nat) : Bool := isI v && decide (0 ≤ (rng C v).1) && decide ((rng C v).2 < (n : Int))
theorem ix_ok {σ : Nat → Int} {C : CC} {v : AV} {x : Value} {n : Nat} (hC : okC σ C) (h : ixOk C v n = true) (g : gam σ v x) : ∃ i : Int32, x = .int i ∧ vp_in i n := by
  unfold ixOk at h
  simp only [Bool.and_eq_true, decide_eq_true_eq] at h
  obtain ⟨⟨h1, h2⟩, h3⟩ := h
  obtain ⟨i, rfl⟩ := gam_int h1 g
  have hr := rng_ok hC h1 g
  exact ⟨i, rfl, vp_in_iff.mpr ⟨by omega, by omega⟩⟩
theorem tyF_row {t : TY} {a k : Nat} (h : Nat.ble 8 (a % 16) = true) : tyF t.1 t.2 a k = t.2 a := by
  unfold tyF
  have : Nat.blt (a % 16) 8 = false := by
    have := Nat.le_of_ble_eq_true h
    cases hq : Nat.blt (a % 16) 8 with
    | false => rfl
    | true =>
      have := Nat.le_of_ble_eq_true hq
      omega
  rw [this]
def aIald (D : KK) : AOP := fun nx _ _ A => match A.2.1 with
  | i :: x :: r => ixOk A.2.2.1 i (x.2.1.toNat / 4096) && Nat.beq x.1 2 && Nat.beq (x.2.1.toNat % 16) 8 && nx (A.1, (0, D.2.1.2 x.2.1.toNat) :: r, A.2.2)
  | _ => false
theorem sIald : Snd D oIald (aIald D) := by
  intro E P Γ hD nx jp nxA jpA rtA hn hj hr A ls st m h hR
  obtain ⟨σ, hC, hL, hS, hM, hT, hrest⟩ := hR
  unfold aIald at h
  split at h
  · rename_i i x r e
    rw [e] at hS
    simp only [Bool.and_eq_true] at h
    obtain ⟨⟨⟨b1, b2⟩, b3⟩, b4⟩ := h
    obtain ⟨w, s, rfl, gi, hF⟩ := FA_cons hS
    obtain ⟨w2, s2, rfl, gx, hF2⟩ := FA_cons hF
    obtain ⟨t, a, b⟩ := x
    obtain rfl : t = 2 := Nat.eq_of_beq_eq_true b2
    have ew : w2 = .ref a.toNat := gx
    subst ew
    obtain ⟨j, rfl, hin⟩ := ix_ok hC b1 gi
    unfold oIald
    simp only [show Nat.beq (a.toNat % 16) 8 = true from b3]
    have hty := hT.1 a.toNat j.toNatClampNeg
    rw [tyF_row (by rw [Nat.eq_of_beq_eq_true b3]; rfl), hD.2.1] at hty
    exact ⟨hin, hn _ _ _ _ b4 ⟨σ, hC, hL, ⟨⟨_, rfl, hty.1, hty.2⟩, hF2⟩, hM, hT, hrest⟩⟩
  · cases h
def aBald (D : KK) : AOP := fun nx _ _ A => match A.2.1 with
  | i :: x :: r => ixOk A.2.2.1 i (x.2.1.toNat / 4096) && Nat.beq x.1 2 && (Nat.beq (x.2.1.toNat % 16) 10 || Nat.beq (x.2.1.toNat % 16) 11) && nx (A.1, (0, D.2.1.2 x.2.1.toNat) :: r, A.2.2)
  | _ => false
theorem sBald : Snd D oBald (aBald D) := by
  intro E P Γ hD nx jp nxA jpA rtA hn hj hr A ls st m h hR
  obtain ⟨σ, hC, hL, hS, hM, hT, hrest⟩ := hR
  unfold aBald at h
  split at h
  · rename_i i x r e
    rw [e] at hS
    simp only [Bool.and_eq_true] at h
    obtain ⟨⟨⟨b1, b2⟩, b3⟩, b4⟩ := h
    obtain ⟨w, s, rfl, gi, hF⟩ := FA_cons hS
    obtain ⟨w2, s2, rfl, gx, hF2⟩ := FA_cons hF
    obtain ⟨t, a, b⟩ := x
    obtain rfl : t = 2 := Nat.eq_of_beq_eq_true b2
    have ew : w2 = .ref a.toNat := gx
    subst ew
    obtain ⟨j, rfl, hin⟩ := ix_ok hC b1 gi
    unfold oBald
    simp only [show (Nat.beq (a.toNat % 16) 10 || Nat.beq (a.toNat % 16) 11) = true from b3]
    have hty := hT.1 a.toNat j.toNatClampNeg
    have h8 : Nat.ble 8 (a.toNat % 16) = true := by
      rcases (Bool.or_eq_true _ _).mp b3 with q | q
      · rw [show a.toNat % 16 = 10 from Nat.eq_of_beq_eq_true q]; rfl
      · rw [show a.toNat % 16 = 11 from Nat.eq_of_beq_eq_true q]; rfl
    rw [tyF_row h8, hD.2.1] at hty
    exact ⟨hin, hn _ _ _ _ b4 ⟨σ, hC, hL, ⟨⟨_, rfl, hty.1, hty.2⟩, hF2⟩, hM, hT, hrest⟩⟩
  · cases h
def aJald : AOP := fun nx _ _ A => match A.2.1 with
  | i :: x :: r => ixOk A.2.2.1 i (x.2.1.toNat / 4096) && Nat.beq x.1 2 && Nat.beq (x.2.1.toNat % 16) 9 && nx (A.1, (if Nat.beq x.2.1.toNat kF_rows then (5, 0, 0) else (8, 0, 0)) :: r, A.2.2)
  | _ => false
theorem sJald : Snd D oJald aJald := by
  intro E P Γ hD nx jp nxA jpA rtA hn hj hr A ls st m h hR
  obtain ⟨σ, hC, hL, hS, hM, hT, hrest⟩ := hR
  unfold aJald at h
  split at h
  · rename_i i x r e
    rw [e] at hS
    simp only [Bool.and_eq_true] at h
    obtain ⟨⟨⟨b1, b2⟩, b3⟩, b4⟩ := h
    obtain ⟨w, s, rfl, gi, hF⟩ := FA_cons hS
    obtain ⟨w2, s2, rfl, gx, hF2⟩ := FA_cons hF
    obtain ⟨t, a, b⟩ := x
    obtain rfl : t = 2 := Nat.eq_of_beq_eq_true b2
    have ew : w2 = .ref a.toNat := gx
    subst ew
    obtain ⟨j, rfl, hin⟩ := ix_ok hC b1 gi
    unfold oJald
    simp only [show Nat.beq (a.toNat % 16) 9 = true from b3]
    refine ⟨hin, hn _ _ _ _ b4 ⟨σ, hC, hL, ⟨?_, hF2⟩, hM, hT, hrest⟩⟩
    simp only
    by_cases hq : Nat.beq a.toNat kF_rows = true
    · rw [if_pos hq]
      exact ⟨_, rfl, (fun _ => by rw [Nat.eq_of_beq_eq_true hq]; exact hT.2 _), (fun q => absurd q (by decide)), (fun q => absurd q (by decide))⟩
    · rw [if_neg hq]
      exact ⟨_, rfl⟩
  · cases h
theorem row_core {Γ : GG} {σ : Nat → Int} {A : AS} {ls s : List Value} {m : MM} {r : List AV} {a k : Nat} {i : Int32} (hD : Γ.1 = D.2.1 ∧ Γ.2.2.1 = D.2.2.2) (hC : okC σ A.2.2.1) (hL : FA σ A.1 ls) (hF : FA σ r s) (hM : okM σ A.2.2.2 m.1) (hT : Mok Γ.1 m) (hc : m.2.2 = Γ.2.1) (hW : Fr Γ.2.2.1 Γ.2.2.2.1 m) (hn0 : Γ.2.2.2.2.1 ≤ A.2.2.1.length) (hs0 : ∀ i, i < Γ.2.2.2.2.1 → σ i = Γ.2.2.2.2.2 i)
    (h8 : Nat.ble 8 (a % 16) = true) (h1 : (D.2.1.2 a).1 ≤ i.toInt) (h2 : i.toInt ≤ (D.2.1.2 a).2) (he : elm a D.2.2.2 = true) : Rl Γ (A.1, r, A.2.2.1, drpA a A.2.2.2) ls s (sI m a k i) := by
  refine ⟨σ, hC, hL, hF, fun q hq => ?_, Mok_sI hT (by rw [tyF_row h8, hD.1]; exact h1) (by rw [tyF_row h8, hD.1]; exact h2), hc, Fr_sI hW (by rw [hD.2, wk_row h8]; exact elm_in he) (fun _ q => by rw [q.1] at h8; cases h8), hn0, hs0⟩
  unfold drpA at hq
  rw [List.mem_filter] at hq
  have e1 : (sI m a k i).1 q.1.1 (ixk σ q.1.2) = m.1 q.1.1 (ixk σ q.1.2) := by
    have h2 := hq.2
    have := gI_sI (m := m) (a := a) (k := k) (b := q.1.1) (j := ixk σ q.1.2) (v := i)
    unfold gI at this
    rw [this, if_neg]
    rintro ⟨q1, q2⟩
    rw [q1] at h2
    simp at h2
  rw [e1]
  exact hM q hq.1
def aIast (D : KK) : AOP := fun nx _ _ A => match A.2.1 with
  | v :: i :: x :: r => isI v && ixOk A.2.2.1 i (x.2.1.toNat / 4096) && Nat.beq x.1 2 && Nat.beq (x.2.1.toNat % 16) 8 && inR (rng A.2.2.1 v) (D.2.1.2 x.2.1.toNat) && elm x.2.1.toNat D.2.2.2 && nx (A.1, r, A.2.2.1, drpA x.2.1.toNat A.2.2.2)
  | _ => false
theorem sIast : Snd D oIast (aIast D) := by
  intro E P Γ hD nx jp nxA jpA rtA hn hj hr A ls st m h hR
  obtain ⟨σ, hC, hL, hS, hM, hT, hc, hW, hn0, hs0⟩ := hR
  unfold aIast at h
  split at h
  · rename_i v i x r e
    rw [e] at hS
    simp only [Bool.and_eq_true] at h
    obtain ⟨⟨⟨⟨⟨⟨b0, b1⟩, b2⟩, b3⟩, b4⟩, b5⟩, b6⟩ := h
    obtain ⟨w, s, rfl, gv, hF⟩ := FA_cons hS
    obtain ⟨w1, s1, rfl, gi, hF1⟩ := FA_cons hF
    obtain ⟨w2, s2, rfl, gx, hF2⟩ := FA_cons hF1
    obtain ⟨t, a, b⟩ := x
    obtain rfl : t = 2 := Nat.eq_of_beq_eq_true b2
    have ew : w2 = .ref a.toNat := gx
    subst ew
    obtain ⟨j, rfl, hin⟩ := ix_ok hC b1 gi
    obtain ⟨y, rfl⟩ := gam_int b0 gv
    have hr2 := rng_ok hC b0 gv
    unfold inR at b4
    simp only [Bool.and_eq_true, decide_eq_true_eq] at b4
    unfold oIast
    simp only [show Nat.beq (a.toNat % 16) 8 = true from b3]
    exact ⟨hin, hn _ _ _ _ b6 (row_core ⟨hD.2.1, hD.2.2.2⟩ hC hL hF2 hM hT hc hW hn0 hs0 (by rw [Nat.eq_of_beq_eq_true b3]; rfl) (by show (D.2.1.2 a.toNat).1 ≤ _; omega) (by show _ ≤ (D.2.1.2 a.toNat).2; omega) b5)⟩
  · cases h
def aBast (D : KK) : AOP := fun nx _ _ A => match A.2.1 with
  | v :: i :: x :: r => isI v && ixOk A.2.2.1 i (x.2.1.toNat / 4096) && Nat.beq x.1 2 && ((Nat.beq (x.2.1.toNat % 16) 10 && inR (-128, 127) (D.2.1.2 x.2.1.toNat)) || (!(Nat.beq (x.2.1.toNat % 16) 10) && Nat.beq (x.2.1.toNat % 16) 11 && inR (0, 1) (D.2.1.2 x.2.1.toNat))) && elm x.2.1.toNat D.2.2.2 && nx (A.1, r, A.2.2.1, drpA x.2.1.toNat A.2.2.2)
  | _ => false
theorem nar_byte (x : Int32) : -128 ≤ (vp_nar .byte x).toInt ∧ (vp_nar .byte x).toInt ≤ 127 := by
  rw [vp_nar_byte, Int8.toInt_toInt32]
  have h1 := Int8.le_toInt x.toInt8
  have h2 := Int8.toInt_lt x.toInt8
  omega
theorem nar_bool (x : Int32) : 0 ≤ (vp_nar .boolean x).toInt ∧ (vp_nar .boolean x).toInt ≤ 1 := by
  have e : vp_nar .boolean x = x &&& 1 := rfl
  rw [e]
  exact and_rng (by decide)
theorem sBast : Snd D oBast (aBast D) := by
  intro E P Γ hD nx jp nxA jpA rtA hn hj hr A ls st m h hR
  obtain ⟨σ, hC, hL, hS, hM, hT, hc, hW, hn0, hs0⟩ := hR
  unfold aBast at h
  split at h
  · rename_i v i x r e
    rw [e] at hS
    simp only [Bool.and_eq_true] at h
    obtain ⟨⟨⟨⟨⟨b0, b1⟩, b2⟩, b3⟩, b5⟩, b6⟩ := h
    obtain ⟨w, s, rfl, gv, hF⟩ := FA_cons hS
    obtain ⟨w1, s1, rfl, gi, hF1⟩ := FA_cons hF
    obtain ⟨w2, s2, rfl, gx, hF2⟩ := FA_cons hF1
    obtain ⟨t, a, b⟩ := x
    obtain rfl : t = 2 := Nat.eq_of_beq_eq_true b2
    have ew : w2 = .ref a.toNat := gx
    subst ew
    obtain ⟨j, rfl, hin⟩ := ix_ok hC b1 gi
    obtain ⟨y, rfl⟩ := gam_int b0 gv
    unfold oBast
    rcases (Bool.or_eq_true _ _).mp b3 with q | q
    · rw [Bool.and_eq_true] at q
      have q2 := q.2
      unfold inR at q2
      simp only [Bool.and_eq_true, decide_eq_true_eq] at q2
      have hy := nar_byte y
      simp only [show Nat.beq (a.toNat % 16) 10 = true from q.1]
      exact ⟨hin, hn _ _ _ _ b6 (row_core ⟨hD.2.1, hD.2.2.2⟩ hC hL hF2 hM hT hc hW hn0 hs0 (by rw [show a.toNat % 16 = 10 from Nat.eq_of_beq_eq_true q.1]; rfl) (by show (D.2.1.2 a.toNat).1 ≤ _; omega) (by show _ ≤ (D.2.1.2 a.toNat).2; omega) b5)⟩
    · simp only [Bool.and_eq_true] at q
      obtain ⟨⟨q0, q1⟩, q2⟩ := q
      unfold inR at q2
      simp only [Bool.and_eq_true, decide_eq_true_eq] at q2
      have hy := nar_bool y
      have hq0 : Nat.beq (a.toNat % 16) 10 = false := by
        cases hz : Nat.beq (a.toNat % 16) 10 with
        | false => rfl
        | true => rw [show (!Nat.beq (a.toNat % 16) 10) = false by rw [hz]; rfl] at q0; cases q0
      simp only [hq0, show Nat.beq (a.toNat % 16) 11 = true from q1]
      exact ⟨hin, hn _ _ _ _ b6 (row_core ⟨hD.2.1, hD.2.2.2⟩ hC hL hF2 hM hT hc hW hn0 hs0 (by rw [show a.toNat % 16 = 11 from Nat.eq_of_beq_eq_true q1]; rfl) (by show (D.2.1.2 a.toNat).1 ≤ _; omega) (by show _ ≤ (D.2.1.2 a.toNat).2; omega) b5)⟩
  · cases h
def aJast (D : KK) : AOP := fun nx _ _ A => match A.2.1 with
  | v :: i :: x :: r => isJ v && ixOk A.2.2.1 i (x.2.1.toNat / 4096) && Nat.beq x.1 2 && Nat.beq (x.2.1.toNat % 16) 9 && (!(Nat.beq x.2.1.toNat kF_rows) || (Nat.beq v.1 5 && decide (v.2.2 = 0))) && elm x.2.1.toNat D.2.2.2 && nx (A.1, r, A.2.2)
  | _ => false
theorem sJast : Snd D oJast (aJast D) := by
  intro E P Γ hD nx jp nxA jpA rtA hn hj hr A ls st m h hR
  obtain ⟨σ, hC, hL, hS, hM, hT, hc, hW, hn0, hs0⟩ := hR
  unfold aJast at h
  split at h
  · rename_i v i x r e
    rw [e] at hS
    simp only [Bool.and_eq_true] at h
    obtain ⟨⟨⟨⟨⟨⟨b0, b1⟩, b2⟩, b3⟩, b4⟩, b5⟩, b6⟩ := h
    obtain ⟨w, s, rfl, gv, hF⟩ := FA_cons hS
    obtain ⟨w1, s1, rfl, gi, hF1⟩ := FA_cons hF
    obtain ⟨w2, s2, rfl, gx, hF2⟩ := FA_cons hF1
    obtain ⟨t, a, b⟩ := x
    obtain rfl : t = 2 := Nat.eq_of_beq_eq_true b2
    have ew : w2 = .ref a.toNat := gx
    subst ew
    obtain ⟨j, rfl, hin⟩ := ix_ok hC b1 gi
    obtain ⟨y, rfl⟩ := gam_long b0 gv
    unfold oJast
    simp only [show Nat.beq (a.toNat % 16) 9 = true from b3]
    refine ⟨hin, hn _ _ _ _ b6 ⟨σ, hC, hL, hF2, hM, Mok_sJ hT (fun q => ?_), hc, Fr_sJ hW (by rw [hD.2.2.2, wk_row (by rw [Nat.eq_of_beq_eq_true b3]; rfl)]; exact elm_in b5), hn0, hs0⟩⟩
    rcases (Bool.or_eq_true _ _).mp b4 with z | z
    · simp only at z
      rw [q, show Nat.beq kF_rows kF_rows = true from Nat.beq_refl _] at z
      cases z
    · obtain ⟨t2, a2, b2'⟩ := v
      rw [Bool.and_eq_true] at z
      obtain rfl : t2 = 5 := Nat.eq_of_beq_eq_true z.1
      have z2 : b2' = 0 := of_decide_eq_true z.2
      subst z2
      obtain ⟨l, e1, e2⟩ := gv
      cases e1
      exact e2.1 rfl
  · cases h
def aLen : AOP := fun nx _ _ A => match A.2.1 with
  | x :: r => Nat.beq x.1 2 && Nat.beq (x.2.1.toNat % 16) 8 && Nat.ble (x.2.1.toNat / 4096) 2147483647 && nx (A.1, (0, ((x.2.1.toNat / 4096 : Nat) : Int), ((x.2.1.toNat / 4096 : Nat) : Int)) :: r, A.2.2)
  | _ => false
theorem sLen : Snd D oLen aLen := by
  intro E P Γ hD nx jp nxA jpA rtA hn hj hr A ls st m h hR
  obtain ⟨σ, hC, hL, hS, hrest⟩ := hR
  unfold aLen at h
  split at h
  · rename_i x r e
    rw [e] at hS
    simp only [Bool.and_eq_true] at h
    obtain ⟨⟨⟨b1, b2⟩, b3⟩, b4⟩ := h
    obtain ⟨w, s, rfl, gx, hF⟩ := FA_cons hS
    obtain ⟨t, a, b⟩ := x
    obtain rfl : t = 2 := Nat.eq_of_beq_eq_true b1
    have ew : w = .ref a.toNat := gx
    subst ew
    unfold oLen
    simp only [show Nat.beq (a.toNat % 16) 8 = true from b2]
    have hl : a.toNat / 4096 ≤ 2147483647 := Nat.le_of_ble_eq_true b3
    exact hn _ _ _ _ b4 ⟨σ, hC, hL, ⟨gam_c (nI_toInt (n := a.toNat / 4096) (by omega)), hF⟩, hrest⟩
  · cases h
/-! switches -/
def asw (jp : Nat → AS → Bool) (L r : List AV) (M : AM) (x : AV) (d : Nat) : CC → List (Int × Nat) → Bool
  | C, [] => jp d (L, r, C, M)
  | C, (k, t) :: q => gon (bEq C x (0, k, k)) (fun C' => jp t (L, r, C', M)) && gon (bNe C x (0, k, k)) (fun C' => asw jp L r M x d C' q)
def aSw (cs : List (Int × Nat)) (d : Nat) : AOP := fun _ jp _ A => a1 (fun x r => asw jp A.1 r A.2.2.2 x d A.2.2.1 cs) A.2.1
theorem asw_ok {Γ : GG} {σ : Nat → Int} {L r : List AV} {M : AM} {x : AV} {i : Int32} {ls s : List Value} {m : MM} {d : Nat} {jp : Nat → NX} {jpA : Nat → AS → Bool} (hj : ∀ t A ls st m, jpA t A = true → Rl Γ A ls st m → jp t ls st m) (hx : isI x = true) (g : gam σ x (.int i)) :
    ∀ (cs : List (Int32 × Nat)) (C : CC), Rs Γ σ (L, r, C, M) ls s m → asw jpA L r M x d C (cs.map (fun q => (q.1.toInt, q.2))) = true → swP i (fun t => jp t ls s m) d cs
  | [], C, hR, h => hj _ _ _ _ _ h ⟨σ, hR⟩
  | (k, t) :: cs, C, hR, h => by
    rw [List.map_cons] at h
    unfold asw at h
    rw [Bool.and_eq_true] at h
    obtain ⟨hC, hL, hS, hM, hT, hc, hW, hn0, hs0⟩ := hR
    refine ⟨fun q => ?_, fun q => ?_⟩
    · obtain ⟨C', e1, e2, e3⟩ := rEq σ C x (0, k.toInt, k.toInt) i k hC hx rfl g (gam_c rfl) q
      have hk := h.1
      rw [e1] at hk
      exact hj _ _ _ _ _ hk ⟨σ, e2, hL, hS, hM, hT, hc, hW, by show _ ≤ C'.length; rw [e3]; exact hn0, hs0⟩
    · obtain ⟨C', e1, e2, e3⟩ := rNe σ C x (0, k.toInt, k.toInt) i k hC hx rfl g (gam_c rfl) q
      have hk := h.2
      rw [e1] at hk
      exact asw_ok hj hx g cs C' ⟨e2, hL, hS, hM, hT, hc, hW, by show _ ≤ C'.length; rw [e3]; exact hn0, hs0⟩ hk
theorem sSw {cs : List (Int32 × Nat)} {acs : List (Int × Nat)} {d : Nat} (hcs : cs.map (fun q => (q.1.toInt, q.2)) = acs) : Snd D (oSw cs d) (aSw acs d) := by
  subst hcs
  intro E P Γ hD nx jp nxA jpA rtA hn hj hr A ls st m h hR
  obtain ⟨σ, hC, hL, hS, hrest⟩ := hR
  obtain ⟨x, r, i, s, rfl, ix, gx, hF, hk⟩ := a1_ok h hS
  unfold oSw
  exact asw_ok (L := A.1) (r := r) (M := A.2.2.2) hj ix gx cs A.2.2.1 ⟨hC, hL, hF, hrest⟩ hk
/-! divisions -/
def nz (q : Int × Int) : Bool := decide (0 < q.1) || decide (q.2 < 0)
theorem nz_ok {σ : Nat → Int} {C : CC} {v : AV} {i : Int32} (hC : okC σ C) (hv : isI v = true) (g : gam σ v (.int i)) (h : nz (rng C v) = true) : ¬ i = 0 := by
  intro q
  subst q
  have hr := rng_ok hC hv g
  have e : (0 : Int32).toInt = 0 := rfl
  unfold nz at h
  rcases (Bool.or_eq_true _ _).mp h with z | z
  · have := of_decide_eq_true z; omega
  · have := of_decide_eq_true z; omega
def aDv (fn : CC → AV → AV → AV) : AOP := fun nx _ _ A => a2 (fun y x r => nz (rng A.2.2.1 y) && nx (A.1, fn A.2.2.1 x y :: r, A.2.2)) A.2.1
theorem sDv {op : OP} {f : Int32 → Int32 → Int32} {fn : CC → AV → AV → AV} (hop : ∀ (E : EE) (P : QQ) (nx : NX) (jp : Nat → NX) (ls : List Value) (j i : Int32) (s : List Value) (m : MM), (¬ j = 0) ∧ nx ls (.int (f i j) :: s) m → op E P nx jp ls (.int j :: .int i :: s) m)
    (hf : ∀ (σ : Nat → Int) (C : CC) (x y : AV) (i j : Int32), okC σ C → isI x = true → isI y = true → gam σ x (.int i) → gam σ y (.int j) → gam σ (fn C x y) (.int (f i j))) : Snd D op (aDv fn) := by
  intro E P Γ hD nx jp nxA jpA rtA hn hj hr A ls st m h hR
  obtain ⟨σ, hC, hL, hS, hM, hrest⟩ := hR
  obtain ⟨y, x, r, j, i, s, rfl, iy, ix, gy, gx, hF, hk⟩ := a2_ok h hS
  rw [Bool.and_eq_true] at hk
  exact hop _ _ _ _ _ _ _ _ _ ⟨nz_ok hC iy gy hk.1, hn _ _ _ _ hk.2 ⟨σ, hC, hL, ⟨hf σ _ x y i j hC ix iy gx gy, hF⟩, hM, hrest⟩⟩
theorem sIdiv : Snd D oIdiv (aDv fDiv) := sDv (f := fun i j => i / j) (fun _ _ _ _ _ _ _ _ _ h => h) (fun _ _ _ _ _ _ h1 h2 h3 h4 h5 => fDiv_ok h1 h2 h3 h4 h5)
theorem sIrem : Snd D oIrem (aDv fRem) := sDv (f := fun i j => i - i / j * j) (fun _ _ _ _ _ _ _ _ _ h => h) (fun _ _ _ _ _ _ h1 h2 h3 h4 h5 => fRem_ok h1 h2 h3 h4 h5)
/-! ends -/
def aIret : AOP := fun _ _ rt A => match A.2.1 with
  | [x] => isI x && rt A
  | _ => false
theorem sIret : Snd D oIret aIret := by
  intro E P Γ hD nx jp nxA jpA rtA hn hj hr A ls st m h hR
  have hR' := hR
  obtain ⟨σ, hC, hL, hS, hrest⟩ := hR
  unfold aIret at h
  split at h
  · rename_i x e
    rw [e] at hS
    rw [Bool.and_eq_true] at h
    obtain ⟨w, s, rfl, gx, hF⟩ := FA_cons hS
    obtain rfl := FA_nil hF
    obtain ⟨i, rfl⟩ := gam_int h.1 gx
    exact hr _ _ _ _ h.2 hR'
  · cases h
def aZret : AOP := fun _ _ rt A => match A.2.1 with
  | [x] => isI x && inR (rng A.2.2.1 x) (0, 1) && rt A
  | _ => false
theorem sZret : Snd D oZret aZret := by
  intro E P Γ hD nx jp nxA jpA rtA hn hj hr A ls st m h hR
  have hR' := hR
  obtain ⟨σ, hC, hL, hS, hrest⟩ := hR
  unfold aZret at h
  split at h
  · rename_i x e
    rw [e] at hS
    simp only [Bool.and_eq_true] at h
    obtain ⟨w, s, rfl, gx, hF⟩ := FA_cons hS
    obtain rfl := FA_nil hF
    obtain ⟨i, rfl⟩ := gam_int h.1.1 gx
    exact ⟨z01 hC h.1.1 gx h.1.2, hr _ _ _ _ h.2 hR'⟩
  · cases h
def aJret : AOP := fun _ _ rt A => match A.2.1 with
  | [x] => isJ x && rt A
  | _ => false
theorem sJret : Snd D oJret aJret := by
  intro E P Γ hD nx jp nxA jpA rtA hn hj hr A ls st m h hR
  have hR' := hR
  obtain ⟨σ, hC, hL, hS, hrest⟩ := hR
  unfold aJret at h
  split at h
  · rename_i x e
    rw [e] at hS
    rw [Bool.and_eq_true] at h
    obtain ⟨w, s, rfl, gx, hF⟩ := FA_cons hS
    obtain rfl := FA_nil hF
    obtain ⟨l, rfl⟩ := gam_long h.1 gx
    exact hr _ _ _ _ h.2 hR'
  · cases h
def aVret : AOP := fun _ _ rt A => match A.2.1 with
  | [] => rt A
  | _ => false
theorem sVret : Snd D oVret aVret := by
  intro E P Γ hD nx jp nxA jpA rtA hn hj hr A ls st m h hR
  have hR' := hR
  obtain ⟨σ, hC, hL, hS, hrest⟩ := hR
  unfold aVret at h
  split at h
  · rename_i e
    rw [e] at hS
    obtain rfl := FA_nil hS
    exact hr _ _ _ _ h hR'
  · cases h
/-! Math.min, max -/
def acats : List AV → Nat
  | [] => 0
  | v :: r => (if Nat.ble v.1 3 then 1 else 2) + acats r
theorem acats_ok {σ : Nat → Int} : ∀ {L : List AV} {s : List Value}, FA σ L s → cats s ≤ acats L
  | [], [], _ => Nat.le_refl _
  | [], _ :: _, h => h.elim
  | _ :: _, [], h => h.elim
  | v :: r, x :: s, h => by
    have ih := acats_ok h.2
    have hx : x.category ≤ 2 := by cases x <;> exact Nat.le_of_ble_eq_true rfl
    unfold cats acats
    split
    · rename_i hb
      have hv : v.1 ≤ 3 := Nat.le_of_ble_eq_true hb
      have hc : x.category = 1 := by
        obtain ⟨t, a, b⟩ := v
        have hg := h.1
        rcases (show t = 0 ∨ t = 1 ∨ t = 2 ∨ t = 3 by omega) with rfl | rfl | rfl | rfl
        · obtain ⟨i, rfl, -⟩ := hg; rfl
        · obtain ⟨i, rfl, -⟩ := hg; rfl
        · have hg : x = .ref a.toNat := hg
          subst hg; rfl
        · obtain ⟨n, rfl⟩ := hg; rfl
      omega
    · omega
def fMin (C : CC) (x y : AV) : AV := (0, min (rng C x).1 (rng C y).1, min (rng C x).2 (rng C y).2)
def fMax (C : CC) (x y : AV) : AV := (0, max (rng C x).1 (rng C y).1, max (rng C x).2 (rng C y).2)
def aMin (D : KK) : AOP := fun nx _ _ A => Nat.ble 1 D.1 && a2 (fun y x r => Nat.ble (acats r) 8 && nx (A.1, fMin A.2.2.1 x y :: r, A.2.2)) A.2.1
theorem sMin : Snd D oMin (aMin D) := by
  intro E P Γ hD nx jp nxA jpA rtA hn hj hr A ls st m h hR
  obtain ⟨σ, hC, hL, hS, hM, hrest⟩ := hR
  unfold aMin at h
  rw [Bool.and_eq_true] at h
  obtain ⟨y, x, r, j, i, s, rfl, iy, ix, gy, gx, hF, hk⟩ := a2_ok h.2 hS
  rw [Bool.and_eq_true] at hk
  have hb : (Nat.ble 1 E.1 && Nat.ble (cats s) 8) = true := by
    rw [Bool.and_eq_true]
    exact ⟨by rw [hD.1]; exact h.1, Nat.ble_eq_true_of_le (Nat.le_trans (acats_ok hF) (Nat.le_of_ble_eq_true hk.1))⟩
  unfold oMin
  simp only [hb]
  have hx := rng_ok hC ix gx
  have hy := rng_ok hC iy gy
  refine hn _ _ _ _ hk.2 ⟨σ, hC, hL, ⟨?_, hF⟩, hM, hrest⟩
  unfold fMin
  split
  · rename_i q
    rw [Int32.lt_iff_toInt_lt] at q
    exact ⟨_, rfl, by simp only; omega, by simp only; omega⟩
  · rename_i q
    rw [Int32.lt_iff_toInt_lt] at q
    exact ⟨_, rfl, by simp only; omega, by simp only; omega⟩
def aMax (D : KK) : AOP := fun nx _ _ A => Nat.ble 1 D.1 && a2 (fun y x r => Nat.ble (acats r) 8 && nx (A.1, fMax A.2.2.1 x y :: r, A.2.2)) A.2.1
theorem sMax : Snd D oMax (aMax D) := by
  intro E P Γ hD nx jp nxA jpA rtA hn hj hr A ls st m h hR
  obtain ⟨σ, hC, hL, hS, hM, hrest⟩ := hR
  unfold aMax at h
  rw [Bool.and_eq_true] at h
  obtain ⟨y, x, r, j, i, s, rfl, iy, ix, gy, gx, hF, hk⟩ := a2_ok h.2 hS
  rw [Bool.and_eq_true] at hk
  have hb : (Nat.ble 1 E.1 && Nat.ble (cats s) 8) = true := by
    rw [Bool.and_eq_true]
    exact ⟨by rw [hD.1]; exact h.1, Nat.ble_eq_true_of_le (Nat.le_trans (acats_ok hF) (Nat.le_of_ble_eq_true hk.1))⟩
  unfold oMax
  simp only [hb]
  have hx := rng_ok hC ix gx
  have hy := rng_ok hC iy gy
  refine hn _ _ _ _ hk.2 ⟨σ, hC, hL, ⟨?_, hF⟩, hM, hrest⟩
  unfold fMax
  split
  · rename_i q
    rw [Int32.lt_iff_toInt_lt] at q
    exact ⟨_, rfl, by simp only; omega, by simp only; omega⟩
  · rename_i q
    rw [Int32.lt_iff_toInt_lt] at q
    exact ⟨_, rfl, by simp only; omega, by simp only; omega⟩
end Rw
