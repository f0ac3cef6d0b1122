/-! rows whose elements are remembered by place -/
def kOf (v : AV) : Option Nat := match v.1 with
  | 0 => if v.2.1 = v.2.2 ∧ v.2.1 < 1048576 then some v.2.1.toNat else none
  | 1 => if v.2.2 = 0 then some (1048576 + v.2.1.toNat) else none
  | _ => none
theorem kOf_ok {σ : Nat → Int} {v : AV} {k : Nat} {i : Int32} (g : gam σ v (.int i)) (h : kOf v = some k) : i.toNatClampNeg = ixk σ k := by
  have ei : i.toNatClampNeg = i.toInt.toNat := rfl
  rw [ei]
  obtain ⟨t, a, b⟩ := v
  unfold kOf at h
  match t, g, h with
  | 0, g, h =>
    obtain ⟨j, e, h1, h2⟩ := g
    cases e
    simp only at h h1 h2
    split at h
    · rename_i q
      cases h
      have e1 : i.toInt = a := by omega
      rw [ixk_lt (by omega), e1]
    · cases h
  | 1, g, h =>
    obtain ⟨j, e, h1⟩ := g
    cases e
    simp only at h h1
    split at h
    · rename_i q
      cases h
      unfold ixk
      rw [if_neg (by omega), Nat.add_sub_cancel_left, h1, q, Int.add_zero]
    · cases h
theorem alc_ok2 {Γ : GG} {σ : Nat → Int} {A : AS} {v : AV} {k : AV → AS → Bool} {ls st : List Value} {m : MM} {i : Int32} (hR : Rs Γ σ A ls st m) (g : gam σ v (.int i)) (hv : isI v = true) (h : alc A v k = true) : ∃ σ' v' A', Rs Γ σ' A' ls st m ∧ gam σ' v' (.int i) ∧ isI v' = true ∧ k v' A' = true ∧ (∀ j, j < A.2.2.1.length → σ' j = σ j) := by
  unfold alc at h
  split at h
  · rename_i hb
    simp only [Bool.and_eq_true] at hb
    obtain ⟨⟨b1, -⟩, b3⟩ := hb
    obtain ⟨t, lo, hi⟩ := v
    obtain rfl : t = 0 := Nat.eq_of_beq_eq_true b1
    obtain ⟨i2, e1, e2, e3⟩ := g
    cases e1
    simp only at e2 e3
    obtain ⟨hC, hL, hS, hM, h1, h2, h3, h4, h5⟩ := hR
    unfold wfA at b3
    simp only [Bool.and_eq_true] at b3
    obtain ⟨⟨w1, w2⟩, w3⟩ := b3
    have hext : ∀ j, j < A.2.2.1.length → (fun j => if j = A.2.2.1.length then i.toInt else σ j) j = σ j := fun j hj => by
      simp only
      rw [if_neg (by omega)]
    refine ⟨fun j => if j = A.2.2.1.length then i.toInt else σ j, (1, (A.2.2.1.length : Int), 0), (A.1, A.2.1, A.2.2.1 ++ [(lo, hi)], A.2.2.2), ⟨?_, FA_ext hext w1 hL, FA_ext hext w2 hS, ?_, h1, h2, h3, ?_, ?_⟩, ?_, rfl, h, hext⟩
    · intro j q hq
      simp only at hq
      by_cases hj : j < A.2.2.1.length
      · rw [List.getElem?_append_left hj] at hq
        rw [hext j hj]
        exact hC j q hq
      · rw [List.getElem?_append_right (by omega)] at hq
        have hz : j - A.2.2.1.length < 1 := (List.getElem?_eq_some_iff.mp hq).1
        have hj2 : j = A.2.2.1.length := by omega
        subst hj2
        rw [Nat.sub_self] at hq
        cases hq
        simp only [if_true]
        exact ⟨e2, e3⟩
    · intro q hq
      have hw := List.all_eq_true.mp w3 q hq
      rw [Bool.and_eq_true] at hw
      refine ⟨(hM q hq).1, ?_⟩
      rw [ixk_ext hext hw.2]
      exact gam_ext hext hw.1 (hM q hq).2
    · simp only [List.length_append, List.length_singleton]
      omega
    · intro j hj
      rw [hext j (by omega)]
      exact h5 j hj
    · refine ⟨i, rfl, ?_⟩
      simp
  · exact ⟨σ, v, A, hR, g, hv, h, fun _ _ => rfl⟩
section Ky
variable {D : KK}
def aIaldK (D : KK) : AOP := fun nx jp rt A => match A.2.1 with
  | i :: x :: r => match kOf i with
    | none => aIald D nx jp rt A
    | some k => ixOk A.2.2.1 i (x.2.1.toNat / 4096) && Nat.beq x.1 2 && Nat.beq (x.2.1.toNat % 16) 8 && (match mlk0 x.2.1.toNat k A.2.2.2 with
      | some v => nx (A.1, v :: r, A.2.2)
      | none => kB A.2.2.1.length k && alc (A.1, r, A.2.2) (0, D.2.1.2 x.2.1.toNat) (fun v B => nx (B.1, v :: B.2.1, B.2.2.1, ((x.2.1.toNat, k), v) :: B.2.2.2)))
  | _ => false
theorem sIaldK : Snd D oIald (aIaldK D) := by
  intro E P Γ hD nx jp nxA jpA rtA hn hj hr A ls st m h hR
  unfold aIaldK at h
  split at h
  · rename_i i x r e
    split at h
    · exact sIald E P Γ hD nx jp nxA jpA rtA hn hj hr A ls st m h hR
    · rename_i k hk
      obtain ⟨σ, hC, hL, hS, hM, hT, hrest⟩ := hR
      rw [e] at hS
      simp only [Bool.and_eq_true] at h
      obtain ⟨⟨⟨b1, b2⟩, b3⟩, b4⟩ := h
      obtain ⟨w, s, rfl, gi, hF⟩ := FA_cons hS
      obtain ⟨w2, s2, rfl, gx, hF2⟩ := FA_cons hF
      obtain ⟨t, a, b⟩ := x
      obtain rfl : t = 2 := Nat.eq_of_beq_eq_true b2
      have ew : w2 = .ref a.toNat := gx
      subst ew
      obtain ⟨j, rfl, hin⟩ := ix_ok hC b1 gi
      have ej := kOf_ok gi hk
      unfold oIald
      simp only [show Nat.beq (a.toNat % 16) 8 = true from b3]
      have hty := hT.1 a.toNat j.toNatClampNeg
      rw [tyF_row (by rw [Nat.eq_of_beq_eq_true b3]; rfl), hD.2.1] at hty
      refine ⟨hin, ?_⟩
      simp only at b4
      split at b4
      · rename_i v ev
        have hq := hM _ (mlk_mem ev)
        rw [ej]
        exact hn _ _ _ _ b4 ⟨σ, hC, hL, ⟨hq.2, hF2⟩, hM, hT, hrest⟩
      · rw [Bool.and_eq_true] at b4
        obtain ⟨kb, b4⟩ := b4
        obtain ⟨σ', v', B, hB, g', i', hk', hx⟩ := alc_ok2 (A := (A.1, r, A.2.2)) (ls := ls) (st := s2) (m := m) (Γ := Γ) (i := gI m a.toNat j.toNatClampNeg) (v := (0, D.2.1.2 a.toNat)) ⟨hC, hL, hF2, hM, hT, hrest⟩ ⟨_, rfl, hty.1, hty.2⟩ rfl b4
        obtain ⟨hC', hL', hS', hM', hrest'⟩ := hB
        refine hn _ _ _ _ hk' ⟨σ', hC', hL', ⟨g', hS'⟩, fun q hq => ?_, hrest'⟩
        rcases List.mem_cons.mp hq with rfl | hq
        · refine ⟨i', ?_⟩
          simp only
          rw [ixk_ext hx kb, ← ej]
          exact g'
        · exact hM' q hq
  · cases h
def aIastK (D : KK) : AOP := fun nx jp rt A => match A.2.1 with
  | v :: i :: x :: r => match kOf i with
    | none => aIast D nx jp rt A
    | some k => isI v && ixOk A.2.2.1 i (x.2.1.toNat / 4096) && Nat.beq x.1 2 && Nat.beq (x.2.1.toNat % 16) 8 && inR (rng A.2.2.1 v) (D.2.1.2 x.2.1.toNat) && elm x.2.1.toNat D.2.2.2 && nx (A.1, r, A.2.2.1, ((x.2.1.toNat, k), v) :: drpA x.2.1.toNat A.2.2.2)
  | _ => false
theorem sIastK : Snd D oIast (aIastK D) := by
  intro E P Γ hD nx jp nxA jpA rtA hn hj hr A ls st m h hR
  unfold aIastK at h
  split at h
  · rename_i v i x r e
    split at h
    · exact sIast E P Γ hD nx jp nxA jpA rtA hn hj hr A ls st m h hR
    · rename_i k hk
      obtain ⟨σ, hC, hL, hS, hM, hT, hc, hW, hn0, hs0⟩ := hR
      rw [e] at hS
      simp only [Bool.and_eq_true] at h
      obtain ⟨⟨⟨⟨⟨⟨b0, b1⟩, b2⟩, b3⟩, b4⟩, b5⟩, b6⟩ := h
      obtain ⟨w, s, rfl, gv, hF⟩ := FA_cons hS
      obtain ⟨w1, s1, rfl, gi, hF1⟩ := FA_cons hF
      obtain ⟨w2, s2, rfl, gx, hF2⟩ := FA_cons hF1
      obtain ⟨t, a, b⟩ := x
      obtain rfl : t = 2 := Nat.eq_of_beq_eq_true b2
      have ew : w2 = .ref a.toNat := gx
      subst ew
      obtain ⟨j, rfl, hin⟩ := ix_ok hC b1 gi
      obtain ⟨y, rfl⟩ := gam_int b0 gv
      have ej := kOf_ok gi hk
      have hr2 := rng_ok hC b0 gv
      unfold inR at b4
      simp only [Bool.and_eq_true, decide_eq_true_eq] at b4
      unfold oIast
      simp only [show Nat.beq (a.toNat % 16) 8 = true from b3]
      have h8 : Nat.ble 8 (a.toNat % 16) = true := by rw [Nat.eq_of_beq_eq_true b3]; rfl
      refine ⟨hin, hn _ _ _ _ b6 ⟨σ, hC, hL, hF2, fun q hq => ?_, Mok_sI hT (by rw [tyF_row h8, hD.2.1]; show (D.2.1.2 a.toNat).1 ≤ _; omega) (by rw [tyF_row h8, hD.2.1]; show _ ≤ (D.2.1.2 a.toNat).2; omega), hc, Fr_sI hW (by rw [hD.2.2.2, wk_row h8]; exact elm_in b5) (fun _ q => by rw [q.1] at h8; cases h8), hn0, hs0⟩⟩
      rcases List.mem_cons.mp hq with rfl | hq
      · refine ⟨b0, ?_⟩
        simp only
        rw [← ej]
        have e1 : (sI m a.toNat j.toNatClampNeg y).1 a.toNat j.toNatClampNeg = y := by unfold sI; simp
        rw [e1]
        exact gv
      · unfold drpA at hq
        rw [List.mem_filter] at hq
        have e1 : (sI m a.toNat j.toNatClampNeg y).1 q.1.1 (ixk σ q.1.2) = m.1 q.1.1 (ixk σ q.1.2) := by
          have h2 := hq.2
          have := gI_sI (m := m) (a := a.toNat) (k := j.toNatClampNeg) (b := q.1.1) (j := ixk σ q.1.2) (v := y)
          unfold gI at this
          rw [this, if_neg]
          rintro ⟨q1, q2⟩
          rw [q1] at h2
          simp at h2
        rw [e1]
        exact hM q hq.1
  · cases h
end Ky
