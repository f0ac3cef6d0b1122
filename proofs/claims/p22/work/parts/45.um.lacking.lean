/-! lacking: both sides in full -/
section Lk336
variable {m : MM} {M : Int32}
set_option maxRecDepth 100000 in
theorem r_before_336 {a b : Nat} (h : SB 336 m) (ha : a < (vw m).1 3) (hb : b < (vw m).1 3) : CI 1 mX4_isBefore [.ref 452, .int (nI a), .int (nI b)] m (fun r m' => m' = m ∧ z1 (keyP (vw m) a < keyP (vw m) b) r) := by
  have hW := h.2.2.2.2.2
  have h40 := hW.1.2.2.2
  obtain ⟨da, da1, da2, da3⟩ := dayN hW ha
  obtain ⟨db, db1, db2, db3⟩ := dayN hW hb
  have va : vp_in (nI a) 40 := vp_in_nI (by omega) (by decide)
  have vb : vp_in (nI b) 40 := vp_in_nI (by omega) (by decide)
  have ca : gI m 164392 (nI a).toNatClampNeg = nI da := by rw [nI_clamp (by omega), ← da2]; exact h.2.1 15 (by decide) (by decide) a ha
  have cb : gI m 164392 (nI b).toNatClampNeg = nI db := by rw [nI_clamp (by omega), ← db2]; exact h.2.1 15 (by decide) (by decide) b hb
  have ka : keyP (vw m) a = da * 64 + a := by unfold keyP; rw [da3]
  have kb : keyP (vw m) b = db * 64 + b := by unfold keyP; rw [db3]
  rw [ka, kb]
  refine At.gs okX4_isBefore 60 ?_
  (conv => whnf)
  refine And.intro va ?_
  (conv => whnf)
  refine And.intro vb ?_
  (conv => whnf)
  refine And.intro (fun q => ?_) (fun q => ?_)
  · have q : gI m 164392 (nI a).toNatClampNeg = gI m 164392 (nI b).toNatClampNeg := q
    rw [ca, cb] at q
    have q := nI_inj (by omega) (by omega) q
    (conv => whnf)
    refine And.intro (fun q2 => ?_) (fun q2 => ?_)
    · rw [le_i, nI_toInt (by omega), nI_toInt (by omega)] at q2
      exact ⟨Or.inl rfl, rfl, Or.inr ⟨by omega, rfl⟩⟩
    · rw [le_i, nI_toInt (by omega), nI_toInt (by omega)] at q2
      exact ⟨Or.inr rfl, rfl, Or.inl ⟨by omega, rfl⟩⟩
  · have q : ¬ gI m 164392 (nI a).toNatClampNeg = gI m 164392 (nI b).toNatClampNeg := q
    rw [ca, cb] at q
    have q : da ≠ db := fun z => q (by rw [z])
    (conv => whnf)
    refine And.intro va ?_
    (conv => whnf)
    refine And.intro vb ?_
    (conv => whnf)
    refine And.intro (fun q2 => ?_) (fun q2 => ?_)
    · have q2 : gI m 164392 (nI b).toNatClampNeg ≤ gI m 164392 (nI a).toNatClampNeg := q2
      rw [ca, cb, le_i, nI_toInt (by omega), nI_toInt (by omega)] at q2
      exact ⟨Or.inl rfl, rfl, Or.inr ⟨by omega, rfl⟩⟩
    · have q2 : ¬ gI m 164392 (nI b).toNatClampNeg ≤ gI m 164392 (nI a).toNatClampNeg := q2
      rw [ca, cb, le_i, nI_toInt (by omega), nI_toInt (by omega)] at q2
      exact ⟨Or.inr rfl, rfl, Or.inl ⟨by omega, rfl⟩⟩
def cdNo336 : List CE := stops [33] cdX4_nextOf
theorem okNo336 : CodeOk mX4_nextOf cdNo336 := okX4_nextOf.st [33] (by rfl)
set_option maxRecDepth 100000 in
set_option maxHeartbeats 8000000 in
theorem r_nextOf_336 {lo : Option Nat} (hM : Mok TYg m) (h : SB 336 m) (hl : ∀ l, lo = some l → l < (vw m).1 3) : CI 2 mX4_nextOf [.ref 452, .int M, .int (optI lo)] m (fun r m' => m' = m ∧ r = optI (scanP (vw m) M (optC (vw m) lo) ((vw m).1 3))) := by
  have hW := h.2.2.2.2.2
  have h40 := hW.1.2.2.2
  have cs : (gI m 452 7).toInt = (vw m).1 3 := by
    have e2 : gI m 452 7 = gI m 1175 6 := h.1 3 (by decide)
    rw [e2]; exact vw3 hM
  have e0 : (0 : Int32).toInt = 0 := rfl
  have em : (-1 : Int32).toInt = -1 := rfl
  have lp : ∀ (n k : Nat) (v5 : Value), k + n = (vw m).1 3 → At (E0 2) mX4_nextOf (qi (fun r m' => m' = m ∧ r = optI (scanP (vw m) M (optC (vw m) lo) ((vw m).1 3)))) 5 [.ref 452, .int M, .int (optI lo), .int (optI (scanP (vw m) M (optC (vw m) lo) k)), .int (nI k), v5] [] m := by
    intro n
    induction n with
    | zero =>
      intro k v5 hn
      obtain rfl : k = (vw m).1 3 := by omega
      refine At.ls okNo336 60 ⟨_, _, rfl⟩ ?_
      (conv => whnf)
      refine And.intro (fun q => ?_) (fun q => ?_)
      · exact ⟨rfl, rfl⟩
      · have q : ¬ gI m 452 7 ≤ nI ((vw m).1 3) := q
        rw [le_i, nI_toInt (by omega)] at q
        omega
    | succ n ih =>
      intro k v5 hn
      have hk : k < (vw m).1 3 := by omega
      have c16 : gI m 164408 (nI k).toNatClampNeg = (vw m).2 16 k := by rw [nI_clamp (by omega)]; exact h.2.1 16 (by decide) (by decide) k hk
      have vk : vp_in (nI k) 40 := vp_in_nI (by omega) (by decide)
      have eS : scanP (vw m) M (optC (vw m) lo) (k + 1) = if (vw m).2 16 k = M ∧ optC (vw m) lo ≤ keyP (vw m) k then (match scanP (vw m) M (optC (vw m) lo) k with
        | none => some k
        | some x => if keyP (vw m) k < keyP (vw m) x then some k else some x) else scanP (vw m) M (optC (vw m) lo) k := rfl
      have keep : scanP (vw m) M (optC (vw m) lo) (k + 1) = scanP (vw m) M (optC (vw m) lo) k → ∀ v, At (E0 2) mX4_nextOf (qi (fun r m' => m' = m ∧ r = optI (scanP (vw m) M (optC (vw m) lo) ((vw m).1 3)))) 5 [.ref 452, .int M, .int (optI lo), .int (optI (scanP (vw m) M (optC (vw m) lo) k)), .int (nI k + 1), v] [] m := fun z v => by
        have y := ih (k + 1) v (by omega)
        rw [z] at y
        rw [nI_1]
        exact y
      have take : scanP (vw m) M (optC (vw m) lo) (k + 1) = some k → ∀ v, At (E0 2) mX4_nextOf (qi (fun r m' => m' = m ∧ r = optI (scanP (vw m) M (optC (vw m) lo) ((vw m).1 3)))) 5 [.ref 452, .int M, .int (optI lo), .int (nI k), .int (nI k + 1), v] [] m := fun z v => by
        have y := ih (k + 1) v (by omega)
        rw [z] at y
        rw [nI_1]
        exact y
      have body : ∀ b : Int32, z1 (optC (vw m) lo ≤ keyP (vw m) k) b → At (E0 2) mX4_nextOf (qi (fun r m' => m' = m ∧ r = optI (scanP (vw m) M (optC (vw m) lo) ((vw m).1 3)))) 33 [.ref 452, .int M, .int (optI lo), .int (optI (scanP (vw m) M (optC (vw m) lo) k)), .int (nI k), v5] [.int b] m := by
        intro b hb
        refine At.ls okNo336 60 ⟨_, _, rfl⟩ ?_
        (conv => whnf)
        refine And.intro vk ?_
        (conv => whnf)
        refine And.intro (fun q => ?_) (fun q => ?_)
        · have q : ¬ gI m 164408 (nI k).toNatClampNeg = M := q
          rw [c16] at q
          (conv => whnf)
          exact And.intro rfl (keep (by rw [eS, if_neg (fun z => q z.1)]) _)
        have q : gI m 164408 (nI k).toNatClampNeg = M := q
        rw [c16] at q
        (conv => whnf)
        refine And.intro (fun q2 => ?_) (fun q2 => ?_)
        · have hb : ¬ optC (vw m) lo ≤ keyP (vw m) k := by
            rcases hb with ⟨y1, y2⟩ | ⟨y1, y2⟩
            · rw [y2] at q2; exact absurd q2 (by decide)
            · exact y1
          (conv => whnf)
          exact And.intro rfl (keep (by rw [eS, if_neg (fun z => hb z.2)]) _)
        have hb : optC (vw m) lo ≤ keyP (vw m) k := by
          rcases hb with ⟨y1, y2⟩ | ⟨y1, y2⟩
          · exact y1
          · exact absurd y2 q2
        rw [if_pos ⟨q, hb⟩] at eS
        (conv => whnf)
        refine And.intro (fun q3 => ?_) (fun q3 => ?_)
        · have q3 : optI (scanP (vw m) M (optC (vw m) lo) k) < 0 := q3
          have hn : scanP (vw m) M (optC (vw m) lo) k = none := by
            cases hs : scanP (vw m) M (optC (vw m) lo) k with
            | none => rfl
            | some x =>
              have := (scanP_s _ hs).1
              rw [hs] at q3
              have q3 : nI x < 0 := q3
              rw [lt_i, nI_toInt (by omega), e0] at q3
              omega
          (conv => whnf)
          exact And.intro rfl (take (by rw [eS, hn]) _)
        have q3 : ¬ optI (scanP (vw m) M (optC (vw m) lo) k) < 0 := q3
        obtain ⟨x, hs⟩ : ∃ x, scanP (vw m) M (optC (vw m) lo) k = some x := by
          cases hs : scanP (vw m) M (optC (vw m) lo) k with
          | none =>
            rw [hs] at q3
            exact absurd (show optI none < 0 by decide) q3
          | some x => exact ⟨x, rfl⟩
        have hx := (scanP_s _ hs).1
        rw [hs] at eS keep ⊢
        have eS : scanP (vw m) M (optC (vw m) lo) (k + 1) = if keyP (vw m) k < keyP (vw m) x then some k else some x := eS
        (conv => whnf)
        refine ⟨1, by decide, _, r_before_336 h hk (show x < (vw m).1 3 by omega), ?_⟩
        rintro r m' ⟨hmm, hr⟩; have hmm := hmm.symm; subst hmm
        (conv => whnf)
        refine And.intro (fun q4 => ?_) (fun q4 => ?_)
        · have hr : ¬ keyP (vw m) k < keyP (vw m) x := by
            rcases hr with ⟨y1, y2⟩ | ⟨y1, y2⟩
            · rw [y2] at q4; exact absurd q4 (by decide)
            · exact y1
          (conv => whnf)
          exact And.intro rfl (keep (by rw [eS, if_neg hr]) _)
        · have hr : keyP (vw m) k < keyP (vw m) x := by
            rcases hr with ⟨y1, y2⟩ | ⟨y1, y2⟩
            · exact y1
            · exact absurd y2 q4
          (conv => whnf)
          exact And.intro rfl (take (by rw [eS, if_pos hr]) _)
      refine At.ls okNo336 60 ⟨_, _, rfl⟩ ?_
      (conv => whnf)
      refine And.intro (fun q => ?_) (fun q => ?_)
      · have q : gI m 452 7 ≤ nI k := q
        rw [le_i, nI_toInt (by omega)] at q
        omega
      (conv => whnf)
      refine And.intro (fun q => ?_) (fun q => ?_)
      · have q : optI lo < 0 := q
        (conv => whnf)
        refine And.intro rfl (body 1 (Or.inl ⟨?_, rfl⟩))
        cases lo with
        | none => exact Nat.zero_le _
        | some l =>
          have := hl l rfl
          have q : nI l < 0 := q
          rw [lt_i, nI_toInt (by omega), e0] at q
          omega
      · have q : ¬ optI lo < 0 := q
        cases lo with
        | none => exact absurd (show optI none < 0 by decide) q
        | some l =>
          have hl := hl l rfl
          (conv => whnf)
          refine ⟨1, by decide, _, r_before_336 h hl hk, ?_⟩
          rintro r m' ⟨hmm, hr⟩; have hmm := hmm.symm; subst hmm
          (conv => whnf)
          refine And.intro (fun q4 => ?_) (fun q4 => ?_)
          · rcases hr with ⟨y1, y2⟩ | ⟨y1, y2⟩
            · rw [y2] at q4; exact absurd q4 (by decide)
            · (conv => whnf)
              exact And.intro rfl (body 0 (Or.inr ⟨y1, rfl⟩))
          · rcases hr with ⟨y1, y2⟩ | ⟨y1, y2⟩
            · (conv => whnf)
              exact And.intro rfl (body 1 (Or.inl ⟨y1, rfl⟩))
            · exact absurd y2 q4
  refine At.gs okNo336 60 ?_
  (conv => whnf)
  exact And.intro rfl (lp _ 0 _ (Nat.zero_add _))
set_option maxRecDepth 100000 in
set_option maxHeartbeats 8000000 in
theorem r_gapsOf_336 (hM : Mok TYg m) (h : SB 336 m) : CI 3 mX4_gapsOf [.ref 452, .int M] m (fun r m' => m' = m ∧ r = nI (lacN (vw m) M)) := by
  have hW := h.2.2.2.2.2
  have h40 := hW.1.2.2.2
  have cs : (gI m 452 7).toInt = (vw m).1 3 := by
    have e2 : gI m 452 7 = gI m 1175 6 := h.1 3 (by decide)
    rw [e2]; exact vw3 hM
  have e0 : (0 : Int32).toInt = 0 := rfl
  have lp : ∀ (n t a : Nat) (lo : Option Nat) (v5 : Value), t + n = (vw m).1 3 → (∀ l, lo = some l → l < (vw m).1 3) → a + (match lo with
      | none => 0
      | some l => gapF (vw m) M n l) = lacN (vw m) M → At (E0 3) mX4_gapsOf (qi (fun r m' => m' = m ∧ r = nI (lacN (vw m) M))) 12 [.ref 452, .int M, .int (nI a), .int (optI lo), .int (nI t), v5] [] m := by
    intro n
    induction n with
    | zero =>
      intro t a lo v5 hn hl ha
      have ha : a = lacN (vw m) M := by
        cases lo with
        | none => exact ha
        | some l => exact ha
      refine At.ls okX4_gapsOf 60 ⟨_, _, rfl⟩ ?_
      (conv => whnf)
      refine And.intro (fun q => ?_) (fun q => ?_)
      · exact ⟨rfl, by rw [ha]⟩
      · have q : ¬ gI m 452 7 ≤ nI t := q
        rw [le_i, nI_toInt (by omega)] at q
        omega
    | succ n ih =>
      intro t a lo v5 hn hl ha
      refine At.ls okX4_gapsOf 80 ⟨_, _, rfl⟩ ?_
      (conv => whnf)
      refine And.intro (fun q => ?_) (fun q => ?_)
      · have q : gI m 452 7 ≤ nI t := q
        rw [le_i, nI_toInt (by omega)] at q
        omega
      (conv => whnf)
      refine And.intro (fun q2 => ?_) (fun q2 => ?_)
      · have q2 : optI lo < 0 := q2
        cases lo with
        | none => exact ⟨rfl, by rw [← ha]; rfl⟩
        | some l =>
          have := hl l rfl
          have q2 : nI l < 0 := q2
          rw [lt_i, nI_toInt (by omega), e0] at q2
          omega
      · have q2 : ¬ optI lo < 0 := q2
        cases lo with
        | none => exact absurd (show optI none < 0 by decide) q2
        | some l =>
          have hl1 := hl l rfl
          have ha : a + (match scanP (vw m) M (keyP (vw m) l + 1) ((vw m).1 3) with
            | none => 0
            | some x => gapP (vw m) x l + gapF (vw m) M n x) = lacN (vw m) M := ha
          (conv => whnf)
          refine ⟨2, by decide, _, r_nextOf_336 (M := M) (lo := some l) hM h hl, ?_⟩
          rintro r m' ⟨hmm, hr⟩; have hmm := hmm.symm; subst hmm
          have hr : r = optI (scanP (vw m) M (keyP (vw m) l + 1) ((vw m).1 3)) := hr
          cases hs : scanP (vw m) M (keyP (vw m) l + 1) ((vw m).1 3) with
          | none =>
            rw [hs] at hr ha
            subst hr
            (conv => whnf)
            refine And.intro (fun _ => ?_) (fun z => absurd (show optI none < 0 by decide) z)
            (conv => whnf)
            refine And.intro rfl ?_
            show At (E0 3) mX4_gapsOf _ 12 [.ref 452, .int M, .int (nI a), .int (optI none), .int (nI t + 1), .int (optI none)] [] m
            rw [nI_1]
            exact ih (t + 1) a none _ (by omega) (fun l hl => by cases hl) ha
          | some x =>
            rw [hs] at hr ha
            have hx := (scanP_s _ hs).1
            subst hr
            have c10 : gI m 164312 (nI x).toNatClampNeg = (vw m).2 10 x := by rw [nI_clamp (by omega)]; exact h.2.1 10 (by decide) (by decide) x hx
            have c11 : gI m 164328 (nI l).toNatClampNeg = (vw m).2 11 l := by rw [nI_clamp (by omega)]; exact h.2.1 11 (by decide) (by decide) l hl1
            have ha : a + (gapP (vw m) x l + gapF (vw m) M n x) = lacN (vw m) M := ha
            (conv => whnf)
            refine And.intro (fun z => ?_) (fun _ => ?_)
            · have z : nI x < 0 := z
              rw [lt_i, nI_toInt (by omega), e0] at z
              omega
            (conv => whnf)
            refine And.intro (show vp_in (nI x) 40 from vp_in_nI (by omega) (by decide)) ?_
            (conv => whnf)
            refine And.intro (show vp_in (nI l) 40 from vp_in_nI (by omega) (by decide)) ?_
            (conv => whnf)
            refine And.intro (fun z => ?_) (fun z => ?_)
            · have z : gI m 164312 (nI x).toNatClampNeg = gI m 164328 (nI l).toNatClampNeg := z
              rw [c10, c11] at z
              (conv => whnf)
              refine And.intro rfl ?_
              show At (E0 3) mX4_gapsOf _ 12 [.ref 452, .int M, .int (nI a), .int (optI (some x)), .int (nI t + 1), .int (optI (some x))] [] m
              rw [nI_1]
              refine ih (t + 1) a (some x) _ (by omega) (fun l hl => by cases hl; exact hx) ?_
              show a + gapF (vw m) M n x = _
              unfold gapP at ha
              rw [if_pos z] at ha
              omega
            · have z : ¬ gI m 164312 (nI x).toNatClampNeg = gI m 164328 (nI l).toNatClampNeg := z
              rw [c10, c11] at z
              (conv => whnf)
              refine And.intro rfl ?_
              show At (E0 3) mX4_gapsOf _ 12 [.ref 452, .int M, .int (nI a + 1), .int (optI (some x)), .int (nI t + 1), .int (optI (some x))] [] m
              rw [nI_1, nI_1]
              refine ih (t + 1) (a + 1) (some x) _ (by omega) (fun l hl => by cases hl; exact hx) ?_
              show a + 1 + gapF (vw m) M n x = _
              unfold gapP at ha
              rw [if_neg z] at ha
              omega
  refine At.gs okX4_gapsOf 60 ?_
  (conv => whnf)
  refine ⟨2, by decide, _, r_nextOf_336 (M := M) (lo := none) hM h (fun l hl => by cases hl), ?_⟩
  rintro r m' ⟨hmm, hr⟩; have hmm := hmm.symm; subst hmm
  subst hr
  (conv => whnf)
  refine And.intro rfl (lp _ 0 0 _ _ (Nat.zero_add _) (fun l hl => (scanP_s _ hl).1) ?_)
  rw [Nat.zero_add]
  show _ = (match scanP (vw m) M 0 ((vw m).1 3) with
    | none => 0
    | some x => gapF (vw m) M ((vw m).1 3) x)
  rfl
set_option maxRecDepth 100000 in
set_option maxHeartbeats 4000000 in
theorem r_lacking_336 (hM : Mok TYg m) (h : SB 336 m) (hc : m.2.2 = (336, 720)) : CI 4 mX6_lacking [.ref 6, .int M] m (fun r m' => m' = m ∧ r = lacP (vw m) M) := by
  obtain ⟨f, g, c⟩ := m
  obtain rfl : c = (336, 720) := hc
  have e1 : (1 : Int32).toInt = 1 := rfl
  have e99 : (99 : Int32).toInt = 99 := rfl
  refine At.gs okX6_lacking 60 ?_
  (conv => whnf)
  refine ⟨1, by decide, _, r_within, ?_⟩
  rintro r m' ⟨hmm, hr⟩; have hmm := hmm.symm; subst hmm
  rw [e1, e99] at hr
  (conv => whnf)
  refine And.intro (fun q => ?_) (fun q => ?_)
  · rcases hr with ⟨y1, y2⟩ | ⟨y1, y2⟩
    · (conv => whnf)
      refine ⟨3, by decide, _, r_gapsOf_336 hM h, ?_⟩
      rintro r m' ⟨hmm, hr⟩; have hmm := hmm.symm; subst hmm
      refine ⟨rfl, ?_⟩
      unfold lacP
      rw [if_pos y1]
      exact hr
    · exact absurd y2 q
  · rcases hr with ⟨y1, y2⟩ | ⟨y1, y2⟩
    · rw [y2] at q; exact absurd q (by decide)
    · refine ⟨rfl, ?_⟩
      unfold lacP
      rw [if_neg y1]
end Lk336
section Lk720
variable {m : MM} {M : Int32}
set_option maxRecDepth 100000 in
theorem r_before_720 {a b : Nat} (h : SB 720 m) (ha : a < (vw m).1 3) (hb : b < (vw m).1 3) : CI 1 mX4_isBefore [.ref 836, .int (nI a), .int (nI b)] m (fun r m' => m' = m ∧ z1 (keyP (vw m) a < keyP (vw m) b) r) := by
  have hW := h.2.2.2.2.2
  have h40 := hW.1.2.2.2
  obtain ⟨da, da1, da2, da3⟩ := dayN hW ha
  obtain ⟨db, db1, db2, db3⟩ := dayN hW hb
  have va : vp_in (nI a) 40 := vp_in_nI (by omega) (by decide)
  have vb : vp_in (nI b) 40 := vp_in_nI (by omega) (by decide)
  have ca : gI m 164776 (nI a).toNatClampNeg = nI da := by rw [nI_clamp (by omega), ← da2]; exact h.2.1 15 (by decide) (by decide) a ha
  have cb : gI m 164776 (nI b).toNatClampNeg = nI db := by rw [nI_clamp (by omega), ← db2]; exact h.2.1 15 (by decide) (by decide) b hb
  have ka : keyP (vw m) a = da * 64 + a := by unfold keyP; rw [da3]
  have kb : keyP (vw m) b = db * 64 + b := by unfold keyP; rw [db3]
  rw [ka, kb]
  refine At.gs okX4_isBefore 60 ?_
  (conv => whnf)
  refine And.intro va ?_
  (conv => whnf)
  refine And.intro vb ?_
  (conv => whnf)
  refine And.intro (fun q => ?_) (fun q => ?_)
  · have q : gI m 164776 (nI a).toNatClampNeg = gI m 164776 (nI b).toNatClampNeg := q
    rw [ca, cb] at q
    have q := nI_inj (by omega) (by omega) q
    (conv => whnf)
    refine And.intro (fun q2 => ?_) (fun q2 => ?_)
    · rw [le_i, nI_toInt (by omega), nI_toInt (by omega)] at q2
      exact ⟨Or.inl rfl, rfl, Or.inr ⟨by omega, rfl⟩⟩
    · rw [le_i, nI_toInt (by omega), nI_toInt (by omega)] at q2
      exact ⟨Or.inr rfl, rfl, Or.inl ⟨by omega, rfl⟩⟩
  · have q : ¬ gI m 164776 (nI a).toNatClampNeg = gI m 164776 (nI b).toNatClampNeg := q
    rw [ca, cb] at q
    have q : da ≠ db := fun z => q (by rw [z])
    (conv => whnf)
    refine And.intro va ?_
    (conv => whnf)
    refine And.intro vb ?_
    (conv => whnf)
    refine And.intro (fun q2 => ?_) (fun q2 => ?_)
    · have q2 : gI m 164776 (nI b).toNatClampNeg ≤ gI m 164776 (nI a).toNatClampNeg := q2
      rw [ca, cb, le_i, nI_toInt (by omega), nI_toInt (by omega)] at q2
      exact ⟨Or.inl rfl, rfl, Or.inr ⟨by omega, rfl⟩⟩
    · have q2 : ¬ gI m 164776 (nI b).toNatClampNeg ≤ gI m 164776 (nI a).toNatClampNeg := q2
      rw [ca, cb, le_i, nI_toInt (by omega), nI_toInt (by omega)] at q2
      exact ⟨Or.inr rfl, rfl, Or.inl ⟨by omega, rfl⟩⟩
def cdNo720 : List CE := stops [33] cdX4_nextOf
theorem okNo720 : CodeOk mX4_nextOf cdNo720 := okX4_nextOf.st [33] (by rfl)
set_option maxRecDepth 100000 in
set_option maxHeartbeats 8000000 in
theorem r_nextOf_720 {lo : Option Nat} (hM : Mok TYg m) (h : SB 720 m) (hl : ∀ l, lo = some l → l < (vw m).1 3) : CI 2 mX4_nextOf [.ref 836, .int M, .int (optI lo)] m (fun r m' => m' = m ∧ r = optI (scanP (vw m) M (optC (vw m) lo) ((vw m).1 3))) := by
  have hW := h.2.2.2.2.2
  have h40 := hW.1.2.2.2
  have cs : (gI m 836 7).toInt = (vw m).1 3 := by
    have e2 : gI m 836 7 = gI m 1175 6 := h.1 3 (by decide)
    rw [e2]; exact vw3 hM
  have e0 : (0 : Int32).toInt = 0 := rfl
  have em : (-1 : Int32).toInt = -1 := rfl
  have lp : ∀ (n k : Nat) (v5 : Value), k + n = (vw m).1 3 → At (E0 2) mX4_nextOf (qi (fun r m' => m' = m ∧ r = optI (scanP (vw m) M (optC (vw m) lo) ((vw m).1 3)))) 5 [.ref 836, .int M, .int (optI lo), .int (optI (scanP (vw m) M (optC (vw m) lo) k)), .int (nI k), v5] [] m := by
    intro n
    induction n with
    | zero =>
      intro k v5 hn
      obtain rfl : k = (vw m).1 3 := by omega
      refine At.ls okNo720 60 ⟨_, _, rfl⟩ ?_
      (conv => whnf)
      refine And.intro (fun q => ?_) (fun q => ?_)
      · exact ⟨rfl, rfl⟩
      · have q : ¬ gI m 836 7 ≤ nI ((vw m).1 3) := q
        rw [le_i, nI_toInt (by omega)] at q
        omega
    | succ n ih =>
      intro k v5 hn
      have hk : k < (vw m).1 3 := by omega
      have c16 : gI m 164792 (nI k).toNatClampNeg = (vw m).2 16 k := by rw [nI_clamp (by omega)]; exact h.2.1 16 (by decide) (by decide) k hk
      have vk : vp_in (nI k) 40 := vp_in_nI (by omega) (by decide)
      have eS : scanP (vw m) M (optC (vw m) lo) (k + 1) = if (vw m).2 16 k = M ∧ optC (vw m) lo ≤ keyP (vw m) k then (match scanP (vw m) M (optC (vw m) lo) k with
        | none => some k
        | some x => if keyP (vw m) k < keyP (vw m) x then some k else some x) else scanP (vw m) M (optC (vw m) lo) k := rfl
      have keep : scanP (vw m) M (optC (vw m) lo) (k + 1) = scanP (vw m) M (optC (vw m) lo) k → ∀ v, At (E0 2) mX4_nextOf (qi (fun r m' => m' = m ∧ r = optI (scanP (vw m) M (optC (vw m) lo) ((vw m).1 3)))) 5 [.ref 836, .int M, .int (optI lo), .int (optI (scanP (vw m) M (optC (vw m) lo) k)), .int (nI k + 1), v] [] m := fun z v => by
        have y := ih (k + 1) v (by omega)
        rw [z] at y
        rw [nI_1]
        exact y
      have take : scanP (vw m) M (optC (vw m) lo) (k + 1) = some k → ∀ v, At (E0 2) mX4_nextOf (qi (fun r m' => m' = m ∧ r = optI (scanP (vw m) M (optC (vw m) lo) ((vw m).1 3)))) 5 [.ref 836, .int M, .int (optI lo), .int (nI k), .int (nI k + 1), v] [] m := fun z v => by
        have y := ih (k + 1) v (by omega)
        rw [z] at y
        rw [nI_1]
        exact y
      have body : ∀ b : Int32, z1 (optC (vw m) lo ≤ keyP (vw m) k) b → At (E0 2) mX4_nextOf (qi (fun r m' => m' = m ∧ r = optI (scanP (vw m) M (optC (vw m) lo) ((vw m).1 3)))) 33 [.ref 836, .int M, .int (optI lo), .int (optI (scanP (vw m) M (optC (vw m) lo) k)), .int (nI k), v5] [.int b] m := by
        intro b hb
        refine At.ls okNo720 60 ⟨_, _, rfl⟩ ?_
        (conv => whnf)
        refine And.intro vk ?_
        (conv => whnf)
        refine And.intro (fun q => ?_) (fun q => ?_)
        · have q : ¬ gI m 164792 (nI k).toNatClampNeg = M := q
          rw [c16] at q
          (conv => whnf)
          exact And.intro rfl (keep (by rw [eS, if_neg (fun z => q z.1)]) _)
        have q : gI m 164792 (nI k).toNatClampNeg = M := q
        rw [c16] at q
        (conv => whnf)
        refine And.intro (fun q2 => ?_) (fun q2 => ?_)
        · have hb : ¬ optC (vw m) lo ≤ keyP (vw m) k := by
            rcases hb with ⟨y1, y2⟩ | ⟨y1, y2⟩
            · rw [y2] at q2; exact absurd q2 (by decide)
            · exact y1
          (conv => whnf)
          exact And.intro rfl (keep (by rw [eS, if_neg (fun z => hb z.2)]) _)
        have hb : optC (vw m) lo ≤ keyP (vw m) k := by
          rcases hb with ⟨y1, y2⟩ | ⟨y1, y2⟩
          · exact y1
          · exact absurd y2 q2
        rw [if_pos ⟨q, hb⟩] at eS
        (conv => whnf)
        refine And.intro (fun q3 => ?_) (fun q3 => ?_)
        · have q3 : optI (scanP (vw m) M (optC (vw m) lo) k) < 0 := q3
          have hn : scanP (vw m) M (optC (vw m) lo) k = none := by
            cases hs : scanP (vw m) M (optC (vw m) lo) k with
            | none => rfl
            | some x =>
              have := (scanP_s _ hs).1
              rw [hs] at q3
              have q3 : nI x < 0 := q3
              rw [lt_i, nI_toInt (by omega), e0] at q3
              omega
          (conv => whnf)
          exact And.intro rfl (take (by rw [eS, hn]) _)
        have q3 : ¬ optI (scanP (vw m) M (optC (vw m) lo) k) < 0 := q3
        obtain ⟨x, hs⟩ : ∃ x, scanP (vw m) M (optC (vw m) lo) k = some x := by
          cases hs : scanP (vw m) M (optC (vw m) lo) k with
          | none =>
            rw [hs] at q3
            exact absurd (show optI none < 0 by decide) q3
          | some x => exact ⟨x, rfl⟩
        have hx := (scanP_s _ hs).1
        rw [hs] at eS keep ⊢
        have eS : scanP (vw m) M (optC (vw m) lo) (k + 1) = if keyP (vw m) k < keyP (vw m) x then some k else some x := eS
        (conv => whnf)
        refine ⟨1, by decide, _, r_before_720 h hk (show x < (vw m).1 3 by omega), ?_⟩
        rintro r m' ⟨hmm, hr⟩; have hmm := hmm.symm; subst hmm
        (conv => whnf)
        refine And.intro (fun q4 => ?_) (fun q4 => ?_)
        · have hr : ¬ keyP (vw m) k < keyP (vw m) x := by
            rcases hr with ⟨y1, y2⟩ | ⟨y1, y2⟩
            · rw [y2] at q4; exact absurd q4 (by decide)
            · exact y1
          (conv => whnf)
          exact And.intro rfl (keep (by rw [eS, if_neg hr]) _)
        · have hr : keyP (vw m) k < keyP (vw m) x := by
            rcases hr with ⟨y1, y2⟩ | ⟨y1, y2⟩
            · exact y1
            · exact absurd y2 q4
          (conv => whnf)
          exact And.intro rfl (take (by rw [eS, if_pos hr]) _)
      refine At.ls okNo720 60 ⟨_, _, rfl⟩ ?_
      (conv => whnf)
      refine And.intro (fun q => ?_) (fun q => ?_)
      · have q : gI m 836 7 ≤ nI k := q
        rw [le_i, nI_toInt (by omega)] at q
        omega
      (conv => whnf)
      refine And.intro (fun q => ?_) (fun q => ?_)
      · have q : optI lo < 0 := q
        (conv => whnf)
        refine And.intro rfl (body 1 (Or.inl ⟨?_, rfl⟩))
        cases lo with
        | none => exact Nat.zero_le _
        | some l =>
          have := hl l rfl
          have q : nI l < 0 := q
          rw [lt_i, nI_toInt (by omega), e0] at q
          omega
      · have q : ¬ optI lo < 0 := q
        cases lo with
        | none => exact absurd (show optI none < 0 by decide) q
        | some l =>
          have hl := hl l rfl
          (conv => whnf)
          refine ⟨1, by decide, _, r_before_720 h hl hk, ?_⟩
          rintro r m' ⟨hmm, hr⟩; have hmm := hmm.symm; subst hmm
          (conv => whnf)
          refine And.intro (fun q4 => ?_) (fun q4 => ?_)
          · rcases hr with ⟨y1, y2⟩ | ⟨y1, y2⟩
            · rw [y2] at q4; exact absurd q4 (by decide)
            · (conv => whnf)
              exact And.intro rfl (body 0 (Or.inr ⟨y1, rfl⟩))
          · rcases hr with ⟨y1, y2⟩ | ⟨y1, y2⟩
            · (conv => whnf)
              exact And.intro rfl (body 1 (Or.inl ⟨y1, rfl⟩))
            · exact absurd y2 q4
  refine At.gs okNo720 60 ?_
  (conv => whnf)
  exact And.intro rfl (lp _ 0 _ (Nat.zero_add _))
set_option maxRecDepth 100000 in
set_option maxHeartbeats 8000000 in
theorem r_gapsOf_720 (hM : Mok TYg m) (h : SB 720 m) : CI 3 mX4_gapsOf [.ref 836, .int M] m (fun r m' => m' = m ∧ r = nI (lacN (vw m) M)) := by
  have hW := h.2.2.2.2.2
  have h40 := hW.1.2.2.2
  have cs : (gI m 836 7).toInt = (vw m).1 3 := by
    have e2 : gI m 836 7 = gI m 1175 6 := h.1 3 (by decide)
    rw [e2]; exact vw3 hM
  have e0 : (0 : Int32).toInt = 0 := rfl
  have lp : ∀ (n t a : Nat) (lo : Option Nat) (v5 : Value), t + n = (vw m).1 3 → (∀ l, lo = some l → l < (vw m).1 3) → a + (match lo with
      | none => 0
      | some l => gapF (vw m) M n l) = lacN (vw m) M → At (E0 3) mX4_gapsOf (qi (fun r m' => m' = m ∧ r = nI (lacN (vw m) M))) 12 [.ref 836, .int M, .int (nI a), .int (optI lo), .int (nI t), v5] [] m := by
    intro n
    induction n with
    | zero =>
      intro t a lo v5 hn hl ha
      have ha : a = lacN (vw m) M := by
        cases lo with
        | none => exact ha
        | some l => exact ha
      refine At.ls okX4_gapsOf 60 ⟨_, _, rfl⟩ ?_
      (conv => whnf)
      refine And.intro (fun q => ?_) (fun q => ?_)
      · exact ⟨rfl, by rw [ha]⟩
      · have q : ¬ gI m 836 7 ≤ nI t := q
        rw [le_i, nI_toInt (by omega)] at q
        omega
    | succ n ih =>
      intro t a lo v5 hn hl ha
      refine At.ls okX4_gapsOf 80 ⟨_, _, rfl⟩ ?_
      (conv => whnf)
      refine And.intro (fun q => ?_) (fun q => ?_)
      · have q : gI m 836 7 ≤ nI t := q
        rw [le_i, nI_toInt (by omega)] at q
        omega
      (conv => whnf)
      refine And.intro (fun q2 => ?_) (fun q2 => ?_)
      · have q2 : optI lo < 0 := q2
        cases lo with
        | none => exact ⟨rfl, by rw [← ha]; rfl⟩
        | some l =>
          have := hl l rfl
          have q2 : nI l < 0 := q2
          rw [lt_i, nI_toInt (by omega), e0] at q2
          omega
      · have q2 : ¬ optI lo < 0 := q2
        cases lo with
        | none => exact absurd (show optI none < 0 by decide) q2
        | some l =>
          have hl1 := hl l rfl
          have ha : a + (match scanP (vw m) M (keyP (vw m) l + 1) ((vw m).1 3) with
            | none => 0
            | some x => gapP (vw m) x l + gapF (vw m) M n x) = lacN (vw m) M := ha
          (conv => whnf)
          refine ⟨2, by decide, _, r_nextOf_720 (M := M) (lo := some l) hM h hl, ?_⟩
          rintro r m' ⟨hmm, hr⟩; have hmm := hmm.symm; subst hmm
          have hr : r = optI (scanP (vw m) M (keyP (vw m) l + 1) ((vw m).1 3)) := hr
          cases hs : scanP (vw m) M (keyP (vw m) l + 1) ((vw m).1 3) with
          | none =>
            rw [hs] at hr ha
            subst hr
            (conv => whnf)
            refine And.intro (fun _ => ?_) (fun z => absurd (show optI none < 0 by decide) z)
            (conv => whnf)
            refine And.intro rfl ?_
            show At (E0 3) mX4_gapsOf _ 12 [.ref 836, .int M, .int (nI a), .int (optI none), .int (nI t + 1), .int (optI none)] [] m
            rw [nI_1]
            exact ih (t + 1) a none _ (by omega) (fun l hl => by cases hl) ha
          | some x =>
            rw [hs] at hr ha
            have hx := (scanP_s _ hs).1
            subst hr
            have c10 : gI m 164696 (nI x).toNatClampNeg = (vw m).2 10 x := by rw [nI_clamp (by omega)]; exact h.2.1 10 (by decide) (by decide) x hx
            have c11 : gI m 164712 (nI l).toNatClampNeg = (vw m).2 11 l := by rw [nI_clamp (by omega)]; exact h.2.1 11 (by decide) (by decide) l hl1
            have ha : a + (gapP (vw m) x l + gapF (vw m) M n x) = lacN (vw m) M := ha
            (conv => whnf)
            refine And.intro (fun z => ?_) (fun _ => ?_)
            · have z : nI x < 0 := z
              rw [lt_i, nI_toInt (by omega), e0] at z
              omega
            (conv => whnf)
            refine And.intro (show vp_in (nI x) 40 from vp_in_nI (by omega) (by decide)) ?_
            (conv => whnf)
            refine And.intro (show vp_in (nI l) 40 from vp_in_nI (by omega) (by decide)) ?_
            (conv => whnf)
            refine And.intro (fun z => ?_) (fun z => ?_)
            · have z : gI m 164696 (nI x).toNatClampNeg = gI m 164712 (nI l).toNatClampNeg := z
              rw [c10, c11] at z
              (conv => whnf)
              refine And.intro rfl ?_
              show At (E0 3) mX4_gapsOf _ 12 [.ref 836, .int M, .int (nI a), .int (optI (some x)), .int (nI t + 1), .int (optI (some x))] [] m
              rw [nI_1]
              refine ih (t + 1) a (some x) _ (by omega) (fun l hl => by cases hl; exact hx) ?_
              show a + gapF (vw m) M n x = _
              unfold gapP at ha
              rw [if_pos z] at ha
              omega
            · have z : ¬ gI m 164696 (nI x).toNatClampNeg = gI m 164712 (nI l).toNatClampNeg := z
              rw [c10, c11] at z
              (conv => whnf)
              refine And.intro rfl ?_
              show At (E0 3) mX4_gapsOf _ 12 [.ref 836, .int M, .int (nI a + 1), .int (optI (some x)), .int (nI t + 1), .int (optI (some x))] [] m
              rw [nI_1, nI_1]
              refine ih (t + 1) (a + 1) (some x) _ (by omega) (fun l hl => by cases hl; exact hx) ?_
              show a + 1 + gapF (vw m) M n x = _
              unfold gapP at ha
              rw [if_neg z] at ha
              omega
  refine At.gs okX4_gapsOf 60 ?_
  (conv => whnf)
  refine ⟨2, by decide, _, r_nextOf_720 (M := M) (lo := none) hM h (fun l hl => by cases hl), ?_⟩
  rintro r m' ⟨hmm, hr⟩; have hmm := hmm.symm; subst hmm
  subst hr
  (conv => whnf)
  refine And.intro rfl (lp _ 0 0 _ _ (Nat.zero_add _) (fun l hl => (scanP_s _ hl).1) ?_)
  rw [Nat.zero_add]
  show _ = (match scanP (vw m) M 0 ((vw m).1 3) with
    | none => 0
    | some x => gapF (vw m) M ((vw m).1 3) x)
  rfl
set_option maxRecDepth 100000 in
set_option maxHeartbeats 4000000 in
theorem r_lacking_720 (hM : Mok TYg m) (h : SB 720 m) (hc : m.2.2 = (720, 336)) : CI 4 mX6_lacking [.ref 6, .int M] m (fun r m' => m' = m ∧ r = lacP (vw m) M) := by
  obtain ⟨f, g, c⟩ := m
  obtain rfl : c = (720, 336) := hc
  have e1 : (1 : Int32).toInt = 1 := rfl
  have e99 : (99 : Int32).toInt = 99 := rfl
  refine At.gs okX6_lacking 60 ?_
  (conv => whnf)
  refine ⟨1, by decide, _, r_within, ?_⟩
  rintro r m' ⟨hmm, hr⟩; have hmm := hmm.symm; subst hmm
  rw [e1, e99] at hr
  (conv => whnf)
  refine And.intro (fun q => ?_) (fun q => ?_)
  · rcases hr with ⟨y1, y2⟩ | ⟨y1, y2⟩
    · (conv => whnf)
      refine ⟨3, by decide, _, r_gapsOf_720 hM h, ?_⟩
      rintro r m' ⟨hmm, hr⟩; have hmm := hmm.symm; subst hmm
      refine ⟨rfl, ?_⟩
      unfold lacP
      rw [if_pos y1]
      exact hr
    · exact absurd y2 q
  · rcases hr with ⟨y1, y2⟩ | ⟨y1, y2⟩
    · rw [y2] at q; exact absurd q (by decide)
    · refine ⟨rfl, ?_⟩
      unfold lacP
      rw [if_neg y1]
end Lk720
/-! lacking of the model -/
section LkM
variable {m : MM} {M : Int32}
def gapO (V : VW) (s : Nat) (o : Option Nat) : Nat := match o with
  | none => 0
  | some l => gapP V s l
theorem gapX_s {V : VW} {o : Option Nat} {s : Nat} (hn : V.1 3 ≤ 64) (h : scanP V M (optC V o) (V.1 3) = some s) : gapX V M (V.1 3) o = gapO V s o + gapX V M (V.1 3) (some s) := by
  cases o with
  | none =>
    have h : scanP V M 0 (V.1 3) = some s := h
    show (match scanP V M 0 (V.1 3) with
      | none => 0
      | some x => gapF V M (V.1 3) x) = 0 + gapF V M (V.1 3) s
    rw [h, Nat.zero_add]
  | some l =>
    have h : scanP V M (keyP V l + 1) (V.1 3) = some s := h
    have e1 : gapX V M (V.1 3) (some l) = gapX V M (V.1 3 + 1) (some l) := (gapX_irr hn (Nat.le_succ _) (some l)).symm
    rw [e1]
    show (match scanP V M (keyP V l + 1) (V.1 3) with
      | none => 0
      | some x => gapP V x l + gapF V M (V.1 3) x) = gapP V s l + gapF V M (V.1 3) s
    rw [h]
theorem gapX_n {V : VW} {o : Option Nat} (hn : V.1 3 ≤ 64) (h : scanP V M (optC V o) (V.1 3) = none) : gapX V M (V.1 3) o = 0 := by
  cases o with
  | none =>
    have h : scanP V M 0 (V.1 3) = none := h
    show (match scanP V M 0 (V.1 3) with
      | none => 0
      | some x => gapF V M (V.1 3) x) = 0
    rw [h]
  | some l =>
    have h : scanP V M (keyP V l + 1) (V.1 3) = none := h
    have e1 : gapX V M (V.1 3) (some l) = gapX V M (V.1 3 + 1) (some l) := (gapX_irr hn (Nat.le_succ _) (some l)).symm
    rw [e1]
    show (match scanP V M (keyP V l + 1) (V.1 3) with
      | none => 0
      | some x => gapP V x l + gapF V M (V.1 3) x) = 0
    rw [h]
/-- all that is marked ahead of place p is behind: not beyond the last one -/
def LkI (V : VW) (M : Int32) (p : Nat) (o : Option Nat) : Prop := optC V o ≤ p ∧ (∀ l, o = some l → l < V.1 3) ∧ ∀ s, s < V.1 3 → V.2 16 s = M → keyP V s < p → keyP V s < optC V o
def LkQ (m : MM) (M : Int32) : QQ := qi (fun r m' => m' = sI m 1175 0 0 ∧ r = lacP (vw m) M)
def LkF (V : VW) (M : Int32) (a : Nat) (o : Option Nat) : Prop := a + gapX V M (V.1 3) o = lacN V M
set_option maxRecDepth 100000 in
set_option maxHeartbeats 8000000 in
theorem lk36 (hM : Mok TYg m) (hW : Wf (vw m)) {d : Nat} (hd : d ≤ 400) (K : ∀ (a : Nat) (o : Option Nat) (v5 : Value), LkI (vw m) M ((d + 1) * 64) o → LkF (vw m) M a o → At (E0 1) mX7_lacking (LkQ m M) 25 [.ref 1175, .int M, .int (nI a), .int (optI o), .int (nI (d + 1)), v5] [] (sI m 1175 0 0)) : ∀ (n s a : Nat) (o : Option Nat), s + n = (vw m).1 3 → LkI (vw m) M (d * 64 + s) o → LkF (vw m) M a o → At (E0 1) mX7_lacking (LkQ m M) 36 [.ref 1175, .int M, .int (nI a), .int (optI o), .int (nI d), .int (nI s)] [] (sI m 1175 0 0) := by
  have h40 := hW.1.2.2.2
  have c6 := vw3 hM
  intro n
  induction n with
  | zero =>
    intro s a o hs hI hF
    refine At.ls okX7_lacking 60 ⟨_, _, rfl⟩ ?_
    (conv => whnf)
    refine And.intro (fun q => ?_) (fun q => ?_)
    · (conv => whnf)
      refine And.intro rfl ?_
      show At (E0 1) mX7_lacking (LkQ m M) 25 [.ref 1175, .int M, .int (nI a), .int (optI o), .int (nI d + 1), .int (nI s)] [] (sI m 1175 0 0)
      rw [nI_1]
      refine K a o _ ⟨by have := hI.1; omega, hI.2.1, fun x hx hm hk => ?_⟩ hF
      by_cases z : keyP (vw m) x < d * 64 + s
      · exact hI.2.2 x hx hm z
      · unfold keyP at z hk
        omega
    · have q : ¬ gI m 1175 6 ≤ nI s := q
      rw [le_i, nI_toInt (by omega)] at q
      omega
  | succ n ih =>
    intro s a o hs hI hF
    have hlt : s < (vw m).1 3 := by omega
    obtain ⟨ds, ds1, ds2, ds3⟩ := dayN hW hlt
    have vs : vp_in (nI s) 80 := vp_in_nI (by omega) (by decide)
    have c15 : gI m 329128 (nI s).toNatClampNeg = nI ds := by rw [nI_clamp (by omega), ← ds2]; rfl
    have c16 : gI m 329144 (nI s).toNatClampNeg = (vw m).2 16 s := by rw [nI_clamp (by omega)]; rfl
    have ks : keyP (vw m) s = ds * 64 + s := by unfold keyP; rw [ds3]
    have skip : ¬ (ds = d ∧ (vw m).2 16 s = M) → At (E0 1) mX7_lacking (LkQ m M) 36 [.ref 1175, .int M, .int (nI a), .int (optI o), .int (nI d), .int (nI s + 1)] [] (sI m 1175 0 0) := fun z => by
      rw [nI_1]
      refine ih (s + 1) a o (by omega) ⟨by have := hI.1; omega, hI.2.1, fun x hx hm hk => ?_⟩ hF
      by_cases y : keyP (vw m) x < d * 64 + s
      · exact hI.2.2 x hx hm y
      · have hxs : x = s := by unfold keyP at y hk; omega
        subst hxs
        exact absurd ⟨by omega, hm⟩ z
    refine At.ls okX7_lacking 80 ⟨_, _, rfl⟩ ?_
    (conv => whnf)
    refine And.intro (fun q => ?_) (fun q => ?_)
    · have q : gI m 1175 6 ≤ nI s := q
      rw [le_i, nI_toInt (by omega)] at q
      omega
    (conv => whnf)
    refine And.intro vs ?_
    (conv => whnf)
    refine And.intro (fun q1 => ?_) (fun q1 => ?_)
    · have q1 : ¬ gI m 329128 (nI s).toNatClampNeg = nI d := q1
      rw [c15] at q1
      (conv => whnf)
      exact And.intro rfl (skip (fun z => q1 (by rw [z.1])))
    have q1 : gI m 329128 (nI s).toNatClampNeg = nI d := q1
    rw [c15] at q1
    have q1 : ds = d := nI_inj (by omega) (by omega) q1
    (conv => whnf)
    refine And.intro vs ?_
    (conv => whnf)
    refine And.intro (fun q2 => ?_) (fun q2 => ?_)
    case refine_2 =>
      have q2 : ¬ gI m 329144 (nI s).toNatClampNeg = M := q2
      rw [c16] at q2
      (conv => whnf)
      exact And.intro rfl (skip (fun z => q2 z.2))
    have q2 : gI m 329144 (nI s).toNatClampNeg = M := q2
    rw [c16] at q2
    have hsc : scanP (vw m) M (optC (vw m) o) ((vw m).1 3) = some s := by
      cases hz : scanP (vw m) M (optC (vw m) o) ((vw m).1 3) with
      | none =>
        have y1 := scanP_n _ hz s hlt q2
        have y2 := hI.1
        omega
      | some x =>
        obtain ⟨x1, x2, x3, x4⟩ := scanP_s _ hz
        have y1 := x4 s hlt q2 (by have := hI.1; omega)
        have y2 : ¬ keyP (vw m) x < d * 64 + s := fun z => by
          have := hI.2.2 x x1 x2 z
          omega
        rw [keyP_inj (V := vw m) (a := x) (b := s) (by omega) (by omega) (by omega)]
    have nI' : LkI (vw m) M (d * 64 + (s + 1)) (some s) := by
      refine ⟨?_, fun l hl => by cases hl; exact hlt, fun x hx hm hk => ?_⟩
      · show keyP (vw m) s + 1 ≤ _
        omega
      · show keyP (vw m) x < keyP (vw m) s + 1
        omega
    have hF2 : a + (gapO (vw m) s o + gapX (vw m) M ((vw m).1 3) (some s)) = lacN (vw m) M := by rw [← gapX_s (by omega) hsc]; exact hF
    cases o with
    | none =>
      (conv => whnf)
      refine And.intro (fun _ => ?_) (fun z => absurd rfl z)
      (conv => whnf)
      refine And.intro rfl ?_
      show At (E0 1) mX7_lacking (LkQ m M) 36 [.ref 1175, .int M, .int (nI a + 0), .int (optI (some s)), .int (nI d), .int (nI s + 1)] [] (sI m 1175 0 0)
      rw [nI_1, Int32.add_zero]
      refine ih (s + 1) a (some s) (by omega) nI' ?_
      have hF2 : a + (0 + gapX (vw m) M ((vw m).1 3) (some s)) = lacN (vw m) M := hF2
      rw [Nat.zero_add] at hF2
      exact hF2
    | some l =>
      have hl := hI.2.1 l rfl
      have vl : vp_in (nI l) 80 := vp_in_nI (by omega) (by decide)
      have c11 : gI m 329064 (nI l).toNatClampNeg = (vw m).2 11 l := by rw [nI_clamp (by omega)]; rfl
      have c10 : gI m 329048 (nI s).toNatClampNeg = (vw m).2 10 s := by rw [nI_clamp (by omega)]; rfl
      have hF2 : a + (gapP (vw m) s l + gapX (vw m) M ((vw m).1 3) (some s)) = lacN (vw m) M := hF2
      (conv => whnf)
      refine And.intro (fun z => ?_) (fun _ => ?_)
      · have z : nI l = -1 := z
        have := congrArg Int32.toInt z
        rw [nI_toInt (by omega)] at this
        have e : (-1 : Int32).toInt = -1 := rfl
        omega
      (conv => whnf)
      refine And.intro vl ?_
      (conv => whnf)
      refine And.intro vs ?_
      (conv => whnf)
      refine And.intro (fun q3 => ?_) (fun q3 => ?_)
      · have q3 : gI m 329064 (nI l).toNatClampNeg = gI m 329048 (nI s).toNatClampNeg := q3
        rw [c10, c11] at q3
        (conv => whnf)
        refine And.intro rfl ?_
        show At (E0 1) mX7_lacking (LkQ m M) 36 [.ref 1175, .int M, .int (nI a + 0), .int (optI (some s)), .int (nI d), .int (nI s + 1)] [] (sI m 1175 0 0)
        rw [nI_1, Int32.add_zero]
        refine ih (s + 1) a (some s) (by omega) nI' ?_
        unfold gapP at hF2
        rw [if_pos q3.symm, Nat.zero_add] at hF2
        exact hF2
      · have q3 : ¬ gI m 329064 (nI l).toNatClampNeg = gI m 329048 (nI s).toNatClampNeg := q3
        rw [c10, c11] at q3
        (conv => whnf)
        refine And.intro rfl ?_
        show At (E0 1) mX7_lacking (LkQ m M) 36 [.ref 1175, .int M, .int (nI a + 1), .int (optI (some s)), .int (nI d), .int (nI s + 1)] [] (sI m 1175 0 0)
        rw [nI_1, nI_1]
        refine ih (s + 1) (a + 1) (some s) (by omega) nI' ?_
        unfold gapP at hF2
        rw [if_neg (fun z => q3 z.symm)] at hF2
        show a + 1 + _ = _
        omega
set_option maxRecDepth 100000 in
set_option maxHeartbeats 8000000 in
theorem lk25 (hM : Mok TYg m) (hW : Wf (vw m)) (hMM : 1 ≤ M.toInt ∧ M.toInt ≤ 99) : ∀ (D d a : Nat) (o : Option Nat) (v5 : Value), d + D = 401 → LkI (vw m) M (d * 64) o → LkF (vw m) M a o → At (E0 1) mX7_lacking (LkQ m M) 25 [.ref 1175, .int M, .int (nI a), .int (optI o), .int (nI d), v5] [] (sI m 1175 0 0) := by
  have h40 := hW.1.2.2.2
  have e400 : (400 : Int32).toInt = 400 := rfl
  intro D
  induction D with
  | zero =>
    intro d a o v5 hd hI hF
    refine At.ls okX7_lacking 60 ⟨_, _, rfl⟩ ?_
    (conv => whnf)
    refine And.intro (fun q => ?_) (fun q => ?_)
    · refine ⟨rfl, ?_⟩
      have hz : scanP (vw m) M (optC (vw m) o) ((vw m).1 3) = none := by
        cases hz : scanP (vw m) M (optC (vw m) o) ((vw m).1 3) with
        | none => rfl
        | some x =>
          obtain ⟨x1, x2, x3, x4⟩ := scanP_s _ hz
          obtain ⟨dx, dx1, dx2, dx3⟩ := dayN hW x1
          have kx : keyP (vw m) x = dx * 64 + x := by unfold keyP; rw [dx3]
          have := hI.2.2 x x1 x2 (by omega)
          omega
      have hF : a + gapX (vw m) M ((vw m).1 3) o = lacN (vw m) M := hF
      rw [gapX_n (by omega) hz, Nat.add_zero] at hF
      unfold lacP
      rw [if_pos hMM, ← hF]
    · rw [lt_i, nI_toInt (by omega), e400] at q
      omega
  | succ D ih =>
    intro d a o v5 hd hI hF
    refine At.ls okX7_lacking 60 ⟨_, _, rfl⟩ ?_
    (conv => whnf)
    refine And.intro (fun q => ?_) (fun q => ?_)
    · rw [lt_i, nI_toInt (by omega), e400] at q
      omega
    (conv => whnf)
    refine And.intro rfl ?_
    exact lk36 hM hW (by omega) (fun a o v5 hI hF => ih (d + 1) a o v5 (by omega) hI hF) ((vw m).1 3) 0 a o (Nat.zero_add _) hI hF
set_option maxRecDepth 100000 in
set_option maxHeartbeats 8000000 in
theorem s_lacking (hM : Mok TYg m) (hW : Wf (vw m)) : CI 1 mX7_lacking [.ref 1175, .int M] m (fun r m' => m' = sI m 1175 0 0 ∧ r = lacP (vw m) M) := by
  have e1 : (1 : Int32).toInt = 1 := rfl
  have e99 : (99 : Int32).toInt = 99 := rfl
  refine At.gs okX7_lacking 60 ?_
  (conv => whnf)
  refine And.intro (fun q => ?_) (fun q => ?_)
  · rw [lt_i, e1] at q
    refine ⟨rfl, ?_⟩
    unfold lacP
    rw [if_neg (fun z => by omega)]
  rw [lt_i, e1] at q
  (conv => whnf)
  refine And.intro (fun q2 => ?_) (fun q2 => ?_)
  · rw [le_i, e99] at q2
    (conv => whnf)
    refine And.intro rfl ?_
    exact lk25 hM hW ⟨by omega, q2⟩ 401 0 0 none _ rfl ⟨Nat.zero_le _, fun l hl => (by cases hl), fun s hs hm hk => (by omega)⟩ (by unfold LkF lacN; rw [Nat.zero_add])
  · rw [le_i, e99] at q2
    refine ⟨rfl, ?_⟩
    unfold lacP
    rw [if_neg (fun z => by omega)]
end LkM
