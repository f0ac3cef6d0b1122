/-! loops, contracts -/
abbrev AN : Type := Nat × List AV × List MS
def annF (pc : Nat) : List AN → Option AN
  | [] => none
  | q :: r => match Nat.beq q.1 pc with
    | true => some q
    | false => annF pc r
theorem annF_ok {pc : Nat} {q : AN} : ∀ {l : List AN}, annF pc l = some q → q ∈ l ∧ q.1 = pc
  | [], h => by cases h
  | a :: r, h => by
    unfold annF at h
    split at h
    · rename_i hb
      cases h
      exact ⟨List.mem_cons_self, Nat.eq_of_beq_eq_true hb⟩
    · obtain ⟨h1, h2⟩ := annF_ok h
      exact ⟨List.mem_cons_of_mem _ h1, h2⟩
/-- a measure falls: the walk began with sp, it stands at sq; nl locals, symbols of fields from n on -/
def mdec (nl : Nat) : Nat → Nat → List MS → List MS → AS → Bool
  | 0, _, _, _, _ => false
  | _ + 1, _, [], [], _ => false
  | _ + 1, _, [], _ :: _, _ => true
  | _ + 1, _, _ :: _, [], _ => false
  | d + 1, n, s :: r, t :: u, A => match Nat.beq s.1 3 && Nat.beq t.1 3 with
   | true => (decide (0 ≤ t.2.2.2) && decide (t.2.2.2 < s.2.2.2) && decide (s.2.2.2 ≤ 4294967296)) || (decide (s = t) && mdec nl d n r u A)
   | false => decide (s = t) && decide (-4294967296 ≤ s.2.2.2) && decide (s.2.2.2 ≤ 4294967296) && (match s.1 with
    | 0 => Nat.blt s.2.1 nl && Nat.beq (agl s.2.1 A.1).1 1 && decide ((agl s.2.1 A.1).2.1 = (s.2.1 : Int)) && ((decide (1 ≤ (agl s.2.1 A.1).2.2) && decide ((rng A.2.2.1 (agl s.2.1 A.1)).2 ≤ s.2.2.2)) || (decide ((agl s.2.1 A.1).2.2 = 0) && mdec nl d n r u A))
    | 1 => (match mlk s.2.1 s.2.2.1 A.2.2.2 with
      | some v => Nat.beq v.1 1 && decide (v.2.1 = (n : Int)) && ((decide (1 ≤ v.2.2) && decide ((rng A.2.2.1 v).2 ≤ s.2.2.2)) || (decide (v.2.2 = 0) && mdec nl d (n + 1) r u A))
      | none => false)
    | 2 => Nat.blt s.2.1 nl && Nat.beq (agl s.2.1 A.1).1 1 && decide ((agl s.2.1 A.1).2.1 = (s.2.1 : Int)) && ((decide ((agl s.2.1 A.1).2.2 ≤ -1) && decide (s.2.2.2 ≤ (rng A.2.2.1 (agl s.2.1 A.1)).1)) || (decide ((agl s.2.1 A.1).2.2 = 0) && mdec nl d n r u A))
    | _ => false)
theorem lc_ok {Γ : GG} {σ : Nat → Int} {A : AS} {ls ls2 st2 : List Value} {m2 : MM} {nl j : Nat} (hR : Rs Γ σ A ls2 st2 m2) (hl : ∀ j, j < nl → σ j = vI (gl j ls)) (h1 : Nat.blt j nl = true) (h2 : Nat.beq (agl j A.1).1 1 = true) (h3 : (agl j A.1).2.1 = (j : Int)) :
    vI (gl j ls2) = vI (gl j ls) + (agl j A.1).2.2 ∧ (rng A.2.2.1 (agl j A.1)).1 ≤ vI (gl j ls2) ∧ vI (gl j ls2) ≤ (rng A.2.2.1 (agl j A.1)).2 := by
  have g := FA_gl j _ _ hR.2.1
  have hi : isI (agl j A.1) = true := by unfold isI; rw [Nat.eq_of_beq_eq_true h2]; rfl
  obtain ⟨i, e⟩ := gam_int hi g
  rw [e] at g ⊢
  have hr := rng_ok hR.1 hi g
  refine ⟨?_, hr.1, hr.2⟩
  generalize agl j A.1 = v at g h2 h3 hr
  obtain ⟨t, a, b⟩ := v
  obtain rfl : t = 1 := Nat.eq_of_beq_eq_true h2
  obtain ⟨i2, e1, e2⟩ := g
  cases e1
  have h3 : a = (j : Int) := h3
  subst h3
  simp only [Int.toNat_natCast] at e2
  have := hl j (Nat.le_of_ble_eq_true h1)
  show i.toInt = vI (gl j ls) + b
  rw [e2, this]
theorem mrank {a b a2 b2 : Nat} {B B2 : Int} {ls ls2 : List Value} {m m2 : MM} (q1 : 0 ≤ B2) (q2 : B2 < B) (q3 : B ≤ 4294967296) : mval (3, a2, b2, B2) ls2 m2 < mval (3, a, b, B) ls m := by
  have hKM : KM = 17179869184 := rfl
  unfold mval
  simp only
  omega
theorem mdec_ok {Γ : GG} {σ : Nat → Int} {A : AS} {ls ls2 st2 : List Value} {m m2 : MM} {nl : Nat} {Ty : TY} (hR : Rs Γ σ A ls2 st2 m2) (hl : ∀ j, j < nl → σ j = vI (gl j ls)) :
    ∀ (d n : Nat) (sp sq : List MS), (∀ j, j < (fldS Ty n sp).2.length → σ (n + j) = ((fldS Ty n sp).2.map (fun q => (gI m q.1.1 q.1.2).toInt)).getD j 0) → mdec nl d n sp sq A = true → enc d (mv sq ls2 m2) < enc d (mv sp ls m) := by
  intro d
  induction d with
  | zero => intro n sp sq _ h; unfold mdec at h; cases h
  | succ d IH =>
   intro n sp sq hf h
   match sp, sq, hf, h with
   | [], [], _, h => unfold mdec at h; cases h
   | [], t :: u, _, h => exact enc_top (mv_le (t :: u) ls2 m2)
   | _ :: _, [], _, h => unfold mdec at h; cases h
   | s :: r, t :: u, hf, h =>
    unfold mdec at h
    split at h
    · rename_i h3
      rw [Bool.and_eq_true] at h3
      obtain ⟨k, a, b, B⟩ := s
      obtain ⟨k2, a2, b2, B2⟩ := t
      obtain rfl : k = 3 := Nat.eq_of_beq_eq_true h3.1
      obtain rfl : k2 = 3 := Nat.eq_of_beq_eq_true h3.2
      simp only [Bool.and_eq_true, Bool.or_eq_true, decide_eq_true_eq] at h
      rcases h with ⟨⟨q1, q2⟩, q3⟩ | ⟨q1, q2⟩
      · exact enc_step (mrank q1 q2 q3) (mv_le u ls2 m2)
      · have ih := IH n r u (fun j hj => by
          have := hf j
          simp only [fldS, isF, Nat.beq, Bool.false_and] at this
          exact this hj) q2
        clear h3 hf IH
        show mval (3, a2, b2, B2) ls2 m2 * KM ^ d + enc d (mv u ls2 m2) < mval (3, a, b, B) ls m * KM ^ d + enc d (mv r ls m)
        have e : mval (3, a2, b2, B2) ls2 m2 = mval (3, a, b, B) ls m := by
          cases q1
          unfold mval
          simp only
        rw [e]
        exact Nat.add_lt_add_left ih _
    simp only [Bool.and_eq_true, decide_eq_true_eq] at h
    obtain ⟨⟨⟨rfl, hB1⟩, hB2⟩, h⟩ := h
    obtain ⟨k, a, b, B⟩ := s
    simp only at hB1 hB2 h
    have step : ∀ (n2 : Nat), mdec nl d n2 r u A = true → (∀ j, j < (fldS Ty n2 r).2.length → σ (n2 + j) = ((fldS Ty n2 r).2.map (fun q => (gI m q.1.1 q.1.2).toInt)).getD j 0) → mval (k, a, b, B) ls2 m2 = mval (k, a, b, B) ls m → enc (d + 1) (mv ((k, a, b, B) :: u) ls2 m2) < enc (d + 1) (mv ((k, a, b, B) :: r) ls m) := by
      intro n2 h2 h3 h4
      have ih := IH n2 r u h3 h2
      show mval (k, a, b, B) ls2 m2 * KM ^ d + enc d (mv u ls2 m2) < mval (k, a, b, B) ls m * KM ^ d + enc d (mv r ls m)
      rw [h4]
      exact Nat.add_lt_add_left ih _
    have dn : mval (k, a, b, B) ls2 m2 < mval (k, a, b, B) ls m → enc (d + 1) (mv ((k, a, b, B) :: u) ls2 m2) < enc (d + 1) (mv ((k, a, b, B) :: r) ls m) := fun h2 => enc_step h2 (mv_le u ls2 m2)
    have hKM : KM = 17179869184 := rfl
    match k, h, hf, step, dn with
    | 0, h, hf, step, dn =>
      simp only [Bool.and_eq_true, decide_eq_true_eq, Bool.or_eq_true] at h
      obtain ⟨⟨⟨h1, h2⟩, h3⟩, h4⟩ := h
      obtain ⟨e1, e2, e3⟩ := lc_ok hR hl h1 h2 h3
      have r1 := vI_rng (gl a ls)
      have r2 := vI_rng (gl a ls2)
      unfold i32lo i32hi at r1 r2
      rcases h4 with ⟨q1, q2⟩ | ⟨q1, q2⟩
      · apply dn
        unfold mval
        simp only
        omega
      · refine step n q2 (fun j hj => ?_) ?_
        · have := hf j
          simp only [fldS, isF, Nat.beq, Bool.false_and] at this
          exact this hj
        · unfold mval
          simp only
          rw [e1, q1, Int.add_zero]
    | 1, h, hf, step, dn =>
      simp only at h
      split at h
      · rename_i v hv
        simp only [Bool.and_eq_true, decide_eq_true_eq, Bool.or_eq_true] at h
        obtain ⟨⟨h2, h3⟩, h4⟩ := h
        have hm := mlk_ok hR.2.2.2.1 hv
        have hr := rng_ok hR.1 hm.1 hm.2
        have hF : isF (1, a, b, B) = true := by unfold isF; rw [mlk_lt hv]; rfl
        have h0 := hf 0 (by simp [fldS, hF])
        simp only [fldS, hF, Nat.add_zero, List.map_cons, List.getD_cons_zero] at h0
        obtain ⟨t2, a2, b2⟩ := v
        obtain rfl : t2 = 1 := Nat.eq_of_beq_eq_true h2
        obtain ⟨i2, e1, e2⟩ := hm.2
        have e9 : m2.1 a b = i2 := by cases e1; rfl
        have h3 : a2 = (n : Int) := h3
        subst h3
        simp only [Int.toNat_natCast] at e2 h4
        have e3 : (gI m2 a b).toInt = (gI m a b).toInt + b2 := by
          show (m2.1 a b).toInt = _
          rw [e9, e2, h0]
        have r1 := tI_lo (gI m a b)
        have r3 := tI_hi (gI m a b)
        have r2 := tI_lo (gI m2 a b)
        have r4 : (gI m2 a b).toInt ≤ (rng A.2.2.1 (1, (n : Int), b2)).2 := hr.2
        unfold i32lo at r1 r2
        unfold i32hi at r3
        rcases h4 with ⟨q1, q2⟩ | ⟨q1, q2⟩
        · apply dn
          unfold mval
          simp only
          omega
        · refine step (n + 1) q2 (fun j hj => ?_) ?_
          · have := hf (j + 1) (by simp only [fldS, hF, List.length_cons]; omega)
            simp only [fldS, hF, List.map_cons, List.getD_cons_succ] at this
            rw [show n + 1 + j = n + (j + 1) by omega]
            exact this
          · unfold mval
            simp only
            rw [e3, q1, Int.add_zero]
      · cases h
    | 2, h, hf, step, dn =>
      simp only [Bool.and_eq_true, decide_eq_true_eq, Bool.or_eq_true] at h
      obtain ⟨⟨⟨h1, h2⟩, h3⟩, h4⟩ := h
      obtain ⟨e1, e2, e3⟩ := lc_ok hR hl h1 h2 h3
      have r1 := vI_rng (gl a ls)
      have r2 := vI_rng (gl a ls2)
      unfold i32lo i32hi at r1 r2
      rcases h4 with ⟨q1, q2⟩ | ⟨q1, q2⟩
      · apply dn
        unfold mval
        simp only
        omega
      · refine step n q2 (fun j hj => ?_) ?_
        · have := hf j
          simp only [fldS, isF, Nat.beq, Bool.false_and] at this
          exact this hj
        · unfold mval
          simp only
          rw [e1, q1, Int.add_zero]
    | k + 3, h, _, _, _ => cases h
