/-! calls of the abstract machine: by contract -/
theorem At.mono {E : EE} {μ : MI} {P P' : QQ} {pc : Nat} {ls st : List Value} {m : MM} (h : At E μ P pc ls st m) (hp : ∀ r m', P r m' → P' r m') : At E μ P' pc ls st m :=
  fun p l e R s mid args below meth c dC dI dA ad b A C0 S0 Qf hC hR => h p l e R s mid args below meth c dC dI dA ad b A C0 S0 Qf hC (fun r m' H locs la pc hP => hR r m' H locs la pc (hp r m' hP))
/-- an outcome: what is answered (9: nothing), what is known of fields behind it, of the arguments -/
abbrev OUT : Type := AV × List ((Nat × Nat) × (Int × Int)) × List (Nat × (Int × Int))
/-- a contract: arguments, depth, outcomes, the cells that may be written -/
abbrev AC : Type := List AV × Nat × List OUT × List Nat × List ((Nat × Nat) × (Int × Int))
def outOk (o : OUT) (r : Option Value) (m : MM) (as : List Value) : Prop := (match r with
    | none => o.1.1 = 9
    | some x => o.1.1 ≠ 9 ∧ gam (fun _ => 0) o.1 x) ∧ (∀ q ∈ o.2.1, q.2.1 ≤ (gI m q.1.1 q.1.2).toInt ∧ (gI m q.1.1 q.1.2).toInt ≤ q.2.2) ∧ ∀ q ∈ o.2.2, ∀ i : Int32, gl q.1 as = .int i → q.2.1 ≤ i.toInt ∧ i.toInt ≤ q.2.2
def PC (Ty : TY) (ac : AC) (m : MM) (as : List Value) : QQ := fun r m' => Mok Ty m' ∧ m'.2.2 = m.2.2 ∧ Fr ac.2.2.2.1 m m' ∧ ∃ o ∈ ac.2.2.1, outOk o r m' as
def SafeC (Ty : TY) (c : Nat × Nat) (μ : MI) (ac : AC) : Prop := ∀ (as : List Value) (m : MM), FA (fun _ => 0) ac.1 as → Mok Ty m → m.2.2 = c → (∀ q ∈ ac.2.2.2.2, q.2.1 ≤ (gI m q.1.1 q.1.2).toInt ∧ (gI m q.1.1 q.1.2).toInt ≤ q.2.2) → At (E0 ac.2.1) μ (PC Ty ac m as) 0 (pad μ.2.2.1 (enl as)) [] m
/-- v is covered by w, which has no symbol -/
theorem grp_bv {x : Int64} {i : Int32} {c : Nat} (e : (6 * i).toInt64.toUInt64 &&& Int64.toUInt64 63 = UInt64.ofNat c) (hc : c < 64) : (grp x i).toInt = ((x.toBitVec.toNat / 2 ^ c % 64 : Nat) : Int) := by
  unfold grp
  rw [e]
  have hn : (((x.toUInt64 >>> UInt64.ofNat c).toInt64) &&& 63 : Int64).toBitVec.toNat = x.toBitVec.toNat / 2 ^ c % 64 := by
    rw [Int64.toBitVec_and, BitVec.toNat_and]
    have h1 : (x.toUInt64 >>> UInt64.ofNat c).toInt64.toBitVec.toNat = x.toBitVec.toNat / 2 ^ c := by
      show (x.toUInt64 >>> UInt64.ofNat c).toNat = _
      rw [UInt64.toNat_shiftRight, UInt64.toNat_ofNat', Nat.mod_eq_of_lt (show c < 2 ^ 64 by omega), Nat.mod_eq_of_lt hc, Nat.shiftRight_eq_div_pow]
      rfl
    rw [h1]
    exact Nat.and_two_pow_sub_one_eq_mod _ 6
  have hlt : x.toBitVec.toNat / 2 ^ c % 64 < 64 := Nat.mod_lt _ (by decide)
  have hi : (((x.toUInt64 >>> UInt64.ofNat c).toInt64) &&& 63 : Int64).toInt = ((x.toBitVec.toNat / 2 ^ c % 64 : Nat) : Int) := by
    rw [← Int64.toInt_toBitVec, BitVec.toInt_eq_toNat_of_lt (by rw [hn]; omega), hn]
  rw [Int64.toInt_toInt32, hi]
  exact Int.bmod_eq_of_le (by omega) (by omega)
theorem i64_nat {x : Int64} (h0 : 0 ≤ x.toInt) : ((x.toBitVec.toNat : Nat) : Int) = x.toInt := by
  rw [← Int64.toInt_toBitVec] at h0 ⊢
  rw [BitVec.toInt_eq_toNat_of_msb]
  rw [BitVec.msb_eq_toInt]
  simp only [decide_eq_false_iff_not]
  omega
theorem grp_int {x : Int64} {j : Nat} (h0 : 0 ≤ x.toInt) (hj : j < 10) : (grp x (nI j)).toInt = x.toInt / 64 ^ j % 64 := by
  have e : (6 * nI j).toInt64.toUInt64 &&& Int64.toUInt64 63 = UInt64.ofNat (6 * j) := by
    rcases (show j = 0 ∨ j = 1 ∨ j = 2 ∨ j = 3 ∨ j = 4 ∨ j = 5 ∨ j = 6 ∨ j = 7 ∨ j = 8 ∨ j = 9 by omega) with rfl | rfl | rfl | rfl | rfl | rfl | rfl | rfl | rfl | rfl <;> decide
  rw [grp_bv e (by omega), Nat.pow_mul, Int.natCast_emod, Int.natCast_ediv, i64_nat h0, Int.natCast_pow]
  rfl
theorem grp_m1 {x : Int64} (h0 : 0 ≤ x.toInt) (h1 : x.toInt < 64 ^ 6) : (grp x (nI 0 - 1)).toInt = 0 := by
  have e : (6 * (nI 0 - 1)).toInt64.toUInt64 &&& Int64.toUInt64 63 = UInt64.ofNat 58 := by decide
  rw [grp_bv e (by decide)]
  have h2 := i64_nat h0
  have h3 : x.toBitVec.toNat < 2 ^ 36 := by
    have : (64 : Int) ^ 6 = 2 ^ 36 := by decide
    omega
  rw [Nat.div_eq_of_lt (by omega)]
  rfl
theorem PK_of10 {b : Int} {x : Int64} (h1 : 10 ≤ b) (h2 : b ≤ 16) (h : PKn b.toNat x) : PK x := by
  obtain ⟨g0, g1, g2⟩ := h.2.2 (by omega)
  have hle : (64 : Int) ^ (b.toNat - 10) ≤ 64 ^ 6 := by
    have : b.toNat - 10 ≤ 6 := by omega
    exact_mod_cast Nat.pow_le_pow_right (by decide) this
  intro j hj
  match j, hj with
  | 0, _ => rw [grp_m1 g0 (by omega)]; decide
  | j + 1, hj =>
    have e : nI (j + 1) - 1 = nI j := by
      rcases (show j = 0 ∨ j = 1 ∨ j = 2 ∨ j = 3 ∨ j = 4 ∨ j = 5 by omega) with rfl | rfl | rfl | rfl | rfl | rfl <;> decide
    rw [e, grp_int g0 (by omega)]
    have := g2 j
    have := Int.emod_nonneg (x.toInt / 64 ^ j) (b := 64) (by decide)
    omega
theorem PK_11 {x : Int64} (h1 : 0 ≤ x.toInt) (h2 : x.toInt ≤ 39) : PKn 11 x := by
  refine ⟨fun q => absurd q (by decide), fun _ q => absurd q (by decide), fun _ => ⟨h1, by show x.toInt < 64 ^ 1; omega, fun j => ?_⟩⟩
  cases j with
  | zero => rw [Int.pow_zero, Int.ediv_one]; omega
  | succ j =>
    have : (64 : Int) ≤ 64 ^ (j + 1) := by
      rw [Int.pow_succ]
      have : (1 : Int) ≤ 64 ^ j := by exact_mod_cast Nat.one_le_pow j 64 (by decide)
      omega
    rw [Int.ediv_eq_zero_of_lt h1 (by omega)]
    decide
def sub1 (C : CC) (v w : AV) : Bool := match w.1 with
  | 0 => isI v && inR (rng C v) w.2
  | 2 => Nat.beq v.1 2 && decide (v.2.1 = w.2.1)
  | 4 => true
  | 5 => (Nat.beq v.1 5 && (decide (v.2.2 = w.2.2) || (decide (w.2.2 = 0) && decide (10 ≤ v.2.2) && decide (v.2.2 ≤ 16)))) || (Nat.beq v.1 6 && (decide (w.2.2 = 11) && decide (0 ≤ v.2.1) && decide (v.2.2 ≤ 39)))
  | 8 => isJ v
  | _ => false
theorem sub1_ok {σ τ : Nat → Int} {C : CC} {v w : AV} {x : Value} (hC : okC σ C) (h : sub1 C v w = true) (g : gam σ v x) : gam τ w x := by
  obtain ⟨t, a, b⟩ := w
  unfold sub1 at h
  match t, h with
  | 0, h =>
    have h : (isI v && inR (rng C v) (a, b)) = true := h
    rw [Bool.and_eq_true] at h
    obtain ⟨i, rfl⟩ := gam_int h.1 g
    have hr := rng_ok hC h.1 g
    have h2 := h.2
    unfold inR at h2
    simp only [Bool.and_eq_true, decide_eq_true_eq] at h2
    exact ⟨i, rfl, by simp only; omega, by simp only; omega⟩
  | 2, h =>
    have h : (Nat.beq v.1 2 && decide (v.2.1 = a)) = true := h
    simp only [Bool.and_eq_true, decide_eq_true_eq] at h
    obtain ⟨t2, a2, b2⟩ := v
    obtain rfl : t2 = 2 := Nat.eq_of_beq_eq_true h.1
    have h2 : a2 = a := h.2
    subst h2
    exact g
  | 5, h =>
    have h : ((Nat.beq v.1 5 && (decide (v.2.2 = b) || (decide (b = 0) && decide (10 ≤ v.2.2) && decide (v.2.2 ≤ 16)))) || (Nat.beq v.1 6 && (decide (b = 11) && decide (0 ≤ v.2.1) && decide (v.2.2 ≤ 39)))) = true := h
    simp only [Bool.and_eq_true, Bool.or_eq_true, decide_eq_true_eq] at h
    obtain ⟨t2, a2, b2⟩ := v
    rcases h with h | ⟨h, ⟨h2, h3⟩, h4⟩
    case inr =>
      obtain rfl : t2 = 6 := Nat.eq_of_beq_eq_true h
      subst h2
      obtain ⟨l, e1, e2, e3⟩ := g
      simp only at e2 e3 h3 h4
      exact ⟨l, e1, PK_11 (by omega) (by omega)⟩
    obtain rfl : t2 = 5 := Nat.eq_of_beq_eq_true h.1
    rcases h.2 with h2 | ⟨⟨h2, h3⟩, h4⟩
    · have h2 : b2 = b := h2
      subst h2
      exact g
    · subst h2
      obtain ⟨l, e1, e2⟩ := g
      exact ⟨l, e1, (fun _ => PK_of10 h3 h4 e2), (fun q => absurd q (show ¬ 1 ≤ 0 by decide)), (fun q => absurd q (show ¬ 10 ≤ 0 by decide))⟩
  | 8, h => exact gam_long h g
  | 1, h => cases h
  | 3, h => cases h
  | 4, _ => trivial
  | 6, h => cases h
  | 7, h => cases h
  | t + 9, h => cases h
def subL (C : CC) : List AV → List AV → Bool
  | [], [] => true
  | v :: r, w :: s => sub1 C v w && subL C r s
  | _, _ => false
theorem subL_ok {σ τ : Nat → Int} {C : CC} (hC : okC σ C) : ∀ {l k : List AV} {xs : List Value}, subL C l k = true → FA σ l xs → FA τ k xs
  | [], [], [], _, _ => trivial
  | [], [], _ :: _, _, h => h.elim
  | [], _ :: _, _, h, _ => by cases h
  | _ :: _, [], _, h, _ => by cases h
  | _ :: _, _ :: _, [], _, h => h.elim
  | v :: r, w :: s, x :: xs, h, g => by
    unfold subL at h
    rw [Bool.and_eq_true] at h
    exact ⟨sub1_ok hC h.1 g.1, subL_ok hC h.2 g.2⟩
def apop : Nat → List AV → List AV → Option (List AV × List AV)
  | 0, acc, st => some (acc, st)
  | _ + 1, _, [] => none
  | n + 1, acc, v :: st => apop n (v :: acc) st
theorem apop_ok {σ : Nat → Int} : ∀ (n : Nat) (acc S : List AV) (acc' st : List Value) (vs r : List AV), FA σ acc acc' → FA σ S st → apop n acc S = some (vs, r) → ∃ as s, popN n acc' st = some (as, s) ∧ FA σ vs as ∧ FA σ r s
  | 0, acc, S, acc', st, vs, r, h1, h2, h => by
    cases h
    exact ⟨acc', st, by cases st <;> rfl, h1, h2⟩
  | n + 1, acc, [], acc', st, vs, r, h1, h2, h => by cases h
  | n + 1, acc, v :: S, acc', st, vs, r, h1, h2, h => by
    obtain ⟨x, s, rfl, g, hF⟩ := FA_cons h2
    exact apop_ok n (v :: acc) S (x :: acc') s vs r ⟨g, h1⟩ hF h
def aokA (L : List AV) : Bool := L.all (fun v => isI v || Nat.beq v.1 2 || isJ v)
theorem aokA_ok {σ : Nat → Int} : ∀ {L : List AV} {s : List Value}, aokA L = true → FA σ L s → okA s = true
  | [], [], _, _ => rfl
  | [], _ :: _, _, h => h.elim
  | _ :: _, [], _, h => h.elim
  | v :: r, x :: s, h, g => by
    unfold aokA at h
    rw [List.all_cons, Bool.and_eq_true] at h
    have ih := aokA_ok (L := r) h.2 g.2
    simp only [Bool.or_eq_true] at h
    rcases h.1 with (q | q) | q
    · obtain ⟨i, rfl⟩ := gam_int q g.1; exact ih
    · obtain ⟨t, a, b⟩ := v
      obtain rfl : t = 2 := Nat.eq_of_beq_eq_true q
      have e : x = .ref a.toNat := g.1
      subst e
      exact ih
    · obtain ⟨l, rfl⟩ := gam_long q g.1; exact ih
def aenl (L : List AV) : Nat := acats L
theorem aenl_ok {σ : Nat → Int} : ∀ {L : List AV} {s : List Value}, FA σ L s → (enl s).length ≤ acats L
  | [], [], _ => Nat.le_refl _
  | [], _ :: _, h => h.elim
  | _ :: _, [], h => h.elim
  | v :: r, x :: s, h => by
    have ih := aenl_ok h.2
    have e : (enl (x :: s)).length = x.category + (enl s).length := by cases x <;> simp [enl, Value.category] <;> omega
    have e2 : x.category ≤ (if Nat.ble v.1 3 then 1 else 2) := by
      have := acats_ok (σ := σ) (L := [v]) (s := [x]) ⟨h.1, trivial⟩
      unfold cats acats at this
      simpa [cats, acats] using this
    rw [e]
    unfold acats
    omega
def ackR (ci : Nat) (vs : List AV) : Bool := Nat.beq ci 16 || (match vs with
  | v :: _ => Nat.beq v.1 2 && Nat.beq (v.2.1.toNat % 16) ci
  | [] => false)
theorem ackR_ok {σ : Nat → Int} {ci : Nat} {vs : List AV} {as : List Value} (h : ackR ci vs = true) (hF : FA σ vs as) : (Nat.beq ci 16 || ckR ci as) = true := by
  unfold ackR at h
  rcases (Bool.or_eq_true _ _).mp h with q | q
  · rw [q]; rfl
  · rw [Bool.or_eq_true]
    refine Or.inr ?_
    split at q
    · rename_i v r
      rw [Bool.and_eq_true] at q
      obtain ⟨x, s, rfl, g, -⟩ := FA_cons hF
      obtain ⟨t, a, b⟩ := v
      obtain rfl : t = 2 := Nat.eq_of_beq_eq_true q.1
      have e : x = .ref a.toNat := g
      subst e
      exact q.2
    · cases q
/-- arguments and fields, with what an outcome tells of them -/
def rfA (vs : List AV) : List (Nat × (Int × Int)) → CC → (CC → Bool) → Bool
  | [], C, k => k C
  | q :: r, C, k => match isI (agl q.1 vs) with
    | true => gon (rf2 C (agl q.1 vs) q.2.1 q.2.2) (fun C' => rfA vs r C' k)
    | false => rfA vs r C k
theorem rfA_ok {σ : Nat → Int} {vs : List AV} {as : List Value} {k : CC → Bool} (hF : FA σ vs as) : ∀ (l : List (Nat × (Int × Int))) (C : CC), okC σ C → (∀ q ∈ l, ∀ i : Int32, gl q.1 as = .int i → q.2.1 ≤ i.toInt ∧ i.toInt ≤ q.2.2) → rfA vs l C k = true → ∃ C', okC σ C' ∧ C'.length = C.length ∧ k C' = true
  | [], C, hC, _, h => ⟨C, hC, rfl, h⟩
  | q :: r, C, hC, hq, h => by
    unfold rfA at h
    split at h
    · rename_i hi
      have g := FA_gl q.1 _ _ hF
      obtain ⟨i, e⟩ := gam_int hi g
      rw [e] at g
      obtain ⟨h1, h2⟩ := hq q List.mem_cons_self i e
      obtain ⟨C', e1, e2⟩ := rf2_ok hC hi g h1 h2
      rw [e1] at h
      obtain ⟨C2, o2, l2, k2⟩ := rfA_ok hF r C' e2 (fun z hz => hq z (List.mem_cons_of_mem _ hz)) h
      exact ⟨C2, o2, by rw [l2, rf2_len e1], k2⟩
    · exact rfA_ok hF r C hC (fun z hz => hq z (List.mem_cons_of_mem _ hz)) h
def rfM : List ((Nat × Nat) × (Int × Int)) → AS → (AS → Bool) → Bool
  | [], A, k => k A
  | q :: r, A, k => match mlk q.1.1 q.1.2 A.2.2.2 with
    | some v => gon (rf2 A.2.2.1 v q.2.1 q.2.2) (fun C' => rfM r (A.1, A.2.1, C', A.2.2.2) k)
    | none => Nat.blt q.1.2 1048576 && alc A (0, q.2) (fun v B => rfM r (B.1, B.2.1, B.2.2.1, (q.1, v) :: B.2.2.2) k)
theorem rfM_ok {Γ : GG} {ls st : List Value} {m : MM} {k : AS → Bool} : ∀ (l : List ((Nat × Nat) × (Int × Int))) (A : AS) (σ : Nat → Int), Rs Γ σ A ls st m → (∀ q ∈ l, q.2.1 ≤ (gI m q.1.1 q.1.2).toInt ∧ (gI m q.1.1 q.1.2).toInt ≤ q.2.2) → rfM l A k = true → ∃ A', Rl Γ A' ls st m ∧ k A' = true
  | [], A, σ, hR, _, h => ⟨A, ⟨σ, hR⟩, h⟩
  | q :: r, A, σ, hR, hq, h => by
    unfold rfM at h
    have hq0 := hq q List.mem_cons_self
    have hq1 : ∀ z ∈ r, z.2.1 ≤ (gI m z.1.1 z.1.2).toInt ∧ (gI m z.1.1 z.1.2).toInt ≤ z.2.2 := fun z hz => hq z (List.mem_cons_of_mem _ hz)
    split at h
    · rename_i v ev
      obtain ⟨hC, hL, hS, hM, hT, hc, hW, hn0, hs0⟩ := hR
      have hm := mlk_ok hM ev
      obtain ⟨C', e1, e2⟩ := rf2_ok hC hm.1 hm.2 hq0.1 hq0.2
      rw [e1] at h
      exact rfM_ok r (A.1, A.2.1, C', A.2.2.2) σ ⟨e2, hL, hS, hM, hT, hc, hW, by show _ ≤ C'.length; rw [rf2_len e1]; exact hn0, hs0⟩ hq1 h
    · rw [Bool.and_eq_true] at h
      obtain ⟨hk0, h⟩ := h
      obtain ⟨σ', v', B, hB, g', i', hk'⟩ := alc_ok (v := (0, q.2)) (i := gI m q.1.1 q.1.2) hR ⟨_, rfl, hq0.1, hq0.2⟩ rfl h
      obtain ⟨hC', hL', hS', hM', hrest'⟩ := hB
      refine rfM_ok r (B.1, B.2.1, B.2.2.1, (q.1, v') :: B.2.2.2) σ' ⟨hC', hL', hS', fun z hz => ?_, hrest'⟩ hq1 hk'
      rcases List.mem_cons.mp hz with rfl | hz
      · refine ⟨i', ?_⟩
        simp only [ixk_lt (Nat.le_of_ble_eq_true hk0)]
        exact g'
      · exact hM' z hz
def drpW (W : List Nat) (M : AM) : AM := M.filter (fun q => !(elm (wk q.1.1 q.1.2) W) && (Nat.blt q.1.2 1048576 || Nat.ble 8 (q.1.1 % 16)))
/-- one contract at a call -/
def aC1 (D : KK) (vs r : List AV) (A : AS) (nx : AS → Bool) (ac : AC) : Bool :=
  Nat.blt ac.2.1 D.1 && ac.2.2.2.1.all (fun a => elm a D.2.2.2) && ac.2.2.1.all (fun o => symB 0 o.1 && rfA vs o.2.2 A.2.2.1 (fun C => rfM o.2.1 (A.1, r, C, drpW ac.2.2.2.1 A.2.2.2) (fun B => nx (B.1, (if Nat.beq o.1.1 9 then B.2.1 else o.1 :: B.2.1), B.2.2))))
def preC (D : KK) (A : AS) (pre : List ((Nat × Nat) × (Int × Int))) : Bool := pre.all (fun q => match mlk q.1.1 q.1.2 A.2.2.2 with
  | some v => inR (rng A.2.2.1 v) q.2
  | none => inR (tyF D.2.1.1 D.2.1.2 q.1.1 q.1.2) q.2)
def pick (D : KK) (A : AS) (vs : List AV) : List AC → Option AC
  | [] => none
  | ac :: r => match subL A.2.2.1 vs ac.1 && preC D A ac.2.2.2.2 with
    | true => some ac
    | false => pick D A vs r
theorem pick_ok {D : KK} {A : AS} {vs : List AV} {ac : AC} : ∀ {cs : List AC}, pick D A vs cs = some ac → ac ∈ cs ∧ subL A.2.2.1 vs ac.1 = true
  | [], h => by cases h
  | c :: r, h => by
    unfold pick at h
    split at h
    · rename_i hs
      cases h
      exact ⟨List.mem_cons_self, (Bool.and_eq_true _ _ ▸ hs : _ ∧ _).1⟩
    · obtain ⟨h1, h2⟩ := pick_ok h
      exact ⟨List.mem_cons_of_mem _ h1, h2⟩
theorem preC_ok {D : KK} {Γ : GG} {σ : Nat → Int} {A : AS} {ls st : List Value} {m : MM} {pre : List ((Nat × Nat) × (Int × Int))} (hD : Γ.1 = D.2.1) (hR : Rs Γ σ A ls st m) (h : preC D A pre = true) : ∀ q ∈ pre, q.2.1 ≤ (gI m q.1.1 q.1.2).toInt ∧ (gI m q.1.1 q.1.2).toInt ≤ q.2.2 := by
  obtain ⟨hC, hL, hS, hM, hT, hc, hW, hn0, hs0⟩ := hR
  intro q hq
  have hq2 := List.all_eq_true.mp h q hq
  split at hq2
  · rename_i v hv
    have hm := mlk_ok hM hv
    have hr := rng_ok hC hm.1 hm.2
    unfold inR at hq2
    simp only [Bool.and_eq_true, decide_eq_true_eq] at hq2
    have e1 : (rng A.2.2.1 v).1 ≤ (gI m q.1.1 q.1.2).toInt := hr.1
    have e2 : (gI m q.1.1 q.1.2).toInt ≤ (rng A.2.2.1 v).2 := hr.2
    omega
  · have := hT.1 q.1.1 q.1.2
    rw [hD] at this
    unfold inR at hq2
    simp only [Bool.and_eq_true, decide_eq_true_eq] at hq2
    omega
def aCall (D : KK) (ci n nL : Nat) (cs : List AC) : AOP := fun nx _ _ A => match apop n [] A.2.1 with
  | some (vs, r) => ackR ci vs && aokA vs && Nat.ble (acats r) 8 && Nat.ble (acats vs) nL && (match pick D A vs cs with
    | some ac => preC D A ac.2.2.2.2 && aC1 D vs r A nx ac
    | none => false)
  | none => false
theorem Fr_tr {W V : List Nat} {a b c : MM} (h1 : Fr W a b) (h2 : Fr V b c) (hV : ∀ x ∈ V, x ∈ W) : Fr W a c := by
  refine ⟨fun x k hx => ?_, fun h7 => Nat.le_trans (h2.2 (fun q => h7 (hV _ q))) (h1.2 h7)⟩
  obtain ⟨p1, p2⟩ := h1.1 x k hx
  obtain ⟨q1, q2⟩ := h2.1 x k (fun q => hx (hV _ q))
  exact ⟨q1.trans p1, q2.trans p2⟩
section Ca
variable {D : KK} {μ' : MI} {ci n nL : Nat} {cs : List AC}
/-- what follows a call, whatever it answers -/
theorem call_core {E : EE} {Γ : GG} {σ : Nat → Int} {A : AS} {ls st : List Value} {m : MM} {nxA : AS → Bool} {vs r : List AV} {as s : List Value} {ac : AC} (hD : E.1 = D.1 ∧ Γ.1 = D.2.1 ∧ Γ.2.1 = D.2.2.1 ∧ Γ.2.2.1 = D.2.2.2) (hR : Rs Γ σ A ls st m) (hvs : FA σ vs as) (hr : FA σ r s) (h : aC1 D vs r A nxA ac = true) {x : Option Value} {m' : MM} (hP : PC D.2.1 ac m as x m') :
    ∃ A', Rl Γ A' ls (x.toList ++ s) m' ∧ nxA A' = true := by
  obtain ⟨hC, hL, hS, hM, hT, hc, hW, hn0, hs0⟩ := hR
  obtain ⟨p1, p2, p3, o, ho, oo1, oo2, oo3⟩ := hP
  unfold aC1 at h
  simp only [Bool.and_eq_true] at h
  obtain ⟨⟨b1, b2⟩, b3⟩ := h
  have hk := List.all_eq_true.mp b3 o ho
  rw [Bool.and_eq_true] at hk
  obtain ⟨hsy, hk⟩ := hk
  obtain ⟨C', hC', hl, hk⟩ := rfA_ok hvs o.2.2 A.2.2.1 hC oo3 hk
  have hsub : ∀ z ∈ ac.2.2.2.1, z ∈ Γ.2.2.1 := fun z hz => by rw [hD.2.2.2]; exact elm_in (List.all_eq_true.mp b2 z hz)
  have hR2 : Rs Γ σ (A.1, r, C', drpW ac.2.2.2.1 A.2.2.2) ls s m' := by
    refine ⟨hC', hL, hr, fun q hq => ?_, by rw [hD.2.1]; exact p1, by rw [p2]; exact hc, Fr_tr hW p3 hsub, by show _ ≤ C'.length; rw [hl]; exact hn0, hs0⟩
    unfold drpW at hq
    rw [List.mem_filter] at hq
    have hq2 := (Bool.and_eq_true _ _ ▸ hq.2 : _ ∧ _)
    have hne : ¬ wk q.1.1 q.1.2 ∈ ac.2.2.2.1 := fun z => by
      have h2 := hq2.1
      have : elm (wk q.1.1 q.1.2) ac.2.2.2.1 = true := List.any_eq_true.mpr ⟨wk q.1.1 q.1.2, z, Nat.beq_refl _⟩
      rw [this] at h2
      cases h2
    have hne2 : ¬ wk q.1.1 (ixk σ q.1.2) ∈ ac.2.2.2.1 := by
      rcases (Bool.or_eq_true _ _).mp hq2.2 with z | z
      · rw [ixk_lt (Nat.le_of_ble_eq_true z)]; exact hne
      · rw [wk_row z] at hne ⊢; exact hne
    have e := (p3.1 q.1.1 (ixk σ q.1.2) hne2).1
    unfold gI at e
    rw [e]
    exact hM q hq.1
  obtain ⟨B, ⟨τ, hB⟩, hk⟩ := rfM_ok o.2.1 _ σ hR2 oo2 hk
  obtain ⟨hC3, hL3, hS3, hrest3⟩ := hB
  cases x with
  | none =>
    have e9 : o.1.1 = 9 := oo1
    rw [show Nat.beq o.1.1 9 = true by rw [e9]; rfl] at hk
    exact ⟨_, ⟨τ, hC3, hL3, hS3, hrest3⟩, hk⟩
  | some v =>
    obtain ⟨n9, g⟩ := oo1
    have hb : Nat.beq o.1.1 9 = false := by
      cases hz : Nat.beq o.1.1 9 with
      | false => rfl
      | true => exact absurd (Nat.eq_of_beq_eq_true hz) n9
    rw [hb] at hk
    have hg : gam τ o.1 v := gam_ext (n := 0) (fun i hi => absurd hi (Nat.not_lt_zero i)) hsy g
    exact ⟨(B.1, o.1 :: B.2.1, B.2.2), ⟨τ, hC3, hL3, ⟨hg, hS3⟩, hrest3⟩, hk⟩
theorem sCI {k : Nat} (hS : ∀ ac ∈ cs, SafeC D.2.1 D.2.2.1 μ' ac) (hk : Nat.ble k μ'.2.2.1 = true) (hI : cs.all (fun ac => ac.2.2.1.all (fun o => isI o.1)) = true) : Snd D (oCI ci μ' n) (aCall D ci n k cs) := by
  intro E P Γ hD nx jp nxA jpA rtA hn hj hr A ls st m h hR
  obtain ⟨σ, hRs⟩ := hR
  unfold aCall at h
  split at h
  · rename_i vs r e
    simp only [Bool.and_eq_true] at h
    obtain ⟨⟨⟨⟨b1, b2⟩, b3⟩, b4⟩, b5⟩ := h
    obtain ⟨as, s, e2, hvs, hrs⟩ := apop_ok n [] A.2.1 [] st vs r trivial hRs.2.2.1 e
    split at b5
    · rename_i ac hp
      obtain ⟨hin, hsub⟩ := pick_ok hp
      rw [Bool.and_eq_true] at b5
      obtain ⟨b6, b5⟩ := b5
      unfold oCI
      rw [e2]
      have hb : ((Nat.beq ci 16 || ckR ci as) && okA as && Nat.ble (cats s) 8 && Nat.ble (enl as).length μ'.2.2.1) = true := by
        simp only [Bool.and_eq_true]
        exact ⟨⟨⟨ackR_ok b1 hvs, aokA_ok b2 hvs⟩, Nat.ble_eq_true_of_le (Nat.le_trans (acats_ok hrs) (Nat.le_of_ble_eq_true b3))⟩, Nat.ble_eq_true_of_le (Nat.le_trans (aenl_ok hvs) (Nat.le_trans (Nat.le_of_ble_eq_true b4) (Nat.le_of_ble_eq_true hk)))⟩
      simp only [hb]
      have b5' := b5
      unfold aC1 at b5'
      simp only [Bool.and_eq_true] at b5'
      refine ⟨ac.2.1, by rw [hD.1]; exact Nat.le_of_ble_eq_true b5'.1.1, fun x m' => PC D.2.1 ac m as (some (.int x)) m', ?_, fun x m' hx => ?_⟩
      · refine At.mono (hS ac hin as m (subL_ok hRs.1 hsub hvs) (by rw [← hD.2.1]; exact hRs.2.2.2.2.1) (by rw [← hD.2.2.1]; exact hRs.2.2.2.2.2.1) (preC_ok hD.2.1 hRs b6)) (fun q m' hq => ?_)
        have hq2 := hq
        obtain ⟨-, -, -, o, ho, oo, -⟩ := hq2
        have hio := List.all_eq_true.mp (List.all_eq_true.mp hI ac hin) o ho
        cases q with
        | none =>
          have e9 : o.1.1 = 9 := oo
          unfold isI at hio
          rw [e9] at hio
          cases hio
        | some v =>
          obtain ⟨i, rfl⟩ := gam_int hio oo.2
          exact hq
      · obtain ⟨A', hA, hk2⟩ := call_core hD hRs hvs hrs b5 hx
        exact hn _ _ _ _ hk2 hA
    · cases b5
  · cases h
theorem sCJ {k : Nat} (hS : ∀ ac ∈ cs, SafeC D.2.1 D.2.2.1 μ' ac) (hk : Nat.ble k μ'.2.2.1 = true) (hI : cs.all (fun ac => ac.2.2.1.all (fun o => isJ o.1)) = true) : Snd D (oCJ ci μ' n) (aCall D ci n k cs) := by
  intro E P Γ hD nx jp nxA jpA rtA hn hj hr A ls st m h hR
  obtain ⟨σ, hRs⟩ := hR
  unfold aCall at h
  split at h
  · rename_i vs r e
    simp only [Bool.and_eq_true] at h
    obtain ⟨⟨⟨⟨b1, b2⟩, b3⟩, b4⟩, b5⟩ := h
    obtain ⟨as, s, e2, hvs, hrs⟩ := apop_ok n [] A.2.1 [] st vs r trivial hRs.2.2.1 e
    split at b5
    · rename_i ac hp
      obtain ⟨hin, hsub⟩ := pick_ok hp
      rw [Bool.and_eq_true] at b5
      obtain ⟨b6, b5⟩ := b5
      unfold oCJ
      rw [e2]
      have hb : ((Nat.beq ci 16 || ckR ci as) && okA as && Nat.ble (cats s) 8 && Nat.ble (enl as).length μ'.2.2.1) = true := by
        simp only [Bool.and_eq_true]
        exact ⟨⟨⟨ackR_ok b1 hvs, aokA_ok b2 hvs⟩, Nat.ble_eq_true_of_le (Nat.le_trans (acats_ok hrs) (Nat.le_of_ble_eq_true b3))⟩, Nat.ble_eq_true_of_le (Nat.le_trans (aenl_ok hvs) (Nat.le_trans (Nat.le_of_ble_eq_true b4) (Nat.le_of_ble_eq_true hk)))⟩
      simp only [hb]
      have b5' := b5
      unfold aC1 at b5'
      simp only [Bool.and_eq_true] at b5'
      refine ⟨ac.2.1, by rw [hD.1]; exact Nat.le_of_ble_eq_true b5'.1.1, fun x m' => PC D.2.1 ac m as (some (.long x)) m', ?_, fun x m' hx => ?_⟩
      · refine At.mono (hS ac hin as m (subL_ok hRs.1 hsub hvs) (by rw [← hD.2.1]; exact hRs.2.2.2.2.1) (by rw [← hD.2.2.1]; exact hRs.2.2.2.2.2.1) (preC_ok hD.2.1 hRs b6)) (fun q m' hq => ?_)
        have hq2 := hq
        obtain ⟨-, -, -, o, ho, oo, -⟩ := hq2
        have hio := List.all_eq_true.mp (List.all_eq_true.mp hI ac hin) o ho
        cases q with
        | none =>
          have e9 : o.1.1 = 9 := oo
          unfold isJ at hio
          rw [e9] at hio
          cases hio
        | some v =>
          obtain ⟨i, rfl⟩ := gam_long hio oo.2
          exact hq
      · obtain ⟨A', hA, hk2⟩ := call_core hD hRs hvs hrs b5 hx
        exact hn _ _ _ _ hk2 hA
    · cases b5
  · cases h
theorem sCV {k : Nat} (hS : ∀ ac ∈ cs, SafeC D.2.1 D.2.2.1 μ' ac) (hk : Nat.ble k μ'.2.2.1 = true) (hI : cs.all (fun ac => ac.2.2.1.all (fun o => Nat.beq o.1.1 9)) = true) : Snd D (oCV ci μ' n) (aCall D ci n k cs) := by
  intro E P Γ hD nx jp nxA jpA rtA hn hj hr A ls st m h hR
  obtain ⟨σ, hRs⟩ := hR
  unfold aCall at h
  split at h
  · rename_i vs r e
    simp only [Bool.and_eq_true] at h
    obtain ⟨⟨⟨⟨b1, b2⟩, b3⟩, b4⟩, b5⟩ := h
    obtain ⟨as, s, e2, hvs, hrs⟩ := apop_ok n [] A.2.1 [] st vs r trivial hRs.2.2.1 e
    split at b5
    · rename_i ac hp
      obtain ⟨hin, hsub⟩ := pick_ok hp
      rw [Bool.and_eq_true] at b5
      obtain ⟨b6, b5⟩ := b5
      unfold oCV
      rw [e2]
      have hb : ((Nat.beq ci 16 || ckR ci as) && okA as && Nat.ble (cats s) 8 && Nat.ble (enl as).length μ'.2.2.1) = true := by
        simp only [Bool.and_eq_true]
        exact ⟨⟨⟨ackR_ok b1 hvs, aokA_ok b2 hvs⟩, Nat.ble_eq_true_of_le (Nat.le_trans (acats_ok hrs) (Nat.le_of_ble_eq_true b3))⟩, Nat.ble_eq_true_of_le (Nat.le_trans (aenl_ok hvs) (Nat.le_trans (Nat.le_of_ble_eq_true b4) (Nat.le_of_ble_eq_true hk)))⟩
      simp only [hb]
      have b5' := b5
      unfold aC1 at b5'
      simp only [Bool.and_eq_true] at b5'
      refine ⟨ac.2.1, by rw [hD.1]; exact Nat.le_of_ble_eq_true b5'.1.1, fun m' => PC D.2.1 ac m as none m', ?_, fun m' hx => ?_⟩
      · refine At.mono (hS ac hin as m (subL_ok hRs.1 hsub hvs) (by rw [← hD.2.1]; exact hRs.2.2.2.2.1) (by rw [← hD.2.2.1]; exact hRs.2.2.2.2.2.1) (preC_ok hD.2.1 hRs b6)) (fun q m' hq => ?_)
        have hq2 := hq
        obtain ⟨-, -, -, o, ho, oo, -⟩ := hq2
        have hio := List.all_eq_true.mp (List.all_eq_true.mp hI ac hin) o ho
        cases q with
        | none => exact hq
        | some v => exact absurd (Nat.eq_of_beq_eq_true hio) oo.1
      · obtain ⟨A', hA, hk2⟩ := call_core hD hRs hvs hrs b5 hx
        exact hn _ _ _ _ hk2 hA
    · cases b5
  · cases h
end Ca
