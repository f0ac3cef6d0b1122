/-! loops with relations of two symbols -/
/-- (a, b, d): symbol a is at most symbol b plus d -/
abbrev FC : Type := Nat × Nat × Int
def okF (σ : Nat → Int) (F : List FC) : Prop := ∀ q ∈ F, σ q.1 ≤ σ q.2.1 + q.2.2
theorem okC_set {σ : Nat → Int} {C : CC} {a : Nat} {lo hi : Int} (hC : okC σ C) (h1 : lo ≤ σ a) (h2 : σ a ≤ hi) : okC σ (C.set a (lo, hi)) := by
  intro k q hq
  by_cases hk : k = a
  · subst hk
    rw [List.getElem?_set] at hq
    split at hq
    · split at hq
      · cases hq
        exact ⟨h1, h2⟩
      · cases hq
    · rename_i hne
      exact absurd rfl hne
  · rw [List.getElem?_set_ne (Ne.symm hk)] at hq
    exact hC k q hq
def fc1 (C : CC) (q : FC) : Option CC := match C[q.1]?, C[q.2.1]? with
  | some x, some y => if x.1 ≤ min x.2 (y.2 + q.2.2) ∧ max y.1 (x.1 - q.2.2) ≤ y.2 then some ((C.set q.1 (x.1, min x.2 (y.2 + q.2.2))).set q.2.1 (max y.1 (x.1 - q.2.2), y.2)) else none
  | _, _ => some C
theorem fc1_ok {σ : Nat → Int} {C : CC} {q : FC} (hC : okC σ C) (h : σ q.1 ≤ σ q.2.1 + q.2.2) : ∃ C', fc1 C q = some C' ∧ okC σ C' ∧ C'.length = C.length := by
  unfold fc1
  split
  · rename_i x y ex ey
    have hx := hC _ _ ex
    have hy := hC _ _ ey
    rw [if_pos (by omega)]
    refine ⟨_, rfl, okC_set (okC_set hC hx.1 (by omega)) (by omega) hy.2, by simp⟩
  · exact ⟨C, rfl, hC, rfl⟩
def fcs : List FC → CC → Option CC
  | [], C => some C
  | q :: r, C => match fc1 C q with
    | none => none
    | some C' => fcs r C'
theorem fcs_ok {σ : Nat → Int} : ∀ (F : List FC) (C : CC), okC σ C → okF σ F → ∃ C', fcs F C = some C' ∧ okC σ C' ∧ C'.length = C.length
  | [], C, hC, _ => ⟨C, rfl, hC, rfl⟩
  | q :: r, C, hC, hF => by
    obtain ⟨C1, e1, o1, l1⟩ := fc1_ok hC (hF q List.mem_cons_self)
    obtain ⟨C2, e2, o2, l2⟩ := fcs_ok r C1 o1 (fun z hz => hF z (List.mem_cons_of_mem _ hz))
    refine ⟨C2, ?_, o2, by rw [l2, l1]⟩
    unfold fcs
    rw [e1]
    exact e2
def axF (F : List FC) (ps : Nat → Bool) (stp : Nat → AS → Bool) (rt : AS → Bool) (fa : List ACE) : Nat → List ACE → AS → Bool
  | 0, _, _ => false
  | n + 1, code, A => match fcs F A.2.2.1 with
    | none => true
    | some C => match code with
      | [] => false
      | (pc, _, none) :: _ => match ps pc with
        | true => axF F ps stp rt fa n (aseek pc fa).tail (A.1, A.2.1, C, A.2.2.2)
        | false => stp pc (A.1, A.2.1, C, A.2.2.2)
      | (_, _, some ao) :: r => ao (axF F ps stp rt fa n r) (fun t => axF F ps stp rt fa n (aseek t fa)) rt (A.1, A.2.1, C, A.2.2.2)
theorem axF_ok {D : KK} {E : EE} {P : QQ} {Γ : GG} {K : Nat → NX} {full : List CE} {fa : List ACE} {ps : Nat → Bool} {stp : Nat → AS → Bool} {rt : AS → Bool} {F : List FC} (hFo : okF Γ.2.2.2.2.2 F) (hFn : ∀ q ∈ F, q.1 < Γ.2.2.2.2.1 ∧ q.2.1 < Γ.2.2.2.2.1) (hps : ∀ (n pc : Nat) (ls st : List Value) (m : MM), ps pc = true → sx E P K full n (seek pc full).tail ls st m → K pc ls st m) (hD : E.1 = D.1 ∧ Γ.1 = D.2.1 ∧ Γ.2.1 = D.2.2.1 ∧ Γ.2.2.1 = D.2.2.2) (hS : SndAll D full fa)
    (hK : ∀ pc A ls st m, stp pc A = true → Rl Γ A ls st m → K pc ls st m) (hP : ∀ A ls st m, rt A = true → Rl Γ A ls st m → P st.head? m) :
    ∀ (n : Nat) (code : List CE) (acode : List ACE), SndAll D code acode → ∀ A ls st m, axF F ps stp rt fa n acode A = true → Rl Γ A ls st m → sx E P K full n code ls st m := by
  have hre : ∀ (A : AS) (ls st : List Value) (m : MM), Rl Γ A ls st m → ∃ C, fcs F A.2.2.1 = some C ∧ Rl Γ (A.1, A.2.1, C, A.2.2.2) ls st m := by
    intro A ls st m hR
    obtain ⟨σ, hC, hL, hS', hM, hT, hc, hW, hn0, hs0⟩ := hR
    obtain ⟨C, e1, e2, e3⟩ := fcs_ok F A.2.2.1 hC (fun q hq => by
      rw [hs0 _ (hFn q hq).1, hs0 _ (hFn q hq).2]
      exact hFo q hq)
    exact ⟨C, e1, σ, e2, hL, hS', hM, hT, hc, hW, by show _ ≤ C.length; rw [e3]; exact hn0, hs0⟩
  intro n
  induction n with
  | zero => intro code acode hc A ls st m h hR; cases h
  | succ n ih =>
    intro code acode hc A ls st m h hR
    obtain ⟨C, eC, hR⟩ := hre A ls st m hR
    unfold axF at h
    rw [eC] at h
    match code, acode, hc, h with
    | [], [], _, h => cases h
    | [], _ :: _, hc, _ => exact hc.elim
    | _ :: _, [], hc, _ => exact hc.elim
    | (pc, len, none) :: r, (pc2, len2, none) :: s, hc, h =>
      have e : pc = pc2 := hc.1.1
      subst e
      simp only at h
      split at h
      · rename_i hp
        exact hps n pc ls st m hp (ih _ _ (tail_snd (seek_snd pc hS)) _ ls st m h hR)
      · exact hK pc _ ls st m h hR
    | (pc, len, none) :: r, (pc2, len2, some ao) :: s, hc, h => exact hc.1.2.elim
    | (pc, len, some op) :: r, (pc2, len2, none) :: s, hc, h => exact hc.1.2.elim
    | (pc, len, some op) :: r, (pc2, len2, some ao) :: s, hc, h =>
      have hsn : Snd D op ao := hc.1.2
      exact hsn E P Γ hD _ _ _ _ _ (fun A ls st m h hR => ih r s hc.2 A ls st m h hR) (fun t A ls st m h hR => ih _ _ (seek_snd t hS) A ls st m h hR) hP _ ls st m h hR
/-- a loop: place, locals, measure, relations -/
abbrev ANF : Type := Nat × List AV × List MS × List FC
def annG (pc : Nat) : List ANF → Option ANF
  | [] => none
  | q :: r => match Nat.beq q.1 pc with
    | true => some q
    | false => annG pc r
theorem annG_ok {pc : Nat} {q : ANF} : ∀ {l : List ANF}, annG pc l = some q → q ∈ l ∧ q.1 = pc
  | [], h => by cases h
  | a :: r, h => by
    unfold annG at h
    split at h
    · rename_i hb
      cases h
      exact ⟨List.mem_cons_self, Nat.eq_of_beq_eq_true hb⟩
    · obtain ⟨h1, h2⟩ := annG_ok h
      exact ⟨List.mem_cons_of_mem _ h1, h2⟩
def leqA (C : CC) (F : List FC) (x y : AV) (d : Int) : Bool := isI x && isI y && (decide ((rng C x).2 ≤ (rng C y).1 + d) || (Nat.beq x.1 1 && Nat.beq y.1 1 && ((decide (x.2.1 = y.2.1) && decide (x.2.2 ≤ y.2.2 + d)) || F.any (fun f => decide (x.2.1 = (f.1 : Int)) && decide (y.2.1 = (f.2.1 : Int)) && decide (f.2.2 + x.2.2 ≤ y.2.2 + d)))))
theorem leqA_ok {σ : Nat → Int} {C : CC} {F : List FC} {x y : AV} {d : Int} {i j : Int32} (hC : okC σ C) (hF : okF σ F) (gx : gam σ x (.int i)) (gy : gam σ y (.int j)) (h : leqA C F x y d = true) : i.toInt ≤ j.toInt + d := by
  unfold leqA at h
  simp only [Bool.and_eq_true, Bool.or_eq_true, decide_eq_true_eq, List.any_eq_true] at h
  obtain ⟨⟨ix, iy⟩, h⟩ := h
  have hx := rng_ok hC ix gx
  have hy := rng_ok hC iy gy
  rcases h with h | ⟨⟨t1, t2⟩, h⟩
  · omega
  · obtain ⟨tx, sx', ox⟩ := x
    obtain ⟨ty, sy, oy⟩ := y
    obtain rfl : tx = 1 := Nat.eq_of_beq_eq_true t1
    obtain rfl : ty = 1 := Nat.eq_of_beq_eq_true t2
    obtain ⟨i2, e1, e2⟩ := gx
    cases e1
    obtain ⟨j2, e3, e4⟩ := gy
    cases e3
    simp only at h e2 e4
    rcases h with ⟨h1, h2⟩ | ⟨f, hf, ⟨h1, h2⟩, h3⟩
    · subst h1
      omega
    · have := hF f hf
      subst h1
      subst h2
      simp only [Int.toNat_natCast] at e2 e4
      omega
/-- what stands for a symbol at a stop -/
def sv (Ty : TY) (nl : Nat) (sp : List MS) (A : AS) (j : Nat) : Option AV := match Nat.blt j nl with
  | true => some (agl j A.1)
  | false => match (fldS Ty nl sp).2[j - nl]? with
    | some e => mlk e.1.1 e.1.2 A.2.2.2
    | none => none
def facT (Ty : TY) (nl : Nat) (F : List FC) (sp : List MS) (A : AS) (fs : List FC) : Bool := fs.all (fun f => match sv Ty nl sp A f.1, sv Ty nl sp A f.2.1 with
  | some x, some y => leqA A.2.2.1 F x y f.2.2
  | _, _ => false)
theorem sv_ok {Γ : GG} {σ : Nat → Int} {A : AS} {ls st : List Value} {m : MM} {Ty : TY} {L : List AV} {sp : List MS} {j : Nat} {v : AV} (hR : Rs Γ σ A ls st m) (h : sv Ty L.length sp A j = some v) (hi : isI v = true) : ∃ i : Int32, gam σ v (.int i) ∧ iniS Ty L sp ls m j = i.toInt := by
  unfold sv at h
  unfold iniS
  split at h
  · rename_i hb
    cases h
    rw [if_pos (show j < L.length from Nat.le_of_ble_eq_true hb)]
    have g := FA_gl j _ _ hR.2.1
    obtain ⟨i, e⟩ := gam_int hi g
    rw [e] at g ⊢
    exact ⟨i, g, rfl⟩
  · rename_i hb
    have hn : ¬ j < L.length := fun q => by rw [show Nat.blt j L.length = true from Nat.ble_eq_true_of_le q] at hb; cases hb
    rw [if_neg hn]
    split at h
    · rename_i e he
      have hm := mlk_ok hR.2.2.2.1 h
      refine ⟨_, hm.2, ?_⟩
      rw [List.getD_eq_getElem?_getD, List.getElem?_map, he]
      rfl
    · cases h
theorem facT_ok {Γ : GG} {σ : Nat → Int} {A : AS} {ls st : List Value} {m : MM} {Ty : TY} {L : List AV} {F : List FC} {sp : List MS} {fs : List FC} (hR : Rs Γ σ A ls st m) (hF : okF σ F) (h : facT Ty L.length F sp A fs = true) : okF (iniS Ty L sp ls m) fs := by
  intro f hf
  have h1 := List.all_eq_true.mp h f hf
  split at h1
  · rename_i x y ex ey
    have hi := h1
    unfold leqA at hi
    simp only [Bool.and_eq_true] at hi
    obtain ⟨i, gx, e1⟩ := sv_ok hR ex hi.1.1
    obtain ⟨j, gy, e2⟩ := sv_ok hR ey hi.1.2
    rw [e1, e2]
    exact leqA_ok hR.1 hF gx gy h1
  · cases h1
def psG (ann : List ANF) (pc : Nat) : Bool := match annG pc ann with
  | some q => q.2.1.isEmpty
  | none => false
def stpG (nl : Nat) (D : KK) (ann : List ANF) (F : List FC) (from_ : Option (List MS)) (pc : Nat) (A : AS) : Bool := match annG pc ann with
  | some q => !q.2.1.isEmpty && (match A.2.1 with
      | [] => true
      | _ => false) && subL A.2.2.1 A.1 q.2.1 && (match from_ with
      | none => true
      | some sp => mdec nl 9 nl sp q.2.2.1 A) && facT D.2.1 nl F q.2.2.1 A q.2.2.2
  | none => false
def chkF (D : KK) (ac : AC) (nl : Nat) (fa : List ACE) (ann : List ANF) (fuel : Nat) : Bool :=
  okG ac.1 && rfM ac.2.2.2.2 (iniA D.2.1 (apad nl (aen ac.1)) []) (fun B => axF [] (psG ann) (stpG nl D ann [] none) (rtc D.2.1 true ac) fa fuel (aseek 0 fa) B) &&
  ann.all (fun q => q.2.1.isEmpty || (noSym q.2.1 && Nat.beq q.2.1.length nl && q.2.2.2.all (fun f => Nat.blt f.1 (nl + (fldS D.2.1 nl q.2.2.1).2.length) && Nat.blt f.2.1 (nl + (fldS D.2.1 nl q.2.2.1).2.length)) && axF q.2.2.2 (psG ann) (stpG nl D ann q.2.2.2 (some q.2.2.1)) (rtc D.2.1 false ac) fa fuel (aseek q.1 fa).tail (iniA D.2.1 q.2.1 q.2.2.1)))
theorem okF_sub {σ τ : Nat → Int} {n : Nat} {F : List FC} (h : okF τ F) (hn : ∀ q ∈ F, q.1 < n ∧ q.2.1 < n) (hs : ∀ i, i < n → σ i = τ i) : okF σ F := fun q hq => by
  rw [hs _ (hn q hq).1, hs _ (hn q hq).2]
  exact h q hq
theorem safe_ofF {Ty : TY} {c : Nat × Nat} {μ : MI} {ac : AC} {full : List CE} {fa : List ACE} {ann : List ANF} {fuel : Nat} (hok : CodeOk μ full) (hS : SndAll (ac.2.1, Ty, c, ac.2.2.2.1) full fa) (hz : ∀ q ∈ ann, ∃ o r, seek q.1 full = (q.1, 0, o) :: r) (hlen : acats ac.1 ≤ μ.2.2.1) (h : chkF (ac.2.1, Ty, c, ac.2.2.2.1) ac μ.2.2.1 fa ann fuel = true) : SafeC Ty c μ ac := by
  intro as m hF hM hc hpre
  unfold chkF at h
  simp only [Bool.and_eq_true] at h
  obtain ⟨⟨hg, hent⟩, hann⟩ := h
  have hps : ∀ (n pc : Nat) (ls st : List Value) (m1 : MM), psG ann pc = true → sx (E0 ac.2.1) (PC Ty ac m as) (At (E0 ac.2.1) μ (PC Ty ac m as)) full n (seek pc full).tail ls st m1 → At (E0 ac.2.1) μ (PC Ty ac m as) pc ls st m1 := by
    intro n pc ls st m1 hp hx
    unfold psG at hp
    split at hp
    · rename_i q hq
      obtain ⟨hin, rfl⟩ := annG_ok hq
      exact At.lp hok n (hz q hin) hx
    · cases hp
  have loops : ∀ (N : Nat) (q : ANF), q ∈ ann → q.2.1.isEmpty = false → ∀ (ls : List Value) (m1 : MM), FA (fun _ => 0) q.2.1 ls → Mok Ty m1 → m1.2.2 = c → Fr ac.2.2.2.1 m m1 → okF (iniS Ty q.2.1 q.2.2.1 ls m1) q.2.2.2 → enc 9 (mv q.2.2.1 ls m1) = N → At (E0 ac.2.1) μ (PC Ty ac m as) q.1 ls [] m1 := by
    intro N
    induction N using Nat.strongRecOn with
    | ind N ih =>
      intro q hq hne ls m1 hFq hMq hcq hWq hfq hN
      have hq2 := List.all_eq_true.mp hann q hq
      rw [hne, Bool.false_or] at hq2
      simp only [Bool.and_eq_true] at hq2
      obtain ⟨⟨⟨b1, b2⟩, b2f⟩, b3⟩ := hq2
      have hlq : q.2.1.length = μ.2.2.1 := Nat.eq_of_beq_eq_true b2
      have hst := start_ok (c := c) (W := ac.2.2.2.1) (mz := m) (sp := q.2.2.1) b1 hFq hMq hcq hWq
      have hfn : ∀ z ∈ q.2.2.2, z.1 < q.2.1.length + (fldS Ty q.2.1.length q.2.2.1).2.length ∧ z.2.1 < q.2.1.length + (fldS Ty q.2.1.length q.2.2.1).2.length := fun z hz2 => by
        have := List.all_eq_true.mp b2f z hz2
        rw [Bool.and_eq_true] at this
        rw [hlq]
        exact ⟨Nat.le_of_ble_eq_true this.1, Nat.le_of_ble_eq_true this.2⟩
      refine At.lp hok fuel (hz q hq) ?_
      refine axF_ok (F := q.2.2.2) (D := (ac.2.1, Ty, c, ac.2.2.2.1)) (Γ := (Ty, c, ac.2.2.2.1, m, q.2.1.length + (fldS Ty q.2.1.length q.2.2.1).2.length, iniS Ty q.2.1 q.2.2.1 ls m1)) hfq hfn hps ⟨rfl, rfl, rfl, rfl⟩ hS ?_ ?_ fuel _ _ (tail_snd (seek_snd q.1 hS)) _ ls [] m1 b3 ⟨_, hst⟩
      · intro pc A ls2 st2 m2 hs hR
        unfold stpG at hs
        split at hs
        · rename_i q2 hq2
          obtain ⟨hin, rfl⟩ := annG_ok hq2
          simp only [Bool.and_eq_true] at hs
          obtain ⟨⟨⟨⟨s0, s1⟩, s2⟩, s3⟩, s4⟩ := hs
          obtain ⟨σ, hRs⟩ := hR
          have est : st2 = [] := by
            split at s1
            · rename_i e
              have := hRs.2.2.1
              rw [e] at this
              exact FA_nil this
            · cases s1
          subst est
          have hσl : ∀ j, j < μ.2.2.1 → σ j = vI (gl j ls) := fun j hj => by
            have := hRs.2.2.2.2.2.2.2.2 j (by show j < q.2.1.length + _; omega)
            rw [this]
            show iniS Ty q.2.1 q.2.2.1 ls m1 j = _
            unfold iniS
            rw [if_pos (by omega)]
          have hfl : ∀ j, j < (fldS Ty μ.2.2.1 q.2.2.1).2.length → σ (μ.2.2.1 + j) = ((fldS Ty μ.2.2.1 q.2.2.1).2.map (fun z => (gI m1 z.1.1 z.1.2).toInt)).getD j 0 := fun j hj => by
            have := hRs.2.2.2.2.2.2.2.2 (μ.2.2.1 + j) (by show μ.2.2.1 + j < q.2.1.length + (fldS Ty q.2.1.length q.2.2.1).2.length; rw [hlq]; omega)
            rw [this]
            show iniS Ty q.2.1 q.2.2.1 ls m1 (μ.2.2.1 + j) = _
            unfold iniS
            rw [if_neg (by omega), hlq, Nat.add_sub_cancel_left]
          have hdec := mdec_ok (ls := ls) (m := m1) hRs hσl 9 μ.2.2.1 q.2.2.1 q2.2.2.1 hfl s3
          rw [hN] at hdec
          have hne2 : q2.2.1.isEmpty = false := by cases hb : q2.2.1.isEmpty with | false => rfl | true => rw [hb] at s0; cases s0
          have hq2b := List.all_eq_true.mp hann q2 hin
          rw [hne2, Bool.false_or] at hq2b
          simp only [Bool.and_eq_true] at hq2b
          have hl2 : q2.2.1.length = μ.2.2.1 := Nat.eq_of_beq_eq_true hq2b.1.1.2
          have hof : okF σ q.2.2.2 := okF_sub hfq hfn hRs.2.2.2.2.2.2.2.2
          exact ih _ hdec q2 hin hne2 ls2 m2 (subL_ok hRs.1 s2 hRs.2.1) hRs.2.2.2.2.1 hRs.2.2.2.2.2.1 hRs.2.2.2.2.2.2.1 (facT_ok (L := q2.2.1) (F := q.2.2.2) hRs hof (by rw [hl2]; exact s4)) rfl
        · cases hs
      · intro A ls2 st2 m2 hs hR
        exact rtc_ok (m0 := m) ⟨rfl, hc.symm, rfl, rfl⟩ hR (fun z => by cases z) hs
  have hFe : FA (fun _ => 0) (apad μ.2.2.1 (aen ac.1)) (pad μ.2.2.1 (enl as)) := apad_ok _ _ _ (aen_ok _ _ hg hF)
  have hst := start_ok (c := c) (W := ac.2.2.2.1) (mz := m) (sp := []) (noSym_pad μ.2.2.1 ac.1 hg) hFe hM hc (Fr_rfl _ _)
  obtain ⟨B, hB, hent⟩ := rfM_ok (Γ := (Ty, c, ac.2.2.2.1, m, (apad μ.2.2.1 (aen ac.1)).length + 0, iniS Ty (apad μ.2.2.1 (aen ac.1)) [] (pad μ.2.2.1 (enl as)) m)) ac.2.2.2.2 _ _ hst hpre hent
  refine At.go hok fuel ?_
  refine axF_ok (F := []) (D := (ac.2.1, Ty, c, ac.2.2.2.1)) (Γ := (Ty, c, ac.2.2.2.1, m, (apad μ.2.2.1 (aen ac.1)).length + 0, iniS Ty (apad μ.2.2.1 (aen ac.1)) [] (pad μ.2.2.1 (enl as)) m)) (fun q hq => by cases hq) (fun q hq => by cases hq) hps ⟨rfl, rfl, rfl, rfl⟩ hS ?_ ?_ fuel _ _ (seek_snd 0 hS) _ _ [] m hent hB
  · intro pc A ls2 st2 m2 hs hR
    unfold stpG at hs
    split at hs
    · rename_i q2 hq2
      obtain ⟨hin, rfl⟩ := annG_ok hq2
      simp only [Bool.and_eq_true] at hs
      obtain ⟨⟨⟨⟨s0, s1⟩, s2⟩, s3⟩, s4⟩ := hs
      obtain ⟨σ, hRs⟩ := hR
      have est : st2 = [] := by
        split at s1
        · rename_i e
          have := hRs.2.2.1
          rw [e] at this
          exact FA_nil this
        · cases s1
      subst est
      have hne2 : q2.2.1.isEmpty = false := by cases hb : q2.2.1.isEmpty with | false => rfl | true => rw [hb] at s0; cases s0
      have hq2b := List.all_eq_true.mp hann q2 hin
      rw [hne2, Bool.false_or] at hq2b
      simp only [Bool.and_eq_true] at hq2b
      have hl2 : q2.2.1.length = μ.2.2.1 := Nat.eq_of_beq_eq_true hq2b.1.1.2
      exact loops _ q2 hin hne2 ls2 m2 (subL_ok hRs.1 s2 hRs.2.1) hRs.2.2.2.2.1 hRs.2.2.2.2.2.1 hRs.2.2.2.2.2.2.1 (facT_ok (L := q2.2.1) (F := []) hRs (fun q hq => by cases hq) (by rw [hl2]; exact s4)) rfl
    · cases hs
  · intro A ls2 st2 m2 hs hR
    refine rtc_ok (m0 := m) ⟨rfl, hc.symm, rfl, rfl⟩ hR (fun _ j hj hJ => ?_) hs
    have hpl : (apad μ.2.2.1 (aen ac.1)).length = μ.2.2.1 := by
      have : ∀ (n : Nat) (L : List AV), (apad n L).length = n := by
        intro n
        induction n with
        | zero => intro L; rfl
        | succ n ih => intro L; cases L <;> simp [apad, ih]
      exact this _ _
    have hjn : j < μ.2.2.1 := by
      have : ∀ L : List AV, L.length ≤ acats L := by
        intro L
        induction L with
        | nil => exact Nat.le_refl _
        | cons v r ih =>
          unfold acats
          simp only [List.length_cons]
          split <;> omega
      have := this ac.1
      omega
    refine ⟨by show j < (apad μ.2.2.1 (aen ac.1)).length + 0; rw [hpl]; omega, fun i hi => ?_⟩
    show iniS Ty (apad μ.2.2.1 (aen ac.1)) [] (pad μ.2.2.1 (enl as)) m j = i.toInt
    unfold iniS
    rw [if_pos (by rw [hpl]; exact hjn), gl_enl_nJ ac.1 as _ j hJ hF hj hjn, hi]
    rfl
