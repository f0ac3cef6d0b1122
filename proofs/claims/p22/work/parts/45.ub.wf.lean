/-! what a book that is read holds (pure) -/
def WfS (B : TB) : Prop := (∀ l, l < B.1 0 → 0 ≤ B.2 1 l ∧ B.2 1 l ≤ 40) ∧
  (∀ f, f < B.1 2 → (0 ≤ B.2 4 f ∧ B.2 4 f < B.1 0) ∧ (0 ≤ B.2 5 f ∧ B.2 5 f ≤ 400) ∧ (0 ≤ B.2 8 f ∧ B.2 8 f ≤ 999999)) ∧
  (∀ s, s < B.1 3 → (0 ≤ B.2 10 s ∧ B.2 10 s < B.1 2) ∧ (0 ≤ B.2 11 s ∧ B.2 11 s < B.1 2) ∧ B.2 10 s ≠ B.2 11 s ∧ (1 ≤ B.2 12 s ∧ B.2 12 s ≤ 999) ∧ (0 ≤ B.2 13 s ∧ B.2 13 s < B.1 1) ∧ (1 ≤ B.2 14 s ∧ B.2 14 s ≤ 999) ∧ (0 ≤ B.2 15 s ∧ B.2 15 s ≤ 400) ∧ (0 ≤ B.2 16 s ∧ B.2 16 s ≤ 99))
section Wf
variable {b : BT} {e : Nat}
theorem numS_in {lo hi : Int} {t : TK} {x : Int × TK} (h : numS b e lo hi t = .inr x) : lo ≤ x.1 ∧ x.1 ≤ hi := by
  unfold numS at h
  split at h
  · split at h
    · rename_i q
      cases h; exact q
    · cases h
  · cases h
theorem setR_ne {T : Nat → Nat → Int} {r i r' i' : Nat} {v : Int} (h : r' ≠ r ∨ i' ≠ i) : setR T r i v r' i' = T r' i' := by
  unfold setR
  rw [if_neg (fun z => by rcases h with h | h; exact h z.1; exact h z.2)]
theorem setR_eq {T : Nat → Nat → Int} {r i : Nat} {v : Int} : setR T r i v r i = v := by
  unfold setR
  rw [if_pos ⟨rfl, rfl⟩]
theorem setN_ne {N : Nat → Nat} {k k' v : Nat} (h : k' ≠ k) : setN N k v k' = N k' := by
  unfold setN
  rw [if_neg h]
theorem setN_eq {N : Nat → Nat} {k v : Nat} : setN N k v k = v := by
  unfold setN
  rw [if_pos rfl]
theorem tieS_in {t : TK} {f : Nat} {T : Nat → Nat → Int} {x : (Nat → Nat → Int) × TK} (h : tieS b e f T t = .inr x) : ∀ r i, r ≠ 6 → r ≠ 7 → x.1 r i = T r i := by
  unfold tieS at h
  split at h
  · rename_i q
    split at h
    · obtain ⟨a, h1, h2⟩ := bd_r h
      cases h2
      intro r i h6 h7
      rcases q.2 with z | z
      · rw [z]
        exact setR_ne (Or.inl h6)
      · rw [z]
        exact setR_ne (Or.inl h7)
    · cases h
  · cases h; exact fun _ _ _ _ => rfl
theorem dayS_in {since : Int} {t : TK} {x : Int × TK} (h : dayS b e since t = .inr x) : 0 ≤ x.1 ∧ x.1 ≤ 400 := by
  unfold dayS at h
  split at h
  · obtain ⟨z, z1, z2⟩ := bd_r h
    split at z2
    · cases z2
    · cases z2; exact numS_in z1
  · cases h
theorem markS_in {t : TK} {x : Int × TK} (h : markS b e t = .inr x) : 0 ≤ x.1 ∧ x.1 ≤ 99 := by
  unfold markS at h
  split at h
  · have := numS_in h
    omega
  · cases h; exact ⟨Int.le_refl 0, (by decide : (0 : Int) ≤ 99)⟩
theorem landS_wf {t : TK} {B : TB} {x : TB × TK} (hB : WfS B) (h : landS b e B t = .inr x) : WfS x.1 := by
  unfold landS at h
  obtain ⟨a, h1, h2⟩ := bd_r h
  obtain ⟨c, h3, h4⟩ := bd_r h2
  cases h4
  have hc := numS_in h3
  refine ⟨fun l hl => ?_, fun f hf => ?_, fun s hs => ?_⟩
  · have hl : l < setN B.1 0 (B.1 0 + 1) 0 := hl
    rw [setN_eq] at hl
    show 0 ≤ setR (setR B.2 0 (B.1 0) a.1) 1 (B.1 0) c.1 1 l ∧ setR (setR B.2 0 (B.1 0) a.1) 1 (B.1 0) c.1 1 l ≤ 40
    by_cases q : l = B.1 0
    · rw [q, setR_eq]; exact hc
    · rw [setR_ne (Or.inr q), setR_ne (Or.inl (by decide))]; exact hB.1 l (by omega)
  · have hf : f < setN B.1 0 (B.1 0 + 1) 2 := hf
    rw [setN_ne (by decide)] at hf
    have u : ∀ r, r ≠ 0 → r ≠ 1 → setR (setR B.2 0 (B.1 0) a.1) 1 (B.1 0) c.1 r f = B.2 r f := fun r h0 h1 => by
      rw [setR_ne (Or.inl h1), setR_ne (Or.inl h0)]
    have w := hB.2.1 f hf
    show (0 ≤ setR (setR B.2 0 (B.1 0) a.1) 1 (B.1 0) c.1 4 f ∧ setR (setR B.2 0 (B.1 0) a.1) 1 (B.1 0) c.1 4 f < (setN B.1 0 (B.1 0 + 1) 0 : Nat)) ∧ (0 ≤ setR (setR B.2 0 (B.1 0) a.1) 1 (B.1 0) c.1 5 f ∧ setR (setR B.2 0 (B.1 0) a.1) 1 (B.1 0) c.1 5 f ≤ 400) ∧ (0 ≤ setR (setR B.2 0 (B.1 0) a.1) 1 (B.1 0) c.1 8 f ∧ setR (setR B.2 0 (B.1 0) a.1) 1 (B.1 0) c.1 8 f ≤ 999999)
    rw [u 4 (by decide) (by decide), u 5 (by decide) (by decide), u 8 (by decide) (by decide), setN_eq]
    omega
  · have hs : s < setN B.1 0 (B.1 0 + 1) 3 := hs
    rw [setN_ne (by decide)] at hs
    have u : ∀ r, r ≠ 0 → r ≠ 1 → setR (setR B.2 0 (B.1 0) a.1) 1 (B.1 0) c.1 r s = B.2 r s := fun r h0 h1 => by
      rw [setR_ne (Or.inl h1), setR_ne (Or.inl h0)]
    have w := hB.2.2 s hs
    simp only [u 10 (by decide) (by decide), u 11 (by decide) (by decide), u 12 (by decide) (by decide), u 13 (by decide) (by decide), u 14 (by decide) (by decide), u 15 (by decide) (by decide), u 16 (by decide) (by decide), setN_ne (show (2 : Nat) ≠ 0 by decide), setN_ne (show (1 : Nat) ≠ 0 by decide)]
    exact w
theorem goodS_wf {t : TK} {B : TB} {x : TB × TK} (hB : WfS B) (h : goodS b e B t = .inr x) : WfS x.1 := by
  unfold goodS at h
  obtain ⟨a, h1, h2⟩ := bd_r h
  cases h2
  refine ⟨fun l hl => ?_, fun f hf => ?_, fun s hs => ?_⟩
  · have hl : l < setN B.1 1 (B.1 1 + 1) 0 := hl
    rw [setN_ne (by decide)] at hl
    show 0 ≤ setR B.2 2 (B.1 1) a.1 1 l ∧ setR B.2 2 (B.1 1) a.1 1 l ≤ 40
    rw [setR_ne (Or.inl (by decide))]
    exact hB.1 l hl
  · have hf : f < setN B.1 1 (B.1 1 + 1) 2 := hf
    rw [setN_ne (by decide)] at hf
    have u : ∀ r, r ≠ 2 → setR B.2 2 (B.1 1) a.1 r f = B.2 r f := fun r h0 => setR_ne (Or.inl h0)
    have w := hB.2.1 f hf
    simp only [u 4 (by decide), u 5 (by decide), u 8 (by decide), setN_ne (show (0 : Nat) ≠ 1 by decide)]
    exact w
  · have hs : s < setN B.1 1 (B.1 1 + 1) 3 := hs
    rw [setN_ne (by decide)] at hs
    have u : ∀ r, r ≠ 2 → setR B.2 2 (B.1 1) a.1 r s = B.2 r s := fun r h0 => setR_ne (Or.inl h0)
    have w := hB.2.2 s hs
    simp only [u 10 (by decide), u 11 (by decide), u 12 (by decide), u 13 (by decide), u 14 (by decide), u 15 (by decide), u 16 (by decide), setN_ne (show (2 : Nat) ≠ 1 by decide), setN_eq]
    omega
theorem firmS_wf {t : TK} {B : TB} {x : TB × TK} (hB : WfS B) (h : firmS b e B t = .inr x) : WfS x.1 := by
  unfold firmS at h
  obtain ⟨a, h1, h2⟩ := bd_r h
  obtain ⟨c, h3, h4⟩ := bd_r h2
  obtain ⟨d, h5, h6⟩ := bd_r h4
  obtain ⟨u, h7, h8⟩ := bd_r h6
  obtain ⟨v, h9, h10⟩ := bd_r h8
  obtain ⟨w, h11, h12⟩ := bd_r h10
  cases h12
  have hc := tolS_lt h3
  have hc2 : c < B.1 0 := hc.2
  have hd := numS_in h5
  have k : ∀ r i, r ≠ 6 → r ≠ 7 → w.1 r i = firmR B a.1 c d.1 r i := fun r i y z => by
    rw [tieS_in h11 r i y z, tieS_in h9 r i y z, tieS_in h7 r i y z]
  have kn : ∀ r i, r ≠ 6 → r ≠ 7 → (i ≠ B.1 2 ∨ r < 3 ∨ 9 < r) → w.1 r i = B.2 r i := fun r i y z q => by
    rw [k r i y z]
    unfold firmR
    rcases q with q | q
    · rw [setR_ne (Or.inr q), setR_ne (Or.inr q), setR_ne (Or.inr q), setR_ne (Or.inr q), setR_ne (Or.inr q), setR_ne (Or.inr q), setR_ne (Or.inr q)]
    · rw [setR_ne (Or.inl (by omega)), setR_ne (Or.inl (by omega)), setR_ne (Or.inl (by omega)), setR_ne (Or.inl (by omega)), setR_ne (Or.inl (by omega)), setR_ne (Or.inl (by omega)), setR_ne (Or.inl (by omega))]
  refine ⟨fun l hl => ?_, fun f hf => ?_, fun s hs => ?_⟩
  · have hl : l < setN B.1 2 (B.1 2 + 1) 0 := hl
    rw [setN_ne (by decide)] at hl
    show 0 ≤ w.1 1 l ∧ w.1 1 l ≤ 40
    rw [kn 1 l (by decide) (by decide) (by omega)]
    exact hB.1 l hl
  · have hf : f < setN B.1 2 (B.1 2 + 1) 2 := hf
    rw [setN_eq] at hf
    show (0 ≤ w.1 4 f ∧ w.1 4 f < (setN B.1 2 (B.1 2 + 1) 0 : Nat)) ∧ (0 ≤ w.1 5 f ∧ w.1 5 f ≤ 400) ∧ (0 ≤ w.1 8 f ∧ w.1 8 f ≤ 999999)
    rw [setN_ne (by decide)]
    by_cases q : f = B.1 2
    · subst q
      have e4 : firmR B a.1 c d.1 4 (B.1 2) = c := by
        unfold firmR
        rw [setR_ne (Or.inl (by decide)), setR_ne (Or.inl (by decide)), setR_ne (Or.inl (by decide)), setR_ne (Or.inl (by decide)), setR_ne (Or.inl (by decide)), setR_eq]
      have e5 : firmR B a.1 c d.1 5 (B.1 2) = d.1 := by
        unfold firmR
        rw [setR_ne (Or.inl (by decide)), setR_ne (Or.inl (by decide)), setR_ne (Or.inl (by decide)), setR_ne (Or.inl (by decide)), setR_eq]
      have e8 : firmR B a.1 c d.1 8 (B.1 2) = 0 := by
        unfold firmR
        rw [setR_ne (Or.inl (by decide)), setR_eq]
      rw [k 4 _ (by decide) (by decide), k 5 _ (by decide) (by decide), k 8 _ (by decide) (by decide), e4, e5, e8]
      omega
    · rw [kn 4 f (by decide) (by decide) (Or.inl q), kn 5 f (by decide) (by decide) (Or.inl q), kn 8 f (by decide) (by decide) (Or.inl q)]
      exact hB.2.1 f (by omega)
  · have hs : s < setN B.1 2 (B.1 2 + 1) 3 := hs
    rw [setN_ne (by decide)] at hs
    have y := hB.2.2 s hs
    have z : ∀ r, 9 < r → w.1 r s = B.2 r s := fun r hr => kn r s (by omega) (by omega) (Or.inr (Or.inr hr))
    simp only [z 10 (by decide), z 11 (by decide), z 12 (by decide), z 13 (by decide), z 14 (by decide), z 15 (by decide), z 16 (by decide), setN_eq, setN_ne (show (1 : Nat) ≠ 2 by decide)]
    omega
theorem saleS_wf {t : TK} {B : TB} {x : TB × TK} (hB : WfS B) (h : saleS b e B t = .inr x) : WfS x.1 := by
  unfold saleS at h
  split at h
  · cases h
  · obtain ⟨a, h1, h2⟩ := bd_r h
    obtain ⟨c, h3, h4⟩ := bd_r h2
    split at h4
    · cases h4
    · rename_i hne
      obtain ⟨d, h5, h6⟩ := bd_r h4
      obtain ⟨u, h7, h8⟩ := bd_r h6
      obtain ⟨v, h9, h10⟩ := bd_r h8
      obtain ⟨w, h11, h12⟩ := bd_r h10
      obtain ⟨k, h13, h14⟩ := bd_r h12
      cases h14
      have ha := tolS_lt h1
      have ha2 : a < B.1 2 := ha.2
      have hc := tolS_lt h3
      have hc2 : c < B.1 2 := hc.2
      have hd := numS_in h5
      have hu := tolS_lt h7
      have hu2 : u < B.1 1 := hu.2
      have hv := numS_in h9
      have hw := dayS_in h11
      have hk := markS_in h13
      have kn : ∀ r i, (i ≠ B.1 3 ∨ r < 10) → saleR B a c d.1 u v.1 w.1 k.1 r i = B.2 r i := fun r i q => by
        unfold saleR
        rcases q with q | q
        · rw [setR_ne (Or.inr q), setR_ne (Or.inr q), setR_ne (Or.inr q), setR_ne (Or.inr q), setR_ne (Or.inr q), setR_ne (Or.inr q), setR_ne (Or.inr q)]
        · rw [setR_ne (Or.inl (by omega)), setR_ne (Or.inl (by omega)), setR_ne (Or.inl (by omega)), setR_ne (Or.inl (by omega)), setR_ne (Or.inl (by omega)), setR_ne (Or.inl (by omega)), setR_ne (Or.inl (by omega))]
      refine ⟨fun l hl => ?_, fun f hf => ?_, fun s hs => ?_⟩
      · have hl : l < setN B.1 3 (B.1 3 + 1) 0 := hl
        rw [setN_ne (by decide)] at hl
        show 0 ≤ saleR B a c d.1 u v.1 w.1 k.1 1 l ∧ saleR B a c d.1 u v.1 w.1 k.1 1 l ≤ 40
        rw [kn 1 l (by omega)]
        exact hB.1 l hl
      · have hf : f < setN B.1 3 (B.1 3 + 1) 2 := hf
        rw [setN_ne (by decide)] at hf
        have y := hB.2.1 f hf
        simp only [kn 4 f (by omega), kn 5 f (by omega), kn 8 f (by omega), setN_ne (show (0 : Nat) ≠ 3 by decide)]
        exact y
      · have hs : s < setN B.1 3 (B.1 3 + 1) 3 := hs
        rw [setN_eq] at hs
        simp only [setN_ne (show (1 : Nat) ≠ 3 by decide), setN_ne (show (2 : Nat) ≠ 3 by decide)]
        by_cases q : s = B.1 3
        · subst q
          have e10 : saleR B a c d.1 u v.1 w.1 k.1 10 (B.1 3) = a := by
            unfold saleR
            rw [setR_ne (Or.inl (by decide)), setR_ne (Or.inl (by decide)), setR_ne (Or.inl (by decide)), setR_ne (Or.inl (by decide)), setR_ne (Or.inl (by decide)), setR_ne (Or.inl (by decide)), setR_eq]
          have e11 : saleR B a c d.1 u v.1 w.1 k.1 11 (B.1 3) = c := by
            unfold saleR
            rw [setR_ne (Or.inl (by decide)), setR_ne (Or.inl (by decide)), setR_ne (Or.inl (by decide)), setR_ne (Or.inl (by decide)), setR_ne (Or.inl (by decide)), setR_eq]
          have e12 : saleR B a c d.1 u v.1 w.1 k.1 12 (B.1 3) = d.1 := by
            unfold saleR
            rw [setR_ne (Or.inl (by decide)), setR_ne (Or.inl (by decide)), setR_ne (Or.inl (by decide)), setR_ne (Or.inl (by decide)), setR_eq]
          have e13 : saleR B a c d.1 u v.1 w.1 k.1 13 (B.1 3) = u := by
            unfold saleR
            rw [setR_ne (Or.inl (by decide)), setR_ne (Or.inl (by decide)), setR_ne (Or.inl (by decide)), setR_eq]
          have e14 : saleR B a c d.1 u v.1 w.1 k.1 14 (B.1 3) = v.1 := by
            unfold saleR
            rw [setR_ne (Or.inl (by decide)), setR_ne (Or.inl (by decide)), setR_eq]
          have e15 : saleR B a c d.1 u v.1 w.1 k.1 15 (B.1 3) = w.1 := by
            unfold saleR
            rw [setR_ne (Or.inl (by decide)), setR_eq]
          have e16 : saleR B a c d.1 u v.1 w.1 k.1 16 (B.1 3) = k.1 := by
            unfold saleR
            rw [setR_eq]
          rw [e10, e11, e12, e13, e14, e15, e16]
          omega
        · simp only [kn 10 s (Or.inl q), kn 11 s (Or.inl q), kn 12 s (Or.inl q), kn 13 s (Or.inl q), kn 14 s (Or.inl q), kn 15 s (Or.inl q), kn 16 s (Or.inl q)]
          exact hB.2.2 s (by omega)
theorem paidS_wf {t : TK} {B : TB} {x : TB × TK} (hB : WfS B) (h : paidS b e B t = .inr x) : WfS x.1 := by
  unfold paidS at h
  obtain ⟨a, h1, h2⟩ := bd_r h
  split at h2
  · cases h2
  · obtain ⟨c, h3, h4⟩ := bd_r h2
    cases h4
    have hc := numS_in h3
    have kn : ∀ r i, r ≠ 8 → r ≠ 9 → setR (setR B.2 8 a.toNat c.1) 9 a.toNat 1 r i = B.2 r i := fun r i y z => by
      rw [setR_ne (Or.inl z), setR_ne (Or.inl y)]
    refine ⟨fun l hl => ?_, fun f hf => ?_, fun s hs => ?_⟩
    · show 0 ≤ setR (setR B.2 8 a.toNat c.1) 9 a.toNat 1 1 l ∧ setR (setR B.2 8 a.toNat c.1) 9 a.toNat 1 1 l ≤ 40
      rw [kn 1 l (by decide) (by decide)]
      exact hB.1 l hl
    · have y := hB.2.1 f hf
      have e8 : 0 ≤ setR (setR B.2 8 a.toNat c.1) 9 a.toNat 1 8 f ∧ setR (setR B.2 8 a.toNat c.1) 9 a.toNat 1 8 f ≤ 999999 := by
        rw [setR_ne (Or.inl (by decide))]
        by_cases q : f = a.toNat
        · rw [q, setR_eq]; exact hc
        · rw [setR_ne (Or.inr q)]; exact y.2.2
      simp only [kn 4 f (by decide) (by decide), kn 5 f (by decide) (by decide)]
      exact ⟨y.1, y.2.1, e8⟩
    · have y := hB.2.2 s hs
      simp only [kn 10 s (by decide) (by decide), kn 11 s (by decide) (by decide), kn 12 s (by decide) (by decide), kn 13 s (by decide) (by decide), kn 14 s (by decide) (by decide), kn 15 s (by decide) (by decide), kn 16 s (by decide) (by decide)]
      exact y
theorem lineS_wf {t : TK} {B : TB} {x : TB × TK} (hB : WfS B) (h : lineS b e B t = .inr x) : WfS x.1 := by
  unfold lineS at h
  obtain ⟨a, h1, h2⟩ := bd_r h
  have g : WfS a.1 := by
    unfold bodyS at h1
    split at h1
    · split at h1
      · exact landS_wf hB h1
      · split at h1
        · exact goodS_wf hB h1
        · split at h1
          · exact firmS_wf hB h1
          · split at h1
            · exact saleS_wf hB h1
            · split at h1
              · exact paidS_wf hB h1
              · cases h1
    · cases h1
  split at h2
  · cases h2; exact g
  · cases h2
theorem bookS_wf : ∀ (n : Nat) (B : TB) (t : TK) (ln : Nat) (x : TB × Nat), WfS B → bookS b e n B t ln = .inr x → WfS x.1
  | 0, B, t, ln, x, hB, h => by
    cases h; exact hB
  | n + 1, B, t, ln, x, hB, h => by
    have h : (if t.1 = 0 then (.inr (B, ln) : ER (TB × Nat)) else bd (lineS b e B t) fun x => bookS b e n x.1 x.2 (ln + 1)) = .inr x := h
    split at h
    · cases h; exact hB
    · obtain ⟨a, h1, h2⟩ := bd_r h
      exact bookS_wf n a.1 a.2 (ln + 1) x (lineS_wf hB h1) h2
theorem readS_wf {x : TB × Nat} (h : readS b e = .inr x) : WfS x.1 :=
  bookS_wf 801 B0 _ 0 x ⟨fun l hl => absurd hl (Nat.not_lt_zero _), fun l hl => absurd hl (Nat.not_lt_zero _), fun l hl => absurd hl (Nat.not_lt_zero _)⟩ h
end Wf
