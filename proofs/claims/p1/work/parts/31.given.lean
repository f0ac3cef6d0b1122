/-! the start: what the Statement gives, the three objects, the law's body -/
theorem nsI_ok {args : Array Value} {s : State} (hts : ∀ w ∈ lw_tbl, w.before args s = true) : ∀ q ∈ nsI, va_Nw (.methodLinkNest q.1 q.2.1 q.2.2.1 q.2.2.2) s := by
  intro q hq
  simp only [nsI, List.mem_cons, List.not_mem_nil, or_false] at hq
  rcases hq with rfl | rfl | rfl | rfl | rfl | rfl
  · exact va_Nw.of rfl (hts _ (List.mem_of_getElem? (i := 119) (by decide +kernel)))
  · exact va_Nw.of rfl (hts _ (List.mem_of_getElem? (i := 157) (by decide +kernel)))
  · exact va_Nw.of rfl (hts _ (List.mem_of_getElem? (i := 219) (by decide +kernel)))
  · exact va_Nw.of rfl (hts _ (List.mem_of_getElem? (i := 259) (by decide +kernel)))
  · exact va_Nw.of rfl (hts _ (List.mem_of_getElem? (i := 265) (by decide +kernel)))
  · exact va_Nw.of rfl (hts _ (List.mem_of_getElem? (i := 281) (by decide +kernel)))
theorem nsL_ok {args : Array Value} {s : State} (hts : ∀ w ∈ lw_tbl, w.before args s = true) : ∀ q ∈ nsL, va_Nw (.methodLinkNest q.1 q.2.1 q.2.2.1 q.2.2.2) s := by
  intro q hq
  simp only [nsL, List.mem_cons, List.not_mem_nil, or_false] at hq
  rcases hq with rfl | rfl | rfl
  · exact va_Nw.of rfl (hts _ (List.mem_of_getElem? (i := 505) (by decide +kernel)))
  · exact va_Nw.of rfl (hts _ (List.mem_of_getElem? (i := 684) (by decide +kernel)))
  · exact va_Nw.of rfl (hts _ (List.mem_of_getElem? (i := 710) (by decide +kernel)))
theorem ndB_ok {args : Array Value} {s : State} (hts : ∀ w ∈ lw_tbl, w.before args s = true) : ∀ w ∈ ndB, va_Nw w s := by
  intro w hw
  have ht := ndB_tab w hw
  simp only [ndB, List.mem_cons, List.not_mem_nil, or_false] at hw
  rcases hw with rfl | rfl | rfl | rfl
  · exact va_Nw.of ht (hts _ (List.mem_of_getElem? (i := 915) (by decide +kernel)))
  · exact va_Nw.of ht (hts _ (List.mem_of_getElem? (i := 917) (by decide +kernel)))
  · exact va_Nw.of ht (hts _ (List.mem_of_getElem? (i := 919) (by decide +kernel)))
  · exact va_Nw.of ht (hts _ (List.mem_of_getElem? (i := 913) (by decide +kernel)))
theorem arr_ok {args : Array Value} {s : State} {ty : FieldType} (h : (Cond.arrayClass ty).before args s = true) : ∃ cA : ClassId, ArrOfT s cA ty ∧ s.vm.findClass ("[" ++ ty.toString) = some cA := by
  obtain ⟨cA, kA, comp, h1, h2, h3⟩ := Cond.arrayClass_spec h
  exact ⟨cA, fun n z => ⟨fun k h => (by cases h), kA, h2, comp, h3⟩, h1⟩
/-- the tables of a world, at the start -/
theorem k_ok {args : Array Value} {s : State} (hG : ∀ w ∈ wsG, w.before args s = true) : ∃ (dC : Nat → ClassId) (dI : Nat → Nat → Nat) (dA : Nat → ClassId), va_K (dC, dI) classes (tysL dA) s := by
  obtain ⟨c0, i0, k0⟩ := u_known (C := RX0) (T := TX0) (N := 13) (n := 13) hG iwX0 (hG _ wd258)
  obtain ⟨c1, i1, k1⟩ := u_known (C := RX1) (T := TX1) (N := 17) (n := 17) hG iwX1 (hG _ wd156)
  obtain ⟨c2, i2, k2⟩ := u_known (C := RX2) (T := TX2) (N := 2) (n := 2) hG iwX2 (hG _ wd264)
  obtain ⟨c3, i3, k3⟩ := u_known (C := RX3) (T := TX3) (N := 9) (n := 9) hG iwX3 (hG _ wd118)
  obtain ⟨c4, i4, k4⟩ := u_known (C := RX4) (T := TX4) (N := 9) (n := 9) hG iwX4 (hG _ wd280)
  obtain ⟨c5, i5, k5⟩ := u_known (C := RX5) (T := TX5) (N := 11) (n := 11) hG iwX5 (hG _ wd218)
  obtain ⟨c6, i6, k6⟩ := u_known (C := RX6) (T := TX6) (N := 11) (n := 11) hG iwX6 (hG _ (tw1 21 (w := .instantiable RX6 11) rfl rfl))
  obtain ⟨c7, i7, k7⟩ := u_known (C := RX7) (T := TX7) (N := 56) (n := 56) hG iwX7 (hG _ (tw4 186 (w := .instantiable RX7 56) rfl rfl))
  obtain ⟨a8, r8, n8⟩ := arr_ok (hG _ wd216)
  obtain ⟨a9, r9, n9⟩ := arr_ok (hG _ wd215)
  obtain ⟨a10, r10, n10⟩ := arr_ok (hG _ wd154)
  obtain ⟨a11, r11, n11⟩ := arr_ok (hG _ wd400)
  refine ⟨fun k => [c0, c1, c2, c3, c4, c5, c6, c7].getD k c0, fun k => [i0, i1, i2, i3, i4, i5, i6, i7].getD k i0, fun k => [a8, a9, a10, a11].getD (k - 8) a8, fun c q hq => ?_, fun k q hq => ?_⟩
  · match c, hq with
    | 0, hq => cases hq; exact k0
    | 1, hq => cases hq; exact k1
    | 2, hq => cases hq; exact k2
    | 3, hq => cases hq; exact k3
    | 4, hq => cases hq; exact k4
    | 5, hq => cases hq; exact k5
    | 6, hq => cases hq; exact k6
    | 7, hq => cases hq; exact k7
    | c + 8, hq => simp [classes] at hq
  · match k, hq with
    | 0, hq => cases hq; exact ⟨r8, n8⟩
    | 1, hq => cases hq; exact ⟨r9, n9⟩
    | 2, hq => cases hq; exact ⟨r10, n10⟩
    | 3, hq => cases hq; exact ⟨r11, n11⟩
    | k + 4, hq => simp [tysL] at hq
theorem xc_ok {b : Nat} {s : State} (hts : ∀ w ∈ lw_tbl, w.before #[Value.ref b] s = true) (hgv : (Jvm.Cond.and given_1 narrow_1).before #[Value.ref b] s = true) : ∃ sa, XcL (fun q => s.heap.size ≤ q) sa s s.heap := by
  have hs := flat_of_before _ hgv
  have hst : (Cond.stringRef "SaleRounds" 120 "no such sale").before #[Value.ref b] s = true := hts _ (List.mem_of_getElem? (i := 951) (by decide +kernel))
  have hex : (Cond.exactly (Term.string "SaleRounds" 120) "java/lang/String").before #[Value.ref b] s = true := hs _ (by decide +kernel)
  obtain ⟨sa, _, _, _, hev, -⟩ := Cond.exactly_spec hex
  have hA : ∀ a : Nat, a < s.heap.size → ¬ (fun q : Nat => s.heap.size ≤ q) a := fun a h => Nat.not_le.mpr h
  have hini : (Cond.initialized Bundle.tN).before #[Value.ref b] s = true := hts _ (List.mem_of_getElem? (i := 103) (by decide +kernel))
  refine ⟨sa, ⟨vx_Zqof (hts _ (List.mem_of_getElem? (i := 938) (by decide +kernel))) hini (hs _ (by decide +kernel)) hA, vx_Zqof (hts _ (List.mem_of_getElem? (i := 940) (by decide +kernel))) hini (hs _ (by decide +kernel)) hA⟩, ndB_ok hts, vk_R.of hst hev⟩
