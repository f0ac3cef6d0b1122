/-! the model's words: length and charAt of the text, by hand -/
def m_slen : MI := (⟨"java/lang/String", "length", "()I"⟩, prog_18_method_54_code, 1, (some .int), "java/lang/String")
theorem mi_slen : MiOk m_slen 0 := ⟨by decide, rfl, by decide, ⟨by decide, by decide, by decide +kernel⟩, by decide, tw5 147 rfl rfl, tw1 10 rfl rfl⟩
def m_scod : MI := (⟨"java/lang/String", "coder", "()B"⟩, prog_18_method_152_code, 1, (some .byte), "java/lang/String")
theorem mi_scod : MiOk m_scod 0 := ⟨by decide, rfl, by decide, ⟨by decide, by decide, by decide +kernel⟩, by decide, tw5 151 rfl rfl, tw1 10 rfl rfl⟩
def m_schr : MI := (⟨"java/lang/String", "charAt", "(I)C"⟩, prog_18_method_56_code, 2, (some .char), "java/lang/String")
theorem mi_schr : MiOk m_schr 1 := ⟨by decide, rfl, by decide, ⟨by decide, by decide, by decide +kernel⟩, by decide, tw5 157 rfl rfl, tw1 10 rfl rfl⟩
def m_slat : MI := (⟨"java/lang/String", "isLatin1", "()Z"⟩, prog_18_method_154_code, 1, (some .boolean), "java/lang/String")
theorem mi_slat : MiOk m_slat 0 := ⟨by decide, rfl, by decide, ⟨by decide, by decide, by decide +kernel⟩, by decide, tw5 161 rfl rfl, tw1 10 rfl rfl⟩
def m_lchr : MI := (⟨"java/lang/StringLatin1", "charAt", "([BI)C"⟩, prog_19_method_2_code, 2, (some .char), "java/lang/StringLatin1")
theorem mi_lchr : MiOk m_lchr 2 := ⟨by decide, rfl, by decide, ⟨by decide, by decide, by decide +kernel⟩, by decide, tw5 164 rfl rfl, tw1 11 rfl rfl⟩
def m_sci : MI := (⟨"java/lang/String", "checkIndex", "(II)V"⟩, prog_18_method_155_code, 2, none, "java/lang/String")
theorem mi_sci : MiOk m_sci 2 := ⟨by decide, rfl, by decide, ⟨by decide, by decide, by decide +kernel⟩, by decide, tw5 167 rfl rfl, tw1 10 rfl rfl⟩
def m_pci : MI := (⟨"jdk/internal/util/Preconditions", "checkIndex", "(IILjava/util/function/BiFunction;)I"⟩, prog_25_method_11_code, 3, (some .int), "jdk/internal/util/Preconditions")
theorem mi_pci : MiOk m_pci 3 := ⟨by decide, rfl, by decide, ⟨by decide, by decide, by decide +kernel⟩, by decide, tw5 172 rfl rfl, tw1 12 rfl rfl⟩
/-- where the JDK's own methods run: the code, the tables, the text -/
def JX (D : Nat) (μ : MI) (p : Program) (R : Room) (s : State) (mid : MethodId) (args : Array Value) (c : Code) (A : Nat → Prop) (kV : (Nat → Nat) × (Nat → Nat)) (C0 S0 : Nat) : Prop :=
  p.tables.exec = Jvm.exec ∧ c.code = μ.2.1 ∧ c.maxLocals = μ.2.2.1 ∧ s.vm.findClass μ.2.2.2.2 = some mid.cls ∧ (∀ w ∈ wsG, w.before args s = true) ∧ StK A kV s s.heap ∧ D ≤ R.frames ∧ 64 * D ≤ R.locals ∧ C0 ≤ R.cells ∧ S0 ≤ R.slots
def PcS (A : Nat → Prop) (kV : (Nat → Nat) × (Nat → Nat)) (as : List Value) (H0 : Heap) : Array Value → State → Prop := va_Pc as (fun U => U.heap = H0 ∧ StK A kV U H0)
abbrev QcS (A : Nat → Prop) (H0 : Heap) (r : Int32) : Array Value → State → Outcome → State → Prop := va_Qi (fun v (_ : Unit) => v = r) (fun _ t => t.heap = H0) A
abbrev QvS (A : Nat → Prop) (H0 : Heap) : Array Value → State → Outcome → State → Prop := va_Qv (fun (_ : Unit) => True) (fun _ t => t.heap = H0) A
theorem blindS {A : Nat → Prop} {kV : (Nat → Nat) × (Nat → Nat)} {as : List Value} {H0 : Heap} : FrameBlind (PcS A kV as H0) := by
  intro a U g mk h
  obtain ⟨h0, h1, h2⟩ := h
  exact ⟨h0, h1, h2.blind⟩
def rmJ (d : Nat) : Room := { frames := d, cells := 0, slots := 0, locals := 64 * d }
section JDK
variable {D d n x pc : Nat} {μ μ' : MI} {p : Program} {l : Launch} {e : Env} {R : Room} {s : State} {mid : MethodId} {args : Array Value} {below : List Frame} {meth : Method} {c : Code} {A : Nat → Prop} {kV : (Nat → Nat) × (Nat → Nat)} {C0 S0 : Nat} {H : Heap} {locs : List Loc} {la : Array Slot} {as rest : List Value} {r : Int32} {Qf : State → Prop}
theorem jpre (hJ : JX D μ p R s mid args c A kV C0 S0) (hS : va_S A s.heap H locs) (U : State) (hU : U.heap = H) (hW : s.WarmedH U.vm) : PcS A kV as H as.toArray U := ⟨rfl, hU, hJ.2.2.2.2.2.1.to hS.2.1 (fun _ h => h) hW⟩
theorem jG (hm : MiOk μ' n) : GoodIn wsG (wsK μ') := goodG (fun w hw => (List.mem_cons.mp hw).elim (fun q => q ▸ hm.2.2.2.2.2.1) id)
theorem jcallV (hJ : JX D μ p R s mid args c A kV C0 S0) (hm : MiOk μ' n) (hcl : μ'.1.cls = "java/lang/String") (hd : decode μ.2.1 pc = .ok (.invokevirtual x, 3)) (w1 : Cond.methodLink μ.2.2.2.2 x μ'.1 ∈ wsG) (w2 : Cond.instanceMethod μ'.1 ∈ wsG) (w3 : Cond.selects "java/lang/String" μ'.1 μ'.1 ∈ wsG) (hS : va_S A s.heap H locs) (hsz : la.size = μ.2.2.1) (hlen : as.length = n) (hcat : (rest.map fun v => v.category).sum ≤ 8) (hd' : d < D)
    (hM : Met l μ'.1 (wsK μ') (rmJ d) (PcS A kV (.ref (kV.1 0) :: as) H) (QcS A H r) 0 0 A) (k : ∀ locs1, va_S A s.heap H locs1 → W p l e R s mid args below meth c H locs1 C0 S0 Qf (F0 mid (pc + 3) la (.int r :: rest))) :
    W p l e R s mid args below meth c H locs C0 S0 Qf (F0 mid pc la (as.reverse ++ .ref (kV.1 0) :: rest)) := by
  obtain ⟨j1, j2, j3, j4, j5, j6, j7, j8, j9, j10⟩ := id hJ
  have hrun := va_runV (p := p) (l := l) (e := e) (R := R) (s := s) (m := mid) (args := args) (below := below) (meth := meth) (c := c) (H := H) (locs := locs) (cells := C0) (slots := S0) (As := as) (rest := rest) (b := kV.1 0) (C := "java/lang/String") (g := F0 mid pc la (as.reverse ++ .ref (kV.1 0) :: rest)) (n := n) (own := μ.2.2.2.2) (index := x) (bytes := μ'.2.1) (maxL := μ'.2.2.1) (ret := μ'.2.2.2.1)
    ⟨j1, j2, j3, j4, j5⟩ hM ⟨callB_of n j5 (jG hm) rfl rfl rfl (j5 _ hm.2.2.2.2.2.2) (j5 _ w1) hm.2.2.2.1 ⟨by show d + 1 ≤ R.frames; omega, by
      show 8 + (μ'.2.2.1 + 11) + 64 * d ≤ R.locals
      have := hm.2.2.2.2.1
      omega⟩, j5 _ w2, j5 _ w3⟩ ⟨blindS, vk_recv j6.2.2.2 (by decide) hS, jpre hJ hS⟩ rfl hlen hsz rfl (by
      show 2 * 0 + _ ≤ 8
      omega) hd ⟨j9, j10⟩
  refine va_calli hrun hS (fun q _ h => h) (fun q h => h) (fun v u t H1 locs1 ht hvm hpost hB hz hk hS1 => ?_)
  have e : H1 = H := ht.symm.trans hB
  subst e
  subst hpost
  exact k locs1 hS1
theorem jcallS (hJ : JX D μ p R s mid args c A kV C0 S0) (hm : MiOk μ' n) (hd : decode μ.2.1 pc = .ok (.invokestatic x, 3)) (w1 : Cond.methodLink μ.2.2.2.2 x μ'.1 ∈ wsG) (w2 : Cond.static μ'.1 ∈ wsG) (hS : va_S A s.heap H locs) (hsz : la.size = μ.2.2.1) (hlen : as.length = n) (hcat : (rest.map fun v => v.category).sum ≤ 8) (hd' : d < D)
    (hM : Met l μ'.1 (wsK μ') (rmJ d) (PcS A kV as H) (QcS A H r) 0 0 A) (k : ∀ locs1, va_S A s.heap H locs1 → W p l e R s mid args below meth c H locs1 C0 S0 Qf (F0 mid (pc + 3) la (.int r :: rest))) :
    W p l e R s mid args below meth c H locs C0 S0 Qf (F0 mid pc la (as.reverse ++ rest)) := by
  obtain ⟨j1, j2, j3, j4, j5, j6, j7, j8, j9, j10⟩ := id hJ
  have hrun := va_runS (p := p) (l := l) (e := e) (R := R) (s := s) (m := mid) (args := args) (below := below) (meth := meth) (c := c) (H := H) (locs := locs) (cells := C0) (slots := S0) (As := as) (rest := rest) (g := F0 mid pc la (as.reverse ++ rest)) (n := n) (own := μ.2.2.2.2) (index := x) (bytes := μ'.2.1) (maxL := μ'.2.2.1) (ret := μ'.2.2.2.1)
    ⟨j1, j2, j3, j4, j5⟩ hM ⟨callB_of n j5 (jG hm) rfl rfl rfl (j5 _ hm.2.2.2.2.2.2) (j5 _ w1) hm.2.2.2.1 ⟨by show d + 1 ≤ R.frames; omega, by
      show 8 + (μ'.2.2.1 + 11) + 64 * d ≤ R.locals
      have := hm.2.2.2.2.1
      omega⟩, j5 _ w2⟩ ⟨blindS, jpre hJ hS⟩ rfl hlen hsz rfl (by
      show 2 * 0 + _ ≤ 8
      omega) hd ⟨j9, j10⟩
  refine va_calli hrun hS (fun q _ h => h) (fun q h => h) (fun v u t H1 locs1 ht hvm hpost hB hz hk hS1 => ?_)
  have e : H1 = H := ht.symm.trans hB
  subst e
  subst hpost
  exact k locs1 hS1
theorem jcallSv (hJ : JX D μ p R s mid args c A kV C0 S0) (hm : MiOk μ' n) (hd : decode μ.2.1 pc = .ok (.invokestatic x, 3)) (w1 : Cond.methodLink μ.2.2.2.2 x μ'.1 ∈ wsG) (w2 : Cond.static μ'.1 ∈ wsG) (hS : va_S A s.heap H locs) (hsz : la.size = μ.2.2.1) (hlen : as.length = n) (hcat : (rest.map fun v => v.category).sum ≤ 8) (hd' : d < D)
    (hM : Met l μ'.1 (wsK μ') (rmJ d) (PcS A kV as H) (QvS A H) 0 0 A) (k : ∀ locs1, va_S A s.heap H locs1 → W p l e R s mid args below meth c H locs1 C0 S0 Qf (F0 mid (pc + 3) la rest)) :
    W p l e R s mid args below meth c H locs C0 S0 Qf (F0 mid pc la (as.reverse ++ rest)) := by
  obtain ⟨j1, j2, j3, j4, j5, j6, j7, j8, j9, j10⟩ := id hJ
  have hrun := va_runS (p := p) (l := l) (e := e) (R := R) (s := s) (m := mid) (args := args) (below := below) (meth := meth) (c := c) (H := H) (locs := locs) (cells := C0) (slots := S0) (As := as) (rest := rest) (g := F0 mid pc la (as.reverse ++ rest)) (n := n) (own := μ.2.2.2.2) (index := x) (bytes := μ'.2.1) (maxL := μ'.2.2.1) (ret := μ'.2.2.2.1)
    ⟨j1, j2, j3, j4, j5⟩ hM ⟨callB_of n j5 (jG hm) rfl rfl rfl (j5 _ hm.2.2.2.2.2.2) (j5 _ w1) hm.2.2.2.1 ⟨by show d + 1 ≤ R.frames; omega, by
      show 8 + (μ'.2.2.1 + 11) + 64 * d ≤ R.locals
      have := hm.2.2.2.2.1
      omega⟩, j5 _ w2⟩ ⟨blindS, jpre hJ hS⟩ rfl hlen hsz rfl (by
      show 2 * 0 + _ ≤ 8
      omega) hd ⟨j9, j10⟩
  refine va_callv hrun hS (fun q _ h => h) (fun q h => h) (fun u t H1 locs1 ht hvm hpost hB hz hk hS1 => ?_)
  have e : H1 = H := ht.symm.trans hB
  subst e
  exact k locs1 hS1
end JDK
section JMets
variable {l : Launch} {A : Nat → Prop} {kV : (Nat → Nat) × (Nat → Nat)} {H0 : Heap} {d : Nat}
theorem j_scod : Met l m_scod.1 (wsK m_scod) (rmJ d) (PcS A kV [.ref (kV.1 0)] H0) (QcS A H0 0) 0 0 A := by
  refine Met.ofW (cc := m_scod.2.1) (maxL := 1) (ret := some .byte) mi_scod.1 rfl ?_
  intro p e s mid args below meth c s₁ B hml hv
  obtain ⟨rfl, rfl, hK⟩ := hv
  have hts := atoms_spec (ws := wsK m_scod) B.pre
  have hG : ∀ w ∈ wsG, w.before _ s = true := fun w hw => hts w (List.mem_cons_of_mem _ hw)
  have hown : s.vm.findClass m_scod.2.2.2.2 = some mid.cls := findClass_of_methodNamed B.named
  have hlocks := B.notSynchronized
  rw [lg_entry_eq]
  have hle := lv_entry [.ref (kV.1 0)] (n := 1) (by simp [lg_sl, Value.category])
  have l0 := hle.2.2 _ List.mem_cons_self
  have hJ : JX d m_scod p (rmJ d) s mid _ c A kV 0 0 := ⟨B.exec, B.bytes, hml, hown, hG, hK, Nat.le_refl _, Nat.le_refl _, Nat.zero_le _, Nat.zero_le _⟩
  refine va_gets B.exec B.bytes hK.2.1 va_S.rf hown (hG _ (tw5 152 rfl rfl)) (fun _ h => h) (by decide +kernel) ?_
  refine lv_if_eq B.exec B.bytes (off := 10) (tgt := 13) (by decide +kernel) (by decide) (fun h => absurd h (by decide)) (fun _ => ?_)
  refine lv_aload_n B.exec B.bytes (k := 0) (by decide +kernel) rfl l0 ?_
  refine vk_getf B.exec B.bytes (hK.2.2.2.1 0 (by decide)).2.1 va_S.rf hown (hG _ (tw6 236 rfl rfl)) (fun _ h => h) (by decide +kernel) ?_
  refine lv_goto B.exec B.bytes (off := 4) (tgt := 14) (by decide +kernel) (by decide) ?_
  exact W.zret B.exec B.bytes (B.returns.trans rfl) (by decide) (fun t ht hW => ⟨⟨_, (), rfl, rfl, ht⟩, (va_S.rf : va_S A s.heap s.heap _).F ht⟩) (va_S.rf : va_S A s.heap s.heap _).2.2 (by decide +kernel) hlocks
theorem j_slat : Met l m_slat.1 (wsK m_slat) (rmJ d) (PcS A kV [.ref (kV.1 0)] H0) (QcS A H0 1) 0 0 A := by
  refine Met.ofW (cc := m_slat.2.1) (maxL := 1) (ret := some .boolean) mi_slat.1 rfl ?_
  intro p e s mid args below meth c s₁ B hml hv
  obtain ⟨rfl, rfl, hK⟩ := hv
  have hts := atoms_spec (ws := wsK m_slat) B.pre
  have hG : ∀ w ∈ wsG, w.before _ s = true := fun w hw => hts w (List.mem_cons_of_mem _ hw)
  have hown : s.vm.findClass m_slat.2.2.2.2 = some mid.cls := findClass_of_methodNamed B.named
  have hlocks := B.notSynchronized
  rw [lg_entry_eq]
  have hle := lv_entry [.ref (kV.1 0)] (n := 1) (by simp [lg_sl, Value.category])
  have l0 := hle.2.2 _ List.mem_cons_self
  have hJ : JX d m_slat p (rmJ d) s mid _ c A kV 0 0 := ⟨B.exec, B.bytes, hml, hown, hG, hK, Nat.le_refl _, Nat.le_refl _, Nat.zero_le _, Nat.zero_le _⟩
  refine va_gets B.exec B.bytes hK.2.1 va_S.rf hown (hG _ (tw5 152 rfl rfl)) (fun _ h => h) (by decide +kernel) ?_
  refine lv_if_eq B.exec B.bytes (off := 14) (tgt := 17) (by decide +kernel) (by decide) (fun h => absurd h (by decide)) (fun _ => ?_)
  refine lv_aload_n B.exec B.bytes (k := 0) (by decide +kernel) rfl l0 ?_
  refine vk_getf B.exec B.bytes (hK.2.2.2.1 0 (by decide)).2.1 va_S.rf hown (hG _ (tw6 236 rfl rfl)) (fun _ h => h) (by decide +kernel) ?_
  refine lv_if_ne B.exec B.bytes (off := 7) (tgt := 17) (by decide +kernel) (by decide) (fun h => absurd rfl h) (fun _ => ?_)
  refine lv_iconst B.exec B.bytes (n := 1) (v := 1) (by decide +kernel) (by decide) ?_
  refine lv_goto B.exec B.bytes (off := 4) (tgt := 18) (by decide +kernel) (by decide) ?_
  exact W.zret B.exec B.bytes (B.returns.trans rfl) (by decide) (fun t ht hW => ⟨⟨_, (), rfl, rfl, ht⟩, (va_S.rf : va_S A s.heap s.heap _).F ht⟩) (va_S.rf : va_S A s.heap s.heap _).2.2 (by decide +kernel) hlocks
theorem j_slen : Met l m_slen.1 (wsK m_slen) (rmJ 1) (PcS A kV [.ref (kV.1 0)] H0) (QcS A H0 44) 0 0 A := by
  refine Met.ofW (cc := m_slen.2.1) (maxL := 1) (ret := some .int) mi_slen.1 rfl ?_
  intro p e s mid args below meth c s₁ B hml hv
  obtain ⟨rfl, rfl, hK⟩ := hv
  have hts := atoms_spec (ws := wsK m_slen) B.pre
  have hG : ∀ w ∈ wsG, w.before _ s = true := fun w hw => hts w (List.mem_cons_of_mem _ hw)
  have hown : s.vm.findClass m_slen.2.2.2.2 = some mid.cls := findClass_of_methodNamed B.named
  have hlocks := B.notSynchronized
  rw [lg_entry_eq]
  have hle := lv_entry [.ref (kV.1 0)] (n := 1) (by simp [lg_sl, Value.category])
  have l0 := hle.2.2 _ List.mem_cons_self
  have hJ : JX 1 m_slen p (rmJ 1) s mid _ c A kV 0 0 := ⟨B.exec, B.bytes, hml, hown, hG, hK, Nat.le_refl _, Nat.le_refl _, Nat.zero_le _, Nat.zero_le _⟩
  refine lv_aload_n B.exec B.bytes (k := 0) (by decide +kernel) rfl l0 ?_
  refine vk_getf B.exec B.bytes (hK.2.2.2.1 0 (by decide)).2.2.1 va_S.rf hown (hG _ (tw6 235 rfl rfl)) (fun _ h => h) (by decide +kernel) ?_
  refine va_tlen B.exec B.bytes (hK.2.2.2.1 0 (by decide)).2.2.2 va_S.rf (v := 44) (by decide) (by decide +kernel) ?_
  refine lv_aload_n B.exec B.bytes (k := 0) (by decide +kernel) rfl l0 ?_
  refine jcallV (as := []) (d := 0) (μ := m_slen) (pc := 6) hJ mi_scod rfl (by decide +kernel) (tw5 148 rfl rfl) (tw5 149 rfl rfl) (tw5 150 rfl rfl) va_S.rf hle.1 rfl (by simp [Value.category]) (by decide) j_scod (fun locs1 hS1 => ?_)
  refine lv_ishr B.exec B.bytes (by decide +kernel) ?_
  exact W.iret B.exec B.bytes (B.returns.trans rfl) (fun t ht hW => ⟨⟨_, (), rfl, by decide, ht⟩, (hS1 : va_S A s.heap s.heap _).F ht⟩) (hS1 : va_S A s.heap s.heap _).2.2 (by decide +kernel) hlocks
theorem j_pci {k : Int32} {f : Value} (hf : f.category = 1) (hk : vp_in k 44) : Met l m_pci.1 (wsK m_pci) (rmJ d) (PcS A kV [.int k, .int 44, f] H0) (QcS A H0 k) 0 0 A := by
  refine Met.ofW (cc := m_pci.2.1) (maxL := 3) (ret := some .int) mi_pci.1 rfl ?_
  intro p e s mid args below meth c s₁ B hml hv
  obtain ⟨rfl, rfl, hK⟩ := hv
  have hts := atoms_spec (ws := wsK m_pci) B.pre
  have hG : ∀ w ∈ wsG, w.before _ s = true := fun w hw => hts w (List.mem_cons_of_mem _ hw)
  have hown : s.vm.findClass m_pci.2.2.2.2 = some mid.cls := findClass_of_methodNamed B.named
  have hlocks := B.notSynchronized
  rw [lg_entry_eq]
  have hle := lv_entry [.int k, .int 44, f] (n := 3) (by cases f <;> simp [lg_sl, Value.category] at hf ⊢)
  have l0 := hle.2.2 _ List.mem_cons_self
  have hJ : JX d m_pci p (rmJ d) s mid _ c A kV 0 0 := ⟨B.exec, B.bytes, hml, hown, hG, hK, Nat.le_refl _, Nat.le_refl _, Nat.zero_le _, Nat.zero_le _⟩
  have l1 := hle.2.2 _ (List.mem_cons_of_mem _ List.mem_cons_self)
  refine lv_iload_n B.exec B.bytes (k := 0) (by decide +kernel) rfl l0 ?_
  refine lv_if_lt B.exec B.bytes (off := 8) (tgt := 9) (by decide +kernel) (by decide) (fun h => absurd (Or.inl h) hk) (fun _ => ?_)
  refine lv_iload_n B.exec B.bytes (k := 0) (by decide +kernel) rfl l0 ?_
  refine lv_iload_n B.exec B.bytes (k := 1) (by decide +kernel) rfl l1 ?_
  refine lv_icmp_lt B.exec B.bytes (off := 10) (tgt := 16) (by decide +kernel) (by decide) (fun _ => ?_) (fun h => absurd (Int32.lt_iff_toInt_lt.mpr (by have h2 := (vp_in_iff.mp hk).2; have e : (44 : Int32).toInt = 44 := rfl; omega)) h)
  refine lv_iload_n B.exec B.bytes (k := 0) (by decide +kernel) rfl l0 ?_
  exact W.iret B.exec B.bytes (B.returns.trans rfl) (fun t ht hW => ⟨⟨_, (), rfl, rfl, ht⟩, (va_S.rf : va_S A s.heap s.heap _).F ht⟩) (va_S.rf : va_S A s.heap s.heap _).2.2 (by decide +kernel) hlocks
theorem j_sci {k : Int32} (hk : vp_in k 44) : Met l m_sci.1 (wsK m_sci) (rmJ 1) (PcS A kV [.int k, .int 44] H0) (QvS A H0) 0 0 A := by
  refine Met.ofW (cc := m_sci.2.1) (maxL := 2) (ret := none) mi_sci.1 rfl ?_
  intro p e s mid args below meth c s₁ B hml hv
  obtain ⟨rfl, rfl, hK⟩ := hv
  have hts := atoms_spec (ws := wsK m_sci) B.pre
  have hG : ∀ w ∈ wsG, w.before _ s = true := fun w hw => hts w (List.mem_cons_of_mem _ hw)
  have hown : s.vm.findClass m_sci.2.2.2.2 = some mid.cls := findClass_of_methodNamed B.named
  have hlocks := B.notSynchronized
  rw [lg_entry_eq]
  have hle := lv_entry [.int k, .int 44] (n := 2) (by simp [lg_sl, Value.category])
  have l0 := hle.2.2 _ List.mem_cons_self
  have hJ : JX 1 m_sci p (rmJ 1) s mid _ c A kV 0 0 := ⟨B.exec, B.bytes, hml, hown, hG, hK, Nat.le_refl _, Nat.le_refl _, Nat.zero_le _, Nat.zero_le _⟩
  have l1 := hle.2.2 _ (List.mem_cons_of_mem _ List.mem_cons_self)
  refine lv_iload_n B.exec B.bytes (k := 0) (by decide +kernel) rfl l0 ?_
  refine lv_iload_n B.exec B.bytes (k := 1) (by decide +kernel) rfl l1 ?_
  rcases hK.2.2.1 with hZ | ⟨t, hZ⟩
  · refine va_gets B.exec B.bytes hZ va_S.rf hown (hG _ (tw5 168 rfl rfl)) (fun _ h => h) (by decide +kernel) ?_
    refine jcallS (as := [.int k, .int 44, .null]) (rest := []) (d := 0) (μ := m_sci) (pc := 5) hJ mi_pci (by decide +kernel) (tw5 170 rfl rfl) (tw5 171 rfl rfl) va_S.rf hle.1 rfl (by simp) (by decide) (j_pci rfl hk) (fun locs1 hS1 => ?_)
    refine lv_pop B.exec B.bytes (by decide +kernel) rfl ?_
    exact W.vret B.exec B.bytes (B.returns.trans rfl) (fun t ht hW => ⟨⟨(), rfl, trivial, ht⟩, (hS1 : va_S A s.heap s.heap _).F ht⟩) (hS1 : va_S A s.heap s.heap _).2.2 (by decide +kernel) hlocks
  · refine va_gets B.exec B.bytes hZ va_S.rf hown (hG _ (tw5 168 rfl rfl)) (fun _ h => h) (by decide +kernel) ?_
    refine jcallS (as := [.int k, .int 44, .ref t]) (rest := []) (d := 0) (μ := m_sci) (pc := 5) hJ mi_pci (by decide +kernel) (tw5 170 rfl rfl) (tw5 171 rfl rfl) va_S.rf hle.1 rfl (by simp) (by decide) (j_pci rfl hk) (fun locs1 hS1 => ?_)
    refine lv_pop B.exec B.bytes (by decide +kernel) rfl ?_
    exact W.vret B.exec B.bytes (B.returns.trans rfl) (fun t ht hW => ⟨⟨(), rfl, trivial, ht⟩, (hS1 : va_S A s.heap s.heap _).F ht⟩) (hS1 : va_S A s.heap s.heap _).2.2 (by decide +kernel) hlocks
def chW (k : Int32) : Int32 := (bytW.getD 0 []).getD k.toNatClampNeg 0
theorem chW_all : ∀ j : Nat, j < 44 → (((bytW.getD 0 []).getD j 0 &&& 255).toUInt32 % 65536).toInt32 = (bytW.getD 0 []).getD j 0 ∧ narrow .char (.int ((bytW.getD 0 []).getD j 0)) = .int ((bytW.getD 0 []).getD j 0) := by decide +kernel
theorem chW_ok {k : Int32} (hk : vp_in k 44) : ((chW k &&& 255).toUInt32 % 65536).toInt32 = chW k ∧ narrow .char (.int (chW k)) = .int (chW k) := chW_all _ (Nat.not_le.mp fun q => hk (Or.inr q))
theorem j_lchr {k : Int32} (hk : vp_in k 44) : Met l m_lchr.1 (wsK m_lchr) (rmJ 2) (PcS A kV [.ref (kV.2 0), .int k] H0) (QcS A H0 (chW k)) 0 0 A := by
  refine Met.ofW (cc := m_lchr.2.1) (maxL := 2) (ret := some .char) mi_lchr.1 rfl ?_
  intro p e s mid args below meth c s₁ B hml hv
  obtain ⟨rfl, rfl, hK⟩ := hv
  have hts := atoms_spec (ws := wsK m_lchr) B.pre
  have hG : ∀ w ∈ wsG, w.before _ s = true := fun w hw => hts w (List.mem_cons_of_mem _ hw)
  have hown : s.vm.findClass m_lchr.2.2.2.2 = some mid.cls := findClass_of_methodNamed B.named
  have hlocks := B.notSynchronized
  rw [lg_entry_eq]
  have hle := lv_entry [.ref (kV.2 0), .int k] (n := 2) (by simp [lg_sl, Value.category])
  have l0 := hle.2.2 _ List.mem_cons_self
  have hJ : JX 2 m_lchr p (rmJ 2) s mid _ c A kV 0 0 := ⟨B.exec, B.bytes, hml, hown, hG, hK, Nat.le_refl _, Nat.le_refl _, Nat.zero_le _, Nat.zero_le _⟩
  have l1 := hle.2.2 _ (List.mem_cons_of_mem _ List.mem_cons_self)
  refine lv_iload_n B.exec B.bytes (k := 1) (by decide +kernel) rfl l1 ?_
  refine lv_aload_n B.exec B.bytes (k := 0) (by decide +kernel) rfl l0 ?_
  refine va_tlen B.exec B.bytes (hK.2.2.2.1 0 (by decide)).2.2.2 va_S.rf (v := 44) (by decide) (by decide +kernel) ?_
  refine jcallSv (as := [.int k, .int 44]) (rest := []) (d := 1) (μ := m_lchr) (pc := 3) hJ mi_sci (by decide +kernel) (tw5 165 rfl rfl) (tw5 166 rfl rfl) va_S.rf hle.1 rfl (by simp) (by decide) (j_sci hk) (fun locs1 hS1 => ?_)
  refine lv_aload_n B.exec B.bytes (k := 0) (by decide +kernel) rfl l0 ?_
  refine lv_iload_n B.exec B.bytes (k := 1) (by decide +kernel) rfl l1 ?_
  refine va_tb B.exec B.bytes (hK.2.2.2.1 0 (by decide)).2.2.2 hS1 hk (v := .int (chW k)) rfl (by decide +kernel) ?_
  refine lv_sipush B.exec B.bytes (n := 255) (v := 255) (by decide +kernel) (by decide) ?_
  refine lv_iand B.exec B.bytes (by decide +kernel) ?_
  refine lv_i2c B.exec B.bytes (by decide +kernel) (chW_ok hk).1 ?_
  exact W.zret B.exec B.bytes (B.returns.trans rfl) ((chW_ok hk).2) (fun t ht hW => ⟨⟨_, (), rfl, rfl, ht⟩, (hS1 : va_S A s.heap s.heap _).F ht⟩) (hS1 : va_S A s.heap s.heap _).2.2 (by decide +kernel) hlocks
theorem j_schr {k : Int32} (hk : vp_in k 44) : Met l m_schr.1 (wsK m_schr) (rmJ 3) (PcS A kV [.ref (kV.1 0), .int k] H0) (QcS A H0 (chW k)) 0 0 A := by
  refine Met.ofW (cc := m_schr.2.1) (maxL := 2) (ret := some .char) mi_schr.1 rfl ?_
  intro p e s mid args below meth c s₁ B hml hv
  obtain ⟨rfl, rfl, hK⟩ := hv
  have hts := atoms_spec (ws := wsK m_schr) B.pre
  have hG : ∀ w ∈ wsG, w.before _ s = true := fun w hw => hts w (List.mem_cons_of_mem _ hw)
  have hown : s.vm.findClass m_schr.2.2.2.2 = some mid.cls := findClass_of_methodNamed B.named
  have hlocks := B.notSynchronized
  rw [lg_entry_eq]
  have hle := lv_entry [.ref (kV.1 0), .int k] (n := 2) (by simp [lg_sl, Value.category])
  have l0 := hle.2.2 _ List.mem_cons_self
  have hJ : JX 3 m_schr p (rmJ 3) s mid _ c A kV 0 0 := ⟨B.exec, B.bytes, hml, hown, hG, hK, Nat.le_refl _, Nat.le_refl _, Nat.zero_le _, Nat.zero_le _⟩
  have l1 := hle.2.2 _ (List.mem_cons_of_mem _ List.mem_cons_self)
  refine lv_aload_n B.exec B.bytes (k := 0) (by decide +kernel) rfl l0 ?_
  refine jcallV (as := []) (rest := []) (d := 0) (μ := m_schr) (pc := 1) hJ mi_slat rfl (by decide +kernel) (tw5 158 rfl rfl) (tw5 159 rfl rfl) (tw5 160 rfl rfl) va_S.rf hle.1 rfl (by simp) (by decide) j_slat (fun locs1 hS1 => ?_)
  refine lv_if_eq B.exec B.bytes (off := 12) (tgt := 16) (by decide +kernel) (by decide) (fun h => absurd h (by decide)) (fun _ => ?_)
  refine lv_aload_n B.exec B.bytes (k := 0) (by decide +kernel) rfl l0 ?_
  refine vk_getf B.exec B.bytes (hK.2.2.2.1 0 (by decide)).2.2.1 hS1 hown (hG _ (tw6 235 rfl rfl)) (fun _ h => h) (by decide +kernel) ?_
  refine lv_iload_n B.exec B.bytes (k := 1) (by decide +kernel) rfl l1 ?_
  refine jcallS (as := [.ref (kV.2 0), .int k]) (rest := []) (d := 2) (μ := m_schr) (pc := 12) hJ mi_lchr (by decide +kernel) (tw5 162 rfl rfl) (tw5 163 rfl rfl) hS1 hle.1 rfl (by simp) (by decide) (j_lchr hk) (fun locs2 hS2 => ?_)
  exact W.zret B.exec B.bytes (B.returns.trans rfl) ((chW_ok hk).2) (fun t ht hW => ⟨⟨_, (), rfl, rfl, ht⟩, (hS2 : va_S A s.heap s.heap _).F ht⟩) (hS2 : va_S A s.heap s.heap _).2.2 (by decide +kernel) hlocks
end JMets
section SOps
variable {μ : MI} {pc : Nat}
set_option maxRecDepth 20000 in
theorem rm_le4 {e L : Nat} (h : 64 * e + 256 ≤ L) : 64 * (e + 4) ≤ L := by omega
theorem Cx.jx {E : EE} {p : Program} {R : Room} {s : State} {mid : MethodId} {args : Array Value} {c : Code} {dC : Nat → ClassId} {dI : Nat → Nat → Nat} {dA : Nat → ClassId} {A : Nat → Prop} {C0 S0 b : Nat} {kV : (Nat → Nat) × (Nat → Nat)} (hC : Cx E μ p R s mid args c dC dI dA A C0 S0 b) (hk : StK A kV s s.heap) : JX (E.1 + 4) μ p R s mid args c A kV C0 S0 :=
  ⟨hC.1, hC.2.1, hC.2.2.1, hC.2.2.2.1, hC.2.2.2.2.1, hk, hC.2.2.2.2.2.2.2.2.1.1, rm_le4 hC.2.2.2.2.2.2.2.2.1.2.1, hC.2.2.2.2.2.2.2.2.1.2.2.1, hC.2.2.2.2.2.2.2.2.1.2.2.2⟩
/-- the text's length -/
def oSL : OP := fun E _ nx _ ls st m => Nat.ble (cats st) 8 = true ∧ nx ls (.int 44 :: st) m
theorem okSL (hw : μ.2.2.2.2 = "SaleRoundsModel") (h1 : decode μ.2.1 pc = .ok (.ldc 141, 2)) (h2 : decode μ.2.1 (pc + 2) = .ok (.invokevirtual 143, 3)) : OpOk μ 5 pc oSL := by
  intro E P p l e R s mid args below meth c dC dI dA ad b A C0 S0 Qf hC hR nx jp ls st m hn hj h H locs la hl hs hE hS hL
  obtain ⟨q2, q3⟩ := h
  obtain ⟨kV, hk⟩ := hC.2.2.2.2.2.2.2.2.2.2
  refine va_ldcS hC.1 hC.2.1 (own := "SaleRoundsModel") (hw ▸ hC.2.2.2.1) hk.1 h1 ?_
  exact jcallV (as := []) (d := 1) (hC.jx hk) mi_slen rfl h2 (hw ▸ tw5 144 rfl rfl) (tw5 145 rfl rfl) (tw5 146 rfl rfl) hS hL.1 rfl (by rw [cats_eq]; exact Nat.le_of_ble_eq_true q2) (by omega) j_slen (fun locs1 hS1 => hn _ _ _ q3 H locs1 la hl (List.forall_mem_cons.mpr ⟨trivial, hs⟩) hE hS1 hL)
/-- the char at the sum of two locals -/
def oSA (i j : Nat) : OP := fun E _ nx _ ls st m => match gl i ls with
  | .int x => match gl j ls with
    | .int y => Nat.ble (cats st) 8 = true ∧ vp_in (x + y) 44 ∧ nx ls (.int (chW (x + y)) :: st) m
    | _ => False
  | _ => False
theorem okSA {k1 k2 : Fin 4} {i j : Nat} (hi : (k1 : Nat) = i) (hj : (k2 : Nat) = j) (hw : μ.2.2.2.2 = "SaleRoundsModel") (h1 : decode μ.2.1 pc = .ok (.ldc 141, 2)) (h2 : decode μ.2.1 (pc + 2) = .ok (.iload_n k1, 1)) (h3 : decode μ.2.1 (pc + 2 + 1) = .ok (.iload_n k2, 1)) (h4 : decode μ.2.1 (pc + 2 + 1 + 1) = .ok (.iadd, 1)) (h5 : decode μ.2.1 (pc + 2 + 1 + 1 + 1) = .ok (.invokevirtual 148, 3)) : OpOk μ 8 pc (oSA i j) := by
  intro E P p l e R s mid args below meth c dC dI dA ad b A C0 S0 Qf hC hR nx jp ls st m hn hj' h H locs la hl hs hE hS hL
  unfold oSA at h
  split at h
  · rename_i x hx
    split at h
    · rename_i y hy
      obtain ⟨q2, q3, q4⟩ := h
      obtain ⟨kV, hk⟩ := hC.2.2.2.2.2.2.2.2.2.2
      refine va_ldcS hC.1 hC.2.1 (own := "SaleRoundsModel") (hw ▸ hC.2.2.2.1) hk.1 h1 ?_
      refine lv_iload_n hC.1 hC.2.1 h2 hi (ls_at hL hx (by simp)) ?_
      refine lv_iload_n hC.1 hC.2.1 h3 hj (ls_at hL hy (by simp)) ?_
      refine lv_iadd hC.1 hC.2.1 h4 ?_
      exact jcallV (as := [.int (x + y)]) (d := 3) (hC.jx hk) mi_schr rfl h5 (hw ▸ tw5 154 rfl rfl) (tw5 155 rfl rfl) (tw5 156 rfl rfl) hS hL.1 rfl (by rw [cats_eq]; exact Nat.le_of_ble_eq_true q2) (by omega) (j_schr q3) (fun locs1 hS1 => hn _ _ _ q4 H locs1 la hl (List.forall_mem_cons.mpr ⟨trivial, hs⟩) hE hS1 hL)
    · exact h.elim
  · exact h.elim
/-- the char at a local -/
def oSB (i : Nat) : OP := fun E _ nx _ ls st m => match gl i ls with
  | .int x => Nat.ble (cats st) 8 = true ∧ vp_in x 44 ∧ nx ls (.int (chW x) :: st) m
  | _ => False
theorem okSB {k1 : Fin 4} {i : Nat} (hi : (k1 : Nat) = i) (hw : μ.2.2.2.2 = "SaleRoundsModel") (h1 : decode μ.2.1 pc = .ok (.ldc 141, 2)) (h2 : decode μ.2.1 (pc + 2) = .ok (.iload_n k1, 1)) (h5 : decode μ.2.1 (pc + 2 + 1) = .ok (.invokevirtual 148, 3)) : OpOk μ 6 pc (oSB i) := by
  intro E P p l e R s mid args below meth c dC dI dA ad b A C0 S0 Qf hC hR nx jp ls st m hn hj' h H locs la hl hs hE hS hL
  unfold oSB at h
  split at h
  · rename_i x hx
    obtain ⟨q2, q3, q4⟩ := h
    obtain ⟨kV, hk⟩ := hC.2.2.2.2.2.2.2.2.2.2
    refine va_ldcS hC.1 hC.2.1 (own := "SaleRoundsModel") (hw ▸ hC.2.2.2.1) hk.1 h1 ?_
    refine lv_iload_n hC.1 hC.2.1 h2 hi (ls_at hL hx (by simp)) ?_
    exact jcallV (as := [.int x]) (d := 3) (hC.jx hk) mi_schr rfl h5 (hw ▸ tw5 154 rfl rfl) (tw5 155 rfl rfl) (tw5 156 rfl rfl) hS hL.1 rfl (by rw [cats_eq]; exact Nat.le_of_ble_eq_true q2) (by omega) (j_schr q3) (fun locs1 hS1 => hn _ _ _ q4 H locs1 la hl (List.forall_mem_cons.mpr ⟨trivial, hs⟩) hE hS1 hL)
  · exact h.elim
end SOps
