theorem dfl_all {NG : Nat} {tyG : Nat → FieldType} {fs0 : List Value} (h : (List.range NG).all (fun i => decide (defaultValue (tyG i) = vp_V fs0 i)) = true) : ∀ i, i < NG → defaultValue (tyG i) = vp_V fs0 i := fun i hi => of_decide_eq_true (List.all_eq_true.mp h i (List.mem_range.mpr hi))
theorem wd114 : (Jvm.Cond.methodLink "SaleRounds" (3 : Nat) ({ cls := "java/lang/Object", name := "<init>", desc := "()V" } : Jvm.MethodName)) ∈ wsG := tw1 25 rfl rfl
theorem wd115 : (Jvm.Cond.instanceMethod ({ cls := "java/lang/Object", name := "<init>", desc := "()V" } : Jvm.MethodName)) ∈ wsG := tw1 26 rfl rfl
theorem wd116 : (Jvm.Cond.code ({ cls := "java/lang/Object", name := "<init>", desc := "()V" } : Jvm.MethodName) object_method_1_code (1 : Nat) (Option.none : Option Jvm.ClassFile.FieldType)) ∈ wsG := tw1 27 rfl rfl
theorem wd117 : (Jvm.Cond.classLink "SaleRounds" (9 : Nat) "SaleRounds$Reader") ∈ wsG := tw1 28 rfl rfl
theorem wd118 : (Jvm.Cond.instantiable "SaleRounds$Reader" (9 : Nat)) ∈ wsG := tw1 29 rfl rfl
theorem wd120 : (Jvm.Cond.instanceMethod ({ cls := "SaleRounds$Reader", name := "<init>", desc := "()V" } : Jvm.MethodName)) ∈ wsG := tw1 31 rfl rfl
theorem wd121 : (Jvm.Cond.code ({ cls := "SaleRounds$Reader", name := "<init>", desc := "()V" } : Jvm.MethodName) prog_5_method_1_code (1 : Nat) (Option.none : Option Jvm.ClassFile.FieldType)) ∈ wsG := tw1 32 rfl rfl
theorem wd122 : (Jvm.Cond.methodLink "SaleRounds$Reader" (3 : Nat) ({ cls := "java/lang/Object", name := "<init>", desc := "()V" } : Jvm.MethodName)) ∈ wsG := tw1 33 rfl rfl
theorem wd154 : (Jvm.Cond.arrayClass Jvm.ClassFile.FieldType.byte) ∈ wsG := tw1 65 rfl rfl
theorem wd155 : (Jvm.Cond.classLink "SaleRounds" (18 : Nat) "SaleRounds$Finder") ∈ wsG := tw1 66 rfl rfl
theorem wd156 : (Jvm.Cond.instantiable "SaleRounds$Finder" (17 : Nat)) ∈ wsG := tw1 67 rfl rfl
theorem wd158 : (Jvm.Cond.instanceMethod ({ cls := "SaleRounds$Finder", name := "<init>", desc := "()V" } : Jvm.MethodName)) ∈ wsG := tw1 69 rfl rfl
theorem wd159 : (Jvm.Cond.code ({ cls := "SaleRounds$Finder", name := "<init>", desc := "()V" } : Jvm.MethodName) prog_3_method_1_code (1 : Nat) (Option.none : Option Jvm.ClassFile.FieldType)) ∈ wsG := tw1 70 rfl rfl
theorem wd160 : (Jvm.Cond.methodLink "SaleRounds$Finder" (3 : Nat) ({ cls := "java/lang/Object", name := "<init>", desc := "()V" } : Jvm.MethodName)) ∈ wsG := tw1 71 rfl rfl
theorem wd215 : (Jvm.Cond.arrayClass Jvm.ClassFile.FieldType.long) ∈ wsG := tw1 126 rfl rfl
theorem wd216 : (Jvm.Cond.arrayClass Jvm.ClassFile.FieldType.int) ∈ wsG := tw1 127 rfl rfl
theorem wd217 : (Jvm.Cond.classLink "SaleRounds" (25 : Nat) "SaleRounds$Streams") ∈ wsG := tw1 128 rfl rfl
theorem wd218 : (Jvm.Cond.instantiable "SaleRounds$Streams" (11 : Nat)) ∈ wsG := tw1 129 rfl rfl
theorem wd220 : (Jvm.Cond.instanceMethod ({ cls := "SaleRounds$Streams", name := "<init>", desc := "()V" } : Jvm.MethodName)) ∈ wsG := tw1 131 rfl rfl
theorem wd221 : (Jvm.Cond.code ({ cls := "SaleRounds$Streams", name := "<init>", desc := "()V" } : Jvm.MethodName) prog_7_method_1_code (1 : Nat) (Option.none : Option Jvm.ClassFile.FieldType)) ∈ wsG := tw1 132 rfl rfl
theorem wd222 : (Jvm.Cond.methodLink "SaleRounds$Streams" (3 : Nat) ({ cls := "java/lang/Object", name := "<init>", desc := "()V" } : Jvm.MethodName)) ∈ wsG := tw1 133 rfl rfl
theorem wd257 : (Jvm.Cond.classLink "SaleRounds" (32 : Nat) "SaleRounds$Book") ∈ wsG := tw1 168 rfl rfl
theorem wd258 : (Jvm.Cond.instantiable "SaleRounds$Book" (13 : Nat)) ∈ wsG := tw1 169 rfl rfl
theorem wd260 : (Jvm.Cond.instanceMethod ({ cls := "SaleRounds$Book", name := "<init>", desc := "()V" } : Jvm.MethodName)) ∈ wsG := tw1 171 rfl rfl
theorem wd261 : (Jvm.Cond.code ({ cls := "SaleRounds$Book", name := "<init>", desc := "()V" } : Jvm.MethodName) prog_2_method_1_code (1 : Nat) (Option.none : Option Jvm.ClassFile.FieldType)) ∈ wsG := tw1 172 rfl rfl
theorem wd262 : (Jvm.Cond.methodLink "SaleRounds$Book" (3 : Nat) ({ cls := "java/lang/Object", name := "<init>", desc := "()V" } : Jvm.MethodName)) ∈ wsG := tw1 173 rfl rfl
theorem wd263 : (Jvm.Cond.classLink "SaleRounds$Book" (9 : Nat) "SaleRounds$Names") ∈ wsG := tw1 174 rfl rfl
theorem wd264 : (Jvm.Cond.instantiable "SaleRounds$Names" (2 : Nat)) ∈ wsG := tw1 175 rfl rfl
theorem wd266 : (Jvm.Cond.instanceMethod ({ cls := "SaleRounds$Names", name := "<init>", desc := "()V" } : Jvm.MethodName)) ∈ wsG := tw1 177 rfl rfl
theorem wd267 : (Jvm.Cond.code ({ cls := "SaleRounds$Names", name := "<init>", desc := "()V" } : Jvm.MethodName) prog_4_method_1_code (1 : Nat) (Option.none : Option Jvm.ClassFile.FieldType)) ∈ wsG := tw1 178 rfl rfl
theorem wd268 : (Jvm.Cond.methodLink "SaleRounds$Names" (3 : Nat) ({ cls := "java/lang/Object", name := "<init>", desc := "()V" } : Jvm.MethodName)) ∈ wsG := tw1 179 rfl rfl
theorem wd279 : (Jvm.Cond.classLink "SaleRounds$Book" (24 : Nat) "SaleRounds$Sales") ∈ wsG := tw1 190 rfl rfl
theorem wd280 : (Jvm.Cond.instantiable "SaleRounds$Sales" (9 : Nat)) ∈ wsG := tw1 191 rfl rfl
theorem wd282 : (Jvm.Cond.instanceMethod ({ cls := "SaleRounds$Sales", name := "<init>", desc := "()V" } : Jvm.MethodName)) ∈ wsG := tw1 193 rfl rfl
theorem wd283 : (Jvm.Cond.code ({ cls := "SaleRounds$Sales", name := "<init>", desc := "()V" } : Jvm.MethodName) prog_6_method_1_code (1 : Nat) (Option.none : Option Jvm.ClassFile.FieldType)) ∈ wsG := tw1 194 rfl rfl
theorem wd284 : (Jvm.Cond.methodLink "SaleRounds$Sales" (3 : Nat) ({ cls := "java/lang/Object", name := "<init>", desc := "()V" } : Jvm.MethodName)) ∈ wsG := tw1 195 rfl rfl
theorem wd319 : (Jvm.Cond.fieldLink "SaleRounds$Sales" (37 : Nat) "SaleRounds$Sales" "told" "I") ∈ wsG := tw1 230 rfl rfl
theorem wd400 : (Jvm.Cond.arrayClass Jvm.ClassFile.FieldType.boolean) ∈ wsG := tw2 71 rfl rfl
theorem wd999 : (Jvm.Cond.methodLink "SaleRoundsModel" (3 : Nat) ({ cls := "java/lang/Object", name := "<init>", desc := "()V" } : Jvm.MethodName)) ∈ wsG := tw4 190 rfl rfl
def mX2_init : MI := (yX2_init, cX2_init, 1, none, RX2)
def tX2 : TWc := fun dA h0 as => (h0, .inr (2, [.ref (as 0), .int 0])) :: ((as 0), .inl (dA 8, 12, .inl (fun _ => 0))) :: []
set_option maxRecDepth 100000 in
set_option maxHeartbeats 4000000 in
theorem ctX2 : CTok mX2_init 2 [.null, .int 0] tX2 1 1 12 := by
  refine ctor_of (by decide) rfl rfl rfl rfl ?_
  intro p l e R s mid args below meth c dC dI dA A Qf h0 X hend
  refine cwObj X (by decide) (x := 3) (by decide +kernel) (by decide +kernel) wd268 wd115 wd116 ?_
  refine cwArr X (aty := .int) (ty := .int) (kd := 8) (t0 := 0) (N := 12) (v := 12) (len := 2) (a0 := (12, .inl (fun _ => 0))) (j := 0) (x := 9) clX2 rfl (by decide) rfl rfl rfl (Nat.le_of_ble_eq_true rfl) (by decide +kernel) (Or.inr (Or.inl ⟨12, by decide +kernel, by decide, rfl⟩)) (by decide +kernel) (by decide +kernel) wd269 wd216 rfl rfl (fun _ h => h) (fun _ => rfl) (by decide) (by decide) (by decide) (fun _ => rfl) (fun _ => rfl) (by decide) (by decide) (fun q0 => ?_)
  refine cwInt X (len := 1) (v := 0) (j := 1) (x := 15) clX2 rfl (by decide) rfl rfl (Nat.le_of_ble_eq_true rfl) (by decide +kernel) (Or.inl ⟨0, by decide +kernel, by decide, rfl⟩) (by decide +kernel) wd270 (by decide) (by decide) ?_
  exact hend 17 (fun i => [q0].getD i 0) (by decide +kernel)
