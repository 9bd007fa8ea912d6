theorem tw89 : Cond.methodLink RX10 3 objectInit ∈ tb := tb_at 89 (by decide +kernel) (by decide +kernel)
theorem tw92 : Cond.classLink RX10 9 RX8 ∈ tb := tb_at 92 (by decide +kernel) (by decide +kernel)
theorem tw93 : Cond.instantiable RX8 4 ∈ tb := tb_at 93 (by decide +kernel) (by decide +kernel)
theorem tw95 : Cond.instanceMethod yX8_init ∈ tb := tb_at 95 (by decide +kernel) (by decide +kernel)
theorem tw96 : Cond.code yX8_init cX8_init 1 (Option.none : Option Jvm.ClassFile.FieldType) ∈ tb := tb_at 96 (by decide +kernel) (by decide +kernel)
theorem tw114 : Cond.classLink RX10 16 RX0 ∈ tb := tb_at 114 (by decide +kernel) (by decide +kernel)
theorem tw115 : Cond.instantiable RX0 9 ∈ tb := tb_at 115 (by decide +kernel) (by decide +kernel)
theorem tw116 : Cond.methodLink RX10 18 yX0_init ∈ tb := tb_at 116 (by decide +kernel) (by decide +kernel)
theorem tw117 : Cond.instanceMethod yX0_init ∈ tb := tb_at 117 (by decide +kernel) (by decide +kernel)
theorem tw118 : Cond.code yX0_init cX0_init 2 (Option.none : Option Jvm.ClassFile.FieldType) ∈ tb := tb_at 118 (by decide +kernel) (by decide +kernel)
theorem tw195 : Cond.classLink RX10 23 RX1 ∈ tb := tb_at 195 (by decide +kernel) (by decide +kernel)
theorem tw243 : Cond.classLink RX10 30 RX4 ∈ tb := tb_at 243 (by decide +kernel) (by decide +kernel)
theorem tw244 : Cond.instantiable RX4 2 ∈ tb := tb_at 244 (by decide +kernel) (by decide +kernel)
theorem tw245 : Cond.methodLink RX10 32 yX4_init ∈ tb := tb_at 245 (by decide +kernel) (by decide +kernel)
theorem tw246 : Cond.instanceMethod yX4_init ∈ tb := tb_at 246 (by decide +kernel) (by decide +kernel)
theorem tw247 : Cond.code yX4_init cX4_init 2 (Option.none : Option Jvm.ClassFile.FieldType) ∈ tb := tb_at 247 (by decide +kernel) (by decide +kernel)
theorem tw260 : Cond.classLink RX10 37 RX3 ∈ tb := tb_at 260 (by decide +kernel) (by decide +kernel)
theorem tw261 : Cond.instantiable RX3 9 ∈ tb := tb_at 261 (by decide +kernel) (by decide +kernel)
theorem tw262 : Cond.methodLink RX10 39 yX3_init ∈ tb := tb_at 262 (by decide +kernel) (by decide +kernel)
theorem tw263 : Cond.instanceMethod yX3_init ∈ tb := tb_at 263 (by decide +kernel) (by decide +kernel)
theorem tw264 : Cond.code yX3_init cX3_init 2 (Option.none : Option Jvm.ClassFile.FieldType) ∈ tb := tb_at 264 (by decide +kernel) (by decide +kernel)
theorem tw351 : Cond.classLink RX10 44 RX9 ∈ tb := tb_at 351 (by decide +kernel) (by decide +kernel)
theorem tw353 : Cond.classLink RX10 50 RX7 ∈ tb := tb_at 353 (by decide +kernel) (by decide +kernel)
theorem tw354 : Cond.instantiable RX7 6 ∈ tb := tb_at 354 (by decide +kernel) (by decide +kernel)
theorem tw355 : Cond.methodLink RX10 52 yX7_init ∈ tb := tb_at 355 (by decide +kernel) (by decide +kernel)
theorem tw356 : Cond.instanceMethod yX7_init ∈ tb := tb_at 356 (by decide +kernel) (by decide +kernel)
theorem tw357 : Cond.code yX7_init cX7_init 2 (Option.none : Option Jvm.ClassFile.FieldType) ∈ tb := tb_at 357 (by decide +kernel) (by decide +kernel)
theorem fp_11_5 : FPK 11 5 true (.array (.object "StoneFloors$Way")) := ⟨RX10, TX10, 8, rfl, ⟨tyX10, tyX10_ok, rfl⟩, nmX10, rfl, rfl⟩
theorem fp_11_4 : FPK 11 4 true (.object "StoneFloors$Orders") := ⟨RX10, TX10, 8, rfl, ⟨tyX10, tyX10_ok, rfl⟩, nmX10, rfl, rfl⟩
theorem fp_11_3 : FPK 11 3 true (.object "StoneFloors$Past") := ⟨RX10, TX10, 8, rfl, ⟨tyX10, tyX10_ok, rfl⟩, nmX10, rfl, rfl⟩
theorem fp_11_2 : FPK 11 2 true (.object "StoneFloors$Floor") := ⟨RX10, TX10, 8, rfl, ⟨tyX10, tyX10_ok, rfl⟩, nmX10, rfl, rfl⟩
theorem fp_11_1 : FPK 11 1 true (.object "StoneFloors$Finder") := ⟨RX10, TX10, 8, rfl, ⟨tyX10, tyX10_ok, rfl⟩, nmX10, rfl, rfl⟩
theorem fp_11_0 : FPK 11 0 true (.object "StoneFloors$Reader") := ⟨RX10, TX10, 8, rfl, ⟨tyX10, tyX10_ok, rfl⟩, nmX10, rfl, rfl⟩
theorem hd_X7_init : yX7_init.cls ≠ "java/lang/invoke/MethodHandle" ∧ yX7_init.cls ≠ "java/lang/invoke/VarHandle" ∧ (parseMethodDescriptor yX7_init.desc).map (fun d => d.parameters.length) = some 0 := by decide +kernel
theorem hd_X3_init : yX3_init.cls ≠ "java/lang/invoke/MethodHandle" ∧ yX3_init.cls ≠ "java/lang/invoke/VarHandle" ∧ (parseMethodDescriptor yX3_init.desc).map (fun d => d.parameters.length) = some 0 := by decide +kernel
theorem hd_X4_init : yX4_init.cls ≠ "java/lang/invoke/MethodHandle" ∧ yX4_init.cls ≠ "java/lang/invoke/VarHandle" ∧ (parseMethodDescriptor yX4_init.desc).map (fun d => d.parameters.length) = some 0 := by decide +kernel
theorem hd_X0_init : yX0_init.cls ≠ "java/lang/invoke/MethodHandle" ∧ yX0_init.cls ≠ "java/lang/invoke/VarHandle" ∧ (parseMethodDescriptor yX0_init.desc).map (fun d => d.parameters.length) = some 0 := by decide +kernel
theorem hd_X8_init : yX8_init.cls ≠ "java/lang/invoke/MethodHandle" ∧ yX8_init.cls ≠ "java/lang/invoke/VarHandle" ∧ (parseMethodDescriptor yX8_init.desc).map (fun d => d.parameters.length) = some 0 := by decide +kernel
theorem nk_RX10_44 : NOK RX10 44 10 9 := ⟨RX9, TX9, tyX9, rfl, by decide, iRX9, tyX9_ok, by decide +kernel, tw351, tw268, tw72⟩
theorem nk_RX10_50 : NOK RX10 50 8 6 := ⟨RX7, TX7, tyX7, rfl, by decide, iRX7, tyX7_ok, by decide +kernel, tw353, tw354, tw73⟩
theorem nk_RX10_37 : NOK RX10 37 4 9 := ⟨RX3, TX3, tyX3, rfl, by decide, iRX3, tyX3_ok, by decide +kernel, tw260, tw261, tw71⟩
theorem nk_RX10_30 : NOK RX10 30 5 2 := ⟨RX4, TX4, tyX4, rfl, by decide, iRX4, tyX4_ok, by decide +kernel, tw243, tw244, tw70⟩
theorem nk_RX10_23 : NOK RX10 23 2 10 := ⟨RX1, TX1, tyX1, rfl, by decide, iRX1, tyX1_ok, by decide +kernel, tw195, tw196, tw69⟩
theorem nk_RX10_16 : NOK RX10 16 1 9 := ⟨RX0, TX0, tyX0, rfl, by decide, iRX0, tyX0_ok, by decide +kernel, tw114, tw115, tw66⟩
theorem nk_RX10_9 : NOK RX10 9 9 4 := ⟨RX8, TX8, tyX8, rfl, by decide, iRX8, tyX8_ok, by decide +kernel, tw92, tw93, tw65⟩
abbrev rX10_init (mc msl : Nat) : Room := { frames := 7, cells := mc, slots := msl, locals := 164 }
