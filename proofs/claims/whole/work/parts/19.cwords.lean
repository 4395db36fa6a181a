theorem qcX0_1 : gW.contains (.methodLink RX0 1 objectInit) = true ∧ gW.contains (.instanceMethod objectInit) = true ∧ gW.contains (.code objectInit ⟨#[0xb1]⟩ 1 none) = true := ⟨by decide +kernel, by decide +kernel, by decide +kernel⟩
theorem fgX0_7 : fOkG RX0 7 "LostParcels$Address" [1] 0 = true := by decide +kernel
theorem fpX0_7 : fOkP RX0 [1] 0 .int true = true := by decide +kernel
theorem fgX0_13 : fOkG RX0 13 "LostParcels$Address" [1] 1 = true := by decide +kernel
theorem fpX0_13 : fOkP RX0 [1] 1 .int true = true := by decide +kernel
theorem fgX0_16 : fOkG RX0 16 "LostParcels$Address" [1] 2 = true := by decide +kernel
theorem fpX0_16 : fOkP RX0 [1] 2 .int false = true := by decide +kernel
theorem knX0_23 : nW.contains (.fieldLinkNest RX0 23 "LostParcels" "TENS" "[I" "LostParcels") = true := by decide +kernel
theorem qcX0_19 : vwCl[1]? = some (RX0, TX0, 3) ∧ GoodIn gW (wsV RX0 19 RX0 yX0_agrees (Cond.code yX0_agrees cX0_agrees 6 (some .boolean) :: gW)) ∧ yX0_agrees.cls = RX0 ∧ yX0_agrees.cls ≠ "java/lang/invoke/MethodHandle" ∧ yX0_agrees.cls ≠ "java/lang/invoke/VarHandle" ∧ (parseMethodDescriptor yX0_agrees.desc).map (fun d => d.parameters.length) = some 3 := ⟨rfl, gW_V (by decide +kernel), rfl, by decide +kernel, by decide +kernel, by decide +kernel⟩
theorem qcX1_1 : gW.contains (.methodLink RX1 1 objectInit) = true ∧ gW.contains (.instanceMethod objectInit) = true ∧ gW.contains (.code objectInit ⟨#[0xb1]⟩ 1 none) = true := ⟨by decide +kernel, by decide +kernel, by decide +kernel⟩
theorem fgX1_7 : fOkG RX1 7 "LostParcels$Change" [2] 0 = true := by decide +kernel
theorem fpX1_7 : fOkP RX1 [2] 0 .int true = true := by decide +kernel
theorem fgX1_13 : fOkG RX1 13 "LostParcels$Change" [2] 2 = true := by decide +kernel
theorem fpX1_13 : fOkP RX1 [2] 2 .int false = true := by decide +kernel
theorem fgX1_16 : fOkG RX1 16 "LostParcels$Change" [2] 1 = true := by decide +kernel
theorem fpX1_16 : fOkP RX1 [2] 1 (.object "LostParcels$Change") true = true := by decide +kernel
theorem qcX2_3 : gW.contains (.methodLink RX2 3 objectInit) = true ∧ gW.contains (.instanceMethod objectInit) = true ∧ gW.contains (.code objectInit ⟨#[0xb1]⟩ 1 none) = true := ⟨by decide +kernel, by decide +kernel, by decide +kernel⟩
theorem fgX2_9 : fOkG RX2 9 "LostParcels$Gathering" [3] 0 = true := by decide +kernel
theorem fpX2_9 : fOkP RX2 [3] 0 (.array .int) true = true := by decide +kernel
theorem kcJ6_265 : gW.contains (.constant RJ6 265 (1431655765)) = true := by decide +kernel
theorem kcJ6_266 : gW.contains (.constant RJ6 266 (858993459)) = true := by decide +kernel
theorem kcJ6_267 : gW.contains (.constant RJ6 267 (252645135)) = true := by decide +kernel
theorem kcJ6_264 : gW.contains (.constant RJ6 264 (65536)) = true := by decide +kernel
theorem qcJ15_105 : GoodIn gW (va_wsS RJ15 105 yJ3_checkIndex_8e157 (Cond.code yJ3_checkIndex_8e157 cJ3_checkIndex_8e157 3 (some .int) :: gW)) ∧ yJ3_checkIndex_8e157.cls ≠ "java/lang/invoke/MethodHandle" ∧ yJ3_checkIndex_8e157.cls ≠ "java/lang/invoke/VarHandle" ∧ (parseMethodDescriptor yJ3_checkIndex_8e157.desc).map (fun d => d.parameters.length) = some 3 := ⟨gW_S (by decide +kernel), by decide +kernel, by decide +kernel, by decide +kernel⟩
theorem fgJx4a65c_9 : fOkG RJx4a65c 9 "java/util/ArrayList" [0] 1 = true := by decide +kernel
theorem fgJx4a65c_48 : fOkG RJx4a65c 48 "java/util/ArrayList" [0] 2 = true := by decide +kernel
theorem qcJx4a65c_118 : GoodIn gW (va_wsS RJx4a65c 118 yJ15_checkIndex_7cf53 (Cond.code yJ15_checkIndex_7cf53 cJ15_checkIndex_7cf53 2 (some .int) :: gW)) ∧ yJ15_checkIndex_7cf53.cls ≠ "java/lang/invoke/MethodHandle" ∧ yJ15_checkIndex_7cf53.cls ≠ "java/lang/invoke/VarHandle" ∧ (parseMethodDescriptor yJ15_checkIndex_7cf53.desc).map (fun d => d.parameters.length) = some 2 := ⟨gW_S (by decide +kernel), by decide +kernel, by decide +kernel, by decide +kernel⟩
theorem qcJx4a65c_123 : vwCl[0]? = some (RJx4a65c, TJx4a65c, 3) ∧ GoodIn gW (wsV RJx4a65c 123 RJx4a65c yJx4a65c_elementData_915e3 (Cond.code yJx4a65c_elementData_915e3 cJx4a65c_elementData_915e3 2 (some (.object "java/lang/Object")) :: gW)) ∧ yJx4a65c_elementData_915e3.cls = RJx4a65c ∧ yJx4a65c_elementData_915e3.cls ≠ "java/lang/invoke/MethodHandle" ∧ yJx4a65c_elementData_915e3.cls ≠ "java/lang/invoke/VarHandle" ∧ (parseMethodDescriptor yJx4a65c_elementData_915e3.desc).map (fun d => d.parameters.length) = some 1 := ⟨rfl, gW_V (by decide +kernel), rfl, by decide +kernel, by decide +kernel, by decide +kernel⟩
theorem qcX2_15 : vwCl[0]? = some (RJx4a65c, TJx4a65c, 3) ∧ GoodIn gW (wsV RX2 15 RJx4a65c yJx4a65c_size_8abf5 (Cond.code yJx4a65c_size_8abf5 cJx4a65c_size_8abf5 1 (some .int) :: gW)) ∧ yJx4a65c_size_8abf5.cls = RJx4a65c ∧ yJx4a65c_size_8abf5.cls ≠ "java/lang/invoke/MethodHandle" ∧ yJx4a65c_size_8abf5.cls ≠ "java/lang/invoke/VarHandle" ∧ (parseMethodDescriptor yJx4a65c_size_8abf5.desc).map (fun d => d.parameters.length) = some 0 := ⟨rfl, gW_V (by decide +kernel), rfl, by decide +kernel, by decide +kernel, by decide +kernel⟩
theorem qcX2_21 : gW.contains (.methodLink RX2 21 Lib.Math.min.name) = true ∧ gW.contains (.static Lib.Math.min.name) = true ∧ gW.contains (.initialized "java/lang/Math") = true ∧ gW.contains (.code Lib.Math.min.name Lib.Math.min.code 2 (some .int)) = true := ⟨by decide +kernel, by decide +kernel, by decide +kernel, by decide +kernel⟩
theorem qcX2_27 : vwCl[0]? = some (RJx4a65c, TJx4a65c, 3) ∧ GoodIn gW (wsV RX2 27 RJx4a65c yJx4a65c_get_915e3 (Cond.code yJx4a65c_get_915e3 cJx4a65c_get_915e3 2 (some (.object "java/lang/Object")) :: gW)) ∧ yJx4a65c_get_915e3.cls = RJx4a65c ∧ yJx4a65c_get_915e3.cls ≠ "java/lang/invoke/MethodHandle" ∧ yJx4a65c_get_915e3.cls ≠ "java/lang/invoke/VarHandle" ∧ (parseMethodDescriptor yJx4a65c_get_915e3.desc).map (fun d => d.parameters.length) = some 1 := ⟨rfl, gW_V (by decide +kernel), rfl, by decide +kernel, by decide +kernel, by decide +kernel⟩
theorem ckX2_31 : castOk RX2 31 "LostParcels$Thing" [9, 6] = true := by decide +kernel
theorem fgX2_33 : fOkG RX2 33 "LostParcels$Thing" [9, 6] 2 = true := by decide +kernel
theorem qcX2_37 : GoodIn gW (va_wsS RX2 37 yJ6_numberOfTrailingZeros_0f7a4 (Cond.code yJ6_numberOfTrailingZeros_0f7a4 cJ6_numberOfTrailingZeros_0f7a4 2 (some .int) :: gW)) ∧ yJ6_numberOfTrailingZeros_0f7a4.cls ≠ "java/lang/invoke/MethodHandle" ∧ yJ6_numberOfTrailingZeros_0f7a4.cls ≠ "java/lang/invoke/VarHandle" ∧ (parseMethodDescriptor yJ6_numberOfTrailingZeros_0f7a4.desc).map (fun d => d.parameters.length) = some 1 := ⟨gW_S (by decide +kernel), by decide +kernel, by decide +kernel, by decide +kernel⟩
theorem qcX2_43 : gW.contains (.methodLink RX2 43 Lib.Math.abs.name) = true ∧ gW.contains (.static Lib.Math.abs.name) = true ∧ gW.contains (.initialized "java/lang/Math") = true ∧ gW.contains (.code Lib.Math.abs.name Lib.Math.abs.code 1 (some .int)) = true := ⟨by decide +kernel, by decide +kernel, by decide +kernel, by decide +kernel⟩
theorem qcX2_46 : GoodIn gW (va_wsS RX2 46 yJ6_bitCount_0f7a4 (Cond.code yJ6_bitCount_0f7a4 cJ6_bitCount_0f7a4 1 (some .int) :: gW)) ∧ yJ6_bitCount_0f7a4.cls ≠ "java/lang/invoke/MethodHandle" ∧ yJ6_bitCount_0f7a4.cls ≠ "java/lang/invoke/VarHandle" ∧ (parseMethodDescriptor yJ6_bitCount_0f7a4.desc).map (fun d => d.parameters.length) = some 1 := ⟨gW_S (by decide +kernel), by decide +kernel, by decide +kernel, by decide +kernel⟩
theorem qcX3_3 : gW.contains (.methodLink RX3 3 objectInit) = true ∧ gW.contains (.instanceMethod objectInit) = true ∧ gW.contains (.code objectInit ⟨#[0xb1]⟩ 1 none) = true := ⟨by decide +kernel, by decide +kernel, by decide +kernel⟩
theorem fgX3_9 : fOkG RX3 9 "LostParcels$Matching" [4] 0 = true := by decide +kernel
theorem fpX3_9 : fOkP RX3 [4] 0 (.array .long) true = true := by decide +kernel
theorem fgX3_15 : fOkG RX3 15 "LostParcels$Matching" [4] 1 = true := by decide +kernel
theorem fpX3_15 : fOkP RX3 [4] 1 (.array .long) true = true := by decide +kernel
theorem fgX3_18 : fOkG RX3 18 "LostParcels$Matching" [4] 2 = true := by decide +kernel
theorem fpX3_18 : fOkP RX3 [4] 2 .int false = true := by decide +kernel
theorem kcX3_22 : gW.contains (.constantLong RX3 22 (37822859361)) = true := by decide +kernel
theorem ksX3_24 : gW.contains (.fieldLink RX3 24 "LostParcels$Matching" "PLACES" "[J") = true := by decide +kernel
theorem kcX3_27 : gW.contains (.constantLong RX3 27 (21)) = true := by decide +kernel
theorem qcX3_29 : GoodIn gW (va_wsS RX3 29 yJ7_fill_d0a16 (Cond.code yJ7_fill_d0a16 cJ7_fill_d0a16 5 none :: gW)) ∧ yJ7_fill_d0a16.cls ≠ "java/lang/invoke/MethodHandle" ∧ yJ7_fill_d0a16.cls ≠ "java/lang/invoke/VarHandle" ∧ (parseMethodDescriptor yJ7_fill_d0a16.desc).map (fun d => d.parameters.length) = some 2 := ⟨gW_S (by decide +kernel), by decide +kernel, by decide +kernel, by decide +kernel⟩
theorem qcX3_35 : nW.contains (.methodLinkNest RX3 35 yX9_hasBit "LostParcels") = true ∧ gW.contains (.static yX9_hasBit) = true ∧ gW.contains (.initialized yX9_hasBit.cls) = true ∧ gW.contains (Cond.code yX9_hasBit cX9_hasBit 2 (some .boolean)) = true ∧ yX9_hasBit.cls ≠ "java/lang/invoke/MethodHandle" ∧ yX9_hasBit.cls ≠ "java/lang/invoke/VarHandle" ∧ (parseMethodDescriptor yX9_hasBit.desc).map (fun d => d.parameters.length) = some 2 := ⟨by decide +kernel, by decide +kernel, by decide +kernel, by decide +kernel, by decide +kernel, by decide +kernel, by decide +kernel⟩
theorem qcX3_39 : gW.contains (.methodLink RX3 39 Lib.MathLoose.max_long.x) = true ∧ gW.contains (.static Lib.MathLoose.max_long.x) = true ∧ gW.contains (.initialized "java/lang/Math") = true ∧ gW.contains (.code Lib.MathLoose.max_long.x Lib.MathLoose.max_long.code 4 (some .long)) = true := ⟨by decide +kernel, by decide +kernel, by decide +kernel, by decide +kernel⟩
theorem qcX4_3 : gW.contains (.methodLink RX4 3 objectInit) = true ∧ gW.contains (.instanceMethod objectInit) = true ∧ gW.contains (.code objectInit ⟨#[0xb1]⟩ 1 none) = true := ⟨by decide +kernel, by decide +kernel, by decide +kernel⟩
theorem fgX4_9 : fOkG RX4 9 "LostParcels$Parting" [5] 0 = true := by decide +kernel
theorem fpX4_9 : fOkP RX4 [5] 0 (.array .int) true = true := by decide +kernel
theorem fgX4_15 : fOkG RX4 15 "LostParcels$Parting" [5] 1 = true := by decide +kernel
theorem fpX4_15 : fOkP RX4 [5] 1 (.array .int) true = true := by decide +kernel
theorem fgX4_18 : fOkG RX4 18 "LostParcels$Parting" [5] 2 = true := by decide +kernel
theorem fpX4_18 : fOkP RX4 [5] 2 .int false = true := by decide +kernel
theorem fgX4_22 : fOkG RX4 22 "LostParcels$Parting" [5] 3 = true := by decide +kernel
theorem fpX4_22 : fOkP RX4 [5] 3 .int false = true := by decide +kernel
theorem fgX4_25 : fOkG RX4 25 "LostParcels$Parting" [5] 4 = true := by decide +kernel
theorem fpX4_25 : fOkP RX4 [5] 4 .int false = true := by decide +kernel
theorem qcX4_53 : GoodIn gW (va_wsS RX4 53 yJ6_bitCount_0f7a4 (Cond.code yJ6_bitCount_0f7a4 cJ6_bitCount_0f7a4 1 (some .int) :: gW)) ∧ yJ6_bitCount_0f7a4.cls ≠ "java/lang/invoke/MethodHandle" ∧ yJ6_bitCount_0f7a4.cls ≠ "java/lang/invoke/VarHandle" ∧ (parseMethodDescriptor yJ6_bitCount_0f7a4.desc).map (fun d => d.parameters.length) = some 1 := ⟨gW_S (by decide +kernel), by decide +kernel, by decide +kernel, by decide +kernel⟩
theorem qcX4_58 : nW.contains (.methodLinkNest RX4 58 yX9_within "LostParcels") = true ∧ gW.contains (.static yX9_within) = true ∧ gW.contains (.initialized yX9_within.cls) = true ∧ gW.contains (Cond.code yX9_within cX9_within 3 (some .boolean)) = true ∧ yX9_within.cls ≠ "java/lang/invoke/MethodHandle" ∧ yX9_within.cls ≠ "java/lang/invoke/VarHandle" ∧ (parseMethodDescriptor yX9_within.desc).map (fun d => d.parameters.length) = some 3 := ⟨by decide +kernel, by decide +kernel, by decide +kernel, by decide +kernel, by decide +kernel, by decide +kernel, by decide +kernel⟩
theorem qcX4_28 : vwCl[0]? = some (RJx4a65c, TJx4a65c, 3) ∧ GoodIn gW (wsV RX4 28 RJx4a65c yJx4a65c_size_8abf5 (Cond.code yJx4a65c_size_8abf5 cJx4a65c_size_8abf5 1 (some .int) :: gW)) ∧ yJx4a65c_size_8abf5.cls = RJx4a65c ∧ yJx4a65c_size_8abf5.cls ≠ "java/lang/invoke/MethodHandle" ∧ yJx4a65c_size_8abf5.cls ≠ "java/lang/invoke/VarHandle" ∧ (parseMethodDescriptor yJx4a65c_size_8abf5.desc).map (fun d => d.parameters.length) = some 0 := ⟨rfl, gW_V (by decide +kernel), rfl, by decide +kernel, by decide +kernel, by decide +kernel⟩
theorem qcX4_34 : gW.contains (.methodLink RX4 34 Lib.Math.min.name) = true ∧ gW.contains (.static Lib.Math.min.name) = true ∧ gW.contains (.initialized "java/lang/Math") = true ∧ gW.contains (.code Lib.Math.min.name Lib.Math.min.code 2 (some .int)) = true := ⟨by decide +kernel, by decide +kernel, by decide +kernel, by decide +kernel⟩
theorem qcX4_40 : vwCl[0]? = some (RJx4a65c, TJx4a65c, 3) ∧ GoodIn gW (wsV RX4 40 RJx4a65c yJx4a65c_get_915e3 (Cond.code yJx4a65c_get_915e3 cJx4a65c_get_915e3 2 (some (.object "java/lang/Object")) :: gW)) ∧ yJx4a65c_get_915e3.cls = RJx4a65c ∧ yJx4a65c_get_915e3.cls ≠ "java/lang/invoke/MethodHandle" ∧ yJx4a65c_get_915e3.cls ≠ "java/lang/invoke/VarHandle" ∧ (parseMethodDescriptor yJx4a65c_get_915e3.desc).map (fun d => d.parameters.length) = some 1 := ⟨rfl, gW_V (by decide +kernel), rfl, by decide +kernel, by decide +kernel, by decide +kernel⟩
theorem ckX4_44 : castOk RX4 44 "LostParcels$Thing" [9, 6] = true := by decide +kernel
theorem fgX4_46 : fOkG RX4 46 "LostParcels$Thing" [9, 6] 3 = true := by decide +kernel
theorem qcX4_49 : vwCl[5]? = some (RX4, TX4, 5) ∧ GoodIn gW (wsV RX4 49 RX4 yX4_bestLot (Cond.code yX4_bestLot cX4_bestLot 10 (some .int) :: gW)) ∧ yX4_bestLot.cls = RX4 ∧ yX4_bestLot.cls ≠ "java/lang/invoke/MethodHandle" ∧ yX4_bestLot.cls ≠ "java/lang/invoke/VarHandle" ∧ (parseMethodDescriptor yX4_bestLot.desc).map (fun d => d.parameters.length) = some 1 := ⟨rfl, gW_V (by decide +kernel), rfl, by decide +kernel, by decide +kernel, by decide +kernel⟩
theorem qcX8_3 : gW.contains (.methodLink RX8 3 objectInit) = true ∧ gW.contains (.instanceMethod objectInit) = true ∧ gW.contains (.code objectInit ⟨#[0xb1]⟩ 1 none) = true := ⟨by decide +kernel, by decide +kernel, by decide +kernel⟩
theorem fgX8_9 : fOkG RX8 9 "LostParcels$Thing" [9, 6] 5 = true := by decide +kernel
theorem fpX8_9 : fOkP RX8 [9, 6] 5 (.array .int) true = true := by decide +kernel
theorem fgX8_15 : fOkG RX8 15 "LostParcels$Thing" [9, 6] 6 = true := by decide +kernel
theorem fpX8_15 : fOkP RX8 [9, 6] 6 .int false = true := by decide +kernel
theorem fgX8_19 : fOkG RX8 19 "LostParcels$Thing" [9, 6] 7 = true := by decide +kernel
theorem fpX8_19 : fOkP RX8 [9, 6] 7 .int false = true := by decide +kernel
theorem fgX8_22 : fOkG RX8 22 "LostParcels$Thing" [9, 6] 8 = true := by decide +kernel
theorem fpX8_22 : fOkP RX8 [9, 6] 8 .int false = true := by decide +kernel
theorem fgX8_25 : fOkG RX8 25 "LostParcels$Thing" [9, 6] 9 = true := by decide +kernel
theorem fpX8_25 : fOkP RX8 [9, 6] 9 .int false = true := by decide +kernel
theorem fgX8_28 : fOkG RX8 28 "LostParcels$Thing" [9, 6] 10 = true := by decide +kernel
theorem fpX8_28 : fOkP RX8 [9, 6] 10 .boolean false = true := by decide +kernel
theorem fgX8_32 : fOkG RX8 32 "LostParcels$Thing" [9, 6] 11 = true := by decide +kernel
theorem fpX8_32 : fOkP RX8 [9, 6] 11 (.object "LostParcels$Change") false = true := by decide +kernel
theorem fgX8_36 : fOkG RX8 36 "LostParcels$Thing" [9, 6] 0 = true := by decide +kernel
theorem fpX8_36 : fOkP RX8 [9, 6] 0 .int true = true := by decide +kernel
theorem fgX8_39 : fOkG RX8 39 "LostParcels$Thing" [9, 6] 1 = true := by decide +kernel
theorem fpX8_39 : fOkP RX8 [9, 6] 1 .int true = true := by decide +kernel
theorem fgX8_42 : fOkG RX8 42 "LostParcels$Thing" [9, 6] 2 = true := by decide +kernel
theorem fpX8_42 : fOkP RX8 [9, 6] 2 .int true = true := by decide +kernel
theorem fgX8_45 : fOkG RX8 45 "LostParcels$Thing" [9, 6] 3 = true := by decide +kernel
theorem fpX8_45 : fOkP RX8 [9, 6] 3 .int true = true := by decide +kernel
theorem fgX8_48 : fOkG RX8 48 "LostParcels$Thing" [9, 6] 4 = true := by decide +kernel
theorem fpX8_48 : fOkP RX8 [9, 6] 4 .int true = true := by decide +kernel
theorem qcX5_3 : gW.contains (.methodLink RX5 3 yX8_init) = true ∧ gW.contains (.instanceMethod yX8_init) = true ∧ gW.contains (.initialized yX8_init.cls) = true ∧ gW.contains (Cond.code yX8_init cX8_init 6 none) = true ∧ yX8_init.name = "<init>" ∧ yX8_init.cls ≠ "java/lang/invoke/MethodHandle" ∧ yX8_init.cls ≠ "java/lang/invoke/VarHandle" ∧ (parseMethodDescriptor yX8_init.desc).map (fun d => d.parameters.length) = some 5 := ⟨by decide +kernel, by decide +kernel, by decide +kernel, by decide +kernel, by decide +kernel, by decide +kernel, by decide +kernel, by decide +kernel⟩
theorem fgX5_9 : fOkG RX5 9 "LostParcels$Purse" [6] 12 = true := by decide +kernel
theorem fpX5_9 : fOkP RX5 [6] 12 (.array .int) true = true := by decide +kernel
theorem qcX5_15 : GoodIn gW (va_wsS RX5 15 yJ7_fill_53178 (Cond.code yJ7_fill_53178 cJ7_fill_53178 4 none :: gW)) ∧ yJ7_fill_53178.cls ≠ "java/lang/invoke/MethodHandle" ∧ yJ7_fill_53178.cls ≠ "java/lang/invoke/VarHandle" ∧ (parseMethodDescriptor yJ7_fill_53178.desc).map (fun d => d.parameters.length) = some 2 := ⟨gW_S (by decide +kernel), by decide +kernel, by decide +kernel, by decide +kernel⟩
theorem qcX5_21 : vwCl[6]? = some (RX5, TX5, 13) ∧ GoodIn gW (wsV RX5 21 RX5 yX5_handsWith (Cond.code yX5_handsWith cX5_handsWith 4 (some .int) :: gW)) ∧ yX5_handsWith.cls = RX5 ∧ yX5_handsWith.cls ≠ "java/lang/invoke/MethodHandle" ∧ yX5_handsWith.cls ≠ "java/lang/invoke/VarHandle" ∧ (parseMethodDescriptor yX5_handsWith.desc).map (fun d => d.parameters.length) = some 1 := ⟨rfl, gW_V (by decide +kernel), rfl, by decide +kernel, by decide +kernel, by decide +kernel⟩
theorem qcX6_3 : gW.contains (.methodLink RX6 3 objectInit) = true ∧ gW.contains (.instanceMethod objectInit) = true ∧ gW.contains (.code objectInit ⟨#[0xb1]⟩ 1 none) = true := ⟨by decide +kernel, by decide +kernel, by decide +kernel⟩
theorem fgX6_9 : fOkG RX6 9 "LostParcels$Records" [7] 0 = true := by decide +kernel
theorem fpX6_9 : fOkP RX6 [7] 0 (.array .int) true = true := by decide +kernel
theorem fgX6_15 : fOkG RX6 15 "LostParcels$Records" [7] 1 = true := by decide +kernel
theorem fpX6_15 : fOkP RX6 [7] 1 (.array .int) true = true := by decide +kernel
theorem fgX6_18 : fOkG RX6 18 "LostParcels$Records" [7] 2 = true := by decide +kernel
theorem fpX6_18 : fOkP RX6 [7] 2 .int false = true := by decide +kernel
theorem fgX6_22 : fOkG RX6 22 "LostParcels$Records" [7] 3 = true := by decide +kernel
theorem fpX6_22 : fOkP RX6 [7] 3 .int false = true := by decide +kernel
theorem qcX6_25 : GoodIn gW (va_wsS RX6 25 yX6_waysToChoose (Cond.code yX6_waysToChoose cX6_waysToChoose 5 (some .long) :: gW)) ∧ yX6_waysToChoose.cls ≠ "java/lang/invoke/MethodHandle" ∧ yX6_waysToChoose.cls ≠ "java/lang/invoke/VarHandle" ∧ (parseMethodDescriptor yX6_waysToChoose.desc).map (fun d => d.parameters.length) = some 2 := ⟨gW_S (by decide +kernel), by decide +kernel, by decide +kernel, by decide +kernel⟩
theorem kcX6_29 : gW.contains (.constantLong RX6 29 (20)) = true := by decide +kernel
theorem qcX7_3 : gW.contains (.methodLink RX7 3 objectInit) = true ∧ gW.contains (.instanceMethod objectInit) = true ∧ gW.contains (.code objectInit ⟨#[0xb1]⟩ 1 none) = true := ⟨by decide +kernel, by decide +kernel, by decide +kernel⟩
theorem fgX7_9 : fOkG RX7 9 "LostParcels$Seeker" [8] 1 = true := by decide +kernel
theorem fpX7_9 : fOkP RX7 [8] 1 (.array .int) true = true := by decide +kernel
theorem fgX7_15 : fOkG RX7 15 "LostParcels$Seeker" [8] 2 = true := by decide +kernel
theorem fpX7_15 : fOkP RX7 [8] 2 .int false = true := by decide +kernel
theorem fgX7_19 : fOkG RX7 19 "LostParcels$Seeker" [8] 3 = true := by decide +kernel
theorem fpX7_19 : fOkP RX7 [8] 3 .int false = true := by decide +kernel
theorem fgX7_22 : fOkG RX7 22 "LostParcels$Seeker" [8] 4 = true := by decide +kernel
theorem fpX7_22 : fOkP RX7 [8] 4 .int false = true := by decide +kernel
theorem fgX7_25 : fOkG RX7 25 "LostParcels$Seeker" [8] 0 = true := by decide +kernel
theorem fpX7_25 : fOkP RX7 [8] 0 .int true = true := by decide +kernel
theorem qcX7_28 : GoodIn gW (va_wsS RX7 28 yJ7_fill_53178 (Cond.code yJ7_fill_53178 cJ7_fill_53178 4 none :: gW)) ∧ yJ7_fill_53178.cls ≠ "java/lang/invoke/MethodHandle" ∧ yJ7_fill_53178.cls ≠ "java/lang/invoke/VarHandle" ∧ (parseMethodDescriptor yJ7_fill_53178.desc).map (fun d => d.parameters.length) = some 2 := ⟨gW_S (by decide +kernel), by decide +kernel, by decide +kernel, by decide +kernel⟩
theorem kwX8_52 : newOk RX8 52 2 [.int 0, .null, .int 0] = true := by decide +kernel
theorem qcX8_57 : gW.contains (.methodLink RX8 57 yX1_init) = true ∧ gW.contains (.instanceMethod yX1_init) = true ∧ gW.contains (.initialized yX1_init.cls) = true ∧ gW.contains (Cond.code yX1_init cX1_init 4 none) = true ∧ yX1_init.name = "<init>" ∧ yX1_init.cls ≠ "java/lang/invoke/MethodHandle" ∧ yX1_init.cls ≠ "java/lang/invoke/VarHandle" ∧ (parseMethodDescriptor yX1_init.desc).map (fun d => d.parameters.length) = some 3 := ⟨by decide +kernel, by decide +kernel, by decide +kernel, by decide +kernel, by decide +kernel, by decide +kernel, by decide +kernel, by decide +kernel⟩
theorem fgX8_51 : fOkG RX8 51 "LostParcels$Change" [2] 0 = true := by decide +kernel
theorem fgX8_56 : fOkG RX8 56 "LostParcels$Change" [2] 2 = true := by decide +kernel
theorem fpX8_56 : fOkP RX8 [2] 2 .int false = true := by decide +kernel
theorem fgX8_60 : fOkG RX8 60 "LostParcels$Change" [2] 1 = true := by decide +kernel
theorem qcJxa1e45_1 : gW.contains (.methodLink RJxa1e45 1 objectInit) = true ∧ gW.contains (.instanceMethod objectInit) = true ∧ gW.contains (.code objectInit ⟨#[0xb1]⟩ 1 none) = true := ⟨by decide +kernel, by decide +kernel, by decide +kernel⟩
theorem qcJxc12de_1 : gW.contains (.methodLink RJxc12de 1 yJxa1e45_init_da8c8) = true ∧ gW.contains (.instanceMethod yJxa1e45_init_da8c8) = true ∧ gW.contains (.initialized yJxa1e45_init_da8c8.cls) = true ∧ gW.contains (Cond.code yJxa1e45_init_da8c8 cJxa1e45_init_da8c8 1 none) = true ∧ yJxa1e45_init_da8c8.name = "<init>" ∧ yJxa1e45_init_da8c8.cls ≠ "java/lang/invoke/MethodHandle" ∧ yJxa1e45_init_da8c8.cls ≠ "java/lang/invoke/VarHandle" ∧ (parseMethodDescriptor yJxa1e45_init_da8c8.desc).map (fun d => d.parameters.length) = some 0 := ⟨by decide +kernel, by decide +kernel, by decide +kernel, by decide +kernel, by decide +kernel, by decide +kernel, by decide +kernel, by decide +kernel⟩
theorem fgJxc12de_7 : fOkG RJxc12de 7 "java/util/AbstractList" [0] 0 = true := by decide +kernel
theorem fpJxc12de_7 : fOkP RJxc12de [0] 0 .int false = true := by decide +kernel
theorem qcJx4a65c_1 : gW.contains (.methodLink RJx4a65c 1 yJxc12de_init_da8c8) = true ∧ gW.contains (.instanceMethod yJxc12de_init_da8c8) = true ∧ gW.contains (.initialized yJxc12de_init_da8c8.cls) = true ∧ gW.contains (Cond.code yJxc12de_init_da8c8 cJxc12de_init_da8c8 1 none) = true ∧ yJxc12de_init_da8c8.name = "<init>" ∧ yJxc12de_init_da8c8.cls ≠ "java/lang/invoke/MethodHandle" ∧ yJxc12de_init_da8c8.cls ≠ "java/lang/invoke/VarHandle" ∧ (parseMethodDescriptor yJxc12de_init_da8c8.desc).map (fun d => d.parameters.length) = some 0 := ⟨by decide +kernel, by decide +kernel, by decide +kernel, by decide +kernel, by decide +kernel, by decide +kernel, by decide +kernel, by decide +kernel⟩
theorem ksJx4a65c_39 : gW.contains (.fieldLink RJx4a65c 39 "java/util/ArrayList" "DEFAULTCAPACITY_EMPTY_ELEMENTDATA" "[Ljava/lang/Object;") = true := by decide +kernel
theorem fpJx4a65c_9 : fOkP RJx4a65c [0] 1 (.array (.object "java/lang/Object")) false = true := by decide +kernel
theorem qcX9_1 : gW.contains (.methodLink RX9 1 objectInit) = true ∧ gW.contains (.instanceMethod objectInit) = true ∧ gW.contains (.code objectInit ⟨#[0xb1]⟩ 1 none) = true := ⟨by decide +kernel, by decide +kernel, by decide +kernel⟩
theorem kwX9_7 : newOk RX9 7 0 [.int 0, .null, .int 0] = true := by decide +kernel
theorem qcX9_9 : gW.contains (.methodLink RX9 9 yJx4a65c_init_da8c8) = true ∧ gW.contains (.instanceMethod yJx4a65c_init_da8c8) = true ∧ gW.contains (.initialized yJx4a65c_init_da8c8.cls) = true ∧ gW.contains (Cond.code yJx4a65c_init_da8c8 cJx4a65c_init_da8c8 1 none) = true ∧ yJx4a65c_init_da8c8.name = "<init>" ∧ yJx4a65c_init_da8c8.cls ≠ "java/lang/invoke/MethodHandle" ∧ yJx4a65c_init_da8c8.cls ≠ "java/lang/invoke/VarHandle" ∧ (parseMethodDescriptor yJx4a65c_init_da8c8.desc).map (fun d => d.parameters.length) = some 0 := ⟨by decide +kernel, by decide +kernel, by decide +kernel, by decide +kernel, by decide +kernel, by decide +kernel, by decide +kernel, by decide +kernel⟩
theorem fgX9_10 : fOkG RX9 10 "LostParcels" [10] 0 = true := by decide +kernel
theorem fpX9_10 : fOkP RX9 [10] 0 (.object "java/util/ArrayList") true = true := by decide +kernel
theorem fgX9_16 : fOkG RX9 16 "LostParcels" [10] 1 = true := by decide +kernel
theorem fpX9_16 : fOkP RX9 [10] 1 (.object "java/util/ArrayList") true = true := by decide +kernel
theorem fgX9_19 : fOkG RX9 19 "LostParcels" [10] 2 = true := by decide +kernel
theorem fpX9_19 : fOkP RX9 [10] 2 (.object "java/util/ArrayList") true = true := by decide +kernel
theorem fgX9_22 : fOkG RX9 22 "LostParcels" [10] 3 = true := by decide +kernel
theorem fpX9_22 : fOkP RX9 [10] 3 (.array .int) true = true := by decide +kernel
theorem fgX9_26 : fOkG RX9 26 "LostParcels" [10] 4 = true := by decide +kernel
theorem fpX9_26 : fOkP RX9 [10] 4 (.array .int) true = true := by decide +kernel
theorem fgX9_29 : fOkG RX9 29 "LostParcels" [10] 5 = true := by decide +kernel
theorem fpX9_29 : fOkP RX9 [10] 5 (.array .int) true = true := by decide +kernel
theorem fgX9_32 : fOkG RX9 32 "LostParcels" [10] 6 = true := by decide +kernel
theorem fpX9_32 : fOkP RX9 [10] 6 (.array .int) true = true := by decide +kernel
theorem fgX9_35 : fOkG RX9 35 "LostParcels" [10] 7 = true := by decide +kernel
theorem fpX9_35 : fOkP RX9 [10] 7 (.object "java/util/ArrayList") true = true := by decide +kernel
theorem kwX9_38 : newOk RX9 38 4 [.null, .null, .int 0] = true := by decide +kernel
theorem qcX9_40 : nW.contains (.methodLinkNest RX9 40 yX3_init "LostParcels") = true ∧ gW.contains (.instanceMethod yX3_init) = true ∧ gW.contains (.initialized yX3_init.cls) = true ∧ gW.contains (Cond.code yX3_init cX3_init 1 none) = true ∧ yX3_init.name = "<init>" ∧ yX3_init.cls ≠ "java/lang/invoke/MethodHandle" ∧ yX3_init.cls ≠ "java/lang/invoke/VarHandle" ∧ (parseMethodDescriptor yX3_init.desc).map (fun d => d.parameters.length) = some 0 := ⟨by decide +kernel, by decide +kernel, by decide +kernel, by decide +kernel, by decide +kernel, by decide +kernel, by decide +kernel, by decide +kernel⟩
theorem fgX9_41 : fOkG RX9 41 "LostParcels" [10] 8 = true := by decide +kernel
theorem fpX9_41 : fOkP RX9 [10] 8 (.object "LostParcels$Matching") true = true := by decide +kernel
theorem kwX9_45 : newOk RX9 45 5 [.null, .null, .int 0, .int 0, .int 0] = true := by decide +kernel
theorem qcX9_47 : nW.contains (.methodLinkNest RX9 47 yX4_init "LostParcels") = true ∧ gW.contains (.instanceMethod yX4_init) = true ∧ gW.contains (.initialized yX4_init.cls) = true ∧ gW.contains (Cond.code yX4_init cX4_init 1 none) = true ∧ yX4_init.name = "<init>" ∧ yX4_init.cls ≠ "java/lang/invoke/MethodHandle" ∧ yX4_init.cls ≠ "java/lang/invoke/VarHandle" ∧ (parseMethodDescriptor yX4_init.desc).map (fun d => d.parameters.length) = some 0 := ⟨by decide +kernel, by decide +kernel, by decide +kernel, by decide +kernel, by decide +kernel, by decide +kernel, by decide +kernel, by decide +kernel⟩
theorem fgX9_48 : fOkG RX9 48 "LostParcels" [10] 9 = true := by decide +kernel
theorem fpX9_48 : fOkP RX9 [10] 9 (.object "LostParcels$Parting") true = true := by decide +kernel
theorem kwX9_52 : newOk RX9 52 3 [.null] = true := by decide +kernel
theorem qcX9_54 : nW.contains (.methodLinkNest RX9 54 yX2_init "LostParcels") = true ∧ gW.contains (.instanceMethod yX2_init) = true ∧ gW.contains (.initialized yX2_init.cls) = true ∧ gW.contains (Cond.code yX2_init cX2_init 1 none) = true ∧ yX2_init.name = "<init>" ∧ yX2_init.cls ≠ "java/lang/invoke/MethodHandle" ∧ yX2_init.cls ≠ "java/lang/invoke/VarHandle" ∧ (parseMethodDescriptor yX2_init.desc).map (fun d => d.parameters.length) = some 0 := ⟨by decide +kernel, by decide +kernel, by decide +kernel, by decide +kernel, by decide +kernel, by decide +kernel, by decide +kernel, by decide +kernel⟩
theorem fgX9_55 : fOkG RX9 55 "LostParcels" [10] 10 = true := by decide +kernel
theorem fpX9_55 : fOkP RX9 [10] 10 (.object "LostParcels$Gathering") true = true := by decide +kernel
theorem kwX9_59 : newOk RX9 59 7 [.null, .null, .int 0, .int 0] = true := by decide +kernel
theorem qcX9_61 : nW.contains (.methodLinkNest RX9 61 yX6_init "LostParcels") = true ∧ gW.contains (.instanceMethod yX6_init) = true ∧ gW.contains (.initialized yX6_init.cls) = true ∧ gW.contains (Cond.code yX6_init cX6_init 1 none) = true ∧ yX6_init.name = "<init>" ∧ yX6_init.cls ≠ "java/lang/invoke/MethodHandle" ∧ yX6_init.cls ≠ "java/lang/invoke/VarHandle" ∧ (parseMethodDescriptor yX6_init.desc).map (fun d => d.parameters.length) = some 0 := ⟨by decide +kernel, by decide +kernel, by decide +kernel, by decide +kernel, by decide +kernel, by decide +kernel, by decide +kernel, by decide +kernel⟩
theorem fgX9_62 : fOkG RX9 62 "LostParcels" [10] 11 = true := by decide +kernel
theorem fpX9_62 : fOkP RX9 [10] 11 (.object "LostParcels$Records") true = true := by decide +kernel
theorem fgX9_66 : fOkG RX9 66 "LostParcels" [10] 12 = true := by decide +kernel
theorem fpX9_66 : fOkP RX9 [10] 12 .int false = true := by decide +kernel
theorem fgX9_70 : fOkG RX9 70 "LostParcels" [10] 13 = true := by decide +kernel
theorem fpX9_70 : fOkP RX9 [10] 13 .int false = true := by decide +kernel
theorem fgX9_73 : fOkG RX9 73 "LostParcels" [10] 14 = true := by decide +kernel
theorem fpX9_73 : fOkP RX9 [10] 14 .int false = true := by decide +kernel
theorem fgX9_76 : fOkG RX9 76 "LostParcels" [10] 15 = true := by decide +kernel
theorem fpX9_76 : fOkP RX9 [10] 15 .int false = true := by decide +kernel
theorem qcX9_79 : GoodIn gW (va_wsS RX9 79 yJ7_fill_53178 (Cond.code yJ7_fill_53178 cJ7_fill_53178 4 none :: gW)) ∧ yJ7_fill_53178.cls ≠ "java/lang/invoke/MethodHandle" ∧ yJ7_fill_53178.cls ≠ "java/lang/invoke/VarHandle" ∧ (parseMethodDescriptor yJ7_fill_53178.desc).map (fun d => d.parameters.length) = some 2 := ⟨gW_S (by decide +kernel), by decide +kernel, by decide +kernel, by decide +kernel⟩
theorem klJ7_110 : gW.contains (.classLink RJ7 110 "[Ljava/lang/Object;") = true := by decide +kernel
theorem klJ7_2 : gW.contains (.classLink RJ7 2 "java/lang/Object") = true := by decide +kernel
theorem qcJ7_304 : gW.contains (.methodLink RJ7 304 Lib.Math.min.name) = true ∧ gW.contains (.static Lib.Math.min.name) = true ∧ gW.contains (.initialized "java/lang/Math") = true ∧ gW.contains (.code Lib.Math.min.name Lib.Math.min.code 2 (some .int)) = true := ⟨by decide +kernel, by decide +kernel, by decide +kernel, by decide +kernel⟩
theorem qcJ7_150 : gW.contains (.methodLink RJ7 150 arraycopyName) = true ∧ gW.contains (.native arraycopyName) = true ∧ gW.contains (.static arraycopyName) = true ∧ gW.contains (.initialized "java/lang/System") = true := ⟨by decide +kernel, by decide +kernel, by decide +kernel, by decide +kernel⟩
theorem qcJ7_86 : gW.contains (.methodLink RJ7 86 ⟨"java/lang/Object", "getClass", "()Ljava/lang/Class;"⟩) = true ∧ nW.contains (.declares ⟨"java/lang/Object", "getClass", "()Ljava/lang/Class;"⟩) = true ∧ gW.contains (.selects "[Ljava/lang/Object;" ⟨"java/lang/Object", "getClass", "()Ljava/lang/Class;"⟩ ⟨"java/lang/Object", "getClass", "()Ljava/lang/Class;"⟩) = true ∧ gW.contains (.instanceMethod ⟨"java/lang/Object", "getClass", "()Ljava/lang/Class;"⟩) = true ∧ gW.contains (.native ⟨"java/lang/Object", "getClass", "()Ljava/lang/Class;"⟩) = true := ⟨by decide +kernel, by decide +kernel, by decide +kernel, by decide +kernel, by decide +kernel⟩
theorem qcJ7_300 : GoodIn gW (va_wsS RJ7 300 yJ7_copyOf_6403c (Cond.code yJ7_copyOf_6403c cJ7_copyOf_6403c 4 (some (.array (.object "java/lang/Object"))) :: gW)) ∧ yJ7_copyOf_6403c.cls ≠ "java/lang/invoke/MethodHandle" ∧ yJ7_copyOf_6403c.cls ≠ "java/lang/invoke/VarHandle" ∧ (parseMethodDescriptor yJ7_copyOf_6403c.desc).map (fun d => d.parameters.length) = some 3 := ⟨gW_S (by decide +kernel), by decide +kernel, by decide +kernel, by decide +kernel⟩
theorem qcJ8_194 : gW.contains (.methodLink RJ8 194 Lib.Math.max.name) = true ∧ gW.contains (.static Lib.Math.max.name) = true ∧ gW.contains (.initialized "java/lang/Math") = true ∧ gW.contains (.code Lib.Math.max.name Lib.Math.max.code 2 (some .int)) = true := ⟨by decide +kernel, by decide +kernel, by decide +kernel, by decide +kernel⟩
theorem kcJ8_200 : gW.contains (.constant RJ8 200 (2147483639)) = true := by decide +kernel
theorem qcJx4a65c_73 : GoodIn gW (va_wsS RJx4a65c 73 yJ8_newLength_cabcc (Cond.code yJ8_newLength_cabcc cJ8_newLength_cabcc 4 (some .int) :: gW)) ∧ yJ8_newLength_cabcc.cls ≠ "java/lang/invoke/MethodHandle" ∧ yJ8_newLength_cabcc.cls ≠ "java/lang/invoke/VarHandle" ∧ (parseMethodDescriptor yJ8_newLength_cabcc.desc).map (fun d => d.parameters.length) = some 3 := ⟨gW_S (by decide +kernel), by decide +kernel, by decide +kernel, by decide +kernel⟩
theorem qcJx4a65c_66 : GoodIn gW (va_wsS RJx4a65c 66 yJ7_copyOf_1904c (Cond.code yJ7_copyOf_1904c cJ7_copyOf_1904c 2 (some (.array (.object "java/lang/Object"))) :: gW)) ∧ yJ7_copyOf_1904c.cls ≠ "java/lang/invoke/MethodHandle" ∧ yJ7_copyOf_1904c.cls ≠ "java/lang/invoke/VarHandle" ∧ (parseMethodDescriptor yJ7_copyOf_1904c.desc).map (fun d => d.parameters.length) = some 2 := ⟨gW_S (by decide +kernel), by decide +kernel, by decide +kernel, by decide +kernel⟩
theorem qcJx4a65c_79 : gW.contains (.methodLink RJx4a65c 79 Lib.Math.max.name) = true ∧ gW.contains (.static Lib.Math.max.name) = true ∧ gW.contains (.initialized "java/lang/Math") = true ∧ gW.contains (.code Lib.Math.max.name Lib.Math.max.code 2 (some .int)) = true := ⟨by decide +kernel, by decide +kernel, by decide +kernel, by decide +kernel⟩
theorem klJx4a65c_7 : gW.contains (.classLink RJx4a65c 7 "java/lang/Object") = true := by decide +kernel
theorem qcJx4a65c_69 : vwCl[0]? = some (RJx4a65c, TJx4a65c, 3) ∧ GoodIn gW (wsV RJx4a65c 69 RJx4a65c yJx4a65c_grow_92f84 (Cond.code yJx4a65c_grow_92f84 cJx4a65c_grow_92f84 4 (some (.array (.object "java/lang/Object"))) :: gW)) ∧ yJx4a65c_grow_92f84.cls = RJx4a65c ∧ yJx4a65c_grow_92f84.cls ≠ "java/lang/invoke/MethodHandle" ∧ yJx4a65c_grow_92f84.cls ≠ "java/lang/invoke/VarHandle" ∧ (parseMethodDescriptor yJx4a65c_grow_92f84.desc).map (fun d => d.parameters.length) = some 1 := ⟨rfl, gW_V (by decide +kernel), rfl, by decide +kernel, by decide +kernel, by decide +kernel⟩
theorem fpJx4a65c_48 : fOkP RJx4a65c [0] 2 .int false = true := by decide +kernel
theorem qcJx4a65c_129 : vwCl[0]? = some (RJx4a65c, TJx4a65c, 3) ∧ GoodIn gW (wsV RJx4a65c 129 RJx4a65c yJx4a65c_grow_d5877 (Cond.code yJx4a65c_grow_d5877 cJx4a65c_grow_d5877 1 (some (.array (.object "java/lang/Object"))) :: gW)) ∧ yJx4a65c_grow_d5877.cls = RJx4a65c ∧ yJx4a65c_grow_d5877.cls ≠ "java/lang/invoke/MethodHandle" ∧ yJx4a65c_grow_d5877.cls ≠ "java/lang/invoke/VarHandle" ∧ (parseMethodDescriptor yJx4a65c_grow_d5877.desc).map (fun d => d.parameters.length) = some 0 := ⟨rfl, gW_V (by decide +kernel), rfl, by decide +kernel, by decide +kernel, by decide +kernel⟩
theorem fgJx4a65c_63 : fOkG RJx4a65c 63 "java/util/ArrayList" [0] 0 = true := by decide +kernel
theorem fpJx4a65c_63 : fOkP RJx4a65c [0] 0 .int false = true := by decide +kernel
theorem qcJx4a65c_131 : vwCl[0]? = some (RJx4a65c, TJx4a65c, 3) ∧ GoodIn gW (wsV RJx4a65c 131 RJx4a65c yJx4a65c_add_72be8 (Cond.code yJx4a65c_add_72be8 cJx4a65c_add_72be8 4 none :: gW)) ∧ yJx4a65c_add_72be8.cls = RJx4a65c ∧ yJx4a65c_add_72be8.cls ≠ "java/lang/invoke/MethodHandle" ∧ yJx4a65c_add_72be8.cls ≠ "java/lang/invoke/VarHandle" ∧ (parseMethodDescriptor yJx4a65c_add_72be8.desc).map (fun d => d.parameters.length) = some 3 := ⟨rfl, gW_V (by decide +kernel), rfl, by decide +kernel, by decide +kernel, by decide +kernel⟩
theorem kcX9_316 : gW.contains (.constant RX9 316 (-1000000)) = true := by decide +kernel
theorem fgX9_123 : fOkG RX9 123 "LostParcels$Thing" [9, 6] 0 = true := by decide +kernel
theorem fgX9_138 : fOkG RX9 138 "LostParcels$Thing" [9, 6] 6 = true := by decide +kernel
theorem fgX9_132 : fOkG RX9 132 "LostParcels$Thing" [9, 6] 1 = true := by decide +kernel
theorem qcX9_107 : GoodIn gW (va_wsU RX9 107 RX5 RX8 yX8_become yX8_become (Cond.code yX8_become cX8_become 3 none :: gW)) ∧ GoodIn gW (va_wsU RX9 107 RX8 RX8 yX8_become yX8_become (Cond.code yX8_become cX8_become 3 none :: gW)) ∧ yX8_become = ⟨RX8, yX8_become.name, yX8_become.desc⟩ ∧ RX8 ≠ "java/lang/invoke/MethodHandle" ∧ RX8 ≠ "java/lang/invoke/VarHandle" ∧ (parseMethodDescriptor yX8_become.desc).map (fun d => d.parameters.length) = some 2 := ⟨gW_U (by decide +kernel), gW_U (by decide +kernel), rfl, by decide +kernel, by decide +kernel, by decide +kernel⟩
theorem qcX9_85 : GoodIn gW (va_wsS RX9 85 yX9_within (Cond.code yX9_within cX9_within 3 (some .boolean) :: gW)) ∧ yX9_within.cls ≠ "java/lang/invoke/MethodHandle" ∧ yX9_within.cls ≠ "java/lang/invoke/VarHandle" ∧ (parseMethodDescriptor yX9_within.desc).map (fun d => d.parameters.length) = some 3 := ⟨gW_S (by decide +kernel), by decide +kernel, by decide +kernel, by decide +kernel⟩
theorem qcX9_89 : vwCl[10]? = some (RX9, TX9, 16) ∧ GoodIn gW (wsV RX9 89 RX9 yX9_finding (Cond.code yX9_finding cX9_finding 2 (some .int) :: gW)) ∧ yX9_finding.cls = RX9 ∧ yX9_finding.cls ≠ "java/lang/invoke/MethodHandle" ∧ yX9_finding.cls ≠ "java/lang/invoke/VarHandle" ∧ (parseMethodDescriptor yX9_finding.desc).map (fun d => d.parameters.length) = some 1 := ⟨rfl, gW_V (by decide +kernel), rfl, by decide +kernel, by decide +kernel, by decide +kernel⟩
theorem qcX9_93 : vwCl[0]? = some (RJx4a65c, TJx4a65c, 3) ∧ GoodIn gW (wsV RX9 93 RJx4a65c yJx4a65c_size_8abf5 (Cond.code yJx4a65c_size_8abf5 cJx4a65c_size_8abf5 1 (some .int) :: gW)) ∧ yJx4a65c_size_8abf5.cls = RJx4a65c ∧ yJx4a65c_size_8abf5.cls ≠ "java/lang/invoke/MethodHandle" ∧ yJx4a65c_size_8abf5.cls ≠ "java/lang/invoke/VarHandle" ∧ (parseMethodDescriptor yJx4a65c_size_8abf5.desc).map (fun d => d.parameters.length) = some 0 := ⟨rfl, gW_V (by decide +kernel), rfl, by decide +kernel, by decide +kernel, by decide +kernel⟩
theorem kwX9_102 : newOk RX9 102 9 [.int 0, .int 0, .int 0, .int 0, .int 0, .null, .int 0, .int 0, .int 0, .int 0, .int 0, .null] = true := by decide +kernel
theorem qcX9_104 : gW.contains (.methodLink RX9 104 yX8_init) = true ∧ gW.contains (.instanceMethod yX8_init) = true ∧ gW.contains (.initialized yX8_init.cls) = true ∧ gW.contains (Cond.code yX8_init cX8_init 6 none) = true ∧ yX8_init.name = "<init>" ∧ yX8_init.cls ≠ "java/lang/invoke/MethodHandle" ∧ yX8_init.cls ≠ "java/lang/invoke/VarHandle" ∧ (parseMethodDescriptor yX8_init.desc).map (fun d => d.parameters.length) = some 5 := ⟨by decide +kernel, by decide +kernel, by decide +kernel, by decide +kernel, by decide +kernel, by decide +kernel, by decide +kernel, by decide +kernel⟩
theorem qcX9_111 : vwCl[10]? = some (RX9, TX9, 16) ∧ GoodIn gW (wsV RX9 111 RX9 yX9_spoilIfOld (Cond.code yX9_spoilIfOld cX9_spoilIfOld 2 (some .boolean) :: gW)) ∧ yX9_spoilIfOld.cls = RX9 ∧ yX9_spoilIfOld.cls ≠ "java/lang/invoke/MethodHandle" ∧ yX9_spoilIfOld.cls ≠ "java/lang/invoke/VarHandle" ∧ (parseMethodDescriptor yX9_spoilIfOld.desc).map (fun d => d.parameters.length) = some 1 := ⟨rfl, gW_V (by decide +kernel), rfl, by decide +kernel, by decide +kernel, by decide +kernel⟩
theorem qcX9_115 : vwCl[0]? = some (RJx4a65c, TJx4a65c, 3) ∧ GoodIn gW (wsV RX9 115 RJx4a65c yJx4a65c_add_9ea2d (Cond.code yJx4a65c_add_9ea2d cJx4a65c_add_9ea2d 2 (some .boolean) :: gW)) ∧ yJx4a65c_add_9ea2d.cls = RJx4a65c ∧ yJx4a65c_add_9ea2d.cls ≠ "java/lang/invoke/MethodHandle" ∧ yJx4a65c_add_9ea2d.cls ≠ "java/lang/invoke/VarHandle" ∧ (parseMethodDescriptor yJx4a65c_add_9ea2d.desc).map (fun d => d.parameters.length) = some 1 := ⟨rfl, gW_V (by decide +kernel), rfl, by decide +kernel, by decide +kernel, by decide +kernel⟩
theorem kwX9_97 : newOk RX9 97 6 [.int 0, .int 0, .int 0, .int 0, .int 0, .null, .int 0, .int 0, .int 0, .int 0, .int 0, .null, .null] = true := by decide +kernel
theorem qcX9_99 : gW.contains (.methodLink RX9 99 yX5_init) = true ∧ gW.contains (.instanceMethod yX5_init) = true ∧ gW.contains (.initialized yX5_init.cls) = true ∧ gW.contains (Cond.code yX5_init cX5_init 5 none) = true ∧ yX5_init.name = "<init>" ∧ yX5_init.cls ≠ "java/lang/invoke/MethodHandle" ∧ yX5_init.cls ≠ "java/lang/invoke/VarHandle" ∧ (parseMethodDescriptor yX5_init.desc).map (fun d => d.parameters.length) = some 4 := ⟨by decide +kernel, by decide +kernel, by decide +kernel, by decide +kernel, by decide +kernel, by decide +kernel, by decide +kernel, by decide +kernel⟩
theorem qcX9_144 : vwCl[0]? = some (RJx4a65c, TJx4a65c, 3) ∧ GoodIn gW (wsV RX9 144 RJx4a65c yJx4a65c_get_915e3 (Cond.code yJx4a65c_get_915e3 cJx4a65c_get_915e3 2 (some (.object "java/lang/Object")) :: gW)) ∧ yJx4a65c_get_915e3.cls = RJx4a65c ∧ yJx4a65c_get_915e3.cls ≠ "java/lang/invoke/MethodHandle" ∧ yJx4a65c_get_915e3.cls ≠ "java/lang/invoke/VarHandle" ∧ (parseMethodDescriptor yJx4a65c_get_915e3.desc).map (fun d => d.parameters.length) = some 1 := ⟨rfl, gW_V (by decide +kernel), rfl, by decide +kernel, by decide +kernel, by decide +kernel⟩
theorem ckX9_102 : castOk RX9 102 "LostParcels$Thing" [9, 6] = true := by decide +kernel
theorem qcX9_119 : vwCl[10]? = some (RX9, TX9, 16) ∧ GoodIn gW (wsV RX9 119 RX9 yX9_thingOf (Cond.code yX9_thingOf cX9_thingOf 2 (some (.object "LostParcels$Thing")) :: gW)) ∧ yX9_thingOf.cls = RX9 ∧ yX9_thingOf.cls ≠ "java/lang/invoke/MethodHandle" ∧ yX9_thingOf.cls ≠ "java/lang/invoke/VarHandle" ∧ (parseMethodDescriptor yX9_thingOf.desc).map (fun d => d.parameters.length) = some 1 := ⟨rfl, gW_V (by decide +kernel), rfl, by decide +kernel, by decide +kernel, by decide +kernel⟩
theorem fgX9_126 : fOkG RX9 126 "LostParcels$Thing" [9, 6] 2 = true := by decide +kernel
theorem fgX9_129 : fOkG RX9 129 "LostParcels$Thing" [9, 6] 5 = true := by decide +kernel
theorem fgX9_135 : fOkG RX9 135 "LostParcels$Thing" [9, 6] 3 = true := by decide +kernel
theorem fgX9_141 : fOkG RX9 141 "LostParcels$Thing" [9, 6] 7 = true := by decide +kernel
theorem qcX9_148 : GoodIn gW (va_wsS RX9 148 yX9_isDay (Cond.code yX9_isDay cX9_isDay 1 (some .boolean) :: gW)) ∧ yX9_isDay.cls ≠ "java/lang/invoke/MethodHandle" ∧ yX9_isDay.cls ≠ "java/lang/invoke/VarHandle" ∧ (parseMethodDescriptor yX9_isDay.desc).map (fun d => d.parameters.length) = some 1 := ⟨gW_S (by decide +kernel), by decide +kernel, by decide +kernel, by decide +kernel⟩
theorem qcX9_152 : GoodIn gW (va_wsU RX9 152 RX5 RX8 yX8_stateBy yX8_stateBy (Cond.code yX8_stateBy cX8_stateBy 3 (some .int) :: gW)) ∧ GoodIn gW (va_wsU RX9 152 RX8 RX8 yX8_stateBy yX8_stateBy (Cond.code yX8_stateBy cX8_stateBy 3 (some .int) :: gW)) ∧ yX8_stateBy = ⟨RX8, yX8_stateBy.name, yX8_stateBy.desc⟩ ∧ RX8 ≠ "java/lang/invoke/MethodHandle" ∧ RX8 ≠ "java/lang/invoke/VarHandle" ∧ (parseMethodDescriptor yX8_stateBy.desc).map (fun d => d.parameters.length) = some 1 := ⟨gW_U (by decide +kernel), gW_U (by decide +kernel), rfl, by decide +kernel, by decide +kernel, by decide +kernel⟩
theorem kwX9_155 : newOk RX9 155 8 [.int 0, .null, .int 0, .int 0, .int 0] = true := by decide +kernel
theorem qcX9_157 : gW.contains (.methodLink RX9 157 yX7_init) = true ∧ gW.contains (.instanceMethod yX7_init) = true ∧ gW.contains (.initialized yX7_init.cls) = true ∧ gW.contains (Cond.code yX7_init cX7_init 2 none) = true ∧ yX7_init.name = "<init>" ∧ yX7_init.cls ≠ "java/lang/invoke/MethodHandle" ∧ yX7_init.cls ≠ "java/lang/invoke/VarHandle" ∧ (parseMethodDescriptor yX7_init.desc).map (fun d => d.parameters.length) = some 1 := ⟨by decide +kernel, by decide +kernel, by decide +kernel, by decide +kernel, by decide +kernel, by decide +kernel, by decide +kernel, by decide +kernel⟩
theorem ckX9_155 : castOk RX9 155 "LostParcels$Seeker" [8] = true := by decide +kernel
theorem qcX9_160 : vwCl[10]? = some (RX9, TX9, 16) ∧ GoodIn gW (wsV RX9 160 RX9 yX9_seekerOf (Cond.code yX9_seekerOf cX9_seekerOf 2 (some (.object "LostParcels$Seeker")) :: gW)) ∧ yX9_seekerOf.cls = RX9 ∧ yX9_seekerOf.cls ≠ "java/lang/invoke/MethodHandle" ∧ yX9_seekerOf.cls ≠ "java/lang/invoke/VarHandle" ∧ (parseMethodDescriptor yX9_seekerOf.desc).map (fun d => d.parameters.length) = some 1 := ⟨rfl, gW_V (by decide +kernel), rfl, by decide +kernel, by decide +kernel, by decide +kernel⟩
theorem fgX9_164 : fOkG RX9 164 "LostParcels$Seeker" [8] 1 = true := by decide +kernel
theorem fgX9_167 : fOkG RX9 167 "LostParcels$Seeker" [8] 2 = true := by decide +kernel
theorem fpX9_167 : fOkP RX9 [8] 2 .int false = true := by decide +kernel
theorem fgX9_170 : fOkG RX9 170 "LostParcels$Seeker" [8] 3 = true := by decide +kernel
theorem fpX9_170 : fOkP RX9 [8] 3 .int false = true := by decide +kernel
theorem qcX9_195 : vwCl[8]? = some (RX7, TX7, 5) ∧ GoodIn gW (wsV RX9 195 RX7 yX7_isBarred (Cond.code yX7_isBarred cX7_isBarred 1 (some .boolean) :: gW)) ∧ yX7_isBarred.cls = RX7 ∧ yX7_isBarred.cls ≠ "java/lang/invoke/MethodHandle" ∧ yX7_isBarred.cls ≠ "java/lang/invoke/VarHandle" ∧ (parseMethodDescriptor yX7_isBarred.desc).map (fun d => d.parameters.length) = some 0 := ⟨rfl, gW_V (by decide +kernel), rfl, by decide +kernel, by decide +kernel, by decide +kernel⟩
theorem fgX9_189 : fOkG RX9 189 "LostParcels$Seeker" [8] 0 = true := by decide +kernel
theorem qcX9_317 : gW.contains (.methodLink RX9 317 Lib.Math.max.name) = true ∧ gW.contains (.static Lib.Math.max.name) = true ∧ gW.contains (.initialized "java/lang/Math") = true ∧ gW.contains (.code Lib.Math.max.name Lib.Math.max.code 2 (some .int)) = true := ⟨by decide +kernel, by decide +kernel, by decide +kernel, by decide +kernel⟩
theorem qcX9_173 : vwCl[10]? = some (RX9, TX9, 16) ∧ GoodIn gW (wsV RX9 173 RX9 yX9_likenessOf (Cond.code yX9_likenessOf cX9_likenessOf 5 (some .int) :: gW)) ∧ yX9_likenessOf.cls = RX9 ∧ yX9_likenessOf.cls ≠ "java/lang/invoke/MethodHandle" ∧ yX9_likenessOf.cls ≠ "java/lang/invoke/VarHandle" ∧ (parseMethodDescriptor yX9_likenessOf.desc).map (fun d => d.parameters.length) = some 2 := ⟨rfl, gW_V (by decide +kernel), rfl, by decide +kernel, by decide +kernel, by decide +kernel⟩
theorem qcX9_322 : vwCl[4]? = some (RX3, TX3, 3) ∧ GoodIn gW (wsV RX9 322 RX3 yX3_begin (Cond.code yX3_begin cX3_begin 2 none :: gW)) ∧ yX3_begin.cls = RX3 ∧ yX3_begin.cls ≠ "java/lang/invoke/MethodHandle" ∧ yX3_begin.cls ≠ "java/lang/invoke/VarHandle" ∧ (parseMethodDescriptor yX3_begin.desc).map (fun d => d.parameters.length) = some 1 := ⟨rfl, gW_V (by decide +kernel), rfl, by decide +kernel, by decide +kernel, by decide +kernel⟩
theorem qcX9_331 : vwCl[4]? = some (RX3, TX3, 3) ∧ GoodIn gW (wsV RX9 331 RX3 yX3_best (Cond.code yX3_best cX3_best 1 (some .long) :: gW)) ∧ yX3_best.cls = RX3 ∧ yX3_best.cls ≠ "java/lang/invoke/MethodHandle" ∧ yX3_best.cls ≠ "java/lang/invoke/VarHandle" ∧ (parseMethodDescriptor yX3_best.desc).map (fun d => d.parameters.length) = some 0 := ⟨rfl, gW_V (by decide +kernel), rfl, by decide +kernel, by decide +kernel, by decide +kernel⟩
theorem qcX9_325 : vwCl[4]? = some (RX3, TX3, 3) ∧ GoodIn gW (wsV RX9 325 RX3 yX3_weigh (Cond.code yX3_weigh cX3_weigh 4 none :: gW)) ∧ yX3_weigh.cls = RX3 ∧ yX3_weigh.cls ≠ "java/lang/invoke/MethodHandle" ∧ yX3_weigh.cls ≠ "java/lang/invoke/VarHandle" ∧ (parseMethodDescriptor yX3_weigh.desc).map (fun d => d.parameters.length) = some 3 := ⟨rfl, gW_V (by decide +kernel), rfl, by decide +kernel, by decide +kernel, by decide +kernel⟩
theorem qcX9_328 : vwCl[4]? = some (RX3, TX3, 3) ∧ GoodIn gW (wsV RX9 328 RX3 yX3_offer (Cond.code yX3_offer cX3_offer 3 none :: gW)) ∧ yX3_offer.cls = RX3 ∧ yX3_offer.cls ≠ "java/lang/invoke/MethodHandle" ∧ yX3_offer.cls ≠ "java/lang/invoke/VarHandle" ∧ (parseMethodDescriptor yX3_offer.desc).map (fun d => d.parameters.length) = some 0 := ⟨rfl, gW_V (by decide +kernel), rfl, by decide +kernel, by decide +kernel, by decide +kernel⟩
theorem qcX9_177 : vwCl[10]? = some (RX9, TX9, 16) ∧ GoodIn gW (wsV RX9 177 RX9 yX9_bestMatch (Cond.code yX9_bestMatch cX9_bestMatch 3 (some .long) :: gW)) ∧ yX9_bestMatch.cls = RX9 ∧ yX9_bestMatch.cls ≠ "java/lang/invoke/MethodHandle" ∧ yX9_bestMatch.cls ≠ "java/lang/invoke/VarHandle" ∧ (parseMethodDescriptor yX9_bestMatch.desc).map (fun d => d.parameters.length) = some 0 := ⟨rfl, gW_V (by decide +kernel), rfl, by decide +kernel, by decide +kernel, by decide +kernel⟩
theorem qcX9_185 : GoodIn gW (va_wsS RX9 185 yX3_thingIn (Cond.code yX3_thingIn cX3_thingIn 4 (some .int) :: gW)) ∧ yX3_thingIn.cls ≠ "java/lang/invoke/MethodHandle" ∧ yX3_thingIn.cls ≠ "java/lang/invoke/VarHandle" ∧ (parseMethodDescriptor yX3_thingIn.desc).map (fun d => d.parameters.length) = some 2 := ⟨gW_S (by decide +kernel), by decide +kernel, by decide +kernel, by decide +kernel⟩
theorem qcX9_181 : GoodIn gW (va_wsS RX9 181 yX3_likenessesIn (Cond.code yX3_likenessesIn cX3_likenessesIn 2 (some .int) :: gW)) ∧ yX3_likenessesIn.cls ≠ "java/lang/invoke/MethodHandle" ∧ yX3_likenessesIn.cls ≠ "java/lang/invoke/VarHandle" ∧ (parseMethodDescriptor yX3_likenessesIn.desc).map (fun d => d.parameters.length) = some 1 := ⟨gW_S (by decide +kernel), by decide +kernel, by decide +kernel, by decide +kernel⟩
theorem fgX9_192 : fOkG RX9 192 "LostParcels$Seeker" [8] 4 = true := by decide +kernel
theorem qcX9_199 : vwCl[10]? = some (RX9, TX9, 16) ∧ GoodIn gW (wsV RX9 199 RX9 yX9_heldBy (Cond.code yX9_heldBy cX9_heldBy 4 (some .int) :: gW)) ∧ yX9_heldBy.cls = RX9 ∧ yX9_heldBy.cls ≠ "java/lang/invoke/MethodHandle" ∧ yX9_heldBy.cls ≠ "java/lang/invoke/VarHandle" ∧ (parseMethodDescriptor yX9_heldBy.desc).map (fun d => d.parameters.length) = some 1 := ⟨rfl, gW_V (by decide +kernel), rfl, by decide +kernel, by decide +kernel, by decide +kernel⟩
theorem fgX9_202 : fOkG RX9 202 "LostParcels$Thing" [9, 6] 4 = true := by decide +kernel
theorem fpX9_141 : fOkP RX9 [9, 6] 7 .int false = true := by decide +kernel
theorem fgX9_205 : fOkG RX9 205 "LostParcels$Thing" [9, 6] 8 = true := by decide +kernel
theorem fpX9_205 : fOkP RX9 [9, 6] 8 .int false = true := by decide +kernel
theorem fpX9_192 : fOkP RX9 [8] 4 .int false = true := by decide +kernel
theorem ksX9_334 : gW.contains (.fieldLink RX9 334 "LostParcels" "TENS" "[I") = true := by decide +kernel
theorem kcX9_337 : gW.contains (.constant RX9 337 (99999999)) = true := by decide +kernel
theorem qcX9_213 : GoodIn gW (va_wsS RX9 213 yX9_digitsOf (Cond.code yX9_digitsOf cX9_digitsOf 2 (some .int) :: gW)) ∧ yX9_digitsOf.cls ≠ "java/lang/invoke/MethodHandle" ∧ yX9_digitsOf.cls ≠ "java/lang/invoke/VarHandle" ∧ (parseMethodDescriptor yX9_digitsOf.desc).map (fun d => d.parameters.length) = some 1 := ⟨gW_S (by decide +kernel), by decide +kernel, by decide +kernel, by decide +kernel⟩
theorem qcX9_208 : GoodIn gW (va_wsS RX9 208 yX9_isWord (Cond.code yX9_isWord cX9_isWord 2 (some .boolean) :: gW)) ∧ yX9_isWord.cls ≠ "java/lang/invoke/MethodHandle" ∧ yX9_isWord.cls ≠ "java/lang/invoke/VarHandle" ∧ (parseMethodDescriptor yX9_isWord.desc).map (fun d => d.parameters.length) = some 1 := ⟨gW_S (by decide +kernel), by decide +kernel, by decide +kernel, by decide +kernel⟩
theorem kwX9_211 : newOk RX9 211 1 [.int 0, .int 0, .int 0] = true := by decide +kernel
theorem qcX9_216 : gW.contains (.methodLink RX9 216 yX0_init) = true ∧ gW.contains (.instanceMethod yX0_init) = true ∧ gW.contains (.initialized yX0_init.cls) = true ∧ gW.contains (Cond.code yX0_init cX0_init 4 none) = true ∧ yX0_init.name = "<init>" ∧ yX0_init.cls ≠ "java/lang/invoke/MethodHandle" ∧ yX0_init.cls ≠ "java/lang/invoke/VarHandle" ∧ (parseMethodDescriptor yX0_init.desc).map (fun d => d.parameters.length) = some 3 := ⟨by decide +kernel, by decide +kernel, by decide +kernel, by decide +kernel, by decide +kernel, by decide +kernel, by decide +kernel, by decide +kernel⟩
theorem ckX9_211 : castOk RX9 211 "LostParcels$Address" [1] = true := by decide +kernel
theorem qcX9_219 : vwCl[10]? = some (RX9, TX9, 16) ∧ GoodIn gW (wsV RX9 219 RX9 yX9_addressOf (Cond.code yX9_addressOf cX9_addressOf 2 (some (.object "LostParcels$Address")) :: gW)) ∧ yX9_addressOf.cls = RX9 ∧ yX9_addressOf.cls ≠ "java/lang/invoke/MethodHandle" ∧ yX9_addressOf.cls ≠ "java/lang/invoke/VarHandle" ∧ (parseMethodDescriptor yX9_addressOf.desc).map (fun d => d.parameters.length) = some 1 := ⟨rfl, gW_V (by decide +kernel), rfl, by decide +kernel, by decide +kernel, by decide +kernel⟩
theorem fgX9_223 : fOkG RX9 223 "LostParcels$Address" [1] 2 = true := by decide +kernel
theorem fpX9_223 : fOkP RX9 [1] 2 .int false = true := by decide +kernel
theorem qcX9_226 : GoodIn gW (va_wsS RX9 226 yX9_isLabel (Cond.code yX9_isLabel cX9_isLabel 3 (some .boolean) :: gW)) ∧ yX9_isLabel.cls ≠ "java/lang/invoke/MethodHandle" ∧ yX9_isLabel.cls ≠ "java/lang/invoke/VarHandle" ∧ (parseMethodDescriptor yX9_isLabel.desc).map (fun d => d.parameters.length) = some 2 := ⟨gW_S (by decide +kernel), by decide +kernel, by decide +kernel, by decide +kernel⟩
theorem qcX9_230 : vwCl[1]? = some (RX0, TX0, 3) ∧ GoodIn gW (wsV RX9 230 RX0 yX0_takes (Cond.code yX0_takes cX0_takes 8 (some .boolean) :: gW)) ∧ yX0_takes.cls = RX0 ∧ yX0_takes.cls ≠ "java/lang/invoke/MethodHandle" ∧ yX0_takes.cls ≠ "java/lang/invoke/VarHandle" ∧ (parseMethodDescriptor yX0_takes.desc).map (fun d => d.parameters.length) = some 3 := ⟨rfl, gW_V (by decide +kernel), rfl, by decide +kernel, by decide +kernel, by decide +kernel⟩
theorem qcX9_237 : GoodIn gW (va_wsS RX9 237 yX9_hasBit (Cond.code yX9_hasBit cX9_hasBit 2 (some .boolean) :: gW)) ∧ yX9_hasBit.cls ≠ "java/lang/invoke/MethodHandle" ∧ yX9_hasBit.cls ≠ "java/lang/invoke/VarHandle" ∧ (parseMethodDescriptor yX9_hasBit.desc).map (fun d => d.parameters.length) = some 2 := ⟨gW_S (by decide +kernel), by decide +kernel, by decide +kernel, by decide +kernel⟩
theorem qcX9_233 : vwCl[10]? = some (RX9, TX9, 16) ∧ GoodIn gW (wsV RX9 233 RX9 yX9_fittingBits (Cond.code yX9_fittingBits cX9_fittingBits 5 (some .int) :: gW)) ∧ yX9_fittingBits.cls = RX9 ∧ yX9_fittingBits.cls ≠ "java/lang/invoke/MethodHandle" ∧ yX9_fittingBits.cls ≠ "java/lang/invoke/VarHandle" ∧ (parseMethodDescriptor yX9_fittingBits.desc).map (fun d => d.parameters.length) = some 2 := ⟨rfl, gW_V (by decide +kernel), rfl, by decide +kernel, by decide +kernel, by decide +kernel⟩
theorem qcX9_240 : vwCl[10]? = some (RX9, TX9, 16) ∧ GoodIn gW (wsV RX9 240 RX9 yX9_rankAmong (Cond.code yX9_rankAmong cX9_rankAmong 7 (some .int) :: gW)) ∧ yX9_rankAmong.cls = RX9 ∧ yX9_rankAmong.cls ≠ "java/lang/invoke/MethodHandle" ∧ yX9_rankAmong.cls ≠ "java/lang/invoke/VarHandle" ∧ (parseMethodDescriptor yX9_rankAmong.desc).map (fun d => d.parameters.length) = some 2 := ⟨rfl, gW_V (by decide +kernel), rfl, by decide +kernel, by decide +kernel, by decide +kernel⟩
theorem qcX9_243 : vwCl[10]? = some (RX9, TX9, 16) ∧ GoodIn gW (wsV RX9 243 RX9 yX9_mayBeSold (Cond.code yX9_mayBeSold cX9_mayBeSold 2 (some .boolean) :: gW)) ∧ yX9_mayBeSold.cls = RX9 ∧ yX9_mayBeSold.cls ≠ "java/lang/invoke/MethodHandle" ∧ yX9_mayBeSold.cls ≠ "java/lang/invoke/VarHandle" ∧ (parseMethodDescriptor yX9_mayBeSold.desc).map (fun d => d.parameters.length) = some 1 := ⟨rfl, gW_V (by decide +kernel), rfl, by decide +kernel, by decide +kernel, by decide +kernel⟩
theorem qcX9_338 : vwCl[0]? = some (RJx4a65c, TJx4a65c, 3) ∧ GoodIn gW (wsV RX9 338 RJx4a65c yJx4a65c_clear_da8c8 (Cond.code yJx4a65c_clear_da8c8 cJx4a65c_clear_da8c8 4 none :: gW)) ∧ yJx4a65c_clear_da8c8.cls = RJx4a65c ∧ yJx4a65c_clear_da8c8.cls ≠ "java/lang/invoke/MethodHandle" ∧ yJx4a65c_clear_da8c8.cls ≠ "java/lang/invoke/VarHandle" ∧ (parseMethodDescriptor yJx4a65c_clear_da8c8.desc).map (fun d => d.parameters.length) = some 0 := ⟨rfl, gW_V (by decide +kernel), rfl, by decide +kernel, by decide +kernel, by decide +kernel⟩
theorem qcX9_246 : vwCl[10]? = some (RX9, TX9, 16) ∧ GoodIn gW (wsV RX9 246 RX9 yX9_hasBitOfNoThing (Cond.code yX9_hasBitOfNoThing cX9_hasBitOfNoThing 2 (some .boolean) :: gW)) ∧ yX9_hasBitOfNoThing.cls = RX9 ∧ yX9_hasBitOfNoThing.cls ≠ "java/lang/invoke/MethodHandle" ∧ yX9_hasBitOfNoThing.cls ≠ "java/lang/invoke/VarHandle" ∧ (parseMethodDescriptor yX9_hasBitOfNoThing.desc).map (fun d => d.parameters.length) = some 1 := ⟨rfl, gW_V (by decide +kernel), rfl, by decide +kernel, by decide +kernel, by decide +kernel⟩
theorem kcX9_249 : gW.contains (.constant RX9 249 (100000)) = true := by decide +kernel
theorem qcX9_250 : vwCl[10]? = some (RX9, TX9, 16) ∧ GoodIn gW (wsV RX9 250 RX9 yX9_choose (Cond.code yX9_choose cX9_choose 3 none :: gW)) ∧ yX9_choose.cls = RX9 ∧ yX9_choose.cls ≠ "java/lang/invoke/MethodHandle" ∧ yX9_choose.cls ≠ "java/lang/invoke/VarHandle" ∧ (parseMethodDescriptor yX9_choose.desc).map (fun d => d.parameters.length) = some 1 := ⟨rfl, gW_V (by decide +kernel), rfl, by decide +kernel, by decide +kernel, by decide +kernel⟩
theorem qcX9_253 : vwCl[10]? = some (RX9, TX9, 16) ∧ GoodIn gW (wsV RX9 253 RX9 yX9_chosenMayBeSold (Cond.code yX9_chosenMayBeSold cX9_chosenMayBeSold 2 (some .boolean) :: gW)) ∧ yX9_chosenMayBeSold.cls = RX9 ∧ yX9_chosenMayBeSold.cls ≠ "java/lang/invoke/MethodHandle" ∧ yX9_chosenMayBeSold.cls ≠ "java/lang/invoke/VarHandle" ∧ (parseMethodDescriptor yX9_chosenMayBeSold.desc).map (fun d => d.parameters.length) = some 0 := ⟨rfl, gW_V (by decide +kernel), rfl, by decide +kernel, by decide +kernel, by decide +kernel⟩
theorem qcX9_256 : vwCl[10]? = some (RX9, TX9, 16) ∧ GoodIn gW (wsV RX9 256 RX9 yX9_chosenWorths (Cond.code yX9_chosenWorths cX9_chosenWorths 3 (some .int) :: gW)) ∧ yX9_chosenWorths.cls = RX9 ∧ yX9_chosenWorths.cls ≠ "java/lang/invoke/MethodHandle" ∧ yX9_chosenWorths.cls ≠ "java/lang/invoke/VarHandle" ∧ (parseMethodDescriptor yX9_chosenWorths.desc).map (fun d => d.parameters.length) = some 0 := ⟨rfl, gW_V (by decide +kernel), rfl, by decide +kernel, by decide +kernel, by decide +kernel⟩
theorem fgX9_259 : fOkG RX9 259 "LostParcels$Thing" [9, 6] 9 = true := by decide +kernel
theorem fpX9_259 : fOkP RX9 [9, 6] 9 .int false = true := by decide +kernel
theorem fgX9_262 : fOkG RX9 262 "LostParcels$Thing" [9, 6] 10 = true := by decide +kernel
theorem fpX9_262 : fOkP RX9 [9, 6] 10 .boolean false = true := by decide +kernel
theorem qcX9_266 : vwCl[0]? = some (RJx4a65c, TJx4a65c, 3) ∧ GoodIn gW (wsV RX9 266 RJx4a65c yJx4a65c_isEmpty_aae02 (Cond.code yJx4a65c_isEmpty_aae02 cJx4a65c_isEmpty_aae02 1 (some .boolean) :: gW)) ∧ yJx4a65c_isEmpty_aae02.cls = RJx4a65c ∧ yJx4a65c_isEmpty_aae02.cls ≠ "java/lang/invoke/MethodHandle" ∧ yJx4a65c_isEmpty_aae02.cls ≠ "java/lang/invoke/VarHandle" ∧ (parseMethodDescriptor yJx4a65c_isEmpty_aae02.desc).map (fun d => d.parameters.length) = some 0 := ⟨rfl, gW_V (by decide +kernel), rfl, by decide +kernel, by decide +kernel, by decide +kernel⟩
theorem qcX9_269 : vwCl[5]? = some (RX4, TX4, 5) ∧ GoodIn gW (wsV RX9 269 RX4 yX4_part (Cond.code yX4_part cX4_part 7 none :: gW)) ∧ yX4_part.cls = RX4 ∧ yX4_part.cls ≠ "java/lang/invoke/MethodHandle" ∧ yX4_part.cls ≠ "java/lang/invoke/VarHandle" ∧ (parseMethodDescriptor yX4_part.desc).map (fun d => d.parameters.length) = some 3 := ⟨rfl, gW_V (by decide +kernel), rfl, by decide +kernel, by decide +kernel, by decide +kernel⟩
theorem qcX9_273 : vwCl[5]? = some (RX4, TX4, 5) ∧ GoodIn gW (wsV RX9 273 RX4 yX4_fewestLots (Cond.code yX4_fewestLots cX4_fewestLots 1 (some .int) :: gW)) ∧ yX4_fewestLots.cls = RX4 ∧ yX4_fewestLots.cls ≠ "java/lang/invoke/MethodHandle" ∧ yX4_fewestLots.cls ≠ "java/lang/invoke/VarHandle" ∧ (parseMethodDescriptor yX4_fewestLots.desc).map (fun d => d.parameters.length) = some 0 := ⟨rfl, gW_V (by decide +kernel), rfl, by decide +kernel, by decide +kernel, by decide +kernel⟩
theorem qcX9_276 : vwCl[5]? = some (RX4, TX4, 5) ∧ GoodIn gW (wsV RX9 276 RX4 yX4_lotAt (Cond.code yX4_lotAt cX4_lotAt 4 (some .int) :: gW)) ∧ yX4_lotAt.cls = RX4 ∧ yX4_lotAt.cls ≠ "java/lang/invoke/MethodHandle" ∧ yX4_lotAt.cls ≠ "java/lang/invoke/VarHandle" ∧ (parseMethodDescriptor yX4_lotAt.desc).map (fun d => d.parameters.length) = some 1 := ⟨rfl, gW_V (by decide +kernel), rfl, by decide +kernel, by decide +kernel, by decide +kernel⟩
theorem qcX9_279 : GoodIn gW (va_wsS RX9 279 yX9_spread (Cond.code yX9_spread cX9_spread 5 (some .int) :: gW)) ∧ yX9_spread.cls ≠ "java/lang/invoke/MethodHandle" ∧ yX9_spread.cls ≠ "java/lang/invoke/VarHandle" ∧ (parseMethodDescriptor yX9_spread.desc).map (fun d => d.parameters.length) = some 2 := ⟨gW_S (by decide +kernel), by decide +kernel, by decide +kernel, by decide +kernel⟩
theorem fgX9_282 : fOkG RX9 282 "LostParcels$Records" [7] 2 = true := by decide +kernel
theorem qcX9_285 : vwCl[7]? = some (RX6, TX6, 4) ∧ GoodIn gW (wsV RX9 285 RX6 yX6_add (Cond.code yX6_add cX6_add 3 none :: gW)) ∧ yX6_add.cls = RX6 ∧ yX6_add.cls ≠ "java/lang/invoke/MethodHandle" ∧ yX6_add.cls ≠ "java/lang/invoke/VarHandle" ∧ (parseMethodDescriptor yX6_add.desc).map (fun d => d.parameters.length) = some 2 := ⟨rfl, gW_V (by decide +kernel), rfl, by decide +kernel, by decide +kernel, by decide +kernel⟩
theorem fgX9_287 : fOkG RX9 287 "LostParcels$Records" [7] 0 = true := by decide +kernel
theorem fgX9_290 : fOkG RX9 290 "LostParcels$Records" [7] 1 = true := by decide +kernel
theorem qcX9_293 : vwCl[7]? = some (RX6, TX6, 4) ∧ GoodIn gW (wsV RX9 293 RX6 yX6_isBeyondChance (Cond.code yX6_isBeyondChance cX6_isBeyondChance 7 (some .boolean) :: gW)) ∧ yX6_isBeyondChance.cls = RX6 ∧ yX6_isBeyondChance.cls ≠ "java/lang/invoke/MethodHandle" ∧ yX6_isBeyondChance.cls ≠ "java/lang/invoke/VarHandle" ∧ (parseMethodDescriptor yX6_isBeyondChance.desc).map (fun d => d.parameters.length) = some 1 := ⟨rfl, gW_V (by decide +kernel), rfl, by decide +kernel, by decide +kernel, by decide +kernel⟩
theorem klX9_97 : gW.contains (.classLink RX9 97 "LostParcels$Purse") = true := by decide +kernel
theorem ckX9_97 : castOk RX9 97 "LostParcels$Purse" [6] = true := by decide +kernel
theorem fgX9_296 : fOkG RX9 296 "LostParcels$Purse" [6] 6 = true := by decide +kernel
theorem fgX9_297 : fOkG RX9 297 "LostParcels$Purse" [6] 12 = true := by decide +kernel
theorem qcX9_300 : vwCl[6]? = some (RX5, TX5, 13) ∧ GoodIn gW (wsV RX9 300 RX5 yX5_handsThatCounted (Cond.code yX5_handsThatCounted cX5_handsThatCounted 1 (some .int) :: gW)) ∧ yX5_handsThatCounted.cls = RX5 ∧ yX5_handsThatCounted.cls ≠ "java/lang/invoke/MethodHandle" ∧ yX5_handsThatCounted.cls ≠ "java/lang/invoke/VarHandle" ∧ (parseMethodDescriptor yX5_handsThatCounted.desc).map (fun d => d.parameters.length) = some 0 := ⟨rfl, gW_V (by decide +kernel), rfl, by decide +kernel, by decide +kernel, by decide +kernel⟩
theorem qcX9_303 : vwCl[6]? = some (RX5, TX5, 13) ∧ GoodIn gW (wsV RX9 303 RX5 yX5_agreedCount (Cond.code yX5_agreedCount cX5_agreedCount 3 (some .int) :: gW)) ∧ yX5_agreedCount.cls = RX5 ∧ yX5_agreedCount.cls ≠ "java/lang/invoke/MethodHandle" ∧ yX5_agreedCount.cls ≠ "java/lang/invoke/VarHandle" ∧ (parseMethodDescriptor yX5_agreedCount.desc).map (fun d => d.parameters.length) = some 0 := ⟨rfl, gW_V (by decide +kernel), rfl, by decide +kernel, by decide +kernel, by decide +kernel⟩
theorem qcX9_306 : vwCl[10]? = some (RX9, TX9, 16) ∧ GoodIn gW (wsV RX9 306 RX9 yX9_chosenAreKept (Cond.code yX9_chosenAreKept cX9_chosenAreKept 2 (some .boolean) :: gW)) ∧ yX9_chosenAreKept.cls = RX9 ∧ yX9_chosenAreKept.cls ≠ "java/lang/invoke/MethodHandle" ∧ yX9_chosenAreKept.cls ≠ "java/lang/invoke/VarHandle" ∧ (parseMethodDescriptor yX9_chosenAreKept.desc).map (fun d => d.parameters.length) = some 0 := ⟨rfl, gW_V (by decide +kernel), rfl, by decide +kernel, by decide +kernel, by decide +kernel⟩
theorem qcX9_309 : vwCl[3]? = some (RX2, TX2, 1) ∧ GoodIn gW (wsV RX9 309 RX2 yX2_nearest (Cond.code yX2_nearest cX2_nearest 12 (some .int) :: gW)) ∧ yX2_nearest.cls = RX2 ∧ yX2_nearest.cls ≠ "java/lang/invoke/MethodHandle" ∧ yX2_nearest.cls ≠ "java/lang/invoke/VarHandle" ∧ (parseMethodDescriptor yX2_nearest.desc).map (fun d => d.parameters.length) = some 3 := ⟨rfl, gW_V (by decide +kernel), rfl, by decide +kernel, by decide +kernel, by decide +kernel⟩
theorem qcX9_313 : vwCl[10]? = some (RX9, TX9, 16) ∧ GoodIn gW (wsV RX9 313 RX9 yX9_thingsThatAre (Cond.code yX9_thingsThatAre cX9_thingsThatAre 4 (some .int) :: gW)) ∧ yX9_thingsThatAre.cls = RX9 ∧ yX9_thingsThatAre.cls ≠ "java/lang/invoke/MethodHandle" ∧ yX9_thingsThatAre.cls ≠ "java/lang/invoke/VarHandle" ∧ (parseMethodDescriptor yX9_thingsThatAre.desc).map (fun d => d.parameters.length) = some 1 := ⟨rfl, gW_V (by decide +kernel), rfl, by decide +kernel, by decide +kernel, by decide +kernel⟩
theorem qcX10_1 : gW.contains (.methodLink RX10 1 objectInit) = true ∧ gW.contains (.instanceMethod objectInit) = true ∧ gW.contains (.code objectInit ⟨#[0xb1]⟩ 1 none) = true := ⟨by decide +kernel, by decide +kernel, by decide +kernel⟩
theorem fgX10_7 : fOkG RX10 7 "LostParcelsModel" [11] 1 = true := by decide +kernel
theorem fpX10_7 : fOkP RX10 [11] 1 .int false = true := by decide +kernel
theorem fgX10_13 : fOkG RX10 13 "LostParcelsModel" [11] 3 = true := by decide +kernel
theorem fpX10_13 : fOkP RX10 [11] 3 (.array .int) true = true := by decide +kernel
theorem fgX10_17 : fOkG RX10 17 "LostParcelsModel" [11] 4 = true := by decide +kernel
theorem fpX10_17 : fOkP RX10 [11] 4 (.array .int) true = true := by decide +kernel
theorem fgX10_20 : fOkG RX10 20 "LostParcelsModel" [11] 5 = true := by decide +kernel
theorem fpX10_20 : fOkP RX10 [11] 5 (.array .int) true = true := by decide +kernel
theorem fgX10_23 : fOkG RX10 23 "LostParcelsModel" [11] 6 = true := by decide +kernel
theorem fpX10_23 : fOkP RX10 [11] 6 (.array .int) true = true := by decide +kernel
theorem fgX10_26 : fOkG RX10 26 "LostParcelsModel" [11] 7 = true := by decide +kernel
theorem fpX10_26 : fOkP RX10 [11] 7 (.array .int) true = true := by decide +kernel
theorem fgX10_29 : fOkG RX10 29 "LostParcelsModel" [11] 8 = true := by decide +kernel
theorem fpX10_29 : fOkP RX10 [11] 8 (.array .int) true = true := by decide +kernel
theorem fgX10_32 : fOkG RX10 32 "LostParcelsModel" [11] 9 = true := by decide +kernel
theorem fpX10_32 : fOkP RX10 [11] 9 (.array .int) true = true := by decide +kernel
theorem fgX10_35 : fOkG RX10 35 "LostParcelsModel" [11] 10 = true := by decide +kernel
theorem fpX10_35 : fOkP RX10 [11] 10 (.array .int) true = true := by decide +kernel
theorem fgX10_38 : fOkG RX10 38 "LostParcelsModel" [11] 11 = true := by decide +kernel
theorem fpX10_38 : fOkP RX10 [11] 11 (.array .int) true = true := by decide +kernel
theorem fgX10_41 : fOkG RX10 41 "LostParcelsModel" [11] 12 = true := by decide +kernel
theorem fpX10_41 : fOkP RX10 [11] 12 (.array .int) true = true := by decide +kernel
theorem fgX10_44 : fOkG RX10 44 "LostParcelsModel" [11] 13 = true := by decide +kernel
theorem fpX10_44 : fOkP RX10 [11] 13 (.array .boolean) true = true := by decide +kernel
theorem fgX10_48 : fOkG RX10 48 "LostParcelsModel" [11] 14 = true := by decide +kernel
theorem fpX10_48 : fOkP RX10 [11] 14 (.array .int) true = true := by decide +kernel
theorem fgX10_51 : fOkG RX10 51 "LostParcelsModel" [11] 15 = true := by decide +kernel
theorem fpX10_51 : fOkP RX10 [11] 15 (.array .int) true = true := by decide +kernel
theorem fgX10_54 : fOkG RX10 54 "LostParcelsModel" [11] 18 = true := by decide +kernel
theorem fpX10_54 : fOkP RX10 [11] 18 (.array .int) true = true := by decide +kernel
theorem fgX10_57 : fOkG RX10 57 "LostParcelsModel" [11] 19 = true := by decide +kernel
theorem fpX10_57 : fOkP RX10 [11] 19 (.array .int) true = true := by decide +kernel
theorem fgX10_60 : fOkG RX10 60 "LostParcelsModel" [11] 20 = true := by decide +kernel
theorem fpX10_60 : fOkP RX10 [11] 20 (.array .int) true = true := by decide +kernel
theorem fgX10_63 : fOkG RX10 63 "LostParcelsModel" [11] 21 = true := by decide +kernel
theorem fpX10_63 : fOkP RX10 [11] 21 (.array .int) true = true := by decide +kernel
theorem fgX10_66 : fOkG RX10 66 "LostParcelsModel" [11] 22 = true := by decide +kernel
theorem fpX10_66 : fOkP RX10 [11] 22 (.array .int) true = true := by decide +kernel
theorem fgX10_69 : fOkG RX10 69 "LostParcelsModel" [11] 23 = true := by decide +kernel
theorem fpX10_69 : fOkP RX10 [11] 23 (.array .boolean) true = true := by decide +kernel
theorem fgX10_72 : fOkG RX10 72 "LostParcelsModel" [11] 24 = true := by decide +kernel
theorem fpX10_72 : fOkP RX10 [11] 24 (.array .int) true = true := by decide +kernel
theorem fgX10_75 : fOkG RX10 75 "LostParcelsModel" [11] 26 = true := by decide +kernel
theorem fpX10_75 : fOkP RX10 [11] 26 (.array .int) true = true := by decide +kernel
theorem fgX10_78 : fOkG RX10 78 "LostParcelsModel" [11] 27 = true := by decide +kernel
theorem fpX10_78 : fOkP RX10 [11] 27 (.array .int) true = true := by decide +kernel
theorem fgX10_81 : fOkG RX10 81 "LostParcelsModel" [11] 28 = true := by decide +kernel
theorem fpX10_81 : fOkP RX10 [11] 28 (.array .int) true = true := by decide +kernel
theorem fgX10_84 : fOkG RX10 84 "LostParcelsModel" [11] 30 = true := by decide +kernel
theorem fpX10_84 : fOkP RX10 [11] 30 (.array .int) true = true := by decide +kernel
theorem fgX10_87 : fOkG RX10 87 "LostParcelsModel" [11] 31 = true := by decide +kernel
theorem fpX10_87 : fOkP RX10 [11] 31 (.array .int) true = true := by decide +kernel
theorem fgX10_90 : fOkG RX10 90 "LostParcelsModel" [11] 33 = true := by decide +kernel
theorem fpX10_90 : fOkP RX10 [11] 33 (.array .int) true = true := by decide +kernel
theorem fgX10_93 : fOkG RX10 93 "LostParcelsModel" [11] 35 = true := by decide +kernel
theorem fpX10_93 : fOkP RX10 [11] 35 (.array .int) true = true := by decide +kernel
theorem fgX10_96 : fOkG RX10 96 "LostParcelsModel" [11] 36 = true := by decide +kernel
theorem fpX10_96 : fOkP RX10 [11] 36 (.array .int) true = true := by decide +kernel
theorem fgX10_99 : fOkG RX10 99 "LostParcelsModel" [11] 37 = true := by decide +kernel
theorem fpX10_99 : fOkP RX10 [11] 37 (.array .int) true = true := by decide +kernel
theorem fgX10_102 : fOkG RX10 102 "LostParcelsModel" [11] 38 = true := by decide +kernel
theorem fpX10_102 : fOkP RX10 [11] 38 (.array .int) true = true := by decide +kernel
theorem fgX10_105 : fOkG RX10 105 "LostParcelsModel" [11] 39 = true := by decide +kernel
theorem fpX10_105 : fOkP RX10 [11] 39 (.array .int) true = true := by decide +kernel
theorem fgX10_108 : fOkG RX10 108 "LostParcelsModel" [11] 40 = true := by decide +kernel
theorem fpX10_108 : fOkP RX10 [11] 40 (.array .int) true = true := by decide +kernel
theorem fgX10_111 : fOkG RX10 111 "LostParcelsModel" [11] 42 = true := by decide +kernel
theorem fpX10_111 : fOkP RX10 [11] 42 (.array .int) true = true := by decide +kernel
theorem fgX10_114 : fOkG RX10 114 "LostParcelsModel" [11] 43 = true := by decide +kernel
theorem fpX10_114 : fOkP RX10 [11] 43 (.array .boolean) true = true := by decide +kernel
theorem fgX10_117 : fOkG RX10 117 "LostParcelsModel" [11] 44 = true := by decide +kernel
theorem fpX10_117 : fOkP RX10 [11] 44 (.array .long) true = true := by decide +kernel
theorem fgX10_121 : fOkG RX10 121 "LostParcelsModel" [11] 0 = true := by decide +kernel
theorem fpX10_121 : fOkP RX10 [11] 0 .int false = true := by decide +kernel
