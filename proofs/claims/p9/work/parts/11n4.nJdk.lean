theorem gf_jS_9 : Cond.fieldLink "java/lang/String" 9 "java/lang/String" "value" "[B" ∈ gtb := gtb_of (List.mem_of_getElem? (i := 1833) (by decide +kernel)) rfl
theorem gf_jS_15 : Cond.fieldLink "java/lang/String" 15 "java/lang/String" "coder" "B" ∈ gtb := gtb_of (List.mem_of_getElem? (i := 1834) (by decide +kernel)) rfl
def mi_jP_checkIndex : MI := (⟨"jdk/internal/util/Preconditions", "checkIndex", "(IILjava/util/function/BiFunction;)I"⟩, prog_24_method_11_code, 3, (some .int), (0, 0), 0, 0)
theorem ln_jP_checkIndex : lnA (mC mi_jP_checkIndex) = 18 := by decide +kernel
set_option maxRecDepth 100000 in
theorem jw_jP_checkIndex : JW mi_jP_checkIndex 3 := ⟨gtb_of (List.mem_of_getElem? (i := 673) rfl) rfl, gtb_of (List.mem_of_getElem? (i := 104) (by decide +kernel)) rfl, by decide, by decide, by decide +kernel⟩
theorem jt_jP_checkIndex : Cond.static (mY mi_jP_checkIndex) ∈ gtb := gtb_of (List.mem_of_getElem? (i := 672) (by decide +kernel)) rfl
theorem d_jP_checkIndex_0 : decode (mC mi_jP_checkIndex) 0 = .ok (.iload_n 0, 1) := D0_26 (by rw [ln_jP_checkIndex]; decide) (by decide +kernel)
theorem d_jP_checkIndex_1 : decode (mC mi_jP_checkIndex) 1 = .ok (.ifCond .lt 8, 3) := D2_155 (v := 0) (w := 8) (by rw [ln_jP_checkIndex]; decide) (by decide +kernel) (by decide +kernel) (by decide +kernel) (by decide)
theorem d_jP_checkIndex_4 : decode (mC mi_jP_checkIndex) 4 = .ok (.iload_n 0, 1) := D0_26 (by rw [ln_jP_checkIndex]; decide) (by decide +kernel)
theorem d_jP_checkIndex_5 : decode (mC mi_jP_checkIndex) 5 = .ok (.iload_n 1, 1) := D0_27 (by rw [ln_jP_checkIndex]; decide) (by decide +kernel)
theorem d_jP_checkIndex_6 : decode (mC mi_jP_checkIndex) 6 = .ok (.if_icmp .lt 10, 3) := D2_161 (v := 0) (w := 10) (by rw [ln_jP_checkIndex]; decide) (by decide +kernel) (by decide +kernel) (by decide +kernel) (by decide)
theorem d_jP_checkIndex_9 : decode (mC mi_jP_checkIndex) 9 = .ok (.aload_n 2, 1) := D0_44 (by rw [ln_jP_checkIndex]; decide) (by decide +kernel)
theorem d_jP_checkIndex_10 : decode (mC mi_jP_checkIndex) 10 = .ok (.iload_n 0, 1) := D0_26 (by rw [ln_jP_checkIndex]; decide) (by decide +kernel)
theorem d_jP_checkIndex_11 : decode (mC mi_jP_checkIndex) 11 = .ok (.iload_n 1, 1) := D0_27 (by rw [ln_jP_checkIndex]; decide) (by decide +kernel)
theorem d_jP_checkIndex_12 : decode (mC mi_jP_checkIndex) 12 = .ok (.invokestatic 95, 3) := D2_184 (v := 0) (w := 95) (by rw [ln_jP_checkIndex]; decide) (by decide +kernel) (by decide +kernel) (by decide +kernel) (by decide)
theorem d_jP_checkIndex_15 : decode (mC mi_jP_checkIndex) 15 = .ok (.athrow, 1) := D0_191 (by rw [ln_jP_checkIndex]; decide) (by decide +kernel)
theorem d_jP_checkIndex_16 : decode (mC mi_jP_checkIndex) 16 = .ok (.iload_n 0, 1) := D0_26 (by rw [ln_jP_checkIndex]; decide) (by decide +kernel)
theorem d_jP_checkIndex_17 : decode (mC mi_jP_checkIndex) 17 = .ok (.ireturn, 1) := D0_172 (by rw [ln_jP_checkIndex]; decide) (by decide +kernel)
