theorem th_cl : Cond.classLink "PasswordGate" 123 nsN ∈ gtb := gtb_of (List.mem_of_getElem? (i := 1125) (by decide +kernel)) rfl
theorem th_in : Cond.initialized nsN ∈ gtb := gtb_of (List.mem_of_getElem? (i := 109) (by decide +kernel)) rfl
def mt_PG_result : MI := (⟨"PasswordGate", "result", "(I)I"⟩, prog_1_method_7_code, 2, (some .int), (6, 120), 1, 6)
def mt_PG_wire : MI := (⟨"PasswordGate", "wire", "(III)I"⟩, prog_1_method_13_code, 4, (some .int), (6, 120), 1, 6)
def mt_PG_key : MI := (⟨"PasswordGate", "key", "(III)I"⟩, prog_1_method_15_code, 4, (some .int), (6, 120), 1, 6)
