/-- what any caller asks of a callee -/
def JW (mj : MI) (n : Nat) : Prop := Cond.code (mY mj) (mC mj) (mL mj) (mT mj) ∈ gtb ∧ Cond.initialized (mY mj).cls ∈ gtb ∧ ((mY mj).cls ≠ "java/lang/invoke/MethodHandle" ∧ (mY mj).cls ≠ "java/lang/invoke/VarHandle" ∧ (parseMethodDescriptor (mY mj).desc).map (fun d => d.parameters.length) = some n)
theorem JW.jo {mi mj : MI} {n : Nat} (h : JW mj n) (hr : (mRm mj).frames + 1 ≤ (mRm mi).frames ∧ 8 + (mL mj + 11) + (mRm mj).locals ≤ (mRm mi).locals) : JO mi mj n := ⟨h.1, h.2.1, h.2.2, hr⟩
