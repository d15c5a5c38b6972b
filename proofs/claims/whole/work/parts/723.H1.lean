abbrev InZ (s q : Nat) : Prop := (62 ≤ q ∧ q ≤ 247) ∨ (265 + 26 * s ≤ q ∧ q ≤ 290 + 26 * s)
theorem InO_Z {s : Nat} (q : Nat) (h : InO q) : InZ s q := by omega
theorem InF_Z {s : Nat} (q : Nat) (h : InF q) : InZ s q := by omega
theorem InU_Z {s : Nat} (q : Nat) (h : InU q) : InZ s q := by omega
theorem InC_Z {s : Nat} (q : Nat) (h : InC s q) : InZ s q := by omega
theorem ownK_lt (sd : Int32) : ownK sd < qN := keyN_lt _ _
