/-- class and reference answer alike, and J holds behind -/
def PRI (G : GX) (m1 m2 : MI) (as : List Value) (v : Nat → Int32) (J : (Nat → Int32) → Prop) : Prop :=
  ∃ (r : Int32) (Q1 : (Nat → Int32) → Prop), CS G m1 (.ref 61 :: as) v (fun r' v' => r' = some (.int r) ∧ Q1 v') ∧ ∀ v', Q1 v' → CS G m2 (.ref 373 :: as) v' (fun r' v'' => r' = some (.int r) ∧ J v'')
theorem PRI.mk {G : GX} {m1 m2 : MI} {as : List Value} {v : Nat → Int32} {J : (Nat → Int32) → Prop} {r : Int32} {A : (Nat → Int32) → Prop} {B : (Nat → Int32) → (Nat → Int32) → Prop} (h1 : CS G m1 (.ref 61 :: as) v (fun r' v' => r' = some (.int r) ∧ A v')) (h2 : ∀ v', A v' → CS G m2 (.ref 373 :: as) v' (fun r' v'' => r' = some (.int r) ∧ B v' v'')) (hJ : ∀ v' v'', A v' → B v' v'' → J v'') : PRI G m1 m2 as v J :=
  ⟨r, A, h1, fun v' hA => (h2 v' hA).post fun _ v'' h => ⟨h.1, hJ v' v'' hA h.2⟩⟩
/-! The first call on a fresh object. -/
def frl : List Nat := [64, 65, 67, 73, 74, 28, 29, 30, 31, 32, 33, 38, 39, 40, 41, 42, 43, 48, 49, 50, 51, 52, 53, 58, 59, 60, 61, 62, 63, 96, 97, 98, 99, 100, 101, 102, 103, 104, 105, 106, 107, 120, 121, 122, 123, 124, 125, 126, 127]
def FR (v : Nat → Int32) : Prop := okv v ∧ ∀ j ∈ frl, v j = nI 0
theorem FR.at {v : Nat → Int32} (h : FR v) {j : Nat} (hj : j ∈ frl) : v j = nI 0 := h.2 j hj
theorem FR.go {J : List Nat} {v v' : Nat → Int32} (h : FR v) (hm : mdf J v v') {j : Nat} (hj : j ∈ frl) (hJ : j ∉ J) : v' j = nI 0 := (hm j hJ).trans (h.2 j hj)
theorem ix3 (x : Int32) {n : Nat} (hn : n < 2 ^ 31) : x < 0 ∨ (¬ x < 0 ∧ nI n ≤ x) ∨ ∃ j, j < n ∧ x = nI j := by
  by_cases h : x < 0
  · exact Or.inl h
  · rcases pk_ix x hn with h1 | h1 | h1
    · exact absurd h1 h
    · exact Or.inr (Or.inl ⟨h, h1⟩)
    · exact Or.inr (Or.inr h1)
theorem ixz (x : Int32) : x < 0 ∨ ∃ j, j < 2147483648 ∧ x = nI j := by
  by_cases h : x < 0
  · exact Or.inl h
  · exact Or.inr (nI_of h)
theorem ixm (y : Int32) : y < nI 1 ∨ (¬ y < nI 1 ∧ nI 3 < y) ∨ y = nI 1 ∨ y = nI 2 ∨ y = nI 3 := by
  by_cases h1 : y < nI 1
  · exact Or.inl h1
  · by_cases h3 : nI 3 < y
    · exact Or.inr (Or.inl ⟨h1, h3⟩)
    · have h0 : ¬ y < 0 := fun h => h1 (Int32.lt_trans h (by decide))
      obtain ⟨j, hj, rfl⟩ := nI_of h0
      have a1 : ¬ j < 1 := fun h => h1 ((nI_ltI hj (by decide)).mpr h)
      have a3 : ¬ 3 < j := fun h => h3 ((nI_ltI (by decide) hj).mpr h)
      have : j = 1 ∨ j = 2 ∨ j = 3 := by omega
      rcases this with rfl | rfl | rfl
      · exact Or.inr (Or.inr (Or.inl rfl))
      · exact Or.inr (Or.inr (Or.inr (Or.inl rfl)))
      · exact Or.inr (Or.inr (Or.inr (Or.inr rfl)))
theorem le87 {x : Int32} (h : nI 8 ≤ x) : ¬ x ≤ nI 7 := fun h7 => absurd (Int32.le_trans h h7) (by decide)
