/-! The first call on a fresh object. -/
def frl : List Nat := [64, 65, 67, 73, 74, 28, 29, 30, 31, 32, 33, 38, 39, 40, 41, 42, 43, 48, 49, 50, 51, 52, 53, 58, 59, 60, 61, 62, 63, 96, 97, 98, 99, 100, 101, 102, 103, 104, 105, 106, 107, 120, 121, 122, 123, 124, 125, 126, 127]
def FR (v : Nat → Int32) : Prop := okv v ∧ ∀ j ∈ frl, v j = nI 0
theorem FR.at {v : Nat → Int32} (h : FR v) {j : Nat} (hj : j ∈ frl) : v j = nI 0 := h.2 j hj
theorem FR.go {J : List Nat} {v v' : Nat → Int32} (h : FR v) (hm : mdf J v v') {j : Nat} (hj : j ∈ frl) (hJ : j ∉ J) : v' j = nI 0 := (hm j hJ).trans (h.2 j hj)
theorem ix3 (x : Int32) {n : Nat} (hn : n < 2 ^ 31) : x < 0 ∨ (¬ x < 0 ∧ nI n ≤ x) ∨ ∃ j, j < n ∧ x = nI j := by
  by_cases h : x < 0
  · exact Or.inl h
  · rcases pk_ix x hn with h1 | h1 | h1
    · exact absurd h1 h
    · exact Or.inr (Or.inl ⟨h, h1⟩)
    · exact Or.inr (Or.inr h1)
theorem ixz (x : Int32) : x < 0 ∨ ∃ j, j < 2147483648 ∧ x = nI j := by
  by_cases h : x < 0
  · exact Or.inl h
  · exact Or.inr (nI_of h)
theorem ixm (y : Int32) : y < nI 1 ∨ (¬ y < nI 1 ∧ nI 3 < y) ∨ y = nI 1 ∨ y = nI 2 ∨ y = nI 3 := by
  by_cases h1 : y < nI 1
  · exact Or.inl h1
  · by_cases h3 : nI 3 < y
    · exact Or.inr (Or.inl ⟨h1, h3⟩)
    · have h0 : ¬ y < 0 := fun h => h1 (Int32.lt_trans h (by decide))
      obtain ⟨j, hj, rfl⟩ := nI_of h0
      have a1 : ¬ j < 1 := fun h => h1 ((nI_ltI hj (by decide)).mpr h)
      have a3 : ¬ 3 < j := fun h => h3 ((nI_ltI (by decide) hj).mpr h)
      have : j = 1 ∨ j = 2 ∨ j = 3 := by omega
      rcases this with rfl | rfl | rfl
      · exact Or.inr (Or.inr (Or.inl rfl))
      · exact Or.inr (Or.inr (Or.inr (Or.inl rfl)))
      · exact Or.inr (Or.inr (Or.inr (Or.inr rfl)))
theorem le87 {x : Int32} (h : nI 8 ≤ x) : ¬ x ≤ nI 7 := fun h7 => absurd (Int32.le_trans h h7) (by decide)
theorem fp_feed (G : GX) {v : Nat → Int32} (h : FR v) (x1 : Int32) (x2 : Int32) (x3 : Int32) (x4 : Int32) (x5 : Int32) : PRI G mi_PG_feed mi_Mo_feed [.int x1, .int x2, .int x3, .int x4, .int x5] v (fun _ => True) := by
  exact PRI.mk (c_PG_feed_yes G v x1 x2 x3 x4 x5 0 (h.at (j := 64) (by decide)) (by decide) h.1) (fun v' hA => c_Mo_feed_yes G v' x1 x2 x3 x4 x5 0 (h.go hA.2.1 (j := 73) (by decide) (by decide)) (by decide) hA.1) (fun _ _ _ _ => trivial)
theorem fp_end (G : GX) {v : Nat → Int32} (h : FR v) (x : Int32) : PRI G mi_PG_end mi_Mo_end [.int x] v (fun _ => True) := by
  rcases ixz x with hx | ⟨n, hn, rfl⟩
  · exact PRI.mk (c_PG_end_neg G v x 0 (h.at (j := 64) (by decide)) hx h.1) (fun v' hA => c_Mo_end_neg G v' x 0 (h.go hA.2.1 (j := 73) (by decide) (by decide)) hx hA.1) (fun _ _ _ _ => trivial)
  · by_cases h0 : n = 0
    · subst h0
      exact PRI.mk (c_PG_end_in G v 0 (by decide) 0 (h.at (j := 64) (by decide)) (by decide) h.1) (fun v' hA => c_Mo_end_in G v' 0 (by decide) 0 (h.go hA.2.1 (j := 73) (by decide) (by decide)) (by decide) hA.1) (fun _ _ _ _ => trivial)
    · exact PRI.mk (c_PG_end_big G v n hn 0 (h.at (j := 64) (by decide)) (by omega) h.1) (fun v' hA => c_Mo_end_big G v' n hn 0 (h.go hA.2.1 (j := 73) (by decide) (by decide)) (by omega) hA.1) (fun _ _ _ _ => trivial)
theorem fp_hash (G : GX) {v : Nat → Int32} (h : FR v) : PRI G mi_PG_hash mi_Mo_hash [] v (fun _ => True) := by
  exact PRI.mk (c_PG_hash G v h.1) (fun v' hA => c_Mo_hash G v' (h.go hA.2.1 (j := 67) (by decide) (by decide)) hA.1) (fun _ _ _ _ => trivial)
theorem fp_group (G : GX) {v : Nat → Int32} (h : FR v) : PRI G mi_PG_group mi_Mo_group [] v (fun _ => True) := by
  exact PRI.mk (c_PG_group G v h.1) (fun v' hA => c_Mo_group G v' (h.go hA.2.1 (j := 67) (by decide) (by decide)) hA.1) (fun _ _ _ _ => trivial)
theorem fp_times (G : GX) {v : Nat → Int32} (h : FR v) : PRI G mi_PG_times mi_Mo_times [] v (fun _ => True) := by
  exact PRI.mk (c_PG_times_few G v 0 (h.at (j := 64) (by decide)) (by decide) h.1) (fun v' hA => c_Mo_times_few G v' 0 (h.go hA.2.1 (j := 73) (by decide) (by decide)) (by decide) hA.1) (fun _ _ _ _ => trivial)
theorem fp_enroll (G : GX) {v : Nat → Int32} (h : FR v) (x : Int32) : PRI G mi_PG_enroll mi_Mo_enroll [.int x] v (fun _ => True) := by
  rcases ix3 x (n := 8) (by decide) with hx | ⟨h0, hx⟩ | ⟨n, hn, rfl⟩
  · exact PRI.mk (c_PG_enroll_neg G v x hx h.1) (fun v' hA => c_Mo_enroll_neg G v' x hx hA.1) (fun _ _ _ _ => trivial)
  · exact PRI.mk (c_PG_enroll_big G v x h0 hx h.1) (fun v' hA => c_Mo_enroll_big G v' x h0 (le87 hx) hA.1) (fun _ _ _ _ => trivial)
  · exact PRI.mk (c_PG_enroll_in G v n (by omega) h.1) (fun v' hA => c_Mo_enroll_in G v' n (by omega) (h.go hA.2.1 (j := 67) (by decide) (by decide)) hA.1) (fun _ _ _ _ => trivial)
theorem fp_begin (G : GX) {v : Nat → Int32} (h : FR v) (x : Int32) (y : Int32) : PRI G mi_PG_begin mi_Mo_begin [.int x, .int y] v (fun _ => True) := by
  rcases ix3 x (n := 4) (by decide) with hx | ⟨h0, hx⟩ | ⟨s, hs, rfl⟩
  · exact PRI.mk (c_PG_begin_sneg G v x y hx h.1) (fun v' hA => c_Mo_begin_sneg G v' x y hx hA.1) (fun _ _ _ _ => trivial)
  · exact PRI.mk (c_PG_begin_sbig G v x y h0 hx h.1) (fun v' hA => c_Mo_begin_sbig G v' x y h0 hx hA.1) (fun _ _ _ _ => trivial)
  · have h4 : s = 0 ∨ s = 1 ∨ s = 2 ∨ s = 3 := by omega
    rcases h4 with rfl | rfl | rfl | rfl
    · rcases ix3 y (n := 8) (by decide) with hy | ⟨h1, hy⟩ | ⟨n, hn, rfl⟩
      · exact PRI.mk (c_PG_begin_0_neg G v y hy h.1) (fun v' hA => c_Mo_begin_0_neg G v' y hy hA.1) (fun _ _ _ _ => trivial)
      · exact PRI.mk (c_PG_begin_0_big G v y h1 hy h.1) (fun v' hA => c_Mo_begin_0_big G v' y h1 (le87 hy) hA.1) (fun _ _ _ _ => trivial)
      · exact PRI.mk (c_PG_begin_0 G v n (by omega) h.1) (fun v' hA => c_Mo_begin_0 G v' n (by omega) (h.go hA.2.1 (j := 67) (by decide) (by decide)) hA.1) (fun _ _ _ _ => trivial)
    · rcases ix3 y (n := 8) (by decide) with hy | ⟨h1, hy⟩ | ⟨n, hn, rfl⟩
      · exact PRI.mk (c_PG_begin_1_neg G v y hy h.1) (fun v' hA => c_Mo_begin_1_neg G v' y hy hA.1) (fun _ _ _ _ => trivial)
      · exact PRI.mk (c_PG_begin_1_big G v y h1 hy h.1) (fun v' hA => c_Mo_begin_1_big G v' y h1 (le87 hy) hA.1) (fun _ _ _ _ => trivial)
      · exact PRI.mk (c_PG_begin_1 G v n (by omega) h.1) (fun v' hA => c_Mo_begin_1 G v' n (by omega) (h.go hA.2.1 (j := 67) (by decide) (by decide)) hA.1) (fun _ _ _ _ => trivial)
    · rcases ix3 y (n := 8) (by decide) with hy | ⟨h1, hy⟩ | ⟨n, hn, rfl⟩
      · exact PRI.mk (c_PG_begin_2_neg G v y hy h.1) (fun v' hA => c_Mo_begin_2_neg G v' y hy hA.1) (fun _ _ _ _ => trivial)
      · exact PRI.mk (c_PG_begin_2_big G v y h1 hy h.1) (fun v' hA => c_Mo_begin_2_big G v' y h1 (le87 hy) hA.1) (fun _ _ _ _ => trivial)
      · exact PRI.mk (c_PG_begin_2 G v n (by omega) h.1) (fun v' hA => c_Mo_begin_2 G v' n (by omega) (h.go hA.2.1 (j := 67) (by decide) (by decide)) hA.1) (fun _ _ _ _ => trivial)
    · rcases ix3 y (n := 8) (by decide) with hy | ⟨h1, hy⟩ | ⟨n, hn, rfl⟩
      · exact PRI.mk (c_PG_begin_3_neg G v y hy h.1) (fun v' hA => c_Mo_begin_3_neg G v' y hy hA.1) (fun _ _ _ _ => trivial)
      · exact PRI.mk (c_PG_begin_3_big G v y h1 hy h.1) (fun v' hA => c_Mo_begin_3_big G v' y h1 (le87 hy) hA.1) (fun _ _ _ _ => trivial)
      · exact PRI.mk (c_PG_begin_3 G v n (by omega) h.1) (fun v' hA => c_Mo_begin_3 G v' n (by omega) (h.go hA.2.1 (j := 67) (by decide) (by decide)) hA.1) (fun _ _ _ _ => trivial)
theorem fp_answer (G : GX) {v : Nat → Int32} (h : FR v) (x : Int32) : PRI G mi_PG_answer mi_Mo_answer [.int x] v (fun _ => True) := by
  rcases ix3 x (n := 4) (by decide) with hx | ⟨h0, hx⟩ | ⟨s, hs, rfl⟩
  · exact PRI.mk (c_PG_answer_sneg G v x hx h.1) (fun v' hA => c_Mo_answer_sneg G v' x hx hA.1) (fun _ _ _ _ => trivial)
  · exact PRI.mk (c_PG_answer_sbig G v x h0 hx h.1) (fun v' hA => c_Mo_answer_sbig G v' x h0 hx hA.1) (fun _ _ _ _ => trivial)
  · have h4 : s = 0 ∨ s = 1 ∨ s = 2 ∨ s = 3 := by omega
    rcases h4 with rfl | rfl | rfl | rfl
    · exact PRI.mk (c_PG_answer_0_f G v (h.at (j := 28) (by decide)) h.1) (fun v' hA => c_Mo_answer_0_f G v' (h.go hA.2 (j := 96) (by decide) (by decide)) hA.1) (fun _ _ _ _ => trivial)
    · exact PRI.mk (c_PG_answer_1_f G v (h.at (j := 38) (by decide)) h.1) (fun v' hA => c_Mo_answer_1_f G v' (h.go hA.2 (j := 97) (by decide) (by decide)) hA.1) (fun _ _ _ _ => trivial)
    · exact PRI.mk (c_PG_answer_2_f G v (h.at (j := 48) (by decide)) h.1) (fun v' hA => c_Mo_answer_2_f G v' (h.go hA.2 (j := 98) (by decide) (by decide)) hA.1) (fun _ _ _ _ => trivial)
    · exact PRI.mk (c_PG_answer_3_f G v (h.at (j := 58) (by decide)) h.1) (fun v' hA => c_Mo_answer_3_f G v' (h.go hA.2 (j := 99) (by decide) (by decide)) hA.1) (fun _ _ _ _ => trivial)
theorem fp_finish (G : GX) {v : Nat → Int32} (h : FR v) (x : Int32) : PRI G mi_PG_finish mi_Mo_finish [.int x] v (fun _ => True) := by
  rcases ix3 x (n := 4) (by decide) with hx | ⟨h0, hx⟩ | ⟨s, hs, rfl⟩
  · exact PRI.mk (c_PG_finish_sneg G v x hx h.1) (fun v' hA => c_Mo_finish_sneg G v' x hx hA.1) (fun _ _ _ _ => trivial)
  · exact PRI.mk (c_PG_finish_sbig G v x h0 hx h.1) (fun v' hA => c_Mo_finish_sbig G v' x h0 hx hA.1) (fun _ _ _ _ => trivial)
  · have h4 : s = 0 ∨ s = 1 ∨ s = 2 ∨ s = 3 := by omega
    rcases h4 with rfl | rfl | rfl | rfl
    · exact PRI.mk (c_PG_finish_0_f G v (h.at (j := 29) (by decide)) h.1) (fun v' hA => c_Mo_finish_0_f G v' (h.go hA.2 (j := 100) (by decide) (by decide)) hA.1) (fun _ _ _ _ => trivial)
    · exact PRI.mk (c_PG_finish_1_f G v (h.at (j := 39) (by decide)) h.1) (fun v' hA => c_Mo_finish_1_f G v' (h.go hA.2 (j := 101) (by decide) (by decide)) hA.1) (fun _ _ _ _ => trivial)
    · exact PRI.mk (c_PG_finish_2_f G v (h.at (j := 49) (by decide)) h.1) (fun v' hA => c_Mo_finish_2_f G v' (h.go hA.2 (j := 102) (by decide) (by decide)) hA.1) (fun _ _ _ _ => trivial)
    · exact PRI.mk (c_PG_finish_3_f G v (h.at (j := 59) (by decide)) h.1) (fun v' hA => c_Mo_finish_3_f G v' (h.go hA.2 (j := 103) (by decide) (by decide)) hA.1) (fun _ _ _ _ => trivial)
theorem fp_accept (G : GX) {v : Nat → Int32} (h : FR v) (x : Int32) : PRI G mi_PG_accept mi_Mo_accept [.int x] v (fun _ => True) := by
  rcases ix3 x (n := 4) (by decide) with hx | ⟨h0, hx⟩ | ⟨s, hs, rfl⟩
  · exact PRI.mk (c_PG_accept_sneg G v x hx h.1) (fun v' hA => c_Mo_accept_sneg G v' x hx hA.1) (fun _ _ _ _ => trivial)
  · exact PRI.mk (c_PG_accept_sbig G v x h0 hx h.1) (fun v' hA => c_Mo_accept_sbig G v' x h0 hx hA.1) (fun _ _ _ _ => trivial)
  · have h4 : s = 0 ∨ s = 1 ∨ s = 2 ∨ s = 3 := by omega
    rcases h4 with rfl | rfl | rfl | rfl
    · exact PRI.mk (c_PG_accept_0_f G v (h.at (j := 30) (by decide)) h.1) (fun v' hA => c_Mo_accept_0_f G v' (h.go hA.2 (j := 104) (by decide) (by decide)) hA.1) (fun _ _ _ _ => trivial)
    · exact PRI.mk (c_PG_accept_1_f G v (h.at (j := 40) (by decide)) h.1) (fun v' hA => c_Mo_accept_1_f G v' (h.go hA.2 (j := 105) (by decide) (by decide)) hA.1) (fun _ _ _ _ => trivial)
    · exact PRI.mk (c_PG_accept_2_f G v (h.at (j := 50) (by decide)) h.1) (fun v' hA => c_Mo_accept_2_f G v' (h.go hA.2 (j := 106) (by decide) (by decide)) hA.1) (fun _ _ _ _ => trivial)
    · exact PRI.mk (c_PG_accept_3_f G v (h.at (j := 60) (by decide)) h.1) (fun v' hA => c_Mo_accept_3_f G v' (h.go hA.2 (j := 107) (by decide) (by decide)) hA.1) (fun _ _ _ _ => trivial)
theorem fp_tamper (G : GX) {v : Nat → Int32} (h : FR v) (x : Int32) (y : Int32) (z : Int32) (mask : Int32) : PRI G mi_PG_tamper mi_Mo_tamper [.int x, .int y, .int z, .int mask] v (fun _ => True) := by
  rcases ix3 x (n := 4) (by decide) with hx | ⟨h0, hx⟩ | ⟨s, hs, rfl⟩
  · exact PRI.mk (c_PG_tamper_sneg G v x y z mask hx h.1) (fun v' hA => c_Mo_tamper_sneg G v' x y z mask hx hA.1) (fun _ _ _ _ => trivial)
  · exact PRI.mk (c_PG_tamper_sbig G v x y z mask h0 hx h.1) (fun v' hA => c_Mo_tamper_sbig G v' x y z mask h0 hx hA.1) (fun _ _ _ _ => trivial)
  · have h4 : s = 0 ∨ s = 1 ∨ s = 2 ∨ s = 3 := by omega
    rcases h4 with rfl | rfl | rfl | rfl
    · rcases ixm y with hy | ⟨h1, hy⟩ | rfl | rfl | rfl
      · rcases ixz z with hz | ⟨i, hi, rfl⟩
        · exact PRI.mk (c_PG_tamper_0_mlt G v y z mask hy h.1) (fun v' hA => c_Mo_tamper_0_neg G v' y z mask hz hA.1) (fun _ _ _ _ => trivial)
        · exact PRI.mk (c_PG_tamper_0_mlt G v y (nI i) mask hy h.1) (fun v' hA => c_Mo_tamper_0_oth G v' y i hi mask (fun e => by subst e; exact absurd hy (by decide)) (fun e => by subst e; exact absurd hy (by decide)) (fun e => by subst e; exact absurd hy (by decide)) hA.1) (fun _ _ _ _ => trivial)
      · rcases ixz z with hz | ⟨i, hi, rfl⟩
        · exact PRI.mk (c_PG_tamper_0_mgt G v y z mask h1 hy h.1) (fun v' hA => c_Mo_tamper_0_neg G v' y z mask hz hA.1) (fun _ _ _ _ => trivial)
        · exact PRI.mk (c_PG_tamper_0_mgt G v y (nI i) mask h1 hy h.1) (fun v' hA => c_Mo_tamper_0_oth G v' y i hi mask (fun e => by subst e; exact absurd hy (by decide)) (fun e => by subst e; exact absurd hy (by decide)) (fun e => by subst e; exact absurd hy (by decide)) hA.1) (fun _ _ _ _ => trivial)
      · rcases ixz z with hz | ⟨i, hi, rfl⟩
        · exact PRI.mk (c_PG_tamper_0_1_neg G v z mask hz h.1) (fun v' hA => c_Mo_tamper_0_neg G v' (nI 1) z mask hz hA.1) (fun _ _ _ _ => trivial)
        · exact PRI.mk (c_PG_tamper_0_1_out G v i hi mask 0 (h.at (j := 28) (by decide)) ⟨Nat.zero_le _, Nat.zero_le _⟩ h.1) (fun v' hA => c_Mo_tamper_0_1_not G v' i hi mask (h.go hA.2.1 (j := 96) (by decide) (by decide)) hA.1) (fun _ _ _ _ => trivial)
      · rcases ixz z with hz | ⟨i, hi, rfl⟩
        · exact PRI.mk (c_PG_tamper_0_2_neg G v z mask hz h.1) (fun v' hA => c_Mo_tamper_0_neg G v' (nI 2) z mask hz hA.1) (fun _ _ _ _ => trivial)
        · exact PRI.mk (c_PG_tamper_0_2_out G v i hi mask 0 (h.at (j := 29) (by decide)) ⟨Nat.zero_le _, Nat.zero_le _⟩ h.1) (fun v' hA => c_Mo_tamper_0_2_not G v' i hi mask (h.go hA.2.1 (j := 100) (by decide) (by decide)) hA.1) (fun _ _ _ _ => trivial)
      · rcases ixz z with hz | ⟨i, hi, rfl⟩
        · exact PRI.mk (c_PG_tamper_0_3_neg G v z mask hz h.1) (fun v' hA => c_Mo_tamper_0_neg G v' (nI 3) z mask hz hA.1) (fun _ _ _ _ => trivial)
        · exact PRI.mk (c_PG_tamper_0_3_out G v i hi mask 0 (h.at (j := 30) (by decide)) ⟨Nat.zero_le _, Nat.zero_le _⟩ h.1) (fun v' hA => c_Mo_tamper_0_3_not G v' i hi mask (h.go hA.2.1 (j := 104) (by decide) (by decide)) hA.1) (fun _ _ _ _ => trivial)
    · rcases ixm y with hy | ⟨h1, hy⟩ | rfl | rfl | rfl
      · rcases ixz z with hz | ⟨i, hi, rfl⟩
        · exact PRI.mk (c_PG_tamper_1_mlt G v y z mask hy h.1) (fun v' hA => c_Mo_tamper_1_neg G v' y z mask hz hA.1) (fun _ _ _ _ => trivial)
        · exact PRI.mk (c_PG_tamper_1_mlt G v y (nI i) mask hy h.1) (fun v' hA => c_Mo_tamper_1_oth G v' y i hi mask (fun e => by subst e; exact absurd hy (by decide)) (fun e => by subst e; exact absurd hy (by decide)) (fun e => by subst e; exact absurd hy (by decide)) hA.1) (fun _ _ _ _ => trivial)
      · rcases ixz z with hz | ⟨i, hi, rfl⟩
        · exact PRI.mk (c_PG_tamper_1_mgt G v y z mask h1 hy h.1) (fun v' hA => c_Mo_tamper_1_neg G v' y z mask hz hA.1) (fun _ _ _ _ => trivial)
        · exact PRI.mk (c_PG_tamper_1_mgt G v y (nI i) mask h1 hy h.1) (fun v' hA => c_Mo_tamper_1_oth G v' y i hi mask (fun e => by subst e; exact absurd hy (by decide)) (fun e => by subst e; exact absurd hy (by decide)) (fun e => by subst e; exact absurd hy (by decide)) hA.1) (fun _ _ _ _ => trivial)
      · rcases ixz z with hz | ⟨i, hi, rfl⟩
        · exact PRI.mk (c_PG_tamper_1_1_neg G v z mask hz h.1) (fun v' hA => c_Mo_tamper_1_neg G v' (nI 1) z mask hz hA.1) (fun _ _ _ _ => trivial)
        · exact PRI.mk (c_PG_tamper_1_1_out G v i hi mask 0 (h.at (j := 38) (by decide)) ⟨Nat.zero_le _, Nat.zero_le _⟩ h.1) (fun v' hA => c_Mo_tamper_1_1_not G v' i hi mask (h.go hA.2.1 (j := 97) (by decide) (by decide)) hA.1) (fun _ _ _ _ => trivial)
      · rcases ixz z with hz | ⟨i, hi, rfl⟩
        · exact PRI.mk (c_PG_tamper_1_2_neg G v z mask hz h.1) (fun v' hA => c_Mo_tamper_1_neg G v' (nI 2) z mask hz hA.1) (fun _ _ _ _ => trivial)
        · exact PRI.mk (c_PG_tamper_1_2_out G v i hi mask 0 (h.at (j := 39) (by decide)) ⟨Nat.zero_le _, Nat.zero_le _⟩ h.1) (fun v' hA => c_Mo_tamper_1_2_not G v' i hi mask (h.go hA.2.1 (j := 101) (by decide) (by decide)) hA.1) (fun _ _ _ _ => trivial)
      · rcases ixz z with hz | ⟨i, hi, rfl⟩
        · exact PRI.mk (c_PG_tamper_1_3_neg G v z mask hz h.1) (fun v' hA => c_Mo_tamper_1_neg G v' (nI 3) z mask hz hA.1) (fun _ _ _ _ => trivial)
        · exact PRI.mk (c_PG_tamper_1_3_out G v i hi mask 0 (h.at (j := 40) (by decide)) ⟨Nat.zero_le _, Nat.zero_le _⟩ h.1) (fun v' hA => c_Mo_tamper_1_3_not G v' i hi mask (h.go hA.2.1 (j := 105) (by decide) (by decide)) hA.1) (fun _ _ _ _ => trivial)
    · rcases ixm y with hy | ⟨h1, hy⟩ | rfl | rfl | rfl
      · rcases ixz z with hz | ⟨i, hi, rfl⟩
        · exact PRI.mk (c_PG_tamper_2_mlt G v y z mask hy h.1) (fun v' hA => c_Mo_tamper_2_neg G v' y z mask hz hA.1) (fun _ _ _ _ => trivial)
        · exact PRI.mk (c_PG_tamper_2_mlt G v y (nI i) mask hy h.1) (fun v' hA => c_Mo_tamper_2_oth G v' y i hi mask (fun e => by subst e; exact absurd hy (by decide)) (fun e => by subst e; exact absurd hy (by decide)) (fun e => by subst e; exact absurd hy (by decide)) hA.1) (fun _ _ _ _ => trivial)
      · rcases ixz z with hz | ⟨i, hi, rfl⟩
        · exact PRI.mk (c_PG_tamper_2_mgt G v y z mask h1 hy h.1) (fun v' hA => c_Mo_tamper_2_neg G v' y z mask hz hA.1) (fun _ _ _ _ => trivial)
        · exact PRI.mk (c_PG_tamper_2_mgt G v y (nI i) mask h1 hy h.1) (fun v' hA => c_Mo_tamper_2_oth G v' y i hi mask (fun e => by subst e; exact absurd hy (by decide)) (fun e => by subst e; exact absurd hy (by decide)) (fun e => by subst e; exact absurd hy (by decide)) hA.1) (fun _ _ _ _ => trivial)
      · rcases ixz z with hz | ⟨i, hi, rfl⟩
        · exact PRI.mk (c_PG_tamper_2_1_neg G v z mask hz h.1) (fun v' hA => c_Mo_tamper_2_neg G v' (nI 1) z mask hz hA.1) (fun _ _ _ _ => trivial)
        · exact PRI.mk (c_PG_tamper_2_1_out G v i hi mask 0 (h.at (j := 48) (by decide)) ⟨Nat.zero_le _, Nat.zero_le _⟩ h.1) (fun v' hA => c_Mo_tamper_2_1_not G v' i hi mask (h.go hA.2.1 (j := 98) (by decide) (by decide)) hA.1) (fun _ _ _ _ => trivial)
      · rcases ixz z with hz | ⟨i, hi, rfl⟩
        · exact PRI.mk (c_PG_tamper_2_2_neg G v z mask hz h.1) (fun v' hA => c_Mo_tamper_2_neg G v' (nI 2) z mask hz hA.1) (fun _ _ _ _ => trivial)
        · exact PRI.mk (c_PG_tamper_2_2_out G v i hi mask 0 (h.at (j := 49) (by decide)) ⟨Nat.zero_le _, Nat.zero_le _⟩ h.1) (fun v' hA => c_Mo_tamper_2_2_not G v' i hi mask (h.go hA.2.1 (j := 102) (by decide) (by decide)) hA.1) (fun _ _ _ _ => trivial)
      · rcases ixz z with hz | ⟨i, hi, rfl⟩
        · exact PRI.mk (c_PG_tamper_2_3_neg G v z mask hz h.1) (fun v' hA => c_Mo_tamper_2_neg G v' (nI 3) z mask hz hA.1) (fun _ _ _ _ => trivial)
        · exact PRI.mk (c_PG_tamper_2_3_out G v i hi mask 0 (h.at (j := 50) (by decide)) ⟨Nat.zero_le _, Nat.zero_le _⟩ h.1) (fun v' hA => c_Mo_tamper_2_3_not G v' i hi mask (h.go hA.2.1 (j := 106) (by decide) (by decide)) hA.1) (fun _ _ _ _ => trivial)
    · rcases ixm y with hy | ⟨h1, hy⟩ | rfl | rfl | rfl
      · rcases ixz z with hz | ⟨i, hi, rfl⟩
        · exact PRI.mk (c_PG_tamper_3_mlt G v y z mask hy h.1) (fun v' hA => c_Mo_tamper_3_neg G v' y z mask hz hA.1) (fun _ _ _ _ => trivial)
        · exact PRI.mk (c_PG_tamper_3_mlt G v y (nI i) mask hy h.1) (fun v' hA => c_Mo_tamper_3_oth G v' y i hi mask (fun e => by subst e; exact absurd hy (by decide)) (fun e => by subst e; exact absurd hy (by decide)) (fun e => by subst e; exact absurd hy (by decide)) hA.1) (fun _ _ _ _ => trivial)
      · rcases ixz z with hz | ⟨i, hi, rfl⟩
        · exact PRI.mk (c_PG_tamper_3_mgt G v y z mask h1 hy h.1) (fun v' hA => c_Mo_tamper_3_neg G v' y z mask hz hA.1) (fun _ _ _ _ => trivial)
        · exact PRI.mk (c_PG_tamper_3_mgt G v y (nI i) mask h1 hy h.1) (fun v' hA => c_Mo_tamper_3_oth G v' y i hi mask (fun e => by subst e; exact absurd hy (by decide)) (fun e => by subst e; exact absurd hy (by decide)) (fun e => by subst e; exact absurd hy (by decide)) hA.1) (fun _ _ _ _ => trivial)
      · rcases ixz z with hz | ⟨i, hi, rfl⟩
        · exact PRI.mk (c_PG_tamper_3_1_neg G v z mask hz h.1) (fun v' hA => c_Mo_tamper_3_neg G v' (nI 1) z mask hz hA.1) (fun _ _ _ _ => trivial)
        · exact PRI.mk (c_PG_tamper_3_1_out G v i hi mask 0 (h.at (j := 58) (by decide)) ⟨Nat.zero_le _, Nat.zero_le _⟩ h.1) (fun v' hA => c_Mo_tamper_3_1_not G v' i hi mask (h.go hA.2.1 (j := 99) (by decide) (by decide)) hA.1) (fun _ _ _ _ => trivial)
      · rcases ixz z with hz | ⟨i, hi, rfl⟩
        · exact PRI.mk (c_PG_tamper_3_2_neg G v z mask hz h.1) (fun v' hA => c_Mo_tamper_3_neg G v' (nI 2) z mask hz hA.1) (fun _ _ _ _ => trivial)
        · exact PRI.mk (c_PG_tamper_3_2_out G v i hi mask 0 (h.at (j := 59) (by decide)) ⟨Nat.zero_le _, Nat.zero_le _⟩ h.1) (fun v' hA => c_Mo_tamper_3_2_not G v' i hi mask (h.go hA.2.1 (j := 103) (by decide) (by decide)) hA.1) (fun _ _ _ _ => trivial)
      · rcases ixz z with hz | ⟨i, hi, rfl⟩
        · exact PRI.mk (c_PG_tamper_3_3_neg G v z mask hz h.1) (fun v' hA => c_Mo_tamper_3_neg G v' (nI 3) z mask hz hA.1) (fun _ _ _ _ => trivial)
        · exact PRI.mk (c_PG_tamper_3_3_out G v i hi mask 0 (h.at (j := 60) (by decide)) ⟨Nat.zero_le _, Nat.zero_le _⟩ h.1) (fun v' hA => c_Mo_tamper_3_3_not G v' i hi mask (h.go hA.2.1 (j := 107) (by decide) (by decide)) hA.1) (fun _ _ _ _ => trivial)
theorem fp_wire (G : GX) (hNT : G.1.stackTraces = false) {v : Nat → Int32} (h : FR v) (x : Int32) (y : Int32) (z : Int32) : PT G mt_PG_wire mi_Mo_wire [.int x, .int y, .int z] v (fun _ => True) := by
  rcases ix3 x (n := 4) (by decide) with hx | ⟨h0, hx⟩ | ⟨s, hs, rfl⟩
  · exact PT.mk (t_PG_wire_sneg G hNT v x y z hx h.1) (fun v' hA => c_Mo_wire_sneg G v' x y z hx hA.1) (fun _ _ _ hb => ⟨hb.1, hb.2.2, trivial⟩)
  · exact PT.mk (t_PG_wire_sbig G hNT v x y z h0 hx h.1) (fun v' hA => c_Mo_wire_sbig G v' x y z h0 hx hA.1) (fun _ _ _ hb => ⟨hb.1, hb.2.2, trivial⟩)
  · have h4 : s = 0 ∨ s = 1 ∨ s = 2 ∨ s = 3 := by omega
    rcases h4 with rfl | rfl | rfl | rfl
    · rcases ixm y with hy | ⟨h1, hy⟩ | rfl | rfl | rfl
      · rcases ixz z with hz | ⟨i, hi, rfl⟩
        · exact PT.mk (t_PG_wire_0_mlt G hNT v y z hy h.1) (fun v' hA => c_Mo_wire_0_neg G v' y z hz hA.1) (fun _ _ _ hb => ⟨hb.1, hb.2.2, trivial⟩)
        · exact PT.mk (t_PG_wire_0_mlt G hNT v y (nI i) hy h.1) (fun v' hA => c_Mo_wire_0_oth G v' y i hi (fun e => by subst e; exact absurd hy (by decide)) (fun e => by subst e; exact absurd hy (by decide)) (fun e => by subst e; exact absurd hy (by decide)) hA.1) (fun _ _ _ hb => ⟨hb.1, hb.2.2, trivial⟩)
      · rcases ixz z with hz | ⟨i, hi, rfl⟩
        · exact PT.mk (t_PG_wire_0_mgt G hNT v y z h1 hy h.1) (fun v' hA => c_Mo_wire_0_neg G v' y z hz hA.1) (fun _ _ _ hb => ⟨hb.1, hb.2.2, trivial⟩)
        · exact PT.mk (t_PG_wire_0_mgt G hNT v y (nI i) h1 hy h.1) (fun v' hA => c_Mo_wire_0_oth G v' y i hi (fun e => by subst e; exact absurd hy (by decide)) (fun e => by subst e; exact absurd hy (by decide)) (fun e => by subst e; exact absurd hy (by decide)) hA.1) (fun _ _ _ hb => ⟨hb.1, hb.2.2, trivial⟩)
      · rcases ixz z with hz | ⟨i, hi, rfl⟩
        · exact PT.mk (t_PG_wire_0_1_neg G hNT v z hz h.1) (fun v' hA => c_Mo_wire_0_neg G v' (nI 1) z hz hA.1) (fun _ _ _ hb => ⟨hb.1, hb.2.2, trivial⟩)
        · exact PT.mk (t_PG_wire_0_1_out G hNT v i hi 0 (h.at (j := 28) (by decide)) ⟨Nat.zero_le _, Nat.zero_le _⟩ h.1) (fun v' hA => c_Mo_wire_0_1_not G v' i hi (h.go hA.2 (j := 96) (by decide) (by decide)) hA.1) (fun _ _ _ hb => ⟨hb.1, hb.2.2, trivial⟩)
      · rcases ixz z with hz | ⟨i, hi, rfl⟩
        · exact PT.mk (t_PG_wire_0_2_neg G hNT v z hz h.1) (fun v' hA => c_Mo_wire_0_neg G v' (nI 2) z hz hA.1) (fun _ _ _ hb => ⟨hb.1, hb.2.2, trivial⟩)
        · exact PT.mk (t_PG_wire_0_2_out G hNT v i hi 0 (h.at (j := 29) (by decide)) ⟨Nat.zero_le _, Nat.zero_le _⟩ h.1) (fun v' hA => c_Mo_wire_0_2_not G v' i hi (h.go hA.2 (j := 100) (by decide) (by decide)) hA.1) (fun _ _ _ hb => ⟨hb.1, hb.2.2, trivial⟩)
      · rcases ixz z with hz | ⟨i, hi, rfl⟩
        · exact PT.mk (t_PG_wire_0_3_neg G hNT v z hz h.1) (fun v' hA => c_Mo_wire_0_neg G v' (nI 3) z hz hA.1) (fun _ _ _ hb => ⟨hb.1, hb.2.2, trivial⟩)
        · exact PT.mk (t_PG_wire_0_3_out G hNT v i hi 0 (h.at (j := 30) (by decide)) ⟨Nat.zero_le _, Nat.zero_le _⟩ h.1) (fun v' hA => c_Mo_wire_0_3_not G v' i hi (h.go hA.2 (j := 104) (by decide) (by decide)) hA.1) (fun _ _ _ hb => ⟨hb.1, hb.2.2, trivial⟩)
    · rcases ixm y with hy | ⟨h1, hy⟩ | rfl | rfl | rfl
      · rcases ixz z with hz | ⟨i, hi, rfl⟩
        · exact PT.mk (t_PG_wire_1_mlt G hNT v y z hy h.1) (fun v' hA => c_Mo_wire_1_neg G v' y z hz hA.1) (fun _ _ _ hb => ⟨hb.1, hb.2.2, trivial⟩)
        · exact PT.mk (t_PG_wire_1_mlt G hNT v y (nI i) hy h.1) (fun v' hA => c_Mo_wire_1_oth G v' y i hi (fun e => by subst e; exact absurd hy (by decide)) (fun e => by subst e; exact absurd hy (by decide)) (fun e => by subst e; exact absurd hy (by decide)) hA.1) (fun _ _ _ hb => ⟨hb.1, hb.2.2, trivial⟩)
      · rcases ixz z with hz | ⟨i, hi, rfl⟩
        · exact PT.mk (t_PG_wire_1_mgt G hNT v y z h1 hy h.1) (fun v' hA => c_Mo_wire_1_neg G v' y z hz hA.1) (fun _ _ _ hb => ⟨hb.1, hb.2.2, trivial⟩)
        · exact PT.mk (t_PG_wire_1_mgt G hNT v y (nI i) h1 hy h.1) (fun v' hA => c_Mo_wire_1_oth G v' y i hi (fun e => by subst e; exact absurd hy (by decide)) (fun e => by subst e; exact absurd hy (by decide)) (fun e => by subst e; exact absurd hy (by decide)) hA.1) (fun _ _ _ hb => ⟨hb.1, hb.2.2, trivial⟩)
      · rcases ixz z with hz | ⟨i, hi, rfl⟩
        · exact PT.mk (t_PG_wire_1_1_neg G hNT v z hz h.1) (fun v' hA => c_Mo_wire_1_neg G v' (nI 1) z hz hA.1) (fun _ _ _ hb => ⟨hb.1, hb.2.2, trivial⟩)
        · exact PT.mk (t_PG_wire_1_1_out G hNT v i hi 0 (h.at (j := 38) (by decide)) ⟨Nat.zero_le _, Nat.zero_le _⟩ h.1) (fun v' hA => c_Mo_wire_1_1_not G v' i hi (h.go hA.2 (j := 97) (by decide) (by decide)) hA.1) (fun _ _ _ hb => ⟨hb.1, hb.2.2, trivial⟩)
      · rcases ixz z with hz | ⟨i, hi, rfl⟩
        · exact PT.mk (t_PG_wire_1_2_neg G hNT v z hz h.1) (fun v' hA => c_Mo_wire_1_neg G v' (nI 2) z hz hA.1) (fun _ _ _ hb => ⟨hb.1, hb.2.2, trivial⟩)
        · exact PT.mk (t_PG_wire_1_2_out G hNT v i hi 0 (h.at (j := 39) (by decide)) ⟨Nat.zero_le _, Nat.zero_le _⟩ h.1) (fun v' hA => c_Mo_wire_1_2_not G v' i hi (h.go hA.2 (j := 101) (by decide) (by decide)) hA.1) (fun _ _ _ hb => ⟨hb.1, hb.2.2, trivial⟩)
      · rcases ixz z with hz | ⟨i, hi, rfl⟩
        · exact PT.mk (t_PG_wire_1_3_neg G hNT v z hz h.1) (fun v' hA => c_Mo_wire_1_neg G v' (nI 3) z hz hA.1) (fun _ _ _ hb => ⟨hb.1, hb.2.2, trivial⟩)
        · exact PT.mk (t_PG_wire_1_3_out G hNT v i hi 0 (h.at (j := 40) (by decide)) ⟨Nat.zero_le _, Nat.zero_le _⟩ h.1) (fun v' hA => c_Mo_wire_1_3_not G v' i hi (h.go hA.2 (j := 105) (by decide) (by decide)) hA.1) (fun _ _ _ hb => ⟨hb.1, hb.2.2, trivial⟩)
    · rcases ixm y with hy | ⟨h1, hy⟩ | rfl | rfl | rfl
      · rcases ixz z with hz | ⟨i, hi, rfl⟩
        · exact PT.mk (t_PG_wire_2_mlt G hNT v y z hy h.1) (fun v' hA => c_Mo_wire_2_neg G v' y z hz hA.1) (fun _ _ _ hb => ⟨hb.1, hb.2.2, trivial⟩)
        · exact PT.mk (t_PG_wire_2_mlt G hNT v y (nI i) hy h.1) (fun v' hA => c_Mo_wire_2_oth G v' y i hi (fun e => by subst e; exact absurd hy (by decide)) (fun e => by subst e; exact absurd hy (by decide)) (fun e => by subst e; exact absurd hy (by decide)) hA.1) (fun _ _ _ hb => ⟨hb.1, hb.2.2, trivial⟩)
      · rcases ixz z with hz | ⟨i, hi, rfl⟩
        · exact PT.mk (t_PG_wire_2_mgt G hNT v y z h1 hy h.1) (fun v' hA => c_Mo_wire_2_neg G v' y z hz hA.1) (fun _ _ _ hb => ⟨hb.1, hb.2.2, trivial⟩)
        · exact PT.mk (t_PG_wire_2_mgt G hNT v y (nI i) h1 hy h.1) (fun v' hA => c_Mo_wire_2_oth G v' y i hi (fun e => by subst e; exact absurd hy (by decide)) (fun e => by subst e; exact absurd hy (by decide)) (fun e => by subst e; exact absurd hy (by decide)) hA.1) (fun _ _ _ hb => ⟨hb.1, hb.2.2, trivial⟩)
      · rcases ixz z with hz | ⟨i, hi, rfl⟩
        · exact PT.mk (t_PG_wire_2_1_neg G hNT v z hz h.1) (fun v' hA => c_Mo_wire_2_neg G v' (nI 1) z hz hA.1) (fun _ _ _ hb => ⟨hb.1, hb.2.2, trivial⟩)
        · exact PT.mk (t_PG_wire_2_1_out G hNT v i hi 0 (h.at (j := 48) (by decide)) ⟨Nat.zero_le _, Nat.zero_le _⟩ h.1) (fun v' hA => c_Mo_wire_2_1_not G v' i hi (h.go hA.2 (j := 98) (by decide) (by decide)) hA.1) (fun _ _ _ hb => ⟨hb.1, hb.2.2, trivial⟩)
      · rcases ixz z with hz | ⟨i, hi, rfl⟩
        · exact PT.mk (t_PG_wire_2_2_neg G hNT v z hz h.1) (fun v' hA => c_Mo_wire_2_neg G v' (nI 2) z hz hA.1) (fun _ _ _ hb => ⟨hb.1, hb.2.2, trivial⟩)
        · exact PT.mk (t_PG_wire_2_2_out G hNT v i hi 0 (h.at (j := 49) (by decide)) ⟨Nat.zero_le _, Nat.zero_le _⟩ h.1) (fun v' hA => c_Mo_wire_2_2_not G v' i hi (h.go hA.2 (j := 102) (by decide) (by decide)) hA.1) (fun _ _ _ hb => ⟨hb.1, hb.2.2, trivial⟩)
      · rcases ixz z with hz | ⟨i, hi, rfl⟩
        · exact PT.mk (t_PG_wire_2_3_neg G hNT v z hz h.1) (fun v' hA => c_Mo_wire_2_neg G v' (nI 3) z hz hA.1) (fun _ _ _ hb => ⟨hb.1, hb.2.2, trivial⟩)
        · exact PT.mk (t_PG_wire_2_3_out G hNT v i hi 0 (h.at (j := 50) (by decide)) ⟨Nat.zero_le _, Nat.zero_le _⟩ h.1) (fun v' hA => c_Mo_wire_2_3_not G v' i hi (h.go hA.2 (j := 106) (by decide) (by decide)) hA.1) (fun _ _ _ hb => ⟨hb.1, hb.2.2, trivial⟩)
    · rcases ixm y with hy | ⟨h1, hy⟩ | rfl | rfl | rfl
      · rcases ixz z with hz | ⟨i, hi, rfl⟩
        · exact PT.mk (t_PG_wire_3_mlt G hNT v y z hy h.1) (fun v' hA => c_Mo_wire_3_neg G v' y z hz hA.1) (fun _ _ _ hb => ⟨hb.1, hb.2.2, trivial⟩)
        · exact PT.mk (t_PG_wire_3_mlt G hNT v y (nI i) hy h.1) (fun v' hA => c_Mo_wire_3_oth G v' y i hi (fun e => by subst e; exact absurd hy (by decide)) (fun e => by subst e; exact absurd hy (by decide)) (fun e => by subst e; exact absurd hy (by decide)) hA.1) (fun _ _ _ hb => ⟨hb.1, hb.2.2, trivial⟩)
      · rcases ixz z with hz | ⟨i, hi, rfl⟩
        · exact PT.mk (t_PG_wire_3_mgt G hNT v y z h1 hy h.1) (fun v' hA => c_Mo_wire_3_neg G v' y z hz hA.1) (fun _ _ _ hb => ⟨hb.1, hb.2.2, trivial⟩)
        · exact PT.mk (t_PG_wire_3_mgt G hNT v y (nI i) h1 hy h.1) (fun v' hA => c_Mo_wire_3_oth G v' y i hi (fun e => by subst e; exact absurd hy (by decide)) (fun e => by subst e; exact absurd hy (by decide)) (fun e => by subst e; exact absurd hy (by decide)) hA.1) (fun _ _ _ hb => ⟨hb.1, hb.2.2, trivial⟩)
      · rcases ixz z with hz | ⟨i, hi, rfl⟩
        · exact PT.mk (t_PG_wire_3_1_neg G hNT v z hz h.1) (fun v' hA => c_Mo_wire_3_neg G v' (nI 1) z hz hA.1) (fun _ _ _ hb => ⟨hb.1, hb.2.2, trivial⟩)
        · exact PT.mk (t_PG_wire_3_1_out G hNT v i hi 0 (h.at (j := 58) (by decide)) ⟨Nat.zero_le _, Nat.zero_le _⟩ h.1) (fun v' hA => c_Mo_wire_3_1_not G v' i hi (h.go hA.2 (j := 99) (by decide) (by decide)) hA.1) (fun _ _ _ hb => ⟨hb.1, hb.2.2, trivial⟩)
      · rcases ixz z with hz | ⟨i, hi, rfl⟩
        · exact PT.mk (t_PG_wire_3_2_neg G hNT v z hz h.1) (fun v' hA => c_Mo_wire_3_neg G v' (nI 2) z hz hA.1) (fun _ _ _ hb => ⟨hb.1, hb.2.2, trivial⟩)
        · exact PT.mk (t_PG_wire_3_2_out G hNT v i hi 0 (h.at (j := 59) (by decide)) ⟨Nat.zero_le _, Nat.zero_le _⟩ h.1) (fun v' hA => c_Mo_wire_3_2_not G v' i hi (h.go hA.2 (j := 103) (by decide) (by decide)) hA.1) (fun _ _ _ hb => ⟨hb.1, hb.2.2, trivial⟩)
      · rcases ixz z with hz | ⟨i, hi, rfl⟩
        · exact PT.mk (t_PG_wire_3_3_neg G hNT v z hz h.1) (fun v' hA => c_Mo_wire_3_neg G v' (nI 3) z hz hA.1) (fun _ _ _ hb => ⟨hb.1, hb.2.2, trivial⟩)
        · exact PT.mk (t_PG_wire_3_3_out G hNT v i hi 0 (h.at (j := 60) (by decide)) ⟨Nat.zero_le _, Nat.zero_le _⟩ h.1) (fun v' hA => c_Mo_wire_3_3_not G v' i hi (h.go hA.2 (j := 107) (by decide) (by decide)) hA.1) (fun _ _ _ hb => ⟨hb.1, hb.2.2, trivial⟩)
theorem fp_result (G : GX) (hNT : G.1.stackTraces = false) {v : Nat → Int32} (h : FR v) (x : Int32) : PT G mt_PG_result mi_Mo_result [.int x] v (fun _ => True) := by
  rcases ixz x with hx | ⟨i, hi, rfl⟩
  · exact PT.mk (t_PG_result_neg G hNT v x hx h.1) (fun v' hA => c_Mo_result_neg G v' x hx hA.1) (fun _ _ _ hb => ⟨hb.1, hb.2.2, trivial⟩)
  · exact PT.mk (t_PG_result_out G hNT v i hi 0 (h.at (j := 65) (by decide)) ⟨Nat.zero_le _, Nat.zero_le _⟩ h.1) (fun v' hA => c_Mo_result_out G v' i hi 0 (h.go hA.2 (j := 74) (by decide) (by decide)) ⟨Nat.zero_le _, Nat.zero_le _⟩ hA.1) (fun _ _ _ hb => ⟨hb.1, hb.2.2.2, trivial⟩)
theorem fp_key (G : GX) (hNT : G.1.stackTraces = false) {v : Nat → Int32} (h : FR v) (x : Int32) (y : Int32) (z : Int32) : PT G mt_PG_key mi_Mo_key [.int x, .int y, .int z] v (fun _ => True) := by
  rcases ix3 x (n := 4) (by decide) with hx | ⟨h0, hx⟩ | ⟨s, hs, rfl⟩
  · exact PT.mk (t_PG_key_sneg G hNT v x y z hx h.1) (fun v' hA => c_Mo_key_sneg G v' x y z hx hA.1) (fun _ _ _ hb => ⟨hb.1, hb.2.2, trivial⟩)
  · exact PT.mk (t_PG_key_sbig G hNT v x y z h0 hx h.1) (fun v' hA => c_Mo_key_sbig G v' x y z h0 hx hA.1) (fun _ _ _ hb => ⟨hb.1, hb.2.2, trivial⟩)
  · have h4 : s = 0 ∨ s = 1 ∨ s = 2 ∨ s = 3 := by omega
    rcases h4 with rfl | rfl | rfl | rfl
    · rcases ix3 y (n := 3) (by decide) with hy | ⟨h1, hy⟩ | ⟨q, hq, rfl⟩
      · rcases ixz z with hz | ⟨i, hi, rfl⟩
        · exact PT.mk (t_PG_key_0_lt G hNT v y z hy h.1) (fun v' hA => c_Mo_key_0_neg G v' y z hz hA.1) (fun _ _ _ hb => ⟨hb.1, hb.2.2, trivial⟩)
        · by_cases h64 : 64 ≤ i
          · exact PT.mk (t_PG_key_0_lt G hNT v y (nI i) hy h.1) (fun v' hA => c_Mo_key_0_far G v' y i hi h64 hA.1) (fun _ _ _ hb => ⟨hb.1, hb.2.2, trivial⟩)
          · exact PT.mk (t_PG_key_0_lt G hNT v y (nI i) hy h.1) (fun v' hA => c_Mo_key_0_lt G v' y i (by omega) hy hA.1) (fun _ _ _ hb => ⟨hb.1, hb.2.2, trivial⟩)
      · rcases ixz z with hz | ⟨i, hi, rfl⟩
        · exact PT.mk (t_PG_key_0_gt G hNT v y z h1 (Int32.lt_of_lt_of_le (show nI 2 < nI 3 by decide) hy) h.1) (fun v' hA => c_Mo_key_0_neg G v' y z hz hA.1) (fun _ _ _ hb => ⟨hb.1, hb.2.2, trivial⟩)
        · by_cases h64 : 64 ≤ i
          · exact PT.mk (t_PG_key_0_gt G hNT v y (nI i) h1 (Int32.lt_of_lt_of_le (show nI 2 < nI 3 by decide) hy) h.1) (fun v' hA => c_Mo_key_0_far G v' y i hi h64 hA.1) (fun _ _ _ hb => ⟨hb.1, hb.2.2, trivial⟩)
          · exact PT.mk (t_PG_key_0_gt G hNT v y (nI i) h1 (Int32.lt_of_lt_of_le (show nI 2 < nI 3 by decide) hy) h.1) (fun v' hA => c_Mo_key_0_gt G v' y i (by omega) h1 hy hA.1) (fun _ _ _ hb => ⟨hb.1, hb.2.2, trivial⟩)
      · have h3 : q = 0 ∨ q = 1 ∨ q = 2 := by omega
        rcases h3 with rfl | rfl | rfl
        · rcases ixz z with hz | ⟨i, hi, rfl⟩
          · exact PT.mk (t_PG_key_0_0_neg G hNT v z hz h.1) (fun v' hA => c_Mo_key_0_neg G v' (nI 0) z hz hA.1) (fun _ _ _ hb => ⟨hb.1, hb.2.2, trivial⟩)
          · by_cases h64 : 64 ≤ i
            · exact PT.mk (t_PG_key_0_0_out G hNT v i hi 0 (h.at (j := 31) (by decide)) ⟨Nat.zero_le _, Nat.zero_le _⟩ h.1) (fun v' hA => c_Mo_key_0_far G v' (nI 0) i hi h64 hA.1) (fun _ _ _ hb => ⟨hb.1, hb.2.2, trivial⟩)
            · exact PT.mk (t_PG_key_0_0_out G hNT v i hi 0 (h.at (j := 31) (by decide)) ⟨Nat.zero_le _, Nat.zero_le _⟩ h.1) (fun v' hA => c_Mo_key_0_0_not G v' i (by omega) (h.go hA.2 (j := 120) (by decide) (by decide)) hA.1) (fun _ _ _ hb => ⟨hb.1, hb.2.2, trivial⟩)
        · rcases ixz z with hz | ⟨i, hi, rfl⟩
          · exact PT.mk (t_PG_key_0_1_neg G hNT v z hz h.1) (fun v' hA => c_Mo_key_0_neg G v' (nI 1) z hz hA.1) (fun _ _ _ hb => ⟨hb.1, hb.2.2, trivial⟩)
          · by_cases h64 : 64 ≤ i
            · exact PT.mk (t_PG_key_0_1_out G hNT v i hi 0 (h.at (j := 32) (by decide)) ⟨Nat.zero_le _, Nat.zero_le _⟩ h.1) (fun v' hA => c_Mo_key_0_far G v' (nI 1) i hi h64 hA.1) (fun _ _ _ hb => ⟨hb.1, hb.2.2, trivial⟩)
            · exact PT.mk (t_PG_key_0_1_out G hNT v i hi 0 (h.at (j := 32) (by decide)) ⟨Nat.zero_le _, Nat.zero_le _⟩ h.1) (fun v' hA => c_Mo_key_0_1_not G v' i (by omega) (h.go hA.2 (j := 124) (by decide) (by decide)) hA.1) (fun _ _ _ hb => ⟨hb.1, hb.2.2, trivial⟩)
        · rcases ixz z with hz | ⟨i, hi, rfl⟩
          · exact PT.mk (t_PG_key_0_2_neg G hNT v z hz h.1) (fun v' hA => c_Mo_key_0_neg G v' (nI 2) z hz hA.1) (fun _ _ _ hb => ⟨hb.1, hb.2.2, trivial⟩)
          · by_cases h64 : 64 ≤ i
            · exact PT.mk (t_PG_key_0_2_out G hNT v i hi 0 (h.at (j := 33) (by decide)) ⟨Nat.zero_le _, Nat.zero_le _⟩ h.1) (fun v' hA => c_Mo_key_0_far G v' (nI 2) i hi h64 hA.1) (fun _ _ _ hb => ⟨hb.1, hb.2.2, trivial⟩)
            · exact PT.mk (t_PG_key_0_2_out G hNT v i hi 0 (h.at (j := 33) (by decide)) ⟨Nat.zero_le _, Nat.zero_le _⟩ h.1) (fun v' hA => c_Mo_key_0_2_not G v' i (by omega) (h.go hA.2 (j := 120) (by decide) (by decide)) hA.1) (fun _ _ _ hb => ⟨hb.1, hb.2.2, trivial⟩)
    · rcases ix3 y (n := 3) (by decide) with hy | ⟨h1, hy⟩ | ⟨q, hq, rfl⟩
      · rcases ixz z with hz | ⟨i, hi, rfl⟩
        · exact PT.mk (t_PG_key_1_lt G hNT v y z hy h.1) (fun v' hA => c_Mo_key_1_neg G v' y z hz hA.1) (fun _ _ _ hb => ⟨hb.1, hb.2.2, trivial⟩)
        · by_cases h64 : 64 ≤ i
          · exact PT.mk (t_PG_key_1_lt G hNT v y (nI i) hy h.1) (fun v' hA => c_Mo_key_1_far G v' y i hi h64 hA.1) (fun _ _ _ hb => ⟨hb.1, hb.2.2, trivial⟩)
          · exact PT.mk (t_PG_key_1_lt G hNT v y (nI i) hy h.1) (fun v' hA => c_Mo_key_1_lt G v' y i (by omega) hy hA.1) (fun _ _ _ hb => ⟨hb.1, hb.2.2, trivial⟩)
      · rcases ixz z with hz | ⟨i, hi, rfl⟩
        · exact PT.mk (t_PG_key_1_gt G hNT v y z h1 (Int32.lt_of_lt_of_le (show nI 2 < nI 3 by decide) hy) h.1) (fun v' hA => c_Mo_key_1_neg G v' y z hz hA.1) (fun _ _ _ hb => ⟨hb.1, hb.2.2, trivial⟩)
        · by_cases h64 : 64 ≤ i
          · exact PT.mk (t_PG_key_1_gt G hNT v y (nI i) h1 (Int32.lt_of_lt_of_le (show nI 2 < nI 3 by decide) hy) h.1) (fun v' hA => c_Mo_key_1_far G v' y i hi h64 hA.1) (fun _ _ _ hb => ⟨hb.1, hb.2.2, trivial⟩)
          · exact PT.mk (t_PG_key_1_gt G hNT v y (nI i) h1 (Int32.lt_of_lt_of_le (show nI 2 < nI 3 by decide) hy) h.1) (fun v' hA => c_Mo_key_1_gt G v' y i (by omega) h1 hy hA.1) (fun _ _ _ hb => ⟨hb.1, hb.2.2, trivial⟩)
      · have h3 : q = 0 ∨ q = 1 ∨ q = 2 := by omega
        rcases h3 with rfl | rfl | rfl
        · rcases ixz z with hz | ⟨i, hi, rfl⟩
          · exact PT.mk (t_PG_key_1_0_neg G hNT v z hz h.1) (fun v' hA => c_Mo_key_1_neg G v' (nI 0) z hz hA.1) (fun _ _ _ hb => ⟨hb.1, hb.2.2, trivial⟩)
          · by_cases h64 : 64 ≤ i
            · exact PT.mk (t_PG_key_1_0_out G hNT v i hi 0 (h.at (j := 41) (by decide)) ⟨Nat.zero_le _, Nat.zero_le _⟩ h.1) (fun v' hA => c_Mo_key_1_far G v' (nI 0) i hi h64 hA.1) (fun _ _ _ hb => ⟨hb.1, hb.2.2, trivial⟩)
            · exact PT.mk (t_PG_key_1_0_out G hNT v i hi 0 (h.at (j := 41) (by decide)) ⟨Nat.zero_le _, Nat.zero_le _⟩ h.1) (fun v' hA => c_Mo_key_1_0_not G v' i (by omega) (h.go hA.2 (j := 121) (by decide) (by decide)) hA.1) (fun _ _ _ hb => ⟨hb.1, hb.2.2, trivial⟩)
        · rcases ixz z with hz | ⟨i, hi, rfl⟩
          · exact PT.mk (t_PG_key_1_1_neg G hNT v z hz h.1) (fun v' hA => c_Mo_key_1_neg G v' (nI 1) z hz hA.1) (fun _ _ _ hb => ⟨hb.1, hb.2.2, trivial⟩)
          · by_cases h64 : 64 ≤ i
            · exact PT.mk (t_PG_key_1_1_out G hNT v i hi 0 (h.at (j := 42) (by decide)) ⟨Nat.zero_le _, Nat.zero_le _⟩ h.1) (fun v' hA => c_Mo_key_1_far G v' (nI 1) i hi h64 hA.1) (fun _ _ _ hb => ⟨hb.1, hb.2.2, trivial⟩)
            · exact PT.mk (t_PG_key_1_1_out G hNT v i hi 0 (h.at (j := 42) (by decide)) ⟨Nat.zero_le _, Nat.zero_le _⟩ h.1) (fun v' hA => c_Mo_key_1_1_not G v' i (by omega) (h.go hA.2 (j := 125) (by decide) (by decide)) hA.1) (fun _ _ _ hb => ⟨hb.1, hb.2.2, trivial⟩)
        · rcases ixz z with hz | ⟨i, hi, rfl⟩
          · exact PT.mk (t_PG_key_1_2_neg G hNT v z hz h.1) (fun v' hA => c_Mo_key_1_neg G v' (nI 2) z hz hA.1) (fun _ _ _ hb => ⟨hb.1, hb.2.2, trivial⟩)
          · by_cases h64 : 64 ≤ i
            · exact PT.mk (t_PG_key_1_2_out G hNT v i hi 0 (h.at (j := 43) (by decide)) ⟨Nat.zero_le _, Nat.zero_le _⟩ h.1) (fun v' hA => c_Mo_key_1_far G v' (nI 2) i hi h64 hA.1) (fun _ _ _ hb => ⟨hb.1, hb.2.2, trivial⟩)
            · exact PT.mk (t_PG_key_1_2_out G hNT v i hi 0 (h.at (j := 43) (by decide)) ⟨Nat.zero_le _, Nat.zero_le _⟩ h.1) (fun v' hA => c_Mo_key_1_2_not G v' i (by omega) (h.go hA.2 (j := 121) (by decide) (by decide)) hA.1) (fun _ _ _ hb => ⟨hb.1, hb.2.2, trivial⟩)
    · rcases ix3 y (n := 3) (by decide) with hy | ⟨h1, hy⟩ | ⟨q, hq, rfl⟩
      · rcases ixz z with hz | ⟨i, hi, rfl⟩
        · exact PT.mk (t_PG_key_2_lt G hNT v y z hy h.1) (fun v' hA => c_Mo_key_2_neg G v' y z hz hA.1) (fun _ _ _ hb => ⟨hb.1, hb.2.2, trivial⟩)
        · by_cases h64 : 64 ≤ i
          · exact PT.mk (t_PG_key_2_lt G hNT v y (nI i) hy h.1) (fun v' hA => c_Mo_key_2_far G v' y i hi h64 hA.1) (fun _ _ _ hb => ⟨hb.1, hb.2.2, trivial⟩)
          · exact PT.mk (t_PG_key_2_lt G hNT v y (nI i) hy h.1) (fun v' hA => c_Mo_key_2_lt G v' y i (by omega) hy hA.1) (fun _ _ _ hb => ⟨hb.1, hb.2.2, trivial⟩)
      · rcases ixz z with hz | ⟨i, hi, rfl⟩
        · exact PT.mk (t_PG_key_2_gt G hNT v y z h1 (Int32.lt_of_lt_of_le (show nI 2 < nI 3 by decide) hy) h.1) (fun v' hA => c_Mo_key_2_neg G v' y z hz hA.1) (fun _ _ _ hb => ⟨hb.1, hb.2.2, trivial⟩)
        · by_cases h64 : 64 ≤ i
          · exact PT.mk (t_PG_key_2_gt G hNT v y (nI i) h1 (Int32.lt_of_lt_of_le (show nI 2 < nI 3 by decide) hy) h.1) (fun v' hA => c_Mo_key_2_far G v' y i hi h64 hA.1) (fun _ _ _ hb => ⟨hb.1, hb.2.2, trivial⟩)
          · exact PT.mk (t_PG_key_2_gt G hNT v y (nI i) h1 (Int32.lt_of_lt_of_le (show nI 2 < nI 3 by decide) hy) h.1) (fun v' hA => c_Mo_key_2_gt G v' y i (by omega) h1 hy hA.1) (fun _ _ _ hb => ⟨hb.1, hb.2.2, trivial⟩)
      · have h3 : q = 0 ∨ q = 1 ∨ q = 2 := by omega
        rcases h3 with rfl | rfl | rfl
        · rcases ixz z with hz | ⟨i, hi, rfl⟩
          · exact PT.mk (t_PG_key_2_0_neg G hNT v z hz h.1) (fun v' hA => c_Mo_key_2_neg G v' (nI 0) z hz hA.1) (fun _ _ _ hb => ⟨hb.1, hb.2.2, trivial⟩)
          · by_cases h64 : 64 ≤ i
            · exact PT.mk (t_PG_key_2_0_out G hNT v i hi 0 (h.at (j := 51) (by decide)) ⟨Nat.zero_le _, Nat.zero_le _⟩ h.1) (fun v' hA => c_Mo_key_2_far G v' (nI 0) i hi h64 hA.1) (fun _ _ _ hb => ⟨hb.1, hb.2.2, trivial⟩)
            · exact PT.mk (t_PG_key_2_0_out G hNT v i hi 0 (h.at (j := 51) (by decide)) ⟨Nat.zero_le _, Nat.zero_le _⟩ h.1) (fun v' hA => c_Mo_key_2_0_not G v' i (by omega) (h.go hA.2 (j := 122) (by decide) (by decide)) hA.1) (fun _ _ _ hb => ⟨hb.1, hb.2.2, trivial⟩)
        · rcases ixz z with hz | ⟨i, hi, rfl⟩
          · exact PT.mk (t_PG_key_2_1_neg G hNT v z hz h.1) (fun v' hA => c_Mo_key_2_neg G v' (nI 1) z hz hA.1) (fun _ _ _ hb => ⟨hb.1, hb.2.2, trivial⟩)
          · by_cases h64 : 64 ≤ i
            · exact PT.mk (t_PG_key_2_1_out G hNT v i hi 0 (h.at (j := 52) (by decide)) ⟨Nat.zero_le _, Nat.zero_le _⟩ h.1) (fun v' hA => c_Mo_key_2_far G v' (nI 1) i hi h64 hA.1) (fun _ _ _ hb => ⟨hb.1, hb.2.2, trivial⟩)
            · exact PT.mk (t_PG_key_2_1_out G hNT v i hi 0 (h.at (j := 52) (by decide)) ⟨Nat.zero_le _, Nat.zero_le _⟩ h.1) (fun v' hA => c_Mo_key_2_1_not G v' i (by omega) (h.go hA.2 (j := 126) (by decide) (by decide)) hA.1) (fun _ _ _ hb => ⟨hb.1, hb.2.2, trivial⟩)
        · rcases ixz z with hz | ⟨i, hi, rfl⟩
          · exact PT.mk (t_PG_key_2_2_neg G hNT v z hz h.1) (fun v' hA => c_Mo_key_2_neg G v' (nI 2) z hz hA.1) (fun _ _ _ hb => ⟨hb.1, hb.2.2, trivial⟩)
          · by_cases h64 : 64 ≤ i
            · exact PT.mk (t_PG_key_2_2_out G hNT v i hi 0 (h.at (j := 53) (by decide)) ⟨Nat.zero_le _, Nat.zero_le _⟩ h.1) (fun v' hA => c_Mo_key_2_far G v' (nI 2) i hi h64 hA.1) (fun _ _ _ hb => ⟨hb.1, hb.2.2, trivial⟩)
            · exact PT.mk (t_PG_key_2_2_out G hNT v i hi 0 (h.at (j := 53) (by decide)) ⟨Nat.zero_le _, Nat.zero_le _⟩ h.1) (fun v' hA => c_Mo_key_2_2_not G v' i (by omega) (h.go hA.2 (j := 122) (by decide) (by decide)) hA.1) (fun _ _ _ hb => ⟨hb.1, hb.2.2, trivial⟩)
    · rcases ix3 y (n := 3) (by decide) with hy | ⟨h1, hy⟩ | ⟨q, hq, rfl⟩
      · rcases ixz z with hz | ⟨i, hi, rfl⟩
        · exact PT.mk (t_PG_key_3_lt G hNT v y z hy h.1) (fun v' hA => c_Mo_key_3_neg G v' y z hz hA.1) (fun _ _ _ hb => ⟨hb.1, hb.2.2, trivial⟩)
        · by_cases h64 : 64 ≤ i
          · exact PT.mk (t_PG_key_3_lt G hNT v y (nI i) hy h.1) (fun v' hA => c_Mo_key_3_far G v' y i hi h64 hA.1) (fun _ _ _ hb => ⟨hb.1, hb.2.2, trivial⟩)
          · exact PT.mk (t_PG_key_3_lt G hNT v y (nI i) hy h.1) (fun v' hA => c_Mo_key_3_lt G v' y i (by omega) hy hA.1) (fun _ _ _ hb => ⟨hb.1, hb.2.2, trivial⟩)
      · rcases ixz z with hz | ⟨i, hi, rfl⟩
        · exact PT.mk (t_PG_key_3_gt G hNT v y z h1 (Int32.lt_of_lt_of_le (show nI 2 < nI 3 by decide) hy) h.1) (fun v' hA => c_Mo_key_3_neg G v' y z hz hA.1) (fun _ _ _ hb => ⟨hb.1, hb.2.2, trivial⟩)
        · by_cases h64 : 64 ≤ i
          · exact PT.mk (t_PG_key_3_gt G hNT v y (nI i) h1 (Int32.lt_of_lt_of_le (show nI 2 < nI 3 by decide) hy) h.1) (fun v' hA => c_Mo_key_3_far G v' y i hi h64 hA.1) (fun _ _ _ hb => ⟨hb.1, hb.2.2, trivial⟩)
          · exact PT.mk (t_PG_key_3_gt G hNT v y (nI i) h1 (Int32.lt_of_lt_of_le (show nI 2 < nI 3 by decide) hy) h.1) (fun v' hA => c_Mo_key_3_gt G v' y i (by omega) h1 hy hA.1) (fun _ _ _ hb => ⟨hb.1, hb.2.2, trivial⟩)
      · have h3 : q = 0 ∨ q = 1 ∨ q = 2 := by omega
        rcases h3 with rfl | rfl | rfl
        · rcases ixz z with hz | ⟨i, hi, rfl⟩
          · exact PT.mk (t_PG_key_3_0_neg G hNT v z hz h.1) (fun v' hA => c_Mo_key_3_neg G v' (nI 0) z hz hA.1) (fun _ _ _ hb => ⟨hb.1, hb.2.2, trivial⟩)
          · by_cases h64 : 64 ≤ i
            · exact PT.mk (t_PG_key_3_0_out G hNT v i hi 0 (h.at (j := 61) (by decide)) ⟨Nat.zero_le _, Nat.zero_le _⟩ h.1) (fun v' hA => c_Mo_key_3_far G v' (nI 0) i hi h64 hA.1) (fun _ _ _ hb => ⟨hb.1, hb.2.2, trivial⟩)
            · exact PT.mk (t_PG_key_3_0_out G hNT v i hi 0 (h.at (j := 61) (by decide)) ⟨Nat.zero_le _, Nat.zero_le _⟩ h.1) (fun v' hA => c_Mo_key_3_0_not G v' i (by omega) (h.go hA.2 (j := 123) (by decide) (by decide)) hA.1) (fun _ _ _ hb => ⟨hb.1, hb.2.2, trivial⟩)
        · rcases ixz z with hz | ⟨i, hi, rfl⟩
          · exact PT.mk (t_PG_key_3_1_neg G hNT v z hz h.1) (fun v' hA => c_Mo_key_3_neg G v' (nI 1) z hz hA.1) (fun _ _ _ hb => ⟨hb.1, hb.2.2, trivial⟩)
          · by_cases h64 : 64 ≤ i
            · exact PT.mk (t_PG_key_3_1_out G hNT v i hi 0 (h.at (j := 62) (by decide)) ⟨Nat.zero_le _, Nat.zero_le _⟩ h.1) (fun v' hA => c_Mo_key_3_far G v' (nI 1) i hi h64 hA.1) (fun _ _ _ hb => ⟨hb.1, hb.2.2, trivial⟩)
            · exact PT.mk (t_PG_key_3_1_out G hNT v i hi 0 (h.at (j := 62) (by decide)) ⟨Nat.zero_le _, Nat.zero_le _⟩ h.1) (fun v' hA => c_Mo_key_3_1_not G v' i (by omega) (h.go hA.2 (j := 127) (by decide) (by decide)) hA.1) (fun _ _ _ hb => ⟨hb.1, hb.2.2, trivial⟩)
        · rcases ixz z with hz | ⟨i, hi, rfl⟩
          · exact PT.mk (t_PG_key_3_2_neg G hNT v z hz h.1) (fun v' hA => c_Mo_key_3_neg G v' (nI 2) z hz hA.1) (fun _ _ _ hb => ⟨hb.1, hb.2.2, trivial⟩)
          · by_cases h64 : 64 ≤ i
            · exact PT.mk (t_PG_key_3_2_out G hNT v i hi 0 (h.at (j := 63) (by decide)) ⟨Nat.zero_le _, Nat.zero_le _⟩ h.1) (fun v' hA => c_Mo_key_3_far G v' (nI 2) i hi h64 hA.1) (fun _ _ _ hb => ⟨hb.1, hb.2.2, trivial⟩)
            · exact PT.mk (t_PG_key_3_2_out G hNT v i hi 0 (h.at (j := 63) (by decide)) ⟨Nat.zero_le _, Nat.zero_le _⟩ h.1) (fun v' hA => c_Mo_key_3_2_not G v' i (by omega) (h.go hA.2 (j := 123) (by decide) (by decide)) hA.1) (fun _ _ _ hb => ⟨hb.1, hb.2.2, trivial⟩)
