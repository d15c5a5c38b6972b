/-! Lengths of byte rows, and which of the numbers a method may change. -/
def BLs : List (Nat × Nat) := [(2, 400), (3, 200), (4, 32), (5, 32), (6, 400), (7, 150), (8, 500), (9, 96), (10, 64), (11, 192), (12, 128), (13, 32), (14, 20), (15, 32), (16, 192), (17, 192), (18, 192), (19, 192), (20, 192), (21, 192), (22, 192), (23, 192), (25, 200), (26, 96), (27, 128), (28, 96), (29, 320), (30, 64), (31, 64), (32, 64), (33, 64), (35, 200), (36, 96), (37, 128), (38, 96), (39, 320), (40, 64), (41, 64), (42, 64), (43, 64), (45, 200), (46, 96), (47, 128), (48, 96), (49, 320), (50, 64), (51, 64), (52, 64), (53, 64), (55, 200), (56, 96), (57, 128), (58, 96), (59, 320), (60, 64), (61, 64), (62, 64), (63, 64), (64, 200), (65, 64), (24, 7), (34, 7), (44, 7), (54, 7), (67, 4000), (68, 2000), (69, 400), (70, 100), (73, 200), (74, 64), (75, 500), (88, 7), (89, 7), (90, 7), (91, 7), (92, 200), (93, 200), (94, 200), (95, 200)]
def okv (v : Nat → Int32) : Prop := ∀ q ∈ BLs, ∃ k, k ≤ q.2 ∧ v q.1 = nI k
theorem BLs_one : ∀ p ∈ BLs, ∀ q ∈ BLs, p.1 = q.1 → p.2 = q.2 := by decide +kernel
theorem okv.up {v : Nat → Int32} {j c k : Nat} (h : okv v) (hm : (j, c) ∈ BLs) (hk : k ≤ c) : okv (va_up v j (nI k)) := by
  intro q hq
  by_cases e : q.1 = j
  · refine ⟨k, ?_, by simp [va_up, e]⟩
    have := BLs_one q hq (j, c) hm e
    omega
  · obtain ⟨k', h1, h2⟩ := h q hq
    exact ⟨k', h1, by simp [va_up, e]; exact h2⟩
theorem okv.off {v : Nat → Int32} {j : Nat} {x : Int32} (h : okv v) (hm : ∀ q ∈ BLs, q.1 ≠ j) : okv (va_up v j x) := by
  intro q hq
  obtain ⟨k', h1, h2⟩ := h q hq
  exact ⟨k', h1, by simp [va_up, hm q hq]; exact h2⟩
theorem okv.get {v : Nat → Int32} {j c : Nat} (h : okv v) (hm : (j, c) ∈ BLs) : ∃ k, k ≤ c ∧ v j = nI k := h (j, c) hm
def mdf (J : List Nat) (v v' : Nat → Int32) : Prop := ∀ i, i ∉ J → v' i = v i
theorem mdf.rf {J : List Nat} {v : Nat → Int32} : mdf J v v := fun _ _ => rfl
theorem mdf.tr {J1 J2 J : List Nat} {v u w : Nat → Int32} (h1 : mdf J1 v u) (h2 : mdf J2 u w) (s1 : ∀ i ∈ J1, i ∈ J) (s2 : ∀ i ∈ J2, i ∈ J) : mdf J v w := fun i hi => (h2 i (fun h => hi (s2 i h))).trans (h1 i (fun h => hi (s1 i h)))
theorem mdf.go {J J2 : List Nat} {v u w : Nat → Int32} (h1 : mdf J v u) (h2 : mdf J2 u w) (s2 : ∀ i ∈ J2, i ∈ J) : mdf J v w := h1.tr h2 (fun _ h => h) s2
theorem mdf.up {v : Nat → Int32} {j : Nat} {x : Int32} : mdf [j] v (va_up v j x) := fun i hi => by
  have : i ≠ j := fun e => hi (by rw [e]; exact List.mem_singleton.mpr rfl)
  simp [va_up, this]
/-- a row of bytes: the object, its bytes, its room, the number that is its length -/
def isBy (b d c j : Nat) : Prop := (∀ v, (WS v)[b]? = some (.inr (4, [.ref d, .int (v j)]))) ∧ aB d c ∧ K0 ≤ d ∧ (∀ v x, (WS v).set b (.inr (4, [.ref d, .int x])) = WS (va_up v j x)) ∧ (j, c) ∈ BLs ∧ c ≤ 1000
def isPt (p x y z t : Nat) : Prop := (∀ v, (WS v)[p]? = some (.inr (7, [.ref x, .ref y, .ref z, .ref t]))) ∧ aL x 10 ∧ aL y 10 ∧ aL z 10 ∧ aL t 10 ∧ K0 ≤ x ∧ K0 ≤ y ∧ K0 ≤ z ∧ K0 ≤ t
theorem nar_z {z : Nat} (h : z ≤ 1) : narrow .boolean (.int (nI z)) = .int (nI z) := by
  have : z = 0 ∨ z = 1 := by omega
  rcases this with rfl | rfl <;> rfl
section S2
variable {G : GX} {mi : MI} {pc : Nat} {L : List (Nat × Value)} {st : List Value} {v : Nat → Int32} {kc ks : Nat} {Q : Option Value → (Nat → Int32) → Prop}
theorem S_copyB {idx a0 a n0 n1 sp dp n : Nat} (hd : decode (mC mi) pc = .ok (.invokestatic idx, 3)) (hl : Cond.methodLink (mY mi).cls idx arraycopyName ∈ gtb) (ha0 : K0 ≤ a0) (ha : K0 ≤ a) (h0 : aB a0 n0) (h1 : aB a n1) (e1 : sp < 2 ^ 31) (e2 : dp < 2 ^ 31) (e3 : n < 2 ^ 31) (e4 : sp + n ≤ n0) (e5 : dp + n ≤ n1) (hf : 1 ≤ (mRm mi).frames) (hlo : (st.map fun v => v.category).sum + 18 ≤ (mRm mi).locals) (kk : ST G mi (pc + 3) L st v kc ks Q) : ST G mi pc L (.int (nI n) :: .int (nI dp) :: .ref a :: .int (nI sp) :: .ref a0 :: st) v kc ks Q := by
  intro X M1 h
  obtain ⟨x, h2, h3, -⟩ := h.at (h0.2 v) X
  obtain ⟨f, rfl⟩ := skI_ints h3
  obtain ⟨y, h4, h5, h6⟩ := h.at (h1.2 v) X
  obtain ⟨g, rfl⟩ := skI_ints h5
  have hs := fun e (he : sk e = _) => h.set (e := e) X h6 (by rw [skI_off h1.1, he]; exact WS_same (h1.2 v))
  exact T_copyB hd hl ha0 ha h2 h4 (nI_pos e1) (nI_pos e2) (nI_pos e3) (by rw [nI_clamp e1, nI_clamp e3]; exact e4) (by rw [nI_clamp e2, nI_clamp e3]; exact e5) hf hlo (hs _ rfl).1 (kk X _ (hs _ rfl).2)
theorem S_copyL {idx a0 a n0 n1 sp dp n : Nat} (hd : decode (mC mi) pc = .ok (.invokestatic idx, 3)) (hl : Cond.methodLink (mY mi).cls idx arraycopyName ∈ gtb) (ha : K0 ≤ a) (h0 : aL a0 n0) (h1 : aL a n1) (e1 : sp < 2 ^ 31) (e2 : dp < 2 ^ 31) (e3 : n < 2 ^ 31) (e4 : sp + n ≤ n0) (e5 : dp + n ≤ n1) (hf : 1 ≤ (mRm mi).frames) (hlo : (st.map fun v => v.category).sum + 18 ≤ (mRm mi).locals) (kk : ST G mi (pc + 3) L st v kc ks Q) : ST G mi pc L (.int (nI n) :: .int (nI dp) :: .ref a :: .int (nI sp) :: .ref a0 :: st) v kc ks Q := by
  intro X M1 h
  obtain ⟨x, h2, h3, -⟩ := h.at (h0.2 v) X
  obtain ⟨f, rfl⟩ := skI_long h3
  obtain ⟨y, h4, h5, h6⟩ := h.at (h1.2 v) X
  obtain ⟨g, rfl⟩ := skI_long h5
  have hs := fun e (he : sk e = _) => h.set (e := e) X h6 (by rw [skI_off h1.1, he]; exact WS_same (h1.2 v))
  by_cases ha0 : K0 ≤ a0
  · exact T_copyL hd hl ha0 ha h2 h4 (nI_pos e1) (nI_pos e2) (nI_pos e3) (by rw [nI_clamp e1, nI_clamp e3]; exact e4) (by rw [nI_clamp e2, nI_clamp e3]; exact e5) hf hlo (hs _ rfl).1 (kk X _ (hs _ rfl).2)
  · exact T_copyF hd hl ha0 ha h2 h4 (nI_pos e1) (nI_pos e2) (nI_pos e3) (by rw [nI_clamp e1, nI_clamp e3]; exact e4) (by rw [nI_clamp e2, nI_clamp e3]; exact e5) hf hlo (hs _ rfl).1 (kk X _ (hs _ rfl).2)
end S2
