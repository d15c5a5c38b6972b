def tabF : Nat → Option Nat := fun j => [some 103, some 108, some 113, some 118, some 123, some 128, some 133, some 138, some 143, some 148, some 153, some 158, some 163, some 168, some 173, some 178].getD j none
theorem tab_at : ∀ k, k < 16 → tabF k = some (103 + 5 * k) := by decide
abbrev PQg (M : List va_E) (g : Nat) : Prop := PQ M (103 + 5 * g) (104 + 5 * g) (105 + 5 * g) (106 + 5 * g) (107 + 5 * g)
abbrev PCg (M : List va_E) (g : Nat) (P : Fp × Fp) : Prop := PC M (103 + 5 * g) (104 + 5 * g) (105 + 5 * g) (106 + 5 * g) (107 + 5 * g) P
theorem tabG : ∀ k, k < 16 → ∀ w ∈ [103 + 5 * k, 104 + 5 * k, 105 + 5 * k, 106 + 5 * k, 107 + 5 * k], ∀ z ∈ (77 :: 78 :: cuR), w ≠ z := by decide +kernel
def AG (M : List va_E) : Prop := (∃ k, M[92]? = some (byO 93 k)) ∧ ∃ D, M[93]? = some (br 32 D)
theorem AG.kp {M M' : List va_E} {W : List Nat} (h : AG M) (s : Kp W M M') (h1 : 92 ∉ W) (h2 : 93 ∉ W) : AG M' := by
  obtain ⟨⟨k, a⟩, D, b⟩ := h
  exact ⟨⟨k, (s _ h1).trans a⟩, D, (s _ h2).trans b⟩
def CU (M : List va_E) : Prop := CS1 M ∧ M[86]? = some (rr 4 16 tabF) ∧ (∀ g, g < 16 → PQg M g) ∧ PQ M 87 88 89 90 91 ∧ AG M
abbrev cuW : List Nat := [77, 78, 79, 80, 81, 82, 83, 84, 85, 86, 87, 88, 89, 90, 91, 92, 93, 94, 95, 96, 97, 98, 99, 100, 101, 102, 103, 104, 105, 106, 107, 108, 109, 110, 111, 112, 113, 114, 115, 116, 117, 118, 119, 120, 121, 122, 123, 124, 125, 126, 127, 128, 129, 130, 131, 132, 133, 134, 135, 136, 137, 138, 139, 140, 141, 142, 143, 144, 145, 146, 147, 148, 149, 150, 151, 152, 153, 154, 155, 156, 157, 158, 159, 160, 161, 162, 163, 164, 165, 166, 167, 168, 169, 170, 171, 172, 173, 174, 175, 176, 177, 178, 179, 180, 181, 182]
theorem cuW_in {q : Nat} (h1 : 77 ≤ q) (h2 : q ≤ 182) : q ∈ cuW := by
  have : ∀ i, i < 106 → 77 + i ∈ cuW := by decide +kernel
  have := this (q - 77) (by omega)
  rwa [show 77 + (q - 77) = q by omega] at this
theorem CU.kp {M M' : List va_E} {W : List Nat} (h : CU M) (s : Kp W M M') (hn : ∀ q ∈ W, q < 77 ∨ 182 < q) : CU M' := by
  have n : ∀ q, 77 ≤ q → q ≤ 182 → q ∉ W := fun q h1 h2 c => by have := hn q c; omega
  obtain ⟨h1, h2, h3, h4, h5⟩ := h
  refine ⟨h1.kp s (fun q hq => n q ?_ ?_), (s _ (n _ (by decide) (by decide))).trans h2, fun g hg => (h3 g hg).kp s (n _ (by omega) (by omega)) (n _ (by omega) (by omega)) (n _ (by omega) (by omega)) (n _ (by omega) (by omega)) (n _ (by omega) (by omega)), h4.kp s (n _ (by decide) (by decide)) (n _ (by decide) (by decide)) (n _ (by decide) (by decide)) (n _ (by decide) (by decide)) (n _ (by decide) (by decide)), h5.kp s (n _ (by decide) (by decide)) (n _ (by decide) (by decide))⟩
  · have : ∀ q ∈ (77 :: 78 :: cuR), 77 ≤ q := by decide
    exact this q hq
  · have : ∀ q ∈ (77 :: 78 :: cuR), q ≤ 182 := by decide
    exact this q hq
def leN (l : List UInt8) : Nat → Nat
  | 0 => 0
  | n + 1 => leN l n + (gd l n).toNat * 256 ^ n
theorem leN_lt (l : List UInt8) : ∀ n, leN l n < 256 ^ n
  | 0 => by show 0 < 1; decide
  | n + 1 => by
    have h := leN_lt l n
    have b := (gd l n).toNat_lt
    show leN l n + (gd l n).toNat * 256 ^ n < 256 ^ (n + 1)
    rw [Nat.pow_succ]
    have : (gd l n).toNat * 256 ^ n ≤ 255 * 256 ^ n := Nat.mul_le_mul_right _ (by omega)
    omega
theorem leN_dig (l : List UInt8) {n k : Nat} (h : k < n) : leN l n / 256 ^ k % 256 = (gd l k).toNat := by
  induction n with
  | zero => omega
  | succ n ih =>
    show (leN l n + (gd l n).toNat * 256 ^ n) / 256 ^ k % 256 = _
    have b := (gd l n).toNat_lt
    by_cases e : k = n
    · subst e
      rw [Nat.add_mul_div_right _ _ (Nat.pow_pos (by decide)), Nat.div_eq_of_lt (leN_lt l k), Nat.zero_add]
      omega
    · have hk : k < n := by omega
      rw [show (256 : Nat) ^ n = 256 ^ (n - k - 1) * 256 * 256 ^ k by rw [← Nat.pow_succ, ← Nat.pow_add]; congr 1; omega, ← Nat.mul_assoc, Nat.add_mul_div_right _ _ (Nat.pow_pos (by decide)), ← Nat.mul_assoc, Nat.add_mul_mod_self_right]
      exact ih hk
theorem leN_nib (l : List UInt8) {i : Nat} (h : i < 64) : leN l 32 / 16 ^ i % 16 = (gd l (i / 2)).toNat / 16 ^ (i % 2) % 16 := by
  have d := leN_dig l (n := 32) (k := i / 2) (by omega)
  rw [← d]
  have e : (16 : Nat) ^ i = 256 ^ (i / 2) * 16 ^ (i % 2) := by
    rw [show (256 : Nat) = 16 ^ 2 from rfl, ← Nat.pow_mul, ← Nat.pow_add]; congr 1; omega
  rw [e, ← Nat.div_div_eq_div_mul]
  generalize leN l 32 / 256 ^ (i / 2) = y
  have : i % 2 = 0 ∨ i % 2 = 1 := by omega
  rcases this with z | z <;> rw [z] <;> omega
theorem nib_c (b : UInt8) {m : Nat} (hm : m < 2) : (cB b >>> (nI (4 * m) &&& 31)) &&& nI 15 = nI (b.toNat / 16 ^ m % 16) := by
  have : m = 0 ∨ m = 1 := by omega
  rcases this with rfl | rfl
  · exact u8_all (P := fun b => (cB b >>> (nI (4 * 0) &&& 31)) &&& nI 15 = nI (b.toNat / 16 ^ 0 % 16)) (by decide +kernel) b
  · exact u8_all (P := fun b => (cB b >>> (nI (4 * 1) &&& 31)) &&& nI 15 = nI (b.toNat / 16 ^ 1 % 16)) (by decide +kernel) b
theorem shr1 {k : Nat} (h : k < 64) : nI k >>> (nI 1 &&& 31) = nI (k / 2) := by
  have : ∀ k, k < 64 → nI k >>> (nI 1 &&& 31) = nI (k / 2) := by decide
  exact this k h
theorem and1 {k : Nat} (h : k < 64) : nI k &&& nI 1 = nI (k % 2) := by
  have : ∀ k, k < 64 → nI k &&& nI 1 = nI (k % 2) := by decide
  exact this k h
theorem emul16 {P : Fp × Fp} (h : OnP fD P) (y : Nat) : emul fD P (16 * y) = (let D := fun R => ad2 fD R R; D (D (D (D (emul fD P y))))) := by
  show emul fD P (16 * y) = ad2 fD (ad2 fD (ad2 fD (ad2 fD (emul fD P y) (emul fD P y)) (ad2 fD (emul fD P y) (emul fD P y))) (ad2 fD (ad2 fD (emul fD P y) (emul fD P y)) (ad2 fD (emul fD P y) (emul fD P y)))) (ad2 fD (ad2 fD (ad2 fD (emul fD P y) (emul fD P y)) (ad2 fD (emul fD P y) (emul fD P y))) (ad2 fD (ad2 fD (emul fD P y) (emul fD P y)) (ad2 fD (emul fD P y) (emul fD P y))))
  rw [← cvF.mul_add h, ← cvF.mul_add h, ← cvF.mul_add h, ← cvF.mul_add h]
  congr 1; omega
theorem x_16 (x j : Nat) : x / 16 ^ j = 16 * (x / 16 ^ (j + 1)) + x / 16 ^ j % 16 := by
  have : x / 16 ^ (j + 1) = x / 16 ^ j / 16 := by rw [Nat.pow_succ, Nat.div_div_eq_div_mul]
  omega
set_option maxHeartbeats 8000000 in
theorem v_Po_copy {G : GX} {M : List va_E} {to p tx ty tz tt px py pz pt : Nat} {P : Fp × Fp} (hto : PQ M to tx ty tz tt) (hp : PC M p px py pz pt P) (gp : ∀ w ∈ [p, px, py, pz, pt], ∀ z ∈ [tx, ty, tz, tt], w ≠ z) (n_0_1 : tx ≠ ty) (n_0_2 : tx ≠ tz) (n_0_3 : tx ≠ tt) (n_1_2 : ty ≠ tz) (n_1_3 : ty ≠ tt) (n_2_3 : tz ≠ tt) (m_0 : to ≠ tx) (m_1 : to ≠ ty) (m_2 : to ≠ tz) (m_3 : to ≠ tt) (k_tx : K0 ≤ tx) (k_ty : K0 ≤ ty) (k_tz : K0 ≤ tz) (k_tt : K0 ≤ tt) : CT G mi_Po_copy [.ref to, .ref p] M (fun r M' => r = none ∧ PC M' to tx ty tz tt P ∧ Kp [tx, ty, tz, tt] M M') := by
  obtain ⟨p0, X, Y, Z, T, p1, p2, p3, p4, jp⟩ := hp
  obtain ⟨t0, t1, t2, t3, t4⟩ := hto
  refine CT.of (by decide) (Nat.le_of_ble_eq_true rfl) ?_
  show TT G mi_Po_copy 0 [(0, .ref to), (1, .ref p)] [] M 0 0 _
  refine T_aload_n (v := .ref to) d_Po_copy_0 rfl (Or.inr ⟨_, rfl⟩) ?_
  refine T_getfield (v := .ref tx) d_Po_copy_1 fg_Po_9 t0 rfl ?_
  refine T_aload_n (v := .ref p) d_Po_copy_4 rfl (Or.inr ⟨_, rfl⟩) ?_
  refine T_getfield (v := .ref px) d_Po_copy_5 fg_Po_9 p0 rfl ?_
  refine T_vcopy d_Po_copy_8 (jw_Fi_copy.jo (by decide)) lm_Po_24 (Nat.le_of_ble_eq_true rfl) (by decide) (by decide) k_tx t1 p1 (fun M_1 v_1 e_1 => ?_)
  refine T_aload_n (v := .ref to) d_Po_copy_11 rfl (Or.inr ⟨_, rfl⟩) ?_
  have h_2 := (e_1 to m_0).trans (t0)
  refine T_getfield (v := .ref ty) d_Po_copy_12 fg_Po_15 h_2 rfl ?_
  refine T_aload_n (v := .ref p) d_Po_copy_15 rfl (Or.inr ⟨_, rfl⟩) ?_
  have h_3 := (e_1 p (gp p (by simp) tx (by simp))).trans (p0)
  refine T_getfield (v := .ref py) d_Po_copy_16 fg_Po_15 h_3 rfl ?_
  have p_4 := (RV.kp (p2) (Ex.kp e_1) (by simp only [List.mem_cons, List.not_mem_nil, or_false]; exact (gp py (by simp) tx (by simp))))
  have p_6 := (RQ.kp (t2) (Ex.kp e_1) (by simp only [List.mem_cons, List.not_mem_nil, or_false]; exact (Ne.symm n_0_1)))
  refine T_vcopy d_Po_copy_19 (jw_Fi_copy.jo (by decide)) lm_Po_24 (Nat.le_of_ble_eq_true rfl) (by decide) (by decide) k_ty p_6 p_4 (fun M_5 v_5 e_5 => ?_)
  refine T_aload_n (v := .ref to) d_Po_copy_22 rfl (Or.inr ⟨_, rfl⟩) ?_
  have h_7 := (e_5 to m_1).trans (h_2)
  refine T_getfield (v := .ref tz) d_Po_copy_23 fg_Po_18 h_7 rfl ?_
  refine T_aload_n (v := .ref p) d_Po_copy_26 rfl (Or.inr ⟨_, rfl⟩) ?_
  have h_8 := (e_5 p (gp p (by simp) ty (by simp))).trans (h_3)
  refine T_getfield (v := .ref pz) d_Po_copy_27 fg_Po_18 h_8 rfl ?_
  have p_9 := (RV.kp ((RV.kp (p3) (Ex.kp e_1) (by simp only [List.mem_cons, List.not_mem_nil, or_false]; exact (gp pz (by simp) tx (by simp))))) (Ex.kp e_5) (by simp only [List.mem_cons, List.not_mem_nil, or_false]; exact (gp pz (by simp) ty (by simp))))
  have p_11 := (RQ.kp ((RQ.kp (t3) (Ex.kp e_1) (by simp only [List.mem_cons, List.not_mem_nil, or_false]; exact (Ne.symm n_0_2)))) (Ex.kp e_5) (by simp only [List.mem_cons, List.not_mem_nil, or_false]; exact (Ne.symm n_1_2)))
  refine T_vcopy d_Po_copy_30 (jw_Fi_copy.jo (by decide)) lm_Po_24 (Nat.le_of_ble_eq_true rfl) (by decide) (by decide) k_tz p_11 p_9 (fun M_10 v_10 e_10 => ?_)
  refine T_aload_n (v := .ref to) d_Po_copy_33 rfl (Or.inr ⟨_, rfl⟩) ?_
  have h_12 := (e_10 to m_2).trans (h_7)
  refine T_getfield (v := .ref tt) d_Po_copy_34 fg_Po_21 h_12 rfl ?_
  refine T_aload_n (v := .ref p) d_Po_copy_37 rfl (Or.inr ⟨_, rfl⟩) ?_
  have h_13 := (e_10 p (gp p (by simp) tz (by simp))).trans (h_8)
  refine T_getfield (v := .ref pt) d_Po_copy_38 fg_Po_21 h_13 rfl ?_
  have p_14 := (RV.kp ((RV.kp ((RV.kp (p4) (Ex.kp e_1) (by simp only [List.mem_cons, List.not_mem_nil, or_false]; exact (gp pt (by simp) tx (by simp))))) (Ex.kp e_5) (by simp only [List.mem_cons, List.not_mem_nil, or_false]; exact (gp pt (by simp) ty (by simp))))) (Ex.kp e_10) (by simp only [List.mem_cons, List.not_mem_nil, or_false]; exact (gp pt (by simp) tz (by simp))))
  have p_16 := (RQ.kp ((RQ.kp ((RQ.kp (t4) (Ex.kp e_1) (by simp only [List.mem_cons, List.not_mem_nil, or_false]; exact (Ne.symm n_0_3)))) (Ex.kp e_5) (by simp only [List.mem_cons, List.not_mem_nil, or_false]; exact (Ne.symm n_1_3)))) (Ex.kp e_10) (by simp only [List.mem_cons, List.not_mem_nil, or_false]; exact (Ne.symm n_2_3)))
  refine T_vcopy d_Po_copy_41 (jw_Fi_copy.jo (by decide)) lm_Po_24 (Nat.le_of_ble_eq_true rfl) (by decide) (by decide) k_tt p_16 p_14 (fun M_15 v_15 e_15 => ?_)
  have h_17 := (e_15 to m_3).trans (h_12)
  have p_18 := (RV.kp ((RV.kp ((RV.kp (v_1) (Ex.kp e_5) (by simp only [List.mem_cons, List.not_mem_nil, or_false]; exact n_0_1))) (Ex.kp e_10) (by simp only [List.mem_cons, List.not_mem_nil, or_false]; exact n_0_2))) (Ex.kp e_15) (by simp only [List.mem_cons, List.not_mem_nil, or_false]; exact n_0_3))
  have p_19 := (RV.kp ((RV.kp (v_5) (Ex.kp e_10) (by simp only [List.mem_cons, List.not_mem_nil, or_false]; exact n_1_2))) (Ex.kp e_15) (by simp only [List.mem_cons, List.not_mem_nil, or_false]; exact n_1_3))
  have p_20 := (RV.kp (v_10) (Ex.kp e_15) (by simp only [List.mem_cons, List.not_mem_nil, or_false]; exact n_2_3))
  exact T_vret d_Po_copy_44 rfl (by decide) (by decide) ⟨rfl, ⟨h_17, _, _, _, _, p_18, p_19, p_20, v_15, jp⟩, (Kp.ex (Kp.ex (Kp.ex (Kp.ex (Kp.rf : Kp [tx, ty, tz, tt] M M) e_1 (by simp)) e_5 (by simp)) e_10 (by simp)) e_15 (by simp))⟩
set_option maxHeartbeats 8000000 in
theorem v_Po_plain {G : GX} {M : List va_E} {to f g tx ty tz tt : Nat} {x y : Int} {P : Fp × Fp} (hto : PQ M to tx ty tz tt) (hf : RV M f x 1) (hg : RV M g y 1) (gf : f < 61) (gg : g < 61) (hx : ph x = P.1) (hy : ph y = P.2) (n_0_1 : tx ≠ ty) (n_0_2 : tx ≠ tz) (n_0_3 : tx ≠ tt) (n_1_2 : ty ≠ tz) (n_1_3 : ty ≠ tt) (n_2_3 : tz ≠ tt) (m_0 : to ≠ tx) (m_1 : to ≠ ty) (m_2 : to ≠ tz) (m_3 : to ≠ tt) (k_tx : K0 ≤ tx) (k_ty : K0 ≤ ty) (k_tz : K0 ≤ tz) (k_tt : K0 ≤ tt) : CT G mi_Po_setPlain [.ref to, .ref f, .ref g] M (fun r M' => r = none ∧ PC M' to tx ty tz tt P ∧ Kp [tx, ty, tz, tt] M M') := by
  obtain ⟨t0, t1, t2, t3, t4⟩ := hto
  refine CT.of (by decide) (Nat.le_of_ble_eq_true rfl) ?_
  show TT G mi_Po_setPlain 0 [(0, .ref to), (1, .ref f), (2, .ref g)] [] M 0 0 _
  refine T_know (fun hK0 => ?_)
  refine T_aload_n (v := .ref to) d_Po_setPlain_0 rfl (Or.inr ⟨_, rfl⟩) ?_
  refine T_getfield (v := .ref tx) d_Po_setPlain_1 fg_Po_9 t0 rfl ?_
  refine T_aload_n (v := .ref f) d_Po_setPlain_4 rfl (Or.inr ⟨_, rfl⟩) ?_
  refine T_vcopy d_Po_setPlain_5 (jw_Fi_copy.jo (by decide)) lm_Po_24 (Nat.le_of_ble_eq_true rfl) (by decide) (by decide) k_tx t1 hf (fun M_1 v_1 e_1 => ?_)
  refine T_aload_n (v := .ref to) d_Po_setPlain_8 rfl (Or.inr ⟨_, rfl⟩) ?_
  have h_2 := (e_1 to m_0).trans (t0)
  refine T_getfield (v := .ref ty) d_Po_setPlain_9 fg_Po_15 h_2 rfl ?_
  refine T_aload_n (v := .ref g) d_Po_setPlain_12 rfl (Or.inr ⟨_, rfl⟩) ?_
  have p_3 := (RV.kp (hg) (Ex.kp e_1) (by simp only [List.mem_cons, List.not_mem_nil, or_false]; exact (by have := k_tx; unfold K0 at this; omega)))
  have p_5 := (RQ.kp (t2) (Ex.kp e_1) (by simp only [List.mem_cons, List.not_mem_nil, or_false]; exact (Ne.symm n_0_1)))
  refine T_vcopy d_Po_setPlain_13 (jw_Fi_copy.jo (by decide)) lm_Po_24 (Nat.le_of_ble_eq_true rfl) (by decide) (by decide) k_ty p_5 p_3 (fun M_4 v_4 e_4 => ?_)
  refine T_aload_n (v := .ref to) d_Po_setPlain_16 rfl (Or.inr ⟨_, rfl⟩) ?_
  have h_6 := (e_4 to m_1).trans (h_2)
  refine T_getfield (v := .ref tz) d_Po_setPlain_17 fg_Po_18 h_6 rfl ?_
  refine T_getstatic (q := ("PasswordGate$Field", "ONE", "[J", .ref 3)) d_Po_setPlain_20 (List.mem_of_getElem? (i := 3) rfl) gs_Po_28 (show 3 < K0 by decide) ?_
  have c_7 : RV M 3 cv_3 1 := ⟨_, hK0 3 (by decide), vt_3⟩
  have p_8 := (RV.kp ((RV.kp (c_7) (Ex.kp e_1) (by simp only [List.mem_cons, List.not_mem_nil, or_false]; exact (by have := k_tx; unfold K0 at this; omega)))) (Ex.kp e_4) (by simp only [List.mem_cons, List.not_mem_nil, or_false]; exact (by have := k_ty; unfold K0 at this; omega)))
  have p_10 := (RQ.kp ((RQ.kp (t3) (Ex.kp e_1) (by simp only [List.mem_cons, List.not_mem_nil, or_false]; exact (Ne.symm n_0_2)))) (Ex.kp e_4) (by simp only [List.mem_cons, List.not_mem_nil, or_false]; exact (Ne.symm n_1_2)))
  refine T_vcopy d_Po_setPlain_23 (jw_Fi_copy.jo (by decide)) lm_Po_24 (Nat.le_of_ble_eq_true rfl) (by decide) (by decide) k_tz p_10 p_8 (fun M_9 v_9 e_9 => ?_)
  refine T_aload_n (v := .ref to) d_Po_setPlain_26 rfl (Or.inr ⟨_, rfl⟩) ?_
  have h_11 := (e_9 to m_2).trans (h_6)
  refine T_getfield (v := .ref tt) d_Po_setPlain_27 fg_Po_21 h_11 rfl ?_
  refine T_aload_n (v := .ref f) d_Po_setPlain_30 rfl (Or.inr ⟨_, rfl⟩) ?_
  refine T_aload_n (v := .ref g) d_Po_setPlain_31 rfl (Or.inr ⟨_, rfl⟩) ?_
  have p_12 := (RV.kp ((RV.kp ((RV.kp (hf) (Ex.kp e_1) (by simp only [List.mem_cons, List.not_mem_nil, or_false]; exact (by have := k_tx; unfold K0 at this; omega)))) (Ex.kp e_4) (by simp only [List.mem_cons, List.not_mem_nil, or_false]; exact (by have := k_ty; unfold K0 at this; omega)))) (Ex.kp e_9) (by simp only [List.mem_cons, List.not_mem_nil, or_false]; exact (by have := k_tz; unfold K0 at this; omega)))
  have p_13 := (RV.kp ((RV.kp (p_3) (Ex.kp e_4) (by simp only [List.mem_cons, List.not_mem_nil, or_false]; exact (by have := k_ty; unfold K0 at this; omega)))) (Ex.kp e_9) (by simp only [List.mem_cons, List.not_mem_nil, or_false]; exact (by have := k_tz; unfold K0 at this; omega)))
  have p_15 := (RQ.kp ((RQ.kp ((RQ.kp (t4) (Ex.kp e_1) (by simp only [List.mem_cons, List.not_mem_nil, or_false]; exact (Ne.symm n_0_3)))) (Ex.kp e_4) (by simp only [List.mem_cons, List.not_mem_nil, or_false]; exact (Ne.symm n_1_3)))) (Ex.kp e_9) (by simp only [List.mem_cons, List.not_mem_nil, or_false]; exact (Ne.symm n_2_3)))
  refine T_vmul d_Po_setPlain_32 (jw_Fi_multiply.jo (by decide)) lm_Po_31 (Nat.le_of_ble_eq_true rfl) (by decide) (by decide) k_tt p_15 p_12 p_13 (by decide) (fun M_14 v_14 e_14 => ?_)
  obtain ⟨x_15, hx_15⟩ : ∃ z : Int, z = (x * y) := ⟨_, rfl⟩
  rw [← hx_15] at v_14
  have h_16 := (e_14 to m_3).trans (h_11)
  have p_17 := (RV.kp ((RV.kp ((RV.kp (v_1) (Ex.kp e_4) (by simp only [List.mem_cons, List.not_mem_nil, or_false]; exact n_0_1))) (Ex.kp e_9) (by simp only [List.mem_cons, List.not_mem_nil, or_false]; exact n_0_2))) (Ex.kp e_14) (by simp only [List.mem_cons, List.not_mem_nil, or_false]; exact n_0_3))
  have p_18 := (RV.kp ((RV.kp (v_4) (Ex.kp e_9) (by simp only [List.mem_cons, List.not_mem_nil, or_false]; exact n_1_2))) (Ex.kp e_14) (by simp only [List.mem_cons, List.not_mem_nil, or_false]; exact n_1_3))
  have p_19 := (RV.kp (v_9) (Ex.kp e_14) (by simp only [List.mem_cons, List.not_mem_nil, or_false]; exact n_2_3))
  exact T_vret d_Po_setPlain_35 rfl (by decide) (by decide) ⟨rfl, ⟨h_16, _, _, _, _, Rv.up p_17 (by decide), p_18, p_19, v_14, by rw [hx, hy, ph_3, hx_15, ph_mul, hx, hy]; exact Pj.pl P⟩, (Kp.ex (Kp.ex (Kp.ex (Kp.ex (Kp.rf : Kp [tx, ty, tz, tt] M M) e_1 (by simp)) e_4 (by simp)) e_9 (by simp)) e_14 (by simp))⟩
def TBL (M : List va_E) (n : Nat) (P : Fp × Fp) : Prop := CS1 M ∧ M[86]? = some (rr 4 16 tabF) ∧ (∀ g, g < 16 → PQg M g) ∧ ∀ g, 1 ≤ g → g < n → PCg M g (emul fD P g)
abbrev tbW : List Nat := [94, 95, 96, 97, 98, 99, 100, 102, 114, 115, 116, 117, 119, 120, 121, 122, 124, 125, 126, 127, 129, 130, 131, 132, 134, 135, 136, 137, 139, 140, 141, 142, 144, 145, 146, 147, 149, 150, 151, 152, 154, 155, 156, 157, 159, 160, 161, 162, 164, 165, 166, 167, 169, 170, 171, 172, 174, 175, 176, 177, 179, 180, 181, 182]
theorem tbW_sub : ∀ k, k < 16 → 2 ≤ k → ∀ q ∈ [94, 95, 96, 97, 98, 99, 100, 102, 104 + 5 * k, 105 + 5 * k, 106 + 5 * k, 107 + 5 * k], q ∈ tbW := by decide +kernel
set_option maxHeartbeats 8000000 in
theorem TBL.up {M M' : List va_E} {k : Nat} {P : Fp × Fp} (h : TBL M k P) (hk : k < 16) (h1 : CS1 M') (h2 : PCg M' k (emul fD P k)) (s : Kp [94, 95, 96, 97, 98, 99, 100, 102, 104 + 5 * k, 105 + 5 * k, 106 + 5 * k, 107 + 5 * k] M M') : TBL M' (k + 1) P := by
  obtain ⟨a1, a2, a3, a4⟩ := h
  have n : ∀ g, g < 16 → g ≠ k → ∀ q ∈ [103 + 5 * g, 104 + 5 * g, 105 + 5 * g, 106 + 5 * g, 107 + 5 * g], q ∉ [94, 95, 96, 97, 98, 99, 100, 102, 104 + 5 * k, 105 + 5 * k, 106 + 5 * k, 107 + 5 * k] := fun g hg hne q hq c => by
    simp only [List.mem_cons, List.not_mem_nil, or_false] at hq c; omega
  refine ⟨h1, (s _ ?_).trans a2, fun g hg => ?_, fun g g1 g2 => ?_⟩
  · simp only [List.mem_cons, List.not_mem_nil, or_false]; omega
  · by_cases e : g = k
    · subst e; exact h2.pq
    · exact (a3 g hg).kp s (n g hg e _ (by simp)) (n g hg e _ (by simp)) (n g hg e _ (by simp)) (n g hg e _ (by simp)) (n g hg e _ (by simp))
  · by_cases e : g = k
    · subst e; exact h2
    · exact (a4 g g1 (by omega)).kp s (n g (by omega) e _ (by simp)) (n g (by omega) e _ (by simp)) (n g (by omega) e _ (by simp)) (n g (by omega) e _ (by simp)) (n g (by omega) e _ (by simp))
set_option maxHeartbeats 8000000 in
theorem mt_lp (G : GX) {M0 : List va_E} {to sp p : Nat} {P : Fp × Fp} (oP : OnP fD P) {Q : Option Value → List va_E → Prop} (kk : ∀ M, 2 ≤ 16 ∧ TBL M 16 P ∧ Kp tbW M0 M → TT G mi_Cu_multiply 52 [(0, .ref 77), (1, .ref to), (2, .ref sp), (3, .ref p)] [] M 0 0 Q) : ∀ j k M, k + j = 16 → 2 ≤ k ∧ TBL M k P ∧ Kp tbW M0 M → TT G mi_Cu_multiply 13 [(4, .int (nI k)), (0, .ref 77), (1, .ref to), (2, .ref sp), (3, .ref p)] [] M 0 0 Q := by
  intro j
  induction j with
  | zero =>
    intro k M hk hI
    obtain rfl : 16 = k := by omega
    refine T_iload d_Cu_multiply_13 rfl ?_
    refine T_bipush (v := nI 16) d_Cu_multiply_15 (by decide) ?_
    refine N_icmp_ge_t (a := 16) (b := 16) d_Cu_multiply_17 (tgt := 52) rfl (by omega) (by omega) (by omega) ?_
    exact T_sub (fun q hq => List.mem_cons_of_mem _ hq) (kk M hI)
  | succ j ih =>
    intro k M hk hI
    obtain ⟨h2k, hT, hK⟩ := hI
    refine T_iload d_Cu_multiply_13 rfl ?_
    refine T_bipush (v := nI 16) d_Cu_multiply_15 (by decide) ?_
    refine N_icmp_ge_f (a := 16) (b := k) d_Cu_multiply_17 (tgt := 52) rfl (by omega) (by omega) (by omega) ?_
    refine T_aload_n (v := .ref 77) d_Cu_multiply_20 rfl (Or.inr ⟨_, rfl⟩) ?_
    refine T_aload_n (v := .ref 77) d_Cu_multiply_21 rfl (Or.inr ⟨_, rfl⟩) ?_
    refine T_getfield (v := .ref 86) d_Cu_multiply_22 fg_Cu_18 hT.1.1 rfl ?_
    refine T_iload d_Cu_multiply_25 rfl ?_
    refine N_aaload (k := k) (p := (103 + 5 * k)) (C0 := "PasswordGate$Point") d_Cu_multiply_27 (by decide) hT.2.1 rfl (by omega) (by decide) (tab_at k (by omega)) ?_
    refine T_aload_n (v := .ref 77) d_Cu_multiply_28 rfl (Or.inr ⟨_, rfl⟩) ?_
    refine T_getfield (v := .ref 86) d_Cu_multiply_29 fg_Cu_18 hT.1.1 rfl ?_
    refine T_iload d_Cu_multiply_32 rfl ?_
    refine T_iconst (v := nI 1) d_Cu_multiply_34 (by decide) ?_
    refine N_isub (a := 1) (b := k) (c := (k - 1)) d_Cu_multiply_35 (by omega) rfl ?_
    refine N_aaload (k := (k - 1)) (p := (103 + 5 * (k - 1))) (C0 := "PasswordGate$Point") d_Cu_multiply_36 (by decide) hT.2.1 rfl (by omega) (by decide) (tab_at (k - 1) (by omega)) ?_
    refine T_aload_n (v := .ref 77) d_Cu_multiply_37 rfl (Or.inr ⟨_, rfl⟩) ?_
    refine T_getfield (v := .ref 86) d_Cu_multiply_38 fg_Cu_18 hT.1.1 rfl ?_
    refine T_iconst (v := nI 1) d_Cu_multiply_41 (by decide) ?_
    refine N_aaload (k := 1) (p := 108) (C0 := "PasswordGate$Point") d_Cu_multiply_42 (by decide) hT.2.1 rfl (by omega) (by decide) rfl ?_
    have hk16 : k < 16 := by omega
    have e1 : emul fD P k = ad2 fD (emul fD P (k - 1)) P := (congrArg (emul fD P) (show k = (k - 1) + 1 by omega)).trans rfl
    have t1 : PCg M 1 (emul fD P 1) := hT.2.2.2 1 (by decide) (by omega)
    rw [cvF.mul_one oP] at t1
    refine T_virtual (as := [.ref (103 + 5 * k), .ref (103 + 5 * (k - 1)), .ref 108]) (rest := []) (b := 77) d_Cu_multiply_43 rfl (jw_Cu_add.jo (by decide)) lm_Cu_97 ji_Cu_add js_Cu_add hT.1.1 rfl rfl rfl (Nat.le_of_ble_eq_true rfl) (by decide) (by decide) (v_Cu_add (tx := 104 + 5 * k) (ty := 105 + 5 * k) (tz := 106 + 5 * k) (tt := 107 + 5 * k) hT.1 (hT.2.2.1 k hk16) (hT.2.2.2 (k - 1) (by omega) (by omega)) t1 (cvF.onM oP _) oP (tabG k hk16) (tabG (k - 1) (by omega)) (tabG 1 (by decide)) (by omega) (by omega) (by omega) (by omega) (by omega) (by omega) (by omega) (by omega) (by omega) (by omega) (by unfold K0; omega) (by unfold K0; omega) (by unfold K0; omega) (by unfold K0; omega)) (fun r Ma hq => ?_)
    obtain ⟨rfl, h1, h2, h3⟩ := hq
    rw [← e1] at h2
    refine T_eq (pc' := 46) (L' := [(4, .int (nI k)), (0, .ref 77), (1, .ref to), (2, .ref sp), (3, .ref p)]) (st' := []) (M' := Ma) rfl rfl rfl rfl ?_
    refine N_iinc (k := k) (m := 1) (c := (k + 1)) (L' := [(4, .int (nI ((k + 1)))), (0, .ref 77), (1, .ref to), (2, .ref sp), (3, .ref p)]) d_Cu_multiply_46 (by decide) rfl (by decide) rfl rfl ?_
    refine T_goto (tgt := 13) d_Cu_multiply_49 rfl ?_
    exact ih (k + 1) Ma (by omega) ⟨by omega, hT.up hk16 h1 h2 h3, Kp.tr hK (h3.mono (tbW_sub k hk16 h2k))⟩
theorem tb_t : ∀ g, g < 16 → g ≠ 1 → ∀ c, c ∈ [103, 104, 105, 106, 107] → c + 5 * g ∉ [109, 110, 111, 112] := by decide +kernel
theorem tb_188 : ∀ g, g < 16 → ∀ c, c ∈ [103, 104, 105, 106, 107] → c + 5 * g ∉ [94, 95, 96, 97, 98, 99, 100, 102, 189, 190, 191, 192] := by decide +kernel
theorem tc_188 : ∀ g, g < 16 → ∀ c, c ∈ [103, 104, 105, 106, 107] → c + 5 * g ∉ [189, 190, 191, 192] := by decide +kernel
set_option maxHeartbeats 8000000 in
theorem mm_188 (G : GX) {M0 : List va_E} {sp p x : Nat} {l : List UInt8} {P : Fp × Fp} (oP : OnP fD P) (hx : x = leN l 32) (hl : l.length = 32) (hs : BA M0 sp 32 l) (hsp : sp ∉ [94, 95, 96, 97, 98, 99, 100, 102, 189, 190, 191, 192]) (k_sp : K0 ≤ sp) {Q : Option Value → List va_E → Prop} (kk : ∀ M, (TBL M 16 P ∧ PC M 188 189 190 191 192 (emul fD P (x / 16 ^ 0)) ∧ Kp [94, 95, 96, 97, 98, 99, 100, 102, 189, 190, 191, 192] M0 M) → TT G mi_Cu_multiply 119 [(4, .int (-1)), (0, .ref 77), (1, .ref 188), (2, .ref sp), (3, .ref p)] [] M 0 0 Q) : ∀ j M, j ≤ 64 → (TBL M 16 P ∧ PC M 188 189 190 191 192 (emul fD P (x / 16 ^ j)) ∧ Kp [94, 95, 96, 97, 98, 99, 100, 102, 189, 190, 191, 192] M0 M) → TT G mi_Cu_multiply 66 [(4, .int (nI j - 1)), (0, .ref 77), (1, .ref 188), (2, .ref sp), (3, .ref p)] [] M 0 0 Q := by
  intro j
  induction j with
  | zero =>
    intro M hj hI
    refine T_iload d_Cu_multiply_66 rfl ?_
    refine T_if_lt d_Cu_multiply_68 (tgt := 119) rfl (fun _ => ?_) (fun c => absurd (by decide) c)
    exact kk M hI
  | succ j ih =>
    intro M hj hI
    obtain ⟨hT, hto, hK⟩ := hI
    rw [nI_pp]
    refine T_iload d_Cu_multiply_66 rfl ?_
    refine N_if_lt_f (b := j) d_Cu_multiply_68 (tgt := 119) rfl (by omega) (by omega) ?_
    refine T_aload_n (v := .ref 77) d_Cu_multiply_71 rfl (Or.inr ⟨_, rfl⟩) ?_
    refine T_aload_n (v := .ref 188) d_Cu_multiply_72 rfl (Or.inr ⟨_, rfl⟩) ?_
    refine T_iconst (v := nI 4) d_Cu_multiply_73 (by decide) ?_
    refine T_virtual (as := [.ref 188, .int (nI 4)]) (rest := []) (b := 77) d_Cu_multiply_74 rfl (jw_Cu_doubleTimes.jo (by decide)) lm_Cu_110 ji_Cu_doubleTimes js_Cu_doubleTimes hT.1.1 rfl rfl rfl (Nat.le_of_ble_eq_true rfl) (by decide) (by decide) (v_Cu_dbl4 (tx := 189) (ty := 190) (tz := 191) (tt := 192) hT.1 hto (cvF.onM oP _) (by decide +kernel) (by decide) (by decide) (by decide) (by decide) (by decide) (by decide) (by decide) (by decide) (by decide) (by decide) (by decide) (by decide) (by decide) (by decide)) (fun r Ma hq => ?_)
    obtain ⟨rfl, a1, a2, a3⟩ := hq
    have e16 := emul16 oP (x / 16 ^ (j + 1))
    dsimp only at e16
    rw [← e16] at a2
    have hTa : TBL Ma 16 P := ⟨a1, (a3 86 (by decide)).trans hT.2.1, fun g hg => (hT.2.2.1 g hg).kp a3 (tb_188 g hg 103 (by decide)) (tb_188 g hg 104 (by decide)) (tb_188 g hg 105 (by decide)) (tb_188 g hg 106 (by decide)) (tb_188 g hg 107 (by decide)), fun g g1 g2 => (hT.2.2.2 g g1 g2).kp a3 (tb_188 g g2 103 (by decide)) (tb_188 g g2 104 (by decide)) (tb_188 g g2 105 (by decide)) (tb_188 g g2 106 (by decide)) (tb_188 g g2 107 (by decide))⟩
    refine T_eq (pc' := 77) (L' := [(4, .int (nI j)), (0, .ref 77), (1, .ref 188), (2, .ref sp), (3, .ref p)]) (st' := []) (M' := Ma) rfl rfl rfl rfl ?_
    have hsa := (hs.kp hK hsp).kp a3 hsp
    refine T_aload_n (v := .ref sp) d_Cu_multiply_77 rfl (Or.inr ⟨_, rfl⟩) ?_
    refine T_iload d_Cu_multiply_78 rfl ?_
    refine T_iconst (v := nI 1) d_Cu_multiply_80 (by decide) ?_
    refine T_ishr d_Cu_multiply_81 ?_
    refine N_topi (y := (nI ((j / 2)))) (shr1 (k := j) (by omega)) ?_
    obtain ⟨f_1, hf_2, hl_3, hv_4⟩ := id hsa
    refine N_baload (k := (j / 2)) (x := (cB (gd l (j / 2)))) d_Cu_multiply_82 hf_2 (by omega) (by decide) (hv_4 (j / 2) (by first | omega | (simp only [List.length_append, List.length_cons, List.length_nil, List.length_replicate, sl_len, be_len, sha_len]; omega))) ?_
    refine T_iconst (v := nI 4) d_Cu_multiply_83 (by decide) ?_
    refine T_iload d_Cu_multiply_84 rfl ?_
    refine T_iconst (v := nI 1) d_Cu_multiply_86 (by decide) ?_
    refine T_iand d_Cu_multiply_87 ?_
    refine N_topi (y := (nI ((j % 2)))) (and1 (k := j) (by omega)) ?_
    refine N_imul (a := (j % 2)) (b := 4) (c := (4 * (j % 2))) d_Cu_multiply_88 rfl ?_
    refine T_ishr d_Cu_multiply_89 ?_
    refine T_bipush (v := nI 15) d_Cu_multiply_90 (by decide) ?_
    refine T_iand d_Cu_multiply_92 ?_
    refine N_topi (y := (nI (((gd l (j / 2)).toNat / 16 ^ (j % 2) % 16)))) (nib_c (gd l (j / 2)) (m := j % 2) (by omega)) ?_
    have hd := leN_nib l (i := j) (by omega)
    rw [← hx] at hd
    rw [← hd]
    obtain ⟨dg, hdg⟩ : ∃ z, z = x / 16 ^ j % 16 := ⟨_, rfl⟩
    rw [← hdg]
    have hdl : dg < 16 := by omega
    refine T_istore (L' := [(5, .int (nI dg)), (4, .int (nI j)), (0, .ref 77), (1, .ref 188), (2, .ref sp), (3, .ref p)]) d_Cu_multiply_93 (by decide) rfl ?_
    refine T_iload d_Cu_multiply_95 rfl ?_
    refine N_if_eq (b := dg) d_Cu_multiply_97 (tgt := 113) rfl (by omega) (fun h0 => ?_) (fun h0 => ?_)
    ·
      refine T_iinc (x := nI j) (L' := [(4, .int (nI j - 1)), (5, .int (nI dg)), (0, .ref 77), (1, .ref 188), (2, .ref sp), (3, .ref p)]) d_Cu_multiply_113 (by decide) rfl (by rw [nI_dm]; rfl) ?_
      refine T_goto (tgt := 66) d_Cu_multiply_116 rfl ?_
      have e := x_16 x j
      have e2 : x / 16 ^ j = 16 * (x / 16 ^ (j + 1)) := by omega
      rw [← e2] at a2
      exact T_sub (L' := [(4, .int (nI j - 1)), (0, .ref 77), (1, .ref 188), (2, .ref sp), (3, .ref p)]) (fun q hq => by simp only [List.mem_cons, List.not_mem_nil, or_false] at hq ⊢; rcases hq with rfl | rfl | rfl | rfl | rfl <;> simp) (ih Ma (by omega) ⟨hTa, a2, Kp.tr hK a3⟩)
    ·
      refine T_aload_n (v := .ref 77) d_Cu_multiply_100 rfl (Or.inr ⟨_, rfl⟩) ?_
      refine T_aload_n (v := .ref 188) d_Cu_multiply_101 rfl (Or.inr ⟨_, rfl⟩) ?_
      refine T_aload_n (v := .ref 188) d_Cu_multiply_102 rfl (Or.inr ⟨_, rfl⟩) ?_
      refine T_aload_n (v := .ref 77) d_Cu_multiply_103 rfl (Or.inr ⟨_, rfl⟩) ?_
      refine T_getfield (v := .ref 86) d_Cu_multiply_104 fg_Cu_18 hTa.1.1 rfl ?_
      refine T_iload d_Cu_multiply_107 rfl ?_
      refine N_aaload (k := dg) (p := (103 + 5 * dg)) (C0 := "PasswordGate$Point") d_Cu_multiply_109 (by decide) hTa.2.1 rfl (by omega) (by decide) (tab_at dg (by omega)) ?_
      refine T_virtual (as := [.ref 188, .ref 188, .ref (103 + 5 * dg)]) (rest := []) (b := 77) d_Cu_multiply_110 rfl (jw_Cu_add.jo (by decide)) lm_Cu_97 ji_Cu_add js_Cu_add hTa.1.1 rfl rfl rfl (Nat.le_of_ble_eq_true rfl) (by decide) (by decide) (v_Cu_add (tx := 189) (ty := 190) (tz := 191) (tt := 192) hTa.1 a2.pq a2 (hTa.2.2.2 dg (by omega) hdl) (cvF.onM oP _) (cvF.onM oP _) (by decide +kernel) (by decide +kernel) (tabG dg hdl) (by decide) (by decide) (by decide) (by decide) (by decide) (by decide) (by decide) (by decide) (by decide) (by decide) (by decide) (by decide) (by decide) (by decide)) (fun r Mb hq => ?_)
      obtain ⟨rfl, b1, b2, b3⟩ := hq
      have hTb : TBL Mb 16 P := ⟨b1, (b3 86 (by decide)).trans hTa.2.1, fun g hg => (hTa.2.2.1 g hg).kp b3 (tb_188 g hg 103 (by decide)) (tb_188 g hg 104 (by decide)) (tb_188 g hg 105 (by decide)) (tb_188 g hg 106 (by decide)) (tb_188 g hg 107 (by decide)), fun g g1 g2 => (hTa.2.2.2 g g1 g2).kp b3 (tb_188 g g2 103 (by decide)) (tb_188 g g2 104 (by decide)) (tb_188 g g2 105 (by decide)) (tb_188 g g2 106 (by decide)) (tb_188 g g2 107 (by decide))⟩
      refine T_eq (pc' := 113) (L' := [(5, .int (nI dg)), (4, .int (nI j)), (0, .ref 77), (1, .ref 188), (2, .ref sp), (3, .ref p)]) (st' := []) (M' := Mb) rfl rfl rfl rfl ?_
      refine T_iinc (x := nI j) (L' := [(4, .int (nI j - 1)), (5, .int (nI dg)), (0, .ref 77), (1, .ref 188), (2, .ref sp), (3, .ref p)]) d_Cu_multiply_113 (by decide) rfl (by rw [nI_dm]; rfl) ?_
      refine T_goto (tgt := 66) d_Cu_multiply_116 rfl ?_
      have e := x_16 x j
      rw [← hdg] at e
      rw [← cvF.mul_add oP, ← e] at b2
      exact T_sub (L' := [(4, .int (nI j - 1)), (0, .ref 77), (1, .ref 188), (2, .ref sp), (3, .ref p)]) (fun q hq => by simp only [List.mem_cons, List.not_mem_nil, or_false] at hq ⊢; rcases hq with rfl | rfl | rfl | rfl | rfl <;> simp) (ih Mb (by omega) ⟨hTb, b2, Kp.tr (Kp.tr hK a3) b3⟩)
theorem tb_207 : ∀ g, g < 16 → ∀ c, c ∈ [103, 104, 105, 106, 107] → c + 5 * g ∉ [94, 95, 96, 97, 98, 99, 100, 102, 208, 209, 210, 211] := by decide +kernel
theorem tc_207 : ∀ g, g < 16 → ∀ c, c ∈ [103, 104, 105, 106, 107] → c + 5 * g ∉ [208, 209, 210, 211] := by decide +kernel
set_option maxHeartbeats 8000000 in
theorem mm_207 (G : GX) {M0 : List va_E} {sp p x : Nat} {l : List UInt8} {P : Fp × Fp} (oP : OnP fD P) (hx : x = leN l 32) (hl : l.length = 32) (hs : BA M0 sp 32 l) (hsp : sp ∉ [94, 95, 96, 97, 98, 99, 100, 102, 208, 209, 210, 211]) (k_sp : K0 ≤ sp) {Q : Option Value → List va_E → Prop} (kk : ∀ M, (TBL M 16 P ∧ PC M 207 208 209 210 211 (emul fD P (x / 16 ^ 0)) ∧ Kp [94, 95, 96, 97, 98, 99, 100, 102, 208, 209, 210, 211] M0 M) → TT G mi_Cu_multiply 119 [(4, .int (-1)), (0, .ref 77), (1, .ref 207), (2, .ref sp), (3, .ref p)] [] M 0 0 Q) : ∀ j M, j ≤ 64 → (TBL M 16 P ∧ PC M 207 208 209 210 211 (emul fD P (x / 16 ^ j)) ∧ Kp [94, 95, 96, 97, 98, 99, 100, 102, 208, 209, 210, 211] M0 M) → TT G mi_Cu_multiply 66 [(4, .int (nI j - 1)), (0, .ref 77), (1, .ref 207), (2, .ref sp), (3, .ref p)] [] M 0 0 Q := by
  intro j
  induction j with
  | zero =>
    intro M hj hI
    refine T_iload d_Cu_multiply_66 rfl ?_
    refine T_if_lt d_Cu_multiply_68 (tgt := 119) rfl (fun _ => ?_) (fun c => absurd (by decide) c)
    exact kk M hI
  | succ j ih =>
    intro M hj hI
    obtain ⟨hT, hto, hK⟩ := hI
    rw [nI_pp]
    refine T_iload d_Cu_multiply_66 rfl ?_
    refine N_if_lt_f (b := j) d_Cu_multiply_68 (tgt := 119) rfl (by omega) (by omega) ?_
    refine T_aload_n (v := .ref 77) d_Cu_multiply_71 rfl (Or.inr ⟨_, rfl⟩) ?_
    refine T_aload_n (v := .ref 207) d_Cu_multiply_72 rfl (Or.inr ⟨_, rfl⟩) ?_
    refine T_iconst (v := nI 4) d_Cu_multiply_73 (by decide) ?_
    refine T_virtual (as := [.ref 207, .int (nI 4)]) (rest := []) (b := 77) d_Cu_multiply_74 rfl (jw_Cu_doubleTimes.jo (by decide)) lm_Cu_110 ji_Cu_doubleTimes js_Cu_doubleTimes hT.1.1 rfl rfl rfl (Nat.le_of_ble_eq_true rfl) (by decide) (by decide) (v_Cu_dbl4 (tx := 208) (ty := 209) (tz := 210) (tt := 211) hT.1 hto (cvF.onM oP _) (by decide +kernel) (by decide) (by decide) (by decide) (by decide) (by decide) (by decide) (by decide) (by decide) (by decide) (by decide) (by decide) (by decide) (by decide) (by decide)) (fun r Ma hq => ?_)
    obtain ⟨rfl, a1, a2, a3⟩ := hq
    have e16 := emul16 oP (x / 16 ^ (j + 1))
    dsimp only at e16
    rw [← e16] at a2
    have hTa : TBL Ma 16 P := ⟨a1, (a3 86 (by decide)).trans hT.2.1, fun g hg => (hT.2.2.1 g hg).kp a3 (tb_207 g hg 103 (by decide)) (tb_207 g hg 104 (by decide)) (tb_207 g hg 105 (by decide)) (tb_207 g hg 106 (by decide)) (tb_207 g hg 107 (by decide)), fun g g1 g2 => (hT.2.2.2 g g1 g2).kp a3 (tb_207 g g2 103 (by decide)) (tb_207 g g2 104 (by decide)) (tb_207 g g2 105 (by decide)) (tb_207 g g2 106 (by decide)) (tb_207 g g2 107 (by decide))⟩
    refine T_eq (pc' := 77) (L' := [(4, .int (nI j)), (0, .ref 77), (1, .ref 207), (2, .ref sp), (3, .ref p)]) (st' := []) (M' := Ma) rfl rfl rfl rfl ?_
    have hsa := (hs.kp hK hsp).kp a3 hsp
    refine T_aload_n (v := .ref sp) d_Cu_multiply_77 rfl (Or.inr ⟨_, rfl⟩) ?_
    refine T_iload d_Cu_multiply_78 rfl ?_
    refine T_iconst (v := nI 1) d_Cu_multiply_80 (by decide) ?_
    refine T_ishr d_Cu_multiply_81 ?_
    refine N_topi (y := (nI ((j / 2)))) (shr1 (k := j) (by omega)) ?_
    obtain ⟨f_1, hf_2, hl_3, hv_4⟩ := id hsa
    refine N_baload (k := (j / 2)) (x := (cB (gd l (j / 2)))) d_Cu_multiply_82 hf_2 (by omega) (by decide) (hv_4 (j / 2) (by first | omega | (simp only [List.length_append, List.length_cons, List.length_nil, List.length_replicate, sl_len, be_len, sha_len]; omega))) ?_
    refine T_iconst (v := nI 4) d_Cu_multiply_83 (by decide) ?_
    refine T_iload d_Cu_multiply_84 rfl ?_
    refine T_iconst (v := nI 1) d_Cu_multiply_86 (by decide) ?_
    refine T_iand d_Cu_multiply_87 ?_
    refine N_topi (y := (nI ((j % 2)))) (and1 (k := j) (by omega)) ?_
    refine N_imul (a := (j % 2)) (b := 4) (c := (4 * (j % 2))) d_Cu_multiply_88 rfl ?_
    refine T_ishr d_Cu_multiply_89 ?_
    refine T_bipush (v := nI 15) d_Cu_multiply_90 (by decide) ?_
    refine T_iand d_Cu_multiply_92 ?_
    refine N_topi (y := (nI (((gd l (j / 2)).toNat / 16 ^ (j % 2) % 16)))) (nib_c (gd l (j / 2)) (m := j % 2) (by omega)) ?_
    have hd := leN_nib l (i := j) (by omega)
    rw [← hx] at hd
    rw [← hd]
    obtain ⟨dg, hdg⟩ : ∃ z, z = x / 16 ^ j % 16 := ⟨_, rfl⟩
    rw [← hdg]
    have hdl : dg < 16 := by omega
    refine T_istore (L' := [(5, .int (nI dg)), (4, .int (nI j)), (0, .ref 77), (1, .ref 207), (2, .ref sp), (3, .ref p)]) d_Cu_multiply_93 (by decide) rfl ?_
    refine T_iload d_Cu_multiply_95 rfl ?_
    refine N_if_eq (b := dg) d_Cu_multiply_97 (tgt := 113) rfl (by omega) (fun h0 => ?_) (fun h0 => ?_)
    ·
      refine T_iinc (x := nI j) (L' := [(4, .int (nI j - 1)), (5, .int (nI dg)), (0, .ref 77), (1, .ref 207), (2, .ref sp), (3, .ref p)]) d_Cu_multiply_113 (by decide) rfl (by rw [nI_dm]; rfl) ?_
      refine T_goto (tgt := 66) d_Cu_multiply_116 rfl ?_
      have e := x_16 x j
      have e2 : x / 16 ^ j = 16 * (x / 16 ^ (j + 1)) := by omega
      rw [← e2] at a2
      exact T_sub (L' := [(4, .int (nI j - 1)), (0, .ref 77), (1, .ref 207), (2, .ref sp), (3, .ref p)]) (fun q hq => by simp only [List.mem_cons, List.not_mem_nil, or_false] at hq ⊢; rcases hq with rfl | rfl | rfl | rfl | rfl <;> simp) (ih Ma (by omega) ⟨hTa, a2, Kp.tr hK a3⟩)
    ·
      refine T_aload_n (v := .ref 77) d_Cu_multiply_100 rfl (Or.inr ⟨_, rfl⟩) ?_
      refine T_aload_n (v := .ref 207) d_Cu_multiply_101 rfl (Or.inr ⟨_, rfl⟩) ?_
      refine T_aload_n (v := .ref 207) d_Cu_multiply_102 rfl (Or.inr ⟨_, rfl⟩) ?_
      refine T_aload_n (v := .ref 77) d_Cu_multiply_103 rfl (Or.inr ⟨_, rfl⟩) ?_
      refine T_getfield (v := .ref 86) d_Cu_multiply_104 fg_Cu_18 hTa.1.1 rfl ?_
      refine T_iload d_Cu_multiply_107 rfl ?_
      refine N_aaload (k := dg) (p := (103 + 5 * dg)) (C0 := "PasswordGate$Point") d_Cu_multiply_109 (by decide) hTa.2.1 rfl (by omega) (by decide) (tab_at dg (by omega)) ?_
      refine T_virtual (as := [.ref 207, .ref 207, .ref (103 + 5 * dg)]) (rest := []) (b := 77) d_Cu_multiply_110 rfl (jw_Cu_add.jo (by decide)) lm_Cu_97 ji_Cu_add js_Cu_add hTa.1.1 rfl rfl rfl (Nat.le_of_ble_eq_true rfl) (by decide) (by decide) (v_Cu_add (tx := 208) (ty := 209) (tz := 210) (tt := 211) hTa.1 a2.pq a2 (hTa.2.2.2 dg (by omega) hdl) (cvF.onM oP _) (cvF.onM oP _) (by decide +kernel) (by decide +kernel) (tabG dg hdl) (by decide) (by decide) (by decide) (by decide) (by decide) (by decide) (by decide) (by decide) (by decide) (by decide) (by decide) (by decide) (by decide) (by decide)) (fun r Mb hq => ?_)
      obtain ⟨rfl, b1, b2, b3⟩ := hq
      have hTb : TBL Mb 16 P := ⟨b1, (b3 86 (by decide)).trans hTa.2.1, fun g hg => (hTa.2.2.1 g hg).kp b3 (tb_207 g hg 103 (by decide)) (tb_207 g hg 104 (by decide)) (tb_207 g hg 105 (by decide)) (tb_207 g hg 106 (by decide)) (tb_207 g hg 107 (by decide)), fun g g1 g2 => (hTa.2.2.2 g g1 g2).kp b3 (tb_207 g g2 103 (by decide)) (tb_207 g g2 104 (by decide)) (tb_207 g g2 105 (by decide)) (tb_207 g g2 106 (by decide)) (tb_207 g g2 107 (by decide))⟩
      refine T_eq (pc' := 113) (L' := [(5, .int (nI dg)), (4, .int (nI j)), (0, .ref 77), (1, .ref 207), (2, .ref sp), (3, .ref p)]) (st' := []) (M' := Mb) rfl rfl rfl rfl ?_
      refine T_iinc (x := nI j) (L' := [(4, .int (nI j - 1)), (5, .int (nI dg)), (0, .ref 77), (1, .ref 207), (2, .ref sp), (3, .ref p)]) d_Cu_multiply_113 (by decide) rfl (by rw [nI_dm]; rfl) ?_
      refine T_goto (tgt := 66) d_Cu_multiply_116 rfl ?_
      have e := x_16 x j
      rw [← hdg] at e
      rw [← cvF.mul_add oP, ← e] at b2
      exact T_sub (L' := [(4, .int (nI j - 1)), (0, .ref 77), (1, .ref 207), (2, .ref sp), (3, .ref p)]) (fun q hq => by simp only [List.mem_cons, List.not_mem_nil, or_false] at hq ⊢; rcases hq with rfl | rfl | rfl | rfl | rfl <;> simp) (ih Mb (by omega) ⟨hTb, b2, Kp.tr (Kp.tr hK a3) b3⟩)
set_option maxHeartbeats 8000000 in
theorem y_Cu_mul_188_188 {G : GX} {M : List va_E} {sp : Nat} {l : List UInt8} {P : Fp × Fp} (hcu : CU M) (hp : PC M 188 189 190 191 192 P) (oP : OnP fD P) (hs : BA M sp 32 l) (hl : l.length = 32) (hsp : sp ∉ cuW) (hsp2 : sp ∉ [189, 190, 191, 192]) (k_sp : K0 ≤ sp) : CT G mi_Cu_multiply [.ref 77, .ref 188, .ref sp, .ref 188] M (fun r M' => r = none ∧ CU M' ∧ PC M' 188 189 190 191 192 (emul fD P (leN l 32)) ∧ Kp (189 :: 190 :: 191 :: 192 :: cuW) M M') := by
  obtain ⟨c1, c2, c3, c4, c5⟩ := hcu
  refine CT.of (by decide) (Nat.le_of_ble_eq_true rfl) ?_
  show TT G mi_Cu_multiply 0 [(0, .ref 77), (1, .ref 188), (2, .ref sp), (3, .ref 188)] [] M 0 0 _
  refine T_know (fun hK0 => ?_)
  refine T_aload_n (v := .ref 77) d_Cu_multiply_0 rfl (Or.inr ⟨_, rfl⟩) ?_
  refine T_getfield (v := .ref 86) d_Cu_multiply_1 fg_Cu_18 c1.1 rfl ?_
  refine T_iconst (v := nI 1) d_Cu_multiply_4 (by decide) ?_
  refine N_aaload (k := 1) (p := 108) (C0 := "PasswordGate$Point") d_Cu_multiply_5 (by decide) c2 rfl (by omega) (by decide) rfl ?_
  refine T_aload_n (v := .ref 188) d_Cu_multiply_6 rfl (Or.inr ⟨_, rfl⟩) ?_
  refine T_virtual (as := [.ref 188]) (rest := []) (b := 108) d_Cu_multiply_7 rfl (jw_Po_copy.jo (by decide)) lm_Cu_93 ji_Po_copy js_Po_copy (c3 1 (by decide)).1 rfl rfl rfl (Nat.le_of_ble_eq_true rfl) (by decide) (by decide) (v_Po_copy (c3 1 (by decide)) hp (by decide +kernel) (by decide) (by decide) (by decide) (by decide) (by decide) (by decide) (by decide) (by decide) (by decide) (by decide) (by decide) (by decide) (by decide) (by decide)) (fun r Ma hq => ?_)
  obtain ⟨rfl, a1, a2⟩ := hq
  refine T_eq (pc' := 10) (L' := [(0, .ref 77), (1, .ref 188), (2, .ref sp), (3, .ref 188)]) (st' := []) (M' := Ma) rfl rfl rfl rfl ?_
  have hT : TBL Ma 2 P := ⟨c1.kp a2 (by decide), (a2 86 (by decide)).trans c2, fun g hg => if e : g = 1 then (by subst e; exact a1.pq) else (c3 g hg).kp a2 (tb_t g hg e 103 (by decide)) (tb_t g hg e 104 (by decide)) (tb_t g hg e 105 (by decide)) (tb_t g hg e 106 (by decide)) (tb_t g hg e 107 (by decide)), fun g g1 g2 => (by have e : g = 1 := (by omega); subst e; rw [cvF.mul_one oP]; exact a1)⟩
  refine T_iconst (v := nI 2) d_Cu_multiply_10 (by decide) ?_
  refine T_istore (L' := [(4, .int (nI 2)), (0, .ref 77), (1, .ref 188), (2, .ref sp), (3, .ref 188)]) d_Cu_multiply_11 (by decide) rfl ?_
  refine mt_lp G oP (fun Mb hI => ?_) 14 2 Ma rfl ⟨by decide, hT, Kp.rf⟩
  obtain ⟨-, hTb, hkb⟩ := hI
  refine T_aload_n (v := .ref 188) d_Cu_multiply_52 rfl (Or.inr ⟨_, rfl⟩) ?_
  refine T_getstatic (q := ("PasswordGate$Curve", "ZERO", "[J", .ref 11)) d_Cu_multiply_53 (List.mem_of_getElem? (i := 11) rfl) gs_Cu_100 (show 11 < K0 by decide) ?_
  refine T_getstatic (q := ("PasswordGate$Field", "ONE", "[J", .ref 3)) d_Cu_multiply_56 (List.mem_of_getElem? (i := 3) rfl) gs_Cu_103 (show 3 < K0 by decide) ?_
  have h11 : RV Mb 11 cv_11 1 := ⟨_, (hkb 11 (by decide)).trans ((a2 11 (by decide)).trans (hK0 11 (by decide))), vt_11⟩
  have h3 : RV Mb 3 cv_3 1 := ⟨_, (hkb 3 (by decide)).trans ((a2 3 (by decide)).trans (hK0 3 (by decide))), vt_3⟩
  refine T_virtual (as := [.ref 11, .ref 3]) (rest := []) (b := 188) d_Cu_multiply_59 rfl (jw_Po_setPlain.jo (by decide)) lm_Cu_106 ji_Po_setPlain js_Po_setPlain (hp.pq.kp a2 (by decide) (by decide) (by decide) (by decide) (by decide) |>.kp hkb (by decide) (by decide) (by decide) (by decide) (by decide)).1 rfl rfl rfl (Nat.le_of_ble_eq_true rfl) (by decide) (by decide) (v_Po_plain (P := (0, 1)) ((hp.pq.kp a2 (by decide) (by decide) (by decide) (by decide) (by decide)).kp hkb (by decide) (by decide) (by decide) (by decide) (by decide)) h11 h3 (by decide) (by decide) ph_11 ph_3 (by decide) (by decide) (by decide) (by decide) (by decide) (by decide) (by decide) (by decide) (by decide) (by decide) (by decide) (by decide) (by decide) (by decide)) (fun r Mc hq => ?_)
  obtain ⟨rfl, d1, d2⟩ := hq
  refine T_eq (pc' := 62) (L' := [(0, .ref 77), (1, .ref 188), (2, .ref sp), (3, .ref 188)]) (st' := []) (M' := Mc) rfl rfl rfl rfl ?_
  have hTc : TBL Mc 16 P := ⟨hTb.1.kp d2 (by decide), (d2 86 (by decide)).trans hTb.2.1, fun g hg => (hTb.2.2.1 g hg).kp d2 (tc_188 g hg 103 (by decide)) (tc_188 g hg 104 (by decide)) (tc_188 g hg 105 (by decide)) (tc_188 g hg 106 (by decide)) (tc_188 g hg 107 (by decide)), fun g g1 g2 => (hTb.2.2.2 g g1 g2).kp d2 (tc_188 g g2 103 (by decide)) (tc_188 g g2 104 (by decide)) (tc_188 g g2 105 (by decide)) (tc_188 g g2 106 (by decide)) (tc_188 g g2 107 (by decide))⟩
  refine T_bipush (v := nI 63) d_Cu_multiply_62 (by decide) ?_
  refine T_istore (L' := [(4, .int (nI 63)), (0, .ref 77), (1, .ref 188), (2, .ref sp), (3, .ref 188)]) d_Cu_multiply_64 (by decide) rfl ?_
  refine T_eq (pc' := 66) (L' := [(4, .int (nI (63 + 1) - 1)), (0, .ref 77), (1, .ref 188), (2, .ref sp), (3, .ref 188)]) (st' := []) (M' := Mc) rfl (by rw [nI_pp]) rfl rfl ?_
  have nsp : sp ∉ [94, 95, 96, 97, 98, 99, 100, 102, 189, 190, 191, 192] := fun c => by
    have : ∀ q ∈ [94, 95, 96, 97, 98, 99, 100, 102, 189, 190, 191, 192], q ∈ cuW ∨ q ∈ [189, 190, 191, 192] := by decide +kernel
    exact (this sp c).elim hsp hsp2
  have s1 := hs.kp a2 (fun c => hsp ((by decide +kernel : ∀ q ∈ [109, 110, 111, 112], q ∈ cuW) sp c))
  have s2 := s1.kp hkb (fun c => hsp ((by decide +kernel : ∀ q ∈ tbW, q ∈ cuW) sp c))
  have s3 := s2.kp d2 hsp2
  refine mm_188 G oP rfl hl s3 nsp k_sp (fun Md hI => ?_) 64 Mc (by decide) ⟨hTc, by rw [Nat.div_eq_of_lt (show leN l 32 < 16 ^ 64 from leN_lt l 32)]; exact d1, Kp.rf⟩
  obtain ⟨hTd, e1, e2⟩ := hI
  rw [Nat.pow_zero, Nat.div_one] at e1
  have K : Kp (189 :: 190 :: 191 :: 192 :: cuW) M Md := Kp.tr (Kp.tr (Kp.tr (a2.mono (by decide +kernel)) (hkb.mono (by decide +kernel))) (d2.mono (by decide +kernel))) (e2.mono (by decide +kernel))
  exact T_vret d_Cu_multiply_119 rfl (by decide) (by decide) ⟨rfl, ⟨hTd.1, hTd.2.1, hTd.2.2.1, (((c4.kp a2 (by decide) (by decide) (by decide) (by decide) (by decide)).kp hkb (by decide) (by decide) (by decide) (by decide) (by decide)).kp d2 (by decide) (by decide) (by decide) (by decide) (by decide)).kp e2 (by decide) (by decide) (by decide) (by decide) (by decide), (((c5.kp a2 (by decide) (by decide)).kp hkb (by decide) (by decide)).kp d2 (by decide) (by decide)).kp e2 (by decide) (by decide)⟩, e1, K⟩
set_option maxHeartbeats 8000000 in
theorem y_Cu_mul_207_207 {G : GX} {M : List va_E} {sp : Nat} {l : List UInt8} {P : Fp × Fp} (hcu : CU M) (hp : PC M 207 208 209 210 211 P) (oP : OnP fD P) (hs : BA M sp 32 l) (hl : l.length = 32) (hsp : sp ∉ cuW) (hsp2 : sp ∉ [208, 209, 210, 211]) (k_sp : K0 ≤ sp) : CT G mi_Cu_multiply [.ref 77, .ref 207, .ref sp, .ref 207] M (fun r M' => r = none ∧ CU M' ∧ PC M' 207 208 209 210 211 (emul fD P (leN l 32)) ∧ Kp (208 :: 209 :: 210 :: 211 :: cuW) M M') := by
  obtain ⟨c1, c2, c3, c4, c5⟩ := hcu
  refine CT.of (by decide) (Nat.le_of_ble_eq_true rfl) ?_
  show TT G mi_Cu_multiply 0 [(0, .ref 77), (1, .ref 207), (2, .ref sp), (3, .ref 207)] [] M 0 0 _
  refine T_know (fun hK0 => ?_)
  refine T_aload_n (v := .ref 77) d_Cu_multiply_0 rfl (Or.inr ⟨_, rfl⟩) ?_
  refine T_getfield (v := .ref 86) d_Cu_multiply_1 fg_Cu_18 c1.1 rfl ?_
  refine T_iconst (v := nI 1) d_Cu_multiply_4 (by decide) ?_
  refine N_aaload (k := 1) (p := 108) (C0 := "PasswordGate$Point") d_Cu_multiply_5 (by decide) c2 rfl (by omega) (by decide) rfl ?_
  refine T_aload_n (v := .ref 207) d_Cu_multiply_6 rfl (Or.inr ⟨_, rfl⟩) ?_
  refine T_virtual (as := [.ref 207]) (rest := []) (b := 108) d_Cu_multiply_7 rfl (jw_Po_copy.jo (by decide)) lm_Cu_93 ji_Po_copy js_Po_copy (c3 1 (by decide)).1 rfl rfl rfl (Nat.le_of_ble_eq_true rfl) (by decide) (by decide) (v_Po_copy (c3 1 (by decide)) hp (by decide +kernel) (by decide) (by decide) (by decide) (by decide) (by decide) (by decide) (by decide) (by decide) (by decide) (by decide) (by decide) (by decide) (by decide) (by decide)) (fun r Ma hq => ?_)
  obtain ⟨rfl, a1, a2⟩ := hq
  refine T_eq (pc' := 10) (L' := [(0, .ref 77), (1, .ref 207), (2, .ref sp), (3, .ref 207)]) (st' := []) (M' := Ma) rfl rfl rfl rfl ?_
  have hT : TBL Ma 2 P := ⟨c1.kp a2 (by decide), (a2 86 (by decide)).trans c2, fun g hg => if e : g = 1 then (by subst e; exact a1.pq) else (c3 g hg).kp a2 (tb_t g hg e 103 (by decide)) (tb_t g hg e 104 (by decide)) (tb_t g hg e 105 (by decide)) (tb_t g hg e 106 (by decide)) (tb_t g hg e 107 (by decide)), fun g g1 g2 => (by have e : g = 1 := (by omega); subst e; rw [cvF.mul_one oP]; exact a1)⟩
  refine T_iconst (v := nI 2) d_Cu_multiply_10 (by decide) ?_
  refine T_istore (L' := [(4, .int (nI 2)), (0, .ref 77), (1, .ref 207), (2, .ref sp), (3, .ref 207)]) d_Cu_multiply_11 (by decide) rfl ?_
  refine mt_lp G oP (fun Mb hI => ?_) 14 2 Ma rfl ⟨by decide, hT, Kp.rf⟩
  obtain ⟨-, hTb, hkb⟩ := hI
  refine T_aload_n (v := .ref 207) d_Cu_multiply_52 rfl (Or.inr ⟨_, rfl⟩) ?_
  refine T_getstatic (q := ("PasswordGate$Curve", "ZERO", "[J", .ref 11)) d_Cu_multiply_53 (List.mem_of_getElem? (i := 11) rfl) gs_Cu_100 (show 11 < K0 by decide) ?_
  refine T_getstatic (q := ("PasswordGate$Field", "ONE", "[J", .ref 3)) d_Cu_multiply_56 (List.mem_of_getElem? (i := 3) rfl) gs_Cu_103 (show 3 < K0 by decide) ?_
  have h11 : RV Mb 11 cv_11 1 := ⟨_, (hkb 11 (by decide)).trans ((a2 11 (by decide)).trans (hK0 11 (by decide))), vt_11⟩
  have h3 : RV Mb 3 cv_3 1 := ⟨_, (hkb 3 (by decide)).trans ((a2 3 (by decide)).trans (hK0 3 (by decide))), vt_3⟩
  refine T_virtual (as := [.ref 11, .ref 3]) (rest := []) (b := 207) d_Cu_multiply_59 rfl (jw_Po_setPlain.jo (by decide)) lm_Cu_106 ji_Po_setPlain js_Po_setPlain (hp.pq.kp a2 (by decide) (by decide) (by decide) (by decide) (by decide) |>.kp hkb (by decide) (by decide) (by decide) (by decide) (by decide)).1 rfl rfl rfl (Nat.le_of_ble_eq_true rfl) (by decide) (by decide) (v_Po_plain (P := (0, 1)) ((hp.pq.kp a2 (by decide) (by decide) (by decide) (by decide) (by decide)).kp hkb (by decide) (by decide) (by decide) (by decide) (by decide)) h11 h3 (by decide) (by decide) ph_11 ph_3 (by decide) (by decide) (by decide) (by decide) (by decide) (by decide) (by decide) (by decide) (by decide) (by decide) (by decide) (by decide) (by decide) (by decide)) (fun r Mc hq => ?_)
  obtain ⟨rfl, d1, d2⟩ := hq
  refine T_eq (pc' := 62) (L' := [(0, .ref 77), (1, .ref 207), (2, .ref sp), (3, .ref 207)]) (st' := []) (M' := Mc) rfl rfl rfl rfl ?_
  have hTc : TBL Mc 16 P := ⟨hTb.1.kp d2 (by decide), (d2 86 (by decide)).trans hTb.2.1, fun g hg => (hTb.2.2.1 g hg).kp d2 (tc_207 g hg 103 (by decide)) (tc_207 g hg 104 (by decide)) (tc_207 g hg 105 (by decide)) (tc_207 g hg 106 (by decide)) (tc_207 g hg 107 (by decide)), fun g g1 g2 => (hTb.2.2.2 g g1 g2).kp d2 (tc_207 g g2 103 (by decide)) (tc_207 g g2 104 (by decide)) (tc_207 g g2 105 (by decide)) (tc_207 g g2 106 (by decide)) (tc_207 g g2 107 (by decide))⟩
  refine T_bipush (v := nI 63) d_Cu_multiply_62 (by decide) ?_
  refine T_istore (L' := [(4, .int (nI 63)), (0, .ref 77), (1, .ref 207), (2, .ref sp), (3, .ref 207)]) d_Cu_multiply_64 (by decide) rfl ?_
  refine T_eq (pc' := 66) (L' := [(4, .int (nI (63 + 1) - 1)), (0, .ref 77), (1, .ref 207), (2, .ref sp), (3, .ref 207)]) (st' := []) (M' := Mc) rfl (by rw [nI_pp]) rfl rfl ?_
  have nsp : sp ∉ [94, 95, 96, 97, 98, 99, 100, 102, 208, 209, 210, 211] := fun c => by
    have : ∀ q ∈ [94, 95, 96, 97, 98, 99, 100, 102, 208, 209, 210, 211], q ∈ cuW ∨ q ∈ [208, 209, 210, 211] := by decide +kernel
    exact (this sp c).elim hsp hsp2
  have s1 := hs.kp a2 (fun c => hsp ((by decide +kernel : ∀ q ∈ [109, 110, 111, 112], q ∈ cuW) sp c))
  have s2 := s1.kp hkb (fun c => hsp ((by decide +kernel : ∀ q ∈ tbW, q ∈ cuW) sp c))
  have s3 := s2.kp d2 hsp2
  refine mm_207 G oP rfl hl s3 nsp k_sp (fun Md hI => ?_) 64 Mc (by decide) ⟨hTc, by rw [Nat.div_eq_of_lt (show leN l 32 < 16 ^ 64 from leN_lt l 32)]; exact d1, Kp.rf⟩
  obtain ⟨hTd, e1, e2⟩ := hI
  rw [Nat.pow_zero, Nat.div_one] at e1
  have K : Kp (208 :: 209 :: 210 :: 211 :: cuW) M Md := Kp.tr (Kp.tr (Kp.tr (a2.mono (by decide +kernel)) (hkb.mono (by decide +kernel))) (d2.mono (by decide +kernel))) (e2.mono (by decide +kernel))
  exact T_vret d_Cu_multiply_119 rfl (by decide) (by decide) ⟨rfl, ⟨hTd.1, hTd.2.1, hTd.2.2.1, (((c4.kp a2 (by decide) (by decide) (by decide) (by decide) (by decide)).kp hkb (by decide) (by decide) (by decide) (by decide) (by decide)).kp d2 (by decide) (by decide) (by decide) (by decide) (by decide)).kp e2 (by decide) (by decide) (by decide) (by decide) (by decide), (((c5.kp a2 (by decide) (by decide)).kp hkb (by decide) (by decide)).kp d2 (by decide) (by decide)).kp e2 (by decide) (by decide)⟩, e1, K⟩
set_option maxHeartbeats 8000000 in
theorem y_Cu_mul_207_193 {G : GX} {M : List va_E} {sp : Nat} {l : List UInt8} {P : Fp × Fp} (hcu : CU M) (hto : PQ M 207 208 209 210 211) (hp : PC M 193 194 195 196 197 P) (oP : OnP fD P) (hs : BA M sp 32 l) (hl : l.length = 32) (hsp : sp ∉ cuW) (hsp2 : sp ∉ [208, 209, 210, 211]) (k_sp : K0 ≤ sp) : CT G mi_Cu_multiply [.ref 77, .ref 207, .ref sp, .ref 193] M (fun r M' => r = none ∧ CU M' ∧ PC M' 207 208 209 210 211 (emul fD P (leN l 32)) ∧ Kp (208 :: 209 :: 210 :: 211 :: cuW) M M') := by
  obtain ⟨c1, c2, c3, c4, c5⟩ := hcu
  refine CT.of (by decide) (Nat.le_of_ble_eq_true rfl) ?_
  show TT G mi_Cu_multiply 0 [(0, .ref 77), (1, .ref 207), (2, .ref sp), (3, .ref 193)] [] M 0 0 _
  refine T_know (fun hK0 => ?_)
  refine T_aload_n (v := .ref 77) d_Cu_multiply_0 rfl (Or.inr ⟨_, rfl⟩) ?_
  refine T_getfield (v := .ref 86) d_Cu_multiply_1 fg_Cu_18 c1.1 rfl ?_
  refine T_iconst (v := nI 1) d_Cu_multiply_4 (by decide) ?_
  refine N_aaload (k := 1) (p := 108) (C0 := "PasswordGate$Point") d_Cu_multiply_5 (by decide) c2 rfl (by omega) (by decide) rfl ?_
  refine T_aload_n (v := .ref 193) d_Cu_multiply_6 rfl (Or.inr ⟨_, rfl⟩) ?_
  refine T_virtual (as := [.ref 193]) (rest := []) (b := 108) d_Cu_multiply_7 rfl (jw_Po_copy.jo (by decide)) lm_Cu_93 ji_Po_copy js_Po_copy (c3 1 (by decide)).1 rfl rfl rfl (Nat.le_of_ble_eq_true rfl) (by decide) (by decide) (v_Po_copy (c3 1 (by decide)) hp (by decide +kernel) (by decide) (by decide) (by decide) (by decide) (by decide) (by decide) (by decide) (by decide) (by decide) (by decide) (by decide) (by decide) (by decide) (by decide)) (fun r Ma hq => ?_)
  obtain ⟨rfl, a1, a2⟩ := hq
  refine T_eq (pc' := 10) (L' := [(0, .ref 77), (1, .ref 207), (2, .ref sp), (3, .ref 193)]) (st' := []) (M' := Ma) rfl rfl rfl rfl ?_
  have hT : TBL Ma 2 P := ⟨c1.kp a2 (by decide), (a2 86 (by decide)).trans c2, fun g hg => if e : g = 1 then (by subst e; exact a1.pq) else (c3 g hg).kp a2 (tb_t g hg e 103 (by decide)) (tb_t g hg e 104 (by decide)) (tb_t g hg e 105 (by decide)) (tb_t g hg e 106 (by decide)) (tb_t g hg e 107 (by decide)), fun g g1 g2 => (by have e : g = 1 := (by omega); subst e; rw [cvF.mul_one oP]; exact a1)⟩
  refine T_iconst (v := nI 2) d_Cu_multiply_10 (by decide) ?_
  refine T_istore (L' := [(4, .int (nI 2)), (0, .ref 77), (1, .ref 207), (2, .ref sp), (3, .ref 193)]) d_Cu_multiply_11 (by decide) rfl ?_
  refine mt_lp G oP (fun Mb hI => ?_) 14 2 Ma rfl ⟨by decide, hT, Kp.rf⟩
  obtain ⟨-, hTb, hkb⟩ := hI
  refine T_aload_n (v := .ref 207) d_Cu_multiply_52 rfl (Or.inr ⟨_, rfl⟩) ?_
  refine T_getstatic (q := ("PasswordGate$Curve", "ZERO", "[J", .ref 11)) d_Cu_multiply_53 (List.mem_of_getElem? (i := 11) rfl) gs_Cu_100 (show 11 < K0 by decide) ?_
  refine T_getstatic (q := ("PasswordGate$Field", "ONE", "[J", .ref 3)) d_Cu_multiply_56 (List.mem_of_getElem? (i := 3) rfl) gs_Cu_103 (show 3 < K0 by decide) ?_
  have h11 : RV Mb 11 cv_11 1 := ⟨_, (hkb 11 (by decide)).trans ((a2 11 (by decide)).trans (hK0 11 (by decide))), vt_11⟩
  have h3 : RV Mb 3 cv_3 1 := ⟨_, (hkb 3 (by decide)).trans ((a2 3 (by decide)).trans (hK0 3 (by decide))), vt_3⟩
  refine T_virtual (as := [.ref 11, .ref 3]) (rest := []) (b := 207) d_Cu_multiply_59 rfl (jw_Po_setPlain.jo (by decide)) lm_Cu_106 ji_Po_setPlain js_Po_setPlain (hto.kp a2 (by decide) (by decide) (by decide) (by decide) (by decide) |>.kp hkb (by decide) (by decide) (by decide) (by decide) (by decide)).1 rfl rfl rfl (Nat.le_of_ble_eq_true rfl) (by decide) (by decide) (v_Po_plain (P := (0, 1)) ((hto.kp a2 (by decide) (by decide) (by decide) (by decide) (by decide)).kp hkb (by decide) (by decide) (by decide) (by decide) (by decide)) h11 h3 (by decide) (by decide) ph_11 ph_3 (by decide) (by decide) (by decide) (by decide) (by decide) (by decide) (by decide) (by decide) (by decide) (by decide) (by decide) (by decide) (by decide) (by decide)) (fun r Mc hq => ?_)
  obtain ⟨rfl, d1, d2⟩ := hq
  refine T_eq (pc' := 62) (L' := [(0, .ref 77), (1, .ref 207), (2, .ref sp), (3, .ref 193)]) (st' := []) (M' := Mc) rfl rfl rfl rfl ?_
  have hTc : TBL Mc 16 P := ⟨hTb.1.kp d2 (by decide), (d2 86 (by decide)).trans hTb.2.1, fun g hg => (hTb.2.2.1 g hg).kp d2 (tc_207 g hg 103 (by decide)) (tc_207 g hg 104 (by decide)) (tc_207 g hg 105 (by decide)) (tc_207 g hg 106 (by decide)) (tc_207 g hg 107 (by decide)), fun g g1 g2 => (hTb.2.2.2 g g1 g2).kp d2 (tc_207 g g2 103 (by decide)) (tc_207 g g2 104 (by decide)) (tc_207 g g2 105 (by decide)) (tc_207 g g2 106 (by decide)) (tc_207 g g2 107 (by decide))⟩
  refine T_bipush (v := nI 63) d_Cu_multiply_62 (by decide) ?_
  refine T_istore (L' := [(4, .int (nI 63)), (0, .ref 77), (1, .ref 207), (2, .ref sp), (3, .ref 193)]) d_Cu_multiply_64 (by decide) rfl ?_
  refine T_eq (pc' := 66) (L' := [(4, .int (nI (63 + 1) - 1)), (0, .ref 77), (1, .ref 207), (2, .ref sp), (3, .ref 193)]) (st' := []) (M' := Mc) rfl (by rw [nI_pp]) rfl rfl ?_
  have nsp : sp ∉ [94, 95, 96, 97, 98, 99, 100, 102, 208, 209, 210, 211] := fun c => by
    have : ∀ q ∈ [94, 95, 96, 97, 98, 99, 100, 102, 208, 209, 210, 211], q ∈ cuW ∨ q ∈ [208, 209, 210, 211] := by decide +kernel
    exact (this sp c).elim hsp hsp2
  have s1 := hs.kp a2 (fun c => hsp ((by decide +kernel : ∀ q ∈ [109, 110, 111, 112], q ∈ cuW) sp c))
  have s2 := s1.kp hkb (fun c => hsp ((by decide +kernel : ∀ q ∈ tbW, q ∈ cuW) sp c))
  have s3 := s2.kp d2 hsp2
  refine mm_207 G oP rfl hl s3 nsp k_sp (fun Md hI => ?_) 64 Mc (by decide) ⟨hTc, by rw [Nat.div_eq_of_lt (show leN l 32 < 16 ^ 64 from leN_lt l 32)]; exact d1, Kp.rf⟩
  obtain ⟨hTd, e1, e2⟩ := hI
  rw [Nat.pow_zero, Nat.div_one] at e1
  have K : Kp (208 :: 209 :: 210 :: 211 :: cuW) M Md := Kp.tr (Kp.tr (Kp.tr (a2.mono (by decide +kernel)) (hkb.mono (by decide +kernel))) (d2.mono (by decide +kernel))) (e2.mono (by decide +kernel))
  exact T_vret d_Cu_multiply_119 rfl (by decide) (by decide) ⟨rfl, ⟨hTd.1, hTd.2.1, hTd.2.2.1, (((c4.kp a2 (by decide) (by decide) (by decide) (by decide) (by decide)).kp hkb (by decide) (by decide) (by decide) (by decide) (by decide)).kp d2 (by decide) (by decide) (by decide) (by decide) (by decide)).kp e2 (by decide) (by decide) (by decide) (by decide) (by decide), (((c5.kp a2 (by decide) (by decide)).kp hkb (by decide) (by decide)).kp d2 (by decide) (by decide)).kp e2 (by decide) (by decide)⟩, e1, K⟩
set_option maxHeartbeats 8000000 in
theorem y_Cu_mul_207_188 {G : GX} {M : List va_E} {sp : Nat} {l : List UInt8} {P : Fp × Fp} (hcu : CU M) (hto : PQ M 207 208 209 210 211) (hp : PC M 188 189 190 191 192 P) (oP : OnP fD P) (hs : BA M sp 32 l) (hl : l.length = 32) (hsp : sp ∉ cuW) (hsp2 : sp ∉ [208, 209, 210, 211]) (k_sp : K0 ≤ sp) : CT G mi_Cu_multiply [.ref 77, .ref 207, .ref sp, .ref 188] M (fun r M' => r = none ∧ CU M' ∧ PC M' 207 208 209 210 211 (emul fD P (leN l 32)) ∧ Kp (208 :: 209 :: 210 :: 211 :: cuW) M M') := by
  obtain ⟨c1, c2, c3, c4, c5⟩ := hcu
  refine CT.of (by decide) (Nat.le_of_ble_eq_true rfl) ?_
  show TT G mi_Cu_multiply 0 [(0, .ref 77), (1, .ref 207), (2, .ref sp), (3, .ref 188)] [] M 0 0 _
  refine T_know (fun hK0 => ?_)
  refine T_aload_n (v := .ref 77) d_Cu_multiply_0 rfl (Or.inr ⟨_, rfl⟩) ?_
  refine T_getfield (v := .ref 86) d_Cu_multiply_1 fg_Cu_18 c1.1 rfl ?_
  refine T_iconst (v := nI 1) d_Cu_multiply_4 (by decide) ?_
  refine N_aaload (k := 1) (p := 108) (C0 := "PasswordGate$Point") d_Cu_multiply_5 (by decide) c2 rfl (by omega) (by decide) rfl ?_
  refine T_aload_n (v := .ref 188) d_Cu_multiply_6 rfl (Or.inr ⟨_, rfl⟩) ?_
  refine T_virtual (as := [.ref 188]) (rest := []) (b := 108) d_Cu_multiply_7 rfl (jw_Po_copy.jo (by decide)) lm_Cu_93 ji_Po_copy js_Po_copy (c3 1 (by decide)).1 rfl rfl rfl (Nat.le_of_ble_eq_true rfl) (by decide) (by decide) (v_Po_copy (c3 1 (by decide)) hp (by decide +kernel) (by decide) (by decide) (by decide) (by decide) (by decide) (by decide) (by decide) (by decide) (by decide) (by decide) (by decide) (by decide) (by decide) (by decide)) (fun r Ma hq => ?_)
  obtain ⟨rfl, a1, a2⟩ := hq
  refine T_eq (pc' := 10) (L' := [(0, .ref 77), (1, .ref 207), (2, .ref sp), (3, .ref 188)]) (st' := []) (M' := Ma) rfl rfl rfl rfl ?_
  have hT : TBL Ma 2 P := ⟨c1.kp a2 (by decide), (a2 86 (by decide)).trans c2, fun g hg => if e : g = 1 then (by subst e; exact a1.pq) else (c3 g hg).kp a2 (tb_t g hg e 103 (by decide)) (tb_t g hg e 104 (by decide)) (tb_t g hg e 105 (by decide)) (tb_t g hg e 106 (by decide)) (tb_t g hg e 107 (by decide)), fun g g1 g2 => (by have e : g = 1 := (by omega); subst e; rw [cvF.mul_one oP]; exact a1)⟩
  refine T_iconst (v := nI 2) d_Cu_multiply_10 (by decide) ?_
  refine T_istore (L' := [(4, .int (nI 2)), (0, .ref 77), (1, .ref 207), (2, .ref sp), (3, .ref 188)]) d_Cu_multiply_11 (by decide) rfl ?_
  refine mt_lp G oP (fun Mb hI => ?_) 14 2 Ma rfl ⟨by decide, hT, Kp.rf⟩
  obtain ⟨-, hTb, hkb⟩ := hI
  refine T_aload_n (v := .ref 207) d_Cu_multiply_52 rfl (Or.inr ⟨_, rfl⟩) ?_
  refine T_getstatic (q := ("PasswordGate$Curve", "ZERO", "[J", .ref 11)) d_Cu_multiply_53 (List.mem_of_getElem? (i := 11) rfl) gs_Cu_100 (show 11 < K0 by decide) ?_
  refine T_getstatic (q := ("PasswordGate$Field", "ONE", "[J", .ref 3)) d_Cu_multiply_56 (List.mem_of_getElem? (i := 3) rfl) gs_Cu_103 (show 3 < K0 by decide) ?_
  have h11 : RV Mb 11 cv_11 1 := ⟨_, (hkb 11 (by decide)).trans ((a2 11 (by decide)).trans (hK0 11 (by decide))), vt_11⟩
  have h3 : RV Mb 3 cv_3 1 := ⟨_, (hkb 3 (by decide)).trans ((a2 3 (by decide)).trans (hK0 3 (by decide))), vt_3⟩
  refine T_virtual (as := [.ref 11, .ref 3]) (rest := []) (b := 207) d_Cu_multiply_59 rfl (jw_Po_setPlain.jo (by decide)) lm_Cu_106 ji_Po_setPlain js_Po_setPlain (hto.kp a2 (by decide) (by decide) (by decide) (by decide) (by decide) |>.kp hkb (by decide) (by decide) (by decide) (by decide) (by decide)).1 rfl rfl rfl (Nat.le_of_ble_eq_true rfl) (by decide) (by decide) (v_Po_plain (P := (0, 1)) ((hto.kp a2 (by decide) (by decide) (by decide) (by decide) (by decide)).kp hkb (by decide) (by decide) (by decide) (by decide) (by decide)) h11 h3 (by decide) (by decide) ph_11 ph_3 (by decide) (by decide) (by decide) (by decide) (by decide) (by decide) (by decide) (by decide) (by decide) (by decide) (by decide) (by decide) (by decide) (by decide)) (fun r Mc hq => ?_)
  obtain ⟨rfl, d1, d2⟩ := hq
  refine T_eq (pc' := 62) (L' := [(0, .ref 77), (1, .ref 207), (2, .ref sp), (3, .ref 188)]) (st' := []) (M' := Mc) rfl rfl rfl rfl ?_
  have hTc : TBL Mc 16 P := ⟨hTb.1.kp d2 (by decide), (d2 86 (by decide)).trans hTb.2.1, fun g hg => (hTb.2.2.1 g hg).kp d2 (tc_207 g hg 103 (by decide)) (tc_207 g hg 104 (by decide)) (tc_207 g hg 105 (by decide)) (tc_207 g hg 106 (by decide)) (tc_207 g hg 107 (by decide)), fun g g1 g2 => (hTb.2.2.2 g g1 g2).kp d2 (tc_207 g g2 103 (by decide)) (tc_207 g g2 104 (by decide)) (tc_207 g g2 105 (by decide)) (tc_207 g g2 106 (by decide)) (tc_207 g g2 107 (by decide))⟩
  refine T_bipush (v := nI 63) d_Cu_multiply_62 (by decide) ?_
  refine T_istore (L' := [(4, .int (nI 63)), (0, .ref 77), (1, .ref 207), (2, .ref sp), (3, .ref 188)]) d_Cu_multiply_64 (by decide) rfl ?_
  refine T_eq (pc' := 66) (L' := [(4, .int (nI (63 + 1) - 1)), (0, .ref 77), (1, .ref 207), (2, .ref sp), (3, .ref 188)]) (st' := []) (M' := Mc) rfl (by rw [nI_pp]) rfl rfl ?_
  have nsp : sp ∉ [94, 95, 96, 97, 98, 99, 100, 102, 208, 209, 210, 211] := fun c => by
    have : ∀ q ∈ [94, 95, 96, 97, 98, 99, 100, 102, 208, 209, 210, 211], q ∈ cuW ∨ q ∈ [208, 209, 210, 211] := by decide +kernel
    exact (this sp c).elim hsp hsp2
  have s1 := hs.kp a2 (fun c => hsp ((by decide +kernel : ∀ q ∈ [109, 110, 111, 112], q ∈ cuW) sp c))
  have s2 := s1.kp hkb (fun c => hsp ((by decide +kernel : ∀ q ∈ tbW, q ∈ cuW) sp c))
  have s3 := s2.kp d2 hsp2
  refine mm_207 G oP rfl hl s3 nsp k_sp (fun Md hI => ?_) 64 Mc (by decide) ⟨hTc, by rw [Nat.div_eq_of_lt (show leN l 32 < 16 ^ 64 from leN_lt l 32)]; exact d1, Kp.rf⟩
  obtain ⟨hTd, e1, e2⟩ := hI
  rw [Nat.pow_zero, Nat.div_one] at e1
  have K : Kp (208 :: 209 :: 210 :: 211 :: cuW) M Md := Kp.tr (Kp.tr (Kp.tr (a2.mono (by decide +kernel)) (hkb.mono (by decide +kernel))) (d2.mono (by decide +kernel))) (e2.mono (by decide +kernel))
  exact T_vret d_Cu_multiply_119 rfl (by decide) (by decide) ⟨rfl, ⟨hTd.1, hTd.2.1, hTd.2.2.1, (((c4.kp a2 (by decide) (by decide) (by decide) (by decide) (by decide)).kp hkb (by decide) (by decide) (by decide) (by decide) (by decide)).kp d2 (by decide) (by decide) (by decide) (by decide) (by decide)).kp e2 (by decide) (by decide) (by decide) (by decide) (by decide), (((c5.kp a2 (by decide) (by decide)).kp hkb (by decide) (by decide)).kp d2 (by decide) (by decide)).kp e2 (by decide) (by decide)⟩, e1, K⟩
set_option maxHeartbeats 8000000 in
theorem y_Cu_mulB {G : GX} {M : List va_E} {sp : Nat} {l : List UInt8} (hcu : CU M) (hto : PQ M 207 208 209 210 211) (hs : BA M sp 32 l) (hl : l.length = 32) (hsp : sp ∉ cuW) (hsp2 : sp ∉ [208, 209, 210, 211]) (k_sp : K0 ≤ sp) : CT G mi_Cu_multiplyBase [.ref 77, .ref 207, .ref sp] M (fun r M' => r = none ∧ CU M' ∧ PC M' 207 208 209 210 211 (emul fD (bX, bY) (leN l 32)) ∧ Kp (208 :: 209 :: 210 :: 211 :: cuW) M M') := by
  refine CT.of (by decide) (Nat.le_of_ble_eq_true rfl) ?_
  show TT G mi_Cu_multiplyBase 0 [(0, .ref 77), (1, .ref 207), (2, .ref sp)] [] M 0 0 _
  refine T_know (fun hK0 => ?_)
  refine T_aload_n (v := .ref 207) d_Cu_multiplyBase_0 rfl (Or.inr ⟨_, rfl⟩) ?_
  refine T_getstatic (q := ("PasswordGate$Curve", "BASE_X", "[J", .ref 12)) d_Cu_multiplyBase_1 (List.mem_of_getElem? (i := 12) rfl) gs_Cu_114 (show 12 < K0 by decide) ?_
  refine T_getstatic (q := ("PasswordGate$Curve", "BASE_Y", "[J", .ref 13)) d_Cu_multiplyBase_4 (List.mem_of_getElem? (i := 13) rfl) gs_Cu_117 (show 13 < K0 by decide) ?_
  have h12 : RV M 12 cv_12 1 := ⟨_, hK0 12 (by decide), vt_12⟩
  have h13 : RV M 13 cv_13 1 := ⟨_, hK0 13 (by decide), vt_13⟩
  refine T_virtual (as := [.ref 12, .ref 13]) (rest := []) (b := 207) d_Cu_multiplyBase_7 rfl (jw_Po_setPlain.jo (by decide)) lm_Cu_106 ji_Po_setPlain js_Po_setPlain hto.1 rfl rfl rfl (Nat.le_of_ble_eq_true rfl) (by decide) (by decide) (v_Po_plain (P := (bX, bY)) hto h12 h13 (by decide) (by decide) ph_12 ph_13 (by decide) (by decide) (by decide) (by decide) (by decide) (by decide) (by decide) (by decide) (by decide) (by decide) (by decide) (by decide) (by decide) (by decide)) (fun r Ma hq => ?_)
  obtain ⟨rfl, a1, a2⟩ := hq
  refine T_eq (pc' := 10) (L' := [(0, .ref 77), (1, .ref 207), (2, .ref sp)]) (st' := []) (M' := Ma) rfl rfl rfl rfl ?_
  refine T_aload_n (v := .ref 77) d_Cu_multiplyBase_10 rfl (Or.inr ⟨_, rfl⟩) ?_
  refine T_aload_n (v := .ref 207) d_Cu_multiplyBase_11 rfl (Or.inr ⟨_, rfl⟩) ?_
  refine T_aload_n (v := .ref sp) d_Cu_multiplyBase_12 rfl (Or.inr ⟨_, rfl⟩) ?_
  refine T_aload_n (v := .ref 207) d_Cu_multiplyBase_13 rfl (Or.inr ⟨_, rfl⟩) ?_
  have h_1 := (a2 77 (by decide)).trans (hcu.1.1)
  refine T_virtual (as := [.ref 207, .ref sp, .ref 207]) (rest := []) (b := 77) d_Cu_multiplyBase_14 rfl (jw_Cu_multiply.jo (by decide)) lm_Cu_120 ji_Cu_multiply js_Cu_multiply h_1 rfl rfl rfl (Nat.le_of_ble_eq_true rfl) (by decide) (by decide) (y_Cu_mul_207_207 (hcu.kp a2 (by decide)) a1 b_on (hs.kp a2 hsp2) hl hsp hsp2 k_sp) (fun r Mb hq => ?_)
  obtain ⟨rfl, b1, b2, b3⟩ := hq
  refine T_eq (pc' := 17) (L' := [(0, .ref 77), (1, .ref 207), (2, .ref sp)]) (st' := []) (M' := Mb) rfl rfl rfl rfl ?_
  exact T_vret d_Cu_multiplyBase_17 rfl (by decide) (by decide) ⟨rfl, b1, b2, Kp.tr (a2.mono (by decide +kernel)) b3⟩
set_option maxHeartbeats 4000000 in
theorem x_Cu_decode2 (G : GX) {M : List va_E} {fr at0 m po X Y Z T len : Nat} {f D : Nat → Int32} (hc : M[77]? = some cuO) (ho : M[78]? = some foO) (h79 : Rq M 79) (h80 : Rq M 80) (h81 : Rq M 81) (h82 : Rq M 82) (h83 : Rq M 83) (h84 : Rq M 84) (h85 : Rq M 85) (h94 : Rq M 94) (h95 : Rq M 95) (h96 : Rq M 96) (h97 : Rq M 97) (h98 : Rq M 98) (h99 : Rq M 99) (h100 : Rq M 100) (h101 : Rq M 101) (h102 : Rq M 102) (hag : M[92]? = some (byO 93 len)) (had : M[93]? = some (br 32 D)) (hfr : M[fr]? = some (br m f)) (bfr : 102 < fr) (hm : at0 + 32 ≤ m) (hm2 : m < 2 ^ 30) (hp : M[po]? = some (poO X Y Z T)) (hX : Rq M X) (hY : Rq M Y) (hZ : Rq M Z) (hT : Rq M T) (bp : 102 < po) (bX : 102 < X) (bY : 102 < Y) (bZ : 102 < Z) (bT : 102 < T) (d_T_X : T ≠ X) (d_T_Y : T ≠ Y) (d_T_Z : T ≠ Z) (d_X_T : X ≠ T) (d_X_Y : X ≠ Y) (d_X_Z : X ≠ Z) (d_Y_T : Y ≠ T) (d_Y_X : Y ≠ X) (d_Y_Z : Y ≠ Z) (d_Z_T : Z ≠ T) (d_Z_X : Z ≠ X) (d_Z_Y : Z ≠ Y) (d_po_T : po ≠ T) (d_po_X : po ≠ X) (d_po_Y : po ≠ Y) (d_po_Z : po ≠ Z) : CT G mi_Cu_decode [.ref 77, .ref fr, .int (nI at0), .ref po] M (fun r M' => r = some (.int (nI (if decB (num32 fun k => (f (at0 + k)).toInt % 256) then 1 else 0))) ∧ (decB (num32 fun k => (f (at0 + k)).toInt % 256) = true → Rv M' X (dE ((num32 fun k => (f (at0 + k)).toInt % 256) % n255)) 2 ∧ Rv M' Y (dG ((num32 fun k => (f (at0 + k)).toInt % 256) % n255)) 1 ∧ Rv M' Z 1 1 ∧ Rv M' T (dE ((num32 fun k => (f (at0 + k)).toInt % 256) % n255) * dG ((num32 fun k => (f (at0 + k)).toInt % 256) % n255)) 1) ∧ (∃ D', M'[92]? = some (byO 93 32) ∧ M'[93]? = some (br 32 D')) ∧ (Rq M' 79 ∧ Rq M' 80 ∧ Rq M' 81 ∧ Rq M' 82 ∧ Rq M' 83 ∧ Rq M' 84 ∧ Rq M' 85 ∧ Rq M' 94 ∧ Rq M' 95 ∧ Rq M' 96 ∧ Rq M' 97 ∧ Rq M' 98 ∧ Rq M' 99 ∧ Rq M' 100 ∧ Rq M' 101 ∧ Rq M' 102) ∧ Kp [79, 80, 81, 82, 83, 84, 85, 92, 93, 94, 95, 96, 97, 98, 99, 100, 101, 102, X, Y, Z, T] M M' ∧ Rq M' X ∧ Rq M' Y ∧ Rq M' Z ∧ Rq M' T) := by
  refine CT.of (by decide) (Nat.le_of_ble_eq_true rfl) ?_
  show TT G mi_Cu_decode 0 [(0, .ref 77), (1, .ref fr), (2, .int (nI at0)), (3, .ref po)] [] M 0 0 _
  refine T_fit (fun hfit0 => ?_)
  have hfit := hfit0 fr m f hfr
  clear hfit0
  obtain ⟨H2, h102a⟩ := h102
  obtain ⟨W9, h79a⟩ := h79
  obtain ⟨N, hN⟩ : ∃ z : Int, z = num32 (fun k => (f (at0 + k)).toInt % 256) := ⟨_, rfl⟩
  rw [← hN]
  have m6 : ∀ q, 102 < q → ∀ k, k ≤ 102 → q ≠ k := fun q hq k hk => by omega
  have nA : ∀ q, 102 < q → q ∉ [79, 92, 93, 102] := fun q hq c => by simp only [List.mem_cons, List.not_mem_nil, or_false] at c; omega
  refine T_iload_n d_Cu_decode_0 rfl ?_
  refine T_if_lt d_Cu_decode_1 (tgt := 13) rfl (fun c => absurd c (nI_pos (by omega))) (fun _ => ?_)
  refine T_iload_n d_Cu_decode_4 rfl ?_
  refine T_bipush (v := nI 32) d_Cu_decode_5 (by decide) ?_
  refine T_iadd d_Cu_decode_7 ?_
  rw [nI_add]
  refine T_aload_n (v := .ref fr) d_Cu_decode_8 rfl (Or.inr ⟨_, rfl⟩) ?_
  refine T_alen (v := nI m) (ty := .byte) d_Cu_decode_9 (by unfold K0; omega) hfr rfl rfl ?_
  refine T_icmp_le d_Cu_decode_10 (tgt := 15) rfl (fun _ => ?_) (fun c => absurd ((nI_leI (by omega) (by omega)).mpr hm) c)
  refine T_aload_n (v := .ref 77) d_Cu_decode_15 rfl (Or.inr ⟨_, rfl⟩) ?_
  refine T_getfield d_Cu_decode_16 fg_Cu_61 hc rfl ?_
  refine T_aload_n (v := .ref fr) d_Cu_decode_19 rfl (Or.inr ⟨_, rfl⟩) ?_
  refine T_iload_n d_Cu_decode_20 rfl ?_
  refine T_static (as := [.ref 102, .ref fr, .int (nI at0)]) (rest := []) d_Cu_decode_21 rfl (jw_Fi_load.jo (by decide)) lm_Cu_146 jt_Fi_load rfl (by decide) (by decide) (by decide) (x_Fi_load G (by decide) h102a hfr (Ne.symm (m6 fr bfr 102 (by decide))) hm hm2) (fun r M1 hq => ?_)
  obtain ⟨rfl, F1, eM1, kF⟩ := hq
  rw [← hN] at kF
  have V1 := load_V kF
  clear kF
  have x1 : Ex 102 M M1 := by rw [eM1]; exact set_ex
  have f1 : M1[102]? = some (lr 10 F1) := by rw [eM1]; exact List.getElem?_set_self (X_len h102a)
  refine T_eq (pc' := 24) (L' := [(0, .ref 77), (1, .ref fr), (2, .int (nI at0)), (3, .ref po)]) (st' := []) (M' := M1) rfl rfl rfl rfl ?_
  refine T_aload_n (v := .ref 77) d_Cu_decode_24 rfl (Or.inr ⟨_, rfl⟩) ?_
  refine T_getfield d_Cu_decode_25 fg_Cu_32 ((x1 77 (by decide)).trans hc) rfl ?_
  refine T_virtual (as := []) (rest := []) (b := 92) d_Cu_decode_28 rfl (jw_By_clear.jo (by decide)) lm_Cu_150 ji_By_clear js_By_clear ((x1 92 (by decide)).trans hag) rfl rfl rfl (Nat.le_of_ble_eq_true rfl) (by decide) (by decide) (x_By_clear G ((x1 92 (by decide)).trans hag)) (fun r M2 hq => ?_)
  obtain ⟨rfl, eM2⟩ := hq
  have x2 : Ex 92 M1 M2 := by rw [eM2]; exact set_ex
  have g92 : M2[92]? = some (byO 93 0) := by rw [eM2]; exact List.getElem?_set_self (X_len ((x1 92 (by decide)).trans hag))
  refine T_eq (pc' := 31) (L' := [(0, .ref 77), (1, .ref fr), (2, .int (nI at0)), (3, .ref po)]) (st' := []) (M' := M2) rfl rfl rfl rfl ?_
  have t2 : ∀ q, q ≠ 92 → q ≠ 102 → M2[q]? = M[q]? := fun q a b => (x2 q a).trans (x1 q b)
  have c2 := (t2 77 (by decide) (by decide)).trans hc
  refine T_aload_n (v := .ref 77) d_Cu_decode_31 rfl (Or.inr ⟨_, rfl⟩) ?_
  refine T_getfield d_Cu_decode_32 fg_Cu_10 c2 rfl ?_
  refine T_aload_n (v := .ref 77) d_Cu_decode_35 rfl (Or.inr ⟨_, rfl⟩) ?_
  refine T_getfield d_Cu_decode_36 fg_Cu_61 c2 rfl ?_
  refine T_aload_n (v := .ref 77) d_Cu_decode_39 rfl (Or.inr ⟨_, rfl⟩) ?_
  refine T_getfield d_Cu_decode_40 fg_Cu_32 c2 rfl ?_
  have o2 := (t2 78 (by decide) (by decide)).trans ho
  refine T_virtual (as := [.ref 102, .ref 92]) (rest := []) (b := 78) d_Cu_decode_43 rfl (jw_Fi_save.jo (by decide)) lm_Cu_142 ji_Fi_save js_Fi_save o2 rfl rfl rfl (Nat.le_of_ble_eq_true rfl) (by decide) (by decide) (x_Fi_save G o2 ((t2 79 (by decide) (by decide)).trans h79a) ((x2 102 (by decide)).trans f1) V1 (by decide) g92 ((t2 93 (by decide) (by decide)).trans had) (by decide) (by decide) (by decide) (by decide) (by decide) (by decide) (by decide) (by decide)) (fun r M3 hq => ?_)
  obtain ⟨rfl, W3, eM3⟩ := hq
  refine T_eq (pc' := 46) (L' := [(0, .ref 77), (1, .ref fr), (2, .int (nI at0)), (3, .ref po)]) (st' := []) (M' := M3) rfl rfl rfl rfl ?_
  have kp3 : Kp [79, 92, 93, 102] M M3 := by
    rw [eM3]
    exact Kp.ex (Kp.ex (Kp.ex (Kp.ex (Kp.ex Kp.rf x1 (by decide)) x2 (by decide)) set_ex (by decide)) set_ex (by decide)) set_ex (by decide)
  have l2 : ∀ q e, M[q]? = some e → q < M2.length := fun q e h => by rw [eM2, eM1, List.length_set, List.length_set]; exact X_len h
  have q92 : M3[92]? = some (byO 93 32) := by rw [eM3]; exact List.getElem?_set_self (by rw [List.length_set, List.length_set]; exact l2 _ _ hag)
  obtain ⟨D3, hD3⟩ : ∃ z : Nat → Int32, z = bq 0 32 (fun k => sb ((N % n255) % pP / 256 ^ k % 256)) D := ⟨_, rfl⟩
  have q93 : M3[93]? = some (br 32 D3) := by rw [eM3, hD3]; exact X_ne (List.getElem?_set_self (by rw [List.length_set]; exact l2 _ _ had)) (by decide)
  have q79 : Rq M3 79 := ⟨W3, by rw [eM3]; exact X_ne (X_ne (List.getElem?_set_self (l2 _ _ h79a)) (by decide)) (by decide)⟩
  have q102 : Rv M3 102 (N % n255) 1 := ⟨F1, by rw [eM3]; exact X_ne (X_ne (X_ne ((x2 102 (by decide)).trans f1) (by decide)) (by decide)) (by decide), V1⟩
  clear eM1 eM2 eM3 x1 x2 t2 c2 o2 g92 f1 V1 l2 h102a h79a
  have c3 := (kp3 77 (by decide)).trans hc; have o3 := (kp3 78 (by decide)).trans ho
  have p80 := h80.kp kp3 (by decide)
  have p81 := h81.kp kp3 (by decide)
  have p82 := h82.kp kp3 (by decide)
  have p83 := h83.kp kp3 (by decide)
  have p84 := h84.kp kp3 (by decide)
  have p85 := h85.kp kp3 (by decide)
  have p94 := h94.kp kp3 (by decide)
  have p95 := h95.kp kp3 (by decide)
  have p96 := h96.kp kp3 (by decide)
  have p97 := h97.kp kp3 (by decide)
  have p98 := h98.kp kp3 (by decide)
  have p99 := h99.kp kp3 (by decide)
  have p100 := h100.kp kp3 (by decide)
  have p101 := h101.kp kp3 (by decide)
  have fr3 := (kp3 fr (nA fr bfr)).trans hfr; have po3 := (kp3 po (nA po bp)).trans hp
  have pX := hX.kp kp3 (nA X bX)
  have pY := hY.kp kp3 (nA Y bY)
  have pZ := hZ.kp kp3 (nA Z bZ)
  have pT := hT.kp kp3 (nA T bT)
  have kpA : Kp [79, 80, 81, 82, 83, 84, 85, 92, 93, 94, 95, 96, 97, 98, 99, 100, 101, 102, X, Y, Z, T] M M3 := kp3.mono (by intro q hq; simp only [List.mem_cons, List.not_mem_nil, or_false] at hq; rcases hq with rfl | rfl | rfl | rfl <;> simp)
  have hY0 : 0 ≤ N % n255 % pP := Int.emod_nonneg _ (by decide)
  have hY1 : N % n255 % pP < 2 ^ 256 := Int.lt_trans (Int.emod_lt_of_pos _ pP_pos) (by decide)
  refine T_aload_n (v := .ref 77) d_Cu_decode_46 rfl (Or.inr ⟨_, rfl⟩) ?_
  refine T_getfield d_Cu_decode_47 fg_Cu_32 c3 rfl ?_
  refine T_iconst (v := nI 0) d_Cu_decode_50 (by decide) ?_
  refine T_aload_n (v := .ref fr) d_Cu_decode_51 rfl (Or.inr ⟨_, rfl⟩) ?_
  refine T_iload_n d_Cu_decode_52 rfl ?_
  refine T_virtual (as := [.int (nI 0), .ref fr, .int (nI at0)]) (rest := []) (b := 92) d_Cu_decode_53 rfl (jw_By_endsLike.jo (by decide)) lm_Cu_153 ji_By_endsLike js_By_endsLike q92 rfl rfl rfl (Nat.le_of_ble_eq_true rfl) (by decide) (by decide) (x_By_endsLike G q92 q93 fr3 (by unfold K0; omega) (by decide) (by decide) hm hm2) (fun r M3b hq => ?_)
  obtain ⟨⟨z, rfl, hz⟩, rfl⟩ := hq
  rw [hD3] at hz
  rw [ends_iff hfit hY0 hY1, ← hN] at hz
  rcases hz with ⟨rfl, hz⟩ | ⟨rfl, hz⟩
  · refine T_if_eq d_Cu_decode_56 (tgt := 85) rfl (fun c => absurd c (by decide)) (fun _ => ?_)
    refine T_aload_n (v := .ref 77) d_Cu_decode_59 rfl (Or.inr ⟨_, rfl⟩) ?_
    refine T_getfield d_Cu_decode_60 fg_Cu_10 c3 rfl ?_
    refine T_aload_n (v := .ref 77) d_Cu_decode_63 rfl (Or.inr ⟨_, rfl⟩) ?_
    refine T_getfield d_Cu_decode_64 fg_Cu_61 c3 rfl ?_
    refine T_visodd d_Cu_decode_67 (jw_Fi_isOdd.jo (by decide)) lm_Cu_127 (by decide) (by decide) (by decide) o3 q79 q102 (by decide) (fun M4 w4 s4 => ?_)
    have kpB : Kp [79, 80, 81, 82, 83, 84, 85, 92, 93, 94, 95, 96, 97, 98, 99, 100, 101, 102, X, Y, Z, T] M M4 := Kp.ex kpA s4 (by simp)
    by_cases hO : (N % n255 % pP) % 2 = 1
    · rw [if_pos hO]
      refine T_if_ne d_Cu_decode_70 (tgt := 85) rfl (fun _ => ?_) (fun c => absurd c (by decide))
      refine T_iconst (v := nI 0) d_Cu_decode_85 (by decide) ?_
      have hB : decB N = false := by unfold decB; rw [decide_eq_true hO]; simp
      exact T_ret d_Cu_decode_86 rfl (by decide) (by decide) (by decide) ⟨by rw [hB]; rfl, fun c => absurd (hB.symm.trans c) (by decide), ⟨_, (s4 92 (by decide)).trans q92, (s4 93 (by decide)).trans q93⟩, ⟨w4, p80.st s4 (by decide), p81.st s4 (by decide), p82.st s4 (by decide), p83.st s4 (by decide), p84.st s4 (by decide), p85.st s4 (by decide), p94.st s4 (by decide), p95.st s4 (by decide), p96.st s4 (by decide), p97.st s4 (by decide), p98.st s4 (by decide), p99.st s4 (by decide), p100.st s4 (by decide), p101.st s4 (by decide), (q102.st s4 (by decide)).rq⟩, kpB, pX.st s4 (m6 X bX 79 (by decide)), pY.st s4 (m6 Y bY 79 (by decide)), pZ.st s4 (m6 Z bZ 79 (by decide)), pT.st s4 (m6 T bT 79 (by decide))⟩
    · rw [if_neg hO]
      refine T_if_ne d_Cu_decode_70 (tgt := 85) rfl (fun c => absurd rfl c) (fun _ => ?_)
      refine T_aload_n (v := .ref 77) d_Cu_decode_73 rfl (Or.inr ⟨_, rfl⟩) ?_
      refine T_aload_n (v := .ref po) d_Cu_decode_74 rfl (Or.inr ⟨_, rfl⟩) ?_
      have c4 := (s4 77 (by decide)).trans c3
      refine T_virtual (as := [.ref po]) (rest := []) (b := 77) d_Cu_decode_75 rfl (jw_Cu_solve.jo (by decide)) lm_Cu_157 ji_Cu_solve js_Cu_solve c4 rfl rfl rfl (Nat.le_of_ble_eq_true rfl) (by decide) (by decide) (v_Cu_solve G c4 ((s4 78 (by decide)).trans o3) (q102.st s4 (by decide)) w4 (p80.st s4 (by decide)) (p81.st s4 (by decide)) (p82.st s4 (by decide)) (p83.st s4 (by decide)) (p84.st s4 (by decide)) (p85.st s4 (by decide)) (p94.st s4 (by decide)) (p95.st s4 (by decide)) (p96.st s4 (by decide)) (p97.st s4 (by decide)) (p98.st s4 (by decide)) (p99.st s4 (by decide)) (p100.st s4 (by decide)) (p101.st s4 (by decide)) ((s4 po (m6 po bp 79 (by decide))).trans po3) (pX.st s4 (m6 X bX 79 (by decide))) (pY.st s4 (m6 Y bY 79 (by decide))) (pZ.st s4 (m6 Z bZ 79 (by decide))) (pT.st s4 (m6 T bT 79 (by decide))) bp bX bY bZ bT d_T_X d_T_Y d_T_Z d_X_T d_X_Y d_X_Z d_Y_T d_Y_X d_Y_Z d_Z_T d_Z_X d_Z_Y d_po_T d_po_X d_po_Y d_po_Z) (fun r M5 hq => ?_)
      obtain ⟨rfl, hval, kp5, rows5, xX, xY, xZ, xT⟩ := hq
      have nZ : ∀ q, q ≤ 102 → q ∉ [79, 80, 81, 82, 83, 84, 85, 94, 95, 96, 97, 98, 99, 100, 101] → q ∉ [79, 80, 81, 82, 83, 84, 85, 94, 95, 96, 97, 98, 99, 100, 101, X, Y, Z, T] := fun q h1 h2 c => by
        rcases List.mem_append.mp (show q ∈ [79, 80, 81, 82, 83, 84, 85, 94, 95, 96, 97, 98, 99, 100, 101] ++ [X, Y, Z, T] from c) with h | h
        · exact h2 h
        · simp only [List.mem_cons, List.not_mem_nil, or_false] at h; omega
      have kpC : Kp [79, 80, 81, 82, 83, 84, 85, 92, 93, 94, 95, 96, 97, 98, 99, 100, 101, 102, X, Y, Z, T] M M5 := Kp.tr kpB (kp5.mono (by intro q hq; simp only [List.mem_cons, List.not_mem_nil, or_false] at hq ⊢; omega))
      have u92 := (kp5 92 (nZ 92 (by decide) (by decide))).trans ((s4 92 (by decide)).trans q92); have u93 := (kp5 93 (nZ 93 (by decide) (by decide))).trans ((s4 93 (by decide)).trans q93); have u102 := (q102.st s4 (by decide)).kp kp5 (nZ 102 (by decide) (by decide))
      have hE : N % n255 % pP = N := hz
      cases hS : dOK (N % n255) with
      | false =>
        refine T_if_eq d_Cu_decode_78 (tgt := 85) rfl (fun _ => ?_) (fun c => absurd rfl c)
        refine T_iconst (v := nI 0) d_Cu_decode_85 (by decide) ?_
        have hB : decB N = false := by unfold decB; rw [hS]; simp
        exact T_ret d_Cu_decode_86 rfl (by decide) (by decide) (by decide) ⟨by rw [hB]; rfl, fun c => absurd (hB.symm.trans c) (by decide), ⟨_, u92, u93⟩, ⟨rows5 79 (by simp), rows5 80 (by simp), rows5 81 (by simp), rows5 82 (by simp), rows5 83 (by simp), rows5 84 (by simp), rows5 85 (by simp), rows5 94 (by simp), rows5 95 (by simp), rows5 96 (by simp), rows5 97 (by simp), rows5 98 (by simp), rows5 99 (by simp), rows5 100 (by simp), rows5 101 (by simp), u102.rq⟩, kpC, xX, xY, xZ, xT⟩
      | true =>
        refine T_if_eq d_Cu_decode_78 (tgt := 85) rfl (fun c => absurd c (by decide)) (fun _ => ?_)
        refine T_iconst (v := nI 1) d_Cu_decode_81 (by decide) ?_
        refine T_goto (tgt := 86) d_Cu_decode_82 rfl ?_
        have hB : decB N = true := by unfold decB; rw [hS, decide_eq_true hE, decide_eq_false hO]; rfl
        exact T_ret d_Cu_decode_86 rfl (by decide) (by decide) (by decide) ⟨by rw [hB]; rfl, fun _ => hval hS, ⟨_, u92, u93⟩, ⟨rows5 79 (by simp), rows5 80 (by simp), rows5 81 (by simp), rows5 82 (by simp), rows5 83 (by simp), rows5 84 (by simp), rows5 85 (by simp), rows5 94 (by simp), rows5 95 (by simp), rows5 96 (by simp), rows5 97 (by simp), rows5 98 (by simp), rows5 99 (by simp), rows5 100 (by simp), rows5 101 (by simp), u102.rq⟩, kpC, xX, xY, xZ, xT⟩
  · refine T_if_eq d_Cu_decode_56 (tgt := 85) rfl (fun _ => ?_) (fun c => absurd rfl c)
    refine T_iconst (v := nI 0) d_Cu_decode_85 (by decide) ?_
    have hB : decB N = false := by unfold decB; rw [decide_eq_false hz]; rfl
    exact T_ret d_Cu_decode_86 rfl (by decide) (by decide) (by decide) ⟨by rw [hB]; rfl, fun c => absurd (hB.symm.trans c) (by decide), ⟨_, q92, q93⟩, ⟨q79, p80, p81, p82, p83, p84, p85, p94, p95, p96, p97, p98, p99, p100, p101, q102.rq⟩, kpA, pX, pY, pZ, pT⟩
def nB (l : List UInt8) (a : Nat) : Int := num32 (fun k => ((gd l (a + k)).toNat : Int))
theorem num32_congr {b c : Nat → Int} (h : ∀ k, k < 32 → b k = c k) : num32 b = num32 c := by rw [num32_sum, num32_sum]; exact sumN_congr h
theorem ph_dB (s : Int) : ph (dB s) = qB (ph s) := by unfold dB qB; rw [ph_add, ph_mul, ph_3]
theorem ph_dA (s : Int) : ph (dA s) = qA (ph s) := by unfold dA qA; rw [ph_sub, ph_mul, ph_3]
theorem ph_dF (s : Int) : ph (dF s) = qF (ph s) := by unfold dF qF; rw [ph_neg, ph_add, ph_mul, ph_mul, ph_mul, ph_dA, ph_dB, ph_5]
theorem ph_dC (s : Int) : ph (dC s) = qC (ph s) := by unfold dC qC; rw [ph_mul, ph_mul, ph_dB, ph_dF]
theorem ph_dR (s : Int) : ph (dR s) = qR (ph s) := by unfold dR qR; rw [ph_rt, ph_dC, ph_3]
theorem ph_dE (s : Int) : ph (dE s) = qE (ph s) := by unfold dE qE; rw [ph_ab]; unfold dE0; rw [ph_add, ph_mul, ph_mul, ph_dR, ph_dB]
theorem ph_dG (s : Int) : ph (dG s) = qG (ph s) := by unfold dG qG; rw [ph_mul, ph_mul, ph_mul, ph_mul, ph_dR, ph_dA, ph_dB, ph_dF]
theorem dOK_q (s : Int) : dOK s = true ↔ qOK (ph s) := by
  unfold dOK qOK
  rw [Bool.and_eq_true, Bool.and_eq_true, decide_eq_true_iff, Bool.not_eq_true', Bool.not_eq_true', decide_eq_false_iff_not, decide_eq_false_iff_not, rtG_1, ph_dC, ph_3]
  have e1 : ¬ (dH s % pP) % 2 = 1 ↔ ¬ od (qE (ph s) * qG (ph s)) := by rw [← ph_dE, ← ph_dG, ← ph_mul, od_ph]; rfl
  have e2 : ¬ dG s % pP = 0 ↔ qG (ph s) ≠ 0 := by rw [← ph_dG, Ne, ph_z]
  rw [e1, e2]
theorem decB_d {N : Int} (h0 : 0 ≤ N) : decB N = true ↔ dec N := by
  unfold decB dec
  rw [Bool.and_eq_true, Bool.and_eq_true, decide_eq_true_iff, Bool.not_eq_true', decide_eq_false_iff_not, dOK_q]
  constructor
  · rintro ⟨a, b, c⟩
    have l : N < pP := by rw [← a]; exact Int.emod_lt_of_pos _ (by decide)
    have e : N % n255 = N := Int.emod_eq_of_lt h0 (by unfold n255; unfold pP at l; omega)
    rw [e] at a b c
    exact ⟨by rw [e]; exact a, fun z => b (od_ph.mp z), c⟩
  · rintro ⟨a, b, c⟩
    have l : N < pP := by rw [← a]; exact Int.emod_lt_of_pos _ (by decide)
    have e : N % n255 = N := Int.emod_eq_of_lt h0 (by unfold n255; unfold pP at l; omega)
    rw [e] at a ⊢
    exact ⟨a, fun z => b (od_ph.mpr z), c⟩
theorem dec_mod {N : Int} (h0 : 0 ≤ N) (h : dec N) : N % n255 = N := by
  have a := h.1
  have l : N < pP := by rw [← a]; exact Int.emod_lt_of_pos _ (by decide)
  exact Int.emod_eq_of_lt h0 (by unfold n255; unfold pP at l; omega)
theorem nB_0 (l : List UInt8) (a : Nat) : 0 ≤ nB l a := (num32_hi (b := fun k => (gd l (a + k)).toNat) (fun k _ => (gd l (a + k)).toNat_lt)).1
def dPt (N : Int) : Fp × Fp := (qE (ph N), qG (ph N))
theorem dPt_on {N : Int} (h : dec N) : OnP fD (dPt N) := q_on h.2.2.1
theorem pj_pl' (a b : Fp) : Pj (a, b) a b 1 (a * b) := ⟨one_ne, (Lean.Grind.Semiring.mul_one a).symm, (Lean.Grind.Semiring.mul_one b).symm, (Lean.Grind.Semiring.mul_one (a * b)).symm⟩
set_option maxHeartbeats 8000000 in
theorem y_Cu_decode {G : GX} {M : List va_E} {fr at0 m po X Y Z T : Nat} {l : List UInt8} (hcu : CU M) (hf : BA M fr m l) (hto : PQ M po X Y Z T) (hl : at0 + 32 ≤ l.length) (hm2 : m < 2 ^ 30) (bfr : 182 < fr) (bp : 182 < po) (bX : 182 < X) (bY : 182 < Y) (bZ : 182 < Z) (bT : 182 < T) (n1 : X ≠ Y) (n2 : X ≠ Z) (n3 : X ≠ T) (n4 : Y ≠ Z) (n5 : Y ≠ T) (n6 : Z ≠ T) (m1 : po ≠ X) (m2 : po ≠ Y) (m3 : po ≠ Z) (m4 : po ≠ T) : CT G mi_Cu_decode [.ref 77, .ref fr, .int (nI at0), .ref po] M (fun r M' => r = some (.int (nI (if dec (nB l at0) then 1 else 0))) ∧ CU M' ∧ (dec (nB l at0) → PC M' po X Y Z T (dPt (nB l at0))) ∧ PQ M' po X Y Z T ∧ Kp (X :: Y :: Z :: T :: cuW) M M') := by
  obtain ⟨c1, c2, c3, c4, ⟨k5, c5⟩, D, c6⟩ := hcu
  obtain ⟨f, f1, f2, f3⟩ := hf
  have hN : num32 (fun k => (f (at0 + k)).toInt % 256) = nB l at0 := num32_congr fun k hk => by rw [f3 _ (by omega), cB_i]
  refine (x_Cu_decode2 G c1.1 c1.2.1 (c1.2.2 79 (by decide)) (c1.2.2 80 (by decide)) (c1.2.2 81 (by decide)) (c1.2.2 82 (by decide)) (c1.2.2 83 (by decide)) (c1.2.2 84 (by decide)) (c1.2.2 85 (by decide)) (c1.2.2 94 (by decide)) (c1.2.2 95 (by decide)) (c1.2.2 96 (by decide)) (c1.2.2 97 (by decide)) (c1.2.2 98 (by decide)) (c1.2.2 99 (by decide)) (c1.2.2 100 (by decide)) (c1.2.2 101 (by decide)) (c1.2.2 102 (by decide)) c5 c6 f1 (by omega) (Nat.le_trans hl f2) hm2 hto.1 hto.2.1 hto.2.2.1 hto.2.2.2.1 hto.2.2.2.2 (by omega) (by omega) (by omega) (by omega) (by omega) (by omega) (by omega) (by omega) (by omega) (by omega) (by omega) (by omega) (by omega) (by omega) (by omega) (by omega) (by omega) (by omega) (by omega) (by omega) (by omega)).post fun r M' q => ?_
  obtain ⟨q1, q2, ⟨D', q3, q4⟩, q5, q6, q7, q8, q9, q10⟩ := q
  rw [hN] at q1 q2
  have hd := decB_d (nB_0 l at0)
  have w : ∀ q ∈ [79, 80, 81, 82, 83, 84, 85, 92, 93, 94, 95, 96, 97, 98, 99, 100, 101, 102, X, Y, Z, T], 103 ≤ q → 182 < q := fun q hq h => by
    simp only [List.mem_cons, List.not_mem_nil, or_false] at hq; omega
  have nn : ∀ q, 103 ≤ q → q ≤ 182 → q ∉ [79, 80, 81, 82, 83, 84, 85, 92, 93, 94, 95, 96, 97, 98, 99, 100, 101, 102, X, Y, Z, T] := fun q h1 h2 c => by have := w q c h1; omega
  have nx : ∀ q, q ∈ [77, 78, 86, 87, 88, 89, 90, 91] → q ∉ [79, 80, 81, 82, 83, 84, 85, 92, 93, 94, 95, 96, 97, 98, 99, 100, 101, 102, X, Y, Z, T] := fun q h1 c => by
    simp only [List.mem_cons, List.not_mem_nil, or_false] at h1 c; omega
  have np : po ∉ [79, 80, 81, 82, 83, 84, 85, 92, 93, 94, 95, 96, 97, 98, 99, 100, 101, 102, X, Y, Z, T] := fun c => by
    simp only [List.mem_cons, List.not_mem_nil, or_false] at c; omega
  refine ⟨by rw [q1]; by_cases c : dec (nB l at0); rw [if_pos c, if_pos (hd.mpr c)]; rw [if_neg c, if_neg (fun z => c (hd.mp z))], ⟨⟨(q6 77 (nx 77 (by decide))).trans c1.1, (q6 78 (nx 78 (by decide))).trans c1.2.1, ?_⟩, (q6 86 (nx 86 (by decide))).trans c2, fun g hg => (c3 g hg).kp q6 (nn _ (by omega) (by omega)) (nn _ (by omega) (by omega)) (nn _ (by omega) (by omega)) (nn _ (by omega) (by omega)) (nn _ (by omega) (by omega)), c4.kp q6 (nx 87 (by decide)) (nx 88 (by decide)) (nx 89 (by decide)) (nx 90 (by decide)) (nx 91 (by decide)), ?_⟩, fun c => ?_, ⟨(q6 po np).trans hto.1, q7, q8, q9, q10⟩, q6.mono ?_⟩
  · obtain ⟨a1, a2, a3, a4, a5, a6, a7, a8, a9, a10, a11, a12, a13, a14, a15, a16⟩ := q5
    intro q hq
    simp only [List.mem_cons, List.not_mem_nil, or_false] at hq
    rcases hq with rfl | rfl | rfl | rfl | rfl | rfl | rfl | rfl | rfl | rfl | rfl | rfl | rfl | rfl | rfl | rfl <;> assumption
  · exact ⟨⟨_, q3⟩, _, q4⟩
  · have h := q2 (hd.mpr c)
    rw [dec_mod (nB_0 l at0) c] at h
    refine ⟨(q6 po np).trans hto.1, _, _, _, _, h.1, h.2.1, h.2.2.1, h.2.2.2, ?_⟩
    rw [ph_mul, ph_dE, ph_dG, ph_1]
    exact pj_pl' _ _
  · intro q hq
    simp only [List.mem_cons, List.not_mem_nil, or_false] at hq
    rcases hq with rfl | rfl | rfl | rfl | rfl | rfl | rfl | rfl | rfl | rfl | rfl | rfl | rfl | rfl | rfl | rfl | rfl | rfl | rfl | rfl | rfl | rfl
    all_goals first | decide | simp
theorem hi_nin {b q : Nat} (h : b < q) {W : List Nat} (hW : ∀ z ∈ W, z ≤ b) : q ∉ W := fun c => absurd (hW q c) (by omega)
theorem hi_ne {b q z : Nat} (h : b < q) (hz : z ≤ b) : q ≠ z := by omega
def lbF (a : Fp) : List UInt8 := (List.range 32).map fun k => UInt8.ofNat (byF a k)
theorem lbF_len (a : Fp) : (lbF a).length = 32 := by unfold lbF; simp
theorem byF_lt (a : Fp) (k : Nat) : byF a k < 256 := by unfold byF; omega
theorem lbF_gd {a : Fp} {k : Nat} (h : k < 32) : gd (lbF a) k = UInt8.ofNat (byF a k) := mr_gd h
def cP (P : Fp × Fp) : Fp := cF P.1 P.2 1 (P.1 * P.2)
theorem cF_pj {P : Fp × Fp} {X Y Z T : Fp} (h : Pj P X Y Z T) : cF X Y Z T = cP P := by
  obtain ⟨h1, h2, h3, h4⟩ := h
  have e := cF_sc (X := P.1) (Y := P.2) (Z := 1) (T := P.1 * P.2) h1
  rw [Lean.Grind.Semiring.mul_one, Lean.Grind.CommSemiring.mul_comm Z P.1, Lean.Grind.CommSemiring.mul_comm Z P.2, Lean.Grind.CommSemiring.mul_comm Z (P.1 * P.2), ← h2, ← h3, ← h4] at e
  exact e
def enc (P : Fp × Fp) : List UInt8 := lbF (cP P)
theorem enc_len (P : Fp × Fp) : (enc P).length = 32 := lbF_len _
noncomputable def mPt (t : Fp) : Fp × Fp := Classical.choose (m_pj t)
theorem mPt_on (t : Fp) : OnP fD (mPt t) := (Classical.choose_spec (m_pj t)).1
theorem mPt_pj (t : Fp) : Pj (mPt t) (gX_ t) (gY_ t) (gZ_ t) (gT_ t) := (Classical.choose_spec (m_pj t)).2
theorem sb_F (x : Int) (k : Nat) : sb ((x % pP) / 256 ^ k % 256) = cB (UInt8.ofNat (byF (ph x) k)) := by
  rw [← byN_F, ← u8_nI (byN_lt x k), ← cB_u8, ← byN_I]; rfl
set_option maxHeartbeats 8000000 in
theorem y_Fi_save {G : GX} {M : List va_E} {f q d room n : Nat} {x : Int} {l : List UInt8} (ho : M[78]? = some foO) (h79 : Rq M 79) (hf : Rv M f x n) (hn : n ≤ 100) (hb : BY M q d room l) (kd : K0 ≤ d) (hne : q ≠ d) (hr : l.length + 32 ≤ room) (hr2 : room < 2 ^ 30) (n1 : q ≠ 78) (n2 : q ≠ 79) (n3 : d ≠ 78) (n4 : d ≠ 79) : CT G mi_Fi_save [.ref 78, .ref f, .ref q] M (fun r M' => r = none ∧ BY M' q d room (l ++ lbF (ph x)) ∧ Rq M' 79 ∧ Kp [79, q, d] M M') := by
  obtain ⟨F, f1, f2⟩ := hf
  obtain ⟨W, w1⟩ := h79
  obtain ⟨b1, D, b2, b3, b4⟩ := hb
  refine (x_Fi_save G ho w1 f1 f2 hn b1 b2 kd hne hr hr2 n1 n2 n3 n4).post fun r M' h => ?_
  obtain ⟨rfl, W', rfl⟩ := h
  have l79 := X_len w1
  have lq := X_len b1
  have ld := X_len b2
  have e1 : (((M.set 79 (lr 10 W')).set d (br room (bq l.length 32 (fun k => sb ((x % pP) / 256 ^ k % 256)) D))).set q (byO d (l.length + 32)))[q]? = some (byO d (l.length + 32)) := List.getElem?_set_self (by rw [List.length_set, List.length_set]; exact lq)
  have e2 : (((M.set 79 (lr 10 W')).set d (br room (bq l.length 32 (fun k => sb ((x % pP) / 256 ^ k % 256)) D))).set q (byO d (l.length + 32)))[d]? = some (br room (bq l.length 32 (fun k => sb ((x % pP) / 256 ^ k % 256)) D)) := X_ne (List.getElem?_set_self (by rw [List.length_set]; exact ld)) hne
  refine ⟨rfl, BY.up b2 b4 (by rw [e1, List.length_append, lbF_len]) e2 (by rw [List.length_append, lbF_len]; exact hr) (fun i hi => ?_) (fun i hi => ?_), ⟨W', X_ne (X_ne (List.getElem?_set_self l79) n4) n2⟩, fun z hz => ?_⟩
  · unfold bq; rw [if_neg (by omega)]
  · rw [lbF_len] at hi
    unfold bq; rw [if_pos (by omega), show l.length + i - l.length = i by omega, lbF_gd hi]
    exact sb_F x i
  · simp only [List.mem_cons, List.not_mem_nil, or_false, not_or] at hz
    rw [List.getElem?_set_ne (Ne.symm hz.2.1), List.getElem?_set_ne (Ne.symm hz.2.2), List.getElem?_set_ne (Ne.symm hz.1)]
theorem y_Fi_load {G : GX} {M : List va_E} {to fr at0 m : Nat} {l : List UInt8} (kto : K0 ≤ to) (hto : Rq M to) (hf : BA M fr m l) (hne : to ≠ fr) (hl : at0 + 32 ≤ l.length) (hm2 : m < 2 ^ 30) : CT G mi_Fi_load [.ref to, .ref fr, .int (nI at0)] M (fun r M' => r = none ∧ Rv M' to (nB l at0 % n255) 1 ∧ Ex to M M') := by
  obtain ⟨f, f1, f2, f3⟩ := hf
  obtain ⟨H, h1⟩ := hto
  have hN : num32 (fun k => (f (at0 + k)).toInt % 256) = nB l at0 := num32_congr fun k hk => by rw [f3 _ (by omega), cB_i]
  refine (x_Fi_load G kto h1 f1 hne (Nat.le_trans hl f2) hm2).post fun r M' h => ?_
  obtain ⟨rfl, F', rfl, k⟩ := h
  rw [hN] at k
  exact ⟨rfl, ⟨F', List.getElem?_set_self (X_len h1), load_V k⟩, set_ex⟩
