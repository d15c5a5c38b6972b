abbrev bS : Int := 268435456
def sumS (g : Nat → Int) : Nat → Int
  | 0 => 0
  | n + 1 => sumS g n + g n * bS ^ n
theorem sumS_congr {g h : Nat → Int} {n : Nat} (e : ∀ k, k < n → g k = h k) : sumS g n = sumS h n := by
  induction n with
  | zero => rfl
  | succ n ih => show sumS g n + g n * _ = sumS h n + h n * _; rw [ih fun k hk => e k (by omega), e n (by omega)]
theorem bS_pos (n : Nat) : (0 : Int) < bS ^ n := Int.pow_pos (by decide)
theorem sumS_bd {g : Nat → Int} {n : Nat} (h : ∀ k, k < n → 0 ≤ g k ∧ g k < bS) : 0 ≤ sumS g n ∧ sumS g n < bS ^ n := by
  induction n with
  | zero => exact ⟨Int.le_refl 0, show (0 : Int) < bS ^ 0 by decide⟩
  | succ n ih =>
    have i := ih fun k hk => h k (by omega); have q := h n (by omega); have hp := bS_pos n
    have h3 : 0 ≤ g n * bS ^ n := Int.mul_nonneg q.1 (Int.le_of_lt hp)
    have q2 : g n < 268435456 := q.2
    have h4 : g n * bS ^ n ≤ 268435455 * bS ^ n := Int.mul_le_mul_of_nonneg_right (by omega) (Int.le_of_lt hp)
    show 0 ≤ sumS g n + g n * bS ^ n ∧ sumS g n + g n * bS ^ n < bS ^ (n + 1)
    rw [Int.pow_succ]
    generalize bS ^ n = P at *
    show _ ∧ _ < P * 268435456
    omega
theorem sumS_up {f : Nat → Int} {d : Int} {k n : Nat} (hk : k < n) : sumS (fun j => if j = k then f j + d else f j) n = sumS f n + d * bS ^ k := by
  induction n with
  | zero => omega
  | succ n ih =>
    show sumS _ n + (if n = k then f n + d else f n) * bS ^ n = sumS f n + f n * bS ^ n + d * bS ^ k
    by_cases e : n = k
    · subst e
      rw [if_pos rfl, sumS_congr (h := f) (fun j hj => if_neg (by omega)), Int.add_mul]; omega
    · rw [if_neg e, ih (by omega)]; omega
theorem sumS_0 (n : Nat) : sumS (fun _ => 0) n = 0 := by
  induction n with
  | zero => rfl
  | succ n ih => show sumS _ n + 0 * _ = 0; rw [ih, Int.zero_mul]; rfl
theorem sumS_dig {g : Nat → Int} : ∀ {n : Nat}, (∀ k, k < n → 0 ≤ g k ∧ g k < bS) → ∀ {k : Nat}, k < n → sumS g n / bS ^ k % bS = g k := by
  intro n
  induction n with
  | zero => intro _ k hk; omega
  | succ n ih =>
    intro h k hk
    have b := sumS_bd (g := g) (n := n) fun k hk => h k (by omega)
    show (sumS g n + g n * bS ^ n) / bS ^ k % bS = g k
    by_cases e : k = n
    · subst e
      rw [Int.add_mul_ediv_right _ _ (Int.ne_of_gt (bS_pos k)), Int.ediv_eq_zero_of_lt b.1 b.2, Int.zero_add]
      exact Int.emod_eq_of_lt (h k hk).1 (h k hk).2
    · rw [show (bS : Int) ^ n = bS ^ (n - k - 1) * bS * bS ^ k by rw [← Int.pow_succ, ← Int.pow_add]; congr 1; omega, ← Int.mul_assoc, Int.add_mul_ediv_right _ _ (Int.ne_of_gt (bS_pos k)), ← Int.mul_assoc, Int.add_mul_emod_self_right]
      exact ih (fun k hk => h k (by omega)) (by omega)
def LV (H : Nat → Int64) (n : Nat) : Int := sumS (fun i => (H i).toInt) n
def NL (H : Nat → Int64) (V : Int) : Prop := LV H 20 = V ∧ ∀ i, i < 19 → 0 ≤ (H i).toInt ∧ (H i).toInt < bS
def BL (F : Nat → Int64) (b : Int) : Prop := ∀ i, i < 20 → -b ≤ (F i).toInt ∧ (F i).toInt ≤ b
theorem i64_shr (z : Int64) {s : Int64} {k : Nat} (hs : (s.toBitVec.smod 64).toNat = k) : (z >>> s).toInt = z.toInt / 2 ^ k := by
  have h1 := Int64.le_toInt z
  have h2 := Int64.toInt_lt z
  conv => lhs; rw [← Int64.ofInt_toInt z]
  rw [oi_shr s k hs (by omega) (by omega)]
  have hp : (1 : Int) ≤ 2 ^ k := Int.pow_pos (by decide)
  have a1 : z.toInt / 2 ^ k ≤ 9223372036854775807 := by
    rcases Int.lt_or_le z.toInt 0 with h | h
    · have := Int.ediv_neg_of_neg_of_pos h (show (0:Int) < 2 ^ k by omega); omega
    · have := Int.ediv_le_self (2 ^ k) h; omega
  have a2 : -9223372036854775808 ≤ z.toInt / 2 ^ k := by
    rw [Int.le_ediv_iff_mul_le (by omega)]
    have : -9223372036854775808 * (2 : Int) ^ k ≤ -9223372036854775808 := by
      have := Int.mul_le_mul_of_nonneg_left hp (show (0 : Int) ≤ 9223372036854775808 by decide)
      omega
    omega
  exact oi_to a2 (by omega)
theorem i64_add {x y : Int64} (h1 : -9223372036854775808 ≤ x.toInt + y.toInt) (h2 : x.toInt + y.toInt < 9223372036854775808) : (x + y).toInt = x.toInt + y.toInt := by
  have : x + y = Int64.ofInt (x.toInt + y.toInt) := by rw [Int64.ofInt_add, Int64.ofInt_toInt, Int64.ofInt_toInt]
  rw [this, oi_to h1 h2]
theorem i64_sub {x y : Int64} (h1 : -9223372036854775808 ≤ x.toInt - y.toInt) (h2 : x.toInt - y.toInt < 9223372036854775808) : (x - y).toInt = x.toInt - y.toInt := by
  have : x - y = Int64.ofInt (x.toInt - y.toInt) := by rw [Int64.ofInt_sub, Int64.ofInt_toInt, Int64.ofInt_toInt]
  rw [this, oi_to h1 h2]
theorem i64_mul {x y : Int64} (h1 : -9223372036854775808 ≤ x.toInt * y.toInt) (h2 : x.toInt * y.toInt < 9223372036854775808) : (x * y).toInt = x.toInt * y.toInt := by
  have : x * y = Int64.ofInt (x.toInt * y.toInt) := by rw [Int64.ofInt_mul, Int64.ofInt_toInt, Int64.ofInt_toInt]
  rw [this, oi_to h1 h2]
def cy (F : Nat → Int64) : Nat → Int64
  | 0 => 0
  | i + 1 => (F i + cy F i) >>> ((nI 28).toInt64 &&& 63)
def cyH (F : Nat → Int64) (i : Nat) : Int64 := (F i + cy F i) &&& 268435455
set_option maxHeartbeats 8000000 in
theorem cy_ok {F : Nat → Int64} (hB : BL F 2305843009213693952) : ∀ k, k ≤ 20 → (-17179869184 ≤ (cy F k).toInt ∧ (cy F k).toInt ≤ 17179869184) ∧ (∀ i, i < k → 0 ≤ (cyH F i).toInt ∧ (cyH F i).toInt < bS) ∧ sumS (fun i => (cyH F i).toInt) k + (cy F k).toInt * bS ^ k = LV F k := by
  intro k
  induction k with
  | zero => intro _; exact ⟨by show -17179869184 ≤ (0 : Int64).toInt ∧ (0 : Int64).toInt ≤ 17179869184; decide, fun i hi => absurd hi (by omega), by show (0 : Int) + (0 : Int64).toInt * bS ^ 0 = 0; decide⟩
  | succ k ih =>
    intro hk
    obtain ⟨a1, a2, a3⟩ := ih (by omega)
    have f := hB k (by omega)
    have e : (F k + cy F k).toInt = (F k).toInt + (cy F k).toInt := i64_add (by omega) (by omega)
    have s : (cy F (k + 1)).toInt = ((F k).toInt + (cy F k).toInt) / 268435456 := by
      show ((F k + cy F k) >>> ((nI 28).toInt64 &&& 63)).toInt = _
      rw [i64_shr _ (k := 28) (by decide), e]; rfl
    have m : (cyH F k).toInt = ((F k).toInt + (cy F k).toInt) % 268435456 := by
      unfold cyH; rw [nn_and _ 28 268435455 (by decide) (by decide), e]; rfl
    refine ⟨by rw [s]; omega, fun i hi => ?_, ?_⟩
    · by_cases c : i = k
      · subst c; rw [m]; show 0 ≤ _ ∧ _ < (268435456 : Int); omega
      · exact a2 i (by omega)
    · show sumS _ k + (cyH F k).toInt * bS ^ k + (cy F (k + 1)).toInt * bS ^ (k + 1) = LV F k + (F k).toInt * bS ^ k
      rw [← a3, m, s, Int.pow_succ]
      have d := Int.emod_add_mul_ediv ((F k).toInt + (cy F k).toInt) 268435456
      generalize ((F k).toInt + (cy F k).toInt) % 268435456 = r at *
      generalize ((F k).toInt + (cy F k).toInt) / 268435456 = t at *
      have : (F k).toInt = r + 268435456 * t - (cy F k).toInt := by omega
      rw [this]
      generalize bS ^ k = P
      generalize sumS (fun i => (cyH F i).toInt) k = S
      show S + r * P + t * (P * 268435456) = _
      grind
theorem cy_NL {F H : Nat → Int64} {V : Int} (hB : BL F 2305843009213693952) (hV : LV F 20 = V) (h1 : ∀ i, i < 19 → H i = cyH F i) (h2 : H 19 = F 19 + cy F 19) : NL H V := by
  obtain ⟨a1, a2, a3⟩ := cy_ok hB 19 (by decide)
  have f := hB 19 (by decide)
  refine ⟨?_, fun i hi => by rw [h1 i hi]; exact a2 i hi⟩
  rw [← hV]
  show sumS _ 19 + (H 19).toInt * bS ^ 19 = LV F 19 + (F 19).toInt * bS ^ 19
  rw [sumS_congr (h := fun i => (cyH F i).toInt) (fun i hi => by rw [h1 i hi]), h2, i64_add (by omega) (by omega), ← a3]
  generalize bS ^ 19 = P
  grind
theorem NL.top {H : Nat → Int64} {V : Int} (h : NL H V) : (H 19).toInt = V / bS ^ 19 := by
  have b := sumS_bd (g := fun i => (H i).toInt) (n := 19) h.2
  have e : V = sumS (fun i => (H i).toInt) 19 + (H 19).toInt * bS ^ 19 := h.1.symm
  rw [e, Int.add_mul_ediv_right _ _ (Int.ne_of_gt (bS_pos 19)), Int.ediv_eq_zero_of_lt b.1 b.2, Int.zero_add]
theorem sumS_split (g : Nat → Int) (a : Nat) : ∀ b, sumS g (a + b) = sumS g a + bS ^ a * sumS (fun k => g (a + k)) b
  | 0 => by show sumS g a = sumS g a + bS ^ a * 0; rw [Int.mul_zero, Int.add_zero]
  | b + 1 => by
    show sumS g (a + b) + g (a + b) * bS ^ (a + b) = sumS g a + bS ^ a * (sumS (fun k => g (a + k)) b + g (a + b) * bS ^ b)
    rw [sumS_split g a b, Int.pow_add]
    generalize bS ^ a = P; generalize bS ^ b = R; generalize sumS g a = S; generalize sumS (fun k => g (a + k)) b = T; generalize g (a + b) = x
    grind
def qS : Int := 7237005577332262213973186563042994240857116359379907606001950938285454250989
def cS_ : Int := 27742317777372353535851937790883648493
theorem qS_c : qS = bS ^ 9 + cS_ := by decide
def qT (j : Nat) : Int := ([217437165, 19280293, 127719000, 262007343, 5342, 0, 0, 0, 0, 1] : List Int).getD j 0
theorem qT_t : ∀ j, j < 10 → (tb_10.getD j 0).toInt = qT j := by decide
theorem qT_b : ∀ j, j < 10 → 0 ≤ qT j ∧ qT j < bS := by decide
theorem qT_5 : sumS qT 5 = cS_ := by decide
theorem qT_10 : sumS qT 10 = qS := by decide
theorem fold_id {V : Int} {L : Int} (hl : L = V % bS ^ 9) : L - cS_ * (V / bS ^ 9) = V - qS * (V / bS ^ 9) := by
  have := Int.emod_add_mul_ediv V (bS ^ 9)
  rw [qS_c, hl]
  generalize V / bS ^ 9 = t at *
  generalize V % bS ^ 9 = r at *
  generalize bS ^ 9 = P at *
  rw [← this]; grind
theorem NL.low {H : Nat → Int64} {V : Int} (h : NL H V) : sumS (fun i => (H i).toInt) 9 = V % bS ^ 9 ∧ sumS (fun k => (H (9 + k)).toInt) 11 = V / bS ^ 9 := by
  have b := sumS_bd (g := fun i => (H i).toInt) (n := 9) (fun k hk => h.2 k (by omega))
  have e : V = sumS (fun i => (H i).toInt) 9 + bS ^ 9 * sumS (fun k => (H (9 + k)).toInt) 11 := by rw [← h.1]; exact sumS_split _ 9 11
  have hp := bS_pos 9
  constructor
  · rw [e, Int.add_mul_emod_self_left]; exact (Int.emod_eq_of_lt b.1 b.2).symm
  · rw [e, Int.add_mul_ediv_left _ _ (Int.ne_of_gt hp), Int.ediv_eq_zero_of_lt b.1 b.2, Int.zero_add]
def foI (H F : Nat → Int64) (i : Nat) : Prop := LV F 20 = sumS (fun k => (H k).toInt) 9 - cS_ * sumS (fun k => (H (9 + k)).toInt) (i - 9) ∧ ∀ m, m < 20 → -(268435456 + (i - 9 : Nat) * 144115188075855872) ≤ (F m).toInt ∧ (F m).toInt ≤ 268435456 + (i - 9 : Nat) * 144115188075855872
def foJ (S b x : Int) (F : Nat → Int64) (a j : Nat) : Prop := LV F 20 = S - x * (bS ^ a * sumS qT j) ∧ ∀ m, m < 20 → -(b + if m < a + j then 144115188075855872 else 0) ≤ (F m).toInt ∧ (F m).toInt ≤ b + if m < a + j then 144115188075855872 else 0
theorem sumS_updL {F : Nat → Int64} {k : Nat} {v : Int64} {d : Int} (hk : k < 20) (hv : v.toInt = (F k).toInt + d) : LV (vp_updL F k v) 20 = LV F 20 + d * bS ^ k := by
  unfold LV
  rw [← sumS_up (f := fun i => (F i).toInt) hk]
  refine sumS_congr fun j hj => ?_
  unfold vp_updL
  by_cases e : j = k
  · rw [if_pos e, if_pos e, hv, e]
  · rw [if_neg e, if_neg e]
set_option maxHeartbeats 8000000 in
theorem foJ_step {S b x : Int} {F : Nat → Int64} {a j : Nat} {z : Int64} (h : foJ S b x F a j) (hb : 0 ≤ b ∧ b ≤ 2000000000000000000) (hz : z.toInt = x) (hx : -536870912 ≤ x ∧ x ≤ 536870912) (ha : a + 4 < 20) (hj : j < 5) : foJ S b x (vp_updL F (a + j) (F (a + j) - z * tb_10.getD j 0)) a (j + 1) := by
  obtain ⟨h1, h2⟩ := h
  have q := qT_b j (by omega)
  have qt := qT_t j (by omega)
  have q1 : qT j < 268435456 := q.2
  have p1 : -(144115188075855872) ≤ x * qT j ∧ x * qT j ≤ 144115188075855872 := by
    have u1 : x * qT j ≤ 536870912 * qT j := Int.mul_le_mul_of_nonneg_right hx.2 q.1
    have u2 : -536870912 * qT j ≤ x * qT j := Int.mul_le_mul_of_nonneg_right hx.1 q.1
    omega
  have m : (z * tb_10.getD j 0).toInt = x * qT j := by rw [i64_mul (by rw [hz, qt]; omega) (by rw [hz, qt]; omega), hz, qt]
  have g := h2 (a + j) (by omega)
  rw [if_neg (by omega)] at g
  have s : (F (a + j) - z * tb_10.getD j 0).toInt = (F (a + j)).toInt + -(x * qT j) := by rw [i64_sub (by rw [m]; omega) (by rw [m]; omega), m]; omega
  refine ⟨?_, fun i hi => ?_⟩
  · rw [sumS_updL (by omega) s, h1, Int.pow_add]
    show _ = S - x * (bS ^ a * (sumS qT j + qT j * bS ^ j))
    generalize bS ^ a = A; generalize bS ^ j = B; generalize sumS qT j = Q; generalize qT j = y
    grind
  · unfold vp_updL
    by_cases e : i = a + j
    · rw [if_pos e, s, if_pos (by omega)]; omega
    · rw [if_neg e]
      have := h2 i hi
      by_cases c : i < a + j
      · rw [if_pos c] at this; rw [if_pos (by omega)]; exact this
      · rw [if_neg c] at this; rw [if_neg (by omega)]; exact this
theorem foI_step {H F F' : Nat → Int64} {i : Nat} (hi : 9 ≤ i ∧ i < 20) (h : foI H F i) (h' : foJ (LV F 20) (268435456 + (i - 9 : Nat) * 144115188075855872) (H i).toInt F' (i - 9) 5) : foI H F' (i + 1) := by
  obtain ⟨h1, h2⟩ := h
  obtain ⟨k1, k2⟩ := h'
  have e : i + 1 - 9 = (i - 9) + 1 := by omega
  refine ⟨?_, fun m hm => ?_⟩
  · rw [k1, h1, e, qT_5]
    show _ = sumS (fun k => (H k).toInt) 9 - cS_ * (sumS (fun k => (H (9 + k)).toInt) (i - 9) + (H (9 + (i - 9))).toInt * bS ^ (i - 9))
    rw [show 9 + (i - 9) = i by omega]
    generalize bS ^ (i - 9) = A; generalize sumS (fun k => (H (9 + k)).toInt) (i - 9) = T; generalize sumS (fun k => (H k).toInt) 9 = S; generalize (H i).toInt = x; generalize cS_ = c
    grind
  · have := k2 m hm
    rw [e]
    have c : (((i - 9 + 1 : Nat) : Int)) = ((i - 9 : Nat) : Int) + 1 := by omega
    rw [c]
    split at this <;> omega
theorem foI_skip {H F : Nat → Int64} {i : Nat} (hi : 9 ≤ i ∧ i < 20) (h : foI H F i) (hz : (H i).toInt = 0) : foI H F (i + 1) := by
  obtain ⟨h1, h2⟩ := h
  have e : i + 1 - 9 = (i - 9) + 1 := by omega
  refine ⟨?_, fun m hm => ?_⟩
  · rw [h1, e]
    show _ = sumS (fun k => (H k).toInt) 9 - cS_ * (sumS (fun k => (H (9 + k)).toInt) (i - 9) + (H (9 + (i - 9))).toInt * bS ^ (i - 9))
    rw [show 9 + (i - 9) = i by omega, hz, Int.zero_mul, Int.add_zero]
  · have := h2 m hm
    rw [e]
    have c : (((i - 9 + 1 : Nat) : Int)) = ((i - 9 : Nat) : Int) + 1 := by omega
    rw [c]; omega
theorem foI_0 {H F : Nat → Int64} {V : Int} (h : NL H V) (hF : ∀ i, i < 20 → F i = if i < 9 then H i else 0) : foI H F 9 := by
  refine ⟨?_, fun m hm => ?_⟩
  · show sumS _ (9 + 11) = _
    rw [sumS_split, sumS_congr (h := fun k => (H k).toInt) (fun k hk => by rw [hF k (by omega), if_pos hk]), sumS_congr (h := fun _ => 0) (n := 11) (fun k hk => by rw [hF (9 + k) (by omega), if_neg (by omega)]; rfl), sumS_0]
    show _ + _ * 0 = _ - cS_ * sumS _ 0
    show _ + _ * 0 = _ - cS_ * 0
    omega
  · rw [hF m hm]
    split
    · have := h.2 m (by omega)
      have b : (H m).toInt < 268435456 := this.2
      omega
    · show _ ≤ (0 : Int64).toInt ∧ (0 : Int64).toInt ≤ _; rw [show (0 : Int64).toInt = 0 from rfl]; omega
theorem foI_end {H F : Nat → Int64} {V : Int} (h : NL H V) (hF : foI H F 20) : BL F 2305843009213693952 ∧ LV F 20 = V - qS * (V / bS ^ 9) := by
  obtain ⟨h1, h2⟩ := hF
  refine ⟨fun m hm => ?_, ?_⟩
  · have := h2 m hm
    rw [show ((20 - 9 : Nat) : Int) = 11 from rfl] at this
    omega
  · rw [h1, h.low.1, h.low.2]; exact fold_id rfl
theorem ld_bS (i : Nat) : bS ^ (8 * i / 28) * 2 ^ (8 * i % 28) = 256 ^ i := by
  rw [show (bS : Int) = 2 ^ 28 from rfl, show (256 : Int) = 2 ^ 8 from rfl, ← Int.pow_mul, ← Int.pow_mul, ← Int.pow_add]
  congr 1; omega
def ldI (l : List UInt8) (F : Nat → Int64) (i : Nat) : Prop := LV F 20 = (leN l i : Int) ∧ ∀ m, m < 20 → 0 ≤ (F m).toInt ∧ (F m).toInt ≤ i * 34359738368
theorem sh28 : ∀ r, r < 28 → ∀ b, b < 256 → ((nI b).toInt64 <<< ((nI r).toInt64 &&& 63)).toInt = (b : Int) * 2 ^ r := by decide +kernel
theorem cB_l (b : UInt8) : (cB b).toInt64 &&& 255 = (nI b.toNat).toInt64 := u8_all (P := fun b => (cB b).toInt64 &&& 255 = (nI b.toNat).toInt64) (by decide +kernel) b
set_option maxHeartbeats 8000000 in
theorem ldI_step {l : List UInt8} {F : Nat → Int64} {i : Nat} (h : ldI l F i) (hi : i < 64) : ldI l (vp_updL F (8 * i / 28) (F (8 * i / 28) + (((cB (gd l i)).toInt64 &&& 255) <<< ((nI (8 * i % 28)).toInt64 &&& 63)))) (i + 1) := by
  obtain ⟨h1, h2⟩ := h
  have b := (gd l i).toNat_lt
  have s := sh28 (8 * i % 28) (by omega) (gd l i).toNat b
  have p : (2 : Int) ^ (8 * i % 28) ≤ 134217728 := by
    have : ∀ r, r < 28 → (2 : Int) ^ r ≤ 134217728 := by decide
    exact this _ (by omega)
  have p0 : (0 : Int) ≤ 2 ^ (8 * i % 28) := Int.le_of_lt (Int.pow_pos (by decide))
  have bd : 0 ≤ ((gd l i).toNat : Int) * 2 ^ (8 * i % 28) ∧ ((gd l i).toNat : Int) * 2 ^ (8 * i % 28) ≤ 34359738368 := by
    refine ⟨Int.mul_nonneg (by omega) p0, ?_⟩
    have := Int.mul_le_mul_of_nonneg_right (show ((gd l i).toNat : Int) ≤ 256 by omega) p0
    omega
  have g := h2 (8 * i / 28) (by omega)
  have e : (F (8 * i / 28) + (((cB (gd l i)).toInt64 &&& 255) <<< ((nI (8 * i % 28)).toInt64 &&& 63))).toInt = (F (8 * i / 28)).toInt + ((gd l i).toNat : Int) * 2 ^ (8 * i % 28) := by
    rw [cB_l, i64_add (by rw [s]; omega) (by rw [s]; omega), s]
  refine ⟨?_, fun m hm => ?_⟩
  · rw [sumS_updL (by omega) e, h1, Int.mul_assoc, Int.mul_comm (2 ^ (8 * i % 28)), ld_bS]
    show _ = ((leN l i + (gd l i).toNat * 256 ^ i : Nat) : Int)
    rw [Int.natCast_add, Int.natCast_mul, Int.natCast_pow]; rfl
  · unfold vp_updL
    by_cases c : m = 8 * i / 28
    · rw [if_pos c, e]; omega
    · rw [if_neg c]; have := h2 m hm; omega
def scO : va_E := .inr (8, [.ref 184, .ref 185, .ref 186, .ref 187])
set_option maxHeartbeats 8000000 in
theorem cy_lp (G : GX) {M0 : List va_E} {F : Nat → Int64} (ho : M0[183]? = some scO) (hF : M0[185]? = some (lr 20 F)) {Q : Option Value → List va_E → Prop} (kk : ∀ M, (∃ K, M[184]? = some (lr 20 K) ∧ ∀ j, j < 19 → K j = cyH F j) ∧ Kp [184] M0 M → TT G mi_Sc_carry 44 [(1, .long (cy F 19)), (0, .ref 183)] [] M 0 0 Q) : ∀ j k M, k + j = 19 → (∃ K, M[184]? = some (lr 20 K) ∧ ∀ j, j < k → K j = cyH F j) ∧ Kp [184] M0 M → TT G mi_Sc_carry 4 [(3, .int (nI k)), (1, .long (cy F k)), (0, .ref 183)] [] M 0 0 Q := by
  intro j
  induction j with
  | zero =>
    intro k M hk hI
    obtain rfl : 19 = k := by omega
    refine T_iload_n d_Sc_carry_4 rfl ?_
    refine T_bipush (v := nI 19) d_Sc_carry_5 (by decide) ?_
    refine N_icmp_ge_t (a := 19) (b := 19) d_Sc_carry_7 (tgt := 44) rfl (by omega) (by omega) (by omega) ?_
    exact T_sub (fun q hq => List.mem_cons_of_mem _ hq) (kk M hI)
  | succ j ih =>
    intro k M hk hI
    obtain ⟨⟨K, h1, h2⟩, hK⟩ := hI
    refine T_iload_n d_Sc_carry_4 rfl ?_
    refine T_bipush (v := nI 19) d_Sc_carry_5 (by decide) ?_
    refine N_icmp_ge_f (a := 19) (b := k) d_Sc_carry_7 (tgt := 44) rfl (by omega) (by omega) (by omega) ?_
    refine T_aload_n (v := .ref 183) d_Sc_carry_10 rfl (Or.inr ⟨_, rfl⟩) ?_
    have h_1 := (hK 183 (by decide)).trans (ho)
    refine T_getfield (v := .ref 185) d_Sc_carry_11 fg_Sc_13 h_1 rfl ?_
    refine T_iload_n d_Sc_carry_14 rfl ?_
    have h_2 := (hK 185 (by decide)).trans (hF)
    refine N_laload (k := k) (x := (F k)) d_Sc_carry_15 h_2 (by omega) (by decide) rfl ?_
    refine T_lload_n d_Sc_carry_16 rfl ?_
    refine T_ladd d_Sc_carry_17 ?_
    refine T_lstore (L' := [(4, .long ((F k) + (cy F k))), (3, .int (nI k)), (1, .long (cy F k)), (0, .ref 183)]) d_Sc_carry_18 (by decide) rfl ?_
    refine T_lload d_Sc_carry_20 rfl ?_
    refine T_bipush (v := nI 28) d_Sc_carry_22 (by decide) ?_
    refine T_lshr d_Sc_carry_24 ?_
    refine T_lstore_n (L' := [(1, .long (((F k) + (cy F k)) >>> ((nI 28).toInt64 &&& 63))), (4, .long ((F k) + (cy F k))), (3, .int (nI k)), (0, .ref 183)]) d_Sc_carry_25 (by decide) rfl ?_
    refine T_aload_n (v := .ref 183) d_Sc_carry_26 rfl (Or.inr ⟨_, rfl⟩) ?_
    refine T_getfield (v := .ref 184) d_Sc_carry_27 fg_Sc_9 h_1 rfl ?_
    refine T_iload_n d_Sc_carry_30 rfl ?_
    refine T_lload d_Sc_carry_31 rfl ?_
    refine T_ldc2 d_Sc_carry_33 kJ_Sc_58 ?_
    refine T_land d_Sc_carry_36 ?_
    refine N_lastore (k := k) d_Sc_carry_37 (by decide) h1 (by omega) (by decide) rfl (fun M_3 h_4 s_5 => ?_)
    refine T_eq (pc' := 38) (L' := [(1, .long (cy F (k + 1))), (4, .long ((F k) + (cy F k))), (3, .int (nI k)), (0, .ref 183)]) (st' := []) (M' := M_3) rfl rfl rfl rfl ?_
    refine N_iinc (k := k) (m := 1) (c := (k + 1)) (L' := [(3, .int (nI ((k + 1)))), (1, .long (cy F (k + 1))), (4, .long ((F k) + (cy F k))), (0, .ref 183)]) d_Sc_carry_38 (by decide) rfl (by decide) rfl rfl ?_
    refine T_goto (tgt := 4) d_Sc_carry_41 rfl ?_
    exact T_sub (L' := [(3, .int (nI ((k + 1)))), (1, .long (cy F (k + 1))), (0, .ref 183)]) (fun q hq => by simp only [List.mem_cons, List.not_mem_nil, or_false] at hq ⊢; rcases hq with rfl | rfl | rfl <;> simp) (ih (k + 1) M_3 (by omega) ⟨⟨_, h_4, fun j hj => by unfold vp_updL; by_cases e : j = k; rw [if_pos e, e]; rfl; rw [if_neg e]; exact h2 j (by omega)⟩, (Kp.ex (Kp.tr (Kp.rf : Kp [184] M0 M0) (Kp.mono hK (by decide))) s_5 (by decide))⟩)
set_option maxHeartbeats 8000000 in
theorem y_Sc_carry {G : GX} {M : List va_E} {F : Nat → Int64} {V : Int} (ho : M[183]? = some scO) (hH : LQ M 184 20) (hF : M[185]? = some (lr 20 F)) (hB : BL F 2305843009213693952) (hV : LV F 20 = V) : CT G mi_Sc_carry [.ref 183] M (fun r M' => r = none ∧ (∃ H, M'[184]? = some (lr 20 H) ∧ NL H V) ∧ Kp [184] M M') := by
  obtain ⟨H, hH⟩ := hH
  refine CT.of (by decide) (Nat.le_of_ble_eq_true rfl) ?_
  show TT G mi_Sc_carry 0 [(0, .ref 183)] [] M 0 0 _
  refine T_lconst (v := 0) d_Sc_carry_0 (by decide) ?_
  refine T_lstore_n (L' := [(1, .long 0), (0, .ref 183)]) d_Sc_carry_1 (by decide) rfl ?_
  refine T_iconst (v := nI 0) d_Sc_carry_2 (by decide) ?_
  refine T_istore_n (L' := [(3, .int (nI 0)), (1, .long 0), (0, .ref 183)]) d_Sc_carry_3 (by decide) rfl ?_
  refine T_eq (pc' := 4) (L' := [(3, .int (nI 0)), (1, .long (cy F 0)), (0, .ref 183)]) (st' := []) (M' := M) rfl rfl rfl rfl ?_
  refine cy_lp G ho hF (fun Ma hI => ?_) 19 0 M rfl ⟨⟨H, hH, fun j hj => absurd hj (by omega)⟩, Kp.rf⟩
  obtain ⟨⟨K, h1, h2⟩, hK⟩ := hI
  refine T_aload_n (v := .ref 183) d_Sc_carry_44 rfl (Or.inr ⟨_, rfl⟩) ?_
  have h_1 := (hK 183 (by decide)).trans (ho)
  refine T_getfield (v := .ref 184) d_Sc_carry_45 fg_Sc_9 h_1 rfl ?_
  refine T_bipush (v := nI 19) d_Sc_carry_48 (by decide) ?_
  refine T_aload_n (v := .ref 183) d_Sc_carry_50 rfl (Or.inr ⟨_, rfl⟩) ?_
  refine T_getfield (v := .ref 185) d_Sc_carry_51 fg_Sc_13 h_1 rfl ?_
  refine T_bipush (v := nI 19) d_Sc_carry_54 (by decide) ?_
  have h_2 := (hK 185 (by decide)).trans (hF)
  refine N_laload (k := 19) (x := (F 19)) d_Sc_carry_56 h_2 (by omega) (by decide) rfl ?_
  refine T_lload_n d_Sc_carry_57 rfl ?_
  refine T_ladd d_Sc_carry_58 ?_
  refine N_lastore (k := 19) d_Sc_carry_59 (by decide) h1 (by omega) (by decide) rfl (fun M_3 h_4 s_5 => ?_)
  exact T_vret d_Sc_carry_60 rfl (by decide) (by decide) ⟨rfl, ⟨_, h_4, cy_NL hB hV (fun i hi => by unfold vp_updL; rw [if_neg (by omega)]; exact h2 i hi) (by unfold vp_updL; rw [if_pos rfl])⟩, (Kp.ex (Kp.tr (Kp.rf : Kp [184] M M) (Kp.mono hK (by decide))) s_5 (by decide))⟩
set_option maxHeartbeats 8000000 in
theorem lz_lp (G : GX) {M0 : List va_E} {fr n : Nat} (ho : M0[183]? = some scO) {Q : Option Value → List va_E → Prop} (kk : ∀ M, (∃ F, M[185]? = some (lr 20 F) ∧ ∀ j, j < 20 → F j = 0) ∧ Kp [185] M0 M → TT G mi_Sc_load 21 [(0, .ref 183), (1, .ref fr), (2, .int (nI n))] [] M 0 0 Q) : ∀ j k M, k + j = 20 → (∃ F, M[185]? = some (lr 20 F) ∧ ∀ j, j < k → F j = 0) ∧ Kp [185] M0 M → TT G mi_Sc_load 2 [(3, .int (nI k)), (0, .ref 183), (1, .ref fr), (2, .int (nI n))] [] M 0 0 Q := by
  intro j
  induction j with
  | zero =>
    intro k M hk hI
    obtain rfl : 20 = k := by omega
    refine T_iload_n d_Sc_load_2 rfl ?_
    refine T_bipush (v := nI 20) d_Sc_load_3 (by decide) ?_
    refine N_icmp_ge_t (a := 20) (b := 20) d_Sc_load_5 (tgt := 21) rfl (by omega) (by omega) (by omega) ?_
    exact T_sub (fun q hq => List.mem_cons_of_mem _ hq) (kk M hI)
  | succ j ih =>
    intro k M hk hI
    obtain ⟨⟨F, h1, h2⟩, hK⟩ := hI
    refine T_iload_n d_Sc_load_2 rfl ?_
    refine T_bipush (v := nI 20) d_Sc_load_3 (by decide) ?_
    refine N_icmp_ge_f (a := 20) (b := k) d_Sc_load_5 (tgt := 21) rfl (by omega) (by omega) (by omega) ?_
    refine T_aload_n (v := .ref 183) d_Sc_load_8 rfl (Or.inr ⟨_, rfl⟩) ?_
    have h_1 := (hK 183 (by decide)).trans (ho)
    refine T_getfield (v := .ref 185) d_Sc_load_9 fg_Sc_13 h_1 rfl ?_
    refine T_iload_n d_Sc_load_12 rfl ?_
    refine T_lconst (v := 0) d_Sc_load_13 (by decide) ?_
    refine N_lastore (k := k) d_Sc_load_14 (by decide) h1 (by omega) (by decide) rfl (fun M_2 h_3 s_4 => ?_)
    refine N_iinc (k := k) (m := 1) (c := (k + 1)) (L' := [(3, .int (nI ((k + 1)))), (0, .ref 183), (1, .ref fr), (2, .int (nI n))]) d_Sc_load_15 (by decide) rfl (by decide) rfl rfl ?_
    refine T_goto (tgt := 2) d_Sc_load_18 rfl ?_
    exact ih (k + 1) M_2 (by omega) ⟨⟨_, h_3, fun j hj => by unfold vp_updL; by_cases e : j = k; rw [if_pos e]; rw [if_neg e]; exact h2 j (by omega)⟩, (Kp.ex (Kp.tr (Kp.rf : Kp [185] M0 M0) (Kp.mono hK (by decide))) s_4 (by decide))⟩
set_option maxHeartbeats 8000000 in
theorem ll_lp (G : GX) {M0 : List va_E} {fr n m : Nat} {l : List UInt8} (ho : M0[183]? = some scO) (hf : BA M0 fr m l) (hl : n ≤ l.length) (hn : n ≤ 64) (hm : m < 2 ^ 30) (h_fr_185 : fr ≠ 185) {Q : Option Value → List va_E → Prop} (kk : ∀ M, (∃ F, M[185]? = some (lr 20 F) ∧ ldI l F n) ∧ Kp [185] M0 M → TT G mi_Sc_load 65 [(0, .ref 183), (1, .ref fr), (2, .int (nI n))] [] M 0 0 Q) : ∀ j k M, k + j = n → (∃ F, M[185]? = some (lr 20 F) ∧ ldI l F k) ∧ Kp [185] M0 M → TT G mi_Sc_load 23 [(3, .int (nI k)), (0, .ref 183), (1, .ref fr), (2, .int (nI n))] [] M 0 0 Q := by
  intro j
  induction j with
  | zero =>
    intro k M hk hI
    obtain rfl : n = k := by omega
    refine T_iload_n d_Sc_load_23 rfl ?_
    refine T_iload_n d_Sc_load_24 rfl ?_
    refine N_icmp_ge_t (a := n) (b := n) d_Sc_load_25 (tgt := 65) rfl (by omega) (by omega) (by omega) ?_
    exact T_sub (fun q hq => List.mem_cons_of_mem _ hq) (kk M hI)
  | succ j ih =>
    intro k M hk hI
    obtain ⟨⟨F, h1, h2⟩, hK⟩ := hI
    refine T_iload_n d_Sc_load_23 rfl ?_
    refine T_iload_n d_Sc_load_24 rfl ?_
    refine N_icmp_ge_f (a := n) (b := k) d_Sc_load_25 (tgt := 65) rfl (by omega) (by omega) (by omega) ?_
    refine T_aload_n (v := .ref 183) d_Sc_load_28 rfl (Or.inr ⟨_, rfl⟩) ?_
    have h_1 := (hK 183 (by decide)).trans (ho)
    refine T_getfield (v := .ref 185) d_Sc_load_29 fg_Sc_13 h_1 rfl ?_
    refine T_bipush (v := nI 8) d_Sc_load_32 (by decide) ?_
    refine T_iload_n d_Sc_load_34 rfl ?_
    refine N_imul (a := k) (b := 8) (c := (8 * k)) d_Sc_load_35 rfl ?_
    refine T_bipush (v := nI 28) d_Sc_load_36 (by decide) ?_
    refine N_idiv (a := 28) (b := (8 * k)) (c := ((8 * k) / 28)) d_Sc_load_38 (by omega) (by omega) (by omega) rfl ?_
    refine T_dup2 d_Sc_load_39 rfl rfl ?_
    refine N_laload (k := ((8 * k) / 28)) (x := (F ((8 * k) / 28))) d_Sc_load_40 h1 (by omega) (by decide) rfl ?_
    refine T_aload_n (v := .ref fr) d_Sc_load_41 rfl (Or.inr ⟨_, rfl⟩) ?_
    refine T_iload_n d_Sc_load_42 rfl ?_
    have p_2 := (BA.kp (hf) hK (by simp only [List.mem_cons, List.not_mem_nil, or_false]; exact h_fr_185))
    obtain ⟨f_3, hf_4, hl_5, hv_6⟩ := id p_2
    refine N_baload (k := k) (x := (cB (gd l k))) d_Sc_load_43 hf_4 (by omega) (by omega) (hv_6 k (by first | omega | (simp only [List.length_append, List.length_cons, List.length_nil, List.length_replicate, sl_len, be_len, sha_len]; omega))) ?_
    refine T_i2l d_Sc_load_44 ?_
    refine T_ldc2 d_Sc_load_45 kJ_Sc_60 ?_
    refine T_land d_Sc_load_48 ?_
    refine T_bipush (v := nI 8) d_Sc_load_49 (by decide) ?_
    refine T_iload_n d_Sc_load_51 rfl ?_
    refine N_imul (a := k) (b := 8) (c := (8 * k)) d_Sc_load_52 rfl ?_
    refine T_bipush (v := nI 28) d_Sc_load_53 (by decide) ?_
    refine N_irem (a := 28) (b := (8 * k)) (c := ((8 * k) % 28)) d_Sc_load_55 (by omega) (by omega) (by omega) rfl ?_
    refine T_lshl d_Sc_load_56 ?_
    refine T_ladd d_Sc_load_57 ?_
    refine N_lastore (k := ((8 * k) / 28)) d_Sc_load_58 (by decide) h1 (by omega) (by decide) rfl (fun M_7 h_8 s_9 => ?_)
    refine N_iinc (k := k) (m := 1) (c := (k + 1)) (L' := [(3, .int (nI ((k + 1)))), (0, .ref 183), (1, .ref fr), (2, .int (nI n))]) d_Sc_load_59 (by decide) rfl (by decide) rfl rfl ?_
    refine T_goto (tgt := 23) d_Sc_load_62 rfl ?_
    exact ih (k + 1) M_7 (by omega) ⟨⟨_, h_8, ldI_step h2 (by omega)⟩, (Kp.ex (Kp.tr (Kp.rf : Kp [185] M0 M0) (Kp.mono hK (by decide))) s_9 (by decide))⟩
set_option maxHeartbeats 8000000 in
theorem y_Sc_load {G : GX} {M : List va_E} {fr n m : Nat} {l : List UInt8} (ho : M[183]? = some scO) (hH : LQ M 184 20) (hF : LQ M 185 20) (hf : BA M fr m l) (hl : n ≤ l.length) (hn : n ≤ 64) (hm : m < 2 ^ 30) (h_fr_185 : fr ≠ 185) : CT G mi_Sc_load [.ref 183, .ref fr, .int (nI n)] M (fun r M' => r = none ∧ (∃ H, M'[184]? = some (lr 20 H) ∧ NL H (leN l n : Int)) ∧ LQ M' 185 20 ∧ Kp [184, 185] M M') := by
  obtain ⟨F0, hF⟩ := hF
  refine CT.of (by decide) (Nat.le_of_ble_eq_true rfl) ?_
  show TT G mi_Sc_load 0 [(0, .ref 183), (1, .ref fr), (2, .int (nI n))] [] M 0 0 _
  refine T_iconst (v := nI 0) d_Sc_load_0 (by decide) ?_
  refine T_istore_n (L' := [(3, .int (nI 0)), (0, .ref 183), (1, .ref fr), (2, .int (nI n))]) d_Sc_load_1 (by decide) rfl ?_
  refine lz_lp G ho (fun Ma hI => ?_) 20 0 M rfl ⟨⟨F0, hF, fun j hj => absurd hj (by omega)⟩, Kp.rf⟩
  obtain ⟨⟨F1, h1, h2⟩, hK1⟩ := hI
  refine T_iconst (v := nI 0) d_Sc_load_21 (by decide) ?_
  refine T_istore_n (L' := [(3, .int (nI 0)), (0, .ref 183), (1, .ref fr), (2, .int (nI n))]) d_Sc_load_22 (by decide) rfl ?_
  have l0 : ldI l F1 0 := ⟨by show sumS _ 20 = ((0 : Nat) : Int); rw [sumS_congr (h := fun _ => 0) (fun k hk => by rw [h2 k hk]; rfl), sumS_0]; rfl, fun m hm => by rw [h2 m hm]; decide⟩
  have h_1 := (hK1 183 (by decide)).trans (ho)
  refine ll_lp G h_1 (hf.kp hK1 (by simpa using h_fr_185)) hl hn hm h_fr_185 (fun Mb hI => ?_) n 0 Ma (Nat.zero_add n) ⟨⟨F1, h1, l0⟩, Kp.rf⟩
  obtain ⟨⟨F2, h3, h4⟩, hK2⟩ := hI
  refine T_aload_n (v := .ref 183) d_Sc_load_65 rfl (Or.inr ⟨_, rfl⟩) ?_
  have h_3 := (hK2 183 (by decide)).trans (h_1)
  refine T_virtual (as := []) (rest := []) (b := 183) d_Sc_load_66 rfl (jw_Sc_carry.jo (by decide)) lm_Sc_48 ji_Sc_carry js_Sc_carry h_3 rfl rfl rfl (Nat.le_of_ble_eq_true rfl) (by decide) (by decide) (y_Sc_carry h_3 ((hH.kp hK1 (by decide)).kp hK2 (by decide)) h3 (fun i hi => by have := h4.2 i hi; omega) h4.1) (fun r M_2 hq => ?_)
  obtain ⟨rfl, ⟨H_2, hH_2, nl_2⟩, kp_2⟩ := hq
  refine T_eq (pc' := 69) (L' := [(0, .ref 183), (1, .ref fr), (2, .int (nI n))]) (st' := []) (M' := M_2) rfl rfl rfl rfl ?_
  have h_4 := (kp_2 185 (by decide)).trans (h3)
  exact T_vret d_Sc_load_69 rfl (by decide) (by decide) ⟨rfl, ⟨_, hH_2, nl_2⟩, ⟨_, h_4⟩, (Kp.tr (Kp.tr (Kp.tr (Kp.rf : Kp [184, 185] M M) (Kp.mono hK1 (by decide))) (Kp.mono hK2 (by decide))) (Kp.mono kp_2 (by decide)))⟩
set_option maxHeartbeats 8000000 in
theorem fz_lp (G : GX) {M0 : List va_E} {H : Nat → Int64} (ho : M0[183]? = some scO) (hH : M0[184]? = some (lr 20 H)) {Q : Option Value → List va_E → Prop} (kk : ∀ M, (∃ F, M[185]? = some (lr 20 F) ∧ ∀ j, j < 20 → F j = if j < 9 then H j else 0) ∧ Kp [185] M0 M → TT G mi_Sc_foldOnce 36 [(0, .ref 183)] [] M 0 0 Q) : ∀ j k M, k + j = 20 → (∃ F, M[185]? = some (lr 20 F) ∧ ∀ j, j < k → F j = if j < 9 then H j else 0) ∧ Kp [185] M0 M → TT G mi_Sc_foldOnce 2 [(1, .int (nI k)), (0, .ref 183)] [] M 0 0 Q := by
  intro j
  induction j with
  | zero =>
    intro k M hk hI
    obtain rfl : 20 = k := by omega
    refine T_iload_n d_Sc_foldOnce_2 rfl ?_
    refine T_bipush (v := nI 20) d_Sc_foldOnce_3 (by decide) ?_
    refine N_icmp_ge_t (a := 20) (b := 20) d_Sc_foldOnce_5 (tgt := 36) rfl (by omega) (by omega) (by omega) ?_
    exact T_sub (fun q hq => List.mem_cons_of_mem _ hq) (kk M hI)
  | succ j ih =>
    intro k M hk hI
    obtain ⟨⟨F, h1, h2⟩, hK⟩ := hI
    refine T_iload_n d_Sc_foldOnce_2 rfl ?_
    refine T_bipush (v := nI 20) d_Sc_foldOnce_3 (by decide) ?_
    refine N_icmp_ge_f (a := 20) (b := k) d_Sc_foldOnce_5 (tgt := 36) rfl (by omega) (by omega) (by omega) ?_
    refine T_aload_n (v := .ref 183) d_Sc_foldOnce_8 rfl (Or.inr ⟨_, rfl⟩) ?_
    have h_1 := (hK 183 (by decide)).trans (ho)
    refine T_getfield (v := .ref 185) d_Sc_foldOnce_9 fg_Sc_13 h_1 rfl ?_
    refine T_iload_n d_Sc_foldOnce_12 rfl ?_
    refine T_iload_n d_Sc_foldOnce_13 rfl ?_
    refine T_bipush (v := nI 9) d_Sc_foldOnce_14 (by decide) ?_
    refine N_icmp_ge (a := 9) (b := k) d_Sc_foldOnce_16 (tgt := 28) rfl (by omega) (by omega) (fun h9 => ?_) (fun h9 => ?_)
    ·
      refine T_lconst (v := 0) d_Sc_foldOnce_28 (by decide) ?_
      refine N_lastore (k := k) d_Sc_foldOnce_29 (by decide) h1 (by omega) (by decide) rfl (fun M_2 h_3 s_4 => ?_)
      refine N_iinc (k := k) (m := 1) (c := (k + 1)) (L' := [(1, .int (nI ((k + 1)))), (0, .ref 183)]) d_Sc_foldOnce_30 (by decide) rfl (by decide) rfl rfl ?_
      refine T_goto (tgt := 2) d_Sc_foldOnce_33 rfl ?_
      exact ih (k + 1) M_2 (by omega) ⟨⟨_, h_3, fun j hj => by unfold vp_updL; by_cases e : j = k; rw [if_pos e, if_neg (by omega)]; rw [if_neg e]; exact h2 j (by omega)⟩, (Kp.ex (Kp.tr (Kp.rf : Kp [185] M0 M0) (Kp.mono hK (by decide))) s_4 (by decide))⟩
    ·
      refine T_aload_n (v := .ref 183) d_Sc_foldOnce_19 rfl (Or.inr ⟨_, rfl⟩) ?_
      refine T_getfield (v := .ref 184) d_Sc_foldOnce_20 fg_Sc_9 h_1 rfl ?_
      refine T_iload_n d_Sc_foldOnce_23 rfl ?_
      have h_5 := (hK 184 (by decide)).trans (hH)
      refine N_laload (k := k) (x := (H k)) d_Sc_foldOnce_24 h_5 (by omega) (by decide) rfl ?_
      refine T_goto (tgt := 29) d_Sc_foldOnce_25 rfl ?_
      refine N_lastore (k := k) d_Sc_foldOnce_29 (by decide) h1 (by omega) (by decide) rfl (fun M_6 h_7 s_8 => ?_)
      refine N_iinc (k := k) (m := 1) (c := (k + 1)) (L' := [(1, .int (nI ((k + 1)))), (0, .ref 183)]) d_Sc_foldOnce_30 (by decide) rfl (by decide) rfl rfl ?_
      refine T_goto (tgt := 2) d_Sc_foldOnce_33 rfl ?_
      exact ih (k + 1) M_6 (by omega) ⟨⟨_, h_7, fun j hj => by unfold vp_updL; by_cases e : j = k; rw [if_pos e, if_pos (by omega), e]; rw [if_neg e]; exact h2 j (by omega)⟩, (Kp.ex (Kp.tr (Kp.rf : Kp [185] M0 M0) (Kp.mono hK (by decide))) s_8 (by decide))⟩
set_option maxHeartbeats 8000000 in
theorem fj_lp (G : GX) {M0 : List va_E} {H : Nat → Int64} {S b : Int} {i : Nat} (ho : M0[183]? = some scO) (hH : M0[184]? = some (lr 20 H)) (hQ : M0[10]? = some (lr 10 (fun j => tb_10.getD j 0))) (hb : 0 ≤ b ∧ b ≤ 2000000000000000000) (hx : -536870912 ≤ (H i).toInt ∧ (H i).toInt ≤ 536870912) (hi : 9 ≤ i ∧ i < 20) {Q : Option Value → List va_E → Prop} (kk : ∀ M, (∃ F, M[185]? = some (lr 20 F) ∧ foJ S b (H i).toInt F (i - 9) 5) ∧ Kp [185] M0 M → TT G mi_Sc_foldOnce 96 [(2, .long (H i)), (1, .int (nI i)), (0, .ref 183)] [] M 0 0 Q) : ∀ j k M, k + j = 5 → (∃ F, M[185]? = some (lr 20 F) ∧ foJ S b (H i).toInt F (i - 9) k) ∧ Kp [185] M0 M → TT G mi_Sc_foldOnce 61 [(4, .int (nI k)), (2, .long (H i)), (1, .int (nI i)), (0, .ref 183)] [] M 0 0 Q := by
  intro j
  induction j with
  | zero =>
    intro k M hk hI
    obtain rfl : 5 = k := by omega
    refine T_iload d_Sc_foldOnce_61 rfl ?_
    refine T_iconst (v := nI 5) d_Sc_foldOnce_63 (by decide) ?_
    refine N_icmp_ge_t (a := 5) (b := 5) d_Sc_foldOnce_64 (tgt := 96) rfl (by omega) (by omega) (by omega) ?_
    exact T_sub (fun q hq => List.mem_cons_of_mem _ hq) (kk M hI)
  | succ j ih =>
    intro k M hk hI
    obtain ⟨⟨F, h1, h2⟩, hK⟩ := hI
    refine T_iload d_Sc_foldOnce_61 rfl ?_
    refine T_iconst (v := nI 5) d_Sc_foldOnce_63 (by decide) ?_
    refine N_icmp_ge_f (a := 5) (b := k) d_Sc_foldOnce_64 (tgt := 96) rfl (by omega) (by omega) (by omega) ?_
    refine T_aload_n (v := .ref 183) d_Sc_foldOnce_67 rfl (Or.inr ⟨_, rfl⟩) ?_
    have h_1 := (hK 183 (by decide)).trans (ho)
    refine T_getfield (v := .ref 185) d_Sc_foldOnce_68 fg_Sc_13 h_1 rfl ?_
    refine T_iload_n d_Sc_foldOnce_71 rfl ?_
    refine T_bipush (v := nI 9) d_Sc_foldOnce_72 (by decide) ?_
    refine N_isub (a := 9) (b := i) (c := (i - 9)) d_Sc_foldOnce_74 (by omega) rfl ?_
    refine T_iload d_Sc_foldOnce_75 rfl ?_
    refine N_iadd (a := k) (b := (i - 9)) (c := ((i - 9) + k)) d_Sc_foldOnce_77 rfl ?_
    refine T_dup2 d_Sc_foldOnce_78 rfl rfl ?_
    refine N_laload (k := ((i - 9) + k)) (x := (F ((i - 9) + k))) d_Sc_foldOnce_79 h1 (by omega) (by decide) rfl ?_
    refine T_lload_n d_Sc_foldOnce_80 rfl ?_
    refine T_getstatic (q := ("PasswordGate$Scalars", "Q", "[J", .ref 10)) d_Sc_foldOnce_81 (List.mem_of_getElem? (i := 10) rfl) gs_Sc_43 (show 10 < K0 by decide) ?_
    refine T_iload d_Sc_foldOnce_84 rfl ?_
    have h_2 := (hK 10 (by decide)).trans (hQ)
    refine N_laload (k := k) (x := ((fun j => tb_10.getD j 0) k)) d_Sc_foldOnce_86 h_2 (by omega) (by decide) rfl ?_
    refine T_lmul d_Sc_foldOnce_87 ?_
    refine T_lsub d_Sc_foldOnce_88 ?_
    refine N_lastore (k := ((i - 9) + k)) d_Sc_foldOnce_89 (by decide) h1 (by omega) (by decide) rfl (fun M_3 h_4 s_5 => ?_)
    refine N_iinc (k := k) (m := 1) (c := (k + 1)) (L' := [(4, .int (nI ((k + 1)))), (2, .long (H i)), (1, .int (nI i)), (0, .ref 183)]) d_Sc_foldOnce_90 (by decide) rfl (by decide) rfl rfl ?_
    refine T_goto (tgt := 61) d_Sc_foldOnce_93 rfl ?_
    exact ih (k + 1) M_3 (by omega) ⟨⟨_, h_4, foJ_step h2 hb rfl hx (by omega) (by omega)⟩, (Kp.ex (Kp.tr (Kp.rf : Kp [185] M0 M0) (Kp.mono hK (by decide))) s_5 (by decide))⟩
theorem lc_0 {z : Int64} : lg_cmp z 0 = 0 ↔ z.toInt = 0 := by
  constructor
  · intro h
    unfold lg_cmp at h
    by_cases a : z > 0
    · rw [if_pos a] at h; exact absurd h (by decide)
    · rw [if_neg a] at h
      by_cases b : z = 0
      · subst b; rfl
      · rw [if_neg b] at h; exact absurd h (by decide)
  · intro h
    have : z = 0 := Int64.toInt_inj.mp (h.trans (by decide))
    subst this; decide
set_option maxHeartbeats 8000000 in
theorem fi_lp (G : GX) {M0 : List va_E} {H : Nat → Int64} (ho : M0[183]? = some scO) (hH : M0[184]? = some (lr 20 H)) (hQ : M0[10]? = some (lr 10 (fun j => tb_10.getD j 0))) (hx0 : ∀ i, 9 ≤ i → i < 20 → -536870912 ≤ (H i).toInt ∧ (H i).toInt ≤ 536870912) {Q : Option Value → List va_E → Prop} (kk : ∀ M, 9 ≤ 20 ∧ (∃ F, M[185]? = some (lr 20 F) ∧ foI H F 20) ∧ Kp [185] M0 M → TT G mi_Sc_foldOnce 102 [(0, .ref 183)] [] M 0 0 Q) : ∀ j k M, k + j = 20 → 9 ≤ k ∧ (∃ F, M[185]? = some (lr 20 F) ∧ foI H F k) ∧ Kp [185] M0 M → TT G mi_Sc_foldOnce 39 [(1, .int (nI k)), (0, .ref 183)] [] M 0 0 Q := by
  intro j
  induction j with
  | zero =>
    intro k M hk hI
    obtain rfl : 20 = k := by omega
    refine T_iload_n d_Sc_foldOnce_39 rfl ?_
    refine T_bipush (v := nI 20) d_Sc_foldOnce_40 (by decide) ?_
    refine N_icmp_ge_t (a := 20) (b := 20) d_Sc_foldOnce_42 (tgt := 102) rfl (by omega) (by omega) (by omega) ?_
    exact T_sub (fun q hq => List.mem_cons_of_mem _ hq) (kk M hI)
  | succ j ih =>
    intro k M hk hI
    obtain ⟨h9, ⟨F, h1, h2⟩, hK⟩ := hI
    refine T_iload_n d_Sc_foldOnce_39 rfl ?_
    refine T_bipush (v := nI 20) d_Sc_foldOnce_40 (by decide) ?_
    refine N_icmp_ge_f (a := 20) (b := k) d_Sc_foldOnce_42 (tgt := 102) rfl (by omega) (by omega) (by omega) ?_
    refine T_aload_n (v := .ref 183) d_Sc_foldOnce_45 rfl (Or.inr ⟨_, rfl⟩) ?_
    have h_1 := (hK 183 (by decide)).trans (ho)
    refine T_getfield (v := .ref 184) d_Sc_foldOnce_46 fg_Sc_9 h_1 rfl ?_
    refine T_iload_n d_Sc_foldOnce_49 rfl ?_
    have h_2 := (hK 184 (by decide)).trans (hH)
    refine N_laload (k := k) (x := (H k)) d_Sc_foldOnce_50 h_2 (by omega) (by decide) rfl ?_
    refine T_lstore_n (L' := [(2, .long (H k)), (1, .int (nI k)), (0, .ref 183)]) d_Sc_foldOnce_51 (by decide) rfl ?_
    refine T_lload_n d_Sc_foldOnce_52 rfl ?_
    refine T_lconst (v := 0) d_Sc_foldOnce_53 (by decide) ?_
    refine T_lcmp d_Sc_foldOnce_54 ?_
    refine T_if_eq d_Sc_foldOnce_55 (tgt := 96) rfl (fun hz => ?_) (fun hz => ?_)
    ·
      refine N_iinc (k := k) (m := 1) (c := (k + 1)) (L' := [(1, .int (nI ((k + 1)))), (2, .long (H k)), (0, .ref 183)]) d_Sc_foldOnce_96 (by decide) rfl (by decide) rfl rfl ?_
      refine T_goto (tgt := 39) d_Sc_foldOnce_99 rfl ?_
      exact T_sub (L' := [(1, .int (nI ((k + 1)))), (0, .ref 183)]) (fun q hq => by simp only [List.mem_cons, List.not_mem_nil, or_false] at hq ⊢; rcases hq with rfl | rfl <;> simp) (ih (k + 1) M (by omega) ⟨by omega, ⟨_, h1, foI_skip ⟨h9, by omega⟩ h2 (lc_0.mp hz)⟩, (Kp.tr (Kp.rf : Kp [185] M0 M0) (Kp.mono hK (by decide)))⟩)
    ·
      refine T_iconst (v := nI 0) d_Sc_foldOnce_58 (by decide) ?_
      refine T_istore (L' := [(4, .int (nI 0)), (2, .long (H k)), (1, .int (nI k)), (0, .ref 183)]) d_Sc_foldOnce_59 (by decide) rfl ?_
      have hx := hx0 k (by omega) (by omega)
      have cb : (((k - 9 : Nat) : Int)) ≤ 11 := by omega
      refine fj_lp G (S := LV F 20) (b := 268435456 + (k - 9 : Nat) * 144115188075855872) h_1 h_2 ((hK 10 (by decide)).trans hQ) (by omega) hx (by omega) (fun Mb hI => ?_) 5 0 M rfl ⟨⟨F, h1, ⟨by show _ = _ - _ * (_ * 0); rw [Int.mul_zero, Int.mul_zero, Int.sub_zero], fun m hm => ?_⟩⟩, Kp.rf⟩
      rotate_left
      · have := h2.2 m hm; split <;> omega
      obtain ⟨⟨F5, h5, h6⟩, hK5⟩ := hI
      refine N_iinc (k := k) (m := 1) (c := (k + 1)) (L' := [(1, .int (nI ((k + 1)))), (2, .long (H k)), (0, .ref 183)]) d_Sc_foldOnce_96 (by decide) rfl (by decide) rfl rfl ?_
      refine T_goto (tgt := 39) d_Sc_foldOnce_99 rfl ?_
      exact T_sub (L' := [(1, .int (nI ((k + 1)))), (0, .ref 183)]) (fun q hq => by simp only [List.mem_cons, List.not_mem_nil, or_false] at hq ⊢; rcases hq with rfl | rfl <;> simp) (ih (k + 1) Mb (by omega) ⟨by omega, ⟨_, h5, foI_step ⟨h9, by omega⟩ h2 h6⟩, (Kp.tr (Kp.tr (Kp.rf : Kp [185] M0 M0) (Kp.mono hK (by decide))) (Kp.mono hK5 (by decide)))⟩)
set_option maxHeartbeats 8000000 in
theorem y_Sc_foldOnce {G : GX} {M : List va_E} {H : Nat → Int64} {V : Int} (ho : M[183]? = some scO) (hH : M[184]? = some (lr 20 H)) (hF : LQ M 185 20) (hV : NL H V) (hb : -(bS ^ 19 * 536870912) ≤ V ∧ V < bS ^ 19 * 536870912) : CT G mi_Sc_foldOnce [.ref 183] M (fun r M' => r = none ∧ (∃ H, M'[184]? = some (lr 20 H) ∧ NL H (V - qS * (V / bS ^ 9))) ∧ LQ M' 185 20 ∧ Kp [184, 185] M M') := by
  obtain ⟨F0, hF⟩ := hF
  have hx0 : ∀ i, 9 ≤ i → i < 20 → -536870912 ≤ (H i).toInt ∧ (H i).toInt ≤ 536870912 := fun i h1 h2 => by
    by_cases e : i < 19
    · have := hV.2 i e; have b : (H i).toInt < 268435456 := this.2; omega
    · have e : i = 19 := by omega
      subst e; rw [hV.top]; have hp := bS_pos 19
      refine ⟨(Int.le_ediv_iff_mul_le hp).mpr ?_, Int.le_of_lt (Int.ediv_lt_of_lt_mul hp ?_)⟩
      · rw [Int.neg_mul, Int.mul_comm]; exact hb.1
      · rw [Int.mul_comm]; exact hb.2
  refine CT.of (by decide) (Nat.le_of_ble_eq_true rfl) ?_
  show TT G mi_Sc_foldOnce 0 [(0, .ref 183)] [] M 0 0 _
  refine T_know (fun hK0 => ?_)
  have hQ : M[10]? = some (lr 10 (fun j => tb_10.getD j 0)) := hK0 10 (by decide)
  refine T_iconst (v := nI 0) d_Sc_foldOnce_0 (by decide) ?_
  refine T_istore_n (L' := [(1, .int (nI 0)), (0, .ref 183)]) d_Sc_foldOnce_1 (by decide) rfl ?_
  refine fz_lp G ho hH (fun Ma hI => ?_) 20 0 M rfl ⟨⟨F0, hF, fun j hj => absurd hj (by omega)⟩, Kp.rf⟩
  obtain ⟨⟨F1, h1, h2⟩, hK1⟩ := hI
  refine T_bipush (v := nI 9) d_Sc_foldOnce_36 (by decide) ?_
  refine T_istore_n (L' := [(1, .int (nI 9)), (0, .ref 183)]) d_Sc_foldOnce_38 (by decide) rfl ?_
  have h_1 := (hK1 183 (by decide)).trans (ho)
  have h_2 := (hK1 184 (by decide)).trans (hH)
  refine fi_lp G h_1 h_2 ((hK1 10 (by decide)).trans hQ) hx0 (fun Mb hI => ?_) 11 9 Ma rfl ⟨Nat.le_refl 9, ⟨F1, h1, foI_0 hV h2⟩, Kp.rf⟩
  obtain ⟨-, ⟨F2, h3, h4⟩, hK2⟩ := hI
  have fe := foI_end hV h4
  refine T_aload_n (v := .ref 183) d_Sc_foldOnce_102 rfl (Or.inr ⟨_, rfl⟩) ?_
  have h_4 := (hK2 184 (by decide)).trans (h_2)
  have h_5 := (hK2 183 (by decide)).trans (h_1)
  refine T_virtual (as := []) (rest := []) (b := 183) d_Sc_foldOnce_103 rfl (jw_Sc_carry.jo (by decide)) lm_Sc_48 ji_Sc_carry js_Sc_carry h_5 rfl rfl rfl (Nat.le_of_ble_eq_true rfl) (by decide) (by decide) (y_Sc_carry h_5 ⟨H, h_4⟩ h3 fe.1 fe.2) (fun r M_3 hq => ?_)
  obtain ⟨rfl, ⟨H_3, hH_3, nl_3⟩, kp_3⟩ := hq
  refine T_eq (pc' := 106) (L' := [(0, .ref 183)]) (st' := []) (M' := M_3) rfl rfl rfl rfl ?_
  have h_6 := (kp_3 185 (by decide)).trans (h3)
  exact T_vret d_Sc_foldOnce_106 rfl (by decide) (by decide) ⟨rfl, ⟨_, hH_3, nl_3⟩, ⟨_, h_6⟩, (Kp.tr (Kp.tr (Kp.tr (Kp.rf : Kp [184, 185] M M) (Kp.mono hK1 (by decide))) (Kp.mono hK2 (by decide))) (Kp.mono kp_3 (by decide)))⟩
theorem am_sump (g : Nat → Int) : sumS (fun j => if j < 10 then g j + qT j else g j) 20 = sumS g 20 + sumS qT 10 := by
  rw [show (20 : Nat) = 10 + 10 from rfl, sumS_split, sumS_split g]
  have e : ∀ n, n ≤ 10 → sumS (fun j => if j < 10 then g j + qT j else g j) n = sumS g n + sumS qT n := by
    intro n
    induction n with
    | zero => intro _; rfl
    | succ n ih =>
      intro h
      show sumS _ n + (if n < 10 then g n + qT n else g n) * bS ^ n = sumS g n + g n * bS ^ n + (sumS qT n + qT n * bS ^ n)
      rw [ih (by omega), if_pos (by omega)]
      generalize bS ^ n = P; generalize sumS g n = S; generalize sumS qT n = T
      grind
  rw [e 10 (by omega), sumS_congr (n := 10) (g := fun k => if 10 + k < 10 then g (10 + k) + qT (10 + k) else g (10 + k)) (h := fun k => g (10 + k)) (fun k hk => if_neg (by omega))]
  omega
theorem am_p {x : Int64} {j : Nat} (hx : -536870912 ≤ x.toInt ∧ x.toInt ≤ 536870912) (hj : j < 10) : (x + (nI 1).toInt64 * tb_10.getD j 0).toInt = x.toInt + qT j := by
  have q := qT_b j hj
  have q1 : qT j < 268435456 := q.2
  have qt := qT_t j hj
  have e : ((nI 1).toInt64).toInt = 1 := by decide
  have m : ((nI 1).toInt64 * tb_10.getD j 0).toInt = 1 * qT j := by rw [i64_mul (by rw [e, qt]; omega) (by rw [e, qt]; omega), e, qt]
  rw [i64_add (by rw [m]; omega) (by rw [m]; omega), m]; omega
set_option maxHeartbeats 8000000 in
theorem am_lp_p (G : GX) {M0 : List va_E} {H : Nat → Int64} (ho : M0[183]? = some scO) (hH : M0[184]? = some (lr 20 H)) (hQ : M0[10]? = some (lr 10 (fun j => tb_10.getD j 0))) (hx : ∀ i, 0 ≤ i → i < 20 → -536870912 ≤ (H i).toInt ∧ (H i).toInt ≤ 536870912) {Q : Option Value → List va_E → Prop} (kk : ∀ M, (∃ F, M[185]? = some (lr 20 F) ∧ ∀ j, j < 20 → (F j).toInt = if j < 10 then ((H j).toInt + qT j) else (H j).toInt) ∧ Kp [185] M0 M → TT G mi_Sc_addModulus 50 [(0, .ref 183), (1, .int (nI 1))] [] M 0 0 Q) : ∀ j k M, k + j = 20 → (∃ F, M[185]? = some (lr 20 F) ∧ ∀ j, j < k → (F j).toInt = if j < 10 then ((H j).toInt + qT j) else (H j).toInt) ∧ Kp [185] M0 M → TT G mi_Sc_addModulus 2 [(2, .int (nI k)), (0, .ref 183), (1, .int (nI 1))] [] M 0 0 Q := by
  intro j
  induction j with
  | zero =>
    intro k M hk hI
    obtain rfl : 20 = k := by omega
    refine T_iload_n d_Sc_addModulus_2 rfl ?_
    refine T_bipush (v := nI 20) d_Sc_addModulus_3 (by decide) ?_
    refine N_icmp_ge_t (a := 20) (b := 20) d_Sc_addModulus_5 (tgt := 50) rfl (by omega) (by omega) (by omega) ?_
    exact T_sub (fun q hq => List.mem_cons_of_mem _ hq) (kk M hI)
  | succ j ih =>
    intro k M hk hI
    obtain ⟨⟨F, h1, h2⟩, hK⟩ := hI
    refine T_iload_n d_Sc_addModulus_2 rfl ?_
    refine T_bipush (v := nI 20) d_Sc_addModulus_3 (by decide) ?_
    refine N_icmp_ge_f (a := 20) (b := k) d_Sc_addModulus_5 (tgt := 50) rfl (by omega) (by omega) (by omega) ?_
    refine T_aload_n (v := .ref 183) d_Sc_addModulus_8 rfl (Or.inr ⟨_, rfl⟩) ?_
    have h_1 := (hK 183 (by decide)).trans (ho)
    refine T_getfield (v := .ref 185) d_Sc_addModulus_9 fg_Sc_13 h_1 rfl ?_
    refine T_iload_n d_Sc_addModulus_12 rfl ?_
    refine T_iload_n d_Sc_addModulus_13 rfl ?_
    refine T_bipush (v := nI 10) d_Sc_addModulus_14 (by decide) ?_
    refine N_icmp_ge (a := 10) (b := k) d_Sc_addModulus_16 (tgt := 37) rfl (by omega) (by omega) (fun h10 => ?_) (fun h10 => ?_)
    ·
      refine T_aload_n (v := .ref 183) d_Sc_addModulus_37 rfl (Or.inr ⟨_, rfl⟩) ?_
      refine T_getfield (v := .ref 184) d_Sc_addModulus_38 fg_Sc_9 h_1 rfl ?_
      refine T_iload_n d_Sc_addModulus_41 rfl ?_
      have h_2 := (hK 184 (by decide)).trans (hH)
      refine N_laload (k := k) (x := (H k)) d_Sc_addModulus_42 h_2 (by omega) (by decide) rfl ?_
      refine N_lastore (k := k) d_Sc_addModulus_43 (by decide) h1 (by omega) (by decide) rfl (fun M_3 h_4 s_5 => ?_)
      refine N_iinc (k := k) (m := 1) (c := (k + 1)) (L' := [(2, .int (nI ((k + 1)))), (0, .ref 183), (1, .int (nI 1))]) d_Sc_addModulus_44 (by decide) rfl (by decide) rfl rfl ?_
      refine T_goto (tgt := 2) d_Sc_addModulus_47 rfl ?_
      exact ih (k + 1) M_3 (by omega) ⟨⟨_, h_4, fun j hj => by unfold vp_updL; by_cases e : j = k; subst e; rw [if_pos rfl, if_neg (by omega)]; rw [if_neg e]; exact h2 j (by omega)⟩, (Kp.ex (Kp.tr (Kp.rf : Kp [185] M0 M0) (Kp.mono hK (by decide))) s_5 (by decide))⟩
    ·
      refine T_aload_n (v := .ref 183) d_Sc_addModulus_19 rfl (Or.inr ⟨_, rfl⟩) ?_
      refine T_getfield (v := .ref 184) d_Sc_addModulus_20 fg_Sc_9 h_1 rfl ?_
      refine T_iload_n d_Sc_addModulus_23 rfl ?_
      have h_6 := (hK 184 (by decide)).trans (hH)
      refine N_laload (k := k) (x := (H k)) d_Sc_addModulus_24 h_6 (by omega) (by decide) rfl ?_
      refine T_iload_n d_Sc_addModulus_25 rfl ?_
      refine T_i2l d_Sc_addModulus_26 ?_
      refine T_getstatic (q := ("PasswordGate$Scalars", "Q", "[J", .ref 10)) d_Sc_addModulus_27 (List.mem_of_getElem? (i := 10) rfl) gs_Sc_43 (show 10 < K0 by decide) ?_
      refine T_iload_n d_Sc_addModulus_30 rfl ?_
      have h_7 := (hK 10 (by decide)).trans (hQ)
      refine N_laload (k := k) (x := ((fun j => tb_10.getD j 0) k)) d_Sc_addModulus_31 h_7 (by omega) (by decide) rfl ?_
      refine T_lmul d_Sc_addModulus_32 ?_
      refine T_ladd d_Sc_addModulus_33 ?_
      refine T_goto (tgt := 43) d_Sc_addModulus_34 rfl ?_
      refine N_lastore (k := k) d_Sc_addModulus_43 (by decide) h1 (by omega) (by decide) rfl (fun M_8 h_9 s_10 => ?_)
      refine N_iinc (k := k) (m := 1) (c := (k + 1)) (L' := [(2, .int (nI ((k + 1)))), (0, .ref 183), (1, .int (nI 1))]) d_Sc_addModulus_44 (by decide) rfl (by decide) rfl rfl ?_
      refine T_goto (tgt := 2) d_Sc_addModulus_47 rfl ?_
      exact ih (k + 1) M_8 (by omega) ⟨⟨_, h_9, fun j hj => by unfold vp_updL; by_cases e : j = k; subst e; rw [if_pos rfl, if_pos (by omega)]; exact am_p (hx j (by omega) (by omega)) (by omega); rw [if_neg e]; exact h2 j (by omega)⟩, (Kp.ex (Kp.tr (Kp.rf : Kp [185] M0 M0) (Kp.mono hK (by decide))) s_10 (by decide))⟩
set_option maxHeartbeats 8000000 in
theorem y_Sc_addM_p {G : GX} {M : List va_E} {H : Nat → Int64} {V : Int} (ho : M[183]? = some scO) (hH : M[184]? = some (lr 20 H)) (hF : LQ M 185 20) (hV : NL H V) (hb : -(bS ^ 19 * 536870912) ≤ V ∧ V < bS ^ 19 * 536870912) : CT G mi_Sc_addModulus [.ref 183, .int (nI 1)] M (fun r M' => r = none ∧ (∃ H, M'[184]? = some (lr 20 H) ∧ NL H (V + qS)) ∧ LQ M' 185 20 ∧ Kp [184, 185] M M') := by
  obtain ⟨F0, hF⟩ := hF
  have hx : ∀ i, 0 ≤ i → i < 20 → -536870912 ≤ (H i).toInt ∧ (H i).toInt ≤ 536870912 := fun i _ h2 => by
    by_cases e : i < 19
    · have := hV.2 i e; have b : (H i).toInt < 268435456 := this.2; omega
    · have e : i = 19 := by omega
      subst e; rw [hV.top]; have hp := bS_pos 19
      refine ⟨(Int.le_ediv_iff_mul_le hp).mpr ?_, Int.le_of_lt (Int.ediv_lt_of_lt_mul hp ?_)⟩
      · rw [Int.neg_mul, Int.mul_comm]; exact hb.1
      · rw [Int.mul_comm]; exact hb.2
  refine CT.of (by decide) (Nat.le_of_ble_eq_true rfl) ?_
  show TT G mi_Sc_addModulus 0 [(0, .ref 183), (1, .int (nI 1))] [] M 0 0 _
  refine T_know (fun hK0 => ?_)
  have hQ : M[10]? = some (lr 10 (fun j => tb_10.getD j 0)) := hK0 10 (by decide)
  refine T_iconst (v := nI 0) d_Sc_addModulus_0 (by decide) ?_
  refine T_istore_n (L' := [(2, .int (nI 0)), (0, .ref 183), (1, .int (nI 1))]) d_Sc_addModulus_1 (by decide) rfl ?_
  refine am_lp_p G ho hH hQ hx (fun Ma hI => ?_) 20 0 M rfl ⟨⟨F0, hF, fun j hj => absurd hj (by omega)⟩, Kp.rf⟩
  obtain ⟨⟨F1, h1, h2⟩, hK1⟩ := hI
  have fb : BL F1 2305843009213693952 := fun i hi => by have a := hx i (by omega) hi; rw [h2 i hi]; split; (have q := qT_b i (by omega); have q1 : qT i < 268435456 := q.2; omega); omega
  have fv : LV F1 20 = V + qS := by
    rw [← hV.1, ← qT_10]; unfold LV; rw [sumS_congr h2]; exact am_sump _
  refine T_aload_n (v := .ref 183) d_Sc_addModulus_50 rfl (Or.inr ⟨_, rfl⟩) ?_
  have h_2 := (hK1 184 (by decide)).trans (hH)
  have h_3 := (hK1 183 (by decide)).trans (ho)
  refine T_virtual (as := []) (rest := []) (b := 183) d_Sc_addModulus_51 rfl (jw_Sc_carry.jo (by decide)) lm_Sc_48 ji_Sc_carry js_Sc_carry h_3 rfl rfl rfl (Nat.le_of_ble_eq_true rfl) (by decide) (by decide) (y_Sc_carry h_3 ⟨H, h_2⟩ h1 fb fv) (fun r M_1 hq => ?_)
  obtain ⟨rfl, ⟨H_1, hH_1, nl_1⟩, kp_1⟩ := hq
  refine T_eq (pc' := 54) (L' := [(0, .ref 183), (1, .int (nI 1))]) (st' := []) (M' := M_1) rfl rfl rfl rfl ?_
  have h_4 := (kp_1 185 (by decide)).trans (h1)
  exact T_vret d_Sc_addModulus_54 rfl (by decide) (by decide) ⟨rfl, ⟨_, hH_1, nl_1⟩, ⟨_, h_4⟩, (Kp.tr (Kp.tr (Kp.rf : Kp [184, 185] M M) (Kp.mono hK1 (by decide))) (Kp.mono kp_1 (by decide)))⟩
theorem am_sumn (g : Nat → Int) : sumS (fun j => if j < 10 then g j - qT j else g j) 20 = sumS g 20 - sumS qT 10 := by
  rw [show (20 : Nat) = 10 + 10 from rfl, sumS_split, sumS_split g]
  have e : ∀ n, n ≤ 10 → sumS (fun j => if j < 10 then g j - qT j else g j) n = sumS g n - sumS qT n := by
    intro n
    induction n with
    | zero => intro _; rfl
    | succ n ih =>
      intro h
      show sumS _ n + (if n < 10 then g n - qT n else g n) * bS ^ n = sumS g n + g n * bS ^ n - (sumS qT n + qT n * bS ^ n)
      rw [ih (by omega), if_pos (by omega)]
      generalize bS ^ n = P; generalize sumS g n = S; generalize sumS qT n = T
      grind
  rw [e 10 (by omega), sumS_congr (n := 10) (g := fun k => if 10 + k < 10 then g (10 + k) - qT (10 + k) else g (10 + k)) (h := fun k => g (10 + k)) (fun k hk => if_neg (by omega))]
  omega
theorem am_n {x : Int64} {j : Nat} (hx : -536870912 ≤ x.toInt ∧ x.toInt ≤ 536870912) (hj : j < 10) : (x + (-1 : Int32).toInt64 * tb_10.getD j 0).toInt = x.toInt - qT j := by
  have q := qT_b j hj
  have q1 : qT j < 268435456 := q.2
  have qt := qT_t j hj
  have e : ((-1 : Int32).toInt64).toInt = -1 := by decide
  have m : ((-1 : Int32).toInt64 * tb_10.getD j 0).toInt = -1 * qT j := by rw [i64_mul (by rw [e, qt]; omega) (by rw [e, qt]; omega), e, qt]
  rw [i64_add (by rw [m]; omega) (by rw [m]; omega), m]; omega
set_option maxHeartbeats 8000000 in
theorem am_lp_n (G : GX) {M0 : List va_E} {H : Nat → Int64} (ho : M0[183]? = some scO) (hH : M0[184]? = some (lr 20 H)) (hQ : M0[10]? = some (lr 10 (fun j => tb_10.getD j 0))) (hx : ∀ i, 0 ≤ i → i < 20 → -536870912 ≤ (H i).toInt ∧ (H i).toInt ≤ 536870912) {Q : Option Value → List va_E → Prop} (kk : ∀ M, (∃ F, M[185]? = some (lr 20 F) ∧ ∀ j, j < 20 → (F j).toInt = if j < 10 then ((H j).toInt - qT j) else (H j).toInt) ∧ Kp [185] M0 M → TT G mi_Sc_addModulus 50 [(0, .ref 183), (1, .int (-1))] [] M 0 0 Q) : ∀ j k M, k + j = 20 → (∃ F, M[185]? = some (lr 20 F) ∧ ∀ j, j < k → (F j).toInt = if j < 10 then ((H j).toInt - qT j) else (H j).toInt) ∧ Kp [185] M0 M → TT G mi_Sc_addModulus 2 [(2, .int (nI k)), (0, .ref 183), (1, .int (-1))] [] M 0 0 Q := by
  intro j
  induction j with
  | zero =>
    intro k M hk hI
    obtain rfl : 20 = k := by omega
    refine T_iload_n d_Sc_addModulus_2 rfl ?_
    refine T_bipush (v := nI 20) d_Sc_addModulus_3 (by decide) ?_
    refine N_icmp_ge_t (a := 20) (b := 20) d_Sc_addModulus_5 (tgt := 50) rfl (by omega) (by omega) (by omega) ?_
    exact T_sub (fun q hq => List.mem_cons_of_mem _ hq) (kk M hI)
  | succ j ih =>
    intro k M hk hI
    obtain ⟨⟨F, h1, h2⟩, hK⟩ := hI
    refine T_iload_n d_Sc_addModulus_2 rfl ?_
    refine T_bipush (v := nI 20) d_Sc_addModulus_3 (by decide) ?_
    refine N_icmp_ge_f (a := 20) (b := k) d_Sc_addModulus_5 (tgt := 50) rfl (by omega) (by omega) (by omega) ?_
    refine T_aload_n (v := .ref 183) d_Sc_addModulus_8 rfl (Or.inr ⟨_, rfl⟩) ?_
    have h_1 := (hK 183 (by decide)).trans (ho)
    refine T_getfield (v := .ref 185) d_Sc_addModulus_9 fg_Sc_13 h_1 rfl ?_
    refine T_iload_n d_Sc_addModulus_12 rfl ?_
    refine T_iload_n d_Sc_addModulus_13 rfl ?_
    refine T_bipush (v := nI 10) d_Sc_addModulus_14 (by decide) ?_
    refine N_icmp_ge (a := 10) (b := k) d_Sc_addModulus_16 (tgt := 37) rfl (by omega) (by omega) (fun h10 => ?_) (fun h10 => ?_)
    ·
      refine T_aload_n (v := .ref 183) d_Sc_addModulus_37 rfl (Or.inr ⟨_, rfl⟩) ?_
      refine T_getfield (v := .ref 184) d_Sc_addModulus_38 fg_Sc_9 h_1 rfl ?_
      refine T_iload_n d_Sc_addModulus_41 rfl ?_
      have h_2 := (hK 184 (by decide)).trans (hH)
      refine N_laload (k := k) (x := (H k)) d_Sc_addModulus_42 h_2 (by omega) (by decide) rfl ?_
      refine N_lastore (k := k) d_Sc_addModulus_43 (by decide) h1 (by omega) (by decide) rfl (fun M_3 h_4 s_5 => ?_)
      refine N_iinc (k := k) (m := 1) (c := (k + 1)) (L' := [(2, .int (nI ((k + 1)))), (0, .ref 183), (1, .int (-1))]) d_Sc_addModulus_44 (by decide) rfl (by decide) rfl rfl ?_
      refine T_goto (tgt := 2) d_Sc_addModulus_47 rfl ?_
      exact ih (k + 1) M_3 (by omega) ⟨⟨_, h_4, fun j hj => by unfold vp_updL; by_cases e : j = k; subst e; rw [if_pos rfl, if_neg (by omega)]; rw [if_neg e]; exact h2 j (by omega)⟩, (Kp.ex (Kp.tr (Kp.rf : Kp [185] M0 M0) (Kp.mono hK (by decide))) s_5 (by decide))⟩
    ·
      refine T_aload_n (v := .ref 183) d_Sc_addModulus_19 rfl (Or.inr ⟨_, rfl⟩) ?_
      refine T_getfield (v := .ref 184) d_Sc_addModulus_20 fg_Sc_9 h_1 rfl ?_
      refine T_iload_n d_Sc_addModulus_23 rfl ?_
      have h_6 := (hK 184 (by decide)).trans (hH)
      refine N_laload (k := k) (x := (H k)) d_Sc_addModulus_24 h_6 (by omega) (by decide) rfl ?_
      refine T_iload_n d_Sc_addModulus_25 rfl ?_
      refine T_i2l d_Sc_addModulus_26 ?_
      refine T_getstatic (q := ("PasswordGate$Scalars", "Q", "[J", .ref 10)) d_Sc_addModulus_27 (List.mem_of_getElem? (i := 10) rfl) gs_Sc_43 (show 10 < K0 by decide) ?_
      refine T_iload_n d_Sc_addModulus_30 rfl ?_
      have h_7 := (hK 10 (by decide)).trans (hQ)
      refine N_laload (k := k) (x := ((fun j => tb_10.getD j 0) k)) d_Sc_addModulus_31 h_7 (by omega) (by decide) rfl ?_
      refine T_lmul d_Sc_addModulus_32 ?_
      refine T_ladd d_Sc_addModulus_33 ?_
      refine T_goto (tgt := 43) d_Sc_addModulus_34 rfl ?_
      refine N_lastore (k := k) d_Sc_addModulus_43 (by decide) h1 (by omega) (by decide) rfl (fun M_8 h_9 s_10 => ?_)
      refine N_iinc (k := k) (m := 1) (c := (k + 1)) (L' := [(2, .int (nI ((k + 1)))), (0, .ref 183), (1, .int (-1))]) d_Sc_addModulus_44 (by decide) rfl (by decide) rfl rfl ?_
      refine T_goto (tgt := 2) d_Sc_addModulus_47 rfl ?_
      exact ih (k + 1) M_8 (by omega) ⟨⟨_, h_9, fun j hj => by unfold vp_updL; by_cases e : j = k; subst e; rw [if_pos rfl, if_pos (by omega)]; exact am_n (hx j (by omega) (by omega)) (by omega); rw [if_neg e]; exact h2 j (by omega)⟩, (Kp.ex (Kp.tr (Kp.rf : Kp [185] M0 M0) (Kp.mono hK (by decide))) s_10 (by decide))⟩
set_option maxHeartbeats 8000000 in
theorem y_Sc_addM_n {G : GX} {M : List va_E} {H : Nat → Int64} {V : Int} (ho : M[183]? = some scO) (hH : M[184]? = some (lr 20 H)) (hF : LQ M 185 20) (hV : NL H V) (hb : -(bS ^ 19 * 536870912) ≤ V ∧ V < bS ^ 19 * 536870912) : CT G mi_Sc_addModulus [.ref 183, .int (-1)] M (fun r M' => r = none ∧ (∃ H, M'[184]? = some (lr 20 H) ∧ NL H (V - qS)) ∧ LQ M' 185 20 ∧ Kp [184, 185] M M') := by
  obtain ⟨F0, hF⟩ := hF
  have hx : ∀ i, 0 ≤ i → i < 20 → -536870912 ≤ (H i).toInt ∧ (H i).toInt ≤ 536870912 := fun i _ h2 => by
    by_cases e : i < 19
    · have := hV.2 i e; have b : (H i).toInt < 268435456 := this.2; omega
    · have e : i = 19 := by omega
      subst e; rw [hV.top]; have hp := bS_pos 19
      refine ⟨(Int.le_ediv_iff_mul_le hp).mpr ?_, Int.le_of_lt (Int.ediv_lt_of_lt_mul hp ?_)⟩
      · rw [Int.neg_mul, Int.mul_comm]; exact hb.1
      · rw [Int.mul_comm]; exact hb.2
  refine CT.of (by decide) (Nat.le_of_ble_eq_true rfl) ?_
  show TT G mi_Sc_addModulus 0 [(0, .ref 183), (1, .int (-1))] [] M 0 0 _
  refine T_know (fun hK0 => ?_)
  have hQ : M[10]? = some (lr 10 (fun j => tb_10.getD j 0)) := hK0 10 (by decide)
  refine T_iconst (v := nI 0) d_Sc_addModulus_0 (by decide) ?_
  refine T_istore_n (L' := [(2, .int (nI 0)), (0, .ref 183), (1, .int (-1))]) d_Sc_addModulus_1 (by decide) rfl ?_
  refine am_lp_n G ho hH hQ hx (fun Ma hI => ?_) 20 0 M rfl ⟨⟨F0, hF, fun j hj => absurd hj (by omega)⟩, Kp.rf⟩
  obtain ⟨⟨F1, h1, h2⟩, hK1⟩ := hI
  have fb : BL F1 2305843009213693952 := fun i hi => by have a := hx i (by omega) hi; rw [h2 i hi]; split; (have q := qT_b i (by omega); have q1 : qT i < 268435456 := q.2; omega); omega
  have fv : LV F1 20 = V - qS := by
    rw [← hV.1, ← qT_10]; unfold LV; rw [sumS_congr h2]; exact am_sumn _
  refine T_aload_n (v := .ref 183) d_Sc_addModulus_50 rfl (Or.inr ⟨_, rfl⟩) ?_
  have h_2 := (hK1 184 (by decide)).trans (hH)
  have h_3 := (hK1 183 (by decide)).trans (ho)
  refine T_virtual (as := []) (rest := []) (b := 183) d_Sc_addModulus_51 rfl (jw_Sc_carry.jo (by decide)) lm_Sc_48 ji_Sc_carry js_Sc_carry h_3 rfl rfl rfl (Nat.le_of_ble_eq_true rfl) (by decide) (by decide) (y_Sc_carry h_3 ⟨H, h_2⟩ h1 fb fv) (fun r M_1 hq => ?_)
  obtain ⟨rfl, ⟨H_1, hH_1, nl_1⟩, kp_1⟩ := hq
  refine T_eq (pc' := 54) (L' := [(0, .ref 183), (1, .int (-1))]) (st' := []) (M' := M_1) rfl rfl rfl rfl ?_
  have h_4 := (kp_1 185 (by decide)).trans (h1)
  exact T_vret d_Sc_addModulus_54 rfl (by decide) (by decide) ⟨rfl, ⟨_, hH_1, nl_1⟩, ⟨_, h_4⟩, (Kp.tr (Kp.tr (Kp.rf : Kp [184, 185] M M) (Kp.mono hK1 (by decide))) (Kp.mono kp_1 (by decide)))⟩
def fo (V : Int) : Int := V - qS * (V / bS ^ 9)
theorem fo_id (V : Int) : fo V = V % bS ^ 9 - cS_ * (V / bS ^ 9) := (fold_id rfl).symm
theorem fo_mod (V : Int) : fo V % qS = V % qS := by unfold fo; rw [Int.sub_mul_emod_self_left]
set_option maxHeartbeats 8000000 in
theorem fo3 {X : Int} (h0 : 0 ≤ X) (h1 : X < 13407807929942597099574024998205846127479365820592393377723561443721764030073546976801874298166903427690031858186486050853753882811946569946433649006084096) : (-(bS ^ 19 * 536870912) ≤ X ∧ X < bS ^ 19 * 536870912) ∧ (-(bS ^ 19 * 536870912) ≤ fo X ∧ fo X < bS ^ 19 * 536870912) ∧ (-(bS ^ 19 * 536870912) ≤ fo (fo X) ∧ fo (fo X) < bS ^ 19 * 536870912) ∧ (-(qS) < fo (fo (fo X)) ∧ fo (fo (fo X)) < qS) := by
  have P : (bS : Int) ^ 9 = 7237005577332262213973186563042994240829374041602535252466099000494570602496 := by decide
  have T : (bS : Int) ^ 19 * 536870912 = 7547924849643082704483109161976537781833842440832880856752412600491248324784297704172253450355317535082936750061527689799541169259849585265122868502865392087298790653952 := by decide
  have b1 : -2582249878086908589655919172003011874329705792829223512830659356540647622016841194629645353280137831435903171972747493376 < fo X ∧ fo X < 7237005577332262213973186563042994240829374041602535252466099000494570602496 := by
    rw [fo_id, P]; unfold cS_; omega
  have b2 : -1 < fo (fo X) ∧ fo (fo X) < 60708402882054033466233184588234965832575213720379360039119137804340758912662765568 := by
    rw [fo_id (fo X), P]; unfold cS_; omega
  refine ⟨by rw [T]; omega, by rw [T]; omega, by rw [T]; omega, ?_⟩
  rw [fo_id (fo (fo X)), P]; unfold cS_ qS; omega
theorem qS_pos : (0 : Int) < qS := by decide
theorem res_mod {R X : Int} (h0 : 0 ≤ R) (h1 : R < qS) (e : R % qS = X % qS) : R = X % qS := by rw [← e, Int.emod_eq_of_lt h0 h1]
theorem NL.neg {H : Nat → Int64} {V : Int} (h : NL H V) : (H 19).toInt < 0 ↔ V < 0 := by
  rw [h.top]
  have hp := bS_pos 19
  constructor
  · intro c; by_cases z : V < 0; exact z; exact absurd (Int.ediv_nonneg (show 0 ≤ V by omega) (Int.le_of_lt hp)) (by omega)
  · intro c; exact Int.ediv_neg_of_neg_of_pos c hp
theorem lc_ge {z : Int64} : (0 : Int32) ≤ lg_cmp z 0 ↔ 0 ≤ z.toInt := by
  have g : z > 0 ↔ 0 < z.toInt := by rw [gt_iff_lt, Int64.lt_iff_toInt_lt]; rfl
  unfold lg_cmp
  by_cases a : z > 0
  · rw [if_pos a]; exact ⟨fun _ => by have := g.mp a; omega, fun _ => by decide⟩
  · rw [if_neg a]
    by_cases b : z = 0
    · subst b; rw [if_pos rfl]; exact ⟨fun _ => by decide, fun _ => by decide⟩
    · rw [if_neg b]
      refine ⟨fun h => absurd h (by decide), fun h => ?_⟩
      have n : ¬ 0 < z.toInt := fun c => a (g.mpr c)
      exact absurd (Int64.toInt_inj.mp (show z.toInt = (0 : Int64).toInt by rw [show (0 : Int64).toInt = 0 from rfl]; omega)) b
set_option maxHeartbeats 8000000 in
theorem sv_or {b x : Int64} {c n : Nat} {U : Int} (hc : c < 8) (hb : b.toInt = U % 2 ^ c) (hx : x.toInt = U / 2 ^ c % 268435456) : (b ||| (x <<< ((nI c).toInt64 &&& 63))).toInt = U % 2 ^ (c + 28) := by
  have hs : (((nI c).toInt64 &&& 63 : Int64).toBitVec.smod 64).toNat = c := by
    have : ∀ c, c < 8 → (((nI c).toInt64 &&& 63 : Int64).toBitVec.smod 64).toNat = c := by decide
    exact this c hc
  have pc : (0 : Int) < 2 ^ c := Int.pow_pos (by decide)
  have h0 : 0 ≤ b.toInt ∧ b.toInt < 2 ^ c := by rw [hb]; exact ⟨Int.emod_nonneg _ (by omega), Int.emod_lt_of_pos _ pc⟩
  have hx0 : 0 ≤ x.toInt ∧ x.toInt < 268435456 := by rw [hx]; omega
  have hn := i64_nn h0.1
  have hxn := i64_nn hx0.1
  have hp : ((2 ^ c : Nat) : Int) = 2 ^ c := by norm_cast
  have hlt : b.toBitVec.toNat < 2 ^ c := by have := h0.2; rw [← hp] at this; omega
  have hpow : (2 : Nat) ^ c ≤ 2 ^ 7 := Nat.pow_le_pow_right (by decide) (by omega)
  have hxl : x.toBitVec.toNat < 268435456 := by omega
  have hsm : x.toBitVec.toNat * 2 ^ c < 2 ^ 60 := by
    calc x.toBitVec.toNat * 2 ^ c ≤ 268435456 * 2 ^ 7 := Nat.mul_le_mul (by omega) hpow
      _ < 2 ^ 60 := by decide
  have key : (b ||| (x <<< ((nI c).toInt64 &&& 63))).toBitVec.toNat = b.toBitVec.toNat + x.toBitVec.toNat * 2 ^ c := by
    rw [Int64.toBitVec_or, BitVec.toNat_or, Int64.toBitVec_shiftLeft, BitVec.shiftLeft_eq', hs, BitVec.toNat_shiftLeft, Nat.shiftLeft_eq]
    rw [Nat.mod_eq_of_lt (by omega), ← Nat.shiftLeft_eq, Nat.or_comm, ← Nat.shiftLeft_add_eq_or_of_lt hlt, Nat.shiftLeft_eq, Nat.add_comm]
  rw [i64_of key (by omega), Int.natCast_add, Int.natCast_mul, hp, ← hn, ← hxn, hb, hx]
  have e : (2 : Int) ^ (c + 28) = 2 ^ c * 268435456 := by rw [Int.pow_add]; rfl
  rw [e]
  have a1 := Int.emod_add_mul_ediv U (2 ^ c)
  have a2 := Int.emod_add_mul_ediv (U / 2 ^ c) 268435456
  have u : U = (U % 2 ^ c + U / 2 ^ c % 268435456 * 2 ^ c) + (2 ^ c * 268435456) * (U / 2 ^ c / 268435456) := by
    generalize U % 2 ^ c = r at *; generalize U / 2 ^ c = t at *; generalize (2 : Int) ^ c = P at *
    generalize t % 268435456 = r2 at *; generalize t / 268435456 = t2 at *
    rw [← a1, ← a2]; grind
  have hA : 0 ≤ U % 2 ^ c + U / 2 ^ c % 268435456 * 2 ^ c ∧ U % 2 ^ c + U / 2 ^ c % 268435456 * 2 ^ c < 2 ^ c * 268435456 := by
    have h3 : 0 ≤ U / 2 ^ c % 268435456 * 2 ^ c := Int.mul_nonneg (by omega) (by omega)
    have h4 := Int.emod_nonneg U (show (2 : Int) ^ c ≠ 0 by omega)
    have h1 := Int.emod_lt_of_pos U pc
    have h2 : U / 2 ^ c % 268435456 * 2 ^ c ≤ 268435455 * 2 ^ c := Int.mul_le_mul_of_nonneg_right (by omega) (by omega)
    clear u a1 a2 e key hsm hpow hlt hp hxn hn hx0 h0 hs hb hx
    generalize U / 2 ^ c % 268435456 * 2 ^ c = W at *
    generalize U % 2 ^ c = W2 at *
    generalize (2 : Int) ^ c = P at *
    omega
  have f : U % (2 ^ c * 268435456) = U % 2 ^ c + U / 2 ^ c % 268435456 * 2 ^ c := by
    conv => lhs; rw [u]
    rw [Int.add_mul_emod_self_left]
    exact Int.emod_eq_of_lt hA.1 hA.2
  exact f.symm
theorem md_dv (U P : Int) (hP : 0 < P) : U % (256 * P) / 256 = U / 256 % P := by
  have a1 := Int.emod_add_mul_ediv U 256
  have a2 := Int.emod_add_mul_ediv (U / 256) P
  have r1 : 0 ≤ U % 256 ∧ U % 256 < 256 := by omega
  have r2 : 0 ≤ U / 256 % P ∧ U / 256 % P < P := ⟨Int.emod_nonneg _ (by omega), Int.emod_lt_of_pos _ hP⟩
  have u : U % (256 * P) = 256 * (U / 256 % P) + U % 256 := by
    have e : U = (256 * (U / 256 % P) + U % 256) + (256 * P) * (U / 256 / P) := by
      generalize U % 256 = r at *; generalize U / 256 = t at *; generalize t % P = s at *; generalize t / P = v at *
      rw [← a1, ← a2]; grind
    conv => lhs; rw [e]
    rw [Int.add_mul_emod_self_left, Int.emod_eq_of_lt (by omega) (by omega)]
  rw [u]; omega
theorem sv_shr {b : Int64} {c : Nat} {U : Int} (hc : 8 ≤ c) (hb : b.toInt = U % 2 ^ c) : (b >>> ((nI 8).toInt64 &&& 63)).toInt = U / 256 % 2 ^ (c - 8) := by
  rw [i64_shr _ (k := 8) (by decide), hb]
  have e : (2 : Int) ^ c = 256 * 2 ^ (c - 8) := by rw [show (256 : Int) = 2 ^ 8 from rfl, ← Int.pow_add]; congr 1; omega
  rw [e, show (2 : Int) ^ 8 = 256 from rfl]
  exact md_dv U _ (Int.pow_pos (by decide))
theorem sv_byte {b : Int64} {c : Nat} {U : Int} (hc : 8 ≤ c) (hb : b.toInt = U % 2 ^ c) : b.toInt32.toInt8.toInt32 = sb (U % 256) := by
  rw [sb_of, hb]
  have e : (2 : Int) ^ c = 256 * 2 ^ (c - 8) := by rw [show (256 : Int) = 2 ^ 8 from rfl, ← Int.pow_add]; congr 1; omega
  rw [e, Int.emod_emod_of_dvd U (Int.dvd_mul_right 256 _)]
def lbN (x : Nat) : List UInt8 := (List.range 32).map fun k => UInt8.ofNat (x / 256 ^ k % 256)
theorem lbN_len (x : Nat) : (lbN x).length = 32 := by unfold lbN; simp
theorem lbN_gd {x k : Nat} (h : k < 32) : gd (lbN x) k = UInt8.ofNat (x / 256 ^ k % 256) := mr_gd h
theorem sb_n {z : Nat} (h : z < 256) : sb (z : Int) = cB (UInt8.ofNat z) := by rw [← u8_nI h, ← cB_u8]; rfl
theorem leN_ext {l m : List UInt8} {n : Nat} (h : ∀ k, k < n → gd l k = gd m k) : leN l n = leN m n := by
  induction n with
  | zero => rfl
  | succ n ih => show leN l n + _ = leN m n + _; rw [ih fun k hk => h k (by omega), h n (by omega)]
theorem leN_lbN {x : Nat} : ∀ {n : Nat}, n ≤ 32 → leN (lbN x) n = x % 256 ^ n := by
  intro n
  induction n with
  | zero => intro _; show 0 = x % 1; omega
  | succ n ih =>
    intro h
    show leN (lbN x) n + (gd (lbN x) n).toNat * 256 ^ n = _
    rw [ih (by omega), lbN_gd (by omega), UInt8.toNat_ofNat', show x / 256 ^ n % 256 % 2 ^ 8 = x / 256 ^ n % 256 by omega, Nat.pow_succ, Nat.mod_mul]
    rw [Nat.mul_comm (256 ^ n)]
theorem NL.dig {H : Nat → Int64} {V : Int} (h : NL H V) (h0 : 0 ≤ V) {k : Nat} (hk : k < 19) : (H k).toInt = V / bS ^ k % bS := by
  have e : V = sumS (fun i => (H i).toInt) 19 + (H 19).toInt * bS ^ 19 := h.1.symm
  have d := sumS_dig (g := fun i => (H i).toInt) h.2 hk
  try dsimp only at d
  rw [← d, e, show (bS : Int) ^ 19 = bS ^ (19 - k - 1) * bS * bS ^ k by rw [← Int.pow_succ, ← Int.pow_add]; congr 1; omega, ← Int.mul_assoc, Int.add_mul_ediv_right _ _ (Int.ne_of_gt (bS_pos k)), ← Int.mul_assoc, Int.add_mul_emod_self_right]
def SCS (M : List va_E) : Prop := M[183]? = some scO ∧ LQ M 184 20 ∧ LQ M 185 20 ∧ LQ M 186 20 ∧ LQ M 187 20
abbrev scW : List Nat := [183, 184, 185, 186, 187]
theorem SCS.kp {M M' : List va_E} {W : List Nat} (h : SCS M) (s : Kp W M M') (hn : ∀ q ∈ scW, q ∉ W) : SCS M' := ⟨(s _ (hn 183 (by decide))).trans h.1, h.2.1.kp s (hn 184 (by decide)), h.2.2.1.kp s (hn 185 (by decide)), h.2.2.2.1.kp s (hn 186 (by decide)), h.2.2.2.2.kp s (hn 187 (by decide))⟩
set_option maxHeartbeats 8000000 in
theorem y_Sc_fold {G : GX} {M : List va_E} {H : Nat → Int64} {X : Int} (ho : M[183]? = some scO) (hH : M[184]? = some (lr 20 H)) (hF : LQ M 185 20) (hV : NL H X) (h0 : 0 ≤ X) (h1 : X < 13407807929942597099574024998205846127479365820592393377723561443721764030073546976801874298166903427690031858186486050853753882811946569946433649006084096) : CT G mi_Sc_fold [.ref 183] M (fun r M' => r = none ∧ (∃ H, M'[184]? = some (lr 20 H) ∧ NL H (X % qS)) ∧ LQ M' 185 20 ∧ Kp [184, 185] M M') := by
  obtain ⟨f1, f2, f3, f4⟩ := fo3 h0 h1
  have fm : fo (fo (fo X)) % qS = X % qS := by rw [fo_mod, fo_mod, fo_mod]
  have qv : qS = 7237005577332262213973186563042994240857116359379907606001950938285454250989 := rfl
  have T : (bS : Int) ^ 19 * 536870912 = 7547924849643082704483109161976537781833842440832880856752412600491248324784297704172253450355317535082936750061527689799541169259849585265122868502865392087298790653952 := by decide
  refine CT.of (by decide) (Nat.le_of_ble_eq_true rfl) ?_
  show TT G mi_Sc_fold 0 [(0, .ref 183)] [] M 0 0 _
  refine T_iconst (v := nI 0) d_Sc_fold_0 (by decide) ?_
  refine T_istore_n (L' := [(1, .int (nI 0)), (0, .ref 183)]) d_Sc_fold_1 (by decide) rfl ?_
  refine T_iload_n d_Sc_fold_2 rfl ?_
  refine T_iconst (v := nI 3) d_Sc_fold_3 (by decide) ?_
  refine N_icmp_ge_f (a := 3) (b := 0) d_Sc_fold_4 (tgt := 17) rfl (by omega) (by omega) (by omega) ?_
  refine T_aload_n (v := .ref 183) d_Sc_fold_7 rfl (Or.inr ⟨_, rfl⟩) ?_
  refine T_virtual (as := []) (rest := []) (b := 183) d_Sc_fold_8 rfl (jw_Sc_foldOnce.jo (by decide)) lm_Sc_51 ji_Sc_foldOnce js_Sc_foldOnce ho rfl rfl rfl (Nat.le_of_ble_eq_true rfl) (by decide) (by decide) (y_Sc_foldOnce ho hH hF hV f1) (fun r M_1 hq => ?_)
  obtain ⟨rfl, ⟨H_1, hH_1, nl_1⟩, lq_1, kp_1⟩ := hq
  refine T_eq (pc' := 11) (L' := [(1, .int (nI 0)), (0, .ref 183)]) (st' := []) (M' := M_1) rfl rfl rfl rfl ?_
  refine N_iinc (k := 0) (m := 1) (c := 1) (L' := [(1, .int (nI 1)), (0, .ref 183)]) d_Sc_fold_11 (by decide) rfl (by decide) rfl rfl ?_
  refine T_goto (tgt := 2) d_Sc_fold_14 rfl ?_
  refine T_iload_n d_Sc_fold_2 rfl ?_
  refine T_iconst (v := nI 3) d_Sc_fold_3 (by decide) ?_
  refine N_icmp_ge_f (a := 3) (b := 1) d_Sc_fold_4 (tgt := 17) rfl (by omega) (by omega) (by omega) ?_
  refine T_aload_n (v := .ref 183) d_Sc_fold_7 rfl (Or.inr ⟨_, rfl⟩) ?_
  have h_3 := (kp_1 183 (by decide)).trans (ho)
  refine T_virtual (as := []) (rest := []) (b := 183) d_Sc_fold_8 rfl (jw_Sc_foldOnce.jo (by decide)) lm_Sc_51 ji_Sc_foldOnce js_Sc_foldOnce h_3 rfl rfl rfl (Nat.le_of_ble_eq_true rfl) (by decide) (by decide) (y_Sc_foldOnce h_3 hH_1 lq_1 nl_1 f2) (fun r M_2 hq => ?_)
  obtain ⟨rfl, ⟨H_2, hH_2, nl_2⟩, lq_2, kp_2⟩ := hq
  refine T_eq (pc' := 11) (L' := [(1, .int (nI 1)), (0, .ref 183)]) (st' := []) (M' := M_2) rfl rfl rfl rfl ?_
  refine N_iinc (k := 1) (m := 1) (c := 2) (L' := [(1, .int (nI 2)), (0, .ref 183)]) d_Sc_fold_11 (by decide) rfl (by decide) rfl rfl ?_
  refine T_goto (tgt := 2) d_Sc_fold_14 rfl ?_
  refine T_iload_n d_Sc_fold_2 rfl ?_
  refine T_iconst (v := nI 3) d_Sc_fold_3 (by decide) ?_
  refine N_icmp_ge_f (a := 3) (b := 2) d_Sc_fold_4 (tgt := 17) rfl (by omega) (by omega) (by omega) ?_
  refine T_aload_n (v := .ref 183) d_Sc_fold_7 rfl (Or.inr ⟨_, rfl⟩) ?_
  have h_5 := (kp_2 183 (by decide)).trans (h_3)
  refine T_virtual (as := []) (rest := []) (b := 183) d_Sc_fold_8 rfl (jw_Sc_foldOnce.jo (by decide)) lm_Sc_51 ji_Sc_foldOnce js_Sc_foldOnce h_5 rfl rfl rfl (Nat.le_of_ble_eq_true rfl) (by decide) (by decide) (y_Sc_foldOnce h_5 hH_2 lq_2 nl_2 f3) (fun r M_4 hq => ?_)
  obtain ⟨rfl, ⟨H_4, hH_4, nl_4⟩, lq_4, kp_4⟩ := hq
  refine T_eq (pc' := 11) (L' := [(1, .int (nI 2)), (0, .ref 183)]) (st' := []) (M' := M_4) rfl rfl rfl rfl ?_
  refine N_iinc (k := 2) (m := 1) (c := 3) (L' := [(1, .int (nI 3)), (0, .ref 183)]) d_Sc_fold_11 (by decide) rfl (by decide) rfl rfl ?_
  refine T_goto (tgt := 2) d_Sc_fold_14 rfl ?_
  refine T_iload_n d_Sc_fold_2 rfl ?_
  refine T_iconst (v := nI 3) d_Sc_fold_3 (by decide) ?_
  refine N_icmp_ge_t (a := 3) (b := 3) d_Sc_fold_4 (tgt := 17) rfl (by omega) (by omega) (by omega) ?_
  refine T_aload_n (v := .ref 183) d_Sc_fold_17 rfl (Or.inr ⟨_, rfl⟩) ?_
  refine T_iconst (v := (-1)) d_Sc_fold_18 (by decide) ?_
  have h_7 := (kp_4 183 (by decide)).trans (h_5)
  refine T_virtual (as := [.int (-1)]) (rest := []) (b := 183) d_Sc_fold_19 rfl (jw_Sc_addModulus.jo (by decide)) lm_Sc_54 ji_Sc_addModulus js_Sc_addModulus h_7 rfl rfl rfl (Nat.le_of_ble_eq_true rfl) (by decide) (by decide) (y_Sc_addM_n (V := (fo (fo (fo X)))) h_7 hH_4 lq_4 nl_4 (by rw [T]; omega)) (fun r M_6 hq => ?_)
  obtain ⟨rfl, ⟨H_6, hH_6, nl_6⟩, lq_6, kp_6⟩ := hq
  refine T_eq (pc' := 22) (L' := [(1, .int (nI 3)), (0, .ref 183)]) (st' := []) (M' := M_6) rfl rfl rfl rfl ?_
  refine T_iconst (v := nI 0) d_Sc_fold_22 (by decide) ?_
  refine T_istore_n (L' := [(1, .int (nI 0)), (0, .ref 183)]) d_Sc_fold_23 (by decide) rfl ?_
  refine T_iload_n d_Sc_fold_24 rfl ?_
  refine T_iconst (v := nI 2) d_Sc_fold_25 (by decide) ?_
  refine N_icmp_ge_f (a := 2) (b := 0) d_Sc_fold_26 (tgt := 52) rfl (by omega) (by omega) (by omega) ?_
  refine T_aload_n (v := .ref 183) d_Sc_fold_29 rfl (Or.inr ⟨_, rfl⟩) ?_
  have h_8 := (kp_6 183 (by decide)).trans (h_7)
  refine T_getfield (v := .ref 184) d_Sc_fold_30 fg_Sc_9 h_8 rfl ?_
  refine T_bipush (v := nI 19) d_Sc_fold_33 (by decide) ?_
  refine N_laload (k := 19) (x := (H_6 19)) d_Sc_fold_35 hH_6 (by omega) (by decide) rfl ?_
  refine T_lconst (v := 0) d_Sc_fold_36 (by decide) ?_
  refine T_lcmp d_Sc_fold_37 ?_
  refine T_if_ge d_Sc_fold_38 (tgt := 46) rfl (fun hs1 => ?_) (fun hs1 => ?_)
  ·
    have vhs1 : 0 ≤ ((fo (fo (fo X))) - qS) := Int.not_lt.mp (fun c => absurd (lc_ge.mp hs1) (by have := (NL.neg nl_6).mpr c; omega))
    refine N_iinc (k := 0) (m := 1) (c := 1) (L' := [(1, .int (nI 1)), (0, .ref 183)]) d_Sc_fold_46 (by decide) rfl (by decide) rfl rfl ?_
    refine T_goto (tgt := 24) d_Sc_fold_49 rfl ?_
    refine T_iload_n d_Sc_fold_24 rfl ?_
    refine T_iconst (v := nI 2) d_Sc_fold_25 (by decide) ?_
    refine N_icmp_ge_f (a := 2) (b := 1) d_Sc_fold_26 (tgt := 52) rfl (by omega) (by omega) (by omega) ?_
    refine T_aload_n (v := .ref 183) d_Sc_fold_29 rfl (Or.inr ⟨_, rfl⟩) ?_
    refine T_getfield (v := .ref 184) d_Sc_fold_30 fg_Sc_9 h_8 rfl ?_
    refine T_bipush (v := nI 19) d_Sc_fold_33 (by decide) ?_
    refine N_laload (k := 19) (x := (H_6 19)) d_Sc_fold_35 hH_6 (by omega) (by decide) rfl ?_
    refine T_lconst (v := 0) d_Sc_fold_36 (by decide) ?_
    refine T_lcmp d_Sc_fold_37 ?_
    refine T_if_ge d_Sc_fold_38 (tgt := 46) rfl (fun hs2 => ?_) (fun hs2 => ?_)
    ·
      have vhs2 : 0 ≤ ((fo (fo (fo X))) - qS) := Int.not_lt.mp (fun c => absurd (lc_ge.mp hs2) (by have := (NL.neg nl_6).mpr c; omega))
      refine N_iinc (k := 1) (m := 1) (c := 2) (L' := [(1, .int (nI 2)), (0, .ref 183)]) d_Sc_fold_46 (by decide) rfl (by decide) rfl rfl ?_
      refine T_goto (tgt := 24) d_Sc_fold_49 rfl ?_
      refine T_iload_n d_Sc_fold_24 rfl ?_
      refine T_iconst (v := nI 2) d_Sc_fold_25 (by decide) ?_
      refine N_icmp_ge_t (a := 2) (b := 2) d_Sc_fold_26 (tgt := 52) rfl (by omega) (by omega) (by omega) ?_
      have e : ((fo (fo (fo X))) - qS) = X % qS := by
        refine res_mod (by omega) (by omega) ?_
        rw [← fm]
        rw [Int.sub_emod, Int.emod_self, Int.sub_zero, Int.emod_emod]
      rw [e] at nl_6
      exact T_vret d_Sc_fold_52 rfl (by decide) (by decide) ⟨rfl, ⟨_, hH_6, nl_6⟩, lq_6, (Kp.tr (Kp.tr (Kp.tr (Kp.tr (Kp.rf : Kp [184, 185] M M) (Kp.mono kp_1 (by decide))) (Kp.mono kp_2 (by decide))) (Kp.mono kp_4 (by decide))) (Kp.mono kp_6 (by decide)))⟩
    ·
      have vhs2 : ((fo (fo (fo X))) - qS) < 0 := (NL.neg nl_6).mp (by rcases Int.lt_or_le (H_6 19).toInt 0 with c | c; exact c; exact absurd (lc_ge.mpr c) hs2)
      refine T_aload_n (v := .ref 183) d_Sc_fold_41 rfl (Or.inr ⟨_, rfl⟩) ?_
      refine T_iconst (v := nI 1) d_Sc_fold_42 (by decide) ?_
      refine T_virtual (as := [.int (nI 1)]) (rest := []) (b := 183) d_Sc_fold_43 rfl (jw_Sc_addModulus.jo (by decide)) lm_Sc_54 ji_Sc_addModulus js_Sc_addModulus h_8 rfl rfl rfl (Nat.le_of_ble_eq_true rfl) (by decide) (by decide) (y_Sc_addM_p (V := ((fo (fo (fo X))) - qS)) h_8 hH_6 lq_6 nl_6 (by rw [T]; omega)) (fun r M_9 hq => ?_)
      obtain ⟨rfl, ⟨H_9, hH_9, nl_9⟩, lq_9, kp_9⟩ := hq
      refine T_eq (pc' := 46) (L' := [(1, .int (nI 1)), (0, .ref 183)]) (st' := []) (M' := M_9) rfl rfl rfl rfl ?_
      refine N_iinc (k := 1) (m := 1) (c := 2) (L' := [(1, .int (nI 2)), (0, .ref 183)]) d_Sc_fold_46 (by decide) rfl (by decide) rfl rfl ?_
      refine T_goto (tgt := 24) d_Sc_fold_49 rfl ?_
      refine T_iload_n d_Sc_fold_24 rfl ?_
      refine T_iconst (v := nI 2) d_Sc_fold_25 (by decide) ?_
      refine N_icmp_ge_t (a := 2) (b := 2) d_Sc_fold_26 (tgt := 52) rfl (by omega) (by omega) (by omega) ?_
      have e : (((fo (fo (fo X))) - qS) + qS) = X % qS := by
        refine res_mod (by omega) (by omega) ?_
        rw [← fm]
        rw [show (((fo (fo (fo X))) - qS) + qS) = fo (fo (fo X)) by omega]
      rw [e] at nl_9
      exact T_vret d_Sc_fold_52 rfl (by decide) (by decide) ⟨rfl, ⟨_, hH_9, nl_9⟩, lq_9, (Kp.tr (Kp.tr (Kp.tr (Kp.tr (Kp.tr (Kp.rf : Kp [184, 185] M M) (Kp.mono kp_1 (by decide))) (Kp.mono kp_2 (by decide))) (Kp.mono kp_4 (by decide))) (Kp.mono kp_6 (by decide))) (Kp.mono kp_9 (by decide)))⟩
  ·
    have vhs1 : ((fo (fo (fo X))) - qS) < 0 := (NL.neg nl_6).mp (by rcases Int.lt_or_le (H_6 19).toInt 0 with c | c; exact c; exact absurd (lc_ge.mpr c) hs1)
    refine T_aload_n (v := .ref 183) d_Sc_fold_41 rfl (Or.inr ⟨_, rfl⟩) ?_
    refine T_iconst (v := nI 1) d_Sc_fold_42 (by decide) ?_
    refine T_virtual (as := [.int (nI 1)]) (rest := []) (b := 183) d_Sc_fold_43 rfl (jw_Sc_addModulus.jo (by decide)) lm_Sc_54 ji_Sc_addModulus js_Sc_addModulus h_8 rfl rfl rfl (Nat.le_of_ble_eq_true rfl) (by decide) (by decide) (y_Sc_addM_p (V := ((fo (fo (fo X))) - qS)) h_8 hH_6 lq_6 nl_6 (by rw [T]; omega)) (fun r M_10 hq => ?_)
    obtain ⟨rfl, ⟨H_10, hH_10, nl_10⟩, lq_10, kp_10⟩ := hq
    refine T_eq (pc' := 46) (L' := [(1, .int (nI 0)), (0, .ref 183)]) (st' := []) (M' := M_10) rfl rfl rfl rfl ?_
    refine N_iinc (k := 0) (m := 1) (c := 1) (L' := [(1, .int (nI 1)), (0, .ref 183)]) d_Sc_fold_46 (by decide) rfl (by decide) rfl rfl ?_
    refine T_goto (tgt := 24) d_Sc_fold_49 rfl ?_
    refine T_iload_n d_Sc_fold_24 rfl ?_
    refine T_iconst (v := nI 2) d_Sc_fold_25 (by decide) ?_
    refine N_icmp_ge_f (a := 2) (b := 1) d_Sc_fold_26 (tgt := 52) rfl (by omega) (by omega) (by omega) ?_
    refine T_aload_n (v := .ref 183) d_Sc_fold_29 rfl (Or.inr ⟨_, rfl⟩) ?_
    have h_11 := (kp_10 183 (by decide)).trans (h_8)
    refine T_getfield (v := .ref 184) d_Sc_fold_30 fg_Sc_9 h_11 rfl ?_
    refine T_bipush (v := nI 19) d_Sc_fold_33 (by decide) ?_
    refine N_laload (k := 19) (x := (H_10 19)) d_Sc_fold_35 hH_10 (by omega) (by decide) rfl ?_
    refine T_lconst (v := 0) d_Sc_fold_36 (by decide) ?_
    refine T_lcmp d_Sc_fold_37 ?_
    refine T_if_ge d_Sc_fold_38 (tgt := 46) rfl (fun hs2 => ?_) (fun hs2 => ?_)
    ·
      have vhs2 : 0 ≤ (((fo (fo (fo X))) - qS) + qS) := Int.not_lt.mp (fun c => absurd (lc_ge.mp hs2) (by have := (NL.neg nl_10).mpr c; omega))
      refine N_iinc (k := 1) (m := 1) (c := 2) (L' := [(1, .int (nI 2)), (0, .ref 183)]) d_Sc_fold_46 (by decide) rfl (by decide) rfl rfl ?_
      refine T_goto (tgt := 24) d_Sc_fold_49 rfl ?_
      refine T_iload_n d_Sc_fold_24 rfl ?_
      refine T_iconst (v := nI 2) d_Sc_fold_25 (by decide) ?_
      refine N_icmp_ge_t (a := 2) (b := 2) d_Sc_fold_26 (tgt := 52) rfl (by omega) (by omega) (by omega) ?_
      have e : (((fo (fo (fo X))) - qS) + qS) = X % qS := by
        refine res_mod (by omega) (by omega) ?_
        rw [← fm]
        rw [show (((fo (fo (fo X))) - qS) + qS) = fo (fo (fo X)) by omega]
      rw [e] at nl_10
      exact T_vret d_Sc_fold_52 rfl (by decide) (by decide) ⟨rfl, ⟨_, hH_10, nl_10⟩, lq_10, (Kp.tr (Kp.tr (Kp.tr (Kp.tr (Kp.tr (Kp.rf : Kp [184, 185] M M) (Kp.mono kp_1 (by decide))) (Kp.mono kp_2 (by decide))) (Kp.mono kp_4 (by decide))) (Kp.mono kp_6 (by decide))) (Kp.mono kp_10 (by decide)))⟩
    ·
      have vhs2 : (((fo (fo (fo X))) - qS) + qS) < 0 := (NL.neg nl_10).mp (by rcases Int.lt_or_le (H_10 19).toInt 0 with c | c; exact c; exact absurd (lc_ge.mpr c) hs2)
      refine T_aload_n (v := .ref 183) d_Sc_fold_41 rfl (Or.inr ⟨_, rfl⟩) ?_
      refine T_iconst (v := nI 1) d_Sc_fold_42 (by decide) ?_
      refine T_virtual (as := [.int (nI 1)]) (rest := []) (b := 183) d_Sc_fold_43 rfl (jw_Sc_addModulus.jo (by decide)) lm_Sc_54 ji_Sc_addModulus js_Sc_addModulus h_11 rfl rfl rfl (Nat.le_of_ble_eq_true rfl) (by decide) (by decide) (y_Sc_addM_p (V := (((fo (fo (fo X))) - qS) + qS)) h_11 hH_10 lq_10 nl_10 (by rw [T]; omega)) (fun r M_12 hq => ?_)
      obtain ⟨rfl, ⟨H_12, hH_12, nl_12⟩, lq_12, kp_12⟩ := hq
      refine T_eq (pc' := 46) (L' := [(1, .int (nI 1)), (0, .ref 183)]) (st' := []) (M' := M_12) rfl rfl rfl rfl ?_
      refine N_iinc (k := 1) (m := 1) (c := 2) (L' := [(1, .int (nI 2)), (0, .ref 183)]) d_Sc_fold_46 (by decide) rfl (by decide) rfl rfl ?_
      refine T_goto (tgt := 24) d_Sc_fold_49 rfl ?_
      refine T_iload_n d_Sc_fold_24 rfl ?_
      refine T_iconst (v := nI 2) d_Sc_fold_25 (by decide) ?_
      refine N_icmp_ge_t (a := 2) (b := 2) d_Sc_fold_26 (tgt := 52) rfl (by omega) (by omega) (by omega) ?_
      have e : ((((fo (fo (fo X))) - qS) + qS) + qS) = X % qS := by
        refine res_mod (by omega) (by omega) ?_
        rw [← fm]
        rw [show ((((fo (fo (fo X))) - qS) + qS) + qS) = fo (fo (fo X)) + qS by omega, Int.add_emod, Int.emod_self, Int.add_zero, Int.emod_emod]
      rw [e] at nl_12
      exact T_vret d_Sc_fold_52 rfl (by decide) (by decide) ⟨rfl, ⟨_, hH_12, nl_12⟩, lq_12, (Kp.tr (Kp.tr (Kp.tr (Kp.tr (Kp.tr (Kp.tr (Kp.rf : Kp [184, 185] M M) (Kp.mono kp_1 (by decide))) (Kp.mono kp_2 (by decide))) (Kp.mono kp_4 (by decide))) (Kp.mono kp_6 (by decide))) (Kp.mono kp_10 (by decide))) (Kp.mono kp_12 (by decide)))⟩
theorem nI_d8 {a : Nat} (h : 8 ≤ a) : nI a + Int32.ofInt (-8) = nI (a - 8) := by
  have e : nI a = nI (a - 8) + nI 8 := by rw [nI_add]; congr 1; omega
  rw [e, Int32.add_assoc, show nI 8 + Int32.ofInt (-8) = 0 by decide, Int32.add_zero]
set_option maxHeartbeats 8000000 in
theorem sv_lp (G : GX) {M0 : List va_E} {to m x : Nat} {H : Nat → Int64} (ho : M0[183]? = some scO) (hH : M0[184]? = some (lr 20 H)) (hV : NL H (x : Int)) (hm : 32 ≤ m) (hm2 : m < 2 ^ 30) (h_to_183 : to ≠ 183) (h_to_184 : to ≠ 184) (k_to : K0 ≤ to) {Q : Option Value → List va_E → Prop} (kk : ∀ M, (∃ f, M[to]? = some (br m f) ∧ ∀ j, j < 32 → f j = cB (UInt8.ofNat (x / 256 ^ j % 256))) ∧ Kp [to] M0 M → TT G mi_Sc_save 65 [(0, .ref 183), (1, .ref to)] [] M 0 0 Q) : ∀ j k M (b : Int64), k + j = 32 → b.toInt = (x : Int) / 2 ^ (8 * k) % 2 ^ (28 * ((8 * k + 27) / 28) - 8 * k) → (∃ f, M[to]? = some (br m f) ∧ ∀ j, j < k → f j = cB (UInt8.ofNat (x / 256 ^ j % 256))) ∧ Kp [to] M0 M → TT G mi_Sc_save 11 [(6, .int (nI k)), (2, .long b), (4, .int (nI ((28 * ((8 * k + 27) / 28) - 8 * k)))), (5, .int (nI (((8 * k + 27) / 28)))), (0, .ref 183), (1, .ref to)] [] M 0 0 Q := by
  intro j
  induction j with
  | zero =>
    intro k M b hk hb hI
    obtain rfl : 32 = k := by omega
    refine T_iload d_Sc_save_11 rfl ?_
    refine T_bipush (v := nI 32) d_Sc_save_13 (by decide) ?_
    refine N_icmp_ge_t (a := 32) (b := 32) d_Sc_save_15 (tgt := 65) rfl (by omega) (by omega) (by omega) ?_
    exact T_sub (fun q hq => by simp only [List.mem_cons, List.not_mem_nil, or_false] at hq ⊢; rcases hq with rfl | rfl <;> simp) (kk M hI)
  | succ j ih =>
    intro k M b hk hb hI
    obtain ⟨⟨f, hf, hp⟩, hK⟩ := hI
    refine T_iload d_Sc_save_11 rfl ?_
    refine T_bipush (v := nI 32) d_Sc_save_13 (by decide) ?_
    refine N_icmp_ge_f (a := 32) (b := k) d_Sc_save_15 (tgt := 65) rfl (by omega) (by omega) (by omega) ?_
    refine T_iload d_Sc_save_18 rfl ?_
    refine T_bipush (v := nI 8) d_Sc_save_20 (by decide) ?_
    refine N_icmp_ge (a := 8) (b := (28 * ((8 * k + 27) / 28) - 8 * k)) d_Sc_save_22 (tgt := 44) rfl (by omega) (by omega) (fun hc => ?_) (fun hc => ?_)
    ·
      refine T_aload_n (v := .ref to) d_Sc_save_44 rfl (Or.inr ⟨_, rfl⟩) ?_
      refine T_iload d_Sc_save_45 rfl ?_
      refine T_lload_n d_Sc_save_47 rfl ?_
      refine T_l2i d_Sc_save_48 ?_
      refine T_i2b d_Sc_save_49 ?_
      refine N_bastore (k := k) d_Sc_save_50 k_to hf (by omega) (by omega) rfl (fun M_1 h_2 s_3 => ?_)
      refine T_lload_n d_Sc_save_51 rfl ?_
      refine T_bipush (v := nI 8) d_Sc_save_52 (by decide) ?_
      refine T_lshr d_Sc_save_54 ?_
      refine T_lstore_n (L' := [(2, .long (b >>> ((nI 8).toInt64 &&& 63))), (6, .int (nI k)), (4, .int (nI ((28 * ((8 * k + 27) / 28) - 8 * k)))), (5, .int (nI (((8 * k + 27) / 28)))), (0, .ref 183), (1, .ref to)]) d_Sc_save_55 (by decide) rfl ?_
      refine T_iinc (x := nI (28 * ((8 * k + 27) / 28) - 8 * k)) (L' := [(4, .int (nI (((28 * ((8 * k + 27) / 28) - 8 * k) - 8)))), (2, .long (b >>> ((nI 8).toInt64 &&& 63))), (6, .int (nI k)), (5, .int (nI (((8 * k + 27) / 28)))), (0, .ref 183), (1, .ref to)]) d_Sc_save_56 (by decide) rfl (by rw [nI_d8 (by omega)]; rfl) ?_
      refine N_iinc (k := k) (m := 1) (c := (k + 1)) (L' := [(6, .int (nI ((k + 1)))), (4, .int (nI (((28 * ((8 * k + 27) / 28) - 8 * k) - 8)))), (2, .long (b >>> ((nI 8).toInt64 &&& 63))), (5, .int (nI (((8 * k + 27) / 28)))), (0, .ref 183), (1, .ref to)]) d_Sc_save_59 (by decide) rfl (by decide) rfl rfl ?_
      refine T_goto (tgt := 11) d_Sc_save_62 rfl ?_
      have ec : (28 * ((8 * k + 27) / 28) - 8 * k) - 8 = (28 * ((8 * (k + 1) + 27) / 28) - 8 * (k + 1)) := by omega
      have en : ((8 * k + 27) / 28) = ((8 * (k + 1) + 27) / 28) := by omega
      rw [ec, en]
      refine T_sub (L' := [(6, .int (nI ((k + 1)))), (2, .long (b >>> ((nI 8).toInt64 &&& 63))), (4, .int (nI ((28 * ((8 * (k + 1) + 27) / 28) - 8 * (k + 1))))), (5, .int (nI (((8 * (k + 1) + 27) / 28)))), (0, .ref 183), (1, .ref to)]) (fun q hq => by simp only [List.mem_cons, List.not_mem_nil, or_false] at hq ⊢; rcases hq with rfl | rfl | rfl | rfl | rfl | rfl <;> simp) (ih (k + 1) M_1 _ (by omega) ?_ ⟨⟨_, h_2, fun j hj => ?_⟩, (Kp.ex (Kp.tr (Kp.rf : Kp [to] M0 M0) (Kp.mono hK (by simp))) s_3 (by simp))⟩)
      · rw [sv_shr (by omega) hb, ec, show (256 : Int) = 2 ^ 8 from rfl, Int.ediv_ediv_of_nonneg (Int.le_of_lt (Int.pow_pos (by decide))), ← Int.pow_add]; rfl
      · unfold upd; by_cases e : j = k
        · subst e; rw [if_pos rfl, pk_vb, sv_byte (by omega) hb, ← sb_n (by omega)]; congr 1; rw [show (2 : Int) ^ (8 * j) = ((256 ^ j : Nat) : Int) by rw [Int.natCast_pow, Int.pow_mul]; rfl]; rw [Int.natCast_emod, Int.natCast_ediv]; rfl
        · rw [if_neg e]; exact hp j (by omega)
    ·
      refine T_lload_n d_Sc_save_25 rfl ?_
      refine T_aload_n (v := .ref 183) d_Sc_save_26 rfl (Or.inr ⟨_, rfl⟩) ?_
      have h_4 := (hK 183 (by simp only [List.mem_cons, List.not_mem_nil, or_false]; exact (Ne.symm h_to_183))).trans (ho)
      refine T_getfield (v := .ref 184) d_Sc_save_27 fg_Sc_9 h_4 rfl ?_
      refine T_iload d_Sc_save_30 rfl ?_
      have h_5 := (hK 184 (by simp only [List.mem_cons, List.not_mem_nil, or_false]; exact (Ne.symm h_to_184))).trans (hH)
      refine N_laload (k := ((8 * k + 27) / 28)) (x := (H ((8 * k + 27) / 28))) d_Sc_save_32 h_5 (by omega) (by decide) rfl ?_
      refine T_iload d_Sc_save_33 rfl ?_
      refine T_lshl d_Sc_save_35 ?_
      refine T_lor d_Sc_save_36 ?_
      refine T_lstore_n (L' := [(2, .long (b ||| ((H ((8 * k + 27) / 28)) <<< ((nI ((28 * ((8 * k + 27) / 28) - 8 * k))).toInt64 &&& 63)))), (6, .int (nI k)), (4, .int (nI ((28 * ((8 * k + 27) / 28) - 8 * k)))), (5, .int (nI (((8 * k + 27) / 28)))), (0, .ref 183), (1, .ref to)]) d_Sc_save_37 (by decide) rfl ?_
      refine N_iinc (k := ((8 * k + 27) / 28)) (m := 1) (c := (((8 * k + 27) / 28) + 1)) (L' := [(5, .int (nI ((((8 * k + 27) / 28) + 1)))), (2, .long (b ||| ((H ((8 * k + 27) / 28)) <<< ((nI ((28 * ((8 * k + 27) / 28) - 8 * k))).toInt64 &&& 63)))), (6, .int (nI k)), (4, .int (nI ((28 * ((8 * k + 27) / 28) - 8 * k)))), (0, .ref 183), (1, .ref to)]) d_Sc_save_38 (by decide) rfl (by decide) rfl rfl ?_
      refine N_iinc (k := (28 * ((8 * k + 27) / 28) - 8 * k)) (m := 28) (c := ((28 * ((8 * k + 27) / 28) - 8 * k) + 28)) (L' := [(4, .int (nI (((28 * ((8 * k + 27) / 28) - 8 * k) + 28)))), (5, .int (nI ((((8 * k + 27) / 28) + 1)))), (2, .long (b ||| ((H ((8 * k + 27) / 28)) <<< ((nI ((28 * ((8 * k + 27) / 28) - 8 * k))).toInt64 &&& 63)))), (6, .int (nI k)), (0, .ref 183), (1, .ref to)]) d_Sc_save_41 (by decide) rfl (by decide) rfl rfl ?_
      have hd := hV.dig (by omega) (k := ((8 * k + 27) / 28)) (by omega)
      have hd2 : (H ((8 * k + 27) / 28)).toInt = (x : Int) / 2 ^ (8 * k) / 2 ^ (28 * ((8 * k + 27) / 28) - 8 * k) % 268435456 := by
        rw [hd, Int.ediv_ediv_of_nonneg (Int.le_of_lt (Int.pow_pos (by decide))), ← Int.pow_add, show 8 * k + (28 * ((8 * k + 27) / 28) - 8 * k) = 28 * ((8 * k + 27) / 28) by omega, show (bS : Int) ^ ((8 * k + 27) / 28) = 2 ^ (28 * ((8 * k + 27) / 28)) by rw [Int.pow_mul]; rfl]
      have hb2 := sv_or (n := 0) (by omega) hb hd2
      obtain ⟨b2, eb2⟩ : ∃ z : Int64, z = (b ||| ((H ((8 * k + 27) / 28)) <<< ((nI ((28 * ((8 * k + 27) / 28) - 8 * k))).toInt64 &&& 63))) := ⟨_, rfl⟩
      rw [← eb2] at hb2
      refine T_eq (pc' := 44) (L' := [(4, .int (nI (((28 * ((8 * k + 27) / 28) - 8 * k) + 28)))), (5, .int (nI ((((8 * k + 27) / 28) + 1)))), (2, .long b2), (6, .int (nI k)), (0, .ref 183), (1, .ref to)]) (st' := []) (M' := M) rfl (by rw [eb2]) rfl rfl ?_
      refine T_aload_n (v := .ref to) d_Sc_save_44 rfl (Or.inr ⟨_, rfl⟩) ?_
      refine T_iload d_Sc_save_45 rfl ?_
      refine T_lload_n d_Sc_save_47 rfl ?_
      refine T_l2i d_Sc_save_48 ?_
      refine T_i2b d_Sc_save_49 ?_
      refine N_bastore (k := k) d_Sc_save_50 k_to hf (by omega) (by omega) rfl (fun M_6 h_7 s_8 => ?_)
      refine T_lload_n d_Sc_save_51 rfl ?_
      refine T_bipush (v := nI 8) d_Sc_save_52 (by decide) ?_
      refine T_lshr d_Sc_save_54 ?_
      refine T_lstore_n (L' := [(2, .long (b2 >>> ((nI 8).toInt64 &&& 63))), (4, .int (nI (((28 * ((8 * k + 27) / 28) - 8 * k) + 28)))), (5, .int (nI ((((8 * k + 27) / 28) + 1)))), (6, .int (nI k)), (0, .ref 183), (1, .ref to)]) d_Sc_save_55 (by decide) rfl ?_
      refine T_iinc (x := nI ((28 * ((8 * k + 27) / 28) - 8 * k) + 28)) (L' := [(4, .int (nI ((((28 * ((8 * k + 27) / 28) - 8 * k) + 28) - 8)))), (2, .long (b2 >>> ((nI 8).toInt64 &&& 63))), (5, .int (nI ((((8 * k + 27) / 28) + 1)))), (6, .int (nI k)), (0, .ref 183), (1, .ref to)]) d_Sc_save_56 (by decide) rfl (by rw [nI_d8 (by omega)]; rfl) ?_
      refine N_iinc (k := k) (m := 1) (c := (k + 1)) (L' := [(6, .int (nI ((k + 1)))), (4, .int (nI ((((28 * ((8 * k + 27) / 28) - 8 * k) + 28) - 8)))), (2, .long (b2 >>> ((nI 8).toInt64 &&& 63))), (5, .int (nI ((((8 * k + 27) / 28) + 1)))), (0, .ref 183), (1, .ref to)]) d_Sc_save_59 (by decide) rfl (by decide) rfl rfl ?_
      refine T_goto (tgt := 11) d_Sc_save_62 rfl ?_
      have ec : ((28 * ((8 * k + 27) / 28) - 8 * k) + 28) - 8 = (28 * ((8 * (k + 1) + 27) / 28) - 8 * (k + 1)) := by omega
      have en : (((8 * k + 27) / 28) + 1) = ((8 * (k + 1) + 27) / 28) := by omega
      rw [ec, en]
      refine T_sub (L' := [(6, .int (nI ((k + 1)))), (2, .long (b2 >>> ((nI 8).toInt64 &&& 63))), (4, .int (nI ((28 * ((8 * (k + 1) + 27) / 28) - 8 * (k + 1))))), (5, .int (nI (((8 * (k + 1) + 27) / 28)))), (0, .ref 183), (1, .ref to)]) (fun q hq => by simp only [List.mem_cons, List.not_mem_nil, or_false] at hq ⊢; rcases hq with rfl | rfl | rfl | rfl | rfl | rfl <;> simp) (ih (k + 1) M_6 _ (by omega) ?_ ⟨⟨_, h_7, fun j hj => ?_⟩, (Kp.ex (Kp.tr (Kp.rf : Kp [to] M0 M0) (Kp.mono hK (by simp))) s_8 (by simp))⟩)
      · rw [sv_shr (by omega) hb2, ec, show (256 : Int) = 2 ^ 8 from rfl, Int.ediv_ediv_of_nonneg (Int.le_of_lt (Int.pow_pos (by decide))), ← Int.pow_add]; rfl
      · unfold upd; by_cases e : j = k
        · subst e; rw [if_pos rfl, pk_vb, sv_byte (by omega) hb2, ← sb_n (by omega)]; congr 1; rw [show (2 : Int) ^ (8 * j) = ((256 ^ j : Nat) : Int) by rw [Int.natCast_pow, Int.pow_mul]; rfl]; rw [Int.natCast_emod, Int.natCast_ediv]; rfl
        · rw [if_neg e]; exact hp j (by omega)
set_option maxHeartbeats 8000000 in
theorem y_Sc_save {G : GX} {M : List va_E} {to m x : Nat} {H : Nat → Int64} (ho : M[183]? = some scO) (hH : M[184]? = some (lr 20 H)) (hV : NL H (x : Int)) (ht : BQ M to m) (hm : 32 ≤ m) (hm2 : m < 2 ^ 30) (h_to_183 : to ≠ 183) (h_to_184 : to ≠ 184) (k_to : K0 ≤ to) : CT G mi_Sc_save [.ref 183, .ref to] M (fun r M' => r = none ∧ BA M' to m (lbN x) ∧ Kp [to] M M') := by
  obtain ⟨f, ht⟩ := ht
  refine CT.of (by decide) (Nat.le_of_ble_eq_true rfl) ?_
  show TT G mi_Sc_save 0 [(0, .ref 183), (1, .ref to)] [] M 0 0 _
  refine T_lconst (v := 0) d_Sc_save_0 (by decide) ?_
  refine T_lstore_n (L' := [(2, .long 0), (0, .ref 183), (1, .ref to)]) d_Sc_save_1 (by decide) rfl ?_
  refine T_iconst (v := nI 0) d_Sc_save_2 (by decide) ?_
  refine T_istore (L' := [(4, .int (nI 0)), (2, .long 0), (0, .ref 183), (1, .ref to)]) d_Sc_save_3 (by decide) rfl ?_
  refine T_iconst (v := nI 0) d_Sc_save_5 (by decide) ?_
  refine T_istore (L' := [(5, .int (nI 0)), (4, .int (nI 0)), (2, .long 0), (0, .ref 183), (1, .ref to)]) d_Sc_save_6 (by decide) rfl ?_
  refine T_iconst (v := nI 0) d_Sc_save_8 (by decide) ?_
  refine T_istore (L' := [(6, .int (nI 0)), (5, .int (nI 0)), (4, .int (nI 0)), (2, .long 0), (0, .ref 183), (1, .ref to)]) d_Sc_save_9 (by decide) rfl ?_
  refine T_sub (L' := [(6, .int (nI 0)), (2, .long 0), (4, .int (nI 0)), (5, .int (nI 0)), (0, .ref 183), (1, .ref to)]) (fun q hq => by simp only [List.mem_cons, List.not_mem_nil, or_false] at hq ⊢; rcases hq with rfl | rfl | rfl | rfl | rfl | rfl <;> simp) ?_
  refine sv_lp G ho hH hV hm hm2 h_to_183 h_to_184 k_to (fun Ma hI => ?_) 32 0 M 0 rfl (by show (0 : Int64).toInt = _ % 1; rw [Int.emod_one]; rfl) ⟨⟨f, ht, fun j hj => absurd hj (by omega)⟩, Kp.rf⟩
  obtain ⟨⟨g, g1, g2⟩, hK⟩ := hI
  exact T_vret d_Sc_save_65 rfl (by decide) (by decide) ⟨rfl, ⟨g, g1, by rw [lbN_len]; exact hm, fun i hi => by rw [lbN_len] at hi; rw [g2 i hi, lbN_gd hi]⟩, hK⟩
def qN : Nat := 7237005577332262213973186563042994240857116359379907606001950938285454250989
theorem qN_S : (qN : Int) = qS := rfl
set_option maxHeartbeats 8000000 in
theorem y_Sc_reduce {G : GX} {M : List va_E} {fr n mf to m : Nat} {l : List UInt8} (hs : SCS M) (hf : BA M fr mf l) (ht : BQ M to m) (hl : n ≤ l.length) (hn : n ≤ 64) (hmf : mf < 2 ^ 30) (hm : 32 ≤ m) (hm2 : m < 2 ^ 30) (gr : ∀ w ∈ [fr, to], ∀ z ∈ scW, w ≠ z) (k_to : K0 ≤ to) : CT G mi_Sc_reduce [.ref 183, .ref fr, .int (nI n), .ref to] M (fun r M' => r = none ∧ SCS M' ∧ BA M' to m (lbN (leN l n % qN)) ∧ Kp (to :: scW) M M') := by
  have xb : (leN l n : Int) < 13407807929942597099574024998205846127479365820592393377723561443721764030073546976801874298166903427690031858186486050853753882811946569946433649006084096 := by
    have h := leN_lt l n
    have h2 : 256 ^ n ≤ 256 ^ 64 := Nat.pow_le_pow_right (by decide) hn
    have h3 : (256 : Nat) ^ 64 = 13407807929942597099574024998205846127479365820592393377723561443721764030073546976801874298166903427690031858186486050853753882811946569946433649006084096 := by decide +kernel
    omega
  refine CT.of (by decide) (Nat.le_of_ble_eq_true rfl) ?_
  show TT G mi_Sc_reduce 0 [(0, .ref 183), (1, .ref fr), (2, .int (nI n)), (3, .ref to)] [] M 0 0 _
  refine T_aload_n (v := .ref 183) d_Sc_reduce_0 rfl (Or.inr ⟨_, rfl⟩) ?_
  refine T_aload_n (v := .ref fr) d_Sc_reduce_1 rfl (Or.inr ⟨_, rfl⟩) ?_
  refine T_iload_n d_Sc_reduce_2 rfl ?_
  refine T_virtual (as := [.ref fr, .int (nI n)]) (rest := []) (b := 183) d_Sc_reduce_3 rfl (jw_Sc_load.jo (by decide)) lm_Sc_22 ji_Sc_load js_Sc_load hs.1 rfl rfl rfl (Nat.le_of_ble_eq_true rfl) (by decide) (by decide) (y_Sc_load hs.1 hs.2.1 hs.2.2.1 hf hl hn hmf (gr fr (by simp) 185 (by decide))) (fun r Ma hq => ?_)
  obtain ⟨rfl, ⟨H1, a1, a2⟩, a3, a4⟩ := hq
  refine T_eq (pc' := 6) (L' := [(0, .ref 183), (1, .ref fr), (2, .int (nI n)), (3, .ref to)]) (st' := []) (M' := Ma) rfl rfl rfl rfl ?_
  refine T_aload_n (v := .ref 183) d_Sc_reduce_6 rfl (Or.inr ⟨_, rfl⟩) ?_
  have h_1 := (a4 183 (by decide)).trans (hs.1)
  refine T_virtual (as := []) (rest := []) (b := 183) d_Sc_reduce_7 rfl (jw_Sc_fold.jo (by decide)) lm_Sc_26 ji_Sc_fold js_Sc_fold h_1 rfl rfl rfl (Nat.le_of_ble_eq_true rfl) (by decide) (by decide) (y_Sc_fold h_1 a1 a3 a2 (Int.natCast_nonneg _) xb) (fun r Mb hq => ?_)
  obtain ⟨rfl, ⟨H2, b1, b2⟩, b3, b4⟩ := hq
  rw [← qN_S, ← Int.natCast_emod] at b2
  refine T_eq (pc' := 10) (L' := [(0, .ref 183), (1, .ref fr), (2, .int (nI n)), (3, .ref to)]) (st' := []) (M' := Mb) rfl rfl rfl rfl ?_
  refine T_aload_n (v := .ref 183) d_Sc_reduce_10 rfl (Or.inr ⟨_, rfl⟩) ?_
  refine T_aload_n (v := .ref to) d_Sc_reduce_11 rfl (Or.inr ⟨_, rfl⟩) ?_
  have h_2 := (b4 183 (by decide)).trans (h_1)
  refine T_virtual (as := [.ref to]) (rest := []) (b := 183) d_Sc_reduce_12 rfl (jw_Sc_save.jo (by decide)) lm_Sc_29 ji_Sc_save js_Sc_save h_2 rfl rfl rfl (Nat.le_of_ble_eq_true rfl) (by decide) (by decide) (y_Sc_save h_2 b1 b2 ((ht.kp a4 (gr_ni (gr to (by simp)) (by decide))).kp b4 (gr_ni (gr to (by simp)) (by decide))) hm hm2 (gr to (by simp) 183 (by decide)) (gr to (by simp) 184 (by decide)) k_to) (fun r Mc hq => ?_)
  obtain ⟨rfl, d1, d2⟩ := hq
  refine T_eq (pc' := 15) (L' := [(0, .ref 183), (1, .ref fr), (2, .int (nI n)), (3, .ref to)]) (st' := []) (M' := Mc) rfl rfl rfl rfl ?_
  have n2 : ∀ q ∈ scW, q ∉ [to] := fun q hq c => gr to (by simp) q hq (List.mem_singleton.mp c).symm
  have g : ∀ q, q ∈ [186, 187] → q ∈ scW ∧ q ∉ [184, 185] := by decide
  have h_3 := (d2 183 (by simp only [List.mem_cons, List.not_mem_nil, or_false]; exact (Ne.symm (gr to (by simp) 183 (by decide))))).trans (h_2)
  exact T_vret d_Sc_reduce_15 rfl (by decide) (by decide) ⟨rfl, ⟨h_3, ⟨_, (d2 184 (n2 184 (by decide))).trans b1⟩, b3.kp d2 (n2 185 (by decide)), ((hs.2.2.2.1.kp a4 (by decide)).kp b4 (by decide)).kp d2 (n2 186 (by decide)), ((hs.2.2.2.2.kp a4 (by decide)).kp b4 (by decide)).kp d2 (n2 187 (by decide))⟩, d1, (Kp.tr (Kp.tr (Kp.tr (Kp.rf : Kp [to, 183, 184, 185, 186, 187] M M) (Kp.mono a4 (by simp))) (Kp.mono b4 (by simp))) (Kp.mono d2 (by simp)))⟩
theorem NL.hi {H : Nat → Int64} {V : Int} (h : NL H V) (h0 : 0 ≤ V) (h1 : V < qS) : (∀ i, i < 10 → 0 ≤ (H i).toInt ∧ (H i).toInt < bS) ∧ LV H 10 = V := by
  refine ⟨fun i hi => h.2 i (by omega), ?_⟩
  have e : V = sumS (fun i => (H i).toInt) 10 + bS ^ 10 * sumS (fun k => (H (10 + k)).toInt) 10 := by rw [← h.1]; exact sumS_split _ 10 10
  have b := sumS_bd (g := fun i => (H i).toInt) (n := 10) (fun k hk => h.2 k (by omega))
  have P : (bS : Int) ^ 10 = 1942668892225729070919461906823518906642406839052139521251812409738904285205208498176 := by decide
  rw [P] at e b
  unfold qS at h1
  show sumS _ 10 = V
  omega
def muI (f g F : Nat → Int64) (i : Nat) : Prop := LV F 20 = LV f i * LV g 10 ∧ ∀ m, m < 20 → 0 ≤ (F m).toInt ∧ (F m).toInt ≤ i * 72057594037927936
def muJ (f g F : Nat → Int64) (S : Int) (i j : Nat) : Prop := LV F 20 = S + (f i).toInt * bS ^ i * LV g j ∧ ∀ m, m < 20 → 0 ≤ (F m).toInt ∧ (F m).toInt ≤ i * 72057594037927936 + if m < i + j then 72057594037927936 else 0
set_option maxHeartbeats 8000000 in
theorem muJ_step {f g F : Nat → Int64} {S : Int} {i j : Nat} (hf : ∀ i, i < 10 → 0 ≤ (f i).toInt ∧ (f i).toInt < bS) (hg : ∀ i, i < 10 → 0 ≤ (g i).toInt ∧ (g i).toInt < bS) (hi : i < 10) (hj : j < 10) (h : muJ f g F S i j) : muJ f g (vp_updL F (i + j) (F (i + j) + f i * g j)) S i (j + 1) := by
  obtain ⟨h1, h2⟩ := h
  have a := hf i hi
  have b := hg j hj
  have a1 : (f i).toInt < 268435456 := a.2
  have b1 : (g j).toInt < 268435456 := b.2
  have p : 0 ≤ (f i).toInt * (g j).toInt ∧ (f i).toInt * (g j).toInt ≤ 72057594037927936 := by
    refine ⟨Int.mul_nonneg a.1 b.1, ?_⟩
    have u := Int.mul_le_mul_of_nonneg_right (show (f i).toInt ≤ 268435456 by omega) b.1
    omega
  have m : (f i * g j).toInt = (f i).toInt * (g j).toInt := i64_mul (by omega) (by omega)
  have q := h2 (i + j) (by omega)
  rw [if_neg (by omega)] at q
  have e : (F (i + j) + f i * g j).toInt = (F (i + j)).toInt + (f i).toInt * (g j).toInt := by rw [i64_add (by rw [m]; omega) (by rw [m]; omega), m]
  refine ⟨?_, fun k hk => ?_⟩
  · rw [sumS_updL (by omega) e, h1, Int.pow_add]
    show _ = S + (f i).toInt * bS ^ i * (LV g j + (g j).toInt * bS ^ j)
    generalize bS ^ i = A; generalize bS ^ j = B; generalize LV g j = T; generalize (f i).toInt = x; generalize (g j).toInt = y
    grind
  · unfold vp_updL
    by_cases c : k = i + j
    · rw [if_pos c, e, if_pos (by omega)]; omega
    · rw [if_neg c]
      have := h2 k hk
      by_cases d : k < i + j
      · rw [if_pos d] at this; rw [if_pos (by omega)]; exact this
      · rw [if_neg d] at this; rw [if_neg (by omega)]; exact this
theorem muI_step {f g F F' : Nat → Int64} {i : Nat} (hi : i < 10) (h : muI f g F i) (h' : muJ f g F' (LV F 20) i 10) : muI f g F' (i + 1) := by
  obtain ⟨h1, h2⟩ := h
  obtain ⟨k1, k2⟩ := h'
  refine ⟨?_, fun m hm => ?_⟩
  · rw [k1, h1]
    show _ = (LV f i + (f i).toInt * bS ^ i) * LV g 10
    generalize bS ^ i = A; generalize LV f i = T; generalize (f i).toInt = x; generalize LV g 10 = y
    grind
  · have := k2 m hm
    split at this <;> omega
theorem mul_lt {a b : Int} (h0 : 0 ≤ a) (h1 : a < qS) (h2 : 0 ≤ b) (h3 : b < qS) : 0 ≤ a * b ∧ a * b < 13407807929942597099574024998205846127479365820592393377723561443721764030073546976801874298166903427690031858186486050853753882811946569946433649006084096 := by
  refine ⟨Int.mul_nonneg h0 h2, ?_⟩
  have u : a * b ≤ qS * b := Int.mul_le_mul_of_nonneg_right (by omega) h2
  have v : qS * b ≤ qS * qS := Int.mul_le_mul_of_nonneg_left (by omega) (by decide)
  have w : qS * qS < 13407807929942597099574024998205846127479365820592393377723561443721764030073546976801874298166903427690031858186486050853753882811946569946433649006084096 := by decide
  omega
theorem NL.cpy {H f : Nat → Int64} {V : Int} (h : NL H V) : NL (va_cpy H f 0 0 20) V := by
  have e : ∀ i, i < 20 → va_cpy H f 0 0 20 i = H i := fun i hi => by rw [pk_cpy_in (by omega) (by omega), show 0 + (i - 0) = i by omega]
  exact ⟨by rw [← h.1]; exact sumS_congr fun i hi => by rw [e i hi], fun i hi => by rw [e i (by omega)]; exact h.2 i hi⟩
set_option maxHeartbeats 8000000 in
theorem mz_187_187 (G : GX) {M0 : List va_E} (ho : M0[183]? = some scO) {Q : Option Value → List va_E → Prop} (kk : ∀ M, (∃ F, M[185]? = some (lr 20 F) ∧ ∀ j, j < 20 → F j = 0) ∧ Kp [185] M0 M → TT G mi_Sc_multiply 21 [(0, .ref 183), (1, .ref 187), (2, .ref 187)] [] M 0 0 Q) : ∀ j k M, k + j = 20 → (∃ F, M[185]? = some (lr 20 F) ∧ ∀ j, j < k → F j = 0) ∧ Kp [185] M0 M → TT G mi_Sc_multiply 2 [(3, .int (nI k)), (0, .ref 183), (1, .ref 187), (2, .ref 187)] [] M 0 0 Q := by
  intro j
  induction j with
  | zero =>
    intro k M hk hI
    obtain rfl : 20 = k := by omega
    refine T_iload_n d_Sc_multiply_2 rfl ?_
    refine T_bipush (v := nI 20) d_Sc_multiply_3 (by decide) ?_
    refine N_icmp_ge_t (a := 20) (b := 20) d_Sc_multiply_5 (tgt := 21) rfl (by omega) (by omega) (by omega) ?_
    exact T_sub (fun q hq => List.mem_cons_of_mem _ hq) (kk M hI)
  | succ j ih =>
    intro k M hk hI
    obtain ⟨⟨F, h1, h2⟩, hK⟩ := hI
    refine T_iload_n d_Sc_multiply_2 rfl ?_
    refine T_bipush (v := nI 20) d_Sc_multiply_3 (by decide) ?_
    refine N_icmp_ge_f (a := 20) (b := k) d_Sc_multiply_5 (tgt := 21) rfl (by omega) (by omega) (by omega) ?_
    refine T_aload_n (v := .ref 183) d_Sc_multiply_8 rfl (Or.inr ⟨_, rfl⟩) ?_
    have h_1 := (hK 183 (by decide)).trans (ho)
    refine T_getfield (v := .ref 185) d_Sc_multiply_9 fg_Sc_13 h_1 rfl ?_
    refine T_iload_n d_Sc_multiply_12 rfl ?_
    refine T_lconst (v := 0) d_Sc_multiply_13 (by decide) ?_
    refine N_lastore (k := k) d_Sc_multiply_14 (by decide) h1 (by omega) (by decide) rfl (fun M_2 h_3 s_4 => ?_)
    refine N_iinc (k := k) (m := 1) (c := (k + 1)) (L' := [(3, .int (nI ((k + 1)))), (0, .ref 183), (1, .ref 187), (2, .ref 187)]) d_Sc_multiply_15 (by decide) rfl (by decide) rfl rfl ?_
    refine T_goto (tgt := 2) d_Sc_multiply_18 rfl ?_
    exact ih (k + 1) M_2 (by omega) ⟨⟨_, h_3, fun j hj => by unfold vp_updL; by_cases e : j = k; rw [if_pos e]; rw [if_neg e]; exact h2 j (by omega)⟩, (Kp.ex (Kp.tr (Kp.rf : Kp [185] M0 M0) (Kp.mono hK (by decide))) s_4 (by decide))⟩
set_option maxHeartbeats 8000000 in
theorem mj_187_187 (G : GX) {M0 : List va_E} {f : Nat → Int64} {S : Int} {i : Nat} (ho : M0[183]? = some scO) (hf : M0[187]? = some (lr 20 f)) (bf : ∀ i, i < 10 → 0 ≤ (f i).toInt ∧ (f i).toInt < bS) (hi : i < 10) {Q : Option Value → List va_E → Prop} (kk : ∀ M, (∃ F, M[185]? = some (lr 20 F) ∧ muJ f f F S i 10) ∧ Kp [185] M0 M → TT G mi_Sc_multiply 65 [(3, .int (nI i)), (0, .ref 183), (1, .ref 187), (2, .ref 187)] [] M 0 0 Q) : ∀ j k M, k + j = 10 → (∃ F, M[185]? = some (lr 20 F) ∧ muJ f f F S i k) ∧ Kp [185] M0 M → TT G mi_Sc_multiply 32 [(4, .int (nI k)), (3, .int (nI i)), (0, .ref 183), (1, .ref 187), (2, .ref 187)] [] M 0 0 Q := by
  intro j
  induction j with
  | zero =>
    intro k M hk hI
    obtain rfl : 10 = k := by omega
    refine T_iload d_Sc_multiply_32 rfl ?_
    refine T_bipush (v := nI 10) d_Sc_multiply_34 (by decide) ?_
    refine N_icmp_ge_t (a := 10) (b := 10) d_Sc_multiply_36 (tgt := 65) rfl (by omega) (by omega) (by omega) ?_
    exact T_sub (fun q hq => List.mem_cons_of_mem _ hq) (kk M hI)
  | succ j ih =>
    intro k M hk hI
    obtain ⟨⟨F, h1, h2⟩, hK⟩ := hI
    refine T_iload d_Sc_multiply_32 rfl ?_
    refine T_bipush (v := nI 10) d_Sc_multiply_34 (by decide) ?_
    refine N_icmp_ge_f (a := 10) (b := k) d_Sc_multiply_36 (tgt := 65) rfl (by omega) (by omega) (by omega) ?_
    refine T_aload_n (v := .ref 183) d_Sc_multiply_39 rfl (Or.inr ⟨_, rfl⟩) ?_
    have h_1 := (hK 183 (by decide)).trans (ho)
    refine T_getfield (v := .ref 185) d_Sc_multiply_40 fg_Sc_13 h_1 rfl ?_
    refine T_iload_n d_Sc_multiply_43 rfl ?_
    refine T_iload d_Sc_multiply_44 rfl ?_
    refine N_iadd (a := k) (b := i) (c := (i + k)) d_Sc_multiply_46 rfl ?_
    refine T_dup2 d_Sc_multiply_47 rfl rfl ?_
    refine N_laload (k := (i + k)) (x := (F (i + k))) d_Sc_multiply_48 h1 (by omega) (by decide) rfl ?_
    refine T_aload_n (v := .ref 187) d_Sc_multiply_49 rfl (Or.inr ⟨_, rfl⟩) ?_
    refine T_iload_n d_Sc_multiply_50 rfl ?_
    have h_2 := (hK 187 (by decide)).trans (hf)
    refine N_laload (k := i) (x := (f i)) d_Sc_multiply_51 h_2 (by omega) (by decide) rfl ?_
    refine T_aload_n (v := .ref 187) d_Sc_multiply_52 rfl (Or.inr ⟨_, rfl⟩) ?_
    refine T_iload d_Sc_multiply_53 rfl ?_
    refine N_laload (k := k) (x := (f k)) d_Sc_multiply_55 h_2 (by omega) (by decide) rfl ?_
    refine T_lmul d_Sc_multiply_56 ?_
    refine T_ladd d_Sc_multiply_57 ?_
    refine N_lastore (k := (i + k)) d_Sc_multiply_58 (by decide) h1 (by omega) (by decide) rfl (fun M_3 h_4 s_5 => ?_)
    refine N_iinc (k := k) (m := 1) (c := (k + 1)) (L' := [(4, .int (nI ((k + 1)))), (3, .int (nI i)), (0, .ref 183), (1, .ref 187), (2, .ref 187)]) d_Sc_multiply_59 (by decide) rfl (by decide) rfl rfl ?_
    refine T_goto (tgt := 32) d_Sc_multiply_62 rfl ?_
    exact ih (k + 1) M_3 (by omega) ⟨⟨_, h_4, muJ_step bf bf hi (by omega) h2⟩, (Kp.ex (Kp.tr (Kp.rf : Kp [185] M0 M0) (Kp.mono hK (by decide))) s_5 (by decide))⟩
set_option maxHeartbeats 8000000 in
theorem mi_187_187_ (G : GX) {M0 : List va_E} {f : Nat → Int64} (ho : M0[183]? = some scO) (hf : M0[187]? = some (lr 20 f)) (bf : ∀ i, i < 10 → 0 ≤ (f i).toInt ∧ (f i).toInt < bS) {Q : Option Value → List va_E → Prop} (kk : ∀ M, (∃ F, M[185]? = some (lr 20 F) ∧ muI f f F 10) ∧ Kp [185] M0 M → TT G mi_Sc_multiply 71 [(0, .ref 183), (1, .ref 187), (2, .ref 187)] [] M 0 0 Q) : ∀ j k M, k + j = 10 → (∃ F, M[185]? = some (lr 20 F) ∧ muI f f F k) ∧ Kp [185] M0 M → TT G mi_Sc_multiply 23 [(3, .int (nI k)), (0, .ref 183), (1, .ref 187), (2, .ref 187)] [] M 0 0 Q := by
  intro j
  induction j with
  | zero =>
    intro k M hk hI
    obtain rfl : 10 = k := by omega
    refine T_iload_n d_Sc_multiply_23 rfl ?_
    refine T_bipush (v := nI 10) d_Sc_multiply_24 (by decide) ?_
    refine N_icmp_ge_t (a := 10) (b := 10) d_Sc_multiply_26 (tgt := 71) rfl (by omega) (by omega) (by omega) ?_
    exact T_sub (fun q hq => List.mem_cons_of_mem _ hq) (kk M hI)
  | succ j ih =>
    intro k M hk hI
    obtain ⟨⟨F, h1, h2⟩, hK⟩ := hI
    refine T_iload_n d_Sc_multiply_23 rfl ?_
    refine T_bipush (v := nI 10) d_Sc_multiply_24 (by decide) ?_
    refine N_icmp_ge_f (a := 10) (b := k) d_Sc_multiply_26 (tgt := 71) rfl (by omega) (by omega) (by omega) ?_
    refine T_iconst (v := nI 0) d_Sc_multiply_29 (by decide) ?_
    refine T_istore (L' := [(4, .int (nI 0)), (3, .int (nI k)), (0, .ref 183), (1, .ref 187), (2, .ref 187)]) d_Sc_multiply_30 (by decide) rfl ?_
    have h_1 := (hK 183 (by decide)).trans (ho)
    have h_2 := (hK 187 (by decide)).trans (hf)
    refine mj_187_187 G h_1 h_2 bf (by omega) (fun Mb hI => ?_) 10 0 M rfl ⟨⟨F, h1, ⟨by show _ = _ + _ * 0; rw [Int.mul_zero, Int.add_zero], fun m hm => ?_⟩⟩, Kp.rf⟩
    rotate_left
    · have := h2.2 m hm; split <;> omega
    obtain ⟨⟨F5, h5, h6⟩, hK5⟩ := hI
    refine N_iinc (k := k) (m := 1) (c := (k + 1)) (L' := [(3, .int (nI ((k + 1)))), (0, .ref 183), (1, .ref 187), (2, .ref 187)]) d_Sc_multiply_65 (by decide) rfl (by decide) rfl rfl ?_
    refine T_goto (tgt := 23) d_Sc_multiply_68 rfl ?_
    exact ih (k + 1) Mb (by omega) ⟨⟨_, h5, muI_step (by omega) h2 h6⟩, (Kp.tr (Kp.tr (Kp.rf : Kp [185] M0 M0) (Kp.mono hK (by decide))) (Kp.mono hK5 (by decide)))⟩
set_option maxHeartbeats 8000000 in
theorem y_Sc_mul_187_187 {G : GX} {M : List va_E} {f : Nat → Int64} {V : Int} (ho : M[183]? = some scO) (hH : LQ M 184 20) (hF : LQ M 185 20) (hf : M[187]? = some (lr 20 f)) (nf : NL f V) (v0 : 0 ≤ V) (v1 : V < qS) : CT G mi_Sc_multiply [.ref 183, .ref 187, .ref 187] M (fun r M' => r = none ∧ LQ M' 184 20 ∧ LQ M' 185 20 ∧ (∃ h, M'[187]? = some (lr 20 h) ∧ NL h (V * V % qS)) ∧ Kp [184, 185, 187] M M') := by
  obtain ⟨F0, hF⟩ := hF
  obtain ⟨bf, ef⟩ := nf.hi v0 v1
  have pr := mul_lt v0 v1 v0 v1
  refine CT.of (by decide) (Nat.le_of_ble_eq_true rfl) ?_
  show TT G mi_Sc_multiply 0 [(0, .ref 183), (1, .ref 187), (2, .ref 187)] [] M 0 0 _
  refine T_iconst (v := nI 0) d_Sc_multiply_0 (by decide) ?_
  refine T_istore_n (L' := [(3, .int (nI 0)), (0, .ref 183), (1, .ref 187), (2, .ref 187)]) d_Sc_multiply_1 (by decide) rfl ?_
  refine mz_187_187 G ho (fun Ma hI => ?_) 20 0 M rfl ⟨⟨F0, hF, fun j hj => absurd hj (by omega)⟩, Kp.rf⟩
  obtain ⟨⟨F1, h1, h2⟩, hK1⟩ := hI
  refine T_iconst (v := nI 0) d_Sc_multiply_21 (by decide) ?_
  refine T_istore_n (L' := [(3, .int (nI 0)), (0, .ref 183), (1, .ref 187), (2, .ref 187)]) d_Sc_multiply_22 (by decide) rfl ?_
  have l0 : muI f f F1 0 := ⟨by show sumS _ 20 = 0 * _; rw [sumS_congr (h := fun _ => 0) (fun k hk => by rw [h2 k hk]; rfl), sumS_0, Int.zero_mul], fun m hm => by rw [h2 m hm]; decide⟩
  have h_1 := (hK1 183 (by decide)).trans (ho)
  have h_2 := (hK1 187 (by decide)).trans (hf)
  refine mi_187_187_ G h_1 h_2 bf (fun Mb hI => ?_) 10 0 Ma rfl ⟨⟨F1, h1, l0⟩, Kp.rf⟩
  obtain ⟨⟨F2, h3, h4⟩, hK2⟩ := hI
  have hv : LV F2 20 = V * V := by rw [h4.1, ef]
  refine T_aload_n (v := .ref 183) d_Sc_multiply_71 rfl (Or.inr ⟨_, rfl⟩) ?_
  have h_4 := (hK2 183 (by decide)).trans (h_1)
  refine T_virtual (as := []) (rest := []) (b := 183) d_Sc_multiply_72 rfl (jw_Sc_carry.jo (by decide)) lm_Sc_48 ji_Sc_carry js_Sc_carry h_4 rfl rfl rfl (Nat.le_of_ble_eq_true rfl) (by decide) (by decide) (y_Sc_carry h_4 ((hH.kp hK1 (by decide)).kp hK2 (by decide)) h3 (fun i hi => by have := h4.2 i hi; omega) hv) (fun r M_3 hq => ?_)
  obtain ⟨rfl, ⟨H_3, hH_3, nl_3⟩, kp_3⟩ := hq
  refine T_eq (pc' := 75) (L' := [(0, .ref 183), (1, .ref 187), (2, .ref 187)]) (st' := []) (M' := M_3) rfl rfl rfl rfl ?_
  refine T_aload_n (v := .ref 183) d_Sc_multiply_75 rfl (Or.inr ⟨_, rfl⟩) ?_
  have h_6 := (kp_3 183 (by decide)).trans (h_4)
  have h_7 := (kp_3 185 (by decide)).trans (h3)
  refine T_virtual (as := []) (rest := []) (b := 183) d_Sc_multiply_76 rfl (jw_Sc_fold.jo (by decide)) lm_Sc_26 ji_Sc_fold js_Sc_fold h_6 rfl rfl rfl (Nat.le_of_ble_eq_true rfl) (by decide) (by decide) (y_Sc_fold h_6 hH_3 ⟨_, h_7⟩ nl_3 pr.1 pr.2) (fun r M_5 hq => ?_)
  obtain ⟨rfl, ⟨H9, b1, b2⟩, b3, b4⟩ := hq
  refine T_eq (pc' := 79) (L' := [(0, .ref 183), (1, .ref 187), (2, .ref 187)]) (st' := []) (M' := M_5) rfl rfl rfl rfl ?_
  refine T_aload_n (v := .ref 183) d_Sc_multiply_79 rfl (Or.inr ⟨_, rfl⟩) ?_
  have h_8 := (b4 183 (by decide)).trans (h_6)
  refine T_getfield (v := .ref 184) d_Sc_multiply_80 fg_Sc_9 h_8 rfl ?_
  refine T_iconst (v := nI 0) d_Sc_multiply_83 (by decide) ?_
  refine T_aload_n (v := .ref 187) d_Sc_multiply_84 rfl (Or.inr ⟨_, rfl⟩) ?_
  refine T_iconst (v := nI 0) d_Sc_multiply_85 (by decide) ?_
  refine T_bipush (v := nI 20) d_Sc_multiply_86 (by decide) ?_
  have h_9 := (b4 187 (by decide)).trans ((kp_3 187 (by decide)).trans ((hK2 187 (by decide)).trans (h_2)))
  refine N_copyL (n0 := 20) (sp := 0) (dp := 0) (n := 20) d_Sc_multiply_88 lm_Sc_33 (by decide) (by decide) b1 h_9 (by decide) (by decide) (by decide) (by decide) (by decide) (Nat.le_of_ble_eq_true rfl) (fun Mz hz ez => ?_)
  have h_10 := (ez 184 (by decide)).trans (b1)
  have p_11 := (LQ.kp (b3) (Ex.kp ez) (by decide))
  exact T_vret d_Sc_multiply_91 rfl (by decide) (by decide) ⟨rfl, ⟨_, h_10⟩, p_11, ⟨_, hz, b2.cpy⟩, (Kp.ex (Kp.tr (Kp.tr (Kp.tr (Kp.tr (Kp.rf : Kp [184, 185, 187] M M) (Kp.mono hK1 (by decide))) (Kp.mono hK2 (by decide))) (Kp.mono kp_3 (by decide))) (Kp.mono b4 (by decide))) ez (by decide))⟩
set_option maxHeartbeats 8000000 in
theorem mz_187_186 (G : GX) {M0 : List va_E} (ho : M0[183]? = some scO) {Q : Option Value → List va_E → Prop} (kk : ∀ M, (∃ F, M[185]? = some (lr 20 F) ∧ ∀ j, j < 20 → F j = 0) ∧ Kp [185] M0 M → TT G mi_Sc_multiply 21 [(0, .ref 183), (1, .ref 187), (2, .ref 186)] [] M 0 0 Q) : ∀ j k M, k + j = 20 → (∃ F, M[185]? = some (lr 20 F) ∧ ∀ j, j < k → F j = 0) ∧ Kp [185] M0 M → TT G mi_Sc_multiply 2 [(3, .int (nI k)), (0, .ref 183), (1, .ref 187), (2, .ref 186)] [] M 0 0 Q := by
  intro j
  induction j with
  | zero =>
    intro k M hk hI
    obtain rfl : 20 = k := by omega
    refine T_iload_n d_Sc_multiply_2 rfl ?_
    refine T_bipush (v := nI 20) d_Sc_multiply_3 (by decide) ?_
    refine N_icmp_ge_t (a := 20) (b := 20) d_Sc_multiply_5 (tgt := 21) rfl (by omega) (by omega) (by omega) ?_
    exact T_sub (fun q hq => List.mem_cons_of_mem _ hq) (kk M hI)
  | succ j ih =>
    intro k M hk hI
    obtain ⟨⟨F, h1, h2⟩, hK⟩ := hI
    refine T_iload_n d_Sc_multiply_2 rfl ?_
    refine T_bipush (v := nI 20) d_Sc_multiply_3 (by decide) ?_
    refine N_icmp_ge_f (a := 20) (b := k) d_Sc_multiply_5 (tgt := 21) rfl (by omega) (by omega) (by omega) ?_
    refine T_aload_n (v := .ref 183) d_Sc_multiply_8 rfl (Or.inr ⟨_, rfl⟩) ?_
    have h_1 := (hK 183 (by decide)).trans (ho)
    refine T_getfield (v := .ref 185) d_Sc_multiply_9 fg_Sc_13 h_1 rfl ?_
    refine T_iload_n d_Sc_multiply_12 rfl ?_
    refine T_lconst (v := 0) d_Sc_multiply_13 (by decide) ?_
    refine N_lastore (k := k) d_Sc_multiply_14 (by decide) h1 (by omega) (by decide) rfl (fun M_2 h_3 s_4 => ?_)
    refine N_iinc (k := k) (m := 1) (c := (k + 1)) (L' := [(3, .int (nI ((k + 1)))), (0, .ref 183), (1, .ref 187), (2, .ref 186)]) d_Sc_multiply_15 (by decide) rfl (by decide) rfl rfl ?_
    refine T_goto (tgt := 2) d_Sc_multiply_18 rfl ?_
    exact ih (k + 1) M_2 (by omega) ⟨⟨_, h_3, fun j hj => by unfold vp_updL; by_cases e : j = k; rw [if_pos e]; rw [if_neg e]; exact h2 j (by omega)⟩, (Kp.ex (Kp.tr (Kp.rf : Kp [185] M0 M0) (Kp.mono hK (by decide))) s_4 (by decide))⟩
set_option maxHeartbeats 8000000 in
theorem mj_187_186 (G : GX) {M0 : List va_E} {f g : Nat → Int64} {S : Int} {i : Nat} (ho : M0[183]? = some scO) (hf : M0[187]? = some (lr 20 f)) (hg : M0[186]? = some (lr 20 g)) (bf : ∀ i, i < 10 → 0 ≤ (f i).toInt ∧ (f i).toInt < bS) (bg : ∀ i, i < 10 → 0 ≤ (g i).toInt ∧ (g i).toInt < bS) (hi : i < 10) {Q : Option Value → List va_E → Prop} (kk : ∀ M, (∃ F, M[185]? = some (lr 20 F) ∧ muJ f g F S i 10) ∧ Kp [185] M0 M → TT G mi_Sc_multiply 65 [(3, .int (nI i)), (0, .ref 183), (1, .ref 187), (2, .ref 186)] [] M 0 0 Q) : ∀ j k M, k + j = 10 → (∃ F, M[185]? = some (lr 20 F) ∧ muJ f g F S i k) ∧ Kp [185] M0 M → TT G mi_Sc_multiply 32 [(4, .int (nI k)), (3, .int (nI i)), (0, .ref 183), (1, .ref 187), (2, .ref 186)] [] M 0 0 Q := by
  intro j
  induction j with
  | zero =>
    intro k M hk hI
    obtain rfl : 10 = k := by omega
    refine T_iload d_Sc_multiply_32 rfl ?_
    refine T_bipush (v := nI 10) d_Sc_multiply_34 (by decide) ?_
    refine N_icmp_ge_t (a := 10) (b := 10) d_Sc_multiply_36 (tgt := 65) rfl (by omega) (by omega) (by omega) ?_
    exact T_sub (fun q hq => List.mem_cons_of_mem _ hq) (kk M hI)
  | succ j ih =>
    intro k M hk hI
    obtain ⟨⟨F, h1, h2⟩, hK⟩ := hI
    refine T_iload d_Sc_multiply_32 rfl ?_
    refine T_bipush (v := nI 10) d_Sc_multiply_34 (by decide) ?_
    refine N_icmp_ge_f (a := 10) (b := k) d_Sc_multiply_36 (tgt := 65) rfl (by omega) (by omega) (by omega) ?_
    refine T_aload_n (v := .ref 183) d_Sc_multiply_39 rfl (Or.inr ⟨_, rfl⟩) ?_
    have h_1 := (hK 183 (by decide)).trans (ho)
    refine T_getfield (v := .ref 185) d_Sc_multiply_40 fg_Sc_13 h_1 rfl ?_
    refine T_iload_n d_Sc_multiply_43 rfl ?_
    refine T_iload d_Sc_multiply_44 rfl ?_
    refine N_iadd (a := k) (b := i) (c := (i + k)) d_Sc_multiply_46 rfl ?_
    refine T_dup2 d_Sc_multiply_47 rfl rfl ?_
    refine N_laload (k := (i + k)) (x := (F (i + k))) d_Sc_multiply_48 h1 (by omega) (by decide) rfl ?_
    refine T_aload_n (v := .ref 187) d_Sc_multiply_49 rfl (Or.inr ⟨_, rfl⟩) ?_
    refine T_iload_n d_Sc_multiply_50 rfl ?_
    have h_2 := (hK 187 (by decide)).trans (hf)
    refine N_laload (k := i) (x := (f i)) d_Sc_multiply_51 h_2 (by omega) (by decide) rfl ?_
    refine T_aload_n (v := .ref 186) d_Sc_multiply_52 rfl (Or.inr ⟨_, rfl⟩) ?_
    refine T_iload d_Sc_multiply_53 rfl ?_
    have h_3 := (hK 186 (by decide)).trans (hg)
    refine N_laload (k := k) (x := (g k)) d_Sc_multiply_55 h_3 (by omega) (by decide) rfl ?_
    refine T_lmul d_Sc_multiply_56 ?_
    refine T_ladd d_Sc_multiply_57 ?_
    refine N_lastore (k := (i + k)) d_Sc_multiply_58 (by decide) h1 (by omega) (by decide) rfl (fun M_4 h_5 s_6 => ?_)
    refine N_iinc (k := k) (m := 1) (c := (k + 1)) (L' := [(4, .int (nI ((k + 1)))), (3, .int (nI i)), (0, .ref 183), (1, .ref 187), (2, .ref 186)]) d_Sc_multiply_59 (by decide) rfl (by decide) rfl rfl ?_
    refine T_goto (tgt := 32) d_Sc_multiply_62 rfl ?_
    exact ih (k + 1) M_4 (by omega) ⟨⟨_, h_5, muJ_step bf bg hi (by omega) h2⟩, (Kp.ex (Kp.tr (Kp.rf : Kp [185] M0 M0) (Kp.mono hK (by decide))) s_6 (by decide))⟩
set_option maxHeartbeats 8000000 in
theorem mi_187_186_ (G : GX) {M0 : List va_E} {f g : Nat → Int64} (ho : M0[183]? = some scO) (hf : M0[187]? = some (lr 20 f)) (hg : M0[186]? = some (lr 20 g)) (bf : ∀ i, i < 10 → 0 ≤ (f i).toInt ∧ (f i).toInt < bS) (bg : ∀ i, i < 10 → 0 ≤ (g i).toInt ∧ (g i).toInt < bS) {Q : Option Value → List va_E → Prop} (kk : ∀ M, (∃ F, M[185]? = some (lr 20 F) ∧ muI f g F 10) ∧ Kp [185] M0 M → TT G mi_Sc_multiply 71 [(0, .ref 183), (1, .ref 187), (2, .ref 186)] [] M 0 0 Q) : ∀ j k M, k + j = 10 → (∃ F, M[185]? = some (lr 20 F) ∧ muI f g F k) ∧ Kp [185] M0 M → TT G mi_Sc_multiply 23 [(3, .int (nI k)), (0, .ref 183), (1, .ref 187), (2, .ref 186)] [] M 0 0 Q := by
  intro j
  induction j with
  | zero =>
    intro k M hk hI
    obtain rfl : 10 = k := by omega
    refine T_iload_n d_Sc_multiply_23 rfl ?_
    refine T_bipush (v := nI 10) d_Sc_multiply_24 (by decide) ?_
    refine N_icmp_ge_t (a := 10) (b := 10) d_Sc_multiply_26 (tgt := 71) rfl (by omega) (by omega) (by omega) ?_
    exact T_sub (fun q hq => List.mem_cons_of_mem _ hq) (kk M hI)
  | succ j ih =>
    intro k M hk hI
    obtain ⟨⟨F, h1, h2⟩, hK⟩ := hI
    refine T_iload_n d_Sc_multiply_23 rfl ?_
    refine T_bipush (v := nI 10) d_Sc_multiply_24 (by decide) ?_
    refine N_icmp_ge_f (a := 10) (b := k) d_Sc_multiply_26 (tgt := 71) rfl (by omega) (by omega) (by omega) ?_
    refine T_iconst (v := nI 0) d_Sc_multiply_29 (by decide) ?_
    refine T_istore (L' := [(4, .int (nI 0)), (3, .int (nI k)), (0, .ref 183), (1, .ref 187), (2, .ref 186)]) d_Sc_multiply_30 (by decide) rfl ?_
    have h_1 := (hK 183 (by decide)).trans (ho)
    have h_2 := (hK 187 (by decide)).trans (hf)
    have h_3 := (hK 186 (by decide)).trans (hg)
    refine mj_187_186 G h_1 h_2 h_3 bf bg (by omega) (fun Mb hI => ?_) 10 0 M rfl ⟨⟨F, h1, ⟨by show _ = _ + _ * 0; rw [Int.mul_zero, Int.add_zero], fun m hm => ?_⟩⟩, Kp.rf⟩
    rotate_left
    · have := h2.2 m hm; split <;> omega
    obtain ⟨⟨F5, h5, h6⟩, hK5⟩ := hI
    refine N_iinc (k := k) (m := 1) (c := (k + 1)) (L' := [(3, .int (nI ((k + 1)))), (0, .ref 183), (1, .ref 187), (2, .ref 186)]) d_Sc_multiply_65 (by decide) rfl (by decide) rfl rfl ?_
    refine T_goto (tgt := 23) d_Sc_multiply_68 rfl ?_
    exact ih (k + 1) Mb (by omega) ⟨⟨_, h5, muI_step (by omega) h2 h6⟩, (Kp.tr (Kp.tr (Kp.rf : Kp [185] M0 M0) (Kp.mono hK (by decide))) (Kp.mono hK5 (by decide)))⟩
set_option maxHeartbeats 8000000 in
theorem y_Sc_mul_187_186 {G : GX} {M : List va_E} {f g : Nat → Int64} {V U : Int} (ho : M[183]? = some scO) (hH : LQ M 184 20) (hF : LQ M 185 20) (hf : M[187]? = some (lr 20 f)) (hg : M[186]? = some (lr 20 g)) (nf : NL f V) (ng : NL g U) (v0 : 0 ≤ V) (v1 : V < qS) (u0 : 0 ≤ U) (u1 : U < qS) : CT G mi_Sc_multiply [.ref 183, .ref 187, .ref 186] M (fun r M' => r = none ∧ LQ M' 184 20 ∧ LQ M' 185 20 ∧ (∃ h, M'[187]? = some (lr 20 h) ∧ NL h (V * U % qS)) ∧ Kp [184, 185, 187] M M') := by
  obtain ⟨F0, hF⟩ := hF
  obtain ⟨bf, ef⟩ := nf.hi v0 v1
  obtain ⟨bg, eg⟩ := ng.hi u0 u1
  have pr := mul_lt v0 v1 u0 u1
  refine CT.of (by decide) (Nat.le_of_ble_eq_true rfl) ?_
  show TT G mi_Sc_multiply 0 [(0, .ref 183), (1, .ref 187), (2, .ref 186)] [] M 0 0 _
  refine T_iconst (v := nI 0) d_Sc_multiply_0 (by decide) ?_
  refine T_istore_n (L' := [(3, .int (nI 0)), (0, .ref 183), (1, .ref 187), (2, .ref 186)]) d_Sc_multiply_1 (by decide) rfl ?_
  refine mz_187_186 G ho (fun Ma hI => ?_) 20 0 M rfl ⟨⟨F0, hF, fun j hj => absurd hj (by omega)⟩, Kp.rf⟩
  obtain ⟨⟨F1, h1, h2⟩, hK1⟩ := hI
  refine T_iconst (v := nI 0) d_Sc_multiply_21 (by decide) ?_
  refine T_istore_n (L' := [(3, .int (nI 0)), (0, .ref 183), (1, .ref 187), (2, .ref 186)]) d_Sc_multiply_22 (by decide) rfl ?_
  have l0 : muI f g F1 0 := ⟨by show sumS _ 20 = 0 * _; rw [sumS_congr (h := fun _ => 0) (fun k hk => by rw [h2 k hk]; rfl), sumS_0, Int.zero_mul], fun m hm => by rw [h2 m hm]; decide⟩
  have h_1 := (hK1 183 (by decide)).trans (ho)
  have h_2 := (hK1 187 (by decide)).trans (hf)
  have h_3 := (hK1 186 (by decide)).trans (hg)
  refine mi_187_186_ G h_1 h_2 h_3 bf bg (fun Mb hI => ?_) 10 0 Ma rfl ⟨⟨F1, h1, l0⟩, Kp.rf⟩
  obtain ⟨⟨F2, h3, h4⟩, hK2⟩ := hI
  have hv : LV F2 20 = V * U := by rw [h4.1, ef, eg]
  refine T_aload_n (v := .ref 183) d_Sc_multiply_71 rfl (Or.inr ⟨_, rfl⟩) ?_
  have h_5 := (hK2 183 (by decide)).trans (h_1)
  refine T_virtual (as := []) (rest := []) (b := 183) d_Sc_multiply_72 rfl (jw_Sc_carry.jo (by decide)) lm_Sc_48 ji_Sc_carry js_Sc_carry h_5 rfl rfl rfl (Nat.le_of_ble_eq_true rfl) (by decide) (by decide) (y_Sc_carry h_5 ((hH.kp hK1 (by decide)).kp hK2 (by decide)) h3 (fun i hi => by have := h4.2 i hi; omega) hv) (fun r M_4 hq => ?_)
  obtain ⟨rfl, ⟨H_4, hH_4, nl_4⟩, kp_4⟩ := hq
  refine T_eq (pc' := 75) (L' := [(0, .ref 183), (1, .ref 187), (2, .ref 186)]) (st' := []) (M' := M_4) rfl rfl rfl rfl ?_
  refine T_aload_n (v := .ref 183) d_Sc_multiply_75 rfl (Or.inr ⟨_, rfl⟩) ?_
  have h_7 := (kp_4 183 (by decide)).trans (h_5)
  have h_8 := (kp_4 185 (by decide)).trans (h3)
  refine T_virtual (as := []) (rest := []) (b := 183) d_Sc_multiply_76 rfl (jw_Sc_fold.jo (by decide)) lm_Sc_26 ji_Sc_fold js_Sc_fold h_7 rfl rfl rfl (Nat.le_of_ble_eq_true rfl) (by decide) (by decide) (y_Sc_fold h_7 hH_4 ⟨_, h_8⟩ nl_4 pr.1 pr.2) (fun r M_6 hq => ?_)
  obtain ⟨rfl, ⟨H9, b1, b2⟩, b3, b4⟩ := hq
  refine T_eq (pc' := 79) (L' := [(0, .ref 183), (1, .ref 187), (2, .ref 186)]) (st' := []) (M' := M_6) rfl rfl rfl rfl ?_
  refine T_aload_n (v := .ref 183) d_Sc_multiply_79 rfl (Or.inr ⟨_, rfl⟩) ?_
  have h_9 := (b4 183 (by decide)).trans (h_7)
  refine T_getfield (v := .ref 184) d_Sc_multiply_80 fg_Sc_9 h_9 rfl ?_
  refine T_iconst (v := nI 0) d_Sc_multiply_83 (by decide) ?_
  refine T_aload_n (v := .ref 187) d_Sc_multiply_84 rfl (Or.inr ⟨_, rfl⟩) ?_
  refine T_iconst (v := nI 0) d_Sc_multiply_85 (by decide) ?_
  refine T_bipush (v := nI 20) d_Sc_multiply_86 (by decide) ?_
  have h_10 := (b4 187 (by decide)).trans ((kp_4 187 (by decide)).trans ((hK2 187 (by decide)).trans (h_2)))
  refine N_copyL (n0 := 20) (sp := 0) (dp := 0) (n := 20) d_Sc_multiply_88 lm_Sc_33 (by decide) (by decide) b1 h_10 (by decide) (by decide) (by decide) (by decide) (by decide) (Nat.le_of_ble_eq_true rfl) (fun Mz hz ez => ?_)
  have h_11 := (ez 184 (by decide)).trans (b1)
  have p_12 := (LQ.kp (b3) (Ex.kp ez) (by decide))
  exact T_vret d_Sc_multiply_91 rfl (by decide) (by decide) ⟨rfl, ⟨_, h_11⟩, p_12, ⟨_, hz, b2.cpy⟩, (Kp.ex (Kp.tr (Kp.tr (Kp.tr (Kp.tr (Kp.rf : Kp [184, 185, 187] M M) (Kp.mono hK1 (by decide))) (Kp.mono hK2 (by decide))) (Kp.mono kp_4 (by decide))) (Kp.mono b4 (by decide))) ez (by decide))⟩
def ivB (j : Nat) : Int64 := if j < 28 then tb_10.getD 0 0 - 2 else tb_10.getD (j / 28) 0
theorem iv_bit : ∀ j, j < 253 → lg_cmp ((ivB j >>> ((nI (j % 28)).toInt64 &&& 63)) &&& 1) 1 = if (qN - 2) / 2 ^ j % 2 = 1 then 0 else -1 := by decide +kernel
theorem iv_e (e j : Nat) : e / 2 ^ j = e / 2 ^ (j + 1) + e / 2 ^ (j + 1) + e / 2 ^ j % 2 := by
  have : e / 2 ^ (j + 1) = e / 2 ^ j / 2 := by rw [Nat.pow_succ, Nat.div_div_eq_div_mul]
  omega
theorem iv_sq (a e : Nat) : (a ^ e % qN) * (a ^ e % qN) % qN = a ^ (e + e) % qN := by rw [Nat.pow_add, Nat.mul_mod (a ^ e) (a ^ e)]
theorem iv_mu (a e : Nat) (ha : a < qN) : (a ^ e % qN) * a % qN = a ^ (e + 1) % qN := by rw [Nat.pow_succ, Nat.mod_mul_mod]
theorem nl_mul {H : Nat → Int64} {a b : Nat} (h : NL H ((a : Int) * (b : Int) % qS)) : NL H ((a * b % qN : Nat) : Int) := by rw [Int.natCast_emod, Int.natCast_mul]; exact h
theorem qlt (a : Nat) : 0 ≤ ((a % qN : Nat) : Int) ∧ ((a % qN : Nat) : Int) < qS := ⟨Int.natCast_nonneg _, by rw [← qN_S]; exact Int.ofNat_lt.mpr (Nat.mod_lt _ (by decide))⟩
set_option maxHeartbeats 8000000 in
theorem iv_lp (G : GX) {M0 : List va_E} {fr to a : Nat} {g : Nat → Int64} (ho : M0[183]? = some scO) (hg : M0[186]? = some (lr 20 g)) (ng : NL g (a : Int)) (ha : a < qN) (hQ : M0[10]? = some (lr 10 (fun j => tb_10.getD j 0))) {Q : Option Value → List va_E → Prop} (kk : ∀ M, (LQ M 184 20 ∧ LQ M 185 20 ∧ (∃ f, M[187]? = some (lr 20 f) ∧ NL f ((a ^ ((qN - 2) / 2 ^ 0) % qN : Nat) : Int)) ∧ Kp [184, 185, 187] M0 M) → TT G mi_Sc_invert 135 [(0, .ref 183), (1, .ref fr), (2, .ref to)] [] M 0 0 Q) : ∀ j M, j ≤ 253 → (LQ M 184 20 ∧ LQ M 185 20 ∧ (∃ f, M[187]? = some (lr 20 f) ∧ NL f ((a ^ ((qN - 2) / 2 ^ j) % qN : Nat) : Int)) ∧ Kp [184, 185, 187] M0 M) → TT G mi_Sc_invert 59 [(3, .int (nI j - 1)), (0, .ref 183), (1, .ref fr), (2, .ref to)] [] M 0 0 Q := by
  intro j
  induction j with
  | zero =>
    intro M hj hI
    refine T_iload_n d_Sc_invert_59 rfl ?_
    refine T_if_lt d_Sc_invert_60 (tgt := 135) rfl (fun _ => ?_) (fun c => absurd (by decide) c)
    exact T_sub (fun q hq => List.mem_cons_of_mem _ hq) (kk M hI)
  | succ j ih =>
    intro M hj hI
    obtain ⟨q4, q5, ⟨f, hf, nf⟩, hK⟩ := hI
    rw [nI_pp]
    have ql := qlt (a ^ ((qN - 2) / 2 ^ (j + 1)))
    have ie := iv_e (qN - 2) j
    refine T_iload_n d_Sc_invert_59 rfl ?_
    refine N_if_lt_f (b := j) d_Sc_invert_60 (tgt := 135) rfl (by omega) (by omega) ?_
    refine T_aload_n (v := .ref 183) d_Sc_invert_63 rfl (Or.inr ⟨_, rfl⟩) ?_
    refine T_aload_n (v := .ref 183) d_Sc_invert_64 rfl (Or.inr ⟨_, rfl⟩) ?_
    have h_1 := (hK 183 (by decide)).trans (ho)
    refine T_getfield (v := .ref 187) d_Sc_invert_65 fg_Sc_19 h_1 rfl ?_
    refine T_aload_n (v := .ref 183) d_Sc_invert_68 rfl (Or.inr ⟨_, rfl⟩) ?_
    refine T_getfield (v := .ref 187) d_Sc_invert_69 fg_Sc_19 h_1 rfl ?_
    refine T_virtual (as := [.ref 187, .ref 187]) (rest := []) (b := 183) d_Sc_invert_72 rfl (jw_Sc_multiply.jo (by decide)) lm_Sc_39 ji_Sc_multiply js_Sc_multiply h_1 rfl rfl rfl (Nat.le_of_ble_eq_true rfl) (by decide) (by decide) (y_Sc_mul_187_187 h_1 q4 q5 hf nf ql.1 ql.2) (fun r M_2 hq => ?_)
    obtain ⟨rfl, a_2, b_2, ⟨h_2_, c_2, n_2⟩, kp_2⟩ := hq
    replace n_2 := nl_mul n_2
    rw [iv_sq] at n_2
    have ql2 := qlt (a ^ ((qN - 2) / 2 ^ (j + 1) + (qN - 2) / 2 ^ (j + 1)))
    refine T_eq (pc' := 75) (L' := [(3, .int (nI j)), (0, .ref 183), (1, .ref fr), (2, .ref to)]) (st' := []) (M' := M_2) rfl rfl rfl rfl ?_
    refine T_iload_n d_Sc_invert_75 rfl ?_
    refine T_bipush (v := nI 28) d_Sc_invert_76 (by decide) ?_
    refine N_icmp_ge (a := 28) (b := j) d_Sc_invert_78 (tgt := 93) rfl (by omega) (by omega) (fun h28 => ?_) (fun h28 => ?_)
    ·
      refine T_getstatic (q := ("PasswordGate$Scalars", "Q", "[J", .ref 10)) d_Sc_invert_93 (List.mem_of_getElem? (i := 10) rfl) gs_Sc_43 (show 10 < K0 by decide) ?_
      refine T_iload_n d_Sc_invert_96 rfl ?_
      refine T_bipush (v := nI 28) d_Sc_invert_97 (by decide) ?_
      refine N_idiv (a := 28) (b := j) (c := (j / 28)) d_Sc_invert_99 (by omega) (by omega) (by omega) rfl ?_
      have h_3 := (kp_2 10 (by decide)).trans ((hK 10 (by decide)).trans (hQ))
      refine N_laload (k := (j / 28)) (x := ((fun j => tb_10.getD j 0) (j / 28))) d_Sc_invert_100 h_3 (by omega) (by decide) rfl ?_
      refine T_lstore (L' := [(4, .long ((fun j => tb_10.getD j 0) (j / 28))), (3, .int (nI j)), (0, .ref 183), (1, .ref fr), (2, .ref to)]) d_Sc_invert_101 (by decide) rfl ?_
      refine T_lload d_Sc_invert_103 rfl ?_
      refine T_iload_n d_Sc_invert_105 rfl ?_
      refine T_bipush (v := nI 28) d_Sc_invert_106 (by decide) ?_
      refine N_irem (a := 28) (b := j) (c := (j % 28)) d_Sc_invert_108 (by omega) (by omega) (by omega) rfl ?_
      refine T_lshr d_Sc_invert_109 ?_
      refine T_lconst (v := 1) d_Sc_invert_110 (by decide) ?_
      refine T_land d_Sc_invert_111 ?_
      refine T_lconst (v := 1) d_Sc_invert_112 (by decide) ?_
      refine T_lcmp d_Sc_invert_113 ?_
      refine N_topi (y := (if (qN - 2) / 2 ^ j % 2 = 1 then 0 else -1)) (by have e := iv_bit j (by omega); unfold ivB at e; rw [if_neg (by omega)] at e; exact e) ?_
      by_cases hb : (qN - 2) / 2 ^ j % 2 = 1
      · rw [if_pos hb]
        refine T_if_ne d_Sc_invert_114 (tgt := 129) rfl (fun c => absurd c (by decide)) (fun _ => ?_)
        refine T_aload_n (v := .ref 183) d_Sc_invert_117 rfl (Or.inr ⟨_, rfl⟩) ?_
        refine T_aload_n (v := .ref 183) d_Sc_invert_118 rfl (Or.inr ⟨_, rfl⟩) ?_
        have h_4 := (kp_2 183 (by decide)).trans (h_1)
        refine T_getfield (v := .ref 187) d_Sc_invert_119 fg_Sc_19 h_4 rfl ?_
        refine T_aload_n (v := .ref 183) d_Sc_invert_122 rfl (Or.inr ⟨_, rfl⟩) ?_
        refine T_getfield (v := .ref 186) d_Sc_invert_123 fg_Sc_16 h_4 rfl ?_
        have h_6 := (kp_2 186 (by decide)).trans ((hK 186 (by decide)).trans (hg))
        refine T_virtual (as := [.ref 187, .ref 186]) (rest := []) (b := 183) d_Sc_invert_126 rfl (jw_Sc_multiply.jo (by decide)) lm_Sc_39 ji_Sc_multiply js_Sc_multiply h_4 rfl rfl rfl (Nat.le_of_ble_eq_true rfl) (by decide) (by decide) (y_Sc_mul_187_186 h_4 a_2 b_2 c_2 h_6 n_2 ng ql2.1 ql2.2 (Int.natCast_nonneg _) (by rw [← qN_S]; exact Int.ofNat_lt.mpr ha)) (fun r M_5 hq => ?_)
        obtain ⟨rfl, a_5, b_5, ⟨h_5_, c_5, n_5⟩, kp_5⟩ := hq
        replace n_5 := nl_mul n_5
        rw [iv_mu _ _ ha] at n_5
        refine T_eq (pc' := 129) (L' := [(4, .long ((fun j => tb_10.getD j 0) (j / 28))), (3, .int (nI j)), (0, .ref 183), (1, .ref fr), (2, .ref to)]) (st' := []) (M' := M_5) rfl rfl rfl rfl ?_
        refine T_iinc (x := nI j) (L' := [(3, .int (nI j - 1)), (4, .long ((fun j => tb_10.getD j 0) (j / 28))), (0, .ref 183), (1, .ref fr), (2, .ref to)]) d_Sc_invert_129 (by decide) rfl (by rw [nI_dm]; rfl) ?_
        refine T_goto (tgt := 59) d_Sc_invert_132 rfl ?_
        rw [hb] at ie; rw [← ie] at n_5
        exact T_sub (L' := [(3, .int (nI j - 1)), (0, .ref 183), (1, .ref fr), (2, .ref to)]) (fun q hq => by simp only [List.mem_cons, List.not_mem_nil, or_false] at hq ⊢; rcases hq with rfl | rfl | rfl | rfl <;> simp) (ih M_5 (by omega) ⟨a_5, b_5, ⟨_, c_5, n_5⟩, (Kp.tr (Kp.tr (Kp.tr (Kp.rf : Kp [184, 185, 187] M0 M0) (Kp.mono hK (by decide))) (Kp.mono kp_2 (by decide))) (Kp.mono kp_5 (by decide)))⟩)
      · rw [if_neg hb]
        refine T_if_ne d_Sc_invert_114 (tgt := 129) rfl (fun _ => ?_) (fun c => absurd c (by decide))
        refine T_iinc (x := nI j) (L' := [(3, .int (nI j - 1)), (4, .long ((fun j => tb_10.getD j 0) (j / 28))), (0, .ref 183), (1, .ref fr), (2, .ref to)]) d_Sc_invert_129 (by decide) rfl (by rw [nI_dm]; rfl) ?_
        refine T_goto (tgt := 59) d_Sc_invert_132 rfl ?_
        have ie2 : (qN - 2) / 2 ^ j = (qN - 2) / 2 ^ (j + 1) + (qN - 2) / 2 ^ (j + 1) := by omega
        rw [← ie2] at n_2
        exact T_sub (L' := [(3, .int (nI j - 1)), (0, .ref 183), (1, .ref fr), (2, .ref to)]) (fun q hq => by simp only [List.mem_cons, List.not_mem_nil, or_false] at hq ⊢; rcases hq with rfl | rfl | rfl | rfl <;> simp) (ih M_2 (by omega) ⟨a_2, b_2, ⟨_, c_2, n_2⟩, (Kp.tr (Kp.tr (Kp.rf : Kp [184, 185, 187] M0 M0) (Kp.mono hK (by decide))) (Kp.mono kp_2 (by decide)))⟩)
    ·
      refine T_getstatic (q := ("PasswordGate$Scalars", "Q", "[J", .ref 10)) d_Sc_invert_81 (List.mem_of_getElem? (i := 10) rfl) gs_Sc_43 (show 10 < K0 by decide) ?_
      refine T_iconst (v := nI 0) d_Sc_invert_84 (by decide) ?_
      have h_7 := (kp_2 10 (by decide)).trans ((hK 10 (by decide)).trans (hQ))
      refine N_laload (k := 0) (x := ((fun j => tb_10.getD j 0) 0)) d_Sc_invert_85 h_7 (by omega) (by decide) rfl ?_
      refine T_ldc2 d_Sc_invert_86 kJ_Sc_46 ?_
      refine T_lsub d_Sc_invert_89 ?_
      refine T_goto (tgt := 101) d_Sc_invert_90 rfl ?_
      refine T_lstore (L' := [(4, .long (((fun j => tb_10.getD j 0) 0) - 2)), (3, .int (nI j)), (0, .ref 183), (1, .ref fr), (2, .ref to)]) d_Sc_invert_101 (by decide) rfl ?_
      refine T_lload d_Sc_invert_103 rfl ?_
      refine T_iload_n d_Sc_invert_105 rfl ?_
      refine T_bipush (v := nI 28) d_Sc_invert_106 (by decide) ?_
      refine N_irem (a := 28) (b := j) (c := (j % 28)) d_Sc_invert_108 (by omega) (by omega) (by omega) rfl ?_
      refine T_lshr d_Sc_invert_109 ?_
      refine T_lconst (v := 1) d_Sc_invert_110 (by decide) ?_
      refine T_land d_Sc_invert_111 ?_
      refine T_lconst (v := 1) d_Sc_invert_112 (by decide) ?_
      refine T_lcmp d_Sc_invert_113 ?_
      refine N_topi (y := (if (qN - 2) / 2 ^ j % 2 = 1 then 0 else -1)) (by have e := iv_bit j (by omega); unfold ivB at e; rw [if_pos (by omega)] at e; exact e) ?_
      by_cases hb : (qN - 2) / 2 ^ j % 2 = 1
      · rw [if_pos hb]
        refine T_if_ne d_Sc_invert_114 (tgt := 129) rfl (fun c => absurd c (by decide)) (fun _ => ?_)
        refine T_aload_n (v := .ref 183) d_Sc_invert_117 rfl (Or.inr ⟨_, rfl⟩) ?_
        refine T_aload_n (v := .ref 183) d_Sc_invert_118 rfl (Or.inr ⟨_, rfl⟩) ?_
        have h_8 := (kp_2 183 (by decide)).trans (h_1)
        refine T_getfield (v := .ref 187) d_Sc_invert_119 fg_Sc_19 h_8 rfl ?_
        refine T_aload_n (v := .ref 183) d_Sc_invert_122 rfl (Or.inr ⟨_, rfl⟩) ?_
        refine T_getfield (v := .ref 186) d_Sc_invert_123 fg_Sc_16 h_8 rfl ?_
        have h_10 := (kp_2 186 (by decide)).trans ((hK 186 (by decide)).trans (hg))
        refine T_virtual (as := [.ref 187, .ref 186]) (rest := []) (b := 183) d_Sc_invert_126 rfl (jw_Sc_multiply.jo (by decide)) lm_Sc_39 ji_Sc_multiply js_Sc_multiply h_8 rfl rfl rfl (Nat.le_of_ble_eq_true rfl) (by decide) (by decide) (y_Sc_mul_187_186 h_8 a_2 b_2 c_2 h_10 n_2 ng ql2.1 ql2.2 (Int.natCast_nonneg _) (by rw [← qN_S]; exact Int.ofNat_lt.mpr ha)) (fun r M_9 hq => ?_)
        obtain ⟨rfl, a_9, b_9, ⟨h_9_, c_9, n_9⟩, kp_9⟩ := hq
        replace n_9 := nl_mul n_9
        rw [iv_mu _ _ ha] at n_9
        refine T_eq (pc' := 129) (L' := [(4, .long (((fun j => tb_10.getD j 0) 0) - 2)), (3, .int (nI j)), (0, .ref 183), (1, .ref fr), (2, .ref to)]) (st' := []) (M' := M_9) rfl rfl rfl rfl ?_
        refine T_iinc (x := nI j) (L' := [(3, .int (nI j - 1)), (4, .long (((fun j => tb_10.getD j 0) 0) - 2)), (0, .ref 183), (1, .ref fr), (2, .ref to)]) d_Sc_invert_129 (by decide) rfl (by rw [nI_dm]; rfl) ?_
        refine T_goto (tgt := 59) d_Sc_invert_132 rfl ?_
        rw [hb] at ie; rw [← ie] at n_9
        exact T_sub (L' := [(3, .int (nI j - 1)), (0, .ref 183), (1, .ref fr), (2, .ref to)]) (fun q hq => by simp only [List.mem_cons, List.not_mem_nil, or_false] at hq ⊢; rcases hq with rfl | rfl | rfl | rfl <;> simp) (ih M_9 (by omega) ⟨a_9, b_9, ⟨_, c_9, n_9⟩, (Kp.tr (Kp.tr (Kp.tr (Kp.rf : Kp [184, 185, 187] M0 M0) (Kp.mono hK (by decide))) (Kp.mono kp_2 (by decide))) (Kp.mono kp_9 (by decide)))⟩)
      · rw [if_neg hb]
        refine T_if_ne d_Sc_invert_114 (tgt := 129) rfl (fun _ => ?_) (fun c => absurd c (by decide))
        refine T_iinc (x := nI j) (L' := [(3, .int (nI j - 1)), (4, .long (((fun j => tb_10.getD j 0) 0) - 2)), (0, .ref 183), (1, .ref fr), (2, .ref to)]) d_Sc_invert_129 (by decide) rfl (by rw [nI_dm]; rfl) ?_
        refine T_goto (tgt := 59) d_Sc_invert_132 rfl ?_
        have ie2 : (qN - 2) / 2 ^ j = (qN - 2) / 2 ^ (j + 1) + (qN - 2) / 2 ^ (j + 1) := by omega
        rw [← ie2] at n_2
        exact T_sub (L' := [(3, .int (nI j - 1)), (0, .ref 183), (1, .ref fr), (2, .ref to)]) (fun q hq => by simp only [List.mem_cons, List.not_mem_nil, or_false] at hq ⊢; rcases hq with rfl | rfl | rfl | rfl <;> simp) (ih M_2 (by omega) ⟨a_2, b_2, ⟨_, c_2, n_2⟩, (Kp.tr (Kp.tr (Kp.rf : Kp [184, 185, 187] M0 M0) (Kp.mono hK (by decide))) (Kp.mono kp_2 (by decide)))⟩)
set_option maxHeartbeats 8000000 in
theorem i1_lp (G : GX) {M0 : List va_E} {fr to : Nat} (ho : M0[183]? = some scO) {Q : Option Value → List va_E → Prop} (kk : ∀ M, (∃ F, M[187]? = some (lr 20 F) ∧ ∀ j, j < 20 → F j = if j = 0 then 1 else 0) ∧ Kp [187] M0 M → TT G mi_Sc_invert 55 [(0, .ref 183), (1, .ref fr), (2, .ref to)] [] M 0 0 Q) : ∀ j k M, k + j = 20 → (∃ F, M[187]? = some (lr 20 F) ∧ ∀ j, j < k → F j = if j = 0 then 1 else 0) ∧ Kp [187] M0 M → TT G mi_Sc_invert 28 [(3, .int (nI k)), (0, .ref 183), (1, .ref fr), (2, .ref to)] [] M 0 0 Q := by
  intro j
  induction j with
  | zero =>
    intro k M hk hI
    obtain rfl : 20 = k := by omega
    refine T_iload_n d_Sc_invert_28 rfl ?_
    refine T_bipush (v := nI 20) d_Sc_invert_29 (by decide) ?_
    refine N_icmp_ge_t (a := 20) (b := 20) d_Sc_invert_31 (tgt := 55) rfl (by omega) (by omega) (by omega) ?_
    exact T_sub (fun q hq => List.mem_cons_of_mem _ hq) (kk M hI)
  | succ j ih =>
    intro k M hk hI
    obtain ⟨⟨F, h1, h2⟩, hK⟩ := hI
    refine T_iload_n d_Sc_invert_28 rfl ?_
    refine T_bipush (v := nI 20) d_Sc_invert_29 (by decide) ?_
    refine N_icmp_ge_f (a := 20) (b := k) d_Sc_invert_31 (tgt := 55) rfl (by omega) (by omega) (by omega) ?_
    refine T_aload_n (v := .ref 183) d_Sc_invert_34 rfl (Or.inr ⟨_, rfl⟩) ?_
    have h_1 := (hK 183 (by decide)).trans (ho)
    refine T_getfield (v := .ref 187) d_Sc_invert_35 fg_Sc_19 h_1 rfl ?_
    refine T_iload_n d_Sc_invert_38 rfl ?_
    refine T_iload_n d_Sc_invert_39 rfl ?_
    refine N_if_ne (b := k) d_Sc_invert_40 (tgt := 47) rfl (by omega) (fun hz => ?_) (fun hz => ?_)
    ·
      refine T_lconst (v := 0) d_Sc_invert_47 (by decide) ?_
      refine N_lastore (k := k) d_Sc_invert_48 (by decide) h1 (by omega) (by decide) rfl (fun M_2 h_3 s_4 => ?_)
      refine N_iinc (k := k) (m := 1) (c := (k + 1)) (L' := [(3, .int (nI ((k + 1)))), (0, .ref 183), (1, .ref fr), (2, .ref to)]) d_Sc_invert_49 (by decide) rfl (by decide) rfl rfl ?_
      refine T_goto (tgt := 28) d_Sc_invert_52 rfl ?_
      exact ih (k + 1) M_2 (by omega) ⟨⟨_, h_3, fun j hj => by unfold vp_updL; by_cases e : j = k; rw [if_pos e, if_neg (by omega)]; rw [if_neg e]; exact h2 j (by omega)⟩, (Kp.ex (Kp.tr (Kp.rf : Kp [187] M0 M0) (Kp.mono hK (by decide))) s_4 (by decide))⟩
    ·
      refine T_lconst (v := 1) d_Sc_invert_43 (by decide) ?_
      refine T_goto (tgt := 48) d_Sc_invert_44 rfl ?_
      refine N_lastore (k := k) d_Sc_invert_48 (by decide) h1 (by omega) (by decide) rfl (fun M_5 h_6 s_7 => ?_)
      refine N_iinc (k := k) (m := 1) (c := (k + 1)) (L' := [(3, .int (nI ((k + 1)))), (0, .ref 183), (1, .ref fr), (2, .ref to)]) d_Sc_invert_49 (by decide) rfl (by decide) rfl rfl ?_
      refine T_goto (tgt := 28) d_Sc_invert_52 rfl ?_
      exact ih (k + 1) M_5 (by omega) ⟨⟨_, h_6, fun j hj => by unfold vp_updL; by_cases e : j = k; rw [if_pos e, if_pos (by omega)]; rw [if_neg e]; exact h2 j (by omega)⟩, (Kp.ex (Kp.tr (Kp.rf : Kp [187] M0 M0) (Kp.mono hK (by decide))) s_7 (by decide))⟩
set_option maxHeartbeats 8000000 in
theorem y_Sc_invert {G : GX} {M : List va_E} {fr mf to m : Nat} {l : List UInt8} (hs : SCS M) (hf : BA M fr mf l) (ht : BQ M to m) (hl : 32 ≤ l.length) (hmf : mf < 2 ^ 30) (hm : 32 ≤ m) (hm2 : m < 2 ^ 30) (gr : ∀ w ∈ [fr, to], ∀ z ∈ scW, w ≠ z) (k_to : K0 ≤ to) : CT G mi_Sc_invert [.ref 183, .ref fr, .ref to] M (fun r M' => r = none ∧ SCS M' ∧ BA M' to m (lbN ((leN l 32 % qN) ^ (qN - 2) % qN)) ∧ Kp (to :: scW) M M') := by
  have xb : (leN l 32 : Int) < 13407807929942597099574024998205846127479365820592393377723561443721764030073546976801874298166903427690031858186486050853753882811946569946433649006084096 := by
    have h := leN_lt l 32
    have h3 : (256 : Nat) ^ 32 = 115792089237316195423570985008687907853269984665640564039457584007913129639936 := by decide +kernel
    omega
  refine CT.of (by decide) (Nat.le_of_ble_eq_true rfl) ?_
  show TT G mi_Sc_invert 0 [(0, .ref 183), (1, .ref fr), (2, .ref to)] [] M 0 0 _
  refine T_know (fun hK0 => ?_)
  refine T_aload_n (v := .ref 183) d_Sc_invert_0 rfl (Or.inr ⟨_, rfl⟩) ?_
  refine T_aload_n (v := .ref fr) d_Sc_invert_1 rfl (Or.inr ⟨_, rfl⟩) ?_
  refine T_bipush (v := nI 32) d_Sc_invert_2 (by decide) ?_
  refine T_virtual (as := [.ref fr, .int (nI 32)]) (rest := []) (b := 183) d_Sc_invert_4 rfl (jw_Sc_load.jo (by decide)) lm_Sc_22 ji_Sc_load js_Sc_load hs.1 rfl rfl rfl (Nat.le_of_ble_eq_true rfl) (by decide) (by decide) (y_Sc_load hs.1 hs.2.1 hs.2.2.1 hf hl (by decide) hmf (gr fr (by simp) 185 (by decide))) (fun r Ma hq => ?_)
  obtain ⟨rfl, ⟨H1, a1, a2⟩, a3, a4⟩ := hq
  refine T_eq (pc' := 7) (L' := [(0, .ref 183), (1, .ref fr), (2, .ref to)]) (st' := []) (M' := Ma) rfl rfl rfl rfl ?_
  refine T_aload_n (v := .ref 183) d_Sc_invert_7 rfl (Or.inr ⟨_, rfl⟩) ?_
  have h_1 := (a4 183 (by decide)).trans (hs.1)
  refine T_virtual (as := []) (rest := []) (b := 183) d_Sc_invert_8 rfl (jw_Sc_fold.jo (by decide)) lm_Sc_26 ji_Sc_fold js_Sc_fold h_1 rfl rfl rfl (Nat.le_of_ble_eq_true rfl) (by decide) (by decide) (y_Sc_fold h_1 a1 a3 a2 (Int.natCast_nonneg _) xb) (fun r Mb hq => ?_)
  obtain ⟨rfl, ⟨H2, b1, b2⟩, b3, b4⟩ := hq
  rw [← qN_S, ← Int.natCast_emod] at b2
  refine T_eq (pc' := 11) (L' := [(0, .ref 183), (1, .ref fr), (2, .ref to)]) (st' := []) (M' := Mb) rfl rfl rfl rfl ?_
  refine T_aload_n (v := .ref 183) d_Sc_invert_11 rfl (Or.inr ⟨_, rfl⟩) ?_
  have h_2 := (b4 183 (by decide)).trans (h_1)
  refine T_getfield (v := .ref 184) d_Sc_invert_12 fg_Sc_9 h_2 rfl ?_
  refine T_iconst (v := nI 0) d_Sc_invert_15 (by decide) ?_
  refine T_aload_n (v := .ref 183) d_Sc_invert_16 rfl (Or.inr ⟨_, rfl⟩) ?_
  refine T_getfield (v := .ref 186) d_Sc_invert_17 fg_Sc_16 h_2 rfl ?_
  refine T_iconst (v := nI 0) d_Sc_invert_20 (by decide) ?_
  refine T_bipush (v := nI 20) d_Sc_invert_21 (by decide) ?_
  have p_4 := (LQ.kp ((LQ.kp (hs.2.2.2.1) a4 (by decide))) b4 (by decide))
  obtain ⟨g_3, hg_3⟩ := p_4
  refine N_copyL (n0 := 20) (sp := 0) (dp := 0) (n := 20) d_Sc_invert_23 lm_Sc_33 (by decide) (by decide) b1 hg_3 (by decide) (by decide) (by decide) (by decide) (by decide) (Nat.le_of_ble_eq_true rfl) (fun M_3 hz_3 ez_3 => ?_)
  refine T_iconst (v := nI 0) d_Sc_invert_26 (by decide) ?_
  refine T_istore_n (L' := [(3, .int (nI 0)), (0, .ref 183), (1, .ref fr), (2, .ref to)]) d_Sc_invert_27 (by decide) rfl ?_
  have p_5 := (LQ.kp ((LQ.kp ((LQ.kp (hs.2.2.2.2) a4 (by decide))) b4 (by decide))) (Ex.kp ez_3) (by decide))
  obtain ⟨p0, hp0⟩ := p_5
  have h_6 := (ez_3 183 (by decide)).trans (h_2)
  refine i1_lp G h_6 (fun Mc hI => ?_) 20 0 M_3 rfl ⟨⟨p0, hp0, fun j hj => absurd hj (by omega)⟩, Kp.rf⟩
  obtain ⟨⟨F1, h1, h2⟩, hK1⟩ := hI
  refine T_sipush (v := nI 252) d_Sc_invert_55 (by decide) ?_
  refine T_istore_n (L' := [(3, .int (nI 252)), (0, .ref 183), (1, .ref fr), (2, .ref to)]) d_Sc_invert_58 (by decide) rfl ?_
  refine T_eq (pc' := 59) (L' := [(3, .int (nI (252 + 1) - 1)), (0, .ref 183), (1, .ref fr), (2, .ref to)]) (st' := []) (M' := Mc) rfl (by rw [nI_pp]) rfl rfl ?_
  have n1 : NL F1 ((((leN l 32 % qN) ^ ((qN - 2) / 2 ^ 253) % qN : Nat)) : Int) := by
    rw [show (qN - 2) / 2 ^ 253 = 0 by decide +kernel, Nat.pow_zero]
    refine ⟨?_, fun i hi => by rw [h2 i (by omega)]; split <;> decide⟩
    unfold LV; rw [sumS_congr (h := fun i => if i = 0 then 1 else 0) (fun i hi => by rw [h2 i hi]; split <;> rfl)]; decide +kernel
  have ll : leN l 32 % qN < qN := Nat.mod_lt _ (by decide)
  have h_7 := (hK1 183 (by decide)).trans (h_6)
  have h_8 := (hK1 186 (by decide)).trans (hz_3)
  have h_9 := (hK1 10 (by decide)).trans ((ez_3 10 (by decide)).trans ((b4 10 (by decide)).trans ((a4 10 (by decide)).trans ((hK0 10 (by decide) : M[10]? = some (lr 10 (fun j => tb_10.getD j 0)))))))
  have h_10 := (hK1 184 (by decide)).trans ((ez_3 184 (by decide)).trans (b1))
  have p_11 := (LQ.kp ((LQ.kp (b3) (Ex.kp ez_3) (by decide))) hK1 (by decide))
  refine iv_lp G (M0 := Mc) h_7 h_8 (NL.cpy b2) ll h_9 (fun Md hI => ?_) 253 Mc (Nat.le_refl _) ⟨⟨_, h_10⟩, p_11, ⟨F1, h1, n1⟩, Kp.rf⟩
  obtain ⟨q4, q5, ⟨f7, hf7, n7⟩, hK7⟩ := hI
  rw [Nat.pow_zero, Nat.div_one] at n7
  refine T_aload_n (v := .ref 183) d_Sc_invert_135 rfl (Or.inr ⟨_, rfl⟩) ?_
  have h_12 := (hK7 183 (by decide)).trans (h_7)
  refine T_getfield (v := .ref 187) d_Sc_invert_136 fg_Sc_19 h_12 rfl ?_
  refine T_iconst (v := nI 0) d_Sc_invert_139 (by decide) ?_
  refine T_aload_n (v := .ref 183) d_Sc_invert_140 rfl (Or.inr ⟨_, rfl⟩) ?_
  refine T_getfield (v := .ref 184) d_Sc_invert_141 fg_Sc_9 h_12 rfl ?_
  refine T_iconst (v := nI 0) d_Sc_invert_144 (by decide) ?_
  refine T_bipush (v := nI 20) d_Sc_invert_145 (by decide) ?_
  obtain ⟨g_13, hg_13⟩ := q4
  refine N_copyL (n0 := 20) (sp := 0) (dp := 0) (n := 20) d_Sc_invert_147 lm_Sc_33 (by decide) (by decide) hf7 hg_13 (by decide) (by decide) (by decide) (by decide) (by decide) (Nat.le_of_ble_eq_true rfl) (fun M_13 hz_13 ez_13 => ?_)
  refine T_aload_n (v := .ref 183) d_Sc_invert_150 rfl (Or.inr ⟨_, rfl⟩) ?_
  refine T_aload_n (v := .ref to) d_Sc_invert_151 rfl (Or.inr ⟨_, rfl⟩) ?_
  have h_15 := (ez_13 183 (by decide)).trans (h_12)
  have p_16 := (BQ.kp ((BQ.kp ((BQ.kp ((BQ.kp ((BQ.kp ((BQ.kp (ht) a4 (gr_ni (gr to (by simp)) (by decide)))) b4 (gr_ni (gr to (by simp)) (by decide)))) (Ex.kp ez_3) (gr_ni (gr to (by simp)) (by decide)))) hK1 (gr_ni (gr to (by simp)) (by decide)))) hK7 (gr_ni (gr to (by simp)) (by decide)))) (Ex.kp ez_13) (gr_ni (gr to (by simp)) (by decide)))
  refine T_virtual (as := [.ref to]) (rest := []) (b := 183) d_Sc_invert_152 rfl (jw_Sc_save.jo (by decide)) lm_Sc_29 ji_Sc_save js_Sc_save h_15 rfl rfl rfl (Nat.le_of_ble_eq_true rfl) (by decide) (by decide) (y_Sc_save h_15 hz_13 (NL.cpy n7) p_16 hm hm2 (gr to (by simp) 183 (by decide)) (gr to (by simp) 184 (by decide)) k_to) (fun r M_14 hq => ?_)
  obtain ⟨rfl, d1, d2⟩ := hq
  refine T_eq (pc' := 155) (L' := [(0, .ref 183), (1, .ref fr), (2, .ref to)]) (st' := []) (M' := M_14) rfl rfl rfl rfl ?_
  have n2 : ∀ q ∈ scW, q ∉ [to] := fun q hq c => gr to (by simp) q hq (List.mem_singleton.mp c).symm
  have h_17 := (d2 183 (by simp only [List.mem_cons, List.not_mem_nil, or_false]; exact (Ne.symm (gr to (by simp) 183 (by decide))))).trans (h_15)
  have h_18 := (d2 184 (by simp only [List.mem_cons, List.not_mem_nil, or_false]; exact (Ne.symm (gr to (by simp) 184 (by decide))))).trans (hz_13)
  have p_19 := (LQ.kp ((LQ.kp (q5) (Ex.kp ez_13) (by decide))) d2 (by simp only [List.mem_cons, List.not_mem_nil, or_false]; exact (Ne.symm (gr to (by simp) 185 (by decide)))))
  have h_20 := (d2 186 (by simp only [List.mem_cons, List.not_mem_nil, or_false]; exact (Ne.symm (gr to (by simp) 186 (by decide))))).trans ((ez_13 186 (by decide)).trans ((hK7 186 (by decide)).trans (h_8)))
  have h_21 := (d2 187 (by simp only [List.mem_cons, List.not_mem_nil, or_false]; exact (Ne.symm (gr to (by simp) 187 (by decide))))).trans ((ez_13 187 (by decide)).trans (hf7))
  exact T_vret d_Sc_invert_155 rfl (by decide) (by decide) ⟨rfl, ⟨h_17, ⟨_, h_18⟩, p_19, ⟨_, h_20⟩, ⟨_, h_21⟩⟩, d1, (Kp.tr (Kp.ex (Kp.tr (Kp.tr (Kp.ex (Kp.tr (Kp.tr (Kp.rf : Kp [to, 183, 184, 185, 186, 187] M M) (Kp.mono a4 (by simp))) (Kp.mono b4 (by simp))) ez_3 (by simp)) (Kp.mono hK1 (by simp))) (Kp.mono hK7 (by simp))) ez_13 (by simp)) (Kp.mono d2 (by simp)))⟩
