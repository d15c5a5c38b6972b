/-! The reference: registers of sixteen limbs in one row. -/
def moO (v : Nat → Int32) : va_E := .inr (12, [.int (v 66), .ref 374, .int (v 67), .ref 375, .ref 376, .ref 377, .ref 378, .ref 379, .ref 380, .ref 381, .ref 382, .ref 383, .ref 384, .int (v 68), .ref 385, .ref 386, .ref 387, .int (v 69), .ref 388, .ref 389, .int (v 70), .ref 390, .ref 391, .ref 392, .ref 393, .ref 394, .ref 395, .ref 396, .ref 397, .ref 398, .ref 399, .ref 400, .ref 401, .int (v 71), .int (v 72), .ref 402, .ref 403, .ref 404, .ref 405, .ref 406, .ref 407, .ref 408, .ref 409, .int (v 73), .ref 410, .int (v 74), .ref 411, .ref 412, .ref 413, .ref 414, .ref 415, .ref 416, .ref 417, .ref 418, .ref 419, .ref 420, .ref 421, .ref 422, .ref 423, .ref 424, .ref 425, .ref 426, .ref 427, .ref 428, .ref 429, .ref 430, .ref 431, .ref 432, .ref 433, .ref 434, .ref 435, .ref 436, .ref 437, .ref 438, .ref 439, .ref 440, .ref 441, .int (v 75), .ref 442, .ref 443, .ref 444, .ref 445, .ref 446, .ref 447, .ref 448, .ref 449, .ref 450])
def sC (F : Nat → Int64) (b : Nat) : Nat → Int64
  | 0 => 0
  | k + 1 => (F (b + k) + sC F b k) >>> ((nI 16).toInt64 &&& 63)
def sG (F : Nat → Int64) (b k : Nat) : Int64 := (F (b + k) + sC F b k) - (sC F b (k + 1) <<< ((nI 16).toInt64 &&& 63))
def sF (F : Nat → Int64) (b k : Nat) : Nat → Int64 := fun j => if b ≤ j ∧ j < b + k then sG F b (j - b) else if j = b + k then F j + sC F b k else F j
def sE (F : Nat → Int64) (b : Nat) : Nat → Int64 := fun j => if j = b then sG F b 0 + 38 * sC F b 16 else if b < j ∧ j < b + 16 then sG F b (j - b) else F j
theorem sF_0 (F : Nat → Int64) (b : Nat) : sF F b 0 = F := by
  funext j
  unfold sF
  rw [if_neg (by omega)]
  by_cases h : j = b + 0
  · rw [if_pos h]; show F j + 0 = F j; exact Int64.add_zero _
  · rw [if_neg h]
theorem sF_at (F : Nat → Int64) (b k : Nat) : sF F b k (b + k) = F (b + k) + sC F b k := by unfold sF; rw [if_neg (by omega), if_pos rfl]
theorem sF_nx (F : Nat → Int64) (b k : Nat) (x : Int64) : vp_updL (sF F b k) (b + k) x (b + k + 1) = F (b + k + 1) := by unfold vp_updL sF; rw [if_neg (by omega), if_neg (by omega), if_neg (by omega)]
theorem sF_up (F : Nat → Int64) (b k : Nat) : vp_updL (vp_updL (sF F b k) (b + k) (sG F b k)) (b + k + 1) (F (b + k + 1) + sC F b (k + 1)) = sF F b (k + 1) := by
  funext j
  unfold vp_updL sF
  by_cases h1 : j = b + k + 1
  · subst h1; rw [if_pos rfl, if_neg (by omega), if_pos (by omega)]
  · rw [if_neg h1]
    by_cases h2 : j = b + k
    · subst h2; rw [if_pos rfl, if_pos (by omega), show b + k - b = k by omega]
    · rw [if_neg h2]
      by_cases h3 : b ≤ j ∧ j < b + k
      · rw [if_pos h3, if_pos (by omega)]
      · rw [if_neg h3, if_neg h2, if_neg (by omega), if_neg (by omega)]
theorem sF_la (F : Nat → Int64) (b : Nat) : vp_updL (sF F b 15) (b + 15) (sG F b 15) b = sG F b 0 := by unfold vp_updL sF; rw [if_neg (by omega), if_pos (by omega), Nat.sub_self]
theorem sF_en (F : Nat → Int64) (b : Nat) : vp_updL (vp_updL (sF F b 15) (b + 15) (sG F b 15)) b (sG F b 0 + 38 * sC F b 16) = sE F b := by
  funext j
  unfold vp_updL sF sE
  by_cases h1 : j = b
  · rw [if_pos h1, if_pos h1]
  · rw [if_neg h1, if_neg h1]
    by_cases h2 : j = b + 15
    · subst h2; rw [if_pos rfl, if_pos (by omega), show b + 15 - b = 15 by omega]
    · rw [if_neg h2]
      by_cases h3 : b ≤ j ∧ j < b + 15
      · rw [if_pos h3, if_pos (by omega)]
      · rw [if_neg h3, if_neg h2, if_neg (by omega)]
theorem xl_Mo_settle (G : GX) {M : List va_E} {v : Nat → Int32} {d : Nat} {F : Nat → Int64} (ho : M[373]? = some (moO v)) (hf : M[390]? = some (lr 1024 F)) (hd : d ≤ 63) : ∀ j k, k + j = 15 → TT G mi_Mo_settle 2 [(2, .int (nI k)), (0, .ref 373), (1, .int (nI d))] [] (M.set 390 (lr 1024 (sF F (16 * d) k))) 0 0 (fun r M' => r = none ∧ M' = M.set 390 (lr 1024 (sE F (16 * d)))) := by
  have hl := X_len hf
  have o1 : ∀ e, (M.set 390 e)[373]? = some (moO v) := fun e => X_ne ho (by decide)
  have f1 : ∀ c : Nat → Int64, (M.set 390 (lr 1024 c))[390]? = some (lr 1024 c) := fun c => List.getElem?_set_self hl
  intro j
  induction j with
  | zero =>
    intro k hk
    have : k = 15 := by omega
    subst this
    refine T_iload_n d_Mo_settle_2 rfl ?_
    refine T_bipush (v := nI 16) d_Mo_settle_3 (by decide) ?_
    refine T_icmp_ge d_Mo_settle_5 (tgt := 90) rfl (fun c => absurd ((nI_leI (by decide) (by omega)).mp c) (by omega)) (fun _ => ?_)
    refine T_aload_n (v := .ref 373) d_Mo_settle_8 rfl (Or.inr ⟨_, rfl⟩) ?_
    refine T_getfield d_Mo_settle_9 fg_Mo_124 (o1 _) rfl ?_
    refine T_bipush (v := nI 16) d_Mo_settle_12 (by decide) ?_
    refine T_iload_n d_Mo_settle_14 rfl ?_
    refine T_imul d_Mo_settle_15 ?_
    rw [pk_mul]
    refine T_iload_n d_Mo_settle_16 rfl ?_
    refine T_iadd d_Mo_settle_17 ?_
    rw [nI_add]
    refine T_laload d_Mo_settle_18 (f1 _) (vp_in_nI (by omega) (by decide)) ?_
    rw [nI_clamp (by omega), sF_at]
    refine T_bipush (v := nI 16) d_Mo_settle_19 (by decide) ?_
    refine T_lshr d_Mo_settle_21 ?_
    refine T_lstore_n (L' := [(3, .long (sC F (16 * d) (15 + 1))), (2, .int (nI 15)), (0, .ref 373), (1, .int (nI d))]) d_Mo_settle_22 (by decide) rfl ?_
    refine T_aload_n (v := .ref 373) d_Mo_settle_23 rfl (Or.inr ⟨_, rfl⟩) ?_
    refine T_getfield d_Mo_settle_24 fg_Mo_124 (o1 _) rfl ?_
    refine T_bipush (v := nI 16) d_Mo_settle_27 (by decide) ?_
    refine T_iload_n d_Mo_settle_29 rfl ?_
    refine T_imul d_Mo_settle_30 ?_
    rw [pk_mul]
    refine T_iload_n d_Mo_settle_31 rfl ?_
    refine T_iadd d_Mo_settle_32 ?_
    rw [nI_add]
    refine T_dup2 d_Mo_settle_33 rfl rfl ?_
    refine T_laload d_Mo_settle_34 (f1 _) (vp_in_nI (by omega) (by decide)) ?_
    rw [nI_clamp (by omega), sF_at]
    refine T_lload_n d_Mo_settle_35 rfl ?_
    refine T_bipush (v := nI 16) d_Mo_settle_36 (by decide) ?_
    refine T_lshl d_Mo_settle_38 ?_
    refine T_lsub d_Mo_settle_39 ?_
    refine X_last (n := 1024) (k := 16 * d + 15) d_Mo_settle_40 (by decide) (by omega) (by decide) hl ?_
    refine T_eq (M' := M.set 390 (lr 1024 (vp_updL (sF F (16 * d) 15) (16 * d + 15) (sG F (16 * d) 15)))) rfl rfl rfl rfl ?_
    refine T_iload_n d_Mo_settle_41 rfl ?_
    refine T_bipush (v := nI 15) d_Mo_settle_42 (by decide) ?_
    refine T_icmp_ge d_Mo_settle_44 (tgt := 67) rfl (fun _ => ?_) (fun c => absurd (by decide) c)
    refine T_aload_n (v := .ref 373) d_Mo_settle_67 rfl (Or.inr ⟨_, rfl⟩) ?_
    refine T_getfield d_Mo_settle_68 fg_Mo_124 (o1 _) rfl ?_
    refine T_bipush (v := nI 16) d_Mo_settle_71 (by decide) ?_
    refine T_iload_n d_Mo_settle_73 rfl ?_
    refine T_imul d_Mo_settle_74 ?_
    rw [pk_mul]
    refine T_dup2 d_Mo_settle_75 rfl rfl ?_
    refine T_laload d_Mo_settle_76 (f1 _) (vp_in_nI (by omega) (by decide)) ?_
    rw [nI_clamp (by omega), sF_la]
    refine T_ldc2 d_Mo_settle_77 kJ_Mo_128 ?_
    refine T_lload_n d_Mo_settle_80 rfl ?_
    refine T_lmul d_Mo_settle_81 ?_
    refine T_ladd d_Mo_settle_82 ?_
    refine X_last (n := 1024) (k := 16 * d) d_Mo_settle_83 (by decide) (by omega) (by decide) hl ?_
    rw [sF_en]
    refine T_iinc (x := nI 15) (L' := [(2, .int (nI 16)), (3, .long (sC F (16 * d) (15 + 1))), (0, .ref 373), (1, .int (nI d))]) d_Mo_settle_84 (by decide) rfl rfl ?_
    refine T_goto (tgt := 2) d_Mo_settle_87 rfl ?_
    refine T_iload_n d_Mo_settle_2 rfl ?_
    refine T_bipush (v := nI 16) d_Mo_settle_3 (by decide) ?_
    refine T_icmp_ge d_Mo_settle_5 (tgt := 90) rfl (fun _ => ?_) (fun c => absurd (by decide) c)
    exact T_vret d_Mo_settle_90 rfl (by decide) (by decide) ⟨rfl, rfl⟩
  | succ j ih =>
    intro k hk
    refine T_iload_n d_Mo_settle_2 rfl ?_
    refine T_bipush (v := nI 16) d_Mo_settle_3 (by decide) ?_
    refine T_icmp_ge d_Mo_settle_5 (tgt := 90) rfl (fun c => absurd ((nI_leI (by decide) (by omega)).mp c) (by omega)) (fun _ => ?_)
    refine T_aload_n (v := .ref 373) d_Mo_settle_8 rfl (Or.inr ⟨_, rfl⟩) ?_
    refine T_getfield d_Mo_settle_9 fg_Mo_124 (o1 _) rfl ?_
    refine T_bipush (v := nI 16) d_Mo_settle_12 (by decide) ?_
    refine T_iload_n d_Mo_settle_14 rfl ?_
    refine T_imul d_Mo_settle_15 ?_
    rw [pk_mul]
    refine T_iload_n d_Mo_settle_16 rfl ?_
    refine T_iadd d_Mo_settle_17 ?_
    rw [nI_add]
    refine T_laload d_Mo_settle_18 (f1 _) (vp_in_nI (by omega) (by decide)) ?_
    rw [nI_clamp (by omega), sF_at]
    refine T_bipush (v := nI 16) d_Mo_settle_19 (by decide) ?_
    refine T_lshr d_Mo_settle_21 ?_
    refine T_lstore_n (L' := [(3, .long (sC F (16 * d) (k + 1))), (2, .int (nI k)), (0, .ref 373), (1, .int (nI d))]) d_Mo_settle_22 (by decide) rfl ?_
    refine T_aload_n (v := .ref 373) d_Mo_settle_23 rfl (Or.inr ⟨_, rfl⟩) ?_
    refine T_getfield d_Mo_settle_24 fg_Mo_124 (o1 _) rfl ?_
    refine T_bipush (v := nI 16) d_Mo_settle_27 (by decide) ?_
    refine T_iload_n d_Mo_settle_29 rfl ?_
    refine T_imul d_Mo_settle_30 ?_
    rw [pk_mul]
    refine T_iload_n d_Mo_settle_31 rfl ?_
    refine T_iadd d_Mo_settle_32 ?_
    rw [nI_add]
    refine T_dup2 d_Mo_settle_33 rfl rfl ?_
    refine T_laload d_Mo_settle_34 (f1 _) (vp_in_nI (by omega) (by decide)) ?_
    rw [nI_clamp (by omega), sF_at]
    refine T_lload_n d_Mo_settle_35 rfl ?_
    refine T_bipush (v := nI 16) d_Mo_settle_36 (by decide) ?_
    refine T_lshl d_Mo_settle_38 ?_
    refine T_lsub d_Mo_settle_39 ?_
    refine X_last (n := 1024) (k := 16 * d + k) d_Mo_settle_40 (by decide) (by omega) (by decide) hl ?_
    refine T_eq (M' := M.set 390 (lr 1024 (vp_updL (sF F (16 * d) k) (16 * d + k) (sG F (16 * d) k)))) rfl rfl rfl rfl ?_
    refine T_iload_n d_Mo_settle_41 rfl ?_
    refine T_bipush (v := nI 15) d_Mo_settle_42 (by decide) ?_
    refine T_icmp_ge d_Mo_settle_44 (tgt := 67) rfl (fun c => absurd ((nI_leI (by decide) (by omega)).mp c) (by omega)) (fun _ => ?_)
    refine T_aload_n (v := .ref 373) d_Mo_settle_47 rfl (Or.inr ⟨_, rfl⟩) ?_
    refine T_getfield d_Mo_settle_48 fg_Mo_124 (o1 _) rfl ?_
    refine T_bipush (v := nI 16) d_Mo_settle_51 (by decide) ?_
    refine T_iload_n d_Mo_settle_53 rfl ?_
    refine T_imul d_Mo_settle_54 ?_
    rw [pk_mul]
    refine T_iload_n d_Mo_settle_55 rfl ?_
    refine T_iadd d_Mo_settle_56 ?_
    rw [nI_add]
    refine T_iconst (v := nI 1) d_Mo_settle_57 (by decide) ?_
    refine T_iadd d_Mo_settle_58 ?_
    rw [nI_add]
    refine T_dup2 d_Mo_settle_59 rfl rfl ?_
    refine T_laload d_Mo_settle_60 (f1 _) (vp_in_nI (by omega) (by decide)) ?_
    rw [nI_clamp (by omega), sF_nx]
    refine T_lload_n d_Mo_settle_61 rfl ?_
    refine T_ladd d_Mo_settle_62 ?_
    refine X_last (n := 1024) (k := 16 * d + k + 1) d_Mo_settle_63 (by decide) (by omega) (by decide) hl ?_
    rw [sF_up]
    refine T_goto (tgt := 84) d_Mo_settle_64 rfl ?_
    refine T_iinc (x := nI k) (L' := [(2, .int (nI (k + 1))), (3, .long (sC F (16 * d) (k + 1))), (0, .ref 373), (1, .int (nI d))]) d_Mo_settle_84 (by decide) rfl (by rw [show Int32.ofInt 1 = nI 1 from rfl, nI_add]; rfl) ?_
    refine T_goto (tgt := 2) d_Mo_settle_87 rfl ?_
    refine T_sub (L' := [(2, .int (nI (k + 1))), (0, .ref 373), (1, .int (nI d))]) (fun q hq => ?_) (ih (k + 1) (by omega))
    simp only [List.mem_cons, List.not_mem_nil, or_false] at hq ⊢
    rcases hq with rfl | rfl | rfl <;> simp
theorem x_Mo_settle (G : GX) {M : List va_E} {v : Nat → Int32} {d : Nat} {F : Nat → Int64} (ho : M[373]? = some (moO v)) (hf : M[390]? = some (lr 1024 F)) (hd : d ≤ 63) : CT G mi_Mo_settle [.ref 373, .int (nI d)] M (fun r M' => r = none ∧ M' = M.set 390 (lr 1024 (sE F (16 * d)))) := by
  refine CT.of (by decide) (Nat.le_of_ble_eq_true rfl) ?_
  show TT G mi_Mo_settle 0 [(0, .ref 373), (1, .int (nI d))] [] M 0 0 _
  refine T_iconst (v := nI 0) d_Mo_settle_0 (by decide) ?_
  refine T_istore_n (L' := [(2, .int (nI 0)), (0, .ref 373), (1, .int (nI d))]) d_Mo_settle_1 (by decide) rfl ?_
  refine T_eq (M' := M.set 390 (lr 1024 (sF F (16 * d) 0))) rfl rfl rfl (by rw [sF_0]; exact X_same hf) ?_
  exact xl_Mo_settle G ho hf hd 15 0 rfl
/-! Mathematics of the reference's field: sixteen limbs of 16 bits. -/
theorem shl16 (c : Int64) : c <<< ((nI 16).toInt64 &&& 63) = c * 65536 := by
  apply Int64.toBitVec_inj.mp
  rw [Int64.toBitVec_shiftLeft, Int64.toBitVec_mul, BitVec.shiftLeft_eq', show (((nI 16).toInt64 &&& 63 : Int64).toBitVec.smod 64).toNat = 16 by decide, BitVec.shiftLeft_eq_mul_twoPow]
  rfl
theorem s16_ : (((nI 16).toInt64 &&& 63 : Int64).toBitVec.smod 64).toNat = 16 := by decide
def sumV (g : Nat → Int) : Nat → Int
  | 0 => 0
  | n + 1 => sumV g n + g n * 65536 ^ n
theorem sumV_congr {g h : Nat → Int} {n : Nat} (e : ∀ k, k < n → g k = h k) : sumV g n = sumV h n := by
  induction n with
  | zero => rfl
  | succ n ih => show sumV g n + g n * _ = sumV h n + h n * _; rw [ih fun k hk => e k (by omega), e n (by omega)]
def v16 (F : Nat → Int64) (b : Nat) : Int := sumV (fun k => (F (b + k)).toInt) 16
theorem st_step {f c : Int64} (h1 : -2251799813685248 ≤ f.toInt ∧ f.toInt ≤ 2251799813685248) (h2 : -2251799813685248 ≤ c.toInt ∧ c.toInt ≤ 2251799813685248) : ((f + c) >>> ((nI 16).toInt64 &&& 63)).toInt = (f.toInt + c.toInt) / 65536 ∧ ((f + c) - (((f + c) >>> ((nI 16).toInt64 &&& 63)) <<< ((nI 16).toInt64 &&& 63))).toInt = (f.toInt + c.toInt) % 65536 := by
  have e : f + c = Int64.ofInt (f.toInt + c.toInt) := by rw [Int64.ofInt_add, Int64.ofInt_toInt, Int64.ofInt_toInt]
  generalize hz : f.toInt + c.toInt = z at *
  have hs : Int64.ofInt z >>> ((nI 16).toInt64 &&& 63) = Int64.ofInt (z / 65536) := oi_shr _ 16 s16_ (by omega) (by omega)
  rw [e, hs, shl16]
  refine ⟨oi_to (by omega) (by omega), ?_⟩
  rw [show (65536 : Int64) = Int64.ofInt 65536 from rfl, ← Int64.ofInt_mul, ← Int64.ofInt_sub, oi_to (by omega) (by omega)]
  omega
theorem sC_bd {F : Nat → Int64} {b : Nat} {B : Int} (hB : 0 ≤ B ∧ B ≤ 1125899906842624) (h : ∀ k, k < 16 → -B ≤ (F (b + k)).toInt ∧ (F (b + k)).toInt ≤ B) : ∀ k, k ≤ 16 → -(B / 32768 + 2) ≤ (sC F b k).toInt ∧ (sC F b k).toInt ≤ B / 32768 + 2 := by
  intro k
  induction k with
  | zero => intro _; show -(B / 32768 + 2) ≤ (0 : Int) ∧ (0 : Int) ≤ _; omega
  | succ k ih =>
    intro hk
    have i1 := ih (by omega); have i2 := h k (by omega)
    have e1 : (sC F b (k + 1)).toInt = ((F (b + k)).toInt + (sC F b k).toInt) / 65536 := (st_step (f := F (b + k)) (c := sC F b k) (by omega) (by omega)).1
    rw [e1]
    omega
theorem sC_val {F : Nat → Int64} {b : Nat} {B : Int} (hB : 0 ≤ B ∧ B ≤ 1125899906842624) (h : ∀ k, k < 16 → -B ≤ (F (b + k)).toInt ∧ (F (b + k)).toInt ≤ B) : ∀ k, k ≤ 16 → sumV (fun j => (sG F b j).toInt) k + (sC F b k).toInt * 65536 ^ k = sumV (fun j => (F (b + j)).toInt) k := by
  intro k
  induction k with
  | zero => intro _; show (0 : Int) + 0 * _ = 0; simp
  | succ k ih =>
    intro hk
    have i0 := ih (by omega)
    have i1 := sC_bd hB h k (by omega); have i2 := h k (by omega)
    have s := st_step (f := F (b + k)) (c := sC F b k) (by omega) (by omega)
    have e1 : (sC F b (k + 1)).toInt = ((F (b + k)).toInt + (sC F b k).toInt) / 65536 := s.1
    have e2 : (sG F b k).toInt = ((F (b + k)).toInt + (sC F b k).toInt) % 65536 := s.2
    show (sumV _ k + (sG F b k).toInt * 65536 ^ k) + (sC F b (k + 1)).toInt * 65536 ^ (k + 1) = sumV _ k + (F (b + k)).toInt * 65536 ^ k
    rw [e1, e2, show (65536 : Int) ^ (k + 1) = 65536 ^ k * 65536 from Int.pow_succ 65536 k, ← i0]
    have hz := Int.emod_add_mul_ediv ((F (b + k)).toInt + (sC F b k).toInt) 65536
    generalize ((F (b + k)).toInt + (sC F b k).toInt) % 65536 = r at *
    generalize ((F (b + k)).toInt + (sC F b k).toInt) / 65536 = q at *
    have : (F (b + k)).toInt = r + 65536 * q - (sC F b k).toInt := by omega
    rw [this]; grind
theorem sG_bd {F : Nat → Int64} {b : Nat} {B : Int} (hB : 0 ≤ B ∧ B ≤ 1125899906842624) (h : ∀ k, k < 16 → -B ≤ (F (b + k)).toInt ∧ (F (b + k)).toInt ≤ B) {k : Nat} (hk : k < 16) : 0 ≤ (sG F b k).toInt ∧ (sG F b k).toInt < 65536 := by
  have i1 := sC_bd hB h k (by omega); have i2 := h k hk
  have e2 : (sG F b k).toInt = ((F (b + k)).toInt + (sC F b k).toInt) % 65536 := (st_step (f := F (b + k)) (c := sC F b k) (by omega) (by omega)).2
  rw [e2]; omega
theorem sE_0 {F : Nat → Int64} {b : Nat} {B : Int} (hB : 0 ≤ B ∧ B ≤ 1125899906842624) (h : ∀ k, k < 16 → -B ≤ (F (b + k)).toInt ∧ (F (b + k)).toInt ≤ B) : (sE F b b).toInt = (sG F b 0).toInt + 38 * (sC F b 16).toInt := by
  have i1 := sC_bd hB h 16 (by omega); have i2 := sG_bd hB h (k := 0) (by omega)
  have : sE F b b = Int64.ofInt ((sG F b 0).toInt + 38 * (sC F b 16).toInt) := by
    unfold sE; rw [if_pos rfl, Int64.ofInt_add, Int64.ofInt_mul, Int64.ofInt_toInt, Int64.ofInt_toInt]; rfl
  rw [this, oi_to (by omega) (by omega)]
/-- a register's number, and limbs that a product can bear -/
def V16 (F : Nat → Int64) (d : Nat) (x : Int) : Prop := eqP (v16 F (16 * d)) x ∧ ∀ k, k < 16 → -131072 ≤ (F (16 * d + k)).toInt ∧ (F (16 * d + k)).toInt ≤ 131072
theorem settle_V {F : Nat → Int64} {b : Nat} {B : Int} (hB : 0 ≤ B ∧ B ≤ 1125899906842624) (h : ∀ k, k < 16 → -B ≤ (F (b + k)).toInt ∧ (F (b + k)).toInt ≤ B) : eqP (v16 (sE F b) b) (v16 F b) ∧ (∀ k, 1 ≤ k → k < 16 → 0 ≤ (sE F b (b + k)).toInt ∧ (sE F b (b + k)).toInt < 65536) ∧ -(38 * (B / 32768 + 2)) ≤ (sE F b b).toInt ∧ (sE F b b).toInt ≤ 65535 + 38 * (B / 32768 + 2) := by
  have hk : ∀ k, 1 ≤ k → k < 16 → sE F b (b + k) = sG F b k := fun k h1 h2 => by unfold sE; rw [if_neg (by omega), if_pos (by omega), show b + k - b = k by omega]
  have e0 := sE_0 hB h
  have b16 := sC_bd hB h 16 (by omega); have g0 := sG_bd hB h (k := 0) (by omega)
  refine ⟨⟨-2 * (sC F b 16).toInt, ?_⟩, fun k h1 h2 => by rw [hk k h1 h2]; exact sG_bd hB h h2, by rw [e0]; omega, by rw [e0]; omega⟩
  have v := sC_val hB h 16 (by omega)
  have key : v16 (sE F b) b = sumV (fun j => (sG F b j).toInt) 16 + 38 * (sC F b 16).toInt := by
    have s1 : ∀ n, sumV (fun j => (sE F b (b + j)).toInt) (n + 1) = (if n < 16 then sumV (fun j => (sE F b (b + j)).toInt) (n + 1) else 0) ∨ True := fun n => Or.inr trivial
    have gen : ∀ n, n < 16 → sumV (fun j => (sE F b (b + j)).toInt) (n + 1) = sumV (fun j => (sG F b j).toInt) (n + 1) + 38 * (sC F b 16).toInt := by
      intro n
      induction n with
      | zero => intro _; show 0 + (sE F b (b + 0)).toInt * 65536 ^ 0 = (0 + (sG F b 0).toInt * 65536 ^ 0) + _; rw [Nat.add_zero, e0]; simp
      | succ n ih =>
        intro hn
        show sumV _ (n + 1) + (sE F b (b + (n + 1))).toInt * 65536 ^ (n + 1) = (sumV _ (n + 1) + (sG F b (n + 1)).toInt * 65536 ^ (n + 1)) + _
        rw [ih (by omega), hk (n + 1) (by omega) hn]; grind
    exact gen 15 (by decide)
  rw [key]
  have hv : v16 F b = sumV (fun j => (sG F b j).toInt) 16 + (sC F b 16).toInt * 65536 ^ 16 := v.symm
  rw [hv, show (65536 : Int) ^ 16 = 2 * pP + 38 by decide]
  grind
theorem settle_V1 {F : Nat → Int64} {d : Nat} {x : Int} {B : Int} (hB : 0 ≤ B ∧ B ≤ 40000000) (h : ∀ k, k < 16 → -B ≤ (F (16 * d + k)).toInt ∧ (F (16 * d + k)).toInt ≤ B) (hx : eqP (v16 F (16 * d)) x) : V16 (sE F (16 * d)) d x := by
  obtain ⟨e, a, b1, b2⟩ := settle_V (b := 16 * d) (B := B) (by omega) h
  refine ⟨e.tr hx, fun k hk => ?_⟩
  by_cases h0 : k = 0
  · subst h0; rw [Nat.add_zero]; omega
  · have := a k (by omega) hk; omega
theorem sC_bd2 {F : Nat → Int64} {b : Nat} (h0 : -1099511627776 ≤ (F b).toInt ∧ (F b).toInt ≤ 1099511627776) (h : ∀ k, 1 ≤ k → k < 16 → 0 ≤ (F (b + k)).toInt ∧ (F (b + k)).toInt < 65536) : ∀ k, k ≤ 16 → (-20000000 ≤ (sC F b k).toInt ∧ (sC F b k).toInt ≤ 20000000) ∧ (2 ≤ k → -1000 ≤ (sC F b k).toInt ∧ (sC F b k).toInt ≤ 1000) ∧ (3 ≤ k → -1 ≤ (sC F b k).toInt ∧ (sC F b k).toInt ≤ 1) := by
  have hall : ∀ k, k < 16 → -1099511627776 ≤ (F (b + k)).toInt ∧ (F (b + k)).toInt ≤ 1099511627776 := fun k hk => by
    by_cases e : k = 0
    · subst e; exact h0
    · have := h k (by omega) hk; omega
  intro k
  induction k with
  | zero => intro _; refine ⟨?_, fun c => by omega, fun c => by omega⟩; show -20000000 ≤ (0 : Int) ∧ (0 : Int) ≤ 20000000; decide
  | succ k ih =>
    intro hk
    have i := ih (by omega); have i2 := hall k (by omega)
    have e1 : (sC F b (k + 1)).toInt = ((F (b + k)).toInt + (sC F b k).toInt) / 65536 := (st_step (f := F (b + k)) (c := sC F b k) (by omega) (by omega)).1
    rw [e1]
    refine ⟨by omega, fun c => ?_, fun c => ?_⟩
    · have := h k (by omega) (by omega); omega
    · have := h k (by omega) (by omega); have := i.2.1 (by omega); omega
theorem settle_V2 {F : Nat → Int64} {d : Nat} {x : Int} (h0 : -1099511627776 ≤ (F (16 * d)).toInt ∧ (F (16 * d)).toInt ≤ 1099511627776) (h : ∀ k, 1 ≤ k → k < 16 → 0 ≤ (F (16 * d + k)).toInt ∧ (F (16 * d + k)).toInt < 65536) (hx : eqP (v16 F (16 * d)) x) : V16 (sE F (16 * d)) d x := by
  have hall : ∀ k, k < 16 → -1099511627776 ≤ (F (16 * d + k)).toInt ∧ (F (16 * d + k)).toInt ≤ 1099511627776 := fun k hk => by
    by_cases e : k = 0
    · subst e; exact h0
    · have := h k (by omega) hk; omega
  obtain ⟨e, a, -⟩ := settle_V (b := 16 * d) (B := 1099511627776) (by decide) hall
  refine ⟨e.tr hx, fun k hk => ?_⟩
  by_cases hk0 : k = 0
  · subst hk0
    rw [Nat.add_zero, sE_0 (B := 1099511627776) (by decide) hall]
    have := sG_bd (B := 1099511627776) (by decide) hall (k := 0) (by decide)
    have := (sC_bd2 h0 h 16 (by decide)).2.2 (by decide)
    omega
  · have := a k (by omega) hk; omega
theorem sumV_upd {g : Nat → Int} {m n : Nat} {z : Int} (h : m < n) : sumV (fun j => if j = m then g j + z else g j) n = sumV g n + z * 65536 ^ m := by
  induction n with
  | zero => omega
  | succ n ih =>
    show sumV _ n + (if n = m then g n + z else g n) * 65536 ^ n = (sumV g n + g n * 65536 ^ n) + _
    by_cases e : n = m
    · subst e
      rw [if_pos rfl, sumV_congr (h := g) (fun k hk => by rw [if_neg (by omega)])]; grind
    · rw [if_neg e, ih (by omega)]; grind
theorem sumV_app (g : Nat → Int) (n m : Nat) : sumV g (n + m) = sumV g n + 65536 ^ n * sumV (fun k => g (n + k)) m := by
  induction m with
  | zero => show sumV g n = sumV g n + _ * 0; simp
  | succ m ih =>
    show sumV g (n + m) + g (n + m) * 65536 ^ (n + m) = sumV g n + 65536 ^ n * (sumV _ m + g (n + m) * 65536 ^ m)
    rw [ih, Int.pow_add]; grind
theorem sumV_lin (g h : Nat → Int) (c : Int) (n : Nat) : sumV (fun k => g k + c * h k) n = sumV g n + c * sumV h n := by
  induction n with
  | zero => show (0 : Int) = 0 + c * 0; simp
  | succ n ih => show sumV _ n + (g n + c * h n) * _ = (sumV g n + g n * _) + c * (sumV h n + h n * _); rw [ih]; grind
/-- the products so far: rows of a below i, and of row i the columns below k -/
def pI (F : Nat → Int64) (a b i k : Nat) (P : Nat → Int64) : Prop :=
  sumV (fun j => (P j).toInt) 31 = sumV (fun j => (F (16 * a + j)).toInt) i * sumV (fun j => (F (16 * b + j)).toInt) 16 + (F (16 * a + i)).toInt * 65536 ^ i * sumV (fun j => (F (16 * b + j)).toInt) k ∧ ∀ j, j < 31 → -((16 * i + k : Nat) * 17179869184) ≤ (P j).toInt ∧ (P j).toInt ≤ (16 * i + k : Nat) * 17179869184
theorem mulb {x y : Int} (h1 : -131072 ≤ x ∧ x ≤ 131072) (h2 : -131072 ≤ y ∧ y ≤ 131072) : -17179869184 ≤ x * y ∧ x * y ≤ 17179869184 := by
  have e : (x * y).natAbs ≤ 131072 * 131072 := by rw [Int.natAbs_mul]; exact Nat.mul_le_mul (by omega) (by omega)
  omega
theorem pI_step {F : Nat → Int64} {a b i k : Nat} {P : Nat → Int64} (hi : i < 16) (hk : k < 16) (hA : ∀ k, k < 16 → -131072 ≤ (F (16 * a + k)).toInt ∧ (F (16 * a + k)).toInt ≤ 131072) (hB : ∀ k, k < 16 → -131072 ≤ (F (16 * b + k)).toInt ∧ (F (16 * b + k)).toInt ≤ 131072) (h : pI F a b i k P) : pI F a b i (k + 1) (vp_updL P (i + k) (P (i + k) + F (16 * a + i) * F (16 * b + k))) := by
  have hz := mulb (hA i hi) (hB k hk)
  have e : (P (i + k) + F (16 * a + i) * F (16 * b + k)).toInt = (P (i + k)).toInt + (F (16 * a + i)).toInt * (F (16 * b + k)).toInt := by
    have hp := h.2 (i + k) (by omega)
    have : P (i + k) + F (16 * a + i) * F (16 * b + k) = Int64.ofInt ((P (i + k)).toInt + (F (16 * a + i)).toInt * (F (16 * b + k)).toInt) := by rw [Int64.ofInt_add, Int64.ofInt_mul, Int64.ofInt_toInt, Int64.ofInt_toInt, Int64.ofInt_toInt]
    rw [this, oi_to (by omega) (by omega)]
  have up : ∀ j, (vp_updL P (i + k) (P (i + k) + F (16 * a + i) * F (16 * b + k)) j).toInt = if j = i + k then (P j).toInt + (F (16 * a + i)).toInt * (F (16 * b + k)).toInt else (P j).toInt := fun j => by
    unfold vp_updL
    by_cases c : j = i + k
    · subst c; rw [if_pos rfl, if_pos rfl, e]
    · rw [if_neg c, if_neg c]
  refine ⟨?_, fun j hj => ?_⟩
  · rw [sumV_congr (h := fun j => if j = i + k then (P j).toInt + (F (16 * a + i)).toInt * (F (16 * b + k)).toInt else (P j).toInt) (fun j _ => up j), sumV_upd (g := fun j => (P j).toInt) (by omega), h.1]
    show _ = _ + _ * (sumV (fun j => (F (16 * b + j)).toInt) k + (F (16 * b + k)).toInt * 65536 ^ k)
    rw [Int.pow_add]; grind
  · rw [up j]
    have hp := h.2 j hj
    have hs : (((16 * i + (k + 1) : Nat)) : Int) * 17179869184 = ((16 * i + k : Nat) : Int) * 17179869184 + 17179869184 := by omega
    rw [hs]
    split <;> omega
theorem pI_row {F : Nat → Int64} {a b i : Nat} {P : Nat → Int64} (h : pI F a b i 16 P) : pI F a b (i + 1) 0 P := by
  refine ⟨?_, fun j hj => ?_⟩
  · rw [h.1]
    show _ = (sumV _ i + (F (16 * a + i)).toInt * 65536 ^ i) * _ + _ * 0
    grind
  · have := h.2 j hj
    rw [show 16 * (i + 1) + 0 = 16 * i + 16 by omega]; exact this
def foldP (P : Nat → Int64) : Nat → Int64 := fun k => P k + 38 * P (k + 16)
theorem fold_V {P : Nat → Int64} (h : ∀ j, j < 31 → -4398046511104 ≤ (P j).toInt ∧ (P j).toInt ≤ 4398046511104) {Q : Nat → Int64} (hQ : ∀ j, j < 15 → Q j = foldP P j) (h15 : Q 15 = P 15) : eqP (sumV (fun j => (Q j).toInt) 16) (sumV (fun j => (P j).toInt) 31) ∧ ∀ j, j < 16 → -171523813933056 ≤ (Q j).toInt ∧ (Q j).toInt ≤ 171523813933056 := by
  have e : ∀ j, j < 15 → (Q j).toInt = (P j).toInt + 38 * (P (j + 16)).toInt := fun j hj => by
    have a := h j (by omega); have b := h (j + 16) (by omega)
    have : Q j = Int64.ofInt ((P j).toInt + 38 * (P (j + 16)).toInt) := by rw [hQ j hj]; unfold foldP; rw [Int64.ofInt_add, Int64.ofInt_mul, Int64.ofInt_toInt, Int64.ofInt_toInt]; rfl
    rw [this, oi_to (by omega) (by omega)]
  refine ⟨⟨-2 * sumV (fun k => (P (16 + k)).toInt) 15, ?_⟩, fun j hj => ?_⟩
  · have s1 := sumV_app (fun j => (P j).toInt) 16 15
    have s2 : sumV (fun j => (Q j).toInt) 16 = sumV (fun k => (P k).toInt + 38 * (P (16 + k)).toInt) 15 + (P 15).toInt * 65536 ^ 15 := by
      show sumV _ 15 + (Q 15).toInt * _ = _
      rw [h15, sumV_congr (h := fun k => (P k).toInt + 38 * (P (16 + k)).toInt) (fun k hk => by rw [e k hk, Nat.add_comm 16 k])]
    have s3 : sumV (fun j => (P j).toInt) 16 = sumV (fun j => (P j).toInt) 15 + (P 15).toInt * 65536 ^ 15 := rfl
    rw [s2, sumV_lin (fun k => (P k).toInt) (fun k => (P (16 + k)).toInt) 38 15, show (31 : Nat) = 16 + 15 from rfl, s1, s3, show (65536 : Int) ^ 16 = 2 * pP + 38 by decide]
    grind
  · by_cases c : j = 15
    · subst c; rw [h15]; have := h 15 (by decide); omega
    · rw [e j (by omega)]; have a := h j (by omega); have b := h (j + 16) (by omega); omega
theorem xl_mul_1 (G : GX) {M : List va_E} {v : Nat → Int32} {d a b : Nat} {F : Nat → Int64} (ho : M[373]? = some (moO v)) (hf : M[390]? = some (lr 1024 F)) (hd : d ≤ 63) (ha : a ≤ 63) (hb : b ≤ 63) {P0 : Nat → Int64} (hp : M[391]? = some (lr 31 P0)) {Q : Option Value → List va_E → Prop} (kk : TT G mi_Mo_mul 24 [(0, .ref 373), (1, .int (nI d)), (2, .int (nI a)), (3, .int (nI b))] [] (M.set 391 (lr 31 (lp 31 (fun _ => 0) P0))) 0 0 Q) : ∀ j k, k + j = 31 → TT G mi_Mo_mul 3 [(4, .int (nI k)), (0, .ref 373), (1, .int (nI d)), (2, .int (nI a)), (3, .int (nI b))] [] (M.set 391 (lr 31 (lp k (fun _ => 0) P0))) 0 0 Q := by
  have hl := X_len hp
  intro j
  induction j with
  | zero =>
    intro k hk
    have : k = 31 := by omega
    subst this
    refine T_iload d_Mo_mul_3 rfl ?_
    refine T_bipush (v := nI 31) d_Mo_mul_5 (by decide) ?_
    refine T_icmp_ge d_Mo_mul_7 (tgt := 24) rfl (fun _ => ?_) (fun c => absurd (by decide) c)
    exact T_sub (fun q hq => List.mem_cons_of_mem _ hq) kk
  | succ j ih =>
    intro k hk
    refine T_iload d_Mo_mul_3 rfl ?_
    refine T_bipush (v := nI 31) d_Mo_mul_5 (by decide) ?_
    refine T_icmp_ge d_Mo_mul_7 (tgt := 24) rfl (fun c => absurd ((nI_leI (by decide) (by omega)).mp c) (by omega)) (fun _ => ?_)
    refine T_aload_n (v := .ref 373) d_Mo_mul_10 rfl (Or.inr ⟨_, rfl⟩) ?_
    refine T_getfield d_Mo_mul_11 fg_Mo_133 (X_ne ho (by decide)) rfl ?_
    refine T_iload d_Mo_mul_14 rfl ?_
    refine T_lconst (v := 0) d_Mo_mul_16 (by decide) ?_
    refine X_last (n := 31) (k := k) d_Mo_mul_17 (by decide) (by omega) (by decide) hl ?_
    rw [lp_up k (fun _ => 0) P0]
    refine T_iinc (x := nI k) (L' := [(4, .int (nI (k + 1))), (0, .ref 373), (1, .int (nI d)), (2, .int (nI a)), (3, .int (nI b))]) d_Mo_mul_18 (by decide) rfl (by rw [show Int32.ofInt 1 = nI 1 from rfl, nI_add]; rfl) ?_
    refine T_goto (tgt := 3) d_Mo_mul_21 rfl ?_
    exact ih (k + 1) (by omega)
theorem xl_mul_2 (G : GX) {M : List va_E} {v : Nat → Int32} {d a b : Nat} {F : Nat → Int64} (ho : M[373]? = some (moO v)) (hf : M[390]? = some (lr 1024 F)) (hd : d ≤ 63) (ha : a ≤ 63) (hb : b ≤ 63) {P0 : Nat → Int64} (hp : M[391]? = some (lr 31 P0)) (hA : ∀ k, k < 16 → -131072 ≤ (F (16 * a + k)).toInt ∧ (F (16 * a + k)).toInt ≤ 131072) (hB : ∀ k, k < 16 → -131072 ≤ (F (16 * b + k)).toInt ∧ (F (16 * b + k)).toInt ≤ 131072) {i : Nat} (hi : i < 16) {Q : Option Value → List va_E → Prop} (kk : ∀ P, pI F a b i 16 P → TT G mi_Mo_mul 88 [(4, .int (nI i)), (0, .ref 373), (1, .int (nI d)), (2, .int (nI a)), (3, .int (nI b))] [] (M.set 391 (lr 31 P)) 0 0 Q) : ∀ j k P, k + j = 16 → pI F a b i k P → TT G mi_Mo_mul 37 [(5, .int (nI k)), (4, .int (nI i)), (0, .ref 373), (1, .int (nI d)), (2, .int (nI a)), (3, .int (nI b))] [] (M.set 391 (lr 31 P)) 0 0 Q := by
  have hl := X_len hp
  intro j
  induction j with
  | zero =>
    intro k P hk h
    have : k = 16 := by omega
    subst this
    refine T_iload d_Mo_mul_37 rfl ?_
    refine T_bipush (v := nI 16) d_Mo_mul_39 (by decide) ?_
    refine T_icmp_ge d_Mo_mul_41 (tgt := 88) rfl (fun _ => ?_) (fun c => absurd (by decide) c)
    exact T_sub (fun q hq => List.mem_cons_of_mem _ hq) (kk P h)
  | succ j ih =>
    intro k P hk h
    refine T_iload d_Mo_mul_37 rfl ?_
    refine T_bipush (v := nI 16) d_Mo_mul_39 (by decide) ?_
    refine T_icmp_ge d_Mo_mul_41 (tgt := 88) rfl (fun c => absurd ((nI_leI (by decide) (by omega)).mp c) (by omega)) (fun _ => ?_)
    refine T_aload_n (v := .ref 373) d_Mo_mul_44 rfl (Or.inr ⟨_, rfl⟩) ?_
    refine T_getfield d_Mo_mul_45 fg_Mo_133 (X_ne ho (by decide)) rfl ?_
    refine T_iload d_Mo_mul_48 rfl ?_
    refine T_iload d_Mo_mul_50 rfl ?_
    refine T_iadd d_Mo_mul_52 ?_
    rw [nI_add]
    refine T_dup2 d_Mo_mul_53 rfl rfl ?_
    refine T_laload d_Mo_mul_54 (List.getElem?_set_self hl) (vp_in_nI (by omega) (by decide)) ?_
    rw [nI_clamp (by omega)]
    refine T_aload_n (v := .ref 373) d_Mo_mul_55 rfl (Or.inr ⟨_, rfl⟩) ?_
    refine T_getfield d_Mo_mul_56 fg_Mo_124 (X_ne ho (by decide)) rfl ?_
    refine T_bipush (v := nI 16) d_Mo_mul_59 (by decide) ?_
    refine T_iload_n d_Mo_mul_61 rfl ?_
    refine T_imul d_Mo_mul_62 ?_
    rw [pk_mul]
    refine T_iload d_Mo_mul_63 rfl ?_
    refine T_iadd d_Mo_mul_65 ?_
    rw [nI_add]
    refine T_laload d_Mo_mul_66 (X_ne hf (by decide)) (vp_in_nI (by omega) (by decide)) ?_
    rw [nI_clamp (by omega)]
    refine T_aload_n (v := .ref 373) d_Mo_mul_67 rfl (Or.inr ⟨_, rfl⟩) ?_
    refine T_getfield d_Mo_mul_68 fg_Mo_124 (X_ne ho (by decide)) rfl ?_
    refine T_bipush (v := nI 16) d_Mo_mul_71 (by decide) ?_
    refine T_iload_n d_Mo_mul_73 rfl ?_
    refine T_imul d_Mo_mul_74 ?_
    rw [pk_mul]
    refine T_iload d_Mo_mul_75 rfl ?_
    refine T_iadd d_Mo_mul_77 ?_
    rw [nI_add]
    refine T_laload d_Mo_mul_78 (X_ne hf (by decide)) (vp_in_nI (by omega) (by decide)) ?_
    rw [nI_clamp (by omega)]
    refine T_lmul d_Mo_mul_79 ?_
    refine T_ladd d_Mo_mul_80 ?_
    refine X_last (n := 31) (k := i + k) d_Mo_mul_81 (by decide) (by omega) (by decide) hl ?_
    refine T_iinc (x := nI k) (L' := [(5, .int (nI (k + 1))), (4, .int (nI i)), (0, .ref 373), (1, .int (nI d)), (2, .int (nI a)), (3, .int (nI b))]) d_Mo_mul_82 (by decide) rfl (by rw [show Int32.ofInt 1 = nI 1 from rfl, nI_add]; rfl) ?_
    refine T_goto (tgt := 37) d_Mo_mul_85 rfl ?_
    exact ih (k + 1) _ (by omega) (pI_step hi (by omega) hA hB h)
theorem xl_mul_3 (G : GX) {M : List va_E} {v : Nat → Int32} {d a b : Nat} {F : Nat → Int64} (ho : M[373]? = some (moO v)) (hf : M[390]? = some (lr 1024 F)) (hd : d ≤ 63) (ha : a ≤ 63) (hb : b ≤ 63) {P0 : Nat → Int64} (hp : M[391]? = some (lr 31 P0)) (hA : ∀ k, k < 16 → -131072 ≤ (F (16 * a + k)).toInt ∧ (F (16 * a + k)).toInt ≤ 131072) (hB : ∀ k, k < 16 → -131072 ≤ (F (16 * b + k)).toInt ∧ (F (16 * b + k)).toInt ≤ 131072) {Q : Option Value → List va_E → Prop} (kk : ∀ P, pI F a b 16 0 P → TT G mi_Mo_mul 94 [(0, .ref 373), (1, .int (nI d)), (2, .int (nI a)), (3, .int (nI b))] [] (M.set 391 (lr 31 P)) 0 0 Q) : ∀ j k P, k + j = 16 → pI F a b k 0 P → TT G mi_Mo_mul 27 [(4, .int (nI k)), (0, .ref 373), (1, .int (nI d)), (2, .int (nI a)), (3, .int (nI b))] [] (M.set 391 (lr 31 P)) 0 0 Q := by
  intro j
  induction j with
  | zero =>
    intro k P hk h
    have : k = 16 := by omega
    subst this
    refine T_iload d_Mo_mul_27 rfl ?_
    refine T_bipush (v := nI 16) d_Mo_mul_29 (by decide) ?_
    refine T_icmp_ge d_Mo_mul_31 (tgt := 94) rfl (fun _ => ?_) (fun c => absurd (by decide) c)
    exact T_sub (fun q hq => List.mem_cons_of_mem _ hq) (kk P h)
  | succ j ih =>
    intro k P hk h
    refine T_iload d_Mo_mul_27 rfl ?_
    refine T_bipush (v := nI 16) d_Mo_mul_29 (by decide) ?_
    refine T_icmp_ge d_Mo_mul_31 (tgt := 94) rfl (fun c => absurd ((nI_leI (by decide) (by omega)).mp c) (by omega)) (fun _ => ?_)
    refine T_iconst (v := nI 0) d_Mo_mul_34 (by decide) ?_
    refine T_istore (L' := [(5, .int (nI 0)), (4, .int (nI k)), (0, .ref 373), (1, .int (nI d)), (2, .int (nI a)), (3, .int (nI b))]) d_Mo_mul_35 (by decide) rfl ?_
    refine xl_mul_2 G ho hf hd ha hb hp hA hB (by omega) (fun P1 h1 => ?_) 16 0 P rfl h
    refine T_iinc (x := nI k) (L' := [(4, .int (nI (k + 1))), (0, .ref 373), (1, .int (nI d)), (2, .int (nI a)), (3, .int (nI b))]) d_Mo_mul_88 (by decide) rfl (by rw [show Int32.ofInt 1 = nI 1 from rfl, nI_add]; rfl) ?_
    refine T_goto (tgt := 27) d_Mo_mul_91 rfl ?_
    exact ih (k + 1) P1 (by omega) (pI_row h1)
theorem xl_mul_4 (G : GX) {M : List va_E} {v : Nat → Int32} {d a b : Nat} {F : Nat → Int64} (ho : M[373]? = some (moO v)) (hf : M[390]? = some (lr 1024 F)) (hd : d ≤ 63) (ha : a ≤ 63) (hb : b ≤ 63) {P0 P : Nat → Int64} (hp : M[391]? = some (lr 31 P0)) {Q : Option Value → List va_E → Prop} (kk : TT G mi_Mo_mul 134 [(0, .ref 373), (1, .int (nI d)), (2, .int (nI a)), (3, .int (nI b))] [] (M.set 391 (lr 31 (lp 15 (foldP P) P))) 0 0 Q) : ∀ j k, k + j = 15 → TT G mi_Mo_mul 97 [(4, .int (nI k)), (0, .ref 373), (1, .int (nI d)), (2, .int (nI a)), (3, .int (nI b))] [] (M.set 391 (lr 31 (lp k (foldP P) P))) 0 0 Q := by
  have hl := X_len hp
  intro j
  induction j with
  | zero =>
    intro k hk
    have : k = 15 := by omega
    subst this
    refine T_iload d_Mo_mul_97 rfl ?_
    refine T_bipush (v := nI 15) d_Mo_mul_99 (by decide) ?_
    refine T_icmp_ge d_Mo_mul_101 (tgt := 134) rfl (fun _ => ?_) (fun c => absurd (by decide) c)
    exact T_sub (fun q hq => List.mem_cons_of_mem _ hq) kk
  | succ j ih =>
    intro k hk
    refine T_iload d_Mo_mul_97 rfl ?_
    refine T_bipush (v := nI 15) d_Mo_mul_99 (by decide) ?_
    refine T_icmp_ge d_Mo_mul_101 (tgt := 134) rfl (fun c => absurd ((nI_leI (by decide) (by omega)).mp c) (by omega)) (fun _ => ?_)
    refine T_aload_n (v := .ref 373) d_Mo_mul_104 rfl (Or.inr ⟨_, rfl⟩) ?_
    refine T_getfield d_Mo_mul_105 fg_Mo_133 (X_ne ho (by decide)) rfl ?_
    refine T_iload d_Mo_mul_108 rfl ?_
    refine T_dup2 d_Mo_mul_110 rfl rfl ?_
    refine T_laload d_Mo_mul_111 (List.getElem?_set_self hl) (vp_in_nI (by omega) (by decide)) ?_
    rw [nI_clamp (by omega), lp_at]
    refine T_ldc2 d_Mo_mul_112 kJ_Mo_128 ?_
    refine T_aload_n (v := .ref 373) d_Mo_mul_115 rfl (Or.inr ⟨_, rfl⟩) ?_
    refine T_getfield d_Mo_mul_116 fg_Mo_133 (X_ne ho (by decide)) rfl ?_
    refine T_iload d_Mo_mul_119 rfl ?_
    refine T_bipush (v := nI 16) d_Mo_mul_121 (by decide) ?_
    refine T_iadd d_Mo_mul_123 ?_
    rw [nI_add]
    refine T_laload d_Mo_mul_124 (List.getElem?_set_self hl) (vp_in_nI (by omega) (by decide)) ?_
    rw [nI_clamp (by omega), show lp k (foldP P) P (k + 16) = P (k + 16) by unfold lp; exact if_neg (by omega)]
    refine T_lmul d_Mo_mul_125 ?_
    refine T_ladd d_Mo_mul_126 ?_
    refine X_last (n := 31) (k := k) d_Mo_mul_127 (by decide) (by omega) (by decide) hl ?_
    rw [show vp_updL (lp k (foldP P) P) k (P k + 38 * P (k + 16)) = lp (k + 1) (foldP P) P from lp_up k (foldP P) P]
    refine T_iinc (x := nI k) (L' := [(4, .int (nI (k + 1))), (0, .ref 373), (1, .int (nI d)), (2, .int (nI a)), (3, .int (nI b))]) d_Mo_mul_128 (by decide) rfl (by rw [show Int32.ofInt 1 = nI 1 from rfl, nI_add]; rfl) ?_
    refine T_goto (tgt := 97) d_Mo_mul_131 rfl ?_
    exact ih (k + 1) (by omega)
def cpF (F : Nat → Int64) (b k : Nat) (P : Nat → Int64) : Nat → Int64 := fun j => if b ≤ j ∧ j < b + k then P (j - b) else F j
theorem cpF_0 (F : Nat → Int64) (b : Nat) (P : Nat → Int64) : cpF F b 0 P = F := by funext j; unfold cpF; rw [if_neg (by omega)]
theorem cpF_up (F : Nat → Int64) (b k : Nat) (P : Nat → Int64) : vp_updL (cpF F b k P) (b + k) (P k) = cpF F b (k + 1) P := by
  funext j
  unfold vp_updL cpF
  by_cases h : j = b + k
  · subst h; rw [if_pos rfl, if_pos (by omega), show b + k - b = k by omega]
  · rw [if_neg h]
    by_cases h2 : b ≤ j ∧ j < b + k
    · rw [if_pos h2, if_pos (by omega)]
    · rw [if_neg h2, if_neg (by omega)]
theorem xl_mul_5 (G : GX) {M : List va_E} {v : Nat → Int32} {d a b : Nat} {F : Nat → Int64} (ho : M[373]? = some (moO v)) (hf : M[390]? = some (lr 1024 F)) (hd : d ≤ 63) (ha : a ≤ 63) (hb : b ≤ 63) {P : Nat → Int64} (hp : M[391]? = some (lr 31 P)) {Q : Option Value → List va_E → Prop} (kk : TT G mi_Mo_mul 169 [(0, .ref 373), (1, .int (nI d)), (2, .int (nI a)), (3, .int (nI b))] [] (M.set 390 (lr 1024 (cpF F (16 * d) 16 P))) 0 0 Q) : ∀ j k, k + j = 16 → TT G mi_Mo_mul 137 [(4, .int (nI k)), (0, .ref 373), (1, .int (nI d)), (2, .int (nI a)), (3, .int (nI b))] [] (M.set 390 (lr 1024 (cpF F (16 * d) k P))) 0 0 Q := by
  have hl := X_len hf
  intro j
  induction j with
  | zero =>
    intro k hk
    have : k = 16 := by omega
    subst this
    refine T_iload d_Mo_mul_137 rfl ?_
    refine T_bipush (v := nI 16) d_Mo_mul_139 (by decide) ?_
    refine T_icmp_ge d_Mo_mul_141 (tgt := 169) rfl (fun _ => ?_) (fun c => absurd (by decide) c)
    exact T_sub (fun q hq => List.mem_cons_of_mem _ hq) kk
  | succ j ih =>
    intro k hk
    refine T_iload d_Mo_mul_137 rfl ?_
    refine T_bipush (v := nI 16) d_Mo_mul_139 (by decide) ?_
    refine T_icmp_ge d_Mo_mul_141 (tgt := 169) rfl (fun c => absurd ((nI_leI (by decide) (by omega)).mp c) (by omega)) (fun _ => ?_)
    refine T_aload_n (v := .ref 373) d_Mo_mul_144 rfl (Or.inr ⟨_, rfl⟩) ?_
    refine T_getfield d_Mo_mul_145 fg_Mo_124 (X_ne ho (by decide)) rfl ?_
    refine T_bipush (v := nI 16) d_Mo_mul_148 (by decide) ?_
    refine T_iload_n d_Mo_mul_150 rfl ?_
    refine T_imul d_Mo_mul_151 ?_
    rw [pk_mul]
    refine T_iload d_Mo_mul_152 rfl ?_
    refine T_iadd d_Mo_mul_154 ?_
    rw [nI_add]
    refine T_aload_n (v := .ref 373) d_Mo_mul_155 rfl (Or.inr ⟨_, rfl⟩) ?_
    refine T_getfield d_Mo_mul_156 fg_Mo_133 (X_ne ho (by decide)) rfl ?_
    refine T_iload d_Mo_mul_159 rfl ?_
    refine T_laload d_Mo_mul_161 (X_ne hp (by decide)) (vp_in_nI (by omega) (by decide)) ?_
    rw [nI_clamp (by omega)]
    refine X_last (n := 1024) (k := 16 * d + k) d_Mo_mul_162 (by decide) (by omega) (by decide) hl ?_
    rw [cpF_up]
    refine T_iinc (x := nI k) (L' := [(4, .int (nI (k + 1))), (0, .ref 373), (1, .int (nI d)), (2, .int (nI a)), (3, .int (nI b))]) d_Mo_mul_163 (by decide) rfl (by rw [show Int32.ofInt 1 = nI 1 from rfl, nI_add]; rfl) ?_
    refine T_goto (tgt := 137) d_Mo_mul_166 rfl ?_
    exact ih (k + 1) (by omega)
theorem x_Mo_mul (G : GX) {M : List va_E} {v : Nat → Int32} {d a b : Nat} {F : Nat → Int64} (ho : M[373]? = some (moO v)) (hf : M[390]? = some (lr 1024 F)) (hd : d ≤ 63) (ha : a ≤ 63) (hb : b ≤ 63) {P0 : Nat → Int64} {x y : Int} (hp : M[391]? = some (lr 31 P0)) (hx : V16 F a x) (hy : V16 F b y) : CT G mi_Mo_mul [.ref 373, .int (nI d), .int (nI a), .int (nI b)] M (fun r M' => r = none ∧ ∃ F' P', M' = (M.set 391 (lr 31 P')).set 390 (lr 1024 F') ∧ V16 F' d (x * y) ∧ ∀ j, (j < 16 * d ∨ 16 * d + 16 ≤ j) → F' j = F j) := by
  refine CT.of (by decide) (Nat.le_of_ble_eq_true rfl) ?_
  show TT G mi_Mo_mul 0 [(0, .ref 373), (1, .int (nI d)), (2, .int (nI a)), (3, .int (nI b))] [] M 0 0 _
  refine T_iconst (v := nI 0) d_Mo_mul_0 (by decide) ?_
  refine T_istore (L' := [(4, .int (nI 0)), (0, .ref 373), (1, .int (nI d)), (2, .int (nI a)), (3, .int (nI b))]) d_Mo_mul_1 (by decide) rfl ?_
  refine T_eq (M' := M.set 391 (lr 31 (lp 0 (fun _ => 0) P0))) rfl rfl rfl (by rw [lp_0]; exact X_same hp) ?_
  refine xl_mul_1 G ho hf hd ha hb hp ?_ 31 0 rfl
  refine T_iconst (v := nI 0) d_Mo_mul_24 (by decide) ?_
  refine T_istore (L' := [(4, .int (nI 0)), (0, .ref 373), (1, .int (nI d)), (2, .int (nI a)), (3, .int (nI b))]) d_Mo_mul_25 (by decide) rfl ?_
  have z0 : ∀ j, j < 31 → (lp 31 (fun _ => (0 : Int64)) P0 j).toInt = 0 := fun j hj => by unfold lp; rw [if_pos hj]; rfl
  have h0 : pI F a b 0 0 (lp 31 (fun _ => 0) P0) := by
    refine ⟨?_, fun j hj => by rw [z0 j hj]; omega⟩
    rw [sumV_congr (h := fun _ => 0) z0]
    have : ∀ n, sumV (fun _ => 0) n = 0 := fun n => by induction n with | zero => rfl | succ n ih => show sumV _ n + 0 * _ = 0; rw [ih]; simp
    rw [this]; show (0 : Int) = 0 * _ + _ * 0; simp
  refine xl_mul_3 G ho hf hd ha hb hp hx.2 hy.2 (fun P hP => ?_) 16 0 _ rfl h0
  have hb31 : ∀ j, j < 31 → -4398046511104 ≤ (P j).toInt ∧ (P j).toInt ≤ 4398046511104 := fun j hj => by have := hP.2 j hj; omega
  have hval : eqP (sumV (fun j => (P j).toInt) 31) (x * y) := by
    rw [hP.1]
    have e0 : (F (16 * a + 16)).toInt * 65536 ^ 16 * sumV (fun j => (F (16 * b + j)).toInt) 0 = 0 := by show _ * (0 : Int) = 0; simp
    rw [e0, Int.add_zero]
    exact hx.1.ml hy.1
  clear hP h0 z0
  refine T_iconst (v := nI 0) d_Mo_mul_94 (by decide) ?_
  refine T_istore (L' := [(4, .int (nI 0)), (0, .ref 373), (1, .int (nI d)), (2, .int (nI a)), (3, .int (nI b))]) d_Mo_mul_95 (by decide) rfl ?_
  refine T_eq (M' := M.set 391 (lr 31 (lp 0 (foldP P) P))) rfl rfl rfl (by rw [lp_0]) ?_
  refine xl_mul_4 G ho hf hd ha hb hp ?_ 15 0 rfl
  obtain ⟨fv, fb⟩ := fold_V hb31 (Q := lp 15 (foldP P) P) (fun j hj => by unfold lp; exact if_pos hj) (by unfold lp; exact if_neg (by decide))
  generalize lp 15 (foldP P) P = P2 at *
  refine T_iconst (v := nI 0) d_Mo_mul_134 (by decide) ?_
  refine T_istore (L' := [(4, .int (nI 0)), (0, .ref 373), (1, .int (nI d)), (2, .int (nI a)), (3, .int (nI b))]) d_Mo_mul_135 (by decide) rfl ?_
  have hf2 : (M.set 391 (lr 31 P2))[390]? = some (lr 1024 F) := X_ne hf (by decide)
  have ho2 : (M.set 391 (lr 31 P2))[373]? = some (moO v) := X_ne ho (by decide)
  have hp2 : (M.set 391 (lr 31 P2))[391]? = some (lr 31 P2) := List.getElem?_set_self (X_len hp)
  refine T_eq (M' := (M.set 391 (lr 31 P2)).set 390 (lr 1024 (cpF F (16 * d) 0 P2))) rfl rfl rfl (by rw [cpF_0]; exact X_same hf2) ?_
  refine xl_mul_5 G ho2 hf2 hd ha hb hp2 ?_ 16 0 rfl
  have ca : ∀ k, k < 16 → cpF F (16 * d) 16 P2 (16 * d + k) = P2 k := fun k hk => by unfold cpF; rw [if_pos (by omega), show 16 * d + k - 16 * d = k by omega]
  have cb : ∀ j, (j < 16 * d ∨ 16 * d + 16 ≤ j) → cpF F (16 * d) 16 P2 j = F j := fun j hj => by unfold cpF; rw [if_neg (by omega)]
  have cv : eqP (v16 (cpF F (16 * d) 16 P2) (16 * d)) (x * y) := by
    unfold v16; rw [sumV_congr (h := fun j => (P2 j).toInt) (fun k hk => by rw [ca k hk])]; exact fv.tr hval
  have cbd : ∀ k, k < 16 → -171523813933056 ≤ (cpF F (16 * d) 16 P2 (16 * d + k)).toInt ∧ (cpF F (16 * d) 16 P2 (16 * d + k)).toInt ≤ 171523813933056 := fun k hk => by rw [ca k hk]; exact fb k hk
  generalize cpF F (16 * d) 16 P2 = F1 at *
  have l1 : 390 < (M.set 391 (lr 31 P2)).length := X_len hf2
  obtain ⟨e1, a1, b1, b2⟩ := settle_V (b := 16 * d) (B := 171523813933056) (by decide) cbd
  refine T_aload_n (v := .ref 373) d_Mo_mul_169 rfl (Or.inr ⟨_, rfl⟩) ?_
  refine T_iload_n d_Mo_mul_170 rfl ?_
  refine T_virtual (as := [.int (nI d)]) (rest := []) (b := 373) d_Mo_mul_171 rfl (jw_Mo_settle.jo (by decide)) lm_Mo_130 ji_Mo_settle js_Mo_settle (X_ne ho2 (by decide)) rfl rfl rfl (Nat.le_of_ble_eq_true rfl) (by decide) (by decide) (x_Mo_settle G (X_ne ho2 (by decide)) (List.getElem?_set_self l1) hd) (fun r M2 hq => ?_)
  rw [hq.1, hq.2, List.set_set]
  clear hq r M2
  refine T_eq (pc' := 174) (L' := [(0, .ref 373), (1, .int (nI d)), (2, .int (nI a)), (3, .int (nI b))]) (st' := []) (M' := (M.set 391 (lr 31 P2)).set 390 (lr 1024 (sE F1 (16 * d)))) rfl rfl rfl rfl ?_
  have V2 := settle_V2 (F := sE F1 (16 * d)) (d := d) (x := x * y) ⟨by omega, by omega⟩ a1 (e1.tr cv)
  refine T_aload_n (v := .ref 373) d_Mo_mul_174 rfl (Or.inr ⟨_, rfl⟩) ?_
  refine T_iload_n d_Mo_mul_175 rfl ?_
  refine T_virtual (as := [.int (nI d)]) (rest := []) (b := 373) d_Mo_mul_176 rfl (jw_Mo_settle.jo (by decide)) lm_Mo_130 ji_Mo_settle js_Mo_settle (X_ne ho2 (by decide)) rfl rfl rfl (Nat.le_of_ble_eq_true rfl) (by decide) (by decide) (x_Mo_settle G (X_ne ho2 (by decide)) (List.getElem?_set_self l1) hd) (fun r M2 hq => ?_)
  rw [hq.1, hq.2, List.set_set]
  clear hq r M2
  have so : ∀ (E : Nat → Int64) j, (j < 16 * d ∨ 16 * d + 16 ≤ j) → sE E (16 * d) j = E j := fun E j hj => by unfold sE; rw [if_neg (by omega), if_neg (by omega)]
  exact T_vret d_Mo_mul_179 rfl (by decide) (by decide) ⟨rfl, _, _, rfl, V2, fun j hj => by rw [so _ j hj, so _ j hj, cb j hj]⟩

theorem cpF_rd (F : Nat → Int64) (d a k : Nat) (N : Nat → Int64) (hk : k < 16) : cpF F (16 * d) k N (16 * a + k) = F (16 * a + k) := by unfold cpF; rw [if_neg (by omega)]
theorem sumV_sub (g h : Nat → Int) (n : Nat) : sumV (fun k => g k - h k) n = sumV g n - sumV h n := by
  have := sumV_lin g h (-1) n
  rw [sumV_congr (g := fun k => g k - h k) (h := fun k => g k + -1 * h k) (fun k _ => by omega), this]; omega
theorem sumV_add (g h : Nat → Int) (n : Nat) : sumV (fun k => g k + h k) n = sumV g n + sumV h n := by
  have := sumV_lin g h 1 n
  rw [sumV_congr (g := fun k => g k + h k) (h := fun k => g k + 1 * h k) (fun k _ => by omega), this]; omega
theorem xl_Mo_add (G : GX) {M : List va_E} {v : Nat → Int32} {d a b : Nat} {F : Nat → Int64} (ho : M[373]? = some (moO v)) (hf : M[390]? = some (lr 1024 F)) (hd : d ≤ 63) (ha : a ≤ 63) (hb : b ≤ 63) {Q : Option Value → List va_E → Prop} (kk : TT G mi_Mo_add 53 [(0, .ref 373), (1, .int (nI d)), (2, .int (nI a)), (3, .int (nI b))] [] (M.set 390 (lr 1024 (cpF F (16 * d) 16 (fun i => F (16 * a + i) + F (16 * b + i))))) 0 0 Q) : ∀ j k, k + j = 16 → TT G mi_Mo_add 3 [(4, .int (nI k)), (0, .ref 373), (1, .int (nI d)), (2, .int (nI a)), (3, .int (nI b))] [] (M.set 390 (lr 1024 (cpF F (16 * d) k (fun i => F (16 * a + i) + F (16 * b + i))))) 0 0 Q := by
  have hl := X_len hf
  intro j
  induction j with
  | zero =>
    intro k hk
    have : k = 16 := by omega
    subst this
    refine T_iload d_Mo_add_3 rfl ?_
    refine T_bipush (v := nI 16) d_Mo_add_5 (by decide) ?_
    refine T_icmp_ge d_Mo_add_7 (tgt := 53) rfl (fun _ => ?_) (fun c => absurd (by decide) c)
    exact T_sub (fun q hq => List.mem_cons_of_mem _ hq) kk
  | succ j ih =>
    intro k hk
    refine T_iload d_Mo_add_3 rfl ?_
    refine T_bipush (v := nI 16) d_Mo_add_5 (by decide) ?_
    refine T_icmp_ge d_Mo_add_7 (tgt := 53) rfl (fun c => absurd ((nI_leI (by decide) (by omega)).mp c) (by omega)) (fun _ => ?_)
    refine T_aload_n (v := .ref 373) d_Mo_add_10 rfl (Or.inr ⟨_, rfl⟩) ?_
    refine T_getfield d_Mo_add_11 fg_Mo_124 (X_ne ho (by decide)) rfl ?_
    refine T_bipush (v := nI 16) d_Mo_add_14 (by decide) ?_
    refine T_iload_n d_Mo_add_16 rfl ?_
    refine T_imul d_Mo_add_17 ?_
    rw [pk_mul]
    refine T_iload d_Mo_add_18 rfl ?_
    refine T_iadd d_Mo_add_20 ?_
    rw [nI_add]
    refine T_aload_n (v := .ref 373) d_Mo_add_21 rfl (Or.inr ⟨_, rfl⟩) ?_
    refine T_getfield d_Mo_add_22 fg_Mo_124 (X_ne ho (by decide)) rfl ?_
    refine T_bipush (v := nI 16) d_Mo_add_25 (by decide) ?_
    refine T_iload_n d_Mo_add_27 rfl ?_
    refine T_imul d_Mo_add_28 ?_
    rw [pk_mul]
    refine T_iload d_Mo_add_29 rfl ?_
    refine T_iadd d_Mo_add_31 ?_
    rw [nI_add]
    refine T_laload d_Mo_add_32 (List.getElem?_set_self hl) (vp_in_nI (by omega) (by decide)) ?_
    rw [nI_clamp (by omega), cpF_rd F d a k _ (by omega)]
    refine T_aload_n (v := .ref 373) d_Mo_add_33 rfl (Or.inr ⟨_, rfl⟩) ?_
    refine T_getfield d_Mo_add_34 fg_Mo_124 (X_ne ho (by decide)) rfl ?_
    refine T_bipush (v := nI 16) d_Mo_add_37 (by decide) ?_
    refine T_iload_n d_Mo_add_39 rfl ?_
    refine T_imul d_Mo_add_40 ?_
    rw [pk_mul]
    refine T_iload d_Mo_add_41 rfl ?_
    refine T_iadd d_Mo_add_43 ?_
    rw [nI_add]
    refine T_laload d_Mo_add_44 (List.getElem?_set_self hl) (vp_in_nI (by omega) (by decide)) ?_
    rw [nI_clamp (by omega), cpF_rd F d b k _ (by omega)]
    refine T_ladd d_Mo_add_45 ?_
    refine X_last (n := 1024) (k := 16 * d + k) d_Mo_add_46 (by decide) (by omega) (by decide) hl ?_
    rw [show vp_updL (cpF F (16 * d) k (fun i => F (16 * a + i) + F (16 * b + i))) (16 * d + k) (F (16 * a + k) + F (16 * b + k)) = cpF F (16 * d) (k + 1) (fun i => F (16 * a + i) + F (16 * b + i)) from cpF_up F (16 * d) k (fun i => F (16 * a + i) + F (16 * b + i))]
    refine T_iinc (x := nI k) (L' := [(4, .int (nI (k + 1))), (0, .ref 373), (1, .int (nI d)), (2, .int (nI a)), (3, .int (nI b))]) d_Mo_add_47 (by decide) rfl (by rw [show Int32.ofInt 1 = nI 1 from rfl, nI_add]; rfl) ?_
    refine T_goto (tgt := 3) d_Mo_add_50 rfl ?_
    exact ih (k + 1) (by omega)
theorem x_Mo_add (G : GX) {M : List va_E} {v : Nat → Int32} {d a b : Nat} {F : Nat → Int64} (ho : M[373]? = some (moO v)) (hf : M[390]? = some (lr 1024 F)) (hd : d ≤ 63) (ha : a ≤ 63) (hb : b ≤ 63) {x y : Int} (hx : V16 F a x) (hy : V16 F b y) : CT G mi_Mo_add [.ref 373, .int (nI d), .int (nI a), .int (nI b)] M (fun r M' => r = none ∧ ∃ F', M' = M.set 390 (lr 1024 F') ∧ V16 F' d (x + y) ∧ ∀ j, (j < 16 * d ∨ 16 * d + 16 ≤ j) → F' j = F j) := by
  refine CT.of (by decide) (Nat.le_of_ble_eq_true rfl) ?_
  show TT G mi_Mo_add 0 [(0, .ref 373), (1, .int (nI d)), (2, .int (nI a)), (3, .int (nI b))] [] M 0 0 _
  refine T_iconst (v := nI 0) d_Mo_add_0 (by decide) ?_
  refine T_istore (L' := [(4, .int (nI 0)), (0, .ref 373), (1, .int (nI d)), (2, .int (nI a)), (3, .int (nI b))]) d_Mo_add_1 (by decide) rfl ?_
  refine T_eq (M' := M.set 390 (lr 1024 (cpF F (16 * d) 0 (fun i => F (16 * a + i) + F (16 * b + i))))) rfl rfl rfl (by rw [cpF_0]; exact X_same hf) ?_
  refine xl_Mo_add G ho hf hd ha hb ?_ 16 0 rfl
  have hl := X_len hf
  have ca : ∀ k, k < 16 → cpF F (16 * d) 16 (fun i => F (16 * a + i) + F (16 * b + i)) (16 * d + k) = F (16 * a + k) + F (16 * b + k) := fun k hk => by unfold cpF; rw [if_pos (by omega), show 16 * d + k - 16 * d = k by omega]
  have cb : ∀ j, (j < 16 * d ∨ 16 * d + 16 ≤ j) → cpF F (16 * d) 16 (fun i => F (16 * a + i) + F (16 * b + i)) j = F j := fun j hj => by unfold cpF; rw [if_neg (by omega)]
  generalize cpF F (16 * d) 16 (fun i => F (16 * a + i) + F (16 * b + i)) = F1 at *
  have ci : ∀ k, k < 16 → (F1 (16 * d + k)).toInt = (F (16 * a + k)).toInt + (F (16 * b + k)).toInt := fun k hk => by
    have p := hx.2 k hk; have q := hy.2 k hk
    have : F1 (16 * d + k) = Int64.ofInt ((F (16 * a + k)).toInt + (F (16 * b + k)).toInt) := by rw [ca k hk, Int64.ofInt_add, Int64.ofInt_toInt, Int64.ofInt_toInt]
    rw [this, oi_to (by omega) (by omega)]
  have cv : eqP (v16 F1 (16 * d)) (x + y) := by
    unfold v16; rw [sumV_congr (h := fun k => (F (16 * a + k)).toInt + (F (16 * b + k)).toInt) ci, sumV_add]; exact hx.1.ad hy.1
  have V1 := settle_V1 (F := F1) (d := d) (B := 262144) (by decide) (fun k hk => by rw [ci k hk]; have p := hx.2 k hk; have q := hy.2 k hk; omega) cv
  refine T_aload_n (v := .ref 373) d_Mo_add_53 rfl (Or.inr ⟨_, rfl⟩) ?_
  refine T_iload_n d_Mo_add_54 rfl ?_
  refine T_virtual (as := [.int (nI d)]) (rest := []) (b := 373) d_Mo_add_55 rfl (jw_Mo_settle.jo (by decide)) lm_Mo_130 ji_Mo_settle js_Mo_settle (X_ne ho (by decide)) rfl rfl rfl (Nat.le_of_ble_eq_true rfl) (by decide) (by decide) (x_Mo_settle G (X_ne ho (by decide)) (List.getElem?_set_self hl) hd) (fun r M2 hq => ?_)
  rw [hq.1, hq.2, List.set_set]
  clear hq r M2
  have so : ∀ (E : Nat → Int64) j, (j < 16 * d ∨ 16 * d + 16 ≤ j) → sE E (16 * d) j = E j := fun E j hj => by unfold sE; rw [if_neg (by omega), if_neg (by omega)]
  exact T_vret d_Mo_add_58 rfl (by decide) (by decide) ⟨rfl, _, rfl, V1, fun j hj => by rw [so _ j hj, cb j hj]⟩
theorem xl_Mo_sub (G : GX) {M : List va_E} {v : Nat → Int32} {d a b : Nat} {F : Nat → Int64} (ho : M[373]? = some (moO v)) (hf : M[390]? = some (lr 1024 F)) (hd : d ≤ 63) (ha : a ≤ 63) (hb : b ≤ 63) {Q : Option Value → List va_E → Prop} (kk : TT G mi_Mo_sub 53 [(0, .ref 373), (1, .int (nI d)), (2, .int (nI a)), (3, .int (nI b))] [] (M.set 390 (lr 1024 (cpF F (16 * d) 16 (fun i => F (16 * a + i) - F (16 * b + i))))) 0 0 Q) : ∀ j k, k + j = 16 → TT G mi_Mo_sub 3 [(4, .int (nI k)), (0, .ref 373), (1, .int (nI d)), (2, .int (nI a)), (3, .int (nI b))] [] (M.set 390 (lr 1024 (cpF F (16 * d) k (fun i => F (16 * a + i) - F (16 * b + i))))) 0 0 Q := by
  have hl := X_len hf
  intro j
  induction j with
  | zero =>
    intro k hk
    have : k = 16 := by omega
    subst this
    refine T_iload d_Mo_sub_3 rfl ?_
    refine T_bipush (v := nI 16) d_Mo_sub_5 (by decide) ?_
    refine T_icmp_ge d_Mo_sub_7 (tgt := 53) rfl (fun _ => ?_) (fun c => absurd (by decide) c)
    exact T_sub (fun q hq => List.mem_cons_of_mem _ hq) kk
  | succ j ih =>
    intro k hk
    refine T_iload d_Mo_sub_3 rfl ?_
    refine T_bipush (v := nI 16) d_Mo_sub_5 (by decide) ?_
    refine T_icmp_ge d_Mo_sub_7 (tgt := 53) rfl (fun c => absurd ((nI_leI (by decide) (by omega)).mp c) (by omega)) (fun _ => ?_)
    refine T_aload_n (v := .ref 373) d_Mo_sub_10 rfl (Or.inr ⟨_, rfl⟩) ?_
    refine T_getfield d_Mo_sub_11 fg_Mo_124 (X_ne ho (by decide)) rfl ?_
    refine T_bipush (v := nI 16) d_Mo_sub_14 (by decide) ?_
    refine T_iload_n d_Mo_sub_16 rfl ?_
    refine T_imul d_Mo_sub_17 ?_
    rw [pk_mul]
    refine T_iload d_Mo_sub_18 rfl ?_
    refine T_iadd d_Mo_sub_20 ?_
    rw [nI_add]
    refine T_aload_n (v := .ref 373) d_Mo_sub_21 rfl (Or.inr ⟨_, rfl⟩) ?_
    refine T_getfield d_Mo_sub_22 fg_Mo_124 (X_ne ho (by decide)) rfl ?_
    refine T_bipush (v := nI 16) d_Mo_sub_25 (by decide) ?_
    refine T_iload_n d_Mo_sub_27 rfl ?_
    refine T_imul d_Mo_sub_28 ?_
    rw [pk_mul]
    refine T_iload d_Mo_sub_29 rfl ?_
    refine T_iadd d_Mo_sub_31 ?_
    rw [nI_add]
    refine T_laload d_Mo_sub_32 (List.getElem?_set_self hl) (vp_in_nI (by omega) (by decide)) ?_
    rw [nI_clamp (by omega), cpF_rd F d a k _ (by omega)]
    refine T_aload_n (v := .ref 373) d_Mo_sub_33 rfl (Or.inr ⟨_, rfl⟩) ?_
    refine T_getfield d_Mo_sub_34 fg_Mo_124 (X_ne ho (by decide)) rfl ?_
    refine T_bipush (v := nI 16) d_Mo_sub_37 (by decide) ?_
    refine T_iload_n d_Mo_sub_39 rfl ?_
    refine T_imul d_Mo_sub_40 ?_
    rw [pk_mul]
    refine T_iload d_Mo_sub_41 rfl ?_
    refine T_iadd d_Mo_sub_43 ?_
    rw [nI_add]
    refine T_laload d_Mo_sub_44 (List.getElem?_set_self hl) (vp_in_nI (by omega) (by decide)) ?_
    rw [nI_clamp (by omega), cpF_rd F d b k _ (by omega)]
    refine T_lsub d_Mo_sub_45 ?_
    refine X_last (n := 1024) (k := 16 * d + k) d_Mo_sub_46 (by decide) (by omega) (by decide) hl ?_
    rw [show vp_updL (cpF F (16 * d) k (fun i => F (16 * a + i) - F (16 * b + i))) (16 * d + k) (F (16 * a + k) - F (16 * b + k)) = cpF F (16 * d) (k + 1) (fun i => F (16 * a + i) - F (16 * b + i)) from cpF_up F (16 * d) k (fun i => F (16 * a + i) - F (16 * b + i))]
    refine T_iinc (x := nI k) (L' := [(4, .int (nI (k + 1))), (0, .ref 373), (1, .int (nI d)), (2, .int (nI a)), (3, .int (nI b))]) d_Mo_sub_47 (by decide) rfl (by rw [show Int32.ofInt 1 = nI 1 from rfl, nI_add]; rfl) ?_
    refine T_goto (tgt := 3) d_Mo_sub_50 rfl ?_
    exact ih (k + 1) (by omega)
theorem x_Mo_sub (G : GX) {M : List va_E} {v : Nat → Int32} {d a b : Nat} {F : Nat → Int64} (ho : M[373]? = some (moO v)) (hf : M[390]? = some (lr 1024 F)) (hd : d ≤ 63) (ha : a ≤ 63) (hb : b ≤ 63) {x y : Int} (hx : V16 F a x) (hy : V16 F b y) : CT G mi_Mo_sub [.ref 373, .int (nI d), .int (nI a), .int (nI b)] M (fun r M' => r = none ∧ ∃ F', M' = M.set 390 (lr 1024 F') ∧ V16 F' d (x - y) ∧ ∀ j, (j < 16 * d ∨ 16 * d + 16 ≤ j) → F' j = F j) := by
  refine CT.of (by decide) (Nat.le_of_ble_eq_true rfl) ?_
  show TT G mi_Mo_sub 0 [(0, .ref 373), (1, .int (nI d)), (2, .int (nI a)), (3, .int (nI b))] [] M 0 0 _
  refine T_iconst (v := nI 0) d_Mo_sub_0 (by decide) ?_
  refine T_istore (L' := [(4, .int (nI 0)), (0, .ref 373), (1, .int (nI d)), (2, .int (nI a)), (3, .int (nI b))]) d_Mo_sub_1 (by decide) rfl ?_
  refine T_eq (M' := M.set 390 (lr 1024 (cpF F (16 * d) 0 (fun i => F (16 * a + i) - F (16 * b + i))))) rfl rfl rfl (by rw [cpF_0]; exact X_same hf) ?_
  refine xl_Mo_sub G ho hf hd ha hb ?_ 16 0 rfl
  have hl := X_len hf
  have ca : ∀ k, k < 16 → cpF F (16 * d) 16 (fun i => F (16 * a + i) - F (16 * b + i)) (16 * d + k) = F (16 * a + k) - F (16 * b + k) := fun k hk => by unfold cpF; rw [if_pos (by omega), show 16 * d + k - 16 * d = k by omega]
  have cb : ∀ j, (j < 16 * d ∨ 16 * d + 16 ≤ j) → cpF F (16 * d) 16 (fun i => F (16 * a + i) - F (16 * b + i)) j = F j := fun j hj => by unfold cpF; rw [if_neg (by omega)]
  generalize cpF F (16 * d) 16 (fun i => F (16 * a + i) - F (16 * b + i)) = F1 at *
  have ci : ∀ k, k < 16 → (F1 (16 * d + k)).toInt = (F (16 * a + k)).toInt - (F (16 * b + k)).toInt := fun k hk => by
    have p := hx.2 k hk; have q := hy.2 k hk
    have : F1 (16 * d + k) = Int64.ofInt ((F (16 * a + k)).toInt - (F (16 * b + k)).toInt) := by rw [ca k hk, Int64.ofInt_sub, Int64.ofInt_toInt, Int64.ofInt_toInt]
    rw [this, oi_to (by omega) (by omega)]
  have cv : eqP (v16 F1 (16 * d)) (x - y) := by
    unfold v16; rw [sumV_congr (h := fun k => (F (16 * a + k)).toInt - (F (16 * b + k)).toInt) ci, sumV_sub]; exact hx.1.sb hy.1
  have V1 := settle_V1 (F := F1) (d := d) (B := 262144) (by decide) (fun k hk => by rw [ci k hk]; have p := hx.2 k hk; have q := hy.2 k hk; omega) cv
  refine T_aload_n (v := .ref 373) d_Mo_sub_53 rfl (Or.inr ⟨_, rfl⟩) ?_
  refine T_iload_n d_Mo_sub_54 rfl ?_
  refine T_virtual (as := [.int (nI d)]) (rest := []) (b := 373) d_Mo_sub_55 rfl (jw_Mo_settle.jo (by decide)) lm_Mo_130 ji_Mo_settle js_Mo_settle (X_ne ho (by decide)) rfl rfl rfl (Nat.le_of_ble_eq_true rfl) (by decide) (by decide) (x_Mo_settle G (X_ne ho (by decide)) (List.getElem?_set_self hl) hd) (fun r M2 hq => ?_)
  rw [hq.1, hq.2, List.set_set]
  clear hq r M2
  have so : ∀ (E : Nat → Int64) j, (j < 16 * d ∨ 16 * d + 16 ≤ j) → sE E (16 * d) j = E j := fun E j hj => by unfold sE; rw [if_neg (by omega), if_neg (by omega)]
  exact T_vret d_Mo_sub_58 rfl (by decide) (by decide) ⟨rfl, _, rfl, V1, fun j hj => by rw [so _ j hj, cb j hj]⟩
theorem xl_Mo_set (G : GX) {M : List va_E} {v : Nat → Int32} {d a : Nat} {F : Nat → Int64} (ho : M[373]? = some (moO v)) (hf : M[390]? = some (lr 1024 F)) (hd : d ≤ 63) (ha : a ≤ 63) {Q : Option Value → List va_E → Prop} (kk : TT G mi_Mo_set 36 [(0, .ref 373), (1, .int (nI d)), (2, .int (nI a))] [] (M.set 390 (lr 1024 (cpF F (16 * d) 16 (fun i => F (16 * a + i))))) 0 0 Q) : ∀ j k, k + j = 16 → TT G mi_Mo_set 2 [(3, .int (nI k)), (0, .ref 373), (1, .int (nI d)), (2, .int (nI a))] [] (M.set 390 (lr 1024 (cpF F (16 * d) k (fun i => F (16 * a + i))))) 0 0 Q := by
  have hl := X_len hf
  intro j
  induction j with
  | zero =>
    intro k hk
    have : k = 16 := by omega
    subst this
    refine T_iload_n d_Mo_set_2 rfl ?_
    refine T_bipush (v := nI 16) d_Mo_set_3 (by decide) ?_
    refine T_icmp_ge d_Mo_set_5 (tgt := 36) rfl (fun _ => ?_) (fun c => absurd (by decide) c)
    exact T_sub (fun q hq => List.mem_cons_of_mem _ hq) kk
  | succ j ih =>
    intro k hk
    refine T_iload_n d_Mo_set_2 rfl ?_
    refine T_bipush (v := nI 16) d_Mo_set_3 (by decide) ?_
    refine T_icmp_ge d_Mo_set_5 (tgt := 36) rfl (fun c => absurd ((nI_leI (by decide) (by omega)).mp c) (by omega)) (fun _ => ?_)
    refine T_aload_n (v := .ref 373) d_Mo_set_8 rfl (Or.inr ⟨_, rfl⟩) ?_
    refine T_getfield d_Mo_set_9 fg_Mo_124 (X_ne ho (by decide)) rfl ?_
    refine T_bipush (v := nI 16) d_Mo_set_12 (by decide) ?_
    refine T_iload_n d_Mo_set_14 rfl ?_
    refine T_imul d_Mo_set_15 ?_
    rw [pk_mul]
    refine T_iload_n d_Mo_set_16 rfl ?_
    refine T_iadd d_Mo_set_17 ?_
    rw [nI_add]
    refine T_aload_n (v := .ref 373) d_Mo_set_18 rfl (Or.inr ⟨_, rfl⟩) ?_
    refine T_getfield d_Mo_set_19 fg_Mo_124 (X_ne ho (by decide)) rfl ?_
    refine T_bipush (v := nI 16) d_Mo_set_22 (by decide) ?_
    refine T_iload_n d_Mo_set_24 rfl ?_
    refine T_imul d_Mo_set_25 ?_
    rw [pk_mul]
    refine T_iload_n d_Mo_set_26 rfl ?_
    refine T_iadd d_Mo_set_27 ?_
    rw [nI_add]
    refine T_laload d_Mo_set_28 (List.getElem?_set_self hl) (vp_in_nI (by omega) (by decide)) ?_
    rw [nI_clamp (by omega), cpF_rd F d a k _ (by omega)]
    refine X_last (n := 1024) (k := 16 * d + k) d_Mo_set_29 (by decide) (by omega) (by decide) hl ?_
    rw [show vp_updL (cpF F (16 * d) k (fun i => F (16 * a + i))) (16 * d + k) (F (16 * a + k)) = cpF F (16 * d) (k + 1) (fun i => F (16 * a + i)) from cpF_up F (16 * d) k (fun i => F (16 * a + i))]
    refine T_iinc (x := nI k) (L' := [(3, .int (nI (k + 1))), (0, .ref 373), (1, .int (nI d)), (2, .int (nI a))]) d_Mo_set_30 (by decide) rfl (by rw [show Int32.ofInt 1 = nI 1 from rfl, nI_add]; rfl) ?_
    refine T_goto (tgt := 2) d_Mo_set_33 rfl ?_
    exact ih (k + 1) (by omega)
theorem x_Mo_set (G : GX) {M : List va_E} {v : Nat → Int32} {d a : Nat} {F : Nat → Int64} (ho : M[373]? = some (moO v)) (hf : M[390]? = some (lr 1024 F)) (hd : d ≤ 63) (ha : a ≤ 63) {x : Int} (hx : V16 F a x) : CT G mi_Mo_set [.ref 373, .int (nI d), .int (nI a)] M (fun r M' => r = none ∧ ∃ F', M' = M.set 390 (lr 1024 F') ∧ V16 F' d (x) ∧ ∀ j, (j < 16 * d ∨ 16 * d + 16 ≤ j) → F' j = F j) := by
  refine CT.of (by decide) (Nat.le_of_ble_eq_true rfl) ?_
  show TT G mi_Mo_set 0 [(0, .ref 373), (1, .int (nI d)), (2, .int (nI a))] [] M 0 0 _
  refine T_iconst (v := nI 0) d_Mo_set_0 (by decide) ?_
  refine T_istore_n (L' := [(3, .int (nI 0)), (0, .ref 373), (1, .int (nI d)), (2, .int (nI a))]) d_Mo_set_1 (by decide) rfl ?_
  refine T_eq (M' := M.set 390 (lr 1024 (cpF F (16 * d) 0 (fun i => F (16 * a + i))))) rfl rfl rfl (by rw [cpF_0]; exact X_same hf) ?_
  refine xl_Mo_set G ho hf hd ha ?_ 16 0 rfl
  have hl := X_len hf
  have ca : ∀ k, k < 16 → cpF F (16 * d) 16 (fun i => F (16 * a + i)) (16 * d + k) = F (16 * a + k) := fun k hk => by unfold cpF; rw [if_pos (by omega), show 16 * d + k - 16 * d = k by omega]
  have cb : ∀ j, (j < 16 * d ∨ 16 * d + 16 ≤ j) → cpF F (16 * d) 16 (fun i => F (16 * a + i)) j = F j := fun j hj => by unfold cpF; rw [if_neg (by omega)]
  generalize cpF F (16 * d) 16 (fun i => F (16 * a + i)) = F1 at *
  have V1 : V16 F1 d x := ⟨by unfold v16; rw [sumV_congr (h := fun k => (F (16 * a + k)).toInt) (fun k hk => by rw [ca k hk])]; exact hx.1, fun k hk => by rw [ca k hk]; exact hx.2 k hk⟩
  exact T_vret d_Mo_set_36 rfl (by decide) (by decide) ⟨rfl, _, rfl, V1, cb⟩
