def moO (v : Nat → Int32) : va_E := .inr (12, [.int (v 66), .ref 374, .int (v 67), .ref 375, .ref 376, .ref 377, .ref 378, .ref 379, .ref 380, .ref 381, .ref 382, .ref 383, .ref 384, .int (v 68), .ref 385, .ref 386, .ref 387, .int (v 69), .ref 388, .ref 389, .int (v 70), .ref 390, .ref 391, .ref 392, .ref 393, .ref 394, .ref 395, .ref 396, .ref 397, .ref 398, .ref 399, .ref 400, .ref 401, .int (v 71), .int (v 72), .ref 402, .ref 403, .ref 404, .ref 405, .ref 406, .ref 407, .ref 408, .ref 409, .int (v 73), .ref 410, .int (v 74), .ref 411, .ref 412, .ref 413, .ref 414, .ref 415, .ref 416, .ref 417, .ref 418, .ref 419, .ref 420, .ref 421, .ref 422, .ref 423, .ref 424, .ref 425, .ref 426, .ref 427, .ref 428, .ref 429, .ref 430, .ref 431, .ref 432, .ref 433, .ref 434, .ref 435, .ref 436, .ref 437, .ref 438, .ref 439, .ref 440, .ref 441, .int (v 75), .ref 442, .ref 443, .ref 444, .ref 445, .ref 446, .ref 447, .ref 448, .ref 449, .ref 450])
def sC (F : Nat → Int64) (b : Nat) : Nat → Int64
  | 0 => 0
  | k + 1 => (F (b + k) + sC F b k) >>> ((nI 16).toInt64 &&& 63)
def sG (F : Nat → Int64) (b k : Nat) : Int64 := (F (b + k) + sC F b k) - (sC F b (k + 1) <<< ((nI 16).toInt64 &&& 63))
def sF (F : Nat → Int64) (b k : Nat) : Nat → Int64 := fun j => if b ≤ j ∧ j < b + k then sG F b (j - b) else if j = b + k then F j + sC F b k else F j
def sE (F : Nat → Int64) (b : Nat) : Nat → Int64 := fun j => if j = b then sG F b 0 + 38 * sC F b 16 else if b < j ∧ j < b + 16 then sG F b (j - b) else F j
theorem sF_0 (F : Nat → Int64) (b : Nat) : sF F b 0 = F := by
  funext j
  unfold sF
  rw [if_neg (by omega)]
  by_cases h : j = b + 0
  · rw [if_pos h]; show F j + 0 = F j; exact Int64.add_zero _
  · rw [if_neg h]
theorem sF_at (F : Nat → Int64) (b k : Nat) : sF F b k (b + k) = F (b + k) + sC F b k := by unfold sF; rw [if_neg (by omega), if_pos rfl]
theorem sF_nx (F : Nat → Int64) (b k : Nat) (x : Int64) : vp_updL (sF F b k) (b + k) x (b + k + 1) = F (b + k + 1) := by unfold vp_updL sF; rw [if_neg (by omega), if_neg (by omega), if_neg (by omega)]
theorem sF_up (F : Nat → Int64) (b k : Nat) : vp_updL (vp_updL (sF F b k) (b + k) (sG F b k)) (b + k + 1) (F (b + k + 1) + sC F b (k + 1)) = sF F b (k + 1) := by
  funext j
  unfold vp_updL sF
  by_cases h1 : j = b + k + 1
  · subst h1; rw [if_pos rfl, if_neg (by omega), if_pos (by omega)]
  · rw [if_neg h1]
    by_cases h2 : j = b + k
    · subst h2; rw [if_pos rfl, if_pos (by omega), show b + k - b = k by omega]
    · rw [if_neg h2]
      by_cases h3 : b ≤ j ∧ j < b + k
      · rw [if_pos h3, if_pos (by omega)]
      · rw [if_neg h3, if_neg h2, if_neg (by omega), if_neg (by omega)]
theorem sF_la (F : Nat → Int64) (b : Nat) : vp_updL (sF F b 15) (b + 15) (sG F b 15) b = sG F b 0 := by unfold vp_updL sF; rw [if_neg (by omega), if_pos (by omega), Nat.sub_self]
theorem sF_en (F : Nat → Int64) (b : Nat) : vp_updL (vp_updL (sF F b 15) (b + 15) (sG F b 15)) b (sG F b 0 + 38 * sC F b 16) = sE F b := by
  funext j
  unfold vp_updL sF sE
  by_cases h1 : j = b
  · rw [if_pos h1, if_pos h1]
  · rw [if_neg h1, if_neg h1]
    by_cases h2 : j = b + 15
    · subst h2; rw [if_pos rfl, if_pos (by omega), show b + 15 - b = 15 by omega]
    · rw [if_neg h2]
      by_cases h3 : b ≤ j ∧ j < b + 15
      · rw [if_pos h3, if_pos (by omega)]
      · rw [if_neg h3, if_neg h2, if_neg (by omega)]
set_option maxHeartbeats 8000000 in
theorem xl_Mo_settle (G : GX) {M : List va_E} {v : Nat → Int32} {d : Nat} {F : Nat → Int64} (ho : M[373]? = some (moO v)) (hf : M[390]? = some (lr 1024 F)) (hd : d ≤ 63) : ∀ j k, k + j = 15 → TT G mi_Mo_settle 2 [(2, .int (nI k)), (0, .ref 373), (1, .int (nI d))] [] (M.set 390 (lr 1024 (sF F (16 * d) k))) 0 0 (fun r M' => r = none ∧ M' = M.set 390 (lr 1024 (sE F (16 * d)))) := by
  have hl := X_len hf
  have o1 : ∀ e, (M.set 390 e)[373]? = some (moO v) := fun e => X_ne ho (by decide)
  have f1 : ∀ c : Nat → Int64, (M.set 390 (lr 1024 c))[390]? = some (lr 1024 c) := fun c => List.getElem?_set_self hl
  intro j
  induction j with
  | zero =>
    intro k hk
    have : k = 15 := by omega
    subst this
    refine T_iload_n d_Mo_settle_2 rfl ?_
    refine T_bipush (v := nI 16) d_Mo_settle_3 (by decide) ?_
    refine T_icmp_ge d_Mo_settle_5 (tgt := 90) rfl (fun c => absurd ((nI_leI (by decide) (by omega)).mp c) (by omega)) (fun _ => ?_)
    refine T_aload_n (v := .ref 373) d_Mo_settle_8 rfl (Or.inr ⟨_, rfl⟩) ?_
    refine T_getfield d_Mo_settle_9 fg_Mo_124 (o1 _) rfl ?_
    refine T_bipush (v := nI 16) d_Mo_settle_12 (by decide) ?_
    refine T_iload_n d_Mo_settle_14 rfl ?_
    refine T_imul d_Mo_settle_15 ?_
    rw [pk_mul]
    refine T_iload_n d_Mo_settle_16 rfl ?_
    refine T_iadd d_Mo_settle_17 ?_
    rw [nI_add]
    refine T_laload d_Mo_settle_18 (f1 _) (vp_in_nI (by omega) (by decide)) ?_
    rw [nI_clamp (by omega), sF_at]
    refine T_bipush (v := nI 16) d_Mo_settle_19 (by decide) ?_
    refine T_lshr d_Mo_settle_21 ?_
    refine T_lstore_n (L' := [(3, .long (sC F (16 * d) (15 + 1))), (2, .int (nI 15)), (0, .ref 373), (1, .int (nI d))]) d_Mo_settle_22 (by decide) rfl ?_
    refine T_aload_n (v := .ref 373) d_Mo_settle_23 rfl (Or.inr ⟨_, rfl⟩) ?_
    refine T_getfield d_Mo_settle_24 fg_Mo_124 (o1 _) rfl ?_
    refine T_bipush (v := nI 16) d_Mo_settle_27 (by decide) ?_
    refine T_iload_n d_Mo_settle_29 rfl ?_
    refine T_imul d_Mo_settle_30 ?_
    rw [pk_mul]
    refine T_iload_n d_Mo_settle_31 rfl ?_
    refine T_iadd d_Mo_settle_32 ?_
    rw [nI_add]
    refine T_dup2 d_Mo_settle_33 rfl rfl ?_
    refine T_laload d_Mo_settle_34 (f1 _) (vp_in_nI (by omega) (by decide)) ?_
    rw [nI_clamp (by omega), sF_at]
    refine T_lload_n d_Mo_settle_35 rfl ?_
    refine T_bipush (v := nI 16) d_Mo_settle_36 (by decide) ?_
    refine T_lshl d_Mo_settle_38 ?_
    refine T_lsub d_Mo_settle_39 ?_
    refine X_last (n := 1024) (k := 16 * d + 15) d_Mo_settle_40 (by decide) (by omega) (by decide) hl ?_
    refine T_eq (M' := M.set 390 (lr 1024 (vp_updL (sF F (16 * d) 15) (16 * d + 15) (sG F (16 * d) 15)))) rfl rfl rfl rfl ?_
    refine T_iload_n d_Mo_settle_41 rfl ?_
    refine T_bipush (v := nI 15) d_Mo_settle_42 (by decide) ?_
    refine T_icmp_ge d_Mo_settle_44 (tgt := 67) rfl (fun _ => ?_) (fun c => absurd (by decide) c)
    refine T_aload_n (v := .ref 373) d_Mo_settle_67 rfl (Or.inr ⟨_, rfl⟩) ?_
    refine T_getfield d_Mo_settle_68 fg_Mo_124 (o1 _) rfl ?_
    refine T_bipush (v := nI 16) d_Mo_settle_71 (by decide) ?_
    refine T_iload_n d_Mo_settle_73 rfl ?_
    refine T_imul d_Mo_settle_74 ?_
    rw [pk_mul]
    refine T_dup2 d_Mo_settle_75 rfl rfl ?_
    refine T_laload d_Mo_settle_76 (f1 _) (vp_in_nI (by omega) (by decide)) ?_
    rw [nI_clamp (by omega), sF_la]
    refine T_ldc2 d_Mo_settle_77 kJ_Mo_128 ?_
    refine T_lload_n d_Mo_settle_80 rfl ?_
    refine T_lmul d_Mo_settle_81 ?_
    refine T_ladd d_Mo_settle_82 ?_
    refine X_last (n := 1024) (k := 16 * d) d_Mo_settle_83 (by decide) (by omega) (by decide) hl ?_
    rw [sF_en]
    refine T_iinc (x := nI 15) (L' := [(2, .int (nI 16)), (3, .long (sC F (16 * d) (15 + 1))), (0, .ref 373), (1, .int (nI d))]) d_Mo_settle_84 (by decide) rfl rfl ?_
    refine T_goto (tgt := 2) d_Mo_settle_87 rfl ?_
    refine T_iload_n d_Mo_settle_2 rfl ?_
    refine T_bipush (v := nI 16) d_Mo_settle_3 (by decide) ?_
    refine T_icmp_ge d_Mo_settle_5 (tgt := 90) rfl (fun _ => ?_) (fun c => absurd (by decide) c)
    exact T_vret d_Mo_settle_90 rfl (by decide) (by decide) ⟨rfl, rfl⟩
  | succ j ih =>
    intro k hk
    refine T_iload_n d_Mo_settle_2 rfl ?_
    refine T_bipush (v := nI 16) d_Mo_settle_3 (by decide) ?_
    refine T_icmp_ge d_Mo_settle_5 (tgt := 90) rfl (fun c => absurd ((nI_leI (by decide) (by omega)).mp c) (by omega)) (fun _ => ?_)
    refine T_aload_n (v := .ref 373) d_Mo_settle_8 rfl (Or.inr ⟨_, rfl⟩) ?_
    refine T_getfield d_Mo_settle_9 fg_Mo_124 (o1 _) rfl ?_
    refine T_bipush (v := nI 16) d_Mo_settle_12 (by decide) ?_
    refine T_iload_n d_Mo_settle_14 rfl ?_
    refine T_imul d_Mo_settle_15 ?_
    rw [pk_mul]
    refine T_iload_n d_Mo_settle_16 rfl ?_
    refine T_iadd d_Mo_settle_17 ?_
    rw [nI_add]
    refine T_laload d_Mo_settle_18 (f1 _) (vp_in_nI (by omega) (by decide)) ?_
    rw [nI_clamp (by omega), sF_at]
    refine T_bipush (v := nI 16) d_Mo_settle_19 (by decide) ?_
    refine T_lshr d_Mo_settle_21 ?_
    refine T_lstore_n (L' := [(3, .long (sC F (16 * d) (k + 1))), (2, .int (nI k)), (0, .ref 373), (1, .int (nI d))]) d_Mo_settle_22 (by decide) rfl ?_
    refine T_aload_n (v := .ref 373) d_Mo_settle_23 rfl (Or.inr ⟨_, rfl⟩) ?_
    refine T_getfield d_Mo_settle_24 fg_Mo_124 (o1 _) rfl ?_
    refine T_bipush (v := nI 16) d_Mo_settle_27 (by decide) ?_
    refine T_iload_n d_Mo_settle_29 rfl ?_
    refine T_imul d_Mo_settle_30 ?_
    rw [pk_mul]
    refine T_iload_n d_Mo_settle_31 rfl ?_
    refine T_iadd d_Mo_settle_32 ?_
    rw [nI_add]
    refine T_dup2 d_Mo_settle_33 rfl rfl ?_
    refine T_laload d_Mo_settle_34 (f1 _) (vp_in_nI (by omega) (by decide)) ?_
    rw [nI_clamp (by omega), sF_at]
    refine T_lload_n d_Mo_settle_35 rfl ?_
    refine T_bipush (v := nI 16) d_Mo_settle_36 (by decide) ?_
    refine T_lshl d_Mo_settle_38 ?_
    refine T_lsub d_Mo_settle_39 ?_
    refine X_last (n := 1024) (k := 16 * d + k) d_Mo_settle_40 (by decide) (by omega) (by decide) hl ?_
    refine T_eq (M' := M.set 390 (lr 1024 (vp_updL (sF F (16 * d) k) (16 * d + k) (sG F (16 * d) k)))) rfl rfl rfl rfl ?_
    refine T_iload_n d_Mo_settle_41 rfl ?_
    refine T_bipush (v := nI 15) d_Mo_settle_42 (by decide) ?_
    refine T_icmp_ge d_Mo_settle_44 (tgt := 67) rfl (fun c => absurd ((nI_leI (by decide) (by omega)).mp c) (by omega)) (fun _ => ?_)
    refine T_aload_n (v := .ref 373) d_Mo_settle_47 rfl (Or.inr ⟨_, rfl⟩) ?_
    refine T_getfield d_Mo_settle_48 fg_Mo_124 (o1 _) rfl ?_
    refine T_bipush (v := nI 16) d_Mo_settle_51 (by decide) ?_
    refine T_iload_n d_Mo_settle_53 rfl ?_
    refine T_imul d_Mo_settle_54 ?_
    rw [pk_mul]
    refine T_iload_n d_Mo_settle_55 rfl ?_
    refine T_iadd d_Mo_settle_56 ?_
    rw [nI_add]
    refine T_iconst (v := nI 1) d_Mo_settle_57 (by decide) ?_
    refine T_iadd d_Mo_settle_58 ?_
    rw [nI_add]
    refine T_dup2 d_Mo_settle_59 rfl rfl ?_
    refine T_laload d_Mo_settle_60 (f1 _) (vp_in_nI (by omega) (by decide)) ?_
    rw [nI_clamp (by omega), sF_nx]
    refine T_lload_n d_Mo_settle_61 rfl ?_
    refine T_ladd d_Mo_settle_62 ?_
    refine X_last (n := 1024) (k := 16 * d + k + 1) d_Mo_settle_63 (by decide) (by omega) (by decide) hl ?_
    rw [sF_up]
    refine T_goto (tgt := 84) d_Mo_settle_64 rfl ?_
    refine T_iinc (x := nI k) (L' := [(2, .int (nI (k + 1))), (3, .long (sC F (16 * d) (k + 1))), (0, .ref 373), (1, .int (nI d))]) d_Mo_settle_84 (by decide) rfl (by rw [show Int32.ofInt 1 = nI 1 from rfl, nI_add]; rfl) ?_
    refine T_goto (tgt := 2) d_Mo_settle_87 rfl ?_
    refine T_sub (L' := [(2, .int (nI (k + 1))), (0, .ref 373), (1, .int (nI d))]) (fun q hq => ?_) (ih (k + 1) (by omega))
    simp only [List.mem_cons, List.not_mem_nil, or_false] at hq ⊢
    rcases hq with rfl | rfl | rfl <;> simp
theorem x_Mo_settle (G : GX) {M : List va_E} {v : Nat → Int32} {d : Nat} {F : Nat → Int64} (ho : M[373]? = some (moO v)) (hf : M[390]? = some (lr 1024 F)) (hd : d ≤ 63) : CT G mi_Mo_settle [.ref 373, .int (nI d)] M (fun r M' => r = none ∧ M' = M.set 390 (lr 1024 (sE F (16 * d)))) := by
  refine CT.of (by decide) (Nat.le_of_ble_eq_true rfl) ?_
  show TT G mi_Mo_settle 0 [(0, .ref 373), (1, .int (nI d))] [] M 0 0 _
  refine T_iconst (v := nI 0) d_Mo_settle_0 (by decide) ?_
  refine T_istore_n (L' := [(2, .int (nI 0)), (0, .ref 373), (1, .int (nI d))]) d_Mo_settle_1 (by decide) rfl ?_
  refine T_eq (M' := M.set 390 (lr 1024 (sF F (16 * d) 0))) rfl rfl rfl (by rw [sF_0]; exact X_same hf) ?_
  exact xl_Mo_settle G ho hf hd 15 0 rfl
theorem shl16 (c : Int64) : c <<< ((nI 16).toInt64 &&& 63) = c * 65536 := by
  apply Int64.toBitVec_inj.mp
  rw [Int64.toBitVec_shiftLeft, Int64.toBitVec_mul, BitVec.shiftLeft_eq', show (((nI 16).toInt64 &&& 63 : Int64).toBitVec.smod 64).toNat = 16 by decide, BitVec.shiftLeft_eq_mul_twoPow]
  rfl
theorem s16_ : (((nI 16).toInt64 &&& 63 : Int64).toBitVec.smod 64).toNat = 16 := by decide
def sumV (g : Nat → Int) : Nat → Int
  | 0 => 0
  | n + 1 => sumV g n + g n * 65536 ^ n
theorem sumV_congr {g h : Nat → Int} {n : Nat} (e : ∀ k, k < n → g k = h k) : sumV g n = sumV h n := by
  induction n with
  | zero => rfl
  | succ n ih => show sumV g n + g n * _ = sumV h n + h n * _; rw [ih fun k hk => e k (by omega), e n (by omega)]
def v16 (F : Nat → Int64) (b : Nat) : Int := sumV (fun k => (F (b + k)).toInt) 16
theorem st_step {f c : Int64} (h1 : -2251799813685248 ≤ f.toInt ∧ f.toInt ≤ 2251799813685248) (h2 : -2251799813685248 ≤ c.toInt ∧ c.toInt ≤ 2251799813685248) : ((f + c) >>> ((nI 16).toInt64 &&& 63)).toInt = (f.toInt + c.toInt) / 65536 ∧ ((f + c) - (((f + c) >>> ((nI 16).toInt64 &&& 63)) <<< ((nI 16).toInt64 &&& 63))).toInt = (f.toInt + c.toInt) % 65536 := by
  have e : f + c = Int64.ofInt (f.toInt + c.toInt) := by rw [Int64.ofInt_add, Int64.ofInt_toInt, Int64.ofInt_toInt]
  generalize hz : f.toInt + c.toInt = z at *
  have hs : Int64.ofInt z >>> ((nI 16).toInt64 &&& 63) = Int64.ofInt (z / 65536) := oi_shr _ 16 s16_ (by omega) (by omega)
  rw [e, hs, shl16]
  refine ⟨oi_to (by omega) (by omega), ?_⟩
  rw [show (65536 : Int64) = Int64.ofInt 65536 from rfl, ← Int64.ofInt_mul, ← Int64.ofInt_sub, oi_to (by omega) (by omega)]
  omega
theorem sC_bd {F : Nat → Int64} {b : Nat} {B : Int} (hB : 0 ≤ B ∧ B ≤ 1125899906842624) (h : ∀ k, k < 16 → -B ≤ (F (b + k)).toInt ∧ (F (b + k)).toInt ≤ B) : ∀ k, k ≤ 16 → -(B / 32768 + 2) ≤ (sC F b k).toInt ∧ (sC F b k).toInt ≤ B / 32768 + 2 := by
  intro k
  induction k with
  | zero => intro _; show -(B / 32768 + 2) ≤ (0 : Int) ∧ (0 : Int) ≤ _; omega
  | succ k ih =>
    intro hk
    have i1 := ih (by omega); have i2 := h k (by omega)
    have e1 : (sC F b (k + 1)).toInt = ((F (b + k)).toInt + (sC F b k).toInt) / 65536 := (st_step (f := F (b + k)) (c := sC F b k) (by omega) (by omega)).1
    rw [e1]
    omega
set_option maxHeartbeats 8000000 in
theorem sC_val {F : Nat → Int64} {b : Nat} {B : Int} (hB : 0 ≤ B ∧ B ≤ 1125899906842624) (h : ∀ k, k < 16 → -B ≤ (F (b + k)).toInt ∧ (F (b + k)).toInt ≤ B) : ∀ k, k ≤ 16 → sumV (fun j => (sG F b j).toInt) k + (sC F b k).toInt * 65536 ^ k = sumV (fun j => (F (b + j)).toInt) k := by
  intro k
  induction k with
  | zero => intro _; show (0 : Int) + 0 * _ = 0; simp
  | succ k ih =>
    intro hk
    have i0 := ih (by omega)
    have i1 := sC_bd hB h k (by omega); have i2 := h k (by omega)
    have s := st_step (f := F (b + k)) (c := sC F b k) (by omega) (by omega)
    have e1 : (sC F b (k + 1)).toInt = ((F (b + k)).toInt + (sC F b k).toInt) / 65536 := s.1
    have e2 : (sG F b k).toInt = ((F (b + k)).toInt + (sC F b k).toInt) % 65536 := s.2
    show (sumV _ k + (sG F b k).toInt * 65536 ^ k) + (sC F b (k + 1)).toInt * 65536 ^ (k + 1) = sumV _ k + (F (b + k)).toInt * 65536 ^ k
    rw [e1, e2, show (65536 : Int) ^ (k + 1) = 65536 ^ k * 65536 from Int.pow_succ 65536 k, ← i0]
    have hz := Int.emod_add_mul_ediv ((F (b + k)).toInt + (sC F b k).toInt) 65536
    generalize ((F (b + k)).toInt + (sC F b k).toInt) % 65536 = r at *
    generalize ((F (b + k)).toInt + (sC F b k).toInt) / 65536 = q at *
    have : (F (b + k)).toInt = r + 65536 * q - (sC F b k).toInt := by omega
    rw [this]; grind
theorem sG_bd {F : Nat → Int64} {b : Nat} {B : Int} (hB : 0 ≤ B ∧ B ≤ 1125899906842624) (h : ∀ k, k < 16 → -B ≤ (F (b + k)).toInt ∧ (F (b + k)).toInt ≤ B) {k : Nat} (hk : k < 16) : 0 ≤ (sG F b k).toInt ∧ (sG F b k).toInt < 65536 := by
  have i1 := sC_bd hB h k (by omega); have i2 := h k hk
  have e2 : (sG F b k).toInt = ((F (b + k)).toInt + (sC F b k).toInt) % 65536 := (st_step (f := F (b + k)) (c := sC F b k) (by omega) (by omega)).2
  rw [e2]; omega
theorem sE_0 {F : Nat → Int64} {b : Nat} {B : Int} (hB : 0 ≤ B ∧ B ≤ 1125899906842624) (h : ∀ k, k < 16 → -B ≤ (F (b + k)).toInt ∧ (F (b + k)).toInt ≤ B) : (sE F b b).toInt = (sG F b 0).toInt + 38 * (sC F b 16).toInt := by
  have i1 := sC_bd hB h 16 (by omega); have i2 := sG_bd hB h (k := 0) (by omega)
  have : sE F b b = Int64.ofInt ((sG F b 0).toInt + 38 * (sC F b 16).toInt) := by
    unfold sE; rw [if_pos rfl, Int64.ofInt_add, Int64.ofInt_mul, Int64.ofInt_toInt, Int64.ofInt_toInt]; rfl
  rw [this, oi_to (by omega) (by omega)]
def V16 (F : Nat → Int64) (d : Nat) (x : Int) : Prop := eqP (v16 F (16 * d)) x ∧ ∀ k, k < 16 → -131072 ≤ (F (16 * d + k)).toInt ∧ (F (16 * d + k)).toInt ≤ 131072
set_option maxHeartbeats 8000000 in
theorem settle_V {F : Nat → Int64} {b : Nat} {B : Int} (hB : 0 ≤ B ∧ B ≤ 1125899906842624) (h : ∀ k, k < 16 → -B ≤ (F (b + k)).toInt ∧ (F (b + k)).toInt ≤ B) : eqP (v16 (sE F b) b) (v16 F b) ∧ (∀ k, 1 ≤ k → k < 16 → 0 ≤ (sE F b (b + k)).toInt ∧ (sE F b (b + k)).toInt < 65536) ∧ -(38 * (B / 32768 + 2)) ≤ (sE F b b).toInt ∧ (sE F b b).toInt ≤ 65535 + 38 * (B / 32768 + 2) := by
  have hk : ∀ k, 1 ≤ k → k < 16 → sE F b (b + k) = sG F b k := fun k h1 h2 => by unfold sE; rw [if_neg (by omega), if_pos (by omega), show b + k - b = k by omega]
  have e0 := sE_0 hB h
  have b16 := sC_bd hB h 16 (by omega); have g0 := sG_bd hB h (k := 0) (by omega)
  refine ⟨⟨-2 * (sC F b 16).toInt, ?_⟩, fun k h1 h2 => by rw [hk k h1 h2]; exact sG_bd hB h h2, by rw [e0]; omega, by rw [e0]; omega⟩
  have v := sC_val hB h 16 (by omega)
  have key : v16 (sE F b) b = sumV (fun j => (sG F b j).toInt) 16 + 38 * (sC F b 16).toInt := by
    have s1 : ∀ n, sumV (fun j => (sE F b (b + j)).toInt) (n + 1) = (if n < 16 then sumV (fun j => (sE F b (b + j)).toInt) (n + 1) else 0) ∨ True := fun n => Or.inr trivial
    have gen : ∀ n, n < 16 → sumV (fun j => (sE F b (b + j)).toInt) (n + 1) = sumV (fun j => (sG F b j).toInt) (n + 1) + 38 * (sC F b 16).toInt := by
      intro n
      induction n with
      | zero => intro _; show 0 + (sE F b (b + 0)).toInt * 65536 ^ 0 = (0 + (sG F b 0).toInt * 65536 ^ 0) + _; rw [Nat.add_zero, e0]; simp
      | succ n ih =>
        intro hn
        show sumV _ (n + 1) + (sE F b (b + (n + 1))).toInt * 65536 ^ (n + 1) = (sumV _ (n + 1) + (sG F b (n + 1)).toInt * 65536 ^ (n + 1)) + _
        rw [ih (by omega), hk (n + 1) (by omega) hn]; grind
    exact gen 15 (by decide)
  rw [key]
  have hv : v16 F b = sumV (fun j => (sG F b j).toInt) 16 + (sC F b 16).toInt * 65536 ^ 16 := v.symm
  rw [hv, show (65536 : Int) ^ 16 = 2 * pP + 38 by decide]
  grind
theorem settle_V1 {F : Nat → Int64} {d : Nat} {x : Int} {B : Int} (hB : 0 ≤ B ∧ B ≤ 40000000) (h : ∀ k, k < 16 → -B ≤ (F (16 * d + k)).toInt ∧ (F (16 * d + k)).toInt ≤ B) (hx : eqP (v16 F (16 * d)) x) : V16 (sE F (16 * d)) d x := by
  obtain ⟨e, a, b1, b2⟩ := settle_V (b := 16 * d) (B := B) (by omega) h
  refine ⟨e.tr hx, fun k hk => ?_⟩
  by_cases h0 : k = 0
  · subst h0; rw [Nat.add_zero]; omega
  · have := a k (by omega) hk; omega
set_option maxHeartbeats 8000000 in
theorem sC_bd2 {F : Nat → Int64} {b : Nat} (h0 : -1099511627776 ≤ (F b).toInt ∧ (F b).toInt ≤ 1099511627776) (h : ∀ k, 1 ≤ k → k < 16 → 0 ≤ (F (b + k)).toInt ∧ (F (b + k)).toInt < 65536) : ∀ k, k ≤ 16 → (-20000000 ≤ (sC F b k).toInt ∧ (sC F b k).toInt ≤ 20000000) ∧ (2 ≤ k → -1000 ≤ (sC F b k).toInt ∧ (sC F b k).toInt ≤ 1000) ∧ (3 ≤ k → -1 ≤ (sC F b k).toInt ∧ (sC F b k).toInt ≤ 1) := by
  have hall : ∀ k, k < 16 → -1099511627776 ≤ (F (b + k)).toInt ∧ (F (b + k)).toInt ≤ 1099511627776 := fun k hk => by
    by_cases e : k = 0
    · subst e; exact h0
    · have := h k (by omega) hk; omega
  intro k
  induction k with
  | zero => intro _; refine ⟨?_, fun c => by omega, fun c => by omega⟩; show -20000000 ≤ (0 : Int) ∧ (0 : Int) ≤ 20000000; decide
  | succ k ih =>
    intro hk
    have i := ih (by omega); have i2 := hall k (by omega)
    have e1 : (sC F b (k + 1)).toInt = ((F (b + k)).toInt + (sC F b k).toInt) / 65536 := (st_step (f := F (b + k)) (c := sC F b k) (by omega) (by omega)).1
    rw [e1]
    refine ⟨by omega, fun c => ?_, fun c => ?_⟩
    · have := h k (by omega) (by omega); omega
    · have := h k (by omega) (by omega); have := i.2.1 (by omega); omega
theorem settle_V2 {F : Nat → Int64} {d : Nat} {x : Int} (h0 : -1099511627776 ≤ (F (16 * d)).toInt ∧ (F (16 * d)).toInt ≤ 1099511627776) (h : ∀ k, 1 ≤ k → k < 16 → 0 ≤ (F (16 * d + k)).toInt ∧ (F (16 * d + k)).toInt < 65536) (hx : eqP (v16 F (16 * d)) x) : V16 (sE F (16 * d)) d x := by
  have hall : ∀ k, k < 16 → -1099511627776 ≤ (F (16 * d + k)).toInt ∧ (F (16 * d + k)).toInt ≤ 1099511627776 := fun k hk => by
    by_cases e : k = 0
    · subst e; exact h0
    · have := h k (by omega) hk; omega
  obtain ⟨e, a, -⟩ := settle_V (b := 16 * d) (B := 1099511627776) (by decide) hall
  refine ⟨e.tr hx, fun k hk => ?_⟩
  by_cases hk0 : k = 0
  · subst hk0
    rw [Nat.add_zero, sE_0 (B := 1099511627776) (by decide) hall]
    have := sG_bd (B := 1099511627776) (by decide) hall (k := 0) (by decide)
    have := (sC_bd2 h0 h 16 (by decide)).2.2 (by decide)
    omega
  · have := a k (by omega) hk; omega
theorem sumV_upd {g : Nat → Int} {m n : Nat} {z : Int} (h : m < n) : sumV (fun j => if j = m then g j + z else g j) n = sumV g n + z * 65536 ^ m := by
  induction n with
  | zero => omega
  | succ n ih =>
    show sumV _ n + (if n = m then g n + z else g n) * 65536 ^ n = (sumV g n + g n * 65536 ^ n) + _
    by_cases e : n = m
    · subst e
      rw [if_pos rfl, sumV_congr (h := g) (fun k hk => by rw [if_neg (by omega)])]; grind
    · rw [if_neg e, ih (by omega)]; grind
theorem sumV_app (g : Nat → Int) (n m : Nat) : sumV g (n + m) = sumV g n + 65536 ^ n * sumV (fun k => g (n + k)) m := by
  induction m with
  | zero => show sumV g n = sumV g n + _ * 0; simp
  | succ m ih =>
    show sumV g (n + m) + g (n + m) * 65536 ^ (n + m) = sumV g n + 65536 ^ n * (sumV _ m + g (n + m) * 65536 ^ m)
    rw [ih, Int.pow_add]; grind
theorem sumV_lin (g h : Nat → Int) (c : Int) (n : Nat) : sumV (fun k => g k + c * h k) n = sumV g n + c * sumV h n := by
  induction n with
  | zero => show (0 : Int) = 0 + c * 0; simp
  | succ n ih => show sumV _ n + (g n + c * h n) * _ = (sumV g n + g n * _) + c * (sumV h n + h n * _); rw [ih]; grind
def pI (F : Nat → Int64) (a b i k : Nat) (P : Nat → Int64) : Prop :=
  sumV (fun j => (P j).toInt) 31 = sumV (fun j => (F (16 * a + j)).toInt) i * sumV (fun j => (F (16 * b + j)).toInt) 16 + (F (16 * a + i)).toInt * 65536 ^ i * sumV (fun j => (F (16 * b + j)).toInt) k ∧ ∀ j, j < 31 → -((16 * i + k : Nat) * 17179869184) ≤ (P j).toInt ∧ (P j).toInt ≤ (16 * i + k : Nat) * 17179869184
theorem mulb {x y : Int} (h1 : -131072 ≤ x ∧ x ≤ 131072) (h2 : -131072 ≤ y ∧ y ≤ 131072) : -17179869184 ≤ x * y ∧ x * y ≤ 17179869184 := by
  have e : (x * y).natAbs ≤ 131072 * 131072 := by rw [Int.natAbs_mul]; exact Nat.mul_le_mul (by omega) (by omega)
  omega
set_option maxHeartbeats 8000000 in
theorem pI_step {F : Nat → Int64} {a b i k : Nat} {P : Nat → Int64} (hi : i < 16) (hk : k < 16) (hA : ∀ k, k < 16 → -131072 ≤ (F (16 * a + k)).toInt ∧ (F (16 * a + k)).toInt ≤ 131072) (hB : ∀ k, k < 16 → -131072 ≤ (F (16 * b + k)).toInt ∧ (F (16 * b + k)).toInt ≤ 131072) (h : pI F a b i k P) : pI F a b i (k + 1) (vp_updL P (i + k) (P (i + k) + F (16 * a + i) * F (16 * b + k))) := by
  have hz := mulb (hA i hi) (hB k hk)
  have e : (P (i + k) + F (16 * a + i) * F (16 * b + k)).toInt = (P (i + k)).toInt + (F (16 * a + i)).toInt * (F (16 * b + k)).toInt := by
    have hp := h.2 (i + k) (by omega)
    have : P (i + k) + F (16 * a + i) * F (16 * b + k) = Int64.ofInt ((P (i + k)).toInt + (F (16 * a + i)).toInt * (F (16 * b + k)).toInt) := by rw [Int64.ofInt_add, Int64.ofInt_mul, Int64.ofInt_toInt, Int64.ofInt_toInt, Int64.ofInt_toInt]
    rw [this, oi_to (by omega) (by omega)]
  have up : ∀ j, (vp_updL P (i + k) (P (i + k) + F (16 * a + i) * F (16 * b + k)) j).toInt = if j = i + k then (P j).toInt + (F (16 * a + i)).toInt * (F (16 * b + k)).toInt else (P j).toInt := fun j => by
    unfold vp_updL
    by_cases c : j = i + k
    · subst c; rw [if_pos rfl, if_pos rfl, e]
    · rw [if_neg c, if_neg c]
  refine ⟨?_, fun j hj => ?_⟩
  · rw [sumV_congr (h := fun j => if j = i + k then (P j).toInt + (F (16 * a + i)).toInt * (F (16 * b + k)).toInt else (P j).toInt) (fun j _ => up j), sumV_upd (g := fun j => (P j).toInt) (by omega), h.1]
    show _ = _ + _ * (sumV (fun j => (F (16 * b + j)).toInt) k + (F (16 * b + k)).toInt * 65536 ^ k)
    rw [Int.pow_add]; grind
  · rw [up j]
    have hp := h.2 j hj
    have hs : (((16 * i + (k + 1) : Nat)) : Int) * 17179869184 = ((16 * i + k : Nat) : Int) * 17179869184 + 17179869184 := by omega
    rw [hs]
    split <;> omega
theorem pI_row {F : Nat → Int64} {a b i : Nat} {P : Nat → Int64} (h : pI F a b i 16 P) : pI F a b (i + 1) 0 P := by
  refine ⟨?_, fun j hj => ?_⟩
  · rw [h.1]
    show _ = (sumV _ i + (F (16 * a + i)).toInt * 65536 ^ i) * _ + _ * 0
    grind
  · have := h.2 j hj
    rw [show 16 * (i + 1) + 0 = 16 * i + 16 by omega]; exact this
def foldP (P : Nat → Int64) : Nat → Int64 := fun k => P k + 38 * P (k + 16)
set_option maxHeartbeats 8000000 in
theorem fold_V {P : Nat → Int64} (h : ∀ j, j < 31 → -4398046511104 ≤ (P j).toInt ∧ (P j).toInt ≤ 4398046511104) {Q : Nat → Int64} (hQ : ∀ j, j < 15 → Q j = foldP P j) (h15 : Q 15 = P 15) : eqP (sumV (fun j => (Q j).toInt) 16) (sumV (fun j => (P j).toInt) 31) ∧ ∀ j, j < 16 → -171523813933056 ≤ (Q j).toInt ∧ (Q j).toInt ≤ 171523813933056 := by
  have e : ∀ j, j < 15 → (Q j).toInt = (P j).toInt + 38 * (P (j + 16)).toInt := fun j hj => by
    have a := h j (by omega); have b := h (j + 16) (by omega)
    have : Q j = Int64.ofInt ((P j).toInt + 38 * (P (j + 16)).toInt) := by rw [hQ j hj]; unfold foldP; rw [Int64.ofInt_add, Int64.ofInt_mul, Int64.ofInt_toInt, Int64.ofInt_toInt]; rfl
    rw [this, oi_to (by omega) (by omega)]
  refine ⟨⟨-2 * sumV (fun k => (P (16 + k)).toInt) 15, ?_⟩, fun j hj => ?_⟩
  · have s1 := sumV_app (fun j => (P j).toInt) 16 15
    have s2 : sumV (fun j => (Q j).toInt) 16 = sumV (fun k => (P k).toInt + 38 * (P (16 + k)).toInt) 15 + (P 15).toInt * 65536 ^ 15 := by
      show sumV _ 15 + (Q 15).toInt * _ = _
      rw [h15, sumV_congr (h := fun k => (P k).toInt + 38 * (P (16 + k)).toInt) (fun k hk => by rw [e k hk, Nat.add_comm 16 k])]
    have s3 : sumV (fun j => (P j).toInt) 16 = sumV (fun j => (P j).toInt) 15 + (P 15).toInt * 65536 ^ 15 := rfl
    rw [s2, sumV_lin (fun k => (P k).toInt) (fun k => (P (16 + k)).toInt) 38 15, show (31 : Nat) = 16 + 15 from rfl, s1, s3, show (65536 : Int) ^ 16 = 2 * pP + 38 by decide]
    grind
  · by_cases c : j = 15
    · subst c; rw [h15]; have := h 15 (by decide); omega
    · rw [e j (by omega)]; have a := h j (by omega); have b := h (j + 16) (by omega); omega
set_option maxHeartbeats 8000000 in
theorem xl_mul_1 (G : GX) {M : List va_E} {v : Nat → Int32} {d a b : Nat} {F : Nat → Int64} (ho : M[373]? = some (moO v)) (hf : M[390]? = some (lr 1024 F)) (hd : d ≤ 63) (ha : a ≤ 63) (hb : b ≤ 63) {P0 : Nat → Int64} (hp : M[391]? = some (lr 31 P0)) {Q : Option Value → List va_E → Prop} (kk : TT G mi_Mo_mul 24 [(0, .ref 373), (1, .int (nI d)), (2, .int (nI a)), (3, .int (nI b))] [] (M.set 391 (lr 31 (lp 31 (fun _ => 0) P0))) 0 0 Q) : ∀ j k, k + j = 31 → TT G mi_Mo_mul 3 [(4, .int (nI k)), (0, .ref 373), (1, .int (nI d)), (2, .int (nI a)), (3, .int (nI b))] [] (M.set 391 (lr 31 (lp k (fun _ => 0) P0))) 0 0 Q := by
  have hl := X_len hp
  intro j
  induction j with
  | zero =>
    intro k hk
    have : k = 31 := by omega
    subst this
    refine T_iload d_Mo_mul_3 rfl ?_
    refine T_bipush (v := nI 31) d_Mo_mul_5 (by decide) ?_
    refine T_icmp_ge d_Mo_mul_7 (tgt := 24) rfl (fun _ => ?_) (fun c => absurd (by decide) c)
    exact T_sub (fun q hq => List.mem_cons_of_mem _ hq) kk
  | succ j ih =>
    intro k hk
    refine T_iload d_Mo_mul_3 rfl ?_
    refine T_bipush (v := nI 31) d_Mo_mul_5 (by decide) ?_
    refine T_icmp_ge d_Mo_mul_7 (tgt := 24) rfl (fun c => absurd ((nI_leI (by decide) (by omega)).mp c) (by omega)) (fun _ => ?_)
    refine T_aload_n (v := .ref 373) d_Mo_mul_10 rfl (Or.inr ⟨_, rfl⟩) ?_
    refine T_getfield d_Mo_mul_11 fg_Mo_133 (X_ne ho (by decide)) rfl ?_
    refine T_iload d_Mo_mul_14 rfl ?_
    refine T_lconst (v := 0) d_Mo_mul_16 (by decide) ?_
    refine X_last (n := 31) (k := k) d_Mo_mul_17 (by decide) (by omega) (by decide) hl ?_
    rw [lp_up k (fun _ => 0) P0]
    refine T_iinc (x := nI k) (L' := [(4, .int (nI (k + 1))), (0, .ref 373), (1, .int (nI d)), (2, .int (nI a)), (3, .int (nI b))]) d_Mo_mul_18 (by decide) rfl (by rw [show Int32.ofInt 1 = nI 1 from rfl, nI_add]; rfl) ?_
    refine T_goto (tgt := 3) d_Mo_mul_21 rfl ?_
    exact ih (k + 1) (by omega)
set_option maxHeartbeats 8000000 in
theorem xl_mul_2 (G : GX) {M : List va_E} {v : Nat → Int32} {d a b : Nat} {F : Nat → Int64} (ho : M[373]? = some (moO v)) (hf : M[390]? = some (lr 1024 F)) (hd : d ≤ 63) (ha : a ≤ 63) (hb : b ≤ 63) {P0 : Nat → Int64} (hp : M[391]? = some (lr 31 P0)) (hA : ∀ k, k < 16 → -131072 ≤ (F (16 * a + k)).toInt ∧ (F (16 * a + k)).toInt ≤ 131072) (hB : ∀ k, k < 16 → -131072 ≤ (F (16 * b + k)).toInt ∧ (F (16 * b + k)).toInt ≤ 131072) {i : Nat} (hi : i < 16) {Q : Option Value → List va_E → Prop} (kk : ∀ P, pI F a b i 16 P → TT G mi_Mo_mul 88 [(4, .int (nI i)), (0, .ref 373), (1, .int (nI d)), (2, .int (nI a)), (3, .int (nI b))] [] (M.set 391 (lr 31 P)) 0 0 Q) : ∀ j k P, k + j = 16 → pI F a b i k P → TT G mi_Mo_mul 37 [(5, .int (nI k)), (4, .int (nI i)), (0, .ref 373), (1, .int (nI d)), (2, .int (nI a)), (3, .int (nI b))] [] (M.set 391 (lr 31 P)) 0 0 Q := by
  have hl := X_len hp
  intro j
  induction j with
  | zero =>
    intro k P hk h
    have : k = 16 := by omega
    subst this
    refine T_iload d_Mo_mul_37 rfl ?_
    refine T_bipush (v := nI 16) d_Mo_mul_39 (by decide) ?_
    refine T_icmp_ge d_Mo_mul_41 (tgt := 88) rfl (fun _ => ?_) (fun c => absurd (by decide) c)
    exact T_sub (fun q hq => List.mem_cons_of_mem _ hq) (kk P h)
  | succ j ih =>
    intro k P hk h
    refine T_iload d_Mo_mul_37 rfl ?_
    refine T_bipush (v := nI 16) d_Mo_mul_39 (by decide) ?_
    refine T_icmp_ge d_Mo_mul_41 (tgt := 88) rfl (fun c => absurd ((nI_leI (by decide) (by omega)).mp c) (by omega)) (fun _ => ?_)
    refine T_aload_n (v := .ref 373) d_Mo_mul_44 rfl (Or.inr ⟨_, rfl⟩) ?_
    refine T_getfield d_Mo_mul_45 fg_Mo_133 (X_ne ho (by decide)) rfl ?_
    refine T_iload d_Mo_mul_48 rfl ?_
    refine T_iload d_Mo_mul_50 rfl ?_
    refine T_iadd d_Mo_mul_52 ?_
    rw [nI_add]
    refine T_dup2 d_Mo_mul_53 rfl rfl ?_
    refine T_laload d_Mo_mul_54 (List.getElem?_set_self hl) (vp_in_nI (by omega) (by decide)) ?_
    rw [nI_clamp (by omega)]
    refine T_aload_n (v := .ref 373) d_Mo_mul_55 rfl (Or.inr ⟨_, rfl⟩) ?_
    refine T_getfield d_Mo_mul_56 fg_Mo_124 (X_ne ho (by decide)) rfl ?_
    refine T_bipush (v := nI 16) d_Mo_mul_59 (by decide) ?_
    refine T_iload_n d_Mo_mul_61 rfl ?_
    refine T_imul d_Mo_mul_62 ?_
    rw [pk_mul]
    refine T_iload d_Mo_mul_63 rfl ?_
    refine T_iadd d_Mo_mul_65 ?_
    rw [nI_add]
    refine T_laload d_Mo_mul_66 (X_ne hf (by decide)) (vp_in_nI (by omega) (by decide)) ?_
    rw [nI_clamp (by omega)]
    refine T_aload_n (v := .ref 373) d_Mo_mul_67 rfl (Or.inr ⟨_, rfl⟩) ?_
    refine T_getfield d_Mo_mul_68 fg_Mo_124 (X_ne ho (by decide)) rfl ?_
    refine T_bipush (v := nI 16) d_Mo_mul_71 (by decide) ?_
    refine T_iload_n d_Mo_mul_73 rfl ?_
    refine T_imul d_Mo_mul_74 ?_
    rw [pk_mul]
    refine T_iload d_Mo_mul_75 rfl ?_
    refine T_iadd d_Mo_mul_77 ?_
    rw [nI_add]
    refine T_laload d_Mo_mul_78 (X_ne hf (by decide)) (vp_in_nI (by omega) (by decide)) ?_
    rw [nI_clamp (by omega)]
    refine T_lmul d_Mo_mul_79 ?_
    refine T_ladd d_Mo_mul_80 ?_
    refine X_last (n := 31) (k := i + k) d_Mo_mul_81 (by decide) (by omega) (by decide) hl ?_
    refine T_iinc (x := nI k) (L' := [(5, .int (nI (k + 1))), (4, .int (nI i)), (0, .ref 373), (1, .int (nI d)), (2, .int (nI a)), (3, .int (nI b))]) d_Mo_mul_82 (by decide) rfl (by rw [show Int32.ofInt 1 = nI 1 from rfl, nI_add]; rfl) ?_
    refine T_goto (tgt := 37) d_Mo_mul_85 rfl ?_
    exact ih (k + 1) _ (by omega) (pI_step hi (by omega) hA hB h)
set_option maxHeartbeats 8000000 in
theorem xl_mul_3 (G : GX) {M : List va_E} {v : Nat → Int32} {d a b : Nat} {F : Nat → Int64} (ho : M[373]? = some (moO v)) (hf : M[390]? = some (lr 1024 F)) (hd : d ≤ 63) (ha : a ≤ 63) (hb : b ≤ 63) {P0 : Nat → Int64} (hp : M[391]? = some (lr 31 P0)) (hA : ∀ k, k < 16 → -131072 ≤ (F (16 * a + k)).toInt ∧ (F (16 * a + k)).toInt ≤ 131072) (hB : ∀ k, k < 16 → -131072 ≤ (F (16 * b + k)).toInt ∧ (F (16 * b + k)).toInt ≤ 131072) {Q : Option Value → List va_E → Prop} (kk : ∀ P, pI F a b 16 0 P → TT G mi_Mo_mul 94 [(0, .ref 373), (1, .int (nI d)), (2, .int (nI a)), (3, .int (nI b))] [] (M.set 391 (lr 31 P)) 0 0 Q) : ∀ j k P, k + j = 16 → pI F a b k 0 P → TT G mi_Mo_mul 27 [(4, .int (nI k)), (0, .ref 373), (1, .int (nI d)), (2, .int (nI a)), (3, .int (nI b))] [] (M.set 391 (lr 31 P)) 0 0 Q := by
  intro j
  induction j with
  | zero =>
    intro k P hk h
    have : k = 16 := by omega
    subst this
    refine T_iload d_Mo_mul_27 rfl ?_
    refine T_bipush (v := nI 16) d_Mo_mul_29 (by decide) ?_
    refine T_icmp_ge d_Mo_mul_31 (tgt := 94) rfl (fun _ => ?_) (fun c => absurd (by decide) c)
    exact T_sub (fun q hq => List.mem_cons_of_mem _ hq) (kk P h)
  | succ j ih =>
    intro k P hk h
    refine T_iload d_Mo_mul_27 rfl ?_
    refine T_bipush (v := nI 16) d_Mo_mul_29 (by decide) ?_
    refine T_icmp_ge d_Mo_mul_31 (tgt := 94) rfl (fun c => absurd ((nI_leI (by decide) (by omega)).mp c) (by omega)) (fun _ => ?_)
    refine T_iconst (v := nI 0) d_Mo_mul_34 (by decide) ?_
    refine T_istore (L' := [(5, .int (nI 0)), (4, .int (nI k)), (0, .ref 373), (1, .int (nI d)), (2, .int (nI a)), (3, .int (nI b))]) d_Mo_mul_35 (by decide) rfl ?_
    refine xl_mul_2 G ho hf hd ha hb hp hA hB (by omega) (fun P1 h1 => ?_) 16 0 P rfl h
    refine T_iinc (x := nI k) (L' := [(4, .int (nI (k + 1))), (0, .ref 373), (1, .int (nI d)), (2, .int (nI a)), (3, .int (nI b))]) d_Mo_mul_88 (by decide) rfl (by rw [show Int32.ofInt 1 = nI 1 from rfl, nI_add]; rfl) ?_
    refine T_goto (tgt := 27) d_Mo_mul_91 rfl ?_
    exact ih (k + 1) P1 (by omega) (pI_row h1)
set_option maxHeartbeats 8000000 in
theorem xl_mul_4 (G : GX) {M : List va_E} {v : Nat → Int32} {d a b : Nat} {F : Nat → Int64} (ho : M[373]? = some (moO v)) (hf : M[390]? = some (lr 1024 F)) (hd : d ≤ 63) (ha : a ≤ 63) (hb : b ≤ 63) {P0 P : Nat → Int64} (hp : M[391]? = some (lr 31 P0)) {Q : Option Value → List va_E → Prop} (kk : TT G mi_Mo_mul 134 [(0, .ref 373), (1, .int (nI d)), (2, .int (nI a)), (3, .int (nI b))] [] (M.set 391 (lr 31 (lp 15 (foldP P) P))) 0 0 Q) : ∀ j k, k + j = 15 → TT G mi_Mo_mul 97 [(4, .int (nI k)), (0, .ref 373), (1, .int (nI d)), (2, .int (nI a)), (3, .int (nI b))] [] (M.set 391 (lr 31 (lp k (foldP P) P))) 0 0 Q := by
  have hl := X_len hp
  intro j
  induction j with
  | zero =>
    intro k hk
    have : k = 15 := by omega
    subst this
    refine T_iload d_Mo_mul_97 rfl ?_
    refine T_bipush (v := nI 15) d_Mo_mul_99 (by decide) ?_
    refine T_icmp_ge d_Mo_mul_101 (tgt := 134) rfl (fun _ => ?_) (fun c => absurd (by decide) c)
    exact T_sub (fun q hq => List.mem_cons_of_mem _ hq) kk
  | succ j ih =>
    intro k hk
    refine T_iload d_Mo_mul_97 rfl ?_
    refine T_bipush (v := nI 15) d_Mo_mul_99 (by decide) ?_
    refine T_icmp_ge d_Mo_mul_101 (tgt := 134) rfl (fun c => absurd ((nI_leI (by decide) (by omega)).mp c) (by omega)) (fun _ => ?_)
    refine T_aload_n (v := .ref 373) d_Mo_mul_104 rfl (Or.inr ⟨_, rfl⟩) ?_
    refine T_getfield d_Mo_mul_105 fg_Mo_133 (X_ne ho (by decide)) rfl ?_
    refine T_iload d_Mo_mul_108 rfl ?_
    refine T_dup2 d_Mo_mul_110 rfl rfl ?_
    refine T_laload d_Mo_mul_111 (List.getElem?_set_self hl) (vp_in_nI (by omega) (by decide)) ?_
    rw [nI_clamp (by omega), lp_at]
    refine T_ldc2 d_Mo_mul_112 kJ_Mo_128 ?_
    refine T_aload_n (v := .ref 373) d_Mo_mul_115 rfl (Or.inr ⟨_, rfl⟩) ?_
    refine T_getfield d_Mo_mul_116 fg_Mo_133 (X_ne ho (by decide)) rfl ?_
    refine T_iload d_Mo_mul_119 rfl ?_
    refine T_bipush (v := nI 16) d_Mo_mul_121 (by decide) ?_
    refine T_iadd d_Mo_mul_123 ?_
    rw [nI_add]
    refine T_laload d_Mo_mul_124 (List.getElem?_set_self hl) (vp_in_nI (by omega) (by decide)) ?_
    rw [nI_clamp (by omega), show lp k (foldP P) P (k + 16) = P (k + 16) by unfold lp; exact if_neg (by omega)]
    refine T_lmul d_Mo_mul_125 ?_
    refine T_ladd d_Mo_mul_126 ?_
    refine X_last (n := 31) (k := k) d_Mo_mul_127 (by decide) (by omega) (by decide) hl ?_
    rw [show vp_updL (lp k (foldP P) P) k (P k + 38 * P (k + 16)) = lp (k + 1) (foldP P) P from lp_up k (foldP P) P]
    refine T_iinc (x := nI k) (L' := [(4, .int (nI (k + 1))), (0, .ref 373), (1, .int (nI d)), (2, .int (nI a)), (3, .int (nI b))]) d_Mo_mul_128 (by decide) rfl (by rw [show Int32.ofInt 1 = nI 1 from rfl, nI_add]; rfl) ?_
    refine T_goto (tgt := 97) d_Mo_mul_131 rfl ?_
    exact ih (k + 1) (by omega)
def cpF (F : Nat → Int64) (b k : Nat) (P : Nat → Int64) : Nat → Int64 := fun j => if b ≤ j ∧ j < b + k then P (j - b) else F j
theorem cpF_0 (F : Nat → Int64) (b : Nat) (P : Nat → Int64) : cpF F b 0 P = F := by funext j; unfold cpF; rw [if_neg (by omega)]
theorem cpF_up (F : Nat → Int64) (b k : Nat) (P : Nat → Int64) : vp_updL (cpF F b k P) (b + k) (P k) = cpF F b (k + 1) P := by
  funext j
  unfold vp_updL cpF
  by_cases h : j = b + k
  · subst h; rw [if_pos rfl, if_pos (by omega), show b + k - b = k by omega]
  · rw [if_neg h]
    by_cases h2 : b ≤ j ∧ j < b + k
    · rw [if_pos h2, if_pos (by omega)]
    · rw [if_neg h2, if_neg (by omega)]
set_option maxHeartbeats 8000000 in
theorem xl_mul_5 (G : GX) {M : List va_E} {v : Nat → Int32} {d a b : Nat} {F : Nat → Int64} (ho : M[373]? = some (moO v)) (hf : M[390]? = some (lr 1024 F)) (hd : d ≤ 63) (ha : a ≤ 63) (hb : b ≤ 63) {P : Nat → Int64} (hp : M[391]? = some (lr 31 P)) {Q : Option Value → List va_E → Prop} (kk : TT G mi_Mo_mul 169 [(0, .ref 373), (1, .int (nI d)), (2, .int (nI a)), (3, .int (nI b))] [] (M.set 390 (lr 1024 (cpF F (16 * d) 16 P))) 0 0 Q) : ∀ j k, k + j = 16 → TT G mi_Mo_mul 137 [(4, .int (nI k)), (0, .ref 373), (1, .int (nI d)), (2, .int (nI a)), (3, .int (nI b))] [] (M.set 390 (lr 1024 (cpF F (16 * d) k P))) 0 0 Q := by
  have hl := X_len hf
  intro j
  induction j with
  | zero =>
    intro k hk
    have : k = 16 := by omega
    subst this
    refine T_iload d_Mo_mul_137 rfl ?_
    refine T_bipush (v := nI 16) d_Mo_mul_139 (by decide) ?_
    refine T_icmp_ge d_Mo_mul_141 (tgt := 169) rfl (fun _ => ?_) (fun c => absurd (by decide) c)
    exact T_sub (fun q hq => List.mem_cons_of_mem _ hq) kk
  | succ j ih =>
    intro k hk
    refine T_iload d_Mo_mul_137 rfl ?_
    refine T_bipush (v := nI 16) d_Mo_mul_139 (by decide) ?_
    refine T_icmp_ge d_Mo_mul_141 (tgt := 169) rfl (fun c => absurd ((nI_leI (by decide) (by omega)).mp c) (by omega)) (fun _ => ?_)
    refine T_aload_n (v := .ref 373) d_Mo_mul_144 rfl (Or.inr ⟨_, rfl⟩) ?_
    refine T_getfield d_Mo_mul_145 fg_Mo_124 (X_ne ho (by decide)) rfl ?_
    refine T_bipush (v := nI 16) d_Mo_mul_148 (by decide) ?_
    refine T_iload_n d_Mo_mul_150 rfl ?_
    refine T_imul d_Mo_mul_151 ?_
    rw [pk_mul]
    refine T_iload d_Mo_mul_152 rfl ?_
    refine T_iadd d_Mo_mul_154 ?_
    rw [nI_add]
    refine T_aload_n (v := .ref 373) d_Mo_mul_155 rfl (Or.inr ⟨_, rfl⟩) ?_
    refine T_getfield d_Mo_mul_156 fg_Mo_133 (X_ne ho (by decide)) rfl ?_
    refine T_iload d_Mo_mul_159 rfl ?_
    refine T_laload d_Mo_mul_161 (X_ne hp (by decide)) (vp_in_nI (by omega) (by decide)) ?_
    rw [nI_clamp (by omega)]
    refine X_last (n := 1024) (k := 16 * d + k) d_Mo_mul_162 (by decide) (by omega) (by decide) hl ?_
    rw [cpF_up]
    refine T_iinc (x := nI k) (L' := [(4, .int (nI (k + 1))), (0, .ref 373), (1, .int (nI d)), (2, .int (nI a)), (3, .int (nI b))]) d_Mo_mul_163 (by decide) rfl (by rw [show Int32.ofInt 1 = nI 1 from rfl, nI_add]; rfl) ?_
    refine T_goto (tgt := 137) d_Mo_mul_166 rfl ?_
    exact ih (k + 1) (by omega)
set_option maxHeartbeats 8000000 in
theorem x_Mo_mul (G : GX) {M : List va_E} {v : Nat → Int32} {d a b : Nat} {F : Nat → Int64} (ho : M[373]? = some (moO v)) (hf : M[390]? = some (lr 1024 F)) (hd : d ≤ 63) (ha : a ≤ 63) (hb : b ≤ 63) {P0 : Nat → Int64} {x y : Int} (hp : M[391]? = some (lr 31 P0)) (hx : V16 F a x) (hy : V16 F b y) : CT G mi_Mo_mul [.ref 373, .int (nI d), .int (nI a), .int (nI b)] M (fun r M' => r = none ∧ ∃ F' P', M' = (M.set 391 (lr 31 P')).set 390 (lr 1024 F') ∧ V16 F' d (x * y) ∧ ∀ j, (j < 16 * d ∨ 16 * d + 16 ≤ j) → F' j = F j) := by
  refine CT.of (by decide) (Nat.le_of_ble_eq_true rfl) ?_
  show TT G mi_Mo_mul 0 [(0, .ref 373), (1, .int (nI d)), (2, .int (nI a)), (3, .int (nI b))] [] M 0 0 _
  refine T_iconst (v := nI 0) d_Mo_mul_0 (by decide) ?_
  refine T_istore (L' := [(4, .int (nI 0)), (0, .ref 373), (1, .int (nI d)), (2, .int (nI a)), (3, .int (nI b))]) d_Mo_mul_1 (by decide) rfl ?_
  refine T_eq (M' := M.set 391 (lr 31 (lp 0 (fun _ => 0) P0))) rfl rfl rfl (by rw [lp_0]; exact X_same hp) ?_
  refine xl_mul_1 G ho hf hd ha hb hp ?_ 31 0 rfl
  refine T_iconst (v := nI 0) d_Mo_mul_24 (by decide) ?_
  refine T_istore (L' := [(4, .int (nI 0)), (0, .ref 373), (1, .int (nI d)), (2, .int (nI a)), (3, .int (nI b))]) d_Mo_mul_25 (by decide) rfl ?_
  have z0 : ∀ j, j < 31 → (lp 31 (fun _ => (0 : Int64)) P0 j).toInt = 0 := fun j hj => by unfold lp; rw [if_pos hj]; rfl
  have h0 : pI F a b 0 0 (lp 31 (fun _ => 0) P0) := by
    refine ⟨?_, fun j hj => by rw [z0 j hj]; omega⟩
    rw [sumV_congr (h := fun _ => 0) z0]
    have : ∀ n, sumV (fun _ => 0) n = 0 := fun n => by induction n with | zero => rfl | succ n ih => show sumV _ n + 0 * _ = 0; rw [ih]; simp
    rw [this]; show (0 : Int) = 0 * _ + _ * 0; simp
  refine xl_mul_3 G ho hf hd ha hb hp hx.2 hy.2 (fun P hP => ?_) 16 0 _ rfl h0
  have hb31 : ∀ j, j < 31 → -4398046511104 ≤ (P j).toInt ∧ (P j).toInt ≤ 4398046511104 := fun j hj => by have := hP.2 j hj; omega
  have hval : eqP (sumV (fun j => (P j).toInt) 31) (x * y) := by
    rw [hP.1]
    have e0 : (F (16 * a + 16)).toInt * 65536 ^ 16 * sumV (fun j => (F (16 * b + j)).toInt) 0 = 0 := by show _ * (0 : Int) = 0; simp
    rw [e0, Int.add_zero]
    exact hx.1.ml hy.1
  clear hP h0 z0
  refine T_iconst (v := nI 0) d_Mo_mul_94 (by decide) ?_
  refine T_istore (L' := [(4, .int (nI 0)), (0, .ref 373), (1, .int (nI d)), (2, .int (nI a)), (3, .int (nI b))]) d_Mo_mul_95 (by decide) rfl ?_
  refine T_eq (M' := M.set 391 (lr 31 (lp 0 (foldP P) P))) rfl rfl rfl (by rw [lp_0]) ?_
  refine xl_mul_4 G ho hf hd ha hb hp ?_ 15 0 rfl
  obtain ⟨fv, fb⟩ := fold_V hb31 (Q := lp 15 (foldP P) P) (fun j hj => by unfold lp; exact if_pos hj) (by unfold lp; exact if_neg (by decide))
  generalize lp 15 (foldP P) P = P2 at *
  refine T_iconst (v := nI 0) d_Mo_mul_134 (by decide) ?_
  refine T_istore (L' := [(4, .int (nI 0)), (0, .ref 373), (1, .int (nI d)), (2, .int (nI a)), (3, .int (nI b))]) d_Mo_mul_135 (by decide) rfl ?_
  have hf2 : (M.set 391 (lr 31 P2))[390]? = some (lr 1024 F) := X_ne hf (by decide)
  have ho2 : (M.set 391 (lr 31 P2))[373]? = some (moO v) := X_ne ho (by decide)
  have hp2 : (M.set 391 (lr 31 P2))[391]? = some (lr 31 P2) := List.getElem?_set_self (X_len hp)
  refine T_eq (M' := (M.set 391 (lr 31 P2)).set 390 (lr 1024 (cpF F (16 * d) 0 P2))) rfl rfl rfl (by rw [cpF_0]; exact X_same hf2) ?_
  refine xl_mul_5 G ho2 hf2 hd ha hb hp2 ?_ 16 0 rfl
  have ca : ∀ k, k < 16 → cpF F (16 * d) 16 P2 (16 * d + k) = P2 k := fun k hk => by unfold cpF; rw [if_pos (by omega), show 16 * d + k - 16 * d = k by omega]
  have cb : ∀ j, (j < 16 * d ∨ 16 * d + 16 ≤ j) → cpF F (16 * d) 16 P2 j = F j := fun j hj => by unfold cpF; rw [if_neg (by omega)]
  have cv : eqP (v16 (cpF F (16 * d) 16 P2) (16 * d)) (x * y) := by
    unfold v16; rw [sumV_congr (h := fun j => (P2 j).toInt) (fun k hk => by rw [ca k hk])]; exact fv.tr hval
  have cbd : ∀ k, k < 16 → -171523813933056 ≤ (cpF F (16 * d) 16 P2 (16 * d + k)).toInt ∧ (cpF F (16 * d) 16 P2 (16 * d + k)).toInt ≤ 171523813933056 := fun k hk => by rw [ca k hk]; exact fb k hk
  generalize cpF F (16 * d) 16 P2 = F1 at *
  have l1 : 390 < (M.set 391 (lr 31 P2)).length := X_len hf2
  obtain ⟨e1, a1, b1, b2⟩ := settle_V (b := 16 * d) (B := 171523813933056) (by decide) cbd
  refine T_aload_n (v := .ref 373) d_Mo_mul_169 rfl (Or.inr ⟨_, rfl⟩) ?_
  refine T_iload_n d_Mo_mul_170 rfl ?_
  refine T_virtual (as := [.int (nI d)]) (rest := []) (b := 373) d_Mo_mul_171 rfl (jw_Mo_settle.jo (by decide)) lm_Mo_130 ji_Mo_settle js_Mo_settle (X_ne ho2 (by decide)) rfl rfl rfl (Nat.le_of_ble_eq_true rfl) (by decide) (by decide) (x_Mo_settle G (X_ne ho2 (by decide)) (List.getElem?_set_self l1) hd) (fun r M2 hq => ?_)
  rw [hq.1, hq.2, List.set_set]
  clear hq r M2
  refine T_eq (pc' := 174) (L' := [(0, .ref 373), (1, .int (nI d)), (2, .int (nI a)), (3, .int (nI b))]) (st' := []) (M' := (M.set 391 (lr 31 P2)).set 390 (lr 1024 (sE F1 (16 * d)))) rfl rfl rfl rfl ?_
  have V2 := settle_V2 (F := sE F1 (16 * d)) (d := d) (x := x * y) ⟨by omega, by omega⟩ a1 (e1.tr cv)
  refine T_aload_n (v := .ref 373) d_Mo_mul_174 rfl (Or.inr ⟨_, rfl⟩) ?_
  refine T_iload_n d_Mo_mul_175 rfl ?_
  refine T_virtual (as := [.int (nI d)]) (rest := []) (b := 373) d_Mo_mul_176 rfl (jw_Mo_settle.jo (by decide)) lm_Mo_130 ji_Mo_settle js_Mo_settle (X_ne ho2 (by decide)) rfl rfl rfl (Nat.le_of_ble_eq_true rfl) (by decide) (by decide) (x_Mo_settle G (X_ne ho2 (by decide)) (List.getElem?_set_self l1) hd) (fun r M2 hq => ?_)
  rw [hq.1, hq.2, List.set_set]
  clear hq r M2
  have so : ∀ (E : Nat → Int64) j, (j < 16 * d ∨ 16 * d + 16 ≤ j) → sE E (16 * d) j = E j := fun E j hj => by unfold sE; rw [if_neg (by omega), if_neg (by omega)]
  exact T_vret d_Mo_mul_179 rfl (by decide) (by decide) ⟨rfl, _, _, rfl, V2, fun j hj => by rw [so _ j hj, so _ j hj, cb j hj]⟩
theorem cpF_rd (F : Nat → Int64) (d a k : Nat) (N : Nat → Int64) (hk : k < 16) : cpF F (16 * d) k N (16 * a + k) = F (16 * a + k) := by unfold cpF; rw [if_neg (by omega)]
theorem sumV_sub (g h : Nat → Int) (n : Nat) : sumV (fun k => g k - h k) n = sumV g n - sumV h n := by
  have := sumV_lin g h (-1) n
  rw [sumV_congr (g := fun k => g k - h k) (h := fun k => g k + -1 * h k) (fun k _ => by omega), this]; omega
theorem sumV_add (g h : Nat → Int) (n : Nat) : sumV (fun k => g k + h k) n = sumV g n + sumV h n := by
  have := sumV_lin g h 1 n
  rw [sumV_congr (g := fun k => g k + h k) (h := fun k => g k + 1 * h k) (fun k _ => by omega), this]; omega
set_option maxHeartbeats 8000000 in
theorem xl_Mo_add (G : GX) {M : List va_E} {v : Nat → Int32} {d a b : Nat} {F : Nat → Int64} (ho : M[373]? = some (moO v)) (hf : M[390]? = some (lr 1024 F)) (hd : d ≤ 63) (ha : a ≤ 63) (hb : b ≤ 63) {Q : Option Value → List va_E → Prop} (kk : TT G mi_Mo_add 53 [(0, .ref 373), (1, .int (nI d)), (2, .int (nI a)), (3, .int (nI b))] [] (M.set 390 (lr 1024 (cpF F (16 * d) 16 (fun i => F (16 * a + i) + F (16 * b + i))))) 0 0 Q) : ∀ j k, k + j = 16 → TT G mi_Mo_add 3 [(4, .int (nI k)), (0, .ref 373), (1, .int (nI d)), (2, .int (nI a)), (3, .int (nI b))] [] (M.set 390 (lr 1024 (cpF F (16 * d) k (fun i => F (16 * a + i) + F (16 * b + i))))) 0 0 Q := by
  have hl := X_len hf
  intro j
  induction j with
  | zero =>
    intro k hk
    have : k = 16 := by omega
    subst this
    refine T_iload d_Mo_add_3 rfl ?_
    refine T_bipush (v := nI 16) d_Mo_add_5 (by decide) ?_
    refine T_icmp_ge d_Mo_add_7 (tgt := 53) rfl (fun _ => ?_) (fun c => absurd (by decide) c)
    exact T_sub (fun q hq => List.mem_cons_of_mem _ hq) kk
  | succ j ih =>
    intro k hk
    refine T_iload d_Mo_add_3 rfl ?_
    refine T_bipush (v := nI 16) d_Mo_add_5 (by decide) ?_
    refine T_icmp_ge d_Mo_add_7 (tgt := 53) rfl (fun c => absurd ((nI_leI (by decide) (by omega)).mp c) (by omega)) (fun _ => ?_)
    refine T_aload_n (v := .ref 373) d_Mo_add_10 rfl (Or.inr ⟨_, rfl⟩) ?_
    refine T_getfield d_Mo_add_11 fg_Mo_124 (X_ne ho (by decide)) rfl ?_
    refine T_bipush (v := nI 16) d_Mo_add_14 (by decide) ?_
    refine T_iload_n d_Mo_add_16 rfl ?_
    refine T_imul d_Mo_add_17 ?_
    rw [pk_mul]
    refine T_iload d_Mo_add_18 rfl ?_
    refine T_iadd d_Mo_add_20 ?_
    rw [nI_add]
    refine T_aload_n (v := .ref 373) d_Mo_add_21 rfl (Or.inr ⟨_, rfl⟩) ?_
    refine T_getfield d_Mo_add_22 fg_Mo_124 (X_ne ho (by decide)) rfl ?_
    refine T_bipush (v := nI 16) d_Mo_add_25 (by decide) ?_
    refine T_iload_n d_Mo_add_27 rfl ?_
    refine T_imul d_Mo_add_28 ?_
    rw [pk_mul]
    refine T_iload d_Mo_add_29 rfl ?_
    refine T_iadd d_Mo_add_31 ?_
    rw [nI_add]
    refine T_laload d_Mo_add_32 (List.getElem?_set_self hl) (vp_in_nI (by omega) (by decide)) ?_
    rw [nI_clamp (by omega), cpF_rd F d a k _ (by omega)]
    refine T_aload_n (v := .ref 373) d_Mo_add_33 rfl (Or.inr ⟨_, rfl⟩) ?_
    refine T_getfield d_Mo_add_34 fg_Mo_124 (X_ne ho (by decide)) rfl ?_
    refine T_bipush (v := nI 16) d_Mo_add_37 (by decide) ?_
    refine T_iload_n d_Mo_add_39 rfl ?_
    refine T_imul d_Mo_add_40 ?_
    rw [pk_mul]
    refine T_iload d_Mo_add_41 rfl ?_
    refine T_iadd d_Mo_add_43 ?_
    rw [nI_add]
    refine T_laload d_Mo_add_44 (List.getElem?_set_self hl) (vp_in_nI (by omega) (by decide)) ?_
    rw [nI_clamp (by omega), cpF_rd F d b k _ (by omega)]
    refine T_ladd d_Mo_add_45 ?_
    refine X_last (n := 1024) (k := 16 * d + k) d_Mo_add_46 (by decide) (by omega) (by decide) hl ?_
    rw [show vp_updL (cpF F (16 * d) k (fun i => F (16 * a + i) + F (16 * b + i))) (16 * d + k) (F (16 * a + k) + F (16 * b + k)) = cpF F (16 * d) (k + 1) (fun i => F (16 * a + i) + F (16 * b + i)) from cpF_up F (16 * d) k (fun i => F (16 * a + i) + F (16 * b + i))]
    refine T_iinc (x := nI k) (L' := [(4, .int (nI (k + 1))), (0, .ref 373), (1, .int (nI d)), (2, .int (nI a)), (3, .int (nI b))]) d_Mo_add_47 (by decide) rfl (by rw [show Int32.ofInt 1 = nI 1 from rfl, nI_add]; rfl) ?_
    refine T_goto (tgt := 3) d_Mo_add_50 rfl ?_
    exact ih (k + 1) (by omega)
set_option maxHeartbeats 8000000 in
theorem x_Mo_add (G : GX) {M : List va_E} {v : Nat → Int32} {d a b : Nat} {F : Nat → Int64} (ho : M[373]? = some (moO v)) (hf : M[390]? = some (lr 1024 F)) (hd : d ≤ 63) (ha : a ≤ 63) (hb : b ≤ 63) {x y : Int} (hx : V16 F a x) (hy : V16 F b y) : CT G mi_Mo_add [.ref 373, .int (nI d), .int (nI a), .int (nI b)] M (fun r M' => r = none ∧ ∃ F', M' = M.set 390 (lr 1024 F') ∧ V16 F' d (x + y) ∧ ∀ j, (j < 16 * d ∨ 16 * d + 16 ≤ j) → F' j = F j) := by
  refine CT.of (by decide) (Nat.le_of_ble_eq_true rfl) ?_
  show TT G mi_Mo_add 0 [(0, .ref 373), (1, .int (nI d)), (2, .int (nI a)), (3, .int (nI b))] [] M 0 0 _
  refine T_iconst (v := nI 0) d_Mo_add_0 (by decide) ?_
  refine T_istore (L' := [(4, .int (nI 0)), (0, .ref 373), (1, .int (nI d)), (2, .int (nI a)), (3, .int (nI b))]) d_Mo_add_1 (by decide) rfl ?_
  refine T_eq (M' := M.set 390 (lr 1024 (cpF F (16 * d) 0 (fun i => F (16 * a + i) + F (16 * b + i))))) rfl rfl rfl (by rw [cpF_0]; exact X_same hf) ?_
  refine xl_Mo_add G ho hf hd ha hb ?_ 16 0 rfl
  have hl := X_len hf
  have ca : ∀ k, k < 16 → cpF F (16 * d) 16 (fun i => F (16 * a + i) + F (16 * b + i)) (16 * d + k) = F (16 * a + k) + F (16 * b + k) := fun k hk => by unfold cpF; rw [if_pos (by omega), show 16 * d + k - 16 * d = k by omega]
  have cb : ∀ j, (j < 16 * d ∨ 16 * d + 16 ≤ j) → cpF F (16 * d) 16 (fun i => F (16 * a + i) + F (16 * b + i)) j = F j := fun j hj => by unfold cpF; rw [if_neg (by omega)]
  generalize cpF F (16 * d) 16 (fun i => F (16 * a + i) + F (16 * b + i)) = F1 at *
  have ci : ∀ k, k < 16 → (F1 (16 * d + k)).toInt = (F (16 * a + k)).toInt + (F (16 * b + k)).toInt := fun k hk => by
    have p := hx.2 k hk; have q := hy.2 k hk
    have : F1 (16 * d + k) = Int64.ofInt ((F (16 * a + k)).toInt + (F (16 * b + k)).toInt) := by rw [ca k hk, Int64.ofInt_add, Int64.ofInt_toInt, Int64.ofInt_toInt]
    rw [this, oi_to (by omega) (by omega)]
  have cv : eqP (v16 F1 (16 * d)) (x + y) := by
    unfold v16; rw [sumV_congr (h := fun k => (F (16 * a + k)).toInt + (F (16 * b + k)).toInt) ci, sumV_add]; exact hx.1.ad hy.1
  have V1 := settle_V1 (F := F1) (d := d) (B := 262144) (by decide) (fun k hk => by rw [ci k hk]; have p := hx.2 k hk; have q := hy.2 k hk; omega) cv
  refine T_aload_n (v := .ref 373) d_Mo_add_53 rfl (Or.inr ⟨_, rfl⟩) ?_
  refine T_iload_n d_Mo_add_54 rfl ?_
  refine T_virtual (as := [.int (nI d)]) (rest := []) (b := 373) d_Mo_add_55 rfl (jw_Mo_settle.jo (by decide)) lm_Mo_130 ji_Mo_settle js_Mo_settle (X_ne ho (by decide)) rfl rfl rfl (Nat.le_of_ble_eq_true rfl) (by decide) (by decide) (x_Mo_settle G (X_ne ho (by decide)) (List.getElem?_set_self hl) hd) (fun r M2 hq => ?_)
  rw [hq.1, hq.2, List.set_set]
  clear hq r M2
  have so : ∀ (E : Nat → Int64) j, (j < 16 * d ∨ 16 * d + 16 ≤ j) → sE E (16 * d) j = E j := fun E j hj => by unfold sE; rw [if_neg (by omega), if_neg (by omega)]
  exact T_vret d_Mo_add_58 rfl (by decide) (by decide) ⟨rfl, _, rfl, V1, fun j hj => by rw [so _ j hj, cb j hj]⟩
set_option maxHeartbeats 8000000 in
theorem xl_Mo_sub (G : GX) {M : List va_E} {v : Nat → Int32} {d a b : Nat} {F : Nat → Int64} (ho : M[373]? = some (moO v)) (hf : M[390]? = some (lr 1024 F)) (hd : d ≤ 63) (ha : a ≤ 63) (hb : b ≤ 63) {Q : Option Value → List va_E → Prop} (kk : TT G mi_Mo_sub 53 [(0, .ref 373), (1, .int (nI d)), (2, .int (nI a)), (3, .int (nI b))] [] (M.set 390 (lr 1024 (cpF F (16 * d) 16 (fun i => F (16 * a + i) - F (16 * b + i))))) 0 0 Q) : ∀ j k, k + j = 16 → TT G mi_Mo_sub 3 [(4, .int (nI k)), (0, .ref 373), (1, .int (nI d)), (2, .int (nI a)), (3, .int (nI b))] [] (M.set 390 (lr 1024 (cpF F (16 * d) k (fun i => F (16 * a + i) - F (16 * b + i))))) 0 0 Q := by
  have hl := X_len hf
  intro j
  induction j with
  | zero =>
    intro k hk
    have : k = 16 := by omega
    subst this
    refine T_iload d_Mo_sub_3 rfl ?_
    refine T_bipush (v := nI 16) d_Mo_sub_5 (by decide) ?_
    refine T_icmp_ge d_Mo_sub_7 (tgt := 53) rfl (fun _ => ?_) (fun c => absurd (by decide) c)
    exact T_sub (fun q hq => List.mem_cons_of_mem _ hq) kk
  | succ j ih =>
    intro k hk
    refine T_iload d_Mo_sub_3 rfl ?_
    refine T_bipush (v := nI 16) d_Mo_sub_5 (by decide) ?_
    refine T_icmp_ge d_Mo_sub_7 (tgt := 53) rfl (fun c => absurd ((nI_leI (by decide) (by omega)).mp c) (by omega)) (fun _ => ?_)
    refine T_aload_n (v := .ref 373) d_Mo_sub_10 rfl (Or.inr ⟨_, rfl⟩) ?_
    refine T_getfield d_Mo_sub_11 fg_Mo_124 (X_ne ho (by decide)) rfl ?_
    refine T_bipush (v := nI 16) d_Mo_sub_14 (by decide) ?_
    refine T_iload_n d_Mo_sub_16 rfl ?_
    refine T_imul d_Mo_sub_17 ?_
    rw [pk_mul]
    refine T_iload d_Mo_sub_18 rfl ?_
    refine T_iadd d_Mo_sub_20 ?_
    rw [nI_add]
    refine T_aload_n (v := .ref 373) d_Mo_sub_21 rfl (Or.inr ⟨_, rfl⟩) ?_
    refine T_getfield d_Mo_sub_22 fg_Mo_124 (X_ne ho (by decide)) rfl ?_
    refine T_bipush (v := nI 16) d_Mo_sub_25 (by decide) ?_
    refine T_iload_n d_Mo_sub_27 rfl ?_
    refine T_imul d_Mo_sub_28 ?_
    rw [pk_mul]
    refine T_iload d_Mo_sub_29 rfl ?_
    refine T_iadd d_Mo_sub_31 ?_
    rw [nI_add]
    refine T_laload d_Mo_sub_32 (List.getElem?_set_self hl) (vp_in_nI (by omega) (by decide)) ?_
    rw [nI_clamp (by omega), cpF_rd F d a k _ (by omega)]
    refine T_aload_n (v := .ref 373) d_Mo_sub_33 rfl (Or.inr ⟨_, rfl⟩) ?_
    refine T_getfield d_Mo_sub_34 fg_Mo_124 (X_ne ho (by decide)) rfl ?_
    refine T_bipush (v := nI 16) d_Mo_sub_37 (by decide) ?_
    refine T_iload_n d_Mo_sub_39 rfl ?_
    refine T_imul d_Mo_sub_40 ?_
    rw [pk_mul]
    refine T_iload d_Mo_sub_41 rfl ?_
    refine T_iadd d_Mo_sub_43 ?_
    rw [nI_add]
    refine T_laload d_Mo_sub_44 (List.getElem?_set_self hl) (vp_in_nI (by omega) (by decide)) ?_
    rw [nI_clamp (by omega), cpF_rd F d b k _ (by omega)]
    refine T_lsub d_Mo_sub_45 ?_
    refine X_last (n := 1024) (k := 16 * d + k) d_Mo_sub_46 (by decide) (by omega) (by decide) hl ?_
    rw [show vp_updL (cpF F (16 * d) k (fun i => F (16 * a + i) - F (16 * b + i))) (16 * d + k) (F (16 * a + k) - F (16 * b + k)) = cpF F (16 * d) (k + 1) (fun i => F (16 * a + i) - F (16 * b + i)) from cpF_up F (16 * d) k (fun i => F (16 * a + i) - F (16 * b + i))]
    refine T_iinc (x := nI k) (L' := [(4, .int (nI (k + 1))), (0, .ref 373), (1, .int (nI d)), (2, .int (nI a)), (3, .int (nI b))]) d_Mo_sub_47 (by decide) rfl (by rw [show Int32.ofInt 1 = nI 1 from rfl, nI_add]; rfl) ?_
    refine T_goto (tgt := 3) d_Mo_sub_50 rfl ?_
    exact ih (k + 1) (by omega)
set_option maxHeartbeats 8000000 in
theorem x_Mo_sub (G : GX) {M : List va_E} {v : Nat → Int32} {d a b : Nat} {F : Nat → Int64} (ho : M[373]? = some (moO v)) (hf : M[390]? = some (lr 1024 F)) (hd : d ≤ 63) (ha : a ≤ 63) (hb : b ≤ 63) {x y : Int} (hx : V16 F a x) (hy : V16 F b y) : CT G mi_Mo_sub [.ref 373, .int (nI d), .int (nI a), .int (nI b)] M (fun r M' => r = none ∧ ∃ F', M' = M.set 390 (lr 1024 F') ∧ V16 F' d (x - y) ∧ ∀ j, (j < 16 * d ∨ 16 * d + 16 ≤ j) → F' j = F j) := by
  refine CT.of (by decide) (Nat.le_of_ble_eq_true rfl) ?_
  show TT G mi_Mo_sub 0 [(0, .ref 373), (1, .int (nI d)), (2, .int (nI a)), (3, .int (nI b))] [] M 0 0 _
  refine T_iconst (v := nI 0) d_Mo_sub_0 (by decide) ?_
  refine T_istore (L' := [(4, .int (nI 0)), (0, .ref 373), (1, .int (nI d)), (2, .int (nI a)), (3, .int (nI b))]) d_Mo_sub_1 (by decide) rfl ?_
  refine T_eq (M' := M.set 390 (lr 1024 (cpF F (16 * d) 0 (fun i => F (16 * a + i) - F (16 * b + i))))) rfl rfl rfl (by rw [cpF_0]; exact X_same hf) ?_
  refine xl_Mo_sub G ho hf hd ha hb ?_ 16 0 rfl
  have hl := X_len hf
  have ca : ∀ k, k < 16 → cpF F (16 * d) 16 (fun i => F (16 * a + i) - F (16 * b + i)) (16 * d + k) = F (16 * a + k) - F (16 * b + k) := fun k hk => by unfold cpF; rw [if_pos (by omega), show 16 * d + k - 16 * d = k by omega]
  have cb : ∀ j, (j < 16 * d ∨ 16 * d + 16 ≤ j) → cpF F (16 * d) 16 (fun i => F (16 * a + i) - F (16 * b + i)) j = F j := fun j hj => by unfold cpF; rw [if_neg (by omega)]
  generalize cpF F (16 * d) 16 (fun i => F (16 * a + i) - F (16 * b + i)) = F1 at *
  have ci : ∀ k, k < 16 → (F1 (16 * d + k)).toInt = (F (16 * a + k)).toInt - (F (16 * b + k)).toInt := fun k hk => by
    have p := hx.2 k hk; have q := hy.2 k hk
    have : F1 (16 * d + k) = Int64.ofInt ((F (16 * a + k)).toInt - (F (16 * b + k)).toInt) := by rw [ca k hk, Int64.ofInt_sub, Int64.ofInt_toInt, Int64.ofInt_toInt]
    rw [this, oi_to (by omega) (by omega)]
  have cv : eqP (v16 F1 (16 * d)) (x - y) := by
    unfold v16; rw [sumV_congr (h := fun k => (F (16 * a + k)).toInt - (F (16 * b + k)).toInt) ci, sumV_sub]; exact hx.1.sb hy.1
  have V1 := settle_V1 (F := F1) (d := d) (B := 262144) (by decide) (fun k hk => by rw [ci k hk]; have p := hx.2 k hk; have q := hy.2 k hk; omega) cv
  refine T_aload_n (v := .ref 373) d_Mo_sub_53 rfl (Or.inr ⟨_, rfl⟩) ?_
  refine T_iload_n d_Mo_sub_54 rfl ?_
  refine T_virtual (as := [.int (nI d)]) (rest := []) (b := 373) d_Mo_sub_55 rfl (jw_Mo_settle.jo (by decide)) lm_Mo_130 ji_Mo_settle js_Mo_settle (X_ne ho (by decide)) rfl rfl rfl (Nat.le_of_ble_eq_true rfl) (by decide) (by decide) (x_Mo_settle G (X_ne ho (by decide)) (List.getElem?_set_self hl) hd) (fun r M2 hq => ?_)
  rw [hq.1, hq.2, List.set_set]
  clear hq r M2
  have so : ∀ (E : Nat → Int64) j, (j < 16 * d ∨ 16 * d + 16 ≤ j) → sE E (16 * d) j = E j := fun E j hj => by unfold sE; rw [if_neg (by omega), if_neg (by omega)]
  exact T_vret d_Mo_sub_58 rfl (by decide) (by decide) ⟨rfl, _, rfl, V1, fun j hj => by rw [so _ j hj, cb j hj]⟩
set_option maxHeartbeats 8000000 in
theorem xl_Mo_set (G : GX) {M : List va_E} {v : Nat → Int32} {d a : Nat} {F : Nat → Int64} (ho : M[373]? = some (moO v)) (hf : M[390]? = some (lr 1024 F)) (hd : d ≤ 63) (ha : a ≤ 63) {Q : Option Value → List va_E → Prop} (kk : TT G mi_Mo_set 36 [(0, .ref 373), (1, .int (nI d)), (2, .int (nI a))] [] (M.set 390 (lr 1024 (cpF F (16 * d) 16 (fun i => F (16 * a + i))))) 0 0 Q) : ∀ j k, k + j = 16 → TT G mi_Mo_set 2 [(3, .int (nI k)), (0, .ref 373), (1, .int (nI d)), (2, .int (nI a))] [] (M.set 390 (lr 1024 (cpF F (16 * d) k (fun i => F (16 * a + i))))) 0 0 Q := by
  have hl := X_len hf
  intro j
  induction j with
  | zero =>
    intro k hk
    have : k = 16 := by omega
    subst this
    refine T_iload_n d_Mo_set_2 rfl ?_
    refine T_bipush (v := nI 16) d_Mo_set_3 (by decide) ?_
    refine T_icmp_ge d_Mo_set_5 (tgt := 36) rfl (fun _ => ?_) (fun c => absurd (by decide) c)
    exact T_sub (fun q hq => List.mem_cons_of_mem _ hq) kk
  | succ j ih =>
    intro k hk
    refine T_iload_n d_Mo_set_2 rfl ?_
    refine T_bipush (v := nI 16) d_Mo_set_3 (by decide) ?_
    refine T_icmp_ge d_Mo_set_5 (tgt := 36) rfl (fun c => absurd ((nI_leI (by decide) (by omega)).mp c) (by omega)) (fun _ => ?_)
    refine T_aload_n (v := .ref 373) d_Mo_set_8 rfl (Or.inr ⟨_, rfl⟩) ?_
    refine T_getfield d_Mo_set_9 fg_Mo_124 (X_ne ho (by decide)) rfl ?_
    refine T_bipush (v := nI 16) d_Mo_set_12 (by decide) ?_
    refine T_iload_n d_Mo_set_14 rfl ?_
    refine T_imul d_Mo_set_15 ?_
    rw [pk_mul]
    refine T_iload_n d_Mo_set_16 rfl ?_
    refine T_iadd d_Mo_set_17 ?_
    rw [nI_add]
    refine T_aload_n (v := .ref 373) d_Mo_set_18 rfl (Or.inr ⟨_, rfl⟩) ?_
    refine T_getfield d_Mo_set_19 fg_Mo_124 (X_ne ho (by decide)) rfl ?_
    refine T_bipush (v := nI 16) d_Mo_set_22 (by decide) ?_
    refine T_iload_n d_Mo_set_24 rfl ?_
    refine T_imul d_Mo_set_25 ?_
    rw [pk_mul]
    refine T_iload_n d_Mo_set_26 rfl ?_
    refine T_iadd d_Mo_set_27 ?_
    rw [nI_add]
    refine T_laload d_Mo_set_28 (List.getElem?_set_self hl) (vp_in_nI (by omega) (by decide)) ?_
    rw [nI_clamp (by omega), cpF_rd F d a k _ (by omega)]
    refine X_last (n := 1024) (k := 16 * d + k) d_Mo_set_29 (by decide) (by omega) (by decide) hl ?_
    rw [show vp_updL (cpF F (16 * d) k (fun i => F (16 * a + i))) (16 * d + k) (F (16 * a + k)) = cpF F (16 * d) (k + 1) (fun i => F (16 * a + i)) from cpF_up F (16 * d) k (fun i => F (16 * a + i))]
    refine T_iinc (x := nI k) (L' := [(3, .int (nI (k + 1))), (0, .ref 373), (1, .int (nI d)), (2, .int (nI a))]) d_Mo_set_30 (by decide) rfl (by rw [show Int32.ofInt 1 = nI 1 from rfl, nI_add]; rfl) ?_
    refine T_goto (tgt := 2) d_Mo_set_33 rfl ?_
    exact ih (k + 1) (by omega)
set_option maxHeartbeats 8000000 in
theorem x_Mo_set (G : GX) {M : List va_E} {v : Nat → Int32} {d a : Nat} {F : Nat → Int64} (ho : M[373]? = some (moO v)) (hf : M[390]? = some (lr 1024 F)) (hd : d ≤ 63) (ha : a ≤ 63) {x : Int} (hx : V16 F a x) : CT G mi_Mo_set [.ref 373, .int (nI d), .int (nI a)] M (fun r M' => r = none ∧ ∃ F', M' = M.set 390 (lr 1024 F') ∧ V16 F' d (x) ∧ ∀ j, (j < 16 * d ∨ 16 * d + 16 ≤ j) → F' j = F j) := by
  refine CT.of (by decide) (Nat.le_of_ble_eq_true rfl) ?_
  show TT G mi_Mo_set 0 [(0, .ref 373), (1, .int (nI d)), (2, .int (nI a))] [] M 0 0 _
  refine T_iconst (v := nI 0) d_Mo_set_0 (by decide) ?_
  refine T_istore_n (L' := [(3, .int (nI 0)), (0, .ref 373), (1, .int (nI d)), (2, .int (nI a))]) d_Mo_set_1 (by decide) rfl ?_
  refine T_eq (M' := M.set 390 (lr 1024 (cpF F (16 * d) 0 (fun i => F (16 * a + i))))) rfl rfl rfl (by rw [cpF_0]; exact X_same hf) ?_
  refine xl_Mo_set G ho hf hd ha ?_ 16 0 rfl
  have hl := X_len hf
  have ca : ∀ k, k < 16 → cpF F (16 * d) 16 (fun i => F (16 * a + i)) (16 * d + k) = F (16 * a + k) := fun k hk => by unfold cpF; rw [if_pos (by omega), show 16 * d + k - 16 * d = k by omega]
  have cb : ∀ j, (j < 16 * d ∨ 16 * d + 16 ≤ j) → cpF F (16 * d) 16 (fun i => F (16 * a + i)) j = F j := fun j hj => by unfold cpF; rw [if_neg (by omega)]
  generalize cpF F (16 * d) 16 (fun i => F (16 * a + i)) = F1 at *
  have V1 : V16 F1 d x := ⟨by unfold v16; rw [sumV_congr (h := fun k => (F (16 * a + k)).toInt) (fun k hk => by rw [ca k hk])]; exact hx.1, fun k hk => by rw [ca k hk]; exact hx.2 k hk⟩
  exact T_vret d_Mo_set_36 rfl (by decide) (by decide) ⟨rfl, _, rfl, V1, cb⟩
abbrev ir (n : Nat) (f : Nat → Int32) : va_E := .inl (2, n, .inl f)
abbrev zr (n : Nat) (f : Nat → Int32) : va_E := .inl (3, n, .inl f)
theorem nI_sub {a b : Nat} (h : a ≤ b) : nI b - nI a = nI (b - a) := (Int32.ofNat_sub b a h).symm
theorem nI_div {a b : Nat} (ha : a < 2 ^ 31) (hb : b < 2 ^ 31) : nI b / nI a = nI (b / a) := by
  apply Int32.toInt_inj.mp
  have h1 := Nat.div_le_self b a
  rw [Int32.toInt_div, nI_toInt ha, nI_toInt hb, nI_toInt (by omega)]
  rw [show ((b : Int)).tdiv (a : Int) = ((b / a : Nat) : Int) from rfl]
  have h2 : b / a < 2 ^ 31 := by omega
  generalize b / a = q at *
  apply Int.bmod_eq_of_le <;> omega
theorem nI_rem {a b : Nat} (ha : a < 2 ^ 31) (hb : b < 2 ^ 31) : nI b - nI b / nI a * nI a = nI (b % a) := by
  have h1 := Nat.div_mul_le_self b a
  rw [nI_div ha hb, pk_mul, nI_sub h1]
  congr 1
  have := Nat.mod_add_div b a
  have e : a * (b / a) = b / a * a := Nat.mul_comm _ _
  omega
theorem nI_m1 (k : Nat) : nI (k + 1) + Int32.ofInt (-1) = nI k := by
  have h : nI (k + 1) = nI k + 1 := nI_succ k
  rw [h, show Int32.ofInt (-1) = -1 from rfl, Int32.add_assoc]
  show nI k + (1 + -1) = nI k
  rw [show (1 + -1 : Int32) = 0 from rfl, Int32.add_zero]
section NR
variable {G : GX} {mi : MI} {pc : Nat} {L : List (Nat × Value)} {st : List Value} {M : List va_E} {kc ks : Nat} {Q : Option Value → List va_E → Prop} {a n k b c : Nat}
theorem N_iadd (hd : decode (mC mi) pc = .ok (.iadd, 1))  (hc : b + a = c) (kk : TT G mi (pc + 1) L (.int (nI c) :: st) M kc ks Q) : TT G mi pc L (.int (nI a) :: .int (nI b) :: st) M kc ks Q := T_iadd hd (by rw [nI_add, hc]; exact kk)
theorem N_imul (hd : decode (mC mi) pc = .ok (.imul, 1))  (hc : b * a = c) (kk : TT G mi (pc + 1) L (.int (nI c) :: st) M kc ks Q) : TT G mi pc L (.int (nI a) :: .int (nI b) :: st) M kc ks Q := T_imul hd (by rw [pk_mul, hc]; exact kk)
theorem N_isub (hd : decode (mC mi) pc = .ok (.isub, 1)) (h : a ≤ b) (hc : b - a = c) (kk : TT G mi (pc + 1) L (.int (nI c) :: st) M kc ks Q) : TT G mi pc L (.int (nI a) :: .int (nI b) :: st) M kc ks Q := T_isub hd (by rw [nI_sub h, hc]; exact kk)
theorem N_idiv (hd : decode (mC mi) pc = .ok (.idiv, 1)) (h0 : 0 < a) (ha : a < 2 ^ 31) (hb : b < 2 ^ 31) (hc : b / a = c) (kk : TT G mi (pc + 1) L (.int (nI c) :: st) M kc ks Q) : TT G mi pc L (.int (nI a) :: .int (nI b) :: st) M kc ks Q := T_idiv hd (fun e => absurd e (nI_ne0 h0 ha)) (by rw [nI_div ha hb, hc]; exact kk)
theorem N_irem (hd : decode (mC mi) pc = .ok (.irem, 1)) (h0 : 0 < a) (ha : a < 2 ^ 31) (hb : b < 2 ^ 31) (hc : b % a = c) (kk : TT G mi (pc + 1) L (.int (nI c) :: st) M kc ks Q) : TT G mi pc L (.int (nI a) :: .int (nI b) :: st) M kc ks Q := T_irem hd (fun e => absurd e (nI_ne0 h0 ha)) (by rw [nI_rem ha hb, hc]; exact kk)
theorem N_iinc {j m : Nat} {z : Int} {L' : List (Nat × Value)} (hd : decode (mC mi) pc = .ok (.iinc j z, 3)) (hn : j < mL mi) (hx : lk L j = some (.int (nI k))) (hz : Int32.ofInt z = nI m) (hc : k + m = c) (hl : st1 L j (.int (nI c)) = L') (kk : TT G mi (pc + 3) L' st M kc ks Q) : TT G mi pc L st M kc ks Q := T_iinc hd hn hx (by rw [hz, nI_add, hc]; exact hl) kk
theorem N_idec {j : Nat} {L' : List (Nat × Value)} (hd : decode (mC mi) pc = .ok (.iinc j (-1), 3)) (hn : j < mL mi) (hx : lk L j = some (.int (nI (k + 1)))) (hl : st1 L j (.int (nI k)) = L') (kk : TT G mi (pc + 3) L' st M kc ks Q) : TT G mi pc L st M kc ks Q := T_iinc hd hn hx (by rw [nI_m1]; exact hl) kk
theorem N_icmp_eq {off : Int} {tgt : Nat} (hd : decode (mC mi) pc = .ok (.if_icmp .eq off, 3)) (ht : (pc : Int) + off = (tgt : Int)) (ha : a < 2 ^ 31) (hb : b < 2 ^ 31) (kt : b = a → TT G mi tgt L st M kc ks Q) (kf : ¬ (b = a) → TT G mi (pc + 3) L st M kc ks Q) : TT G mi pc L (.int (nI a) :: .int (nI b) :: st) M kc ks Q := T_icmp_eq hd ht (fun e => kt ((nI_eq hb ha).mp e)) (fun e => kf (fun z => e ((nI_eq hb ha).mpr z)))
theorem N_icmp_eq_t {off : Int} {tgt : Nat} (hd : decode (mC mi) pc = .ok (.if_icmp .eq off, 3)) (ht : (pc : Int) + off = (tgt : Int)) (ha : a < 2 ^ 31) (hb : b < 2 ^ 31) (h : b = a) (kt : TT G mi tgt L st M kc ks Q) : TT G mi pc L (.int (nI a) :: .int (nI b) :: st) M kc ks Q := N_icmp_eq hd ht ha hb (fun _ => kt) (fun e => absurd h e)
theorem N_icmp_eq_f {off : Int} {tgt : Nat} (hd : decode (mC mi) pc = .ok (.if_icmp .eq off, 3)) (ht : (pc : Int) + off = (tgt : Int)) (ha : a < 2 ^ 31) (hb : b < 2 ^ 31) (h : ¬ (b = a)) (kf : TT G mi (pc + 3) L st M kc ks Q) : TT G mi pc L (.int (nI a) :: .int (nI b) :: st) M kc ks Q := N_icmp_eq hd ht ha hb (fun e => absurd e h) (fun _ => kf)
theorem N_if_eq {off : Int} {tgt : Nat} (hd : decode (mC mi) pc = .ok (.ifCond .eq off, 3)) (ht : (pc : Int) + off = (tgt : Int)) (hb : b < 2 ^ 31) (kt : b = 0 → TT G mi tgt L st M kc ks Q) (kf : ¬ (b = 0) → TT G mi (pc + 3) L st M kc ks Q) : TT G mi pc L (.int (nI b) :: st) M kc ks Q := T_if_eq hd ht (fun e => kt ((nI_eq hb (by decide)).mp e)) (fun e => kf (fun z => e ((nI_eq hb (by decide)).mpr z)))
theorem N_if_eq_t {off : Int} {tgt : Nat} (hd : decode (mC mi) pc = .ok (.ifCond .eq off, 3)) (ht : (pc : Int) + off = (tgt : Int)) (hb : b < 2 ^ 31) (h : b = 0) (kt : TT G mi tgt L st M kc ks Q) : TT G mi pc L (.int (nI b) :: st) M kc ks Q := N_if_eq hd ht hb (fun _ => kt) (fun e => absurd h e)
theorem N_if_eq_f {off : Int} {tgt : Nat} (hd : decode (mC mi) pc = .ok (.ifCond .eq off, 3)) (ht : (pc : Int) + off = (tgt : Int)) (hb : b < 2 ^ 31) (h : ¬ (b = 0)) (kf : TT G mi (pc + 3) L st M kc ks Q) : TT G mi pc L (.int (nI b) :: st) M kc ks Q := N_if_eq hd ht hb (fun e => absurd e h) (fun _ => kf)
theorem N_icmp_ne {off : Int} {tgt : Nat} (hd : decode (mC mi) pc = .ok (.if_icmp .ne off, 3)) (ht : (pc : Int) + off = (tgt : Int)) (ha : a < 2 ^ 31) (hb : b < 2 ^ 31) (kt : b ≠ a → TT G mi tgt L st M kc ks Q) (kf : ¬ (b ≠ a) → TT G mi (pc + 3) L st M kc ks Q) : TT G mi pc L (.int (nI a) :: .int (nI b) :: st) M kc ks Q := T_icmp_ne hd ht (fun e => kt ((not_congr (nI_eq hb ha)).mp e)) (fun e => kf (fun z => z ((nI_eq hb ha).mp e)))
theorem N_icmp_ne_t {off : Int} {tgt : Nat} (hd : decode (mC mi) pc = .ok (.if_icmp .ne off, 3)) (ht : (pc : Int) + off = (tgt : Int)) (ha : a < 2 ^ 31) (hb : b < 2 ^ 31) (h : b ≠ a) (kt : TT G mi tgt L st M kc ks Q) : TT G mi pc L (.int (nI a) :: .int (nI b) :: st) M kc ks Q := N_icmp_ne hd ht ha hb (fun _ => kt) (fun e => absurd h e)
theorem N_icmp_ne_f {off : Int} {tgt : Nat} (hd : decode (mC mi) pc = .ok (.if_icmp .ne off, 3)) (ht : (pc : Int) + off = (tgt : Int)) (ha : a < 2 ^ 31) (hb : b < 2 ^ 31) (h : ¬ (b ≠ a)) (kf : TT G mi (pc + 3) L st M kc ks Q) : TT G mi pc L (.int (nI a) :: .int (nI b) :: st) M kc ks Q := N_icmp_ne hd ht ha hb (fun e => absurd e h) (fun _ => kf)
theorem N_if_ne {off : Int} {tgt : Nat} (hd : decode (mC mi) pc = .ok (.ifCond .ne off, 3)) (ht : (pc : Int) + off = (tgt : Int)) (hb : b < 2 ^ 31) (kt : b ≠ 0 → TT G mi tgt L st M kc ks Q) (kf : ¬ (b ≠ 0) → TT G mi (pc + 3) L st M kc ks Q) : TT G mi pc L (.int (nI b) :: st) M kc ks Q := T_if_ne hd ht (fun e => kt ((not_congr (nI_eq hb (by decide))).mp e)) (fun e => kf (fun z => z ((nI_eq hb (by decide)).mp e)))
theorem N_if_ne_t {off : Int} {tgt : Nat} (hd : decode (mC mi) pc = .ok (.ifCond .ne off, 3)) (ht : (pc : Int) + off = (tgt : Int)) (hb : b < 2 ^ 31) (h : b ≠ 0) (kt : TT G mi tgt L st M kc ks Q) : TT G mi pc L (.int (nI b) :: st) M kc ks Q := N_if_ne hd ht hb (fun _ => kt) (fun e => absurd h e)
theorem N_if_ne_f {off : Int} {tgt : Nat} (hd : decode (mC mi) pc = .ok (.ifCond .ne off, 3)) (ht : (pc : Int) + off = (tgt : Int)) (hb : b < 2 ^ 31) (h : ¬ (b ≠ 0)) (kf : TT G mi (pc + 3) L st M kc ks Q) : TT G mi pc L (.int (nI b) :: st) M kc ks Q := N_if_ne hd ht hb (fun e => absurd e h) (fun _ => kf)
theorem N_icmp_lt {off : Int} {tgt : Nat} (hd : decode (mC mi) pc = .ok (.if_icmp .lt off, 3)) (ht : (pc : Int) + off = (tgt : Int)) (ha : a < 2 ^ 31) (hb : b < 2 ^ 31) (kt : b < a → TT G mi tgt L st M kc ks Q) (kf : ¬ (b < a) → TT G mi (pc + 3) L st M kc ks Q) : TT G mi pc L (.int (nI a) :: .int (nI b) :: st) M kc ks Q := T_icmp_lt hd ht (fun e => kt ((nI_ltI hb ha).mp e)) (fun e => kf (fun z => e ((nI_ltI hb ha).mpr z)))
theorem N_icmp_lt_t {off : Int} {tgt : Nat} (hd : decode (mC mi) pc = .ok (.if_icmp .lt off, 3)) (ht : (pc : Int) + off = (tgt : Int)) (ha : a < 2 ^ 31) (hb : b < 2 ^ 31) (h : b < a) (kt : TT G mi tgt L st M kc ks Q) : TT G mi pc L (.int (nI a) :: .int (nI b) :: st) M kc ks Q := N_icmp_lt hd ht ha hb (fun _ => kt) (fun e => absurd h e)
theorem N_icmp_lt_f {off : Int} {tgt : Nat} (hd : decode (mC mi) pc = .ok (.if_icmp .lt off, 3)) (ht : (pc : Int) + off = (tgt : Int)) (ha : a < 2 ^ 31) (hb : b < 2 ^ 31) (h : ¬ (b < a)) (kf : TT G mi (pc + 3) L st M kc ks Q) : TT G mi pc L (.int (nI a) :: .int (nI b) :: st) M kc ks Q := N_icmp_lt hd ht ha hb (fun e => absurd e h) (fun _ => kf)
theorem N_if_lt {off : Int} {tgt : Nat} (hd : decode (mC mi) pc = .ok (.ifCond .lt off, 3)) (ht : (pc : Int) + off = (tgt : Int)) (hb : b < 2 ^ 31) (kt : b < 0 → TT G mi tgt L st M kc ks Q) (kf : ¬ (b < 0) → TT G mi (pc + 3) L st M kc ks Q) : TT G mi pc L (.int (nI b) :: st) M kc ks Q := T_if_lt hd ht (fun e => kt ((nI_ltI hb (by decide)).mp e)) (fun e => kf (fun z => e ((nI_ltI hb (by decide)).mpr z)))
theorem N_if_lt_t {off : Int} {tgt : Nat} (hd : decode (mC mi) pc = .ok (.ifCond .lt off, 3)) (ht : (pc : Int) + off = (tgt : Int)) (hb : b < 2 ^ 31) (h : b < 0) (kt : TT G mi tgt L st M kc ks Q) : TT G mi pc L (.int (nI b) :: st) M kc ks Q := N_if_lt hd ht hb (fun _ => kt) (fun e => absurd h e)
theorem N_if_lt_f {off : Int} {tgt : Nat} (hd : decode (mC mi) pc = .ok (.ifCond .lt off, 3)) (ht : (pc : Int) + off = (tgt : Int)) (hb : b < 2 ^ 31) (h : ¬ (b < 0)) (kf : TT G mi (pc + 3) L st M kc ks Q) : TT G mi pc L (.int (nI b) :: st) M kc ks Q := N_if_lt hd ht hb (fun e => absurd e h) (fun _ => kf)
theorem N_icmp_ge {off : Int} {tgt : Nat} (hd : decode (mC mi) pc = .ok (.if_icmp .ge off, 3)) (ht : (pc : Int) + off = (tgt : Int)) (ha : a < 2 ^ 31) (hb : b < 2 ^ 31) (kt : a ≤ b → TT G mi tgt L st M kc ks Q) (kf : ¬ (a ≤ b) → TT G mi (pc + 3) L st M kc ks Q) : TT G mi pc L (.int (nI a) :: .int (nI b) :: st) M kc ks Q := T_icmp_ge hd ht (fun e => kt ((nI_leI ha hb).mp e)) (fun e => kf (fun z => e ((nI_leI ha hb).mpr z)))
theorem N_icmp_ge_t {off : Int} {tgt : Nat} (hd : decode (mC mi) pc = .ok (.if_icmp .ge off, 3)) (ht : (pc : Int) + off = (tgt : Int)) (ha : a < 2 ^ 31) (hb : b < 2 ^ 31) (h : a ≤ b) (kt : TT G mi tgt L st M kc ks Q) : TT G mi pc L (.int (nI a) :: .int (nI b) :: st) M kc ks Q := N_icmp_ge hd ht ha hb (fun _ => kt) (fun e => absurd h e)
theorem N_icmp_ge_f {off : Int} {tgt : Nat} (hd : decode (mC mi) pc = .ok (.if_icmp .ge off, 3)) (ht : (pc : Int) + off = (tgt : Int)) (ha : a < 2 ^ 31) (hb : b < 2 ^ 31) (h : ¬ (a ≤ b)) (kf : TT G mi (pc + 3) L st M kc ks Q) : TT G mi pc L (.int (nI a) :: .int (nI b) :: st) M kc ks Q := N_icmp_ge hd ht ha hb (fun e => absurd e h) (fun _ => kf)
theorem N_if_ge {off : Int} {tgt : Nat} (hd : decode (mC mi) pc = .ok (.ifCond .ge off, 3)) (ht : (pc : Int) + off = (tgt : Int)) (hb : b < 2 ^ 31) (kt : 0 ≤ b → TT G mi tgt L st M kc ks Q) (kf : ¬ (0 ≤ b) → TT G mi (pc + 3) L st M kc ks Q) : TT G mi pc L (.int (nI b) :: st) M kc ks Q := T_if_ge hd ht (fun e => kt ((nI_leI (by decide) hb).mp e)) (fun e => kf (fun z => e ((nI_leI (by decide) hb).mpr z)))
theorem N_if_ge_t {off : Int} {tgt : Nat} (hd : decode (mC mi) pc = .ok (.ifCond .ge off, 3)) (ht : (pc : Int) + off = (tgt : Int)) (hb : b < 2 ^ 31) (h : 0 ≤ b) (kt : TT G mi tgt L st M kc ks Q) : TT G mi pc L (.int (nI b) :: st) M kc ks Q := N_if_ge hd ht hb (fun _ => kt) (fun e => absurd h e)
theorem N_if_ge_f {off : Int} {tgt : Nat} (hd : decode (mC mi) pc = .ok (.ifCond .ge off, 3)) (ht : (pc : Int) + off = (tgt : Int)) (hb : b < 2 ^ 31) (h : ¬ (0 ≤ b)) (kf : TT G mi (pc + 3) L st M kc ks Q) : TT G mi pc L (.int (nI b) :: st) M kc ks Q := N_if_ge hd ht hb (fun e => absurd e h) (fun _ => kf)
theorem N_icmp_gt {off : Int} {tgt : Nat} (hd : decode (mC mi) pc = .ok (.if_icmp .gt off, 3)) (ht : (pc : Int) + off = (tgt : Int)) (ha : a < 2 ^ 31) (hb : b < 2 ^ 31) (kt : a < b → TT G mi tgt L st M kc ks Q) (kf : ¬ (a < b) → TT G mi (pc + 3) L st M kc ks Q) : TT G mi pc L (.int (nI a) :: .int (nI b) :: st) M kc ks Q := T_icmp_gt hd ht (fun e => kt ((nI_ltI ha hb).mp e)) (fun e => kf (fun z => e ((nI_ltI ha hb).mpr z)))
theorem N_icmp_gt_t {off : Int} {tgt : Nat} (hd : decode (mC mi) pc = .ok (.if_icmp .gt off, 3)) (ht : (pc : Int) + off = (tgt : Int)) (ha : a < 2 ^ 31) (hb : b < 2 ^ 31) (h : a < b) (kt : TT G mi tgt L st M kc ks Q) : TT G mi pc L (.int (nI a) :: .int (nI b) :: st) M kc ks Q := N_icmp_gt hd ht ha hb (fun _ => kt) (fun e => absurd h e)
theorem N_icmp_gt_f {off : Int} {tgt : Nat} (hd : decode (mC mi) pc = .ok (.if_icmp .gt off, 3)) (ht : (pc : Int) + off = (tgt : Int)) (ha : a < 2 ^ 31) (hb : b < 2 ^ 31) (h : ¬ (a < b)) (kf : TT G mi (pc + 3) L st M kc ks Q) : TT G mi pc L (.int (nI a) :: .int (nI b) :: st) M kc ks Q := N_icmp_gt hd ht ha hb (fun e => absurd e h) (fun _ => kf)
theorem N_if_gt {off : Int} {tgt : Nat} (hd : decode (mC mi) pc = .ok (.ifCond .gt off, 3)) (ht : (pc : Int) + off = (tgt : Int)) (hb : b < 2 ^ 31) (kt : 0 < b → TT G mi tgt L st M kc ks Q) (kf : ¬ (0 < b) → TT G mi (pc + 3) L st M kc ks Q) : TT G mi pc L (.int (nI b) :: st) M kc ks Q := T_if_gt hd ht (fun e => kt ((nI_ltI (by decide) hb).mp e)) (fun e => kf (fun z => e ((nI_ltI (by decide) hb).mpr z)))
theorem N_if_gt_t {off : Int} {tgt : Nat} (hd : decode (mC mi) pc = .ok (.ifCond .gt off, 3)) (ht : (pc : Int) + off = (tgt : Int)) (hb : b < 2 ^ 31) (h : 0 < b) (kt : TT G mi tgt L st M kc ks Q) : TT G mi pc L (.int (nI b) :: st) M kc ks Q := N_if_gt hd ht hb (fun _ => kt) (fun e => absurd h e)
theorem N_if_gt_f {off : Int} {tgt : Nat} (hd : decode (mC mi) pc = .ok (.ifCond .gt off, 3)) (ht : (pc : Int) + off = (tgt : Int)) (hb : b < 2 ^ 31) (h : ¬ (0 < b)) (kf : TT G mi (pc + 3) L st M kc ks Q) : TT G mi pc L (.int (nI b) :: st) M kc ks Q := N_if_gt hd ht hb (fun e => absurd e h) (fun _ => kf)
theorem N_icmp_le {off : Int} {tgt : Nat} (hd : decode (mC mi) pc = .ok (.if_icmp .le off, 3)) (ht : (pc : Int) + off = (tgt : Int)) (ha : a < 2 ^ 31) (hb : b < 2 ^ 31) (kt : b ≤ a → TT G mi tgt L st M kc ks Q) (kf : ¬ (b ≤ a) → TT G mi (pc + 3) L st M kc ks Q) : TT G mi pc L (.int (nI a) :: .int (nI b) :: st) M kc ks Q := T_icmp_le hd ht (fun e => kt ((nI_leI hb ha).mp e)) (fun e => kf (fun z => e ((nI_leI hb ha).mpr z)))
theorem N_icmp_le_t {off : Int} {tgt : Nat} (hd : decode (mC mi) pc = .ok (.if_icmp .le off, 3)) (ht : (pc : Int) + off = (tgt : Int)) (ha : a < 2 ^ 31) (hb : b < 2 ^ 31) (h : b ≤ a) (kt : TT G mi tgt L st M kc ks Q) : TT G mi pc L (.int (nI a) :: .int (nI b) :: st) M kc ks Q := N_icmp_le hd ht ha hb (fun _ => kt) (fun e => absurd h e)
theorem N_icmp_le_f {off : Int} {tgt : Nat} (hd : decode (mC mi) pc = .ok (.if_icmp .le off, 3)) (ht : (pc : Int) + off = (tgt : Int)) (ha : a < 2 ^ 31) (hb : b < 2 ^ 31) (h : ¬ (b ≤ a)) (kf : TT G mi (pc + 3) L st M kc ks Q) : TT G mi pc L (.int (nI a) :: .int (nI b) :: st) M kc ks Q := N_icmp_le hd ht ha hb (fun e => absurd e h) (fun _ => kf)
theorem N_if_le {off : Int} {tgt : Nat} (hd : decode (mC mi) pc = .ok (.ifCond .le off, 3)) (ht : (pc : Int) + off = (tgt : Int)) (hb : b < 2 ^ 31) (kt : b ≤ 0 → TT G mi tgt L st M kc ks Q) (kf : ¬ (b ≤ 0) → TT G mi (pc + 3) L st M kc ks Q) : TT G mi pc L (.int (nI b) :: st) M kc ks Q := T_if_le hd ht (fun e => kt ((nI_leI hb (by decide)).mp e)) (fun e => kf (fun z => e ((nI_leI hb (by decide)).mpr z)))
theorem N_if_le_t {off : Int} {tgt : Nat} (hd : decode (mC mi) pc = .ok (.ifCond .le off, 3)) (ht : (pc : Int) + off = (tgt : Int)) (hb : b < 2 ^ 31) (h : b ≤ 0) (kt : TT G mi tgt L st M kc ks Q) : TT G mi pc L (.int (nI b) :: st) M kc ks Q := N_if_le hd ht hb (fun _ => kt) (fun e => absurd h e)
theorem N_if_le_f {off : Int} {tgt : Nat} (hd : decode (mC mi) pc = .ok (.ifCond .le off, 3)) (ht : (pc : Int) + off = (tgt : Int)) (hb : b < 2 ^ 31) (h : ¬ (b ≤ 0)) (kf : TT G mi (pc + 3) L st M kc ks Q) : TT G mi pc L (.int (nI b) :: st) M kc ks Q := N_if_le hd ht hb (fun e => absurd e h) (fun _ => kf)
theorem N_iaload {f : Nat → Int32} {x : Int32} (hd : decode (mC mi) pc = .ok (.iaload, 1)) (hm : M[a]? = some (ir n f)) (hk : k < n) (hn : n < 2 ^ 31) (hx : f k = x) (kk : TT G mi (pc + 1) L (.int x :: st) M kc ks Q) : TT G mi pc L (.int (nI k) :: .ref a :: st) M kc ks Q := T_iaload hd hm (vp_in_nI hk hn) (by rw [nI_clamp (by omega), hx]; exact kk)
theorem N_iastore {f F : Nat → Int32} {x : Int32} (hd : decode (mC mi) pc = .ok (.iastore, 1)) (ha : K0 ≤ a) (hm : M[a]? = some (ir n f)) (hk : k < n) (hn : n < 2 ^ 31) (hF : upd f k x = F) (kk : ∀ M', M'[a]? = some (ir n F) → Ex a M M' → TT G mi (pc + 1) L st M' kc ks Q) : TT G mi pc L (.int x :: .int (nI k) :: .ref a :: st) M kc ks Q := T_iastore hd ha hm (vp_in_nI hk hn) (by rw [nI_clamp (by omega), hF]) (kk _ (List.getElem?_set_self (X_len hm)) set_ex)
theorem N_laload {f : Nat → Int64} {x : Int64} (hd : decode (mC mi) pc = .ok (.laload, 1)) (hm : M[a]? = some (lr n f)) (hk : k < n) (hn : n < 2 ^ 31) (hx : f k = x) (kk : TT G mi (pc + 1) L (.long x :: st) M kc ks Q) : TT G mi pc L (.int (nI k) :: .ref a :: st) M kc ks Q := T_laload hd hm (vp_in_nI hk hn) (by rw [nI_clamp (by omega), hx]; exact kk)
theorem N_lastore {f F : Nat → Int64} {x : Int64} (hd : decode (mC mi) pc = .ok (.lastore, 1)) (ha : K0 ≤ a) (hm : M[a]? = some (lr n f)) (hk : k < n) (hn : n < 2 ^ 31) (hF : vp_updL f k x = F) (kk : ∀ M', M'[a]? = some (lr n F) → Ex a M M' → TT G mi (pc + 1) L st M' kc ks Q) : TT G mi pc L (.long x :: .int (nI k) :: .ref a :: st) M kc ks Q := T_lastore hd ha hm (vp_in_nI hk hn) (by rw [nI_clamp (by omega), hF]) (kk _ (List.getElem?_set_self (X_len hm)) set_ex)
theorem N_baload {f : Nat → Int32} {x : Int32} (hd : decode (mC mi) pc = .ok (.baload, 1)) (hm : M[a]? = some (br n f)) (hk : k < n) (hn : n < 2 ^ 31) (hx : f k = x) (kk : TT G mi (pc + 1) L (.int x :: st) M kc ks Q) : TT G mi pc L (.int (nI k) :: .ref a :: st) M kc ks Q := T_baload hd hm (vp_in_nI hk hn) (fun _ => (by rw [nI_clamp (by omega), hx]; exact kk))
theorem N_bastore {f F : Nat → Int32} {x : Int32} (hd : decode (mC mi) pc = .ok (.bastore, 1)) (ha : K0 ≤ a) (hm : M[a]? = some (br n f)) (hk : k < n) (hn : n < 2 ^ 31) (hF : upd f k (vp_nar .byte x) = F) (kk : ∀ M', M'[a]? = some (br n F) → Ex a M M' → TT G mi (pc + 1) L st M' kc ks Q) : TT G mi pc L (.int x :: .int (nI k) :: .ref a :: st) M kc ks Q := T_bastore hd ha hm (vp_in_nI hk hn) (by rw [nI_clamp (by omega), hF]) (kk _ (List.getElem?_set_self (X_len hm)) set_ex)
theorem N_zaload {f : Nat → Int32} {x : Int32} (hd : decode (mC mi) pc = .ok (.baload, 1)) (hm : M[a]? = some (zr n f)) (hk : k < n) (hn : n < 2 ^ 31) (hx : f k = x) (kk : TT G mi (pc + 1) L (.int x :: st) M kc ks Q) : TT G mi pc L (.int (nI k) :: .ref a :: st) M kc ks Q := T_zaload hd hm (vp_in_nI hk hn) (fun _ => (by rw [nI_clamp (by omega), hx]; exact kk))
theorem N_zastore {f F : Nat → Int32} {x : Int32} (hd : decode (mC mi) pc = .ok (.bastore, 1)) (ha : K0 ≤ a) (hm : M[a]? = some (zr n f)) (hk : k < n) (hn : n < 2 ^ 31) (hF : upd f k (vp_nar .boolean x) = F) (kk : ∀ M', M'[a]? = some (zr n F) → Ex a M M' → TT G mi (pc + 1) L st M' kc ks Q) : TT G mi pc L (.int x :: .int (nI k) :: .ref a :: st) M kc ks Q := T_zastore hd ha hm (vp_in_nI hk hn) (by rw [nI_clamp (by omega), hF]) (kk _ (List.getElem?_set_self (X_len hm)) set_ex)
theorem N_getI {idx ci j : Nat} {fs : List Value} {x y : Int32} (hd : decode (mC mi) pc = .ok (.getfield idx, 3)) (hf : FG mi idx ci j) (hm : M[a]? = some (.inr (ci, fs))) (hv : fs[j]? = some (.int x)) (hx : x = y) (kk : TT G mi (pc + 3) L (.int y :: st) M kc ks Q) : TT G mi pc L (.ref a :: st) M kc ks Q := T_getfield hd hf hm (hx ▸ hv) kk
theorem N_put {idx ci j : Nat} {fs : List Value} {v : Value} {ty : FieldType} {e : va_E} (hd : decode (mC mi) pc = .ok (.putfield idx, 3)) (hf : FP mi idx ci j ty) (hm : M[a]? = some (.inr (ci, fs))) (hl : j < fs.length) (hv : fitV ty v) (he : .inr (ci, fs.set j v) = e) (kk : ∀ M', M'[a]? = some e → Ex a M M' → TT G mi (pc + 3) L st M' kc ks Q) : TT G mi pc L (v :: .ref a :: st) M kc ks Q := T_putfield hd hf hm hl hv (by rw [he]) (kk _ (List.getElem?_set_self (X_len hm)) set_ex)
end NR
theorem N_topi {G : GX} {mi : MI} {pc : Nat} {L : List (Nat × Value)} {st : List Value} {M : List va_E} {kc ks : Nat} {Q : Option Value → List va_E → Prop} {x y : Int32} (h : x = y) (k : TT G mi pc L (.int y :: st) M kc ks Q) : TT G mi pc L (.int x :: st) M kc ks Q := h ▸ k
theorem N_topl {G : GX} {mi : MI} {pc : Nat} {L : List (Nat × Value)} {st : List Value} {M : List va_E} {kc ks : Nat} {Q : Option Value → List va_E → Prop} {x y : Int64} (h : x = y) (k : TT G mi pc L (.long y :: st) M kc ks Q) : TT G mi pc L (.long x :: st) M kc ks Q := h ▸ k
theorem N_gen {G : GX} {mi : MI} {pc : Nat} {L : List (Nat × Value)} {st : List Value} {M : List va_E} {kc ks : Nat} {Q : Option Value → List va_E → Prop} (k : ∀ M', M' = M → TT G mi pc L st M' kc ks Q) : TT G mi pc L st M kc ks Q := k M rfl
theorem mst1 {M M' : List va_E} {a : Nat} {x : va_E} (e : M' = M.set a x) (ha : a < M.length) : M'[a]? = some x ∧ Ex a M M' := by subst e; exact ⟨List.getElem?_set_self ha, set_ex⟩
theorem mst2 {M M' : List va_E} {a b : Nat} {x y : va_E} (e : M' = (M.set a x).set b y) (ha : a < M.length) (hb : b < M.length) (hn : a ≠ b) : M'[a]? = some x ∧ M'[b]? = some y ∧ Kp [a, b] M M' := by
  subst e
  refine ⟨X_ne (List.getElem?_set_self ha) (Ne.symm hn), List.getElem?_set_self (by rw [List.length_set]; exact hb), fun q hq => ?_⟩
  simp only [List.mem_cons, List.not_mem_nil, or_false, not_or] at hq
  rw [List.getElem?_set_ne (Ne.symm hq.2), List.getElem?_set_ne (Ne.symm hq.1)]
theorem nI_dm (k : Nat) : nI k + Int32.ofInt (-1) = nI k - 1 := by rw [Int32.sub_eq_add_neg]; rfl
theorem CT.post {G : GX} {mi : MI} {as : List Value} {M : List va_E} {Q Q' : Option Value → List va_E → Prop} (c : CT G mi as M Q') (h : ∀ r M', Q' r M' → Q r M') : CT G mi as M Q :=
  fun ad => MetFree.mono (c ad) (fun _ _ h => h) (fun _ _ _ _ _ h => h) (fun a s o t _ hq => ⟨by obtain ⟨r, M', ad', c1, c2, c3⟩ := hq.1; exact ⟨r, M', ad', c1, h r M' c2, c3⟩, hq.2⟩)
theorem sumV_bd {g : Nat → Int} {n : Nat} (h : ∀ k, k < n → 0 ≤ g k ∧ g k < 65536) : 0 ≤ sumV g n ∧ sumV g n < 65536 ^ n := by
  induction n with
  | zero => show (0 : Int) ≤ 0 ∧ (0 : Int) < 65536 ^ 0; decide
  | succ n ih =>
    have i := ih fun k hk => h k (by omega); have q := h n (by omega)
    have hp : (0 : Int) < 65536 ^ n := Int.pow_pos (by decide)
    have h3 : 0 ≤ g n * 65536 ^ n := Int.mul_nonneg q.1 (Int.le_of_lt hp)
    have h4 : g n * 65536 ^ n ≤ 65535 * 65536 ^ n := Int.mul_le_mul_of_nonneg_right (by omega) (Int.le_of_lt hp)
    show 0 ≤ sumV g n + g n * 65536 ^ n ∧ sumV g n + g n * 65536 ^ n < 65536 ^ (n + 1)
    rw [show (65536 : Int) ^ (n + 1) = 65536 ^ n * 65536 from Int.pow_succ 65536 n]
    omega
theorem sumV_hd (g : Nat → Int) (n : Nat) : sumV g (1 + n) = g 0 + 65536 * sumV (fun k => g (1 + k)) n := by
  rw [sumV_app]; show (0 + g 0 * 65536 ^ 0) + 65536 ^ 1 * _ = _; simp
def L16 (F : Nat → Int64) (d : Nat) (x : Int) : Prop := eqP (v16 F (16 * d)) x ∧ ∀ k, k < 16 → 0 ≤ (F (16 * d + k)).toInt ∧ (F (16 * d + k)).toInt < 65536
set_option maxHeartbeats 8000000 in
theorem settle_V3 {F : Nat → Int64} {d : Nat} {x : Int} (h0 : -1000 ≤ (F (16 * d)).toInt ∧ (F (16 * d)).toInt ≤ 66535) (h : ∀ k, 1 ≤ k → k < 16 → 0 ≤ (F (16 * d + k)).toInt ∧ (F (16 * d + k)).toInt < 65536) (hx : eqP (v16 F (16 * d)) x) : L16 (sE F (16 * d)) d x := by
  have hall : ∀ k, k < 16 → -1099511627776 ≤ (F (16 * d + k)).toInt ∧ (F (16 * d + k)).toInt ≤ 1099511627776 := fun k hk => by
    by_cases e : k = 0
    · subst e; rw [Nat.add_zero]; omega
    · have := h k (by omega) hk; omega
  obtain ⟨e, a, -⟩ := settle_V (b := 16 * d) (B := 1099511627776) (by decide) hall
  refine ⟨e.tr hx, fun k hk => ?_⟩
  by_cases hk0 : k = 0
  · subst hk0
    rw [Nat.add_zero, sE_0 (B := 1099511627776) (by decide) hall]
    have g0 := sG_bd (B := 1099511627776) (by decide) hall (k := 0) (by decide)
    have c := (sC_bd2 (b := 16 * d) (by omega) h 16 (by decide)).2.2 (by decide)
    have v := sC_val (B := 1099511627776) (by decide) hall 16 (by decide)
    have sg : sumV (fun j => (sG F (16 * d) j).toInt) 16 = (sG F (16 * d) 0).toInt + 65536 * sumV (fun k => (sG F (16 * d) (1 + k)).toInt) 15 := sumV_hd _ 15
    have sf : sumV (fun j => (F (16 * d + j)).toInt) 16 = (F (16 * d)).toInt + 65536 * sumV (fun k => (F (16 * d + (1 + k))).toInt) 15 := sumV_hd (fun j => (F (16 * d + j)).toInt) 15
    have bg := sumV_bd (g := fun k => (sG F (16 * d) (1 + k)).toInt) (n := 15) (fun k hk => sG_bd (B := 1099511627776) (by decide) hall (by omega))
    have bf := sumV_bd (g := fun k => (F (16 * d + (1 + k))).toInt) (n := 15) (fun k hk => h (1 + k) (by omega) (by omega))
    rw [sg, sf] at v
    have hc : (sC F (16 * d) 16).toInt = -1 ∨ (sC F (16 * d) 16).toInt = 0 ∨ (sC F (16 * d) 16).toInt = 1 := by omega
    rw [show (65536 : Int) ^ 16 = 65536 * 65536 ^ 15 by decide] at v
    generalize sumV (fun k => (sG F (16 * d) (1 + k)).toInt) 15 = A at *
    generalize sumV (fun k => (F (16 * d + (1 + k))).toInt) 15 = Bq at *
    generalize (65536 : Int) ^ 15 = PP at *
    clear e a hall sg sf hx h
    rcases hc with hc | hc | hc <;> rw [hc] at v ⊢ <;> omega
  · exact a k (by omega) hk
def mk16 (k : Nat) : Int64 := if k = 0 then 65517 else if k = 15 then 32767 else 65535
def mi16 (k : Nat) : Int := if k = 0 then 65517 else if k = 15 then 32767 else 65535
theorem mk16_i (k : Nat) : (mk16 k).toInt = mi16 k := by unfold mk16 mi16; split; rfl; split <;> rfl
theorem mi16_b (k : Nat) : 32767 ≤ mi16 k ∧ mi16 k ≤ 65535 := by unfold mi16; split <;> (try split) <;> decide
theorem mi16_v : sumV mi16 16 = pP := by decide
def inR (W : Nat → Int64) : Prop := ∀ k, k < 16 → 0 ≤ (W k).toInt ∧ (W k).toInt < 65536
def vW (W : Nat → Int64) : Int := sumV (fun k => (W k).toInt) 16
def bI (W : Nat → Int64) (k : Nat) (n : Int64) (L : Nat → Int64) : Prop := (n = 0 ∨ n = 1) ∧ (∀ j, j < k → 0 ≤ (L j).toInt ∧ (L j).toInt < 65536) ∧ sumV (fun j => (L j).toInt) k = sumV (fun j => (W j).toInt) k - sumV mi16 k + n.toInt * 65536 ^ k
set_option maxHeartbeats 8000000 in
theorem bI_step {W L : Nat → Int64} {k : Nat} {n v : Int64} (hW : inR W) (hk : k < 16) (h : bI W k n L) (hv : v = W k - n - mk16 k) : bI W (k + 1) (if v.toInt < 0 then 1 else 0) (vp_updL L k (v &&& 65535)) := by
  obtain ⟨h1, h2, h3⟩ := h
  have w := hW k hk; have m := mi16_b k
  have n01 : 0 ≤ n.toInt ∧ n.toInt ≤ 1 := by rcases h1 with rfl | rfl <;> decide
  have vi : v.toInt = (W k).toInt - n.toInt - mi16 k := by
    have : v = Int64.ofInt ((W k).toInt - n.toInt - mi16 k) := by rw [hv, Int64.ofInt_sub, Int64.ofInt_sub, Int64.ofInt_toInt, Int64.ofInt_toInt, ← mk16_i, Int64.ofInt_toInt]
    rw [this, oi_to (by omega) (by omega)]
  have li : (v &&& 65535).toInt = v.toInt % 65536 := nn_and v 16 65535 (by decide) (by decide)
  have lk : ∀ j, j < k → vp_updL L k (v &&& 65535) j = L j := fun j hj => by unfold vp_updL; rw [if_neg (by omega)]
  have ll : vp_updL L k (v &&& 65535) k = v &&& 65535 := by unfold vp_updL; rw [if_pos rfl]
  have bn : (if v.toInt < 0 then (1 : Int64) else 0).toInt = if v.toInt < 0 then 1 else 0 := by split <;> rfl
  refine ⟨by split <;> simp, fun j hj => ?_, ?_⟩
  · by_cases e : j = k
    · subst e; rw [ll, li]; omega
    · rw [lk j (by omega)]; exact h2 j (by omega)
  · show sumV _ k + (vp_updL L k (v &&& 65535) k).toInt * 65536 ^ k = (sumV _ k + (W k).toInt * 65536 ^ k) - (sumV mi16 k + mi16 k * 65536 ^ k) + _ * 65536 ^ (k + 1)
    rw [sumV_congr (h := fun j => (L j).toInt) (fun j hj => by rw [lk j hj]), h3, ll, li, bn, show (65536 : Int) ^ (k + 1) = 65536 ^ k * 65536 from Int.pow_succ 65536 k]
    have key : v.toInt % 65536 = v.toInt + 65536 * (if v.toInt < 0 then 1 else 0) := by split <;> omega
    rw [key, vi]
    generalize (if (W k).toInt - n.toInt - mi16 k < 0 then (1 : Int) else 0) = q
    grind
def sub1 (X : Int) : Int := if X < pP then X else X - pP
theorem bI_end {W L : Nat → Int64} {n : Int64} (hW : inR W) (h : bI W 16 n L) : (n = 0 → ¬ vW W < pP ∧ inR L ∧ vW L = vW W - pP) ∧ (n = 1 → vW W < pP) := by
  obtain ⟨h1, h2, h3⟩ := h
  rw [mi16_v] at h3
  have b := sumV_bd (g := fun j => (L j).toInt) (n := 16) h2
  have e : vW L = vW W - pP + n.toInt * 65536 ^ 16 := h3
  have bL : 0 ≤ vW L ∧ vW L < 65536 ^ 16 := b
  refine ⟨fun c => ?_, fun c => ?_⟩
  · subst c; rw [show (0 : Int64).toInt = 0 from rfl, Int.zero_mul, Int.add_zero] at e
    exact ⟨by omega, h2, e⟩
  · subst c; rw [show (1 : Int64).toInt = 1 from rfl, Int.one_mul] at e; omega
set_option maxHeartbeats 8000000 in
theorem pk_m (G : GX) {M : List va_E} {L : List (Nat × Value)} {st : List Value} {k : Nat} {Q : Option Value → List va_E → Prop} (hk : k < 16) (hL : lk L 5 = some (.int (nI k))) (kk : TT G mi_Mo_pack 138 L (.long (mk16 k) :: st) M 0 0 Q) : TT G mi_Mo_pack 111 L st M 0 0 Q := by
  refine T_iload d_Mo_pack_111 hL ?_
  by_cases h0 : k = 0
  · subst h0
    refine T_if_ne d_Mo_pack_113 (tgt := 122) rfl (fun c => absurd rfl c) (fun _ => ?_)
    refine T_ldc2 d_Mo_pack_116 kJ_Mo_139 ?_
    exact T_goto (tgt := 138) d_Mo_pack_119 rfl kk
  · refine T_if_ne d_Mo_pack_113 (tgt := 122) rfl (fun _ => ?_) (fun c => absurd ((nI_eq (by omega) (by decide)).mp c) h0)
    refine T_iload d_Mo_pack_122 hL ?_
    refine T_bipush (v := nI 15) d_Mo_pack_124 (by decide) ?_
    by_cases h1 : k = 15
    · subst h1
      refine T_icmp_ne d_Mo_pack_126 (tgt := 135) rfl (fun c => absurd rfl c) (fun _ => ?_)
      refine T_ldc2 d_Mo_pack_129 kJ_Mo_141 ?_
      exact T_goto (tgt := 138) d_Mo_pack_132 rfl kk
    · refine T_icmp_ne d_Mo_pack_126 (tgt := 135) rfl (fun _ => ?_) (fun c => absurd ((nI_eq (by omega) (by decide)).mp c) h1)
      refine T_ldc2 d_Mo_pack_135 kJ_Mo_29 ?_
      rw [show mk16 k = 65535 by unfold mk16; rw [if_neg h0, if_neg h1]] at kk
      exact kk
set_option maxHeartbeats 8000000 in
theorem pk_a (G : GX) {N : List va_E} {v : Nat → Int32} {a r : Nat} {W L0 : Nat → Int64} (ho : N[373]? = some (moO v)) (hl : N[392]? = some (lr 16 L0)) (hw : N[393]? = some (lr 16 W)) (hW : inR W) {Q : Option Value → List va_E → Prop} (kk : ∀ n L, bI W 16 n L → TT G mi_Mo_pack 173 [(3, .long n), (2, .int (nI r)), (0, .ref 373), (1, .int (nI a))] [] (N.set 392 (lr 16 L)) 0 0 Q) : ∀ j k n L, k + j = 16 → bI W k n L → TT G mi_Mo_pack 95 [(5, .int (nI k)), (3, .long n), (2, .int (nI r)), (0, .ref 373), (1, .int (nI a))] [] (N.set 392 (lr 16 L)) 0 0 Q := by
  have hll := X_len hl
  intro j
  induction j with
  | zero =>
    intro k n L hk h
    have : k = 16 := by omega
    subst this
    refine T_iload d_Mo_pack_95 rfl ?_
    refine T_bipush (v := nI 16) d_Mo_pack_97 (by decide) ?_
    refine T_icmp_ge d_Mo_pack_99 (tgt := 173) rfl (fun _ => ?_) (fun c => absurd (by decide) c)
    exact T_sub (fun q hq => List.mem_cons_of_mem _ hq) (kk n L h)
  | succ j ih =>
    intro k n L hk h
    refine T_iload d_Mo_pack_95 rfl ?_
    refine T_bipush (v := nI 16) d_Mo_pack_97 (by decide) ?_
    refine T_icmp_ge d_Mo_pack_99 (tgt := 173) rfl (fun c => absurd ((nI_leI (by decide) (by omega)).mp c) (by omega)) (fun _ => ?_)
    refine T_aload_n (v := .ref 373) d_Mo_pack_102 rfl (Or.inr ⟨_, rfl⟩) ?_
    refine T_getfield d_Mo_pack_103 fg_Mo_136 (X_ne ho (by decide)) rfl ?_
    refine T_iload d_Mo_pack_106 rfl ?_
    refine T_laload d_Mo_pack_108 (X_ne hw (by decide)) (vp_in_nI (by omega) (by decide)) ?_
    rw [nI_clamp (by omega)]
    refine T_lload_n d_Mo_pack_109 rfl ?_
    refine T_lsub d_Mo_pack_110 ?_
    refine pk_m G (k := k) (by omega) rfl ?_
    refine T_lsub d_Mo_pack_138 ?_
    refine T_topl (fun w hw0 => ?_)
    refine T_lstore (L' := [(6, .long w), (5, .int (nI k)), (3, .long n), (2, .int (nI r)), (0, .ref 373), (1, .int (nI a))]) d_Mo_pack_139 (by decide) rfl ?_
    refine T_aload_n (v := .ref 373) d_Mo_pack_141 rfl (Or.inr ⟨_, rfl⟩) ?_
    refine T_getfield d_Mo_pack_142 fg_Mo_143 (X_ne ho (by decide)) rfl ?_
    refine T_iload d_Mo_pack_145 rfl ?_
    refine T_lload d_Mo_pack_147 rfl ?_
    refine T_ldc2 d_Mo_pack_149 kJ_Mo_29 ?_
    refine T_land d_Mo_pack_152 ?_
    refine X_last (n := 16) (k := k) d_Mo_pack_153 (by decide) (by omega) (by decide) hll ?_
    have st := bI_step hW (by omega) h hw0
    refine T_lload d_Mo_pack_154 rfl ?_
    refine T_lconst (v := 0) d_Mo_pack_156 (by decide) ?_
    refine T_lcmp d_Mo_pack_157 ?_
    have fin : ∀ n1 : Int64, bI W (k + 1) n1 (vp_updL L k (w &&& 65535)) → TT G mi_Mo_pack 166 [(6, .long w), (5, .int (nI k)), (3, .long n), (2, .int (nI r)), (0, .ref 373), (1, .int (nI a))] [.long n1] (N.set 392 (lr 16 (vp_updL L k (w &&& 65535)))) 0 0 Q := fun n1 h1 => by
      refine T_lstore_n (L' := [(3, .long n1), (6, .long w), (5, .int (nI k)), (2, .int (nI r)), (0, .ref 373), (1, .int (nI a))]) d_Mo_pack_166 (by decide) rfl ?_
      refine T_iinc (x := nI k) (L' := [(5, .int (nI (k + 1))), (3, .long n1), (6, .long w), (2, .int (nI r)), (0, .ref 373), (1, .int (nI a))]) d_Mo_pack_167 (by decide) rfl (by rw [show Int32.ofInt 1 = nI 1 from rfl, nI_add]; rfl) ?_
      refine T_goto (tgt := 95) d_Mo_pack_170 rfl ?_
      refine T_sub (L' := [(5, .int (nI (k + 1))), (3, .long n1), (2, .int (nI r)), (0, .ref 373), (1, .int (nI a))]) (fun q hq => ?_) (ih (k + 1) n1 _ (by omega) h1)
      simp only [List.mem_cons, List.not_mem_nil, or_false] at hq ⊢
      rcases hq with rfl | rfl | rfl | rfl | rfl <;> simp
    have hc : (0 : Int32) ≤ lg_cmp w 0 ↔ ¬ w.toInt < 0 := by rw [lg_cmp_ge, Int64.le_iff_toInt_le]; show 0 ≤ w.toInt ↔ _; omega
    refine T_if_ge d_Mo_pack_158 (tgt := 165) rfl (fun c => ?_) (fun c => ?_)
    · refine T_lconst (v := 0) d_Mo_pack_165 (by decide) ?_
      rw [if_neg (hc.mp c)] at st
      exact fin 0 st
    · refine T_lconst (v := 1) d_Mo_pack_161 (by decide) ?_
      refine T_goto (tgt := 166) d_Mo_pack_162 rfl ?_
      rw [if_pos (Classical.byContradiction fun z => c (hc.mpr z))] at st
      exact fin 1 st
set_option maxHeartbeats 8000000 in
theorem pk_b (G : GX) {N : List va_E} {v : Nat → Int32} {a r : Nat} {W L : Nat → Int64} (ho : N[373]? = some (moO v)) (hl : N[392]? = some (lr 16 L)) (hw : N[393]? = some (lr 16 W)) {Q : Option Value → List va_E → Prop} (kk : TT G mi_Mo_pack 209 [(3, .long 0), (2, .int (nI r)), (0, .ref 373), (1, .int (nI a))] [] (N.set 393 (lr 16 (lp 16 L W))) 0 0 Q) : ∀ j k, k + j = 16 → TT G mi_Mo_pack 176 [(5, .int (nI k)), (3, .long 0), (2, .int (nI r)), (0, .ref 373), (1, .int (nI a))] [] (N.set 393 (lr 16 (lp k L W))) 0 0 Q := by
  have hll := X_len hw
  intro j
  induction j with
  | zero =>
    intro k hk
    have : k = 16 := by omega
    subst this
    refine T_iload d_Mo_pack_176 rfl ?_
    refine T_bipush (v := nI 16) d_Mo_pack_178 (by decide) ?_
    refine T_icmp_ge d_Mo_pack_180 (tgt := 209) rfl (fun _ => ?_) (fun c => absurd (by decide) c)
    exact T_sub (fun q hq => List.mem_cons_of_mem _ hq) kk
  | succ j ih =>
    intro k hk
    refine T_iload d_Mo_pack_176 rfl ?_
    refine T_bipush (v := nI 16) d_Mo_pack_178 (by decide) ?_
    refine T_icmp_ge d_Mo_pack_180 (tgt := 209) rfl (fun c => absurd ((nI_leI (by decide) (by omega)).mp c) (by omega)) (fun _ => ?_)
    refine T_lload_n d_Mo_pack_183 rfl ?_
    refine T_lconst (v := 0) d_Mo_pack_184 (by decide) ?_
    refine T_lcmp d_Mo_pack_185 ?_
    refine T_if_ne d_Mo_pack_186 (tgt := 209) rfl (fun c => absurd ((cmp0 0).mpr rfl) c) (fun _ => ?_)
    refine T_aload_n (v := .ref 373) d_Mo_pack_189 rfl (Or.inr ⟨_, rfl⟩) ?_
    refine T_getfield d_Mo_pack_190 fg_Mo_136 (X_ne ho (by decide)) rfl ?_
    refine T_iload d_Mo_pack_193 rfl ?_
    refine T_aload_n (v := .ref 373) d_Mo_pack_195 rfl (Or.inr ⟨_, rfl⟩) ?_
    refine T_getfield d_Mo_pack_196 fg_Mo_143 (X_ne ho (by decide)) rfl ?_
    refine T_iload d_Mo_pack_199 rfl ?_
    refine T_laload d_Mo_pack_201 (X_ne hl (by decide)) (vp_in_nI (by omega) (by decide)) ?_
    rw [nI_clamp (by omega)]
    refine X_last (n := 16) (k := k) d_Mo_pack_202 (by decide) (by omega) (by decide) hll ?_
    rw [lp_up k L W]
    refine T_iinc (x := nI k) (L' := [(5, .int (nI (k + 1))), (3, .long 0), (2, .int (nI r)), (0, .ref 373), (1, .int (nI a))]) d_Mo_pack_203 (by decide) rfl (by rw [show Int32.ofInt 1 = nI 1 from rfl, nI_add]; rfl) ?_
    refine T_goto (tgt := 176) d_Mo_pack_206 rfl ?_
    exact ih (k + 1) (by omega)
set_option maxHeartbeats 8000000 in
theorem pk_round (G : GX) {N : List va_E} {v : Nat → Int32} {a r : Nat} {W L0 : Nat → Int64} (ho : N[373]? = some (moO v)) (hl : N[392]? = some (lr 16 L0)) (hw : N[393]? = some (lr 16 W)) (hW : inR W) (hr : r < 3) {Q : Option Value → List va_E → Prop} (kk : ∀ L1 W1, inR W1 → vW W1 = sub1 (vW W) → TT G mi_Mo_pack 85 [(2, .int (nI (r + 1))), (0, .ref 373), (1, .int (nI a))] [] ((N.set 392 (lr 16 L1)).set 393 (lr 16 W1)) 0 0 Q) : TT G mi_Mo_pack 85 [(2, .int (nI r)), (0, .ref 373), (1, .int (nI a))] [] N 0 0 Q := by
  refine T_iload_n d_Mo_pack_85 rfl ?_
  refine T_iconst (v := nI 3) d_Mo_pack_86 (by decide) ?_
  refine T_icmp_ge d_Mo_pack_87 (tgt := 215) rfl (fun c => absurd ((nI_leI (by decide) (by omega)).mp c) (by omega)) (fun _ => ?_)
  refine T_lconst (v := 0) d_Mo_pack_90 (by decide) ?_
  refine T_lstore_n (L' := [(3, .long 0), (2, .int (nI r)), (0, .ref 373), (1, .int (nI a))]) d_Mo_pack_91 (by decide) rfl ?_
  refine T_iconst (v := nI 0) d_Mo_pack_92 (by decide) ?_
  refine T_istore (L' := [(5, .int (nI 0)), (3, .long 0), (2, .int (nI r)), (0, .ref 373), (1, .int (nI a))]) d_Mo_pack_93 (by decide) rfl ?_
  refine T_eq (M' := N.set 392 (lr 16 L0)) rfl rfl rfl (X_same hl) ?_
  refine pk_a G ho hl hw hW (fun n L h => ?_) 16 0 0 L0 rfl ⟨Or.inl rfl, fun j hj => absurd hj (by omega), by show (0 : Int) = 0 - 0 + 0 * _; simp⟩
  obtain ⟨e0, e1⟩ := bI_end hW h
  refine T_iconst (v := nI 0) d_Mo_pack_173 (by decide) ?_
  refine T_istore (L' := [(5, .int (nI 0)), (3, .long n), (2, .int (nI r)), (0, .ref 373), (1, .int (nI a))]) d_Mo_pack_174 (by decide) rfl ?_
  have hw2 : (N.set 392 (lr 16 L))[393]? = some (lr 16 W) := X_ne hw (by decide)
  have tl : ∀ (n : Int64) (W1 : Nat → Int64), inR W1 → vW W1 = sub1 (vW W) → TT G mi_Mo_pack 209 [(3, .long n), (2, .int (nI r)), (0, .ref 373), (1, .int (nI a))] [] ((N.set 392 (lr 16 L)).set 393 (lr 16 W1)) 0 0 Q := fun n W1 a1 a2 => by
    refine T_iinc (x := nI r) (L' := [(2, .int (nI (r + 1))), (3, .long n), (0, .ref 373), (1, .int (nI a))]) d_Mo_pack_209 (by decide) rfl (by rw [show Int32.ofInt 1 = nI 1 from rfl, nI_add]; rfl) ?_
    refine T_goto (tgt := 85) d_Mo_pack_212 rfl ?_
    refine T_sub (fun q hq => ?_) (kk L W1 a1 a2)
    simp only [List.mem_cons, List.not_mem_nil, or_false] at hq ⊢
    rcases hq with rfl | rfl | rfl <;> simp
  rcases h.1 with rfl | rfl
  · obtain ⟨g1, g2, g3⟩ := e0 rfl
    refine T_eq (M' := (N.set 392 (lr 16 L)).set 393 (lr 16 (lp 0 L W))) rfl rfl rfl (by rw [lp_0]; exact X_same hw2) ?_
    refine pk_b G (X_ne ho (by decide)) (List.getElem?_set_self (X_len hl)) hw2 ?_ 16 0 rfl
    have lq : ∀ k, k < 16 → lp 16 L W k = L k := fun k hk => by unfold lp; exact if_pos hk
    exact tl 0 _ (fun k hk => by rw [lq k hk]; exact g2 k hk) (by unfold sub1; rw [if_neg g1, ← g3]; exact sumV_congr fun k hk => by rw [lq k hk])
  · refine T_iload d_Mo_pack_176 rfl ?_
    refine T_bipush (v := nI 16) d_Mo_pack_178 (by decide) ?_
    refine T_icmp_ge d_Mo_pack_180 (tgt := 209) rfl (fun c => absurd c (by decide)) (fun _ => ?_)
    refine T_lload_n d_Mo_pack_183 rfl ?_
    refine T_lconst (v := 0) d_Mo_pack_184 (by decide) ?_
    refine T_lcmp d_Mo_pack_185 ?_
    refine T_if_ne d_Mo_pack_186 (tgt := 209) rfl (fun _ => ?_) (fun c => absurd ((cmp0 1).mp c) (by decide))
    refine T_eq (M' := (N.set 392 (lr 16 L)).set 393 (lr 16 W)) rfl rfl rfl (X_same hw2) ?_
    exact T_sub (fun q hq => List.mem_cons_of_mem _ hq) (tl 1 W hW (by unfold sub1; rw [if_pos (e1 rfl)]))
def RF (M : List va_E) (v : Nat → Int32) (F : Nat → Int64) : Prop := M[373]? = some (moO v) ∧ M[390]? = some (lr 1024 F) ∧ (∃ P, M[391]? = some (lr 31 P)) ∧ (∃ P, M[392]? = some (lr 16 P)) ∧ (∃ P, M[393]? = some (lr 16 P)) ∧ ∃ P, M[394]? = some (ir 32 P)
abbrev RW : List Nat := [390, 391, 392, 393, 394]
def Kr (ds : List Nat) (F F' : Nat → Int64) : Prop := ∀ e, e ∉ ds → ∀ k, k < 16 → F' (16 * e + k) = F (16 * e + k)
theorem Kr.rf {ds : List Nat} {F : Nat → Int64} : Kr ds F F := fun _ _ _ _ => rfl
theorem Kr.tr {ds : List Nat} {F F' F'' : Nat → Int64} (h : Kr ds F F') (h' : Kr ds F' F'') : Kr ds F F'' := fun e he k hk => (h' e he k hk).trans (h e he k hk)
theorem Kr.mono {ds ds' : List Nat} {F F' : Nat → Int64} (h : Kr ds F F') (hs : ∀ q ∈ ds, q ∈ ds') : Kr ds' F F' := fun e he => h e (fun c => he (hs e c))
theorem Kr.one {d : Nat} {F F' : Nat → Int64} (h : ∀ j, (j < 16 * d ∨ 16 * d + 16 ≤ j) → F' j = F j) : Kr [d] F F' := fun e he k hk => h _ (by simp at he; omega)
theorem V16.kr {ds : List Nat} {F F' : Nat → Int64} {e : Nat} {x : Int} (h : V16 F e x) (s : Kr ds F F') (he : e ∉ ds) : V16 F' e x := ⟨by unfold v16; rw [sumV_congr (h := fun k => (F (16 * e + k)).toInt) (fun k hk => by rw [s e he k hk])]; exact h.1, fun k hk => by rw [s e he k hk]; exact h.2 k hk⟩
theorem V16.eq {F : Nat → Int64} {e : Nat} {x y : Int} (h : V16 F e x) (q : eqP x y) : V16 F e y := ⟨h.1.tr q, h.2⟩
theorem sub3 {X : Int} (h0 : 0 ≤ X) (h1 : X < 65536 ^ 16) : sub1 (sub1 (sub1 X)) = X % pP := by
  have hp : (65536 : Int) ^ 16 = 2 * pP + 38 := by decide
  unfold sub1
  by_cases a : X < pP
  · rw [if_pos a, if_pos a, if_pos a, Int.emod_eq_of_lt h0 a]
  · rw [if_neg a]
    by_cases b : X - pP < pP
    · rw [if_pos b, if_pos b]
      have : (X - pP) % pP = X % pP := by rw [Int.sub_emod, Int.emod_self, Int.sub_zero, Int.emod_emod]
      rw [← this, Int.emod_eq_of_lt (by omega) b]
    · rw [if_neg b]
      have c : X - pP - pP < pP := by have : (0:Int) < pP := by decide
                                      have : (38:Int) < pP := by decide
                                      omega
      rw [if_pos c]
      have : (X - pP - pP) % pP = X % pP := by rw [Int.sub_emod, Int.emod_self, Int.sub_zero, Int.emod_emod, Int.sub_emod, Int.emod_self, Int.sub_zero, Int.emod_emod]
      rw [← this, Int.emod_eq_of_lt (by omega) c]
theorem sumV_dig {g : Nat → Int} : ∀ {n : Nat}, (∀ k, k < n → 0 ≤ g k ∧ g k < 65536) → ∀ {k : Nat}, k < n → sumV g n / 65536 ^ k % 65536 = g k := by
  intro n
  induction n with
  | zero => intro _ k hk; omega
  | succ n ih =>
    intro h k hk
    have hp : (0 : Int) < 65536 ^ n := Int.pow_pos (by decide)
    have b := sumV_bd (g := g) (n := n) fun k hk => h k (by omega)
    show (sumV g n + g n * 65536 ^ n) / 65536 ^ k % 65536 = g k
    by_cases e : k = n
    · subst e
      rw [Int.add_mul_ediv_right _ _ (by omega), Int.ediv_eq_zero_of_lt b.1 b.2, Int.zero_add]
      exact Int.emod_eq_of_lt (h k hk).1 (h k hk).2
    · rw [show (65536 : Int) ^ n = 65536 ^ (n - k - 1) * 65536 * 65536 ^ k by rw [← Int.pow_succ, ← Int.pow_add]; congr 1; omega, ← Int.mul_assoc, Int.add_mul_ediv_right _ _ (Int.ne_of_gt (Int.pow_pos (by decide))), ← Int.mul_assoc, Int.add_mul_emod_self_right]
      exact ih (fun k hk => h k (by omega)) (by omega)
set_option maxHeartbeats 8000000 in
theorem vW_byte {W : Nat → Int64} (h : inR W) {k : Nat} (hk : k < 32) : (W (k / 2)).toInt / 2 ^ (8 * (k % 2)) % 256 = vW W / 256 ^ k % 256 := by
  have d := sumV_dig (g := fun k => (W k).toInt) h (k := k / 2) (by omega)
  have e : (256 : Int) ^ k = 65536 ^ (k / 2) * 2 ^ (8 * (k % 2)) := by
    rw [show (65536 : Int) = 256 ^ 2 by decide, ← Int.pow_mul]
    rcases Nat.mod_two_eq_zero_or_one k with z | z
    · rw [z]; simp only [Nat.mul_zero, Int.pow_zero, Int.mul_one]; congr 1; omega
    · rw [z]; rw [show (2 : Int) ^ (8 * 1) = 256 ^ 1 by decide, ← Int.pow_add]; congr 1; omega
  have hq : (0:Int) ≤ 65536 ^ (k / 2) := Int.le_of_lt (Int.pow_pos (by decide))
  rw [e, ← Int.ediv_ediv_of_nonneg hq]
  unfold vW
  generalize sumV (fun k => (W k).toInt) 16 / 65536 ^ (k / 2) = Z at *
  rw [← d]
  rcases Nat.mod_two_eq_zero_or_one k with z | z
  · rw [z]; simp only [Nat.mul_zero, Int.pow_zero, Int.ediv_one]; omega
  · rw [z]; simp only [Nat.mul_one]; rw [show (2 : Int) ^ 8 = 256 by decide]; omega
set_option maxHeartbeats 8000000 in
theorem pk_c1 (G : GX) {M0 : List va_E} {v : Nat → Int32} {a : Nat} {F : Nat → Int64} (ho : M0[373]? = some (moO v)) (ha : a ≤ 62) {Q : Option Value → List va_E → Prop} (kk : ∀ M, M[390]? = some (lr 1024 (cpF F 1008 16 (fun i => F (16 * a + i)))) ∧ Kp [390] M0 M → TT G mi_Mo_pack 35 [(0, .ref 373), (1, .int (nI a))] [] M 0 0 Q) : ∀ j k M, k + j = 16 → M[390]? = some (lr 1024 (cpF F 1008 k (fun i => F (16 * a + i)))) ∧ Kp [390] M0 M → TT G mi_Mo_pack 2 [(2, .int (nI k)), (0, .ref 373), (1, .int (nI a))] [] M 0 0 Q := by
  intro j
  induction j with
  | zero =>
    intro k M hk hI
    obtain rfl : 16 = k := by omega
    refine T_iload_n d_Mo_pack_2 rfl ?_
    refine T_bipush (v := nI 16) d_Mo_pack_3 (by decide) ?_
    refine N_icmp_ge_t (a := 16) (b := 16) d_Mo_pack_5 (tgt := 35) rfl (by omega) (by omega) (by omega) ?_
    exact T_sub (fun q hq => List.mem_cons_of_mem _ hq) (kk M hI)
  | succ j ih =>
    intro k M hk hI
    obtain ⟨h1, hK⟩ := hI
    refine T_iload_n d_Mo_pack_2 rfl ?_
    refine T_bipush (v := nI 16) d_Mo_pack_3 (by decide) ?_
    refine N_icmp_ge_f (a := 16) (b := k) d_Mo_pack_5 (tgt := 35) rfl (by omega) (by omega) (by omega) ?_
    refine T_aload_n (v := .ref 373) d_Mo_pack_8 rfl (Or.inr ⟨_, rfl⟩) ?_
    have h_1 := (hK 373 (by decide)).trans (ho)
    refine T_getfield (v := .ref 390) d_Mo_pack_9 fg_Mo_124 h_1 rfl ?_
    refine T_sipush (v := nI 1008) d_Mo_pack_12 (by decide) ?_
    refine T_iload_n d_Mo_pack_15 rfl ?_
    refine N_iadd (a := k) (b := 1008) (c := (1008 + k)) d_Mo_pack_16 rfl ?_
    refine T_aload_n (v := .ref 373) d_Mo_pack_17 rfl (Or.inr ⟨_, rfl⟩) ?_
    refine T_getfield (v := .ref 390) d_Mo_pack_18 fg_Mo_124 h_1 rfl ?_
    refine T_bipush (v := nI 16) d_Mo_pack_21 (by decide) ?_
    refine T_iload_n d_Mo_pack_23 rfl ?_
    refine N_imul (a := a) (b := 16) (c := (16 * a)) d_Mo_pack_24 rfl ?_
    refine T_iload_n d_Mo_pack_25 rfl ?_
    refine N_iadd (a := k) (b := (16 * a)) (c := ((16 * a) + k)) d_Mo_pack_26 rfl ?_
    refine N_laload (k := ((16 * a) + k)) (x := (F (16 * a + k))) d_Mo_pack_27 h1 (by omega) (by decide) (by unfold cpF; rw [if_neg (by omega)]) ?_
    refine N_lastore (k := (1008 + k)) d_Mo_pack_28 (by decide) h1 (by omega) (by decide) rfl (fun M_2 h_3 s_4 => ?_)
    refine N_iinc (k := k) (m := 1) (c := (k + 1)) (L' := [(2, .int (nI ((k + 1)))), (0, .ref 373), (1, .int (nI a))]) d_Mo_pack_29 (by decide) rfl (by decide) rfl rfl ?_
    refine T_goto (tgt := 2) d_Mo_pack_32 rfl ?_
    exact ih (k + 1) M_2 (by omega) ⟨by rw [h_3, cpF_up F 1008 k (fun i => F (16 * a + i))], (Kp.ex (Kp.tr (Kp.rf : Kp [390] M0 M0) (Kp.mono hK (by decide))) s_4 (by decide))⟩
set_option maxHeartbeats 8000000 in
theorem pk_c2 (G : GX) {M0 : List va_E} {v : Nat → Int32} {a : Nat} {F : Nat → Int64} {W0 : Nat → Int64} (ho : M0[373]? = some (moO v)) (hf : M0[390]? = some (lr 1024 F)) {Q : Option Value → List va_E → Prop} (kk : ∀ M, M[393]? = some (lr 16 (lp 16 (fun i => F (1008 + i)) W0)) ∧ Kp [393] M0 M → TT G mi_Mo_pack 83 [(0, .ref 373), (1, .int (nI a))] [] M 0 0 Q) : ∀ j k M, k + j = 16 → M[393]? = some (lr 16 (lp k (fun i => F (1008 + i)) W0)) ∧ Kp [393] M0 M → TT G mi_Mo_pack 55 [(2, .int (nI k)), (0, .ref 373), (1, .int (nI a))] [] M 0 0 Q := by
  intro j
  induction j with
  | zero =>
    intro k M hk hI
    obtain rfl : 16 = k := by omega
    refine T_iload_n d_Mo_pack_55 rfl ?_
    refine T_bipush (v := nI 16) d_Mo_pack_56 (by decide) ?_
    refine N_icmp_ge_t (a := 16) (b := 16) d_Mo_pack_58 (tgt := 83) rfl (by omega) (by omega) (by omega) ?_
    exact T_sub (fun q hq => List.mem_cons_of_mem _ hq) (kk M hI)
  | succ j ih =>
    intro k M hk hI
    obtain ⟨h1, hK⟩ := hI
    refine T_iload_n d_Mo_pack_55 rfl ?_
    refine T_bipush (v := nI 16) d_Mo_pack_56 (by decide) ?_
    refine N_icmp_ge_f (a := 16) (b := k) d_Mo_pack_58 (tgt := 83) rfl (by omega) (by omega) (by omega) ?_
    refine T_aload_n (v := .ref 373) d_Mo_pack_61 rfl (Or.inr ⟨_, rfl⟩) ?_
    have h_1 := (hK 373 (by decide)).trans (ho)
    refine T_getfield (v := .ref 393) d_Mo_pack_62 fg_Mo_136 h_1 rfl ?_
    refine T_iload_n d_Mo_pack_65 rfl ?_
    refine T_aload_n (v := .ref 373) d_Mo_pack_66 rfl (Or.inr ⟨_, rfl⟩) ?_
    refine T_getfield (v := .ref 390) d_Mo_pack_67 fg_Mo_124 h_1 rfl ?_
    refine T_sipush (v := nI 1008) d_Mo_pack_70 (by decide) ?_
    refine T_iload_n d_Mo_pack_73 rfl ?_
    refine N_iadd (a := k) (b := 1008) (c := (1008 + k)) d_Mo_pack_74 rfl ?_
    have h_2 := (hK 390 (by decide)).trans (hf)
    refine N_laload (k := (1008 + k)) (x := (F (1008 + k))) d_Mo_pack_75 h_2 (by omega) (by decide) rfl ?_
    refine N_lastore (k := k) d_Mo_pack_76 (by decide) h1 (by omega) (by decide) rfl (fun M_3 h_4 s_5 => ?_)
    refine N_iinc (k := k) (m := 1) (c := (k + 1)) (L' := [(2, .int (nI ((k + 1)))), (0, .ref 373), (1, .int (nI a))]) d_Mo_pack_77 (by decide) rfl (by decide) rfl rfl ?_
    refine T_goto (tgt := 55) d_Mo_pack_80 rfl ?_
    exact ih (k + 1) M_3 (by omega) ⟨by rw [h_4, lp_up k (fun i => F (1008 + i)) W0], (Kp.ex (Kp.tr (Kp.rf : Kp [393] M0 M0) (Kp.mono hK (by decide))) s_5 (by decide))⟩
theorem lim_shr {x : Int64} {m : Nat} (hx : 0 ≤ x.toInt ∧ x.toInt < 65536) (hm : m < 2) : ((x >>> ((nI (8 * m)).toInt64 &&& 63)) &&& 255).toInt32 = Int32.ofInt (x.toInt / 2 ^ (8 * m) % 256) := by
  have hs : (((nI (8 * m)).toInt64 &&& 63).toBitVec.smod 64).toNat = 8 * m := by
    have : m = 0 ∨ m = 1 := by omega
    rcases this with rfl | rfl <;> decide
  have e : ∀ y : Int64, y.toInt32 = Int32.ofInt y.toInt := fun y => by
    conv => lhs; rw [← Int64.ofInt_toInt y, Int64.toInt32_ofInt]
  rw [e, nn_and _ 8 255 (by decide) (by decide), nn_shr hs ⟨hx.1, show x.toInt < 2 ^ 16 from hx.2⟩ (by decide)]
  rfl
theorem pk_by {W : Nat → Int64} {P : Nat → Int32} {k i : Nat} (hW : inR W) (h : ∀ i, i < k → P i = Int32.ofInt (vW W / 256 ^ i % 256)) (hi : i < k + 1) (hk : k < 32) : upd P k ((W (k / 2) >>> ((nI (8 * (k % 2))).toInt64 &&& 63)) &&& 255).toInt32 i = Int32.ofInt (vW W / 256 ^ i % 256) := by
  unfold upd
  by_cases e : i = k
  · subst e; rw [if_pos rfl, lim_shr (hW _ (by omega)) (by omega), vW_byte hW (by omega)]
  · rw [if_neg e]; exact h i (by omega)
set_option maxHeartbeats 8000000 in
theorem pk_c3 (G : GX) {M0 : List va_E} {v : Nat → Int32} {a : Nat} {W : Nat → Int64} (ho : M0[373]? = some (moO v)) (hw : M0[393]? = some (lr 16 W)) (hW : inR W) {Q : Option Value → List va_E → Prop} (kk : ∀ M, (∃ P, M[394]? = some (ir 32 P) ∧ ∀ i, i < 32 → P i = Int32.ofInt (vW W / 256 ^ i % 256)) ∧ Kp [394] M0 M → TT G mi_Mo_pack 255 [(0, .ref 373), (1, .int (nI a))] [] M 0 0 Q) : ∀ j k M, k + j = 32 → (∃ P, M[394]? = some (ir 32 P) ∧ ∀ i, i < k → P i = Int32.ofInt (vW W / 256 ^ i % 256)) ∧ Kp [394] M0 M → TT G mi_Mo_pack 217 [(2, .int (nI k)), (0, .ref 373), (1, .int (nI a))] [] M 0 0 Q := by
  intro j
  induction j with
  | zero =>
    intro k M hk hI
    obtain rfl : 32 = k := by omega
    refine T_iload_n d_Mo_pack_217 rfl ?_
    refine T_bipush (v := nI 32) d_Mo_pack_218 (by decide) ?_
    refine N_icmp_ge_t (a := 32) (b := 32) d_Mo_pack_220 (tgt := 255) rfl (by omega) (by omega) (by omega) ?_
    exact T_sub (fun q hq => List.mem_cons_of_mem _ hq) (kk M hI)
  | succ j ih =>
    intro k M hk hI
    obtain ⟨⟨P, h1, h2⟩, hK⟩ := hI
    refine T_iload_n d_Mo_pack_217 rfl ?_
    refine T_bipush (v := nI 32) d_Mo_pack_218 (by decide) ?_
    refine N_icmp_ge_f (a := 32) (b := k) d_Mo_pack_220 (tgt := 255) rfl (by omega) (by omega) (by omega) ?_
    refine T_aload_n (v := .ref 373) d_Mo_pack_223 rfl (Or.inr ⟨_, rfl⟩) ?_
    have h_1 := (hK 373 (by decide)).trans (ho)
    refine T_getfield (v := .ref 394) d_Mo_pack_224 fg_Mo_146 h_1 rfl ?_
    refine T_iload_n d_Mo_pack_227 rfl ?_
    refine T_aload_n (v := .ref 373) d_Mo_pack_228 rfl (Or.inr ⟨_, rfl⟩) ?_
    refine T_getfield (v := .ref 393) d_Mo_pack_229 fg_Mo_136 h_1 rfl ?_
    refine T_iload_n d_Mo_pack_232 rfl ?_
    refine T_iconst (v := nI 2) d_Mo_pack_233 (by decide) ?_
    refine N_idiv (a := 2) (b := k) (c := (k / 2)) d_Mo_pack_234 (by omega) (by omega) (by omega) rfl ?_
    have h_2 := (hK 393 (by decide)).trans (hw)
    refine N_laload (k := (k / 2)) (x := (W (k / 2))) d_Mo_pack_235 h_2 (by omega) (by decide) rfl ?_
    refine T_bipush (v := nI 8) d_Mo_pack_236 (by decide) ?_
    refine T_iload_n d_Mo_pack_238 rfl ?_
    refine T_iconst (v := nI 2) d_Mo_pack_239 (by decide) ?_
    refine N_irem (a := 2) (b := k) (c := (k % 2)) d_Mo_pack_240 (by omega) (by omega) (by omega) rfl ?_
    refine N_imul (a := (k % 2)) (b := 8) (c := (8 * (k % 2))) d_Mo_pack_241 rfl ?_
    refine T_lshr d_Mo_pack_242 ?_
    refine T_ldc2 d_Mo_pack_243 kJ_Mo_47 ?_
    refine T_land d_Mo_pack_246 ?_
    refine T_l2i d_Mo_pack_247 ?_
    refine N_iastore (k := k) d_Mo_pack_248 (by decide) h1 (by omega) (by decide) rfl (fun M_3 h_4 s_5 => ?_)
    refine N_iinc (k := k) (m := 1) (c := (k + 1)) (L' := [(2, .int (nI ((k + 1)))), (0, .ref 373), (1, .int (nI a))]) d_Mo_pack_249 (by decide) rfl (by decide) rfl rfl ?_
    refine T_goto (tgt := 217) d_Mo_pack_252 rfl ?_
    exact ih (k + 1) M_3 (by omega) ⟨⟨_, h_4, fun i hi => pk_by hW h2 hi (by omega)⟩, (Kp.ex (Kp.tr (Kp.rf : Kp [394] M0 M0) (Kp.mono hK (by decide))) s_5 (by decide))⟩
set_option maxHeartbeats 8000000 in
theorem x_Mo_pack (G : GX) {M : List va_E} {v : Nat → Int32} {a : Nat} {F : Nat → Int64} {x : Int} (hR : RF M v F) (ha : a ≤ 62) (hx : V16 F a x) : CT G mi_Mo_pack [.ref 373, .int (nI a)] M (fun r M' => r = none ∧ ∃ F' P, RF M' v F' ∧ M'[394]? = some (ir 32 P) ∧ (∀ k, k < 32 → P k = Int32.ofInt ((x % pP) / 256 ^ k % 256)) ∧ Kr [63] F F' ∧ V16 F' 63 x ∧ Kp RW M M') := by
  obtain ⟨ho, hf, ⟨P1, h391⟩, ⟨P2, h392⟩, ⟨P3, h393⟩, ⟨P4, h394⟩⟩ := hR
  refine CT.of (by decide) (Nat.le_of_ble_eq_true rfl) ?_
  show TT G mi_Mo_pack 0 [(0, .ref 373), (1, .int (nI a))] [] M 0 0 _
  refine T_iconst (v := nI 0) d_Mo_pack_0 (by decide) ?_
  refine T_istore_n (L' := [(2, .int (nI 0)), (0, .ref 373), (1, .int (nI a))]) d_Mo_pack_1 (by decide) rfl ?_
  refine pk_c1 G ho ha (fun Ma hI => ?_) 16 0 M rfl ⟨by rw [cpF_0]; exact hf, Kp.rf⟩
  obtain ⟨hc1, hk1⟩ := hI
  have ca : ∀ k, k < 16 → cpF F 1008 16 (fun i => F (16 * a + i)) (16 * 63 + k) = F (16 * a + k) := fun k hk => by unfold cpF; rw [if_pos (by omega), show 16 * 63 + k - 1008 = k by omega]
  have cb : ∀ e, e ∉ [63] → ∀ k, k < 16 → cpF F 1008 16 (fun i => F (16 * a + i)) (16 * e + k) = F (16 * e + k) := fun e he k hk => by unfold cpF; simp at he; rw [if_neg (by omega)]
  generalize cpF F 1008 16 (fun i => F (16 * a + i)) = Fa at *
  refine T_aload_n (v := .ref 373) d_Mo_pack_35 rfl (Or.inr ⟨_, rfl⟩) ?_
  refine T_bipush (v := nI 63) d_Mo_pack_36 (by decide) ?_
  have h_1 := (hk1 373 (by decide)).trans (ho)
  refine T_virtual (as := [.int (nI 63)]) (rest := []) (b := 373) d_Mo_pack_38 rfl (jw_Mo_settle.jo (by decide)) lm_Mo_130 ji_Mo_settle js_Mo_settle h_1 rfl rfl rfl (Nat.le_of_ble_eq_true rfl) (by decide) (by decide) (x_Mo_settle G h_1 hc1 (by decide)) (fun r Mb1 hq => ?_)
  obtain ⟨rfl, hq⟩ := hq
  obtain ⟨g1, s1⟩ := mst1 hq (X_len hc1)
  clear hq
  refine T_eq (pc' := 41) (L' := [(0, .ref 373), (1, .int (nI a))]) (st' := []) (M' := Mb1) rfl rfl rfl rfl ?_
  refine T_aload_n (v := .ref 373) d_Mo_pack_41 rfl (Or.inr ⟨_, rfl⟩) ?_
  refine T_bipush (v := nI 63) d_Mo_pack_42 (by decide) ?_
  have h_2 := (s1 373 (by decide)).trans (h_1)
  refine T_virtual (as := [.int (nI 63)]) (rest := []) (b := 373) d_Mo_pack_44 rfl (jw_Mo_settle.jo (by decide)) lm_Mo_130 ji_Mo_settle js_Mo_settle h_2 rfl rfl rfl (Nat.le_of_ble_eq_true rfl) (by decide) (by decide) (x_Mo_settle G h_2 g1 (by decide)) (fun r Mb2 hq => ?_)
  obtain ⟨rfl, hq⟩ := hq
  obtain ⟨g2, s2⟩ := mst1 hq (X_len g1)
  clear hq
  refine T_eq (pc' := 47) (L' := [(0, .ref 373), (1, .int (nI a))]) (st' := []) (M' := Mb2) rfl rfl rfl rfl ?_
  refine T_aload_n (v := .ref 373) d_Mo_pack_47 rfl (Or.inr ⟨_, rfl⟩) ?_
  refine T_bipush (v := nI 63) d_Mo_pack_48 (by decide) ?_
  have h_3 := (s2 373 (by decide)).trans (h_2)
  refine T_virtual (as := [.int (nI 63)]) (rest := []) (b := 373) d_Mo_pack_50 rfl (jw_Mo_settle.jo (by decide)) lm_Mo_130 ji_Mo_settle js_Mo_settle h_3 rfl rfl rfl (Nat.le_of_ble_eq_true rfl) (by decide) (by decide) (x_Mo_settle G h_3 g2 (by decide)) (fun r Mb3 hq => ?_)
  obtain ⟨rfl, hq⟩ := hq
  obtain ⟨g3, s3⟩ := mst1 hq (X_len g2)
  clear hq
  refine T_eq (pc' := 53) (L' := [(0, .ref 373), (1, .int (nI a))]) (st' := []) (M' := Mb3) rfl rfl rfl rfl ?_
  refine T_iconst (v := nI 0) d_Mo_pack_53 (by decide) ?_
  refine T_istore_n (L' := [(2, .int (nI 0)), (0, .ref 373), (1, .int (nI a))]) d_Mo_pack_54 (by decide) rfl ?_
  have h_4 := (s3 373 (by decide)).trans (h_3)
  have h_5 := (s3 393 (by decide)).trans ((s2 393 (by decide)).trans ((s1 393 (by decide)).trans ((hk1 393 (by decide)).trans (h393))))
  refine pk_c2 (W0 := P3) (a := a) G h_4 g3 (fun Mc hI => ?_) 16 0 Mb3 rfl ⟨by rw [lp_0]; exact h_5, Kp.rf⟩
  obtain ⟨hc2, hk2⟩ := hI
  have e0 : eqP (v16 Fa (16 * 63)) x := by unfold v16; rw [sumV_congr (h := fun k => (F (16 * a + k)).toInt) (fun k hk => by rw [ca k hk])]; exact hx.1
  obtain ⟨e1, b1, b2, b3⟩ := settle_V (F := Fa) (b := 16 * 63) (B := 131072) (by decide) (fun k hk => by rw [ca k hk]; exact hx.2 k hk)
  have e2 : L16 (sE (sE Fa (16 * 63)) (16 * 63)) 63 x := settle_V3 (by omega) (fun k h1 h2 => b1 k h1 h2) (e1.tr e0)
  have e3 : L16 (sE (sE (sE Fa (16 * 63)) (16 * 63)) (16 * 63)) 63 x := settle_V3 (by have := e2.2 0 (by decide); simp only [Nat.add_zero] at this; omega) (fun k h1 h2 => e2.2 k h2) e2.1
  have so : ∀ (E : Nat → Int64) e, e ∉ [63] → ∀ k, k < 16 → sE E (16 * 63) (16 * e + k) = E (16 * e + k) := fun E e he k hk => by simp at he; unfold sE; rw [if_neg (by omega), if_neg (by omega)]
  have kr : Kr [63] F (sE (sE (sE Fa (16 * 63)) (16 * 63)) (16 * 63)) := fun e he k hk => by rw [so _ e he k hk, so _ e he k hk, so _ e he k hk, cb e he k hk]
  have w1 : ∀ k, k < 16 → lp 16 (fun i => sE (sE (sE Fa (16 * 63)) (16 * 63)) (16 * 63) (1008 + i)) P3 k = sE (sE (sE Fa (16 * 63)) (16 * 63)) (16 * 63) (16 * 63 + k) := fun k hk => by unfold lp; rw [if_pos hk]
  have h_6 := (hk2 390 (by decide)).trans (g3)
  have hg := h_6
  have v63 : V16 (sE (sE (sE Fa (16 * 63)) (16 * 63)) (16 * 63)) 63 x := ⟨e3.1, fun k hk => by have := e3.2 k hk; omega⟩
  generalize sE (sE (sE Fa (16 * 63)) (16 * 63)) (16 * 63) = Fz at *
  have wR : inR (lp 16 (fun i => Fz (1008 + i)) P3) := fun k hk => by rw [w1 k hk]; exact e3.2 k hk
  have wV : eqP (vW (lp 16 (fun i => Fz (1008 + i)) P3)) x := by unfold vW; rw [sumV_congr (h := fun k => (Fz (16 * 63 + k)).toInt) (fun k hk => by rw [w1 k hk])]; exact e3.1
  generalize lp 16 (fun i => Fz (1008 + i)) P3 = W0 at *
  refine T_iconst (v := nI 0) d_Mo_pack_83 (by decide) ?_
  refine T_istore_n (L' := [(2, .int (nI 0)), (0, .ref 373), (1, .int (nI a))]) d_Mo_pack_84 (by decide) rfl ?_
  have h_7 := (hk2 373 (by decide)).trans (h_4)
  have h_8 := (hk2 392 (by decide)).trans ((s3 392 (by decide)).trans ((s2 392 (by decide)).trans ((s1 392 (by decide)).trans ((hk1 392 (by decide)).trans (h392)))))
  refine pk_round (r := 0) G h_7 h_8 hc2 wR (by decide) (fun L1 W1 i1 j1 => ?_)
  refine N_gen (fun Mr1 hq => ?_)
  obtain ⟨ga1, gb1, gk1⟩ := mst2 hq (X_len h_8) (X_len hc2) (by decide)
  clear hq
  have h_9 := (gk1 373 (by decide)).trans (h_7)
  refine pk_round (r := 1) G h_9 ga1 gb1 i1 (by decide) (fun L2 W2 i2 j2 => ?_)
  refine N_gen (fun Mr2 hq => ?_)
  obtain ⟨ga2, gb2, gk2⟩ := mst2 hq (X_len ga1) (X_len gb1) (by decide)
  clear hq
  have h_10 := (gk2 373 (by decide)).trans (h_9)
  refine pk_round (r := 2) G h_10 ga2 gb2 i2 (by decide) (fun L3 W3 i3 j3 => ?_)
  refine N_gen (fun Mr3 hq => ?_)
  obtain ⟨ga3, gb3, gk3⟩ := mst2 hq (X_len ga2) (X_len gb2) (by decide)
  clear hq
  clear hx
  refine T_iload_n d_Mo_pack_85 rfl ?_
  refine T_iconst (v := nI 3) d_Mo_pack_86 (by decide) ?_
  refine N_icmp_ge_t (a := 3) (b := 3) d_Mo_pack_87 (tgt := 215) rfl (by omega) (by omega) (by omega) ?_
  refine T_iconst (v := nI 0) d_Mo_pack_215 (by decide) ?_
  refine T_istore_n (L' := [(2, .int (nI 0)), (0, .ref 373), (1, .int (nI a))]) d_Mo_pack_216 (by decide) rfl ?_
  have vw : vW W3 = x % pP := by
    have b : 0 ≤ vW W0 ∧ vW W0 < 65536 ^ 16 := sumV_bd (g := fun k => (W0 k).toInt) wR
    rw [j3, j2, j1, sub3 b.1 b.2]; exact eqP.em.mp wV
  have h_11 := (gk3 373 (by decide)).trans (h_10)
  have h_12 := (gk3 394 (by decide)).trans ((gk2 394 (by decide)).trans ((gk1 394 (by decide)).trans ((hk2 394 (by decide)).trans ((s3 394 (by decide)).trans ((s2 394 (by decide)).trans ((s1 394 (by decide)).trans ((hk1 394 (by decide)).trans (h394))))))))
  refine pk_c3 (a := a) G h_11 gb3 i3 (fun Me hI => ?_) 32 0 Mr3 rfl ⟨⟨_, h_12, fun i hi => absurd hi (by omega)⟩, Kp.rf⟩
  obtain ⟨⟨P5, hP5, hP6⟩, hk5⟩ := hI
  have h_13 := (hk5 373 (by decide)).trans (h_11)
  have h_14 := (hk5 390 (by decide)).trans ((gk3 390 (by decide)).trans ((gk2 390 (by decide)).trans ((gk1 390 (by decide)).trans (hg))))
  have h_15 := (hk5 391 (by decide)).trans ((gk3 391 (by decide)).trans ((gk2 391 (by decide)).trans ((gk1 391 (by decide)).trans ((hk2 391 (by decide)).trans ((s3 391 (by decide)).trans ((s2 391 (by decide)).trans ((s1 391 (by decide)).trans ((hk1 391 (by decide)).trans (h391)))))))))
  have h_16 := (hk5 392 (by decide)).trans (ga3)
  have h_17 := (hk5 393 (by decide)).trans (gb3)
  exact T_vret d_Mo_pack_255 rfl (by decide) (by decide) ⟨rfl, Fz, P5, ⟨h_13, h_14, ⟨_, h_15⟩, ⟨_, h_16⟩, ⟨_, h_17⟩, ⟨_, hP5⟩⟩, hP5, fun k hk => by rw [hP6 k hk, vw], kr, v63, (Kp.tr (Kp.tr (Kp.tr (Kp.tr (Kp.tr (Kp.ex (Kp.ex (Kp.ex (Kp.tr (Kp.rf : Kp [390, 391, 392, 393, 394] M M) (Kp.mono hk1 (by decide))) s1 (by decide)) s2 (by decide)) s3 (by decide)) (Kp.mono hk2 (by decide))) (Kp.mono gk1 (by decide))) (Kp.mono gk2 (by decide))) (Kp.mono gk3 (by decide))) (Kp.mono hk5 (by decide)))⟩
theorem RF.mk1 {M M' : List va_E} {v : Nat → Int32} {F F' : Nat → Int64} (hR : RF M v F) (e : M' = M.set 390 (lr 1024 F')) : RF M' v F' ∧ Kp RW M M' := by
  obtain ⟨ho, hf, ⟨P1, h1⟩, ⟨P2, h2⟩, ⟨P3, h3⟩, ⟨P4, h4⟩⟩ := hR
  obtain ⟨g, s⟩ := mst1 e (X_len hf)
  exact ⟨⟨(s 373 (by decide)).trans ho, g, ⟨P1, (s 391 (by decide)).trans h1⟩, ⟨P2, (s 392 (by decide)).trans h2⟩, ⟨P3, (s 393 (by decide)).trans h3⟩, ⟨P4, (s 394 (by decide)).trans h4⟩⟩, Kp.ex Kp.rf s (by decide)⟩
theorem RF.mk2 {M M' : List va_E} {v : Nat → Int32} {F F' P : Nat → Int64} (hR : RF M v F) (e : M' = (M.set 391 (lr 31 P)).set 390 (lr 1024 F')) : RF M' v F' ∧ Kp RW M M' := by
  obtain ⟨ho, hf, ⟨P1, h1⟩, ⟨P2, h2⟩, ⟨P3, h3⟩, ⟨P4, h4⟩⟩ := hR
  obtain ⟨g1, g, s⟩ := mst2 e (X_len h1) (X_len hf) (by decide)
  exact ⟨⟨(s 373 (by decide)).trans ho, g, ⟨P, g1⟩, ⟨P2, (s 392 (by decide)).trans h2⟩, ⟨P3, (s 393 (by decide)).trans h3⟩, ⟨P4, (s 394 (by decide)).trans h4⟩⟩, s.mono (by decide)⟩
section RR
variable {G : GX} {M : List va_E} {v : Nat → Int32} {F : Nat → Int64} {d a b : Nat} {x y : Int}
def rP (M : List va_E) (v : Nat → Int32) (F : Nat → Int64) (d : Nat) (x : Int) (ds : List Nat) (M' : List va_E) : Prop := ∃ F', RF M' v F' ∧ V16 F' d x ∧ Kr ds F F' ∧ Kp RW M M'
theorem z_Mo_mul (hR : RF M v F) (hd : d ≤ 63) (ha : a ≤ 63) (hb : b ≤ 63) (hx : V16 F a x) (hy : V16 F b y) : CT G mi_Mo_mul [.ref 373, .int (nI d), .int (nI a), .int (nI b)] M (fun r M' => r = none ∧ rP M v F d (x * y) [d] M') := by
  have hR0 := hR
  obtain ⟨ho, hf, ⟨P1, h1⟩, -⟩ := hR
  exact (x_Mo_mul G ho hf hd ha hb h1 hx hy).post fun r M' hq => by
    obtain ⟨e, F', P', e2, h, k⟩ := hq
    obtain ⟨r1, r2⟩ := hR0.mk2 e2
    exact ⟨e, F', r1, h, Kr.one k, r2⟩
theorem z_Mo_add (hR : RF M v F) (hd : d ≤ 63) (ha : a ≤ 63) (hb : b ≤ 63) (hx : V16 F a x) (hy : V16 F b y) : CT G mi_Mo_add [.ref 373, .int (nI d), .int (nI a), .int (nI b)] M (fun r M' => r = none ∧ rP M v F d (x + y) [d] M') :=
  (x_Mo_add G hR.1 hR.2.1 hd ha hb hx hy).post fun r M' hq => by
    obtain ⟨e, F', e2, h, k⟩ := hq
    obtain ⟨r1, r2⟩ := hR.mk1 e2
    exact ⟨e, F', r1, h, Kr.one k, r2⟩
theorem z_Mo_sub (hR : RF M v F) (hd : d ≤ 63) (ha : a ≤ 63) (hb : b ≤ 63) (hx : V16 F a x) (hy : V16 F b y) : CT G mi_Mo_sub [.ref 373, .int (nI d), .int (nI a), .int (nI b)] M (fun r M' => r = none ∧ rP M v F d (x - y) [d] M') :=
  (x_Mo_sub G hR.1 hR.2.1 hd ha hb hx hy).post fun r M' hq => by
    obtain ⟨e, F', e2, h, k⟩ := hq
    obtain ⟨r1, r2⟩ := hR.mk1 e2
    exact ⟨e, F', r1, h, Kr.one k, r2⟩
theorem z_Mo_set (hR : RF M v F) (hd : d ≤ 63) (ha : a ≤ 63) (hx : V16 F a x) : CT G mi_Mo_set [.ref 373, .int (nI d), .int (nI a)] M (fun r M' => r = none ∧ rP M v F d x [d] M') :=
  (x_Mo_set G hR.1 hR.2.1 hd ha hx).post fun r M' hq => by
    obtain ⟨e, F', e2, h, k⟩ := hq
    obtain ⟨r1, r2⟩ := hR.mk1 e2
    exact ⟨e, F', r1, h, Kr.one k, r2⟩
end RR
def up (E : Nat → Int) (d : Nat) (x : Int) : Nat → Int := fun e => if e = d then x else E e
theorem up_self (E : Nat → Int) (d : Nat) (x : Int) : up E d x d = x := if_pos rfl
theorem up_ne {E : Nat → Int} {d e : Nat} {x : Int} (h : e ≠ d) : up E d x e = E e := if_neg h
def RE (M : List va_E) (v : Nat → Int32) (E : Nat → Int) : Prop := ∃ F, RF M v F ∧ ∀ d, d < 64 → V16 F d (E d)
section REs
variable {G : GX} {M M' : List va_E} {v : Nat → Int32} {E E' : Nat → Int} {F : Nat → Int64} {d a b : Nat} {x y : Int}
theorem RE.ob (h : RE M v E) : M[373]? = some (moO v) := by obtain ⟨F, h, -⟩ := h; exact h.1
theorem RE.pk (h : RE M v E) : ∃ P, M[394]? = some (ir 32 P) := by obtain ⟨F, h, -⟩ := h; exact h.2.2.2.2.2
theorem RE.eq (h : RE M v E) (q : ∀ d, d < 64 → eqP (E d) (E' d)) : RE M v E' := by obtain ⟨F, h, k⟩ := h; exact ⟨F, h, fun d hd => (k d hd).eq (q d hd)⟩
theorem RE.kp {W : List Nat} (h : RE M v E) (s : Kp W M M') (n1 : 373 ∉ W) (n2 : 390 ∉ W) (n3 : 391 ∉ W) (n4 : 392 ∉ W) (n5 : 393 ∉ W) (n6 : 394 ∉ W) : RE M' v E := by
  obtain ⟨F, ⟨h1, h2, ⟨p3, h3⟩, ⟨p4, h4⟩, ⟨p5, h5⟩, ⟨p6, h6⟩⟩, k⟩ := h
  exact ⟨F, ⟨(s _ n1).trans h1, (s _ n2).trans h2, ⟨p3, (s _ n3).trans h3⟩, ⟨p4, (s _ n4).trans h4⟩, ⟨p5, (s _ n5).trans h5⟩, ⟨p6, (s _ n6).trans h6⟩⟩, k⟩
theorem RE.up1 (k : ∀ d, d < 64 → V16 F d (E d)) (q : rP M v F d x [d] M') : RE M' v (up E d x) ∧ Kp RW M M' := by
  obtain ⟨F', r, h, s, w⟩ := q
  refine ⟨⟨F', r, fun e he => ?_⟩, w⟩
  by_cases c : e = d
  · subst c; rw [up_self]; exact h
  · rw [up_ne c]; exact (k e he).kr s (by simpa using c)
theorem e_Mo_mul (h : RE M v E) (hd : d ≤ 63) (ha : a ≤ 63) (hb : b ≤ 63) : CT G mi_Mo_mul [.ref 373, .int (nI d), .int (nI a), .int (nI b)] M (fun r M' => r = none ∧ RE M' v (up E d (E a * E b)) ∧ Kp RW M M') := by
  obtain ⟨F, h, k⟩ := h
  exact (z_Mo_mul h hd ha hb (k a (by omega)) (k b (by omega))).post fun r M' q => ⟨q.1, RE.up1 k q.2⟩
theorem e_Mo_add (h : RE M v E) (hd : d ≤ 63) (ha : a ≤ 63) (hb : b ≤ 63) : CT G mi_Mo_add [.ref 373, .int (nI d), .int (nI a), .int (nI b)] M (fun r M' => r = none ∧ RE M' v (up E d (E a + E b)) ∧ Kp RW M M') := by
  obtain ⟨F, h, k⟩ := h
  exact (z_Mo_add h hd ha hb (k a (by omega)) (k b (by omega))).post fun r M' q => ⟨q.1, RE.up1 k q.2⟩
theorem e_Mo_sub (h : RE M v E) (hd : d ≤ 63) (ha : a ≤ 63) (hb : b ≤ 63) : CT G mi_Mo_sub [.ref 373, .int (nI d), .int (nI a), .int (nI b)] M (fun r M' => r = none ∧ RE M' v (up E d (E a - E b)) ∧ Kp RW M M') := by
  obtain ⟨F, h, k⟩ := h
  exact (z_Mo_sub h hd ha hb (k a (by omega)) (k b (by omega))).post fun r M' q => ⟨q.1, RE.up1 k q.2⟩
theorem e_Mo_set (h : RE M v E) (hd : d ≤ 63) (ha : a ≤ 63) : CT G mi_Mo_set [.ref 373, .int (nI d), .int (nI a)] M (fun r M' => r = none ∧ RE M' v (up E d (E a)) ∧ Kp RW M M') := by
  obtain ⟨F, h, k⟩ := h
  exact (z_Mo_set h hd ha (k a (by omega))).post fun r M' q => ⟨q.1, RE.up1 k q.2⟩
def byN (x : Int) (k : Nat) : Nat := ((x % pP) / 256 ^ k % 256).toNat
theorem byN_eq {x y : Int} (h : eqP x y) : byN x = byN y := by funext k; unfold byN; rw [eqP.em.mp h]
theorem byN_lt (x : Int) (k : Nat) : byN x k < 256 := by unfold byN; omega
theorem byN_I (x : Int) (k : Nat) : Int32.ofInt ((x % pP) / 256 ^ k % 256) = nI (byN x k) := by
  unfold byN nI
  have h : 0 ≤ (x % pP) / 256 ^ k % 256 := Int.emod_nonneg _ (by decide)
  obtain ⟨n, e⟩ := Int.eq_ofNat_of_zero_le h
  rw [e]; rfl
def PK (M : List va_E) (x : Int) : Prop := ∃ P, M[394]? = some (ir 32 P) ∧ ∀ k, k < 32 → P k = nI (byN x k)
theorem PK.eq (h : PK M x) (e : eqP x y) : PK M y := by obtain ⟨P, h1, h2⟩ := h; exact ⟨P, h1, fun k hk => by rw [h2 k hk, byN_eq e]⟩
theorem PK.kp {W : List Nat} (h : PK M x) (s : Kp W M M') (n : 394 ∉ W) : PK M' x := by obtain ⟨P, h1, h2⟩ := h; exact ⟨P, (s _ n).trans h1, h2⟩
theorem e_Mo_pack (h : RE M v E) (ha : a ≤ 62) : CT G mi_Mo_pack [.ref 373, .int (nI a)] M (fun r M' => r = none ∧ RE M' v (up E 63 (E a)) ∧ PK M' (E a) ∧ Kp RW M M') := by
  obtain ⟨F, h, k⟩ := h
  refine (x_Mo_pack G h ha (k a (by omega))).post fun r M' q => ?_
  obtain ⟨q1, F', P, q2, q3, q4, q5, q6, q7⟩ := q
  refine ⟨q1, ⟨F', q2, fun e he => ?_⟩, ⟨P, q3, fun k hk => by rw [q4 k hk, byN_I]⟩, q7⟩
  by_cases c : e = 63
  · subst c; rw [up_self]; exact q6
  · rw [up_ne c]; exact (k e he).kr q5 (by simpa using c)
end REs
def KE (ds : List Nat) (E E' : Nat → Int) : Prop := ∀ e, e ∉ ds → E' e = E e
theorem KE.rf {ds : List Nat} {E : Nat → Int} : KE ds E E := fun _ _ => rfl
theorem KE.tr {ds : List Nat} {E E' E'' : Nat → Int} (h : KE ds E E') (h' : KE ds E' E'') : KE ds E E'' := fun e he => (h' e he).trans (h e he)
theorem KE.mono {ds ds' : List Nat} {E E' : Nat → Int} (h : KE ds E E') (hs : ∀ q ∈ ds, q ∈ ds') : KE ds' E E' := fun e he => h e (fun c => he (hs e c))
theorem KE.up {E : Nat → Int} {d : Nat} {x : Int} : KE [d] E (up E d x) := fun e he => up_ne (by simpa using he)
def qP (M : List va_E) (v : Nat → Int32) (E : Nat → Int) (d : Nat) (x : Int) (ds : List Nat) (M' : List va_E) : Prop := ∃ E', RE M' v E' ∧ E' d = x ∧ KE ds E E' ∧ Kp RW M M'
section REs2
variable {G : GX} {M M' : List va_E} {v : Nat → Int32} {E E' : Nat → Int} {d a b : Nat} {x y : Int}
theorem u_Mo_mul (h : RE M v E) (hd : d ≤ 63) (ha : a ≤ 63) (hb : b ≤ 63) (hx : E a = x) (hy : E b = y) : CT G mi_Mo_mul [.ref 373, .int (nI d), .int (nI a), .int (nI b)] M (fun r M' => r = none ∧ qP M v E d (x * y) [d] M') :=
  (e_Mo_mul h hd ha hb).post fun _ _ q => ⟨q.1, _, q.2.1, by rw [up_self, hx, hy], KE.up, q.2.2⟩
theorem u_Mo_add (h : RE M v E) (hd : d ≤ 63) (ha : a ≤ 63) (hb : b ≤ 63) (hx : E a = x) (hy : E b = y) : CT G mi_Mo_add [.ref 373, .int (nI d), .int (nI a), .int (nI b)] M (fun r M' => r = none ∧ qP M v E d (x + y) [d] M') :=
  (e_Mo_add h hd ha hb).post fun _ _ q => ⟨q.1, _, q.2.1, by rw [up_self, hx, hy], KE.up, q.2.2⟩
theorem u_Mo_sub (h : RE M v E) (hd : d ≤ 63) (ha : a ≤ 63) (hb : b ≤ 63) (hx : E a = x) (hy : E b = y) : CT G mi_Mo_sub [.ref 373, .int (nI d), .int (nI a), .int (nI b)] M (fun r M' => r = none ∧ qP M v E d (x - y) [d] M') :=
  (e_Mo_sub h hd ha hb).post fun _ _ q => ⟨q.1, _, q.2.1, by rw [up_self, hx, hy], KE.up, q.2.2⟩
theorem u_Mo_set (h : RE M v E) (hd : d ≤ 63) (ha : a ≤ 63) (hx : E a = x) : CT G mi_Mo_set [.ref 373, .int (nI d), .int (nI a)] M (fun r M' => r = none ∧ qP M v E d x [d] M') :=
  (e_Mo_set h hd ha).post fun _ _ q => ⟨q.1, _, q.2.1, by rw [up_self, hx], KE.up, q.2.2⟩
def qK (M : List va_E) (v : Nat → Int32) (E : Nat → Int) (ds : List Nat) (M' : List va_E) : Prop := ∃ E', RE M' v E' ∧ KE ds E E' ∧ Kp RW M M'
theorem u_Mo_pack (h : RE M v E) (ha : a ≤ 62) (hx : E a = x) : CT G mi_Mo_pack [.ref 373, .int (nI a)] M (fun r M' => r = none ∧ PK M' x ∧ qK M v E [63] M') :=
  (e_Mo_pack h ha).post fun _ _ q => ⟨q.1, by rw [← hx]; exact q.2.2.1, _, q.2.1, KE.up, q.2.2.2⟩
end REs2
