theorem nI_and1 (a : Nat) (h : a < 256) : nI a &&& nI 1 = nI (a % 2) := by
  have : ∀ a, a < 256 → nI a &&& nI 1 = nI (a % 2) := by decide +kernel
  exact this a h
theorem byN_odd (x : Int) : byN x 0 % 2 = 1 ↔ (x % pP) % 2 = 1 := by unfold byN; rw [Int.pow_zero, Int.ediv_one]; omega
def orA (P : Nat → Int32) : Nat → Int32
  | 0 => nI 0
  | k + 1 => orA P k ||| P k
theorem i32_or0 {a b : Int32} : a ||| b = 0 ↔ a = 0 ∧ b = 0 := by
  constructor
  · intro h
    have h' : a.toBitVec ||| b.toBitVec = 0#32 := by rw [← Int32.toBitVec_or, h]; rfl
    have := BitVec.or_eq_zero_iff.mp h'
    exact ⟨Int32.toBitVec_inj.mp this.1, Int32.toBitVec_inj.mp this.2⟩
  · rintro ⟨rfl, rfl⟩; rfl
theorem orA_0 {P : Nat → Int32} : ∀ {n : Nat}, orA P n = nI 0 ↔ ∀ k, k < n → P k = 0
  | 0 => ⟨fun _ k h => absurd h (by omega), fun _ => rfl⟩
  | n + 1 => by
    show orA P n ||| P n = 0 ↔ _
    rw [i32_or0]
    constructor
    · rintro ⟨h1, h2⟩ k hk
      by_cases e : k = n
      · subst e; exact h2
      · exact orA_0.mp h1 k (by omega)
    · intro h; exact ⟨orA_0.mpr fun k hk => h k (by omega), h n (by omega)⟩
theorem byN_0 (x : Int) : (∀ k, k < 32 → nI (byN x k) = 0) ↔ x % pP = 0 := by
  have l : ∀ k, byN x k < 256 := byN_lt x
  constructor
  · intro h
    have h0 : ∀ k, k < 32 → (x % pP) / 256 ^ k % 256 = 0 := fun k hk => by
      have e := (nI_eq (show byN x k < 2 ^ 31 by have := l k; omega) (show 0 < 2 ^ 31 by decide)).mp (h k hk)
      unfold byN at e
      have : 0 ≤ (x % pP) / 256 ^ k % 256 := Int.emod_nonneg _ (by decide)
      omega
    have b0 : 0 ≤ x % pP := Int.emod_nonneg _ (by decide)
    have b1 : x % pP < 2 ^ 256 := Int.lt_trans (Int.emod_lt_of_pos _ (by decide)) (by decide)
    rw [← num32_dig b0 b1, num32_sum, sumN_congr (c := fun _ => 0) h0]
    decide
  · intro h k hk
    unfold byN; rw [h]; simp; rfl
set_option maxHeartbeats 8000000 in
theorem u_Mo_odd {G : GX} {M : List va_E} {v : Nat → Int32} {E : Nat → Int} {a : Nat} {x : Int} (hE : RE M v E) (ha : a ≤ 62) (hx : E a = x) : CT G mi_Mo_odd [.ref 373, .int (nI a)] M (fun r M' => r = some (.int (nI (if (x % pP) % 2 = 1 then 1 else 0))) ∧ PK M' x ∧ qK M v E [63] M') := by
  refine CT.of (by decide) (Nat.le_of_ble_eq_true rfl) ?_
  show TT G mi_Mo_odd 0 [(0, .ref 373), (1, .int (nI a))] [] M 0 0 _
  refine T_aload_n (v := .ref 373) d_Mo_odd_0 rfl (Or.inr ⟨_, rfl⟩) ?_
  refine T_iload_n d_Mo_odd_1 rfl ?_
  refine T_virtual (as := [.int (nI a)]) (rest := []) (b := 373) d_Mo_odd_2 rfl (jw_Mo_pack.jo (by decide)) lm_Mo_149 ji_Mo_pack js_Mo_pack hE.ob rfl rfl rfl (Nat.le_of_ble_eq_true rfl) (by decide) (by decide) (u_Mo_pack hE ha hx) (fun r M_1 hq => ?_)
  obtain ⟨rfl, pk_1, E_1, hE_1, ke_1, kp_1⟩ := hq
  refine T_eq (pc' := 5) (L' := [(0, .ref 373), (1, .int (nI a))]) (st' := []) (M' := M_1) rfl rfl rfl rfl ?_
  obtain ⟨P, hP, hP2⟩ := pk_1
  refine T_aload_n (v := .ref 373) d_Mo_odd_5 rfl (Or.inr ⟨_, rfl⟩) ?_
  refine T_getfield (v := .ref 394) d_Mo_odd_6 fg_Mo_146 hE_1.ob rfl ?_
  refine T_iconst (v := nI 0) d_Mo_odd_9 (by decide) ?_
  refine N_iaload (k := 0) (x := (nI ((byN x 0)))) d_Mo_odd_10 hP (by omega) (by decide) (hP2 0 (by decide)) ?_
  refine T_iconst (v := nI 1) d_Mo_odd_11 (by decide) ?_
  refine T_iand d_Mo_odd_12 ?_
  refine N_topi (y := (nI ((byN x 0 % 2)))) (nI_and1 _ (byN_lt x 0)) ?_
  refine T_iconst (v := nI 1) d_Mo_odd_13 (by decide) ?_
  refine N_icmp_ne (a := 1) (b := (byN x 0 % 2)) d_Mo_odd_14 (tgt := 21) rfl (by omega) (by omega) (fun hs => ?_) (fun hs => ?_)
  ·
    refine T_iconst (v := nI 0) d_Mo_odd_21 (by decide) ?_
    exact T_ret d_Mo_odd_22 rfl (by decide) (by decide) (by decide) ⟨by rw [if_neg (fun c => hs ((byN_odd x).mpr c))], ⟨P, hP, hP2⟩, _, hE_1, ke_1, kp_1⟩
  ·
    refine T_iconst (v := nI 1) d_Mo_odd_17 (by decide) ?_
    refine T_goto (tgt := 22) d_Mo_odd_18 rfl ?_
    exact T_ret d_Mo_odd_22 rfl (by decide) (by decide) (by decide) ⟨by rw [if_pos ((byN_odd x).mp (Classical.byContradiction hs))], ⟨P, hP, hP2⟩, _, hE_1, ke_1, kp_1⟩
set_option maxHeartbeats 8000000 in
theorem iz_lp (G : GX) {M0 : List va_E} {v : Nat → Int32} {a : Nat} {P : Nat → Int32} (ho : M0[373]? = some (moO v)) (hP : M0[394]? = some (ir 32 P)) {Q : Option Value → List va_E → Prop} (kk : ∀ M, M0 = M → TT G mi_Mo_isZero 30 [(2, .int (orA P 32)), (0, .ref 373), (1, .int (nI a))] [] M 0 0 Q) : ∀ j k M, k + j = 32 → M0 = M → TT G mi_Mo_isZero 9 [(3, .int (nI k)), (2, .int (orA P k)), (0, .ref 373), (1, .int (nI a))] [] M 0 0 Q := by
  intro j
  induction j with
  | zero =>
    intro k M hk hI
    obtain rfl : 32 = k := by omega
    refine T_iload_n d_Mo_isZero_9 rfl ?_
    refine T_bipush (v := nI 32) d_Mo_isZero_10 (by decide) ?_
    refine N_icmp_ge_t (a := 32) (b := 32) d_Mo_isZero_12 (tgt := 30) rfl (by omega) (by omega) (by omega) ?_
    exact T_sub (fun q hq => List.mem_cons_of_mem _ hq) (kk M hI)
  | succ j ih =>
    intro k M hk hI
    obtain rfl := hI
    refine T_iload_n d_Mo_isZero_9 rfl ?_
    refine T_bipush (v := nI 32) d_Mo_isZero_10 (by decide) ?_
    refine N_icmp_ge_f (a := 32) (b := k) d_Mo_isZero_12 (tgt := 30) rfl (by omega) (by omega) (by omega) ?_
    refine T_iload_n d_Mo_isZero_15 rfl ?_
    refine T_aload_n (v := .ref 373) d_Mo_isZero_16 rfl (Or.inr ⟨_, rfl⟩) ?_
    refine T_getfield (v := .ref 394) d_Mo_isZero_17 fg_Mo_146 ho rfl ?_
    refine T_iload_n d_Mo_isZero_20 rfl ?_
    refine N_iaload (k := k) (x := (P k)) d_Mo_isZero_21 hP (by omega) (by decide) rfl ?_
    refine T_ior d_Mo_isZero_22 ?_
    refine T_istore_n (L' := [(2, .int ((orA P k) ||| (P k))), (3, .int (nI k)), (0, .ref 373), (1, .int (nI a))]) d_Mo_isZero_23 (by decide) rfl ?_
    refine T_eq (pc' := 24) (L' := [(2, .int (orA P (k + 1))), (3, .int (nI k)), (0, .ref 373), (1, .int (nI a))]) (st' := []) (M' := M0) rfl rfl rfl rfl ?_
    refine N_iinc (k := k) (m := 1) (c := (k + 1)) (L' := [(3, .int (nI ((k + 1)))), (2, .int (orA P (k + 1))), (0, .ref 373), (1, .int (nI a))]) d_Mo_isZero_24 (by decide) rfl (by decide) rfl rfl ?_
    refine T_goto (tgt := 9) d_Mo_isZero_27 rfl ?_
    exact ih (k + 1) M0 (by omega) rfl
set_option maxHeartbeats 8000000 in
theorem u_Mo_isZero {G : GX} {M : List va_E} {v : Nat → Int32} {E : Nat → Int} {a : Nat} {x : Int} (hE : RE M v E) (ha : a ≤ 62) (hx : E a = x) : CT G mi_Mo_isZero [.ref 373, .int (nI a)] M (fun r M' => r = some (.int (nI (if x % pP = 0 then 1 else 0))) ∧ PK M' x ∧ qK M v E [63] M') := by
  refine CT.of (by decide) (Nat.le_of_ble_eq_true rfl) ?_
  show TT G mi_Mo_isZero 0 [(0, .ref 373), (1, .int (nI a))] [] M 0 0 _
  refine T_aload_n (v := .ref 373) d_Mo_isZero_0 rfl (Or.inr ⟨_, rfl⟩) ?_
  refine T_iload_n d_Mo_isZero_1 rfl ?_
  refine T_virtual (as := [.int (nI a)]) (rest := []) (b := 373) d_Mo_isZero_2 rfl (jw_Mo_pack.jo (by decide)) lm_Mo_149 ji_Mo_pack js_Mo_pack hE.ob rfl rfl rfl (Nat.le_of_ble_eq_true rfl) (by decide) (by decide) (u_Mo_pack hE ha hx) (fun r M_1 hq => ?_)
  obtain ⟨rfl, pk_1, E_1, hE_1, ke_1, kp_1⟩ := hq
  refine T_eq (pc' := 5) (L' := [(0, .ref 373), (1, .int (nI a))]) (st' := []) (M' := M_1) rfl rfl rfl rfl ?_
  obtain ⟨P, hP, hP2⟩ := pk_1
  refine T_iconst (v := nI 0) d_Mo_isZero_5 (by decide) ?_
  refine T_istore_n (L' := [(2, .int (nI 0)), (0, .ref 373), (1, .int (nI a))]) d_Mo_isZero_6 (by decide) rfl ?_
  refine T_iconst (v := nI 0) d_Mo_isZero_7 (by decide) ?_
  refine T_istore_n (L' := [(3, .int (nI 0)), (2, .int (nI 0)), (0, .ref 373), (1, .int (nI a))]) d_Mo_isZero_8 (by decide) rfl ?_
  refine iz_lp G (a := a) hE_1.ob hP (fun M3 e3 => ?_) 32 0 M_1 rfl rfl
  subst e3
  have hz : orA P 32 = nI 0 ↔ x % pP = 0 := by rw [orA_0, ← byN_0]; exact ⟨fun h k hk => by rw [← hP2 k hk]; exact h k hk, fun h k hk => by rw [hP2 k hk]; exact h k hk⟩
  refine T_iload_n d_Mo_isZero_30 rfl ?_
  refine T_if_ne d_Mo_isZero_31 (tgt := 38) rfl (fun hs => ?_) (fun hs => ?_)
  ·
    refine T_iconst (v := nI 0) d_Mo_isZero_38 (by decide) ?_
    exact T_ret d_Mo_isZero_39 rfl (by decide) (by decide) (by decide) ⟨by rw [if_neg (fun c => hs (hz.mpr c))], ⟨P, hP, hP2⟩, _, hE_1, ke_1, kp_1⟩
  ·
    refine T_iconst (v := nI 1) d_Mo_isZero_34 (by decide) ?_
    refine T_goto (tgt := 39) d_Mo_isZero_35 rfl ?_
    exact T_ret d_Mo_isZero_39 rfl (by decide) (by decide) (by decide) ⟨by rw [if_pos (hz.mp hs)], ⟨P, hP, hP2⟩, _, hE_1, ke_1, kp_1⟩
set_option maxHeartbeats 8000000 in
theorem u_Mo_same {G : GX} {M : List va_E} {v : Nat → Int32} {E : Nat → Int} {a b : Nat} {x y : Int} (hE : RE M v E) (ha : a ≤ 62) (hb : b ≤ 62) (hx : E a = x) (hy : E b = y) : CT G mi_Mo_same [.ref 373, .int (nI a), .int (nI b)] M (fun r M' => r = some (.int (nI (if (x - y) % pP = 0 then 1 else 0))) ∧ qK M v E [62, 63] M') := by
  refine CT.of (by decide) (Nat.le_of_ble_eq_true rfl) ?_
  show TT G mi_Mo_same 0 [(0, .ref 373), (1, .int (nI a)), (2, .int (nI b))] [] M 0 0 _
  refine T_aload_n (v := .ref 373) d_Mo_same_0 rfl (Or.inr ⟨_, rfl⟩) ?_
  refine T_bipush (v := nI 62) d_Mo_same_1 (by decide) ?_
  refine T_iload_n d_Mo_same_3 rfl ?_
  refine T_iload_n d_Mo_same_4 rfl ?_
  refine T_virtual (as := [.int (nI 62), .int (nI a), .int (nI b)]) (rest := []) (b := 373) d_Mo_same_5 rfl (jw_Mo_sub.jo (by decide)) lm_Mo_152 ji_Mo_sub js_Mo_sub hE.ob rfl rfl rfl (Nat.le_of_ble_eq_true rfl) (by decide) (by decide) (u_Mo_sub hE (by decide) (by omega) (by omega) hx hy) (fun r M_1 hq => ?_)
  obtain ⟨rfl, E_1, hE_1, vr_1, ke_1, kp_1⟩ := hq
  refine T_eq (pc' := 8) (L' := [(0, .ref 373), (1, .int (nI a)), (2, .int (nI b))]) (st' := []) (M' := M_1) rfl rfl rfl rfl ?_
  refine T_aload_n (v := .ref 373) d_Mo_same_8 rfl (Or.inr ⟨_, rfl⟩) ?_
  refine T_bipush (v := nI 62) d_Mo_same_9 (by decide) ?_
  refine T_virtual (as := [.int (nI 62)]) (rest := []) (b := 373) d_Mo_same_11 rfl (jw_Mo_isZero.jo (by decide)) lm_Mo_156 ji_Mo_isZero js_Mo_isZero hE_1.ob rfl rfl rfl (Nat.le_of_ble_eq_true rfl) (by decide) (by decide) (u_Mo_isZero hE_1 (by decide) vr_1) (fun r M_2 hq => ?_)
  obtain ⟨rfl, pk_2, E_2, hE_2, ke_2, kp_2⟩ := hq
  refine T_eq (pc' := 14) (L' := [(0, .ref 373), (1, .int (nI a)), (2, .int (nI b))]) (st' := [.int (nI ((if (x - y) % pP = 0 then 1 else 0)))]) (M' := M_2) rfl rfl rfl rfl ?_
  exact T_ret d_Mo_same_14 rfl (by split <;> decide) (by decide) (by decide) ⟨rfl, _, hE_2, (KE.tr (KE.tr (KE.rf : KE [62, 63] E E) (KE.mono ke_1 (by decide))) (KE.mono ke_2 (by decide))), (Kp.tr (Kp.tr (Kp.rf : Kp [390, 391, 392, 393, 394] M M) (Kp.mono kp_1 (by decide))) (Kp.mono kp_2 (by decide)))⟩
abbrev smOK (c : Nat) (x : Int) : Prop := (((nI c) &&& 65535).toInt64).toInt + 65536 * (((nI c) >>> (nI 16 &&& 31)).toInt64).toInt = x ∧ (-131072 ≤ (((nI c) &&& 65535).toInt64).toInt ∧ (((nI c) &&& 65535).toInt64).toInt ≤ 131072) ∧ -131072 ≤ (((nI c) >>> (nI 16 &&& 31)).toInt64).toInt ∧ (((nI c) >>> (nI 16 &&& 31)).toInt64).toInt ≤ 131072
theorem small_V {F : Nat → Int64} {d : Nat} {lo hi : Int64} (h1 : -131072 ≤ lo.toInt ∧ lo.toInt ≤ 131072) (h2 : -131072 ≤ hi.toInt ∧ hi.toInt ≤ 131072) : V16 (vp_updL (vp_updL (cpF F (16 * d) 16 (fun _ => 0)) (16 * d) lo) (16 * d + 1) hi) d (lo.toInt + 65536 * hi.toInt) := by
  have g : ∀ k, k < 16 → (vp_updL (vp_updL (cpF F (16 * d) 16 (fun _ => 0)) (16 * d) lo) (16 * d + 1) hi (16 * d + k)).toInt = if k = 0 then lo.toInt else if k = 1 then hi.toInt else 0 := fun k hk => by
    unfold vp_updL cpF
    by_cases a : k = 1
    · subst a; rw [if_pos rfl]; rfl
    · rw [if_neg (by omega)]
      by_cases b : k = 0
      · subst b; rw [Nat.add_zero, if_pos rfl]; rfl
      · rw [if_neg (by omega), if_pos (by omega), if_neg b, if_neg a]; rfl
  refine ⟨eqP.of ?_, fun k hk => ?_⟩
  · unfold v16; rw [sumV_congr g]; simp [sumV]; omega
  · rw [g k hk]; split; exact h1; split; exact h2; omega
set_option maxHeartbeats 8000000 in
theorem sm_lp (G : GX) {M0 : List va_E} {v : Nat → Int32} {d c : Nat} {F : Nat → Int64} (ho : M0[373]? = some (moO v)) (hd : d ≤ 63) {Q : Option Value → List va_E → Prop} (kk : ∀ M, M[390]? = some (lr 1024 (cpF F (16 * d) 16 (fun _ => 0))) ∧ Kp [390] M0 M → TT G mi_Mo_small 26 [(0, .ref 373), (1, .int (nI d)), (2, .int (nI c))] [] M 0 0 Q) : ∀ j k M, k + j = 16 → M[390]? = some (lr 1024 (cpF F (16 * d) k (fun _ => 0))) ∧ Kp [390] M0 M → TT G mi_Mo_small 2 [(3, .int (nI k)), (0, .ref 373), (1, .int (nI d)), (2, .int (nI c))] [] M 0 0 Q := by
  intro j
  induction j with
  | zero =>
    intro k M hk hI
    obtain rfl : 16 = k := by omega
    refine T_iload_n d_Mo_small_2 rfl ?_
    refine T_bipush (v := nI 16) d_Mo_small_3 (by decide) ?_
    refine N_icmp_ge_t (a := 16) (b := 16) d_Mo_small_5 (tgt := 26) rfl (by omega) (by omega) (by omega) ?_
    exact T_sub (fun q hq => List.mem_cons_of_mem _ hq) (kk M hI)
  | succ j ih =>
    intro k M hk hI
    obtain ⟨h1, hK⟩ := hI
    refine T_iload_n d_Mo_small_2 rfl ?_
    refine T_bipush (v := nI 16) d_Mo_small_3 (by decide) ?_
    refine N_icmp_ge_f (a := 16) (b := k) d_Mo_small_5 (tgt := 26) rfl (by omega) (by omega) (by omega) ?_
    refine T_aload_n (v := .ref 373) d_Mo_small_8 rfl (Or.inr ⟨_, rfl⟩) ?_
    have h_1 := (hK 373 (by decide)).trans (ho)
    refine T_getfield (v := .ref 390) d_Mo_small_9 fg_Mo_124 h_1 rfl ?_
    refine T_bipush (v := nI 16) d_Mo_small_12 (by decide) ?_
    refine T_iload_n d_Mo_small_14 rfl ?_
    refine N_imul (a := d) (b := 16) (c := (16 * d)) d_Mo_small_15 rfl ?_
    refine T_iload_n d_Mo_small_16 rfl ?_
    refine N_iadd (a := k) (b := (16 * d)) (c := ((16 * d) + k)) d_Mo_small_17 rfl ?_
    refine T_lconst (v := 0) d_Mo_small_18 (by decide) ?_
    refine N_lastore (k := ((16 * d) + k)) d_Mo_small_19 (by decide) h1 (by omega) (by decide) rfl (fun M_2 h_3 s_4 => ?_)
    refine N_iinc (k := k) (m := 1) (c := (k + 1)) (L' := [(3, .int (nI ((k + 1)))), (0, .ref 373), (1, .int (nI d)), (2, .int (nI c))]) d_Mo_small_20 (by decide) rfl (by decide) rfl rfl ?_
    refine T_goto (tgt := 2) d_Mo_small_23 rfl ?_
    exact ih (k + 1) M_2 (by omega) ⟨by rw [h_3, cpF_up F (16 * d) k (fun _ => 0)], (Kp.ex (Kp.tr (Kp.rf : Kp [390] M0 M0) (Kp.mono hK (by decide))) s_4 (by decide))⟩
set_option maxHeartbeats 8000000 in
theorem u_Mo_small {G : GX} {M : List va_E} {v : Nat → Int32} {E : Nat → Int} {d c : Nat} {x : Int} (hE : RE M v E) (hd : d ≤ 63) (hc : smOK c x) : CT G mi_Mo_small [.ref 373, .int (nI d), .int (nI c)] M (fun r M' => r = none ∧ qP M v E d x [d] M') := by
  obtain ⟨F, hR, hV⟩ := hE
  have hR0 := hR
  obtain ⟨ho, hf, h1, h2, h3, h4⟩ := hR
  refine CT.of (by decide) (Nat.le_of_ble_eq_true rfl) ?_
  show TT G mi_Mo_small 0 [(0, .ref 373), (1, .int (nI d)), (2, .int (nI c))] [] M 0 0 _
  refine T_iconst (v := nI 0) d_Mo_small_0 (by decide) ?_
  refine T_istore_n (L' := [(3, .int (nI 0)), (0, .ref 373), (1, .int (nI d)), (2, .int (nI c))]) d_Mo_small_1 (by decide) rfl ?_
  refine sm_lp (d := d) (c := c) G ho hd (fun Ma hI => ?_) 16 0 M rfl ⟨by rw [cpF_0]; exact hf, Kp.rf⟩
  obtain ⟨hc1, hk1⟩ := hI
  refine T_aload_n (v := .ref 373) d_Mo_small_26 rfl (Or.inr ⟨_, rfl⟩) ?_
  have h_1 := (hk1 373 (by decide)).trans (ho)
  refine T_getfield (v := .ref 390) d_Mo_small_27 fg_Mo_124 h_1 rfl ?_
  refine T_bipush (v := nI 16) d_Mo_small_30 (by decide) ?_
  refine T_iload_n d_Mo_small_32 rfl ?_
  refine N_imul (a := d) (b := 16) (c := (16 * d)) d_Mo_small_33 rfl ?_
  refine T_iload_n d_Mo_small_34 rfl ?_
  refine T_ldc d_Mo_small_35 kI_Mo_127 ?_
  refine T_iand d_Mo_small_37 ?_
  refine T_i2l d_Mo_small_38 ?_
  refine N_lastore (k := (16 * d)) d_Mo_small_39 (by decide) hc1 (by omega) (by decide) rfl (fun M_2 h_3 s_4 => ?_)
  refine T_aload_n (v := .ref 373) d_Mo_small_40 rfl (Or.inr ⟨_, rfl⟩) ?_
  have h_5 := (s_4 373 (by decide)).trans (h_1)
  refine T_getfield (v := .ref 390) d_Mo_small_41 fg_Mo_124 h_5 rfl ?_
  refine T_bipush (v := nI 16) d_Mo_small_44 (by decide) ?_
  refine T_iload_n d_Mo_small_46 rfl ?_
  refine N_imul (a := d) (b := 16) (c := (16 * d)) d_Mo_small_47 rfl ?_
  refine T_iconst (v := nI 1) d_Mo_small_48 (by decide) ?_
  refine N_iadd (a := 1) (b := (16 * d)) (c := ((16 * d) + 1)) d_Mo_small_49 rfl ?_
  refine T_iload_n d_Mo_small_50 rfl ?_
  refine T_bipush (v := nI 16) d_Mo_small_51 (by decide) ?_
  refine T_ishr d_Mo_small_53 ?_
  refine T_i2l d_Mo_small_54 ?_
  refine N_lastore (k := ((16 * d) + 1)) d_Mo_small_55 (by decide) h_3 (by omega) (by decide) rfl (fun M_6 h_7 s_8 => ?_)
  obtain ⟨e1, e2, e3⟩ := hc
  have V1 := small_V (F := F) (d := d) e2 e3
  rw [e1] at V1
  have kp : Kp [390] M M_6 := (Kp.ex (Kp.ex (Kp.tr (Kp.rf : Kp [390] M M) (Kp.mono hk1 (by decide))) s_4 (by decide)) s_8 (by decide))
  have h_9 := (s_8 373 (by decide)).trans (h_5)
  refine T_vret d_Mo_small_56 rfl (by decide) (by decide) ⟨rfl, up E d x, ⟨_, ⟨h_9, h_7, ?_, ?_, ?_, ?_⟩, fun e he => ?_⟩, up_self _ _ _, KE.up, kp.mono (by decide)⟩
  · obtain ⟨P, hP⟩ := h1; exact ⟨P, (kp 391 (by decide)).trans hP⟩
  · obtain ⟨P, hP⟩ := h2; exact ⟨P, (kp 392 (by decide)).trans hP⟩
  · obtain ⟨P, hP⟩ := h3; exact ⟨P, (kp 393 (by decide)).trans hP⟩
  · obtain ⟨P, hP⟩ := h4; exact ⟨P, (kp 394 (by decide)).trans hP⟩
  · by_cases c : e = d
    · subst c; rw [up_self]; exact V1
    · rw [up_ne c]; exact (hV e he).kr (ds := [d]) (fun e2 he2 k hk => by simp at he2; unfold vp_updL cpF; rw [if_neg (by omega), if_neg (by omega), if_neg (by omega)]) (by simpa using c)
def eb (z1 z2 : Nat) : Nat → Nat → Nat
  | 0, e => e
  | j + 1, e => eb z1 z2 j (if j = z1 ∨ j = z2 then e + e else e + e + 1)
theorem nI_p1 (j : Nat) : nI (j + 1) - 1 = nI j := by rw [nI_succ]; show nI j + 1 - 1 = nI j; rw [Int32.add_sub_cancel]
set_option maxHeartbeats 8000000 in
theorem pw_lp (G : GX) {M0 : List va_E} {v : Nat → Int32} {E : Nat → Int} {d a t z1 z2 : Nat} {x : Int} (ha : a ≤ 60) (hx : E a = x) (h1 : z1 < 2 ^ 31) (h2 : z2 < 2 ^ 31) {Q : Option Value → List va_E → Prop} : ∀ j e M, j < 2 ^ 31 → (∃ E', RE M v E' ∧ E' 61 = pw x e ∧ KE [61] E E' ∧ Kp RW M0 M) → (∀ M', (∃ E', RE M' v E' ∧ E' 61 = pw x (eb z1 z2 j e) ∧ KE [61] E E' ∧ Kp RW M0 M') → TT G mi_Mo_power 56 [(6, .int (-1)), (0, .ref 373), (1, .int (nI d)), (2, .int (nI a)), (3, .int (nI t)), (4, .int (nI z1)), (5, .int (nI z2))] [] M' 0 0 Q) → TT G mi_Mo_power 12 [(6, .int (nI j - 1)), (0, .ref 373), (1, .int (nI d)), (2, .int (nI a)), (3, .int (nI t)), (4, .int (nI z1)), (5, .int (nI z2))] [] M 0 0 Q := by
  intro j
  induction j with
  | zero =>
    intro e M hj hI kk
    refine T_iload d_Mo_power_12 rfl ?_
    refine T_if_lt d_Mo_power_14 (tgt := 56) rfl (fun _ => ?_) (fun c => absurd (by decide) c)
    exact kk M hI
  | succ j ih =>
    intro e M hj hI kk
    obtain ⟨E_0, hE_0, hv_0, ke_0, kp_0⟩ := hI
    rw [nI_p1]
    refine T_iload d_Mo_power_12 rfl ?_
    refine N_if_lt_f (b := j) d_Mo_power_14 (tgt := 56) rfl (by omega) (by omega) ?_
    refine T_aload_n (v := .ref 373) d_Mo_power_17 rfl (Or.inr ⟨_, rfl⟩) ?_
    refine T_bipush (v := nI 61) d_Mo_power_18 (by decide) ?_
    refine T_bipush (v := nI 61) d_Mo_power_20 (by decide) ?_
    refine T_bipush (v := nI 61) d_Mo_power_22 (by decide) ?_
    refine T_virtual (as := [.int (nI 61), .int (nI 61), .int (nI 61)]) (rest := []) (b := 373) d_Mo_power_24 rfl (jw_Mo_mul.jo (by decide)) lm_Mo_163 ji_Mo_mul js_Mo_mul hE_0.ob rfl rfl rfl (Nat.le_of_ble_eq_true rfl) (by decide) (by decide) (u_Mo_mul hE_0 (by decide) (by omega) (by omega) hv_0 hv_0) (fun r M_1 hq => ?_)
    obtain ⟨rfl, E_1, hE_1, vr_1, ke_1, kp_1⟩ := hq
    refine T_eq (pc' := 27) (L' := [(6, .int (nI j)), (0, .ref 373), (1, .int (nI d)), (2, .int (nI a)), (3, .int (nI t)), (4, .int (nI z1)), (5, .int (nI z2))]) (st' := []) (M' := M_1) rfl rfl rfl rfl ?_
    refine T_iload d_Mo_power_27 rfl ?_
    refine T_iload d_Mo_power_29 rfl ?_
    refine N_icmp_eq (a := z1) (b := j) d_Mo_power_31 (tgt := 50) rfl (by omega) (by omega) (fun hc => ?_) (fun hc => ?_)
    ·
      refine T_iinc (x := nI j) (L' := [(6, .int (nI j - 1)), (0, .ref 373), (1, .int (nI d)), (2, .int (nI a)), (3, .int (nI t)), (4, .int (nI z1)), (5, .int (nI z2))]) d_Mo_power_50 (by decide) rfl (by rw [nI_dm]; rfl) ?_
      refine T_goto (tgt := 12) d_Mo_power_53 rfl ?_
      refine ih (e + e) M_1 (by omega) ⟨_, hE_1, ?_, (KE.tr (KE.tr (KE.rf : KE [61] E E) (KE.mono ke_0 (by decide))) (KE.mono ke_1 (by decide))), (Kp.tr (Kp.tr (Kp.rf : Kp [390, 391, 392, 393, 394] M0 M0) (Kp.mono kp_0 (by decide))) (Kp.mono kp_1 (by decide)))⟩ (fun M9 h9 => kk M9 ?_)
      · rw [vr_1]; rw [pw_m]
      · show (∃ E', RE M9 v E' ∧ E' 61 = pw x (eb z1 z2 j (if j = z1 ∨ j = z2 then e + e else e + e + 1)) ∧ KE [61] E E' ∧ Kp RW M0 M9)
        rw [if_pos (Or.inl hc)]; exact h9
    ·
      refine T_iload d_Mo_power_34 rfl ?_
      refine T_iload d_Mo_power_36 rfl ?_
      refine N_icmp_eq (a := z2) (b := j) d_Mo_power_38 (tgt := 50) rfl (by omega) (by omega) (fun hd => ?_) (fun hd => ?_)
      ·
        refine T_iinc (x := nI j) (L' := [(6, .int (nI j - 1)), (0, .ref 373), (1, .int (nI d)), (2, .int (nI a)), (3, .int (nI t)), (4, .int (nI z1)), (5, .int (nI z2))]) d_Mo_power_50 (by decide) rfl (by rw [nI_dm]; rfl) ?_
        refine T_goto (tgt := 12) d_Mo_power_53 rfl ?_
        refine ih (e + e) M_1 (by omega) ⟨_, hE_1, ?_, (KE.tr (KE.tr (KE.rf : KE [61] E E) (KE.mono ke_0 (by decide))) (KE.mono ke_1 (by decide))), (Kp.tr (Kp.tr (Kp.rf : Kp [390, 391, 392, 393, 394] M0 M0) (Kp.mono kp_0 (by decide))) (Kp.mono kp_1 (by decide)))⟩ (fun M9 h9 => kk M9 ?_)
        · rw [vr_1]; rw [pw_m]
        · show (∃ E', RE M9 v E' ∧ E' 61 = pw x (eb z1 z2 j (if j = z1 ∨ j = z2 then e + e else e + e + 1)) ∧ KE [61] E E' ∧ Kp RW M0 M9)
          rw [if_pos (Or.inr hd)]; exact h9
      ·
        refine T_aload_n (v := .ref 373) d_Mo_power_41 rfl (Or.inr ⟨_, rfl⟩) ?_
        refine T_bipush (v := nI 61) d_Mo_power_42 (by decide) ?_
        refine T_bipush (v := nI 61) d_Mo_power_44 (by decide) ?_
        refine T_iload_n d_Mo_power_46 rfl ?_
        have r_2 := (ke_1 a (by simp; omega)).trans ((ke_0 a (by simp; omega)).trans (hx))
        refine T_virtual (as := [.int (nI 61), .int (nI 61), .int (nI a)]) (rest := []) (b := 373) d_Mo_power_47 rfl (jw_Mo_mul.jo (by decide)) lm_Mo_163 ji_Mo_mul js_Mo_mul hE_1.ob rfl rfl rfl (Nat.le_of_ble_eq_true rfl) (by decide) (by decide) (u_Mo_mul hE_1 (by decide) (by omega) (by omega) vr_1 r_2) (fun r M_3 hq => ?_)
        obtain ⟨rfl, E_3, hE_3, vr_3, ke_3, kp_3⟩ := hq
        refine T_eq (pc' := 50) (L' := [(6, .int (nI j)), (0, .ref 373), (1, .int (nI d)), (2, .int (nI a)), (3, .int (nI t)), (4, .int (nI z1)), (5, .int (nI z2))]) (st' := []) (M' := M_3) rfl rfl rfl rfl ?_
        refine T_iinc (x := nI j) (L' := [(6, .int (nI j - 1)), (0, .ref 373), (1, .int (nI d)), (2, .int (nI a)), (3, .int (nI t)), (4, .int (nI z1)), (5, .int (nI z2))]) d_Mo_power_50 (by decide) rfl (by rw [nI_dm]; rfl) ?_
        refine T_goto (tgt := 12) d_Mo_power_53 rfl ?_
        refine ih (e + e + 1) M_3 (by omega) ⟨_, hE_3, ?_, (KE.tr (KE.tr (KE.tr (KE.rf : KE [61] E E) (KE.mono ke_0 (by decide))) (KE.mono ke_1 (by decide))) (KE.mono ke_3 (by decide))), (Kp.tr (Kp.tr (Kp.tr (Kp.rf : Kp [390, 391, 392, 393, 394] M0 M0) (Kp.mono kp_0 (by decide))) (Kp.mono kp_1 (by decide))) (Kp.mono kp_3 (by decide)))⟩ (fun M9 h9 => kk M9 ?_)
        · rw [vr_3]; rw [pw_m]; conv => lhs; arg 2; rw [← pw_1 x]
          rw [pw_m]
        · show (∃ E', RE M9 v E' ∧ E' 61 = pw x (eb z1 z2 j (if j = z1 ∨ j = z2 then e + e else e + e + 1)) ∧ KE [61] E E' ∧ Kp RW M0 M9)
          rw [if_neg (fun c => c.elim hc hd)]; exact h9
set_option maxHeartbeats 8000000 in
theorem u_Mo_power {G : GX} {M : List va_E} {v : Nat → Int32} {E : Nat → Int} {d a t z1 z2 : Nat} {x : Int} (hE : RE M v E) (hd : d ≤ 60) (ha : a ≤ 60) (ht : 0 < t ∧ t < 2 ^ 31) (h1 : z1 < 2 ^ 31) (h2 : z2 < 2 ^ 31) (hx : E a = x) : CT G mi_Mo_power [.ref 373, .int (nI d), .int (nI a), .int (nI t), .int (nI z1), .int (nI z2)] M (fun r M' => r = none ∧ qP M v E d (pw x (eb z1 z2 t 1)) [d, 61] M') := by
  refine CT.of (by decide) (Nat.le_of_ble_eq_true rfl) ?_
  show TT G mi_Mo_power 0 [(0, .ref 373), (1, .int (nI d)), (2, .int (nI a)), (3, .int (nI t)), (4, .int (nI z1)), (5, .int (nI z2))] [] M 0 0 _
  refine T_aload_n (v := .ref 373) d_Mo_power_0 rfl (Or.inr ⟨_, rfl⟩) ?_
  refine T_bipush (v := nI 61) d_Mo_power_1 (by decide) ?_
  refine T_iload_n d_Mo_power_3 rfl ?_
  refine T_virtual (as := [.int (nI 61), .int (nI a)]) (rest := []) (b := 373) d_Mo_power_4 rfl (jw_Mo_set.jo (by decide)) lm_Mo_160 ji_Mo_set js_Mo_set hE.ob rfl rfl rfl (Nat.le_of_ble_eq_true rfl) (by decide) (by decide) (u_Mo_set hE (by decide) (by omega) hx) (fun r M_1 hq => ?_)
  obtain ⟨rfl, E_1, hE_1, vr_1, ke_1, kp_1⟩ := hq
  refine T_eq (pc' := 7) (L' := [(0, .ref 373), (1, .int (nI d)), (2, .int (nI a)), (3, .int (nI t)), (4, .int (nI z1)), (5, .int (nI z2))]) (st' := []) (M' := M_1) rfl rfl rfl rfl ?_
  refine T_iload_n d_Mo_power_7 rfl ?_
  refine T_iconst (v := nI 1) d_Mo_power_8 (by decide) ?_
  refine T_isub d_Mo_power_9 ?_
  refine T_istore (L' := [(6, .int ((nI t) - (nI 1))), (0, .ref 373), (1, .int (nI d)), (2, .int (nI a)), (3, .int (nI t)), (4, .int (nI z1)), (5, .int (nI z2))]) d_Mo_power_10 (by decide) rfl ?_
  obtain ⟨m, rfl⟩ : ∃ m, t = m + 1 := ⟨t - 1, by omega⟩
  refine T_eq (pc' := 12) (L' := [(6, .int (nI (m + 1) - 1)), (0, .ref 373), (1, .int (nI d)), (2, .int (nI a)), (3, .int (nI ((m + 1)))), (4, .int (nI z1)), (5, .int (nI z2))]) (st' := []) (M' := M_1) rfl rfl rfl rfl ?_
  refine pw_lp G (M0 := M) (E := E) ha hx h1 h2 (m + 1) 1 M_1 (by omega) ⟨E_1, hE_1, by rw [vr_1, pw_1], ke_1, kp_1⟩ (fun M_8 h8 => ?_)
  obtain ⟨E_8, hE_8, vr_8, ke_8, kp_8⟩ := h8
  refine T_aload_n (v := .ref 373) d_Mo_power_56 rfl (Or.inr ⟨_, rfl⟩) ?_
  refine T_iload_n d_Mo_power_57 rfl ?_
  refine T_bipush (v := nI 61) d_Mo_power_58 (by decide) ?_
  refine T_virtual (as := [.int (nI d), .int (nI 61)]) (rest := []) (b := 373) d_Mo_power_60 rfl (jw_Mo_set.jo (by decide)) lm_Mo_160 ji_Mo_set js_Mo_set hE_8.ob rfl rfl rfl (Nat.le_of_ble_eq_true rfl) (by decide) (by decide) (u_Mo_set hE_8 (by omega) (by decide) vr_8) (fun r M_2 hq => ?_)
  obtain ⟨rfl, E_9, hE_9, vr_9, ke_9, kp_9⟩ := hq
  exact T_vret d_Mo_power_63 rfl (by decide) (by decide) ⟨rfl, E_9, hE_9, vr_9, KE.tr (KE.mono ke_8 (by simp)) (KE.mono ke_9 (by simp)), kp_8.tr kp_9⟩
theorem nm {u : Nat} {L ds : List Nat} (h : u ∉ L) (s : ∀ q ∈ ds, q ∈ L) : u ∉ ds := fun c => h (s u c)
def cI : Int := 19681161376707505956807079304988542015446066515923890162744021073123829784752
def cD : Int := 37095705934669439343138083508754565189542113879843219016388785533085940283555
def cE : Int := 54469307008909316920995813868745141605393597292927456921205312896311721017578
def cG : Int := 25063068953384623474111414158702152701244531502492656460079210482610430750235
def cO : Int := 1159843021668779879193775521855586647937357759715417654439879720876111806838
def cL : Int := 40440834346308536858101042469323190826248399146238708352240133220865137265952
def cX : Int := 15112221349535400772501151409588531511454012693041857206046113283949847762202
def cY : Int := 46316835694926478169428394003475163141307993866256225615783033603165251855960
def cT : Int := 46827403850823179245072216630277197565144205554125654976674165829533817101731
theorem cI_v : cI = cv_2 := by decide
theorem cD_v : cD = cv_5 := by decide
def CK (E : Nat → Int) : Prop := E 0 = 0 ∧ E 1 = 1 ∧ E 2 = cD ∧ E 3 = cI ∧ E 4 = cE ∧ E 5 = cG ∧ E 6 = cO ∧ E 7 = cL ∧ E 8 = cX ∧ E 9 = cY ∧ E 10 = 1 ∧ E 11 = cT
theorem CK.c0 {E : Nat → Int} (h : CK E) : E 0 = 0 := h.1
theorem CK.c1 {E : Nat → Int} (h : CK E) : E 1 = 1 := h.2.1
theorem CK.c2 {E : Nat → Int} (h : CK E) : E 2 = cD := h.2.2.1
theorem CK.c3 {E : Nat → Int} (h : CK E) : E 3 = cI := h.2.2.2.1
theorem CK.c4 {E : Nat → Int} (h : CK E) : E 4 = cE := h.2.2.2.2.1
theorem CK.c5 {E : Nat → Int} (h : CK E) : E 5 = cG := h.2.2.2.2.2.1
theorem CK.c6 {E : Nat → Int} (h : CK E) : E 6 = cO := h.2.2.2.2.2.2.1
theorem CK.c7 {E : Nat → Int} (h : CK E) : E 7 = cL := h.2.2.2.2.2.2.2.1
theorem CK.c8 {E : Nat → Int} (h : CK E) : E 8 = cX := h.2.2.2.2.2.2.2.2.1
theorem CK.c9 {E : Nat → Int} (h : CK E) : E 9 = cY := h.2.2.2.2.2.2.2.2.2.1
theorem CK.c10 {E : Nat → Int} (h : CK E) : E 10 = 1 := h.2.2.2.2.2.2.2.2.2.2.1
theorem CK.c11 {E : Nat → Int} (h : CK E) : E 11 = cT := h.2.2.2.2.2.2.2.2.2.2.2
theorem CK.ke {E E' : Nat → Int} {ds : List Nat} (h : CK E) (k : KE ds E E') (hs : ∀ q ∈ ds, 12 ≤ q) : CK E' := by
  have g : ∀ e, e < 12 → E' e = E e := fun e he => k e (fun c => absurd (hs e c) (by omega))
  exact ⟨(g 0 (by decide)).trans h.c0, (g 1 (by decide)).trans h.c1, (g 2 (by decide)).trans h.c2, (g 3 (by decide)).trans h.c3, (g 4 (by decide)).trans h.c4, (g 5 (by decide)).trans h.c5, (g 6 (by decide)).trans h.c6, (g 7 (by decide)).trans h.c7, (g 8 (by decide)).trans h.c8, (g 9 (by decide)).trans h.c9, (g 10 (by decide)).trans h.c10, (g 11 (by decide)).trans h.c11⟩
abbrev rtW : List Nat := [50, 51, 52, 53, 54, 55, 56, 61, 62, 63]
theorem eb_rt : eb 1 1 251 1 = 7237005577332262213973186563042994240829374041602535252466099000494570602493 := by decide +kernel
set_option maxHeartbeats 8000000 in
theorem u_Mo_root {G : GX} {M : List va_E} {v : Nat → Int32} {E : Nat → Int} {d u w : Nat} {U V : Int} (hE : RE M v E) (e0 : E 0 = 0) (e3 : E 3 = cI) (hd : d ≤ 60) (hu : u ≤ 60) (hw : w ≤ 60) (nu : u ∉ rtW) (nw : w ∉ rtW) (hU : E u = U) (hV : E w = V) : CT G mi_Mo_root [.ref 373, .int (nI d), .int (nI u), .int (nI w)] M (fun r M' => r = some (.int (nI (rtG U V))) ∧ qP M v E d (rt U V) (d :: rtW) M') := by
  refine CT.of (by decide) (Nat.le_of_ble_eq_true rfl) ?_
  show TT G mi_Mo_root 0 [(0, .ref 373), (1, .int (nI d)), (2, .int (nI u)), (3, .int (nI w))] [] M 0 0 _
  refine T_aload_n (v := .ref 373) d_Mo_root_0 rfl (Or.inr ⟨_, rfl⟩) ?_
  refine T_bipush (v := nI 50) d_Mo_root_1 (by decide) ?_
  refine T_iload_n d_Mo_root_3 rfl ?_
  refine T_iload_n d_Mo_root_4 rfl ?_
  refine T_virtual (as := [.int (nI 50), .int (nI w), .int (nI w)]) (rest := []) (b := 373) d_Mo_root_5 rfl (jw_Mo_mul.jo (by decide)) lm_Mo_163 ji_Mo_mul js_Mo_mul hE.ob rfl rfl rfl (Nat.le_of_ble_eq_true rfl) (by decide) (by decide) (u_Mo_mul hE (by decide) (by omega) (by omega) hV hV) (fun r M_1 hq => ?_)
  obtain ⟨rfl, E_1, hE_1, vr_1, ke_1, kp_1⟩ := hq
  refine T_eq (pc' := 8) (L' := [(0, .ref 373), (1, .int (nI d)), (2, .int (nI u)), (3, .int (nI w))]) (st' := []) (M' := M_1) rfl rfl rfl rfl ?_
  refine T_aload_n (v := .ref 373) d_Mo_root_8 rfl (Or.inr ⟨_, rfl⟩) ?_
  refine T_bipush (v := nI 51) d_Mo_root_9 (by decide) ?_
  refine T_bipush (v := nI 50) d_Mo_root_11 (by decide) ?_
  refine T_iload_n d_Mo_root_13 rfl ?_
  have r_2 := (ke_1 w (nm nw (by decide))).trans (hV)
  refine T_virtual (as := [.int (nI 51), .int (nI 50), .int (nI w)]) (rest := []) (b := 373) d_Mo_root_14 rfl (jw_Mo_mul.jo (by decide)) lm_Mo_163 ji_Mo_mul js_Mo_mul hE_1.ob rfl rfl rfl (Nat.le_of_ble_eq_true rfl) (by decide) (by decide) (u_Mo_mul hE_1 (by decide) (by decide) (by omega) vr_1 r_2) (fun r M_3 hq => ?_)
  obtain ⟨rfl, E_3, hE_3, vr_3, ke_3, kp_3⟩ := hq
  refine T_eq (pc' := 17) (L' := [(0, .ref 373), (1, .int (nI d)), (2, .int (nI u)), (3, .int (nI w))]) (st' := []) (M' := M_3) rfl rfl rfl rfl ?_
  refine T_aload_n (v := .ref 373) d_Mo_root_17 rfl (Or.inr ⟨_, rfl⟩) ?_
  refine T_bipush (v := nI 52) d_Mo_root_18 (by decide) ?_
  refine T_bipush (v := nI 51) d_Mo_root_20 (by decide) ?_
  refine T_bipush (v := nI 51) d_Mo_root_22 (by decide) ?_
  refine T_virtual (as := [.int (nI 52), .int (nI 51), .int (nI 51)]) (rest := []) (b := 373) d_Mo_root_24 rfl (jw_Mo_mul.jo (by decide)) lm_Mo_163 ji_Mo_mul js_Mo_mul hE_3.ob rfl rfl rfl (Nat.le_of_ble_eq_true rfl) (by decide) (by decide) (u_Mo_mul hE_3 (by decide) (by decide) (by decide) vr_3 vr_3) (fun r M_4 hq => ?_)
  obtain ⟨rfl, E_4, hE_4, vr_4, ke_4, kp_4⟩ := hq
  refine T_eq (pc' := 27) (L' := [(0, .ref 373), (1, .int (nI d)), (2, .int (nI u)), (3, .int (nI w))]) (st' := []) (M' := M_4) rfl rfl rfl rfl ?_
  refine T_aload_n (v := .ref 373) d_Mo_root_27 rfl (Or.inr ⟨_, rfl⟩) ?_
  refine T_bipush (v := nI 52) d_Mo_root_28 (by decide) ?_
  refine T_bipush (v := nI 52) d_Mo_root_30 (by decide) ?_
  refine T_iload_n d_Mo_root_32 rfl ?_
  have r_5 := (ke_4 w (nm nw (by decide))).trans ((ke_3 w (nm nw (by decide))).trans (r_2))
  refine T_virtual (as := [.int (nI 52), .int (nI 52), .int (nI w)]) (rest := []) (b := 373) d_Mo_root_33 rfl (jw_Mo_mul.jo (by decide)) lm_Mo_163 ji_Mo_mul js_Mo_mul hE_4.ob rfl rfl rfl (Nat.le_of_ble_eq_true rfl) (by decide) (by decide) (u_Mo_mul hE_4 (by decide) (by decide) (by omega) vr_4 r_5) (fun r M_6 hq => ?_)
  obtain ⟨rfl, E_6, hE_6, vr_6, ke_6, kp_6⟩ := hq
  refine T_eq (pc' := 36) (L' := [(0, .ref 373), (1, .int (nI d)), (2, .int (nI u)), (3, .int (nI w))]) (st' := []) (M' := M_6) rfl rfl rfl rfl ?_
  refine T_aload_n (v := .ref 373) d_Mo_root_36 rfl (Or.inr ⟨_, rfl⟩) ?_
  refine T_bipush (v := nI 52) d_Mo_root_37 (by decide) ?_
  refine T_bipush (v := nI 52) d_Mo_root_39 (by decide) ?_
  refine T_iload_n d_Mo_root_41 rfl ?_
  have r_7 := (ke_6 u (nm nu (by decide))).trans ((ke_4 u (nm nu (by decide))).trans ((ke_3 u (nm nu (by decide))).trans ((ke_1 u (nm nu (by decide))).trans (hU))))
  refine T_virtual (as := [.int (nI 52), .int (nI 52), .int (nI u)]) (rest := []) (b := 373) d_Mo_root_42 rfl (jw_Mo_mul.jo (by decide)) lm_Mo_163 ji_Mo_mul js_Mo_mul hE_6.ob rfl rfl rfl (Nat.le_of_ble_eq_true rfl) (by decide) (by decide) (u_Mo_mul hE_6 (by decide) (by decide) (by omega) vr_6 r_7) (fun r M_8 hq => ?_)
  obtain ⟨rfl, E_8, hE_8, vr_8, ke_8, kp_8⟩ := hq
  refine T_eq (pc' := 45) (L' := [(0, .ref 373), (1, .int (nI d)), (2, .int (nI u)), (3, .int (nI w))]) (st' := []) (M' := M_8) rfl rfl rfl rfl ?_
  refine T_aload_n (v := .ref 373) d_Mo_root_45 rfl (Or.inr ⟨_, rfl⟩) ?_
  refine T_bipush (v := nI 53) d_Mo_root_46 (by decide) ?_
  refine T_bipush (v := nI 52) d_Mo_root_48 (by decide) ?_
  refine T_sipush (v := nI 251) d_Mo_root_50 (by decide) ?_
  refine T_iconst (v := nI 1) d_Mo_root_53 (by decide) ?_
  refine T_iconst (v := nI 1) d_Mo_root_54 (by decide) ?_
  refine T_virtual (as := [.int (nI 53), .int (nI 52), .int (nI 251), .int (nI 1), .int (nI 1)]) (rest := []) (b := 373) d_Mo_root_55 rfl (jw_Mo_power.jo (by decide)) lm_Mo_166 ji_Mo_power js_Mo_power hE_8.ob rfl rfl rfl (Nat.le_of_ble_eq_true rfl) (by decide) (by decide) (u_Mo_power hE_8 (by decide) (by decide) (by decide) (by decide) (by decide) vr_8) (fun r M_9 hq => ?_)
  obtain ⟨rfl, E_9, hE_9, vr_9, ke_9, kp_9⟩ := hq
  refine T_eq (pc' := 58) (L' := [(0, .ref 373), (1, .int (nI d)), (2, .int (nI u)), (3, .int (nI w))]) (st' := []) (M' := M_9) rfl rfl rfl rfl ?_
  refine T_aload_n (v := .ref 373) d_Mo_root_58 rfl (Or.inr ⟨_, rfl⟩) ?_
  refine T_bipush (v := nI 53) d_Mo_root_59 (by decide) ?_
  refine T_bipush (v := nI 53) d_Mo_root_61 (by decide) ?_
  refine T_bipush (v := nI 51) d_Mo_root_63 (by decide) ?_
  have r_10 := (ke_9 51 (by decide)).trans ((ke_8 51 (by decide)).trans ((ke_6 51 (by decide)).trans ((ke_4 51 (by decide)).trans (vr_3))))
  refine T_virtual (as := [.int (nI 53), .int (nI 53), .int (nI 51)]) (rest := []) (b := 373) d_Mo_root_65 rfl (jw_Mo_mul.jo (by decide)) lm_Mo_163 ji_Mo_mul js_Mo_mul hE_9.ob rfl rfl rfl (Nat.le_of_ble_eq_true rfl) (by decide) (by decide) (u_Mo_mul hE_9 (by decide) (by decide) (by decide) vr_9 r_10) (fun r M_11 hq => ?_)
  obtain ⟨rfl, E_11, hE_11, vr_11, ke_11, kp_11⟩ := hq
  refine T_eq (pc' := 68) (L' := [(0, .ref 373), (1, .int (nI d)), (2, .int (nI u)), (3, .int (nI w))]) (st' := []) (M' := M_11) rfl rfl rfl rfl ?_
  refine T_aload_n (v := .ref 373) d_Mo_root_68 rfl (Or.inr ⟨_, rfl⟩) ?_
  refine T_bipush (v := nI 53) d_Mo_root_69 (by decide) ?_
  refine T_bipush (v := nI 53) d_Mo_root_71 (by decide) ?_
  refine T_iload_n d_Mo_root_73 rfl ?_
  have r_12 := (ke_11 u (nm nu (by decide))).trans ((ke_9 u (nm nu (by decide))).trans ((ke_8 u (nm nu (by decide))).trans (r_7)))
  refine T_virtual (as := [.int (nI 53), .int (nI 53), .int (nI u)]) (rest := []) (b := 373) d_Mo_root_74 rfl (jw_Mo_mul.jo (by decide)) lm_Mo_163 ji_Mo_mul js_Mo_mul hE_11.ob rfl rfl rfl (Nat.le_of_ble_eq_true rfl) (by decide) (by decide) (u_Mo_mul hE_11 (by decide) (by decide) (by omega) vr_11 r_12) (fun r M_13 hq => ?_)
  obtain ⟨rfl, E_13, hE_13, vr_13, ke_13, kp_13⟩ := hq
  replace vr_13 : E_13 53 = (rtA U V) := vr_13.trans (by unfold rtA; rw [eb_rt])
  refine T_eq (pc' := 77) (L' := [(0, .ref 373), (1, .int (nI d)), (2, .int (nI u)), (3, .int (nI w))]) (st' := []) (M' := M_13) rfl rfl rfl rfl ?_
  refine T_aload_n (v := .ref 373) d_Mo_root_77 rfl (Or.inr ⟨_, rfl⟩) ?_
  refine T_bipush (v := nI 54) d_Mo_root_78 (by decide) ?_
  refine T_bipush (v := nI 53) d_Mo_root_80 (by decide) ?_
  refine T_bipush (v := nI 53) d_Mo_root_82 (by decide) ?_
  refine T_virtual (as := [.int (nI 54), .int (nI 53), .int (nI 53)]) (rest := []) (b := 373) d_Mo_root_84 rfl (jw_Mo_mul.jo (by decide)) lm_Mo_163 ji_Mo_mul js_Mo_mul hE_13.ob rfl rfl rfl (Nat.le_of_ble_eq_true rfl) (by decide) (by decide) (u_Mo_mul hE_13 (by decide) (by decide) (by decide) vr_13 vr_13) (fun r M_14 hq => ?_)
  obtain ⟨rfl, E_14, hE_14, vr_14, ke_14, kp_14⟩ := hq
  refine T_eq (pc' := 87) (L' := [(0, .ref 373), (1, .int (nI d)), (2, .int (nI u)), (3, .int (nI w))]) (st' := []) (M' := M_14) rfl rfl rfl rfl ?_
  refine T_aload_n (v := .ref 373) d_Mo_root_87 rfl (Or.inr ⟨_, rfl⟩) ?_
  refine T_bipush (v := nI 54) d_Mo_root_88 (by decide) ?_
  refine T_bipush (v := nI 54) d_Mo_root_90 (by decide) ?_
  refine T_iload_n d_Mo_root_92 rfl ?_
  have r_15 := (ke_14 w (nm nw (by decide))).trans ((ke_13 w (nm nw (by decide))).trans ((ke_11 w (nm nw (by decide))).trans ((ke_9 w (nm nw (by decide))).trans ((ke_8 w (nm nw (by decide))).trans ((ke_6 w (nm nw (by decide))).trans (r_5))))))
  refine T_virtual (as := [.int (nI 54), .int (nI 54), .int (nI w)]) (rest := []) (b := 373) d_Mo_root_93 rfl (jw_Mo_mul.jo (by decide)) lm_Mo_163 ji_Mo_mul js_Mo_mul hE_14.ob rfl rfl rfl (Nat.le_of_ble_eq_true rfl) (by decide) (by decide) (u_Mo_mul hE_14 (by decide) (by decide) (by omega) vr_14 r_15) (fun r M_16 hq => ?_)
  obtain ⟨rfl, E_16, hE_16, vr_16, ke_16, kp_16⟩ := hq
  replace vr_16 : E_16 54 = (rtC U V) := vr_16.trans rfl
  refine T_eq (pc' := 96) (L' := [(0, .ref 373), (1, .int (nI d)), (2, .int (nI u)), (3, .int (nI w))]) (st' := []) (M' := M_16) rfl rfl rfl rfl ?_
  refine T_aload_n (v := .ref 373) d_Mo_root_96 rfl (Or.inr ⟨_, rfl⟩) ?_
  refine T_bipush (v := nI 55) d_Mo_root_97 (by decide) ?_
  refine T_iconst (v := nI 0) d_Mo_root_99 (by decide) ?_
  refine T_iload_n d_Mo_root_100 rfl ?_
  have r_17 := (ke_16 0 (by decide)).trans ((ke_14 0 (by decide)).trans ((ke_13 0 (by decide)).trans ((ke_11 0 (by decide)).trans ((ke_9 0 (by decide)).trans ((ke_8 0 (by decide)).trans ((ke_6 0 (by decide)).trans ((ke_4 0 (by decide)).trans ((ke_3 0 (by decide)).trans ((ke_1 0 (by decide)).trans (e0))))))))))
  have r_18 := (ke_16 u (nm nu (by decide))).trans ((ke_14 u (nm nu (by decide))).trans ((ke_13 u (nm nu (by decide))).trans (r_12)))
  refine T_virtual (as := [.int (nI 55), .int (nI 0), .int (nI u)]) (rest := []) (b := 373) d_Mo_root_101 rfl (jw_Mo_sub.jo (by decide)) lm_Mo_152 ji_Mo_sub js_Mo_sub hE_16.ob rfl rfl rfl (Nat.le_of_ble_eq_true rfl) (by decide) (by decide) (u_Mo_sub hE_16 (by decide) (by decide) (by omega) r_17 r_18) (fun r M_19 hq => ?_)
  obtain ⟨rfl, E_19, hE_19, vr_19, ke_19, kp_19⟩ := hq
  replace vr_19 : E_19 55 = (-U) := vr_19.trans (Int.zero_sub U)
  refine T_eq (pc' := 104) (L' := [(0, .ref 373), (1, .int (nI d)), (2, .int (nI u)), (3, .int (nI w))]) (st' := []) (M' := M_19) rfl rfl rfl rfl ?_
  refine T_aload_n (v := .ref 373) d_Mo_root_104 rfl (Or.inr ⟨_, rfl⟩) ?_
  refine T_bipush (v := nI 56) d_Mo_root_105 (by decide) ?_
  refine T_bipush (v := nI 55) d_Mo_root_107 (by decide) ?_
  refine T_iconst (v := nI 3) d_Mo_root_109 (by decide) ?_
  have r_20 := (ke_19 3 (by decide)).trans ((ke_16 3 (by decide)).trans ((ke_14 3 (by decide)).trans ((ke_13 3 (by decide)).trans ((ke_11 3 (by decide)).trans ((ke_9 3 (by decide)).trans ((ke_8 3 (by decide)).trans ((ke_6 3 (by decide)).trans ((ke_4 3 (by decide)).trans ((ke_3 3 (by decide)).trans ((ke_1 3 (by decide)).trans (e3)))))))))))
  refine T_virtual (as := [.int (nI 56), .int (nI 55), .int (nI 3)]) (rest := []) (b := 373) d_Mo_root_110 rfl (jw_Mo_mul.jo (by decide)) lm_Mo_163 ji_Mo_mul js_Mo_mul hE_19.ob rfl rfl rfl (Nat.le_of_ble_eq_true rfl) (by decide) (by decide) (u_Mo_mul hE_19 (by decide) (by decide) (by decide) vr_19 r_20) (fun r M_21 hq => ?_)
  obtain ⟨rfl, E_21, hE_21, vr_21, ke_21, kp_21⟩ := hq
  replace vr_21 : E_21 56 = (-(U * cv_2)) := vr_21.trans (by rw [cI_v, Int.neg_mul])
  refine T_eq (pc' := 113) (L' := [(0, .ref 373), (1, .int (nI d)), (2, .int (nI u)), (3, .int (nI w))]) (st' := []) (M' := M_21) rfl rfl rfl rfl ?_
  refine T_aload_n (v := .ref 373) d_Mo_root_113 rfl (Or.inr ⟨_, rfl⟩) ?_
  refine T_bipush (v := nI 54) d_Mo_root_114 (by decide) ?_
  refine T_iload_n d_Mo_root_116 rfl ?_
  have r_22 := (ke_21 54 (by decide)).trans ((ke_19 54 (by decide)).trans (vr_16))
  have r_23 := (ke_21 u (nm nu (by decide))).trans ((ke_19 u (nm nu (by decide))).trans (r_18))
  refine T_virtual (as := [.int (nI 54), .int (nI u)]) (rest := []) (b := 373) d_Mo_root_117 rfl (jw_Mo_same.jo (by decide)) lm_Mo_170 ji_Mo_same js_Mo_same hE_21.ob rfl rfl rfl (Nat.le_of_ble_eq_true rfl) (by decide) (by decide) (u_Mo_same hE_21 (by decide) (by omega) r_22 r_23) (fun r M_24 hq => ?_)
  obtain ⟨rfl, E_24, hE_24, ke_24, kp_24⟩ := hq
  by_cases hb_24 : ((rtC U V) - U) % pP = 0
  · rw [if_pos hb_24]
    refine T_eq (pc' := 120) (L' := [(0, .ref 373), (1, .int (nI d)), (2, .int (nI u)), (3, .int (nI w))]) (st' := [.int (nI 1)]) (M' := M_24) rfl rfl rfl rfl ?_
    refine T_istore (L' := [(4, .int (nI 1)), (0, .ref 373), (1, .int (nI d)), (2, .int (nI u)), (3, .int (nI w))]) d_Mo_root_120 (by decide) rfl ?_
    refine T_aload_n (v := .ref 373) d_Mo_root_122 rfl (Or.inr ⟨_, rfl⟩) ?_
    refine T_bipush (v := nI 54) d_Mo_root_123 (by decide) ?_
    refine T_bipush (v := nI 55) d_Mo_root_125 (by decide) ?_
    have r_25 := (ke_24 54 (by decide)).trans (r_22)
    have r_26 := (ke_24 55 (by decide)).trans ((ke_21 55 (by decide)).trans (vr_19))
    refine T_virtual (as := [.int (nI 54), .int (nI 55)]) (rest := []) (b := 373) d_Mo_root_127 rfl (jw_Mo_same.jo (by decide)) lm_Mo_170 ji_Mo_same js_Mo_same hE_24.ob rfl rfl rfl (Nat.le_of_ble_eq_true rfl) (by decide) (by decide) (u_Mo_same hE_24 (by decide) (by decide) r_25 r_26) (fun r M_27 hq => ?_)
    obtain ⟨rfl, E_27, hE_27, ke_27, kp_27⟩ := hq
    rw [show ((rtC U V) - (-U)) = (rtC U V + U) from (by omega)]
    by_cases hb_27 : (rtC U V + U) % pP = 0
    · rw [if_pos hb_27]
      refine T_eq (pc' := 130) (L' := [(4, .int (nI 1)), (0, .ref 373), (1, .int (nI d)), (2, .int (nI u)), (3, .int (nI w))]) (st' := [.int (nI 1)]) (M' := M_27) rfl rfl rfl rfl ?_
      refine T_istore (L' := [(5, .int (nI 1)), (4, .int (nI 1)), (0, .ref 373), (1, .int (nI d)), (2, .int (nI u)), (3, .int (nI w))]) d_Mo_root_130 (by decide) rfl ?_
      refine T_aload_n (v := .ref 373) d_Mo_root_132 rfl (Or.inr ⟨_, rfl⟩) ?_
      refine T_bipush (v := nI 54) d_Mo_root_133 (by decide) ?_
      refine T_bipush (v := nI 56) d_Mo_root_135 (by decide) ?_
      have r_28 := (ke_27 54 (by decide)).trans (r_25)
      have r_29 := (ke_27 56 (by decide)).trans ((ke_24 56 (by decide)).trans (vr_21))
      refine T_virtual (as := [.int (nI 54), .int (nI 56)]) (rest := []) (b := 373) d_Mo_root_137 rfl (jw_Mo_same.jo (by decide)) lm_Mo_170 ji_Mo_same js_Mo_same hE_27.ob rfl rfl rfl (Nat.le_of_ble_eq_true rfl) (by decide) (by decide) (u_Mo_same hE_27 (by decide) (by decide) r_28 r_29) (fun r M_30 hq => ?_)
      obtain ⟨rfl, E_30, hE_30, ke_30, kp_30⟩ := hq
      rw [show ((rtC U V) - (-(U * cv_2))) = (rtC U V + U * cv_2) from (by omega)]
      by_cases hb_30 : (rtC U V + U * cv_2) % pP = 0
      · rw [if_pos hb_30]
        refine T_eq (pc' := 140) (L' := [(5, .int (nI 1)), (4, .int (nI 1)), (0, .ref 373), (1, .int (nI d)), (2, .int (nI u)), (3, .int (nI w))]) (st' := [.int (nI 1)]) (M' := M_30) rfl rfl rfl rfl ?_
        refine T_istore (L' := [(6, .int (nI 1)), (5, .int (nI 1)), (4, .int (nI 1)), (0, .ref 373), (1, .int (nI d)), (2, .int (nI u)), (3, .int (nI w))]) d_Mo_root_140 (by decide) rfl ?_
        refine T_iload d_Mo_root_142 rfl ?_
        refine N_if_ne_t (b := 1) d_Mo_root_144 (tgt := 152) rfl (by omega) (by omega) ?_
        refine T_aload_n (v := .ref 373) d_Mo_root_152 rfl (Or.inr ⟨_, rfl⟩) ?_
        refine T_bipush (v := nI 53) d_Mo_root_153 (by decide) ?_
        refine T_bipush (v := nI 53) d_Mo_root_155 (by decide) ?_
        refine T_iconst (v := nI 3) d_Mo_root_157 (by decide) ?_
        have r_31 := (ke_30 53 (by decide)).trans ((ke_27 53 (by decide)).trans ((ke_24 53 (by decide)).trans ((ke_21 53 (by decide)).trans ((ke_19 53 (by decide)).trans ((ke_16 53 (by decide)).trans ((ke_14 53 (by decide)).trans (vr_13)))))))
        have r_32 := (ke_30 3 (by decide)).trans ((ke_27 3 (by decide)).trans ((ke_24 3 (by decide)).trans ((ke_21 3 (by decide)).trans (r_20))))
        refine T_virtual (as := [.int (nI 53), .int (nI 53), .int (nI 3)]) (rest := []) (b := 373) d_Mo_root_158 rfl (jw_Mo_mul.jo (by decide)) lm_Mo_163 ji_Mo_mul js_Mo_mul hE_30.ob rfl rfl rfl (Nat.le_of_ble_eq_true rfl) (by decide) (by decide) (u_Mo_mul hE_30 (by decide) (by decide) (by decide) r_31 r_32) (fun r M_33 hq => ?_)
        obtain ⟨rfl, E_33, hE_33, vr_33, ke_33, kp_33⟩ := hq
        replace vr_33 : E_33 53 = (rtA U V * cv_2) := vr_33.trans (by rw [cI_v])
        refine T_eq (pc' := 161) (L' := [(6, .int (nI 1)), (5, .int (nI 1)), (4, .int (nI 1)), (0, .ref 373), (1, .int (nI d)), (2, .int (nI u)), (3, .int (nI w))]) (st' := []) (M' := M_33) rfl rfl rfl rfl ?_
        refine T_aload_n (v := .ref 373) d_Mo_root_161 rfl (Or.inr ⟨_, rfl⟩) ?_
        refine T_bipush (v := nI 53) d_Mo_root_162 (by decide) ?_
        refine T_virtual (as := [.int (nI 53)]) (rest := []) (b := 373) d_Mo_root_164 rfl (jw_Mo_odd.jo (by decide)) lm_Mo_174 ji_Mo_odd js_Mo_odd hE_33.ob rfl rfl rfl (Nat.le_of_ble_eq_true rfl) (by decide) (by decide) (u_Mo_odd hE_33 (by decide) vr_33) (fun r M_34 hq => ?_)
        obtain ⟨rfl, pk_34, E_34, hE_34, ke_34, kp_34⟩ := hq
        by_cases hb_34 : ((rtA U V * cv_2) % pP) % 2 = 1
        · rw [if_pos hb_34]
          refine T_eq (pc' := 167) (L' := [(6, .int (nI 1)), (5, .int (nI 1)), (4, .int (nI 1)), (0, .ref 373), (1, .int (nI d)), (2, .int (nI u)), (3, .int (nI w))]) (st' := [.int (nI 1)]) (M' := M_34) rfl rfl rfl rfl ?_
          refine N_if_eq_f (b := 1) d_Mo_root_167 (tgt := 179) rfl (by omega) (by omega) ?_
          refine T_aload_n (v := .ref 373) d_Mo_root_170 rfl (Or.inr ⟨_, rfl⟩) ?_
          refine T_bipush (v := nI 53) d_Mo_root_171 (by decide) ?_
          refine T_iconst (v := nI 0) d_Mo_root_173 (by decide) ?_
          refine T_bipush (v := nI 53) d_Mo_root_174 (by decide) ?_
          have r_35 := (ke_34 0 (by decide)).trans ((ke_33 0 (by decide)).trans ((ke_30 0 (by decide)).trans ((ke_27 0 (by decide)).trans ((ke_24 0 (by decide)).trans ((ke_21 0 (by decide)).trans ((ke_19 0 (by decide)).trans (r_17)))))))
          have r_36 := (ke_34 53 (by decide)).trans (vr_33)
          refine T_virtual (as := [.int (nI 53), .int (nI 0), .int (nI 53)]) (rest := []) (b := 373) d_Mo_root_176 rfl (jw_Mo_sub.jo (by decide)) lm_Mo_152 ji_Mo_sub js_Mo_sub hE_34.ob rfl rfl rfl (Nat.le_of_ble_eq_true rfl) (by decide) (by decide) (u_Mo_sub hE_34 (by decide) (by decide) (by decide) r_35 r_36) (fun r M_37 hq => ?_)
          obtain ⟨rfl, E_37, hE_37, vr_37, ke_37, kp_37⟩ := hq
          replace vr_37 : E_37 53 = (-(rtA U V * cv_2)) := vr_37.trans (Int.zero_sub _)
          refine T_eq (pc' := 179) (L' := [(6, .int (nI 1)), (5, .int (nI 1)), (4, .int (nI 1)), (0, .ref 373), (1, .int (nI d)), (2, .int (nI u)), (3, .int (nI w))]) (st' := []) (M' := M_37) rfl rfl rfl rfl ?_
          refine T_aload_n (v := .ref 373) d_Mo_root_179 rfl (Or.inr ⟨_, rfl⟩) ?_
          refine T_iload_n d_Mo_root_180 rfl ?_
          refine T_bipush (v := nI 53) d_Mo_root_181 (by decide) ?_
          refine T_virtual (as := [.int (nI d), .int (nI 53)]) (rest := []) (b := 373) d_Mo_root_183 rfl (jw_Mo_set.jo (by decide)) lm_Mo_160 ji_Mo_set js_Mo_set hE_37.ob rfl rfl rfl (Nat.le_of_ble_eq_true rfl) (by decide) (by decide) (u_Mo_set hE_37 (by omega) (by decide) vr_37) (fun r M_38 hq => ?_)
          obtain ⟨rfl, E_38, hE_38, vr_38, ke_38, kp_38⟩ := hq
          refine T_eq (pc' := 186) (L' := [(6, .int (nI 1)), (5, .int (nI 1)), (4, .int (nI 1)), (0, .ref 373), (1, .int (nI d)), (2, .int (nI u)), (3, .int (nI w))]) (st' := []) (M' := M_38) rfl rfl rfl rfl ?_
          refine T_iload d_Mo_root_186 rfl ?_
          refine N_if_ne_t (b := 1) d_Mo_root_188 (tgt := 196) rfl (by omega) (by omega) ?_
          refine T_iconst (v := nI 1) d_Mo_root_196 (by decide) ?_
          refine T_goto (tgt := 201) d_Mo_root_197 rfl ?_
          refine T_ret d_Mo_root_201 rfl (by decide) (by decide) (by decide) ⟨?_, E_38, hE_38, ?_, KE.tr (KE.mono ((KE.tr (KE.tr (KE.tr (KE.tr (KE.tr (KE.tr (KE.tr (KE.tr (KE.tr (KE.tr (KE.tr (KE.tr (KE.tr (KE.tr (KE.tr (KE.tr (KE.tr (KE.tr (KE.rf : KE rtW E E) (KE.mono ke_1 (by decide))) (KE.mono ke_3 (by decide))) (KE.mono ke_4 (by decide))) (KE.mono ke_6 (by decide))) (KE.mono ke_8 (by decide))) (KE.mono ke_9 (by decide))) (KE.mono ke_11 (by decide))) (KE.mono ke_13 (by decide))) (KE.mono ke_14 (by decide))) (KE.mono ke_16 (by decide))) (KE.mono ke_19 (by decide))) (KE.mono ke_21 (by decide))) (KE.mono ke_24 (by decide))) (KE.mono ke_27 (by decide))) (KE.mono ke_30 (by decide))) (KE.mono ke_33 (by decide))) (KE.mono ke_34 (by decide))) (KE.mono ke_37 (by decide)))) (fun q hq => List.mem_cons_of_mem _ hq)) (KE.mono ke_38 (by simp)), (Kp.tr (Kp.tr (Kp.tr (Kp.tr (Kp.tr (Kp.tr (Kp.tr (Kp.tr (Kp.tr (Kp.tr (Kp.tr (Kp.tr (Kp.tr (Kp.tr (Kp.tr (Kp.tr (Kp.tr (Kp.tr (Kp.tr (Kp.rf : Kp [390, 391, 392, 393, 394] M M) (Kp.mono kp_1 (by decide))) (Kp.mono kp_3 (by decide))) (Kp.mono kp_4 (by decide))) (Kp.mono kp_6 (by decide))) (Kp.mono kp_8 (by decide))) (Kp.mono kp_9 (by decide))) (Kp.mono kp_11 (by decide))) (Kp.mono kp_13 (by decide))) (Kp.mono kp_14 (by decide))) (Kp.mono kp_16 (by decide))) (Kp.mono kp_19 (by decide))) (Kp.mono kp_21 (by decide))) (Kp.mono kp_24 (by decide))) (Kp.mono kp_27 (by decide))) (Kp.mono kp_30 (by decide))) (Kp.mono kp_33 (by decide))) (Kp.mono kp_34 (by decide))) (Kp.mono kp_37 (by decide))) (Kp.mono kp_38 (by decide)))⟩
          · unfold rtG; rw [if_pos (Or.inl hb_24)]
          · have hB : rtB U V = rtA U V * cv_2 := by unfold rtB; exact if_pos (Or.inl hb_27)
            unfold rt; rw [hB, if_pos hb_34]; exact vr_38
        · rw [if_neg hb_34]
          refine T_eq (pc' := 167) (L' := [(6, .int (nI 1)), (5, .int (nI 1)), (4, .int (nI 1)), (0, .ref 373), (1, .int (nI d)), (2, .int (nI u)), (3, .int (nI w))]) (st' := [.int (nI 0)]) (M' := M_34) rfl rfl rfl rfl ?_
          refine N_if_eq_t (b := 0) d_Mo_root_167 (tgt := 179) rfl (by omega) (by omega) ?_
          refine T_aload_n (v := .ref 373) d_Mo_root_179 rfl (Or.inr ⟨_, rfl⟩) ?_
          refine T_iload_n d_Mo_root_180 rfl ?_
          refine T_bipush (v := nI 53) d_Mo_root_181 (by decide) ?_
          have r_39 := (ke_34 53 (by decide)).trans (vr_33)
          refine T_virtual (as := [.int (nI d), .int (nI 53)]) (rest := []) (b := 373) d_Mo_root_183 rfl (jw_Mo_set.jo (by decide)) lm_Mo_160 ji_Mo_set js_Mo_set hE_34.ob rfl rfl rfl (Nat.le_of_ble_eq_true rfl) (by decide) (by decide) (u_Mo_set hE_34 (by omega) (by decide) r_39) (fun r M_40 hq => ?_)
          obtain ⟨rfl, E_40, hE_40, vr_40, ke_40, kp_40⟩ := hq
          refine T_eq (pc' := 186) (L' := [(6, .int (nI 1)), (5, .int (nI 1)), (4, .int (nI 1)), (0, .ref 373), (1, .int (nI d)), (2, .int (nI u)), (3, .int (nI w))]) (st' := []) (M' := M_40) rfl rfl rfl rfl ?_
          refine T_iload d_Mo_root_186 rfl ?_
          refine N_if_ne_t (b := 1) d_Mo_root_188 (tgt := 196) rfl (by omega) (by omega) ?_
          refine T_iconst (v := nI 1) d_Mo_root_196 (by decide) ?_
          refine T_goto (tgt := 201) d_Mo_root_197 rfl ?_
          refine T_ret d_Mo_root_201 rfl (by decide) (by decide) (by decide) ⟨?_, E_40, hE_40, ?_, KE.tr (KE.mono ((KE.tr (KE.tr (KE.tr (KE.tr (KE.tr (KE.tr (KE.tr (KE.tr (KE.tr (KE.tr (KE.tr (KE.tr (KE.tr (KE.tr (KE.tr (KE.tr (KE.tr (KE.rf : KE rtW E E) (KE.mono ke_1 (by decide))) (KE.mono ke_3 (by decide))) (KE.mono ke_4 (by decide))) (KE.mono ke_6 (by decide))) (KE.mono ke_8 (by decide))) (KE.mono ke_9 (by decide))) (KE.mono ke_11 (by decide))) (KE.mono ke_13 (by decide))) (KE.mono ke_14 (by decide))) (KE.mono ke_16 (by decide))) (KE.mono ke_19 (by decide))) (KE.mono ke_21 (by decide))) (KE.mono ke_24 (by decide))) (KE.mono ke_27 (by decide))) (KE.mono ke_30 (by decide))) (KE.mono ke_33 (by decide))) (KE.mono ke_34 (by decide)))) (fun q hq => List.mem_cons_of_mem _ hq)) (KE.mono ke_40 (by simp)), (Kp.tr (Kp.tr (Kp.tr (Kp.tr (Kp.tr (Kp.tr (Kp.tr (Kp.tr (Kp.tr (Kp.tr (Kp.tr (Kp.tr (Kp.tr (Kp.tr (Kp.tr (Kp.tr (Kp.tr (Kp.tr (Kp.rf : Kp [390, 391, 392, 393, 394] M M) (Kp.mono kp_1 (by decide))) (Kp.mono kp_3 (by decide))) (Kp.mono kp_4 (by decide))) (Kp.mono kp_6 (by decide))) (Kp.mono kp_8 (by decide))) (Kp.mono kp_9 (by decide))) (Kp.mono kp_11 (by decide))) (Kp.mono kp_13 (by decide))) (Kp.mono kp_14 (by decide))) (Kp.mono kp_16 (by decide))) (Kp.mono kp_19 (by decide))) (Kp.mono kp_21 (by decide))) (Kp.mono kp_24 (by decide))) (Kp.mono kp_27 (by decide))) (Kp.mono kp_30 (by decide))) (Kp.mono kp_33 (by decide))) (Kp.mono kp_34 (by decide))) (Kp.mono kp_40 (by decide)))⟩
          · unfold rtG; rw [if_pos (Or.inl hb_24)]
          · have hB : rtB U V = rtA U V * cv_2 := by unfold rtB; exact if_pos (Or.inl hb_27)
            unfold rt; rw [hB, if_neg hb_34]; exact vr_40
      · rw [if_neg hb_30]
        refine T_eq (pc' := 140) (L' := [(5, .int (nI 1)), (4, .int (nI 1)), (0, .ref 373), (1, .int (nI d)), (2, .int (nI u)), (3, .int (nI w))]) (st' := [.int (nI 0)]) (M' := M_30) rfl rfl rfl rfl ?_
        refine T_istore (L' := [(6, .int (nI 0)), (5, .int (nI 1)), (4, .int (nI 1)), (0, .ref 373), (1, .int (nI d)), (2, .int (nI u)), (3, .int (nI w))]) d_Mo_root_140 (by decide) rfl ?_
        refine T_iload d_Mo_root_142 rfl ?_
        refine N_if_ne_t (b := 1) d_Mo_root_144 (tgt := 152) rfl (by omega) (by omega) ?_
        refine T_aload_n (v := .ref 373) d_Mo_root_152 rfl (Or.inr ⟨_, rfl⟩) ?_
        refine T_bipush (v := nI 53) d_Mo_root_153 (by decide) ?_
        refine T_bipush (v := nI 53) d_Mo_root_155 (by decide) ?_
        refine T_iconst (v := nI 3) d_Mo_root_157 (by decide) ?_
        have r_41 := (ke_30 53 (by decide)).trans ((ke_27 53 (by decide)).trans ((ke_24 53 (by decide)).trans ((ke_21 53 (by decide)).trans ((ke_19 53 (by decide)).trans ((ke_16 53 (by decide)).trans ((ke_14 53 (by decide)).trans (vr_13)))))))
        have r_42 := (ke_30 3 (by decide)).trans ((ke_27 3 (by decide)).trans ((ke_24 3 (by decide)).trans ((ke_21 3 (by decide)).trans (r_20))))
        refine T_virtual (as := [.int (nI 53), .int (nI 53), .int (nI 3)]) (rest := []) (b := 373) d_Mo_root_158 rfl (jw_Mo_mul.jo (by decide)) lm_Mo_163 ji_Mo_mul js_Mo_mul hE_30.ob rfl rfl rfl (Nat.le_of_ble_eq_true rfl) (by decide) (by decide) (u_Mo_mul hE_30 (by decide) (by decide) (by decide) r_41 r_42) (fun r M_43 hq => ?_)
        obtain ⟨rfl, E_43, hE_43, vr_43, ke_43, kp_43⟩ := hq
        replace vr_43 : E_43 53 = (rtA U V * cv_2) := vr_43.trans (by rw [cI_v])
        refine T_eq (pc' := 161) (L' := [(6, .int (nI 0)), (5, .int (nI 1)), (4, .int (nI 1)), (0, .ref 373), (1, .int (nI d)), (2, .int (nI u)), (3, .int (nI w))]) (st' := []) (M' := M_43) rfl rfl rfl rfl ?_
        refine T_aload_n (v := .ref 373) d_Mo_root_161 rfl (Or.inr ⟨_, rfl⟩) ?_
        refine T_bipush (v := nI 53) d_Mo_root_162 (by decide) ?_
        refine T_virtual (as := [.int (nI 53)]) (rest := []) (b := 373) d_Mo_root_164 rfl (jw_Mo_odd.jo (by decide)) lm_Mo_174 ji_Mo_odd js_Mo_odd hE_43.ob rfl rfl rfl (Nat.le_of_ble_eq_true rfl) (by decide) (by decide) (u_Mo_odd hE_43 (by decide) vr_43) (fun r M_44 hq => ?_)
        obtain ⟨rfl, pk_44, E_44, hE_44, ke_44, kp_44⟩ := hq
        by_cases hb_44 : ((rtA U V * cv_2) % pP) % 2 = 1
        · rw [if_pos hb_44]
          refine T_eq (pc' := 167) (L' := [(6, .int (nI 0)), (5, .int (nI 1)), (4, .int (nI 1)), (0, .ref 373), (1, .int (nI d)), (2, .int (nI u)), (3, .int (nI w))]) (st' := [.int (nI 1)]) (M' := M_44) rfl rfl rfl rfl ?_
          refine N_if_eq_f (b := 1) d_Mo_root_167 (tgt := 179) rfl (by omega) (by omega) ?_
          refine T_aload_n (v := .ref 373) d_Mo_root_170 rfl (Or.inr ⟨_, rfl⟩) ?_
          refine T_bipush (v := nI 53) d_Mo_root_171 (by decide) ?_
          refine T_iconst (v := nI 0) d_Mo_root_173 (by decide) ?_
          refine T_bipush (v := nI 53) d_Mo_root_174 (by decide) ?_
          have r_45 := (ke_44 0 (by decide)).trans ((ke_43 0 (by decide)).trans ((ke_30 0 (by decide)).trans ((ke_27 0 (by decide)).trans ((ke_24 0 (by decide)).trans ((ke_21 0 (by decide)).trans ((ke_19 0 (by decide)).trans (r_17)))))))
          have r_46 := (ke_44 53 (by decide)).trans (vr_43)
          refine T_virtual (as := [.int (nI 53), .int (nI 0), .int (nI 53)]) (rest := []) (b := 373) d_Mo_root_176 rfl (jw_Mo_sub.jo (by decide)) lm_Mo_152 ji_Mo_sub js_Mo_sub hE_44.ob rfl rfl rfl (Nat.le_of_ble_eq_true rfl) (by decide) (by decide) (u_Mo_sub hE_44 (by decide) (by decide) (by decide) r_45 r_46) (fun r M_47 hq => ?_)
          obtain ⟨rfl, E_47, hE_47, vr_47, ke_47, kp_47⟩ := hq
          replace vr_47 : E_47 53 = (-(rtA U V * cv_2)) := vr_47.trans (Int.zero_sub _)
          refine T_eq (pc' := 179) (L' := [(6, .int (nI 0)), (5, .int (nI 1)), (4, .int (nI 1)), (0, .ref 373), (1, .int (nI d)), (2, .int (nI u)), (3, .int (nI w))]) (st' := []) (M' := M_47) rfl rfl rfl rfl ?_
          refine T_aload_n (v := .ref 373) d_Mo_root_179 rfl (Or.inr ⟨_, rfl⟩) ?_
          refine T_iload_n d_Mo_root_180 rfl ?_
          refine T_bipush (v := nI 53) d_Mo_root_181 (by decide) ?_
          refine T_virtual (as := [.int (nI d), .int (nI 53)]) (rest := []) (b := 373) d_Mo_root_183 rfl (jw_Mo_set.jo (by decide)) lm_Mo_160 ji_Mo_set js_Mo_set hE_47.ob rfl rfl rfl (Nat.le_of_ble_eq_true rfl) (by decide) (by decide) (u_Mo_set hE_47 (by omega) (by decide) vr_47) (fun r M_48 hq => ?_)
          obtain ⟨rfl, E_48, hE_48, vr_48, ke_48, kp_48⟩ := hq
          refine T_eq (pc' := 186) (L' := [(6, .int (nI 0)), (5, .int (nI 1)), (4, .int (nI 1)), (0, .ref 373), (1, .int (nI d)), (2, .int (nI u)), (3, .int (nI w))]) (st' := []) (M' := M_48) rfl rfl rfl rfl ?_
          refine T_iload d_Mo_root_186 rfl ?_
          refine N_if_ne_t (b := 1) d_Mo_root_188 (tgt := 196) rfl (by omega) (by omega) ?_
          refine T_iconst (v := nI 1) d_Mo_root_196 (by decide) ?_
          refine T_goto (tgt := 201) d_Mo_root_197 rfl ?_
          refine T_ret d_Mo_root_201 rfl (by decide) (by decide) (by decide) ⟨?_, E_48, hE_48, ?_, KE.tr (KE.mono ((KE.tr (KE.tr (KE.tr (KE.tr (KE.tr (KE.tr (KE.tr (KE.tr (KE.tr (KE.tr (KE.tr (KE.tr (KE.tr (KE.tr (KE.tr (KE.tr (KE.tr (KE.tr (KE.rf : KE rtW E E) (KE.mono ke_1 (by decide))) (KE.mono ke_3 (by decide))) (KE.mono ke_4 (by decide))) (KE.mono ke_6 (by decide))) (KE.mono ke_8 (by decide))) (KE.mono ke_9 (by decide))) (KE.mono ke_11 (by decide))) (KE.mono ke_13 (by decide))) (KE.mono ke_14 (by decide))) (KE.mono ke_16 (by decide))) (KE.mono ke_19 (by decide))) (KE.mono ke_21 (by decide))) (KE.mono ke_24 (by decide))) (KE.mono ke_27 (by decide))) (KE.mono ke_30 (by decide))) (KE.mono ke_43 (by decide))) (KE.mono ke_44 (by decide))) (KE.mono ke_47 (by decide)))) (fun q hq => List.mem_cons_of_mem _ hq)) (KE.mono ke_48 (by simp)), (Kp.tr (Kp.tr (Kp.tr (Kp.tr (Kp.tr (Kp.tr (Kp.tr (Kp.tr (Kp.tr (Kp.tr (Kp.tr (Kp.tr (Kp.tr (Kp.tr (Kp.tr (Kp.tr (Kp.tr (Kp.tr (Kp.tr (Kp.rf : Kp [390, 391, 392, 393, 394] M M) (Kp.mono kp_1 (by decide))) (Kp.mono kp_3 (by decide))) (Kp.mono kp_4 (by decide))) (Kp.mono kp_6 (by decide))) (Kp.mono kp_8 (by decide))) (Kp.mono kp_9 (by decide))) (Kp.mono kp_11 (by decide))) (Kp.mono kp_13 (by decide))) (Kp.mono kp_14 (by decide))) (Kp.mono kp_16 (by decide))) (Kp.mono kp_19 (by decide))) (Kp.mono kp_21 (by decide))) (Kp.mono kp_24 (by decide))) (Kp.mono kp_27 (by decide))) (Kp.mono kp_30 (by decide))) (Kp.mono kp_43 (by decide))) (Kp.mono kp_44 (by decide))) (Kp.mono kp_47 (by decide))) (Kp.mono kp_48 (by decide)))⟩
          · unfold rtG; rw [if_pos (Or.inl hb_24)]
          · have hB : rtB U V = rtA U V * cv_2 := by unfold rtB; exact if_pos (Or.inl hb_27)
            unfold rt; rw [hB, if_pos hb_44]; exact vr_48
        · rw [if_neg hb_44]
          refine T_eq (pc' := 167) (L' := [(6, .int (nI 0)), (5, .int (nI 1)), (4, .int (nI 1)), (0, .ref 373), (1, .int (nI d)), (2, .int (nI u)), (3, .int (nI w))]) (st' := [.int (nI 0)]) (M' := M_44) rfl rfl rfl rfl ?_
          refine N_if_eq_t (b := 0) d_Mo_root_167 (tgt := 179) rfl (by omega) (by omega) ?_
          refine T_aload_n (v := .ref 373) d_Mo_root_179 rfl (Or.inr ⟨_, rfl⟩) ?_
          refine T_iload_n d_Mo_root_180 rfl ?_
          refine T_bipush (v := nI 53) d_Mo_root_181 (by decide) ?_
          have r_49 := (ke_44 53 (by decide)).trans (vr_43)
          refine T_virtual (as := [.int (nI d), .int (nI 53)]) (rest := []) (b := 373) d_Mo_root_183 rfl (jw_Mo_set.jo (by decide)) lm_Mo_160 ji_Mo_set js_Mo_set hE_44.ob rfl rfl rfl (Nat.le_of_ble_eq_true rfl) (by decide) (by decide) (u_Mo_set hE_44 (by omega) (by decide) r_49) (fun r M_50 hq => ?_)
          obtain ⟨rfl, E_50, hE_50, vr_50, ke_50, kp_50⟩ := hq
          refine T_eq (pc' := 186) (L' := [(6, .int (nI 0)), (5, .int (nI 1)), (4, .int (nI 1)), (0, .ref 373), (1, .int (nI d)), (2, .int (nI u)), (3, .int (nI w))]) (st' := []) (M' := M_50) rfl rfl rfl rfl ?_
          refine T_iload d_Mo_root_186 rfl ?_
          refine N_if_ne_t (b := 1) d_Mo_root_188 (tgt := 196) rfl (by omega) (by omega) ?_
          refine T_iconst (v := nI 1) d_Mo_root_196 (by decide) ?_
          refine T_goto (tgt := 201) d_Mo_root_197 rfl ?_
          refine T_ret d_Mo_root_201 rfl (by decide) (by decide) (by decide) ⟨?_, E_50, hE_50, ?_, KE.tr (KE.mono ((KE.tr (KE.tr (KE.tr (KE.tr (KE.tr (KE.tr (KE.tr (KE.tr (KE.tr (KE.tr (KE.tr (KE.tr (KE.tr (KE.tr (KE.tr (KE.tr (KE.tr (KE.rf : KE rtW E E) (KE.mono ke_1 (by decide))) (KE.mono ke_3 (by decide))) (KE.mono ke_4 (by decide))) (KE.mono ke_6 (by decide))) (KE.mono ke_8 (by decide))) (KE.mono ke_9 (by decide))) (KE.mono ke_11 (by decide))) (KE.mono ke_13 (by decide))) (KE.mono ke_14 (by decide))) (KE.mono ke_16 (by decide))) (KE.mono ke_19 (by decide))) (KE.mono ke_21 (by decide))) (KE.mono ke_24 (by decide))) (KE.mono ke_27 (by decide))) (KE.mono ke_30 (by decide))) (KE.mono ke_43 (by decide))) (KE.mono ke_44 (by decide)))) (fun q hq => List.mem_cons_of_mem _ hq)) (KE.mono ke_50 (by simp)), (Kp.tr (Kp.tr (Kp.tr (Kp.tr (Kp.tr (Kp.tr (Kp.tr (Kp.tr (Kp.tr (Kp.tr (Kp.tr (Kp.tr (Kp.tr (Kp.tr (Kp.tr (Kp.tr (Kp.tr (Kp.tr (Kp.rf : Kp [390, 391, 392, 393, 394] M M) (Kp.mono kp_1 (by decide))) (Kp.mono kp_3 (by decide))) (Kp.mono kp_4 (by decide))) (Kp.mono kp_6 (by decide))) (Kp.mono kp_8 (by decide))) (Kp.mono kp_9 (by decide))) (Kp.mono kp_11 (by decide))) (Kp.mono kp_13 (by decide))) (Kp.mono kp_14 (by decide))) (Kp.mono kp_16 (by decide))) (Kp.mono kp_19 (by decide))) (Kp.mono kp_21 (by decide))) (Kp.mono kp_24 (by decide))) (Kp.mono kp_27 (by decide))) (Kp.mono kp_30 (by decide))) (Kp.mono kp_43 (by decide))) (Kp.mono kp_44 (by decide))) (Kp.mono kp_50 (by decide)))⟩
          · unfold rtG; rw [if_pos (Or.inl hb_24)]
          · have hB : rtB U V = rtA U V * cv_2 := by unfold rtB; exact if_pos (Or.inl hb_27)
            unfold rt; rw [hB, if_neg hb_44]; exact vr_50
    · rw [if_neg hb_27]
      refine T_eq (pc' := 130) (L' := [(4, .int (nI 1)), (0, .ref 373), (1, .int (nI d)), (2, .int (nI u)), (3, .int (nI w))]) (st' := [.int (nI 0)]) (M' := M_27) rfl rfl rfl rfl ?_
      refine T_istore (L' := [(5, .int (nI 0)), (4, .int (nI 1)), (0, .ref 373), (1, .int (nI d)), (2, .int (nI u)), (3, .int (nI w))]) d_Mo_root_130 (by decide) rfl ?_
      refine T_aload_n (v := .ref 373) d_Mo_root_132 rfl (Or.inr ⟨_, rfl⟩) ?_
      refine T_bipush (v := nI 54) d_Mo_root_133 (by decide) ?_
      refine T_bipush (v := nI 56) d_Mo_root_135 (by decide) ?_
      have r_51 := (ke_27 54 (by decide)).trans (r_25)
      have r_52 := (ke_27 56 (by decide)).trans ((ke_24 56 (by decide)).trans (vr_21))
      refine T_virtual (as := [.int (nI 54), .int (nI 56)]) (rest := []) (b := 373) d_Mo_root_137 rfl (jw_Mo_same.jo (by decide)) lm_Mo_170 ji_Mo_same js_Mo_same hE_27.ob rfl rfl rfl (Nat.le_of_ble_eq_true rfl) (by decide) (by decide) (u_Mo_same hE_27 (by decide) (by decide) r_51 r_52) (fun r M_53 hq => ?_)
      obtain ⟨rfl, E_53, hE_53, ke_53, kp_53⟩ := hq
      rw [show ((rtC U V) - (-(U * cv_2))) = (rtC U V + U * cv_2) from (by omega)]
      by_cases hb_53 : (rtC U V + U * cv_2) % pP = 0
      · rw [if_pos hb_53]
        refine T_eq (pc' := 140) (L' := [(5, .int (nI 0)), (4, .int (nI 1)), (0, .ref 373), (1, .int (nI d)), (2, .int (nI u)), (3, .int (nI w))]) (st' := [.int (nI 1)]) (M' := M_53) rfl rfl rfl rfl ?_
        refine T_istore (L' := [(6, .int (nI 1)), (5, .int (nI 0)), (4, .int (nI 1)), (0, .ref 373), (1, .int (nI d)), (2, .int (nI u)), (3, .int (nI w))]) d_Mo_root_140 (by decide) rfl ?_
        refine T_iload d_Mo_root_142 rfl ?_
        refine N_if_ne_f (b := 0) d_Mo_root_144 (tgt := 152) rfl (by omega) (by omega) ?_
        refine T_iload d_Mo_root_147 rfl ?_
        refine N_if_eq_f (b := 1) d_Mo_root_149 (tgt := 161) rfl (by omega) (by omega) ?_
        refine T_aload_n (v := .ref 373) d_Mo_root_152 rfl (Or.inr ⟨_, rfl⟩) ?_
        refine T_bipush (v := nI 53) d_Mo_root_153 (by decide) ?_
        refine T_bipush (v := nI 53) d_Mo_root_155 (by decide) ?_
        refine T_iconst (v := nI 3) d_Mo_root_157 (by decide) ?_
        have r_54 := (ke_53 53 (by decide)).trans ((ke_27 53 (by decide)).trans ((ke_24 53 (by decide)).trans ((ke_21 53 (by decide)).trans ((ke_19 53 (by decide)).trans ((ke_16 53 (by decide)).trans ((ke_14 53 (by decide)).trans (vr_13)))))))
        have r_55 := (ke_53 3 (by decide)).trans ((ke_27 3 (by decide)).trans ((ke_24 3 (by decide)).trans ((ke_21 3 (by decide)).trans (r_20))))
        refine T_virtual (as := [.int (nI 53), .int (nI 53), .int (nI 3)]) (rest := []) (b := 373) d_Mo_root_158 rfl (jw_Mo_mul.jo (by decide)) lm_Mo_163 ji_Mo_mul js_Mo_mul hE_53.ob rfl rfl rfl (Nat.le_of_ble_eq_true rfl) (by decide) (by decide) (u_Mo_mul hE_53 (by decide) (by decide) (by decide) r_54 r_55) (fun r M_56 hq => ?_)
        obtain ⟨rfl, E_56, hE_56, vr_56, ke_56, kp_56⟩ := hq
        replace vr_56 : E_56 53 = (rtA U V * cv_2) := vr_56.trans (by rw [cI_v])
        refine T_eq (pc' := 161) (L' := [(6, .int (nI 1)), (5, .int (nI 0)), (4, .int (nI 1)), (0, .ref 373), (1, .int (nI d)), (2, .int (nI u)), (3, .int (nI w))]) (st' := []) (M' := M_56) rfl rfl rfl rfl ?_
        refine T_aload_n (v := .ref 373) d_Mo_root_161 rfl (Or.inr ⟨_, rfl⟩) ?_
        refine T_bipush (v := nI 53) d_Mo_root_162 (by decide) ?_
        refine T_virtual (as := [.int (nI 53)]) (rest := []) (b := 373) d_Mo_root_164 rfl (jw_Mo_odd.jo (by decide)) lm_Mo_174 ji_Mo_odd js_Mo_odd hE_56.ob rfl rfl rfl (Nat.le_of_ble_eq_true rfl) (by decide) (by decide) (u_Mo_odd hE_56 (by decide) vr_56) (fun r M_57 hq => ?_)
        obtain ⟨rfl, pk_57, E_57, hE_57, ke_57, kp_57⟩ := hq
        by_cases hb_57 : ((rtA U V * cv_2) % pP) % 2 = 1
        · rw [if_pos hb_57]
          refine T_eq (pc' := 167) (L' := [(6, .int (nI 1)), (5, .int (nI 0)), (4, .int (nI 1)), (0, .ref 373), (1, .int (nI d)), (2, .int (nI u)), (3, .int (nI w))]) (st' := [.int (nI 1)]) (M' := M_57) rfl rfl rfl rfl ?_
          refine N_if_eq_f (b := 1) d_Mo_root_167 (tgt := 179) rfl (by omega) (by omega) ?_
          refine T_aload_n (v := .ref 373) d_Mo_root_170 rfl (Or.inr ⟨_, rfl⟩) ?_
          refine T_bipush (v := nI 53) d_Mo_root_171 (by decide) ?_
          refine T_iconst (v := nI 0) d_Mo_root_173 (by decide) ?_
          refine T_bipush (v := nI 53) d_Mo_root_174 (by decide) ?_
          have r_58 := (ke_57 0 (by decide)).trans ((ke_56 0 (by decide)).trans ((ke_53 0 (by decide)).trans ((ke_27 0 (by decide)).trans ((ke_24 0 (by decide)).trans ((ke_21 0 (by decide)).trans ((ke_19 0 (by decide)).trans (r_17)))))))
          have r_59 := (ke_57 53 (by decide)).trans (vr_56)
          refine T_virtual (as := [.int (nI 53), .int (nI 0), .int (nI 53)]) (rest := []) (b := 373) d_Mo_root_176 rfl (jw_Mo_sub.jo (by decide)) lm_Mo_152 ji_Mo_sub js_Mo_sub hE_57.ob rfl rfl rfl (Nat.le_of_ble_eq_true rfl) (by decide) (by decide) (u_Mo_sub hE_57 (by decide) (by decide) (by decide) r_58 r_59) (fun r M_60 hq => ?_)
          obtain ⟨rfl, E_60, hE_60, vr_60, ke_60, kp_60⟩ := hq
          replace vr_60 : E_60 53 = (-(rtA U V * cv_2)) := vr_60.trans (Int.zero_sub _)
          refine T_eq (pc' := 179) (L' := [(6, .int (nI 1)), (5, .int (nI 0)), (4, .int (nI 1)), (0, .ref 373), (1, .int (nI d)), (2, .int (nI u)), (3, .int (nI w))]) (st' := []) (M' := M_60) rfl rfl rfl rfl ?_
          refine T_aload_n (v := .ref 373) d_Mo_root_179 rfl (Or.inr ⟨_, rfl⟩) ?_
          refine T_iload_n d_Mo_root_180 rfl ?_
          refine T_bipush (v := nI 53) d_Mo_root_181 (by decide) ?_
          refine T_virtual (as := [.int (nI d), .int (nI 53)]) (rest := []) (b := 373) d_Mo_root_183 rfl (jw_Mo_set.jo (by decide)) lm_Mo_160 ji_Mo_set js_Mo_set hE_60.ob rfl rfl rfl (Nat.le_of_ble_eq_true rfl) (by decide) (by decide) (u_Mo_set hE_60 (by omega) (by decide) vr_60) (fun r M_61 hq => ?_)
          obtain ⟨rfl, E_61, hE_61, vr_61, ke_61, kp_61⟩ := hq
          refine T_eq (pc' := 186) (L' := [(6, .int (nI 1)), (5, .int (nI 0)), (4, .int (nI 1)), (0, .ref 373), (1, .int (nI d)), (2, .int (nI u)), (3, .int (nI w))]) (st' := []) (M' := M_61) rfl rfl rfl rfl ?_
          refine T_iload d_Mo_root_186 rfl ?_
          refine N_if_ne_t (b := 1) d_Mo_root_188 (tgt := 196) rfl (by omega) (by omega) ?_
          refine T_iconst (v := nI 1) d_Mo_root_196 (by decide) ?_
          refine T_goto (tgt := 201) d_Mo_root_197 rfl ?_
          refine T_ret d_Mo_root_201 rfl (by decide) (by decide) (by decide) ⟨?_, E_61, hE_61, ?_, KE.tr (KE.mono ((KE.tr (KE.tr (KE.tr (KE.tr (KE.tr (KE.tr (KE.tr (KE.tr (KE.tr (KE.tr (KE.tr (KE.tr (KE.tr (KE.tr (KE.tr (KE.tr (KE.tr (KE.tr (KE.rf : KE rtW E E) (KE.mono ke_1 (by decide))) (KE.mono ke_3 (by decide))) (KE.mono ke_4 (by decide))) (KE.mono ke_6 (by decide))) (KE.mono ke_8 (by decide))) (KE.mono ke_9 (by decide))) (KE.mono ke_11 (by decide))) (KE.mono ke_13 (by decide))) (KE.mono ke_14 (by decide))) (KE.mono ke_16 (by decide))) (KE.mono ke_19 (by decide))) (KE.mono ke_21 (by decide))) (KE.mono ke_24 (by decide))) (KE.mono ke_27 (by decide))) (KE.mono ke_53 (by decide))) (KE.mono ke_56 (by decide))) (KE.mono ke_57 (by decide))) (KE.mono ke_60 (by decide)))) (fun q hq => List.mem_cons_of_mem _ hq)) (KE.mono ke_61 (by simp)), (Kp.tr (Kp.tr (Kp.tr (Kp.tr (Kp.tr (Kp.tr (Kp.tr (Kp.tr (Kp.tr (Kp.tr (Kp.tr (Kp.tr (Kp.tr (Kp.tr (Kp.tr (Kp.tr (Kp.tr (Kp.tr (Kp.tr (Kp.rf : Kp [390, 391, 392, 393, 394] M M) (Kp.mono kp_1 (by decide))) (Kp.mono kp_3 (by decide))) (Kp.mono kp_4 (by decide))) (Kp.mono kp_6 (by decide))) (Kp.mono kp_8 (by decide))) (Kp.mono kp_9 (by decide))) (Kp.mono kp_11 (by decide))) (Kp.mono kp_13 (by decide))) (Kp.mono kp_14 (by decide))) (Kp.mono kp_16 (by decide))) (Kp.mono kp_19 (by decide))) (Kp.mono kp_21 (by decide))) (Kp.mono kp_24 (by decide))) (Kp.mono kp_27 (by decide))) (Kp.mono kp_53 (by decide))) (Kp.mono kp_56 (by decide))) (Kp.mono kp_57 (by decide))) (Kp.mono kp_60 (by decide))) (Kp.mono kp_61 (by decide)))⟩
          · unfold rtG; rw [if_pos (Or.inl hb_24)]
          · have hB : rtB U V = rtA U V * cv_2 := by unfold rtB; exact if_pos (Or.inr hb_53)
            unfold rt; rw [hB, if_pos hb_57]; exact vr_61
        · rw [if_neg hb_57]
          refine T_eq (pc' := 167) (L' := [(6, .int (nI 1)), (5, .int (nI 0)), (4, .int (nI 1)), (0, .ref 373), (1, .int (nI d)), (2, .int (nI u)), (3, .int (nI w))]) (st' := [.int (nI 0)]) (M' := M_57) rfl rfl rfl rfl ?_
          refine N_if_eq_t (b := 0) d_Mo_root_167 (tgt := 179) rfl (by omega) (by omega) ?_
          refine T_aload_n (v := .ref 373) d_Mo_root_179 rfl (Or.inr ⟨_, rfl⟩) ?_
          refine T_iload_n d_Mo_root_180 rfl ?_
          refine T_bipush (v := nI 53) d_Mo_root_181 (by decide) ?_
          have r_62 := (ke_57 53 (by decide)).trans (vr_56)
          refine T_virtual (as := [.int (nI d), .int (nI 53)]) (rest := []) (b := 373) d_Mo_root_183 rfl (jw_Mo_set.jo (by decide)) lm_Mo_160 ji_Mo_set js_Mo_set hE_57.ob rfl rfl rfl (Nat.le_of_ble_eq_true rfl) (by decide) (by decide) (u_Mo_set hE_57 (by omega) (by decide) r_62) (fun r M_63 hq => ?_)
          obtain ⟨rfl, E_63, hE_63, vr_63, ke_63, kp_63⟩ := hq
          refine T_eq (pc' := 186) (L' := [(6, .int (nI 1)), (5, .int (nI 0)), (4, .int (nI 1)), (0, .ref 373), (1, .int (nI d)), (2, .int (nI u)), (3, .int (nI w))]) (st' := []) (M' := M_63) rfl rfl rfl rfl ?_
          refine T_iload d_Mo_root_186 rfl ?_
          refine N_if_ne_t (b := 1) d_Mo_root_188 (tgt := 196) rfl (by omega) (by omega) ?_
          refine T_iconst (v := nI 1) d_Mo_root_196 (by decide) ?_
          refine T_goto (tgt := 201) d_Mo_root_197 rfl ?_
          refine T_ret d_Mo_root_201 rfl (by decide) (by decide) (by decide) ⟨?_, E_63, hE_63, ?_, KE.tr (KE.mono ((KE.tr (KE.tr (KE.tr (KE.tr (KE.tr (KE.tr (KE.tr (KE.tr (KE.tr (KE.tr (KE.tr (KE.tr (KE.tr (KE.tr (KE.tr (KE.tr (KE.tr (KE.rf : KE rtW E E) (KE.mono ke_1 (by decide))) (KE.mono ke_3 (by decide))) (KE.mono ke_4 (by decide))) (KE.mono ke_6 (by decide))) (KE.mono ke_8 (by decide))) (KE.mono ke_9 (by decide))) (KE.mono ke_11 (by decide))) (KE.mono ke_13 (by decide))) (KE.mono ke_14 (by decide))) (KE.mono ke_16 (by decide))) (KE.mono ke_19 (by decide))) (KE.mono ke_21 (by decide))) (KE.mono ke_24 (by decide))) (KE.mono ke_27 (by decide))) (KE.mono ke_53 (by decide))) (KE.mono ke_56 (by decide))) (KE.mono ke_57 (by decide)))) (fun q hq => List.mem_cons_of_mem _ hq)) (KE.mono ke_63 (by simp)), (Kp.tr (Kp.tr (Kp.tr (Kp.tr (Kp.tr (Kp.tr (Kp.tr (Kp.tr (Kp.tr (Kp.tr (Kp.tr (Kp.tr (Kp.tr (Kp.tr (Kp.tr (Kp.tr (Kp.tr (Kp.tr (Kp.rf : Kp [390, 391, 392, 393, 394] M M) (Kp.mono kp_1 (by decide))) (Kp.mono kp_3 (by decide))) (Kp.mono kp_4 (by decide))) (Kp.mono kp_6 (by decide))) (Kp.mono kp_8 (by decide))) (Kp.mono kp_9 (by decide))) (Kp.mono kp_11 (by decide))) (Kp.mono kp_13 (by decide))) (Kp.mono kp_14 (by decide))) (Kp.mono kp_16 (by decide))) (Kp.mono kp_19 (by decide))) (Kp.mono kp_21 (by decide))) (Kp.mono kp_24 (by decide))) (Kp.mono kp_27 (by decide))) (Kp.mono kp_53 (by decide))) (Kp.mono kp_56 (by decide))) (Kp.mono kp_57 (by decide))) (Kp.mono kp_63 (by decide)))⟩
          · unfold rtG; rw [if_pos (Or.inl hb_24)]
          · have hB : rtB U V = rtA U V * cv_2 := by unfold rtB; exact if_pos (Or.inr hb_53)
            unfold rt; rw [hB, if_neg hb_57]; exact vr_63
      · rw [if_neg hb_53]
        refine T_eq (pc' := 140) (L' := [(5, .int (nI 0)), (4, .int (nI 1)), (0, .ref 373), (1, .int (nI d)), (2, .int (nI u)), (3, .int (nI w))]) (st' := [.int (nI 0)]) (M' := M_53) rfl rfl rfl rfl ?_
        refine T_istore (L' := [(6, .int (nI 0)), (5, .int (nI 0)), (4, .int (nI 1)), (0, .ref 373), (1, .int (nI d)), (2, .int (nI u)), (3, .int (nI w))]) d_Mo_root_140 (by decide) rfl ?_
        refine T_iload d_Mo_root_142 rfl ?_
        refine N_if_ne_f (b := 0) d_Mo_root_144 (tgt := 152) rfl (by omega) (by omega) ?_
        refine T_iload d_Mo_root_147 rfl ?_
        refine N_if_eq_t (b := 0) d_Mo_root_149 (tgt := 161) rfl (by omega) (by omega) ?_
        refine T_aload_n (v := .ref 373) d_Mo_root_161 rfl (Or.inr ⟨_, rfl⟩) ?_
        refine T_bipush (v := nI 53) d_Mo_root_162 (by decide) ?_
        have r_64 := (ke_53 53 (by decide)).trans ((ke_27 53 (by decide)).trans ((ke_24 53 (by decide)).trans ((ke_21 53 (by decide)).trans ((ke_19 53 (by decide)).trans ((ke_16 53 (by decide)).trans ((ke_14 53 (by decide)).trans (vr_13)))))))
        refine T_virtual (as := [.int (nI 53)]) (rest := []) (b := 373) d_Mo_root_164 rfl (jw_Mo_odd.jo (by decide)) lm_Mo_174 ji_Mo_odd js_Mo_odd hE_53.ob rfl rfl rfl (Nat.le_of_ble_eq_true rfl) (by decide) (by decide) (u_Mo_odd hE_53 (by decide) r_64) (fun r M_65 hq => ?_)
        obtain ⟨rfl, pk_65, E_65, hE_65, ke_65, kp_65⟩ := hq
        by_cases hb_65 : ((rtA U V) % pP) % 2 = 1
        · rw [if_pos hb_65]
          refine T_eq (pc' := 167) (L' := [(6, .int (nI 0)), (5, .int (nI 0)), (4, .int (nI 1)), (0, .ref 373), (1, .int (nI d)), (2, .int (nI u)), (3, .int (nI w))]) (st' := [.int (nI 1)]) (M' := M_65) rfl rfl rfl rfl ?_
          refine N_if_eq_f (b := 1) d_Mo_root_167 (tgt := 179) rfl (by omega) (by omega) ?_
          refine T_aload_n (v := .ref 373) d_Mo_root_170 rfl (Or.inr ⟨_, rfl⟩) ?_
          refine T_bipush (v := nI 53) d_Mo_root_171 (by decide) ?_
          refine T_iconst (v := nI 0) d_Mo_root_173 (by decide) ?_
          refine T_bipush (v := nI 53) d_Mo_root_174 (by decide) ?_
          have r_66 := (ke_65 0 (by decide)).trans ((ke_53 0 (by decide)).trans ((ke_27 0 (by decide)).trans ((ke_24 0 (by decide)).trans ((ke_21 0 (by decide)).trans ((ke_19 0 (by decide)).trans (r_17))))))
          have r_67 := (ke_65 53 (by decide)).trans (r_64)
          refine T_virtual (as := [.int (nI 53), .int (nI 0), .int (nI 53)]) (rest := []) (b := 373) d_Mo_root_176 rfl (jw_Mo_sub.jo (by decide)) lm_Mo_152 ji_Mo_sub js_Mo_sub hE_65.ob rfl rfl rfl (Nat.le_of_ble_eq_true rfl) (by decide) (by decide) (u_Mo_sub hE_65 (by decide) (by decide) (by decide) r_66 r_67) (fun r M_68 hq => ?_)
          obtain ⟨rfl, E_68, hE_68, vr_68, ke_68, kp_68⟩ := hq
          replace vr_68 : E_68 53 = (-(rtA U V)) := vr_68.trans (Int.zero_sub _)
          refine T_eq (pc' := 179) (L' := [(6, .int (nI 0)), (5, .int (nI 0)), (4, .int (nI 1)), (0, .ref 373), (1, .int (nI d)), (2, .int (nI u)), (3, .int (nI w))]) (st' := []) (M' := M_68) rfl rfl rfl rfl ?_
          refine T_aload_n (v := .ref 373) d_Mo_root_179 rfl (Or.inr ⟨_, rfl⟩) ?_
          refine T_iload_n d_Mo_root_180 rfl ?_
          refine T_bipush (v := nI 53) d_Mo_root_181 (by decide) ?_
          refine T_virtual (as := [.int (nI d), .int (nI 53)]) (rest := []) (b := 373) d_Mo_root_183 rfl (jw_Mo_set.jo (by decide)) lm_Mo_160 ji_Mo_set js_Mo_set hE_68.ob rfl rfl rfl (Nat.le_of_ble_eq_true rfl) (by decide) (by decide) (u_Mo_set hE_68 (by omega) (by decide) vr_68) (fun r M_69 hq => ?_)
          obtain ⟨rfl, E_69, hE_69, vr_69, ke_69, kp_69⟩ := hq
          refine T_eq (pc' := 186) (L' := [(6, .int (nI 0)), (5, .int (nI 0)), (4, .int (nI 1)), (0, .ref 373), (1, .int (nI d)), (2, .int (nI u)), (3, .int (nI w))]) (st' := []) (M' := M_69) rfl rfl rfl rfl ?_
          refine T_iload d_Mo_root_186 rfl ?_
          refine N_if_ne_t (b := 1) d_Mo_root_188 (tgt := 196) rfl (by omega) (by omega) ?_
          refine T_iconst (v := nI 1) d_Mo_root_196 (by decide) ?_
          refine T_goto (tgt := 201) d_Mo_root_197 rfl ?_
          refine T_ret d_Mo_root_201 rfl (by decide) (by decide) (by decide) ⟨?_, E_69, hE_69, ?_, KE.tr (KE.mono ((KE.tr (KE.tr (KE.tr (KE.tr (KE.tr (KE.tr (KE.tr (KE.tr (KE.tr (KE.tr (KE.tr (KE.tr (KE.tr (KE.tr (KE.tr (KE.tr (KE.tr (KE.rf : KE rtW E E) (KE.mono ke_1 (by decide))) (KE.mono ke_3 (by decide))) (KE.mono ke_4 (by decide))) (KE.mono ke_6 (by decide))) (KE.mono ke_8 (by decide))) (KE.mono ke_9 (by decide))) (KE.mono ke_11 (by decide))) (KE.mono ke_13 (by decide))) (KE.mono ke_14 (by decide))) (KE.mono ke_16 (by decide))) (KE.mono ke_19 (by decide))) (KE.mono ke_21 (by decide))) (KE.mono ke_24 (by decide))) (KE.mono ke_27 (by decide))) (KE.mono ke_53 (by decide))) (KE.mono ke_65 (by decide))) (KE.mono ke_68 (by decide)))) (fun q hq => List.mem_cons_of_mem _ hq)) (KE.mono ke_69 (by simp)), (Kp.tr (Kp.tr (Kp.tr (Kp.tr (Kp.tr (Kp.tr (Kp.tr (Kp.tr (Kp.tr (Kp.tr (Kp.tr (Kp.tr (Kp.tr (Kp.tr (Kp.tr (Kp.tr (Kp.tr (Kp.tr (Kp.rf : Kp [390, 391, 392, 393, 394] M M) (Kp.mono kp_1 (by decide))) (Kp.mono kp_3 (by decide))) (Kp.mono kp_4 (by decide))) (Kp.mono kp_6 (by decide))) (Kp.mono kp_8 (by decide))) (Kp.mono kp_9 (by decide))) (Kp.mono kp_11 (by decide))) (Kp.mono kp_13 (by decide))) (Kp.mono kp_14 (by decide))) (Kp.mono kp_16 (by decide))) (Kp.mono kp_19 (by decide))) (Kp.mono kp_21 (by decide))) (Kp.mono kp_24 (by decide))) (Kp.mono kp_27 (by decide))) (Kp.mono kp_53 (by decide))) (Kp.mono kp_65 (by decide))) (Kp.mono kp_68 (by decide))) (Kp.mono kp_69 (by decide)))⟩
          · unfold rtG; rw [if_pos (Or.inl hb_24)]
          · have hB : rtB U V = rtA U V := by unfold rtB; exact if_neg (fun c => c.elim hb_27 hb_53)
            unfold rt; rw [hB, if_pos hb_65]; exact vr_69
        · rw [if_neg hb_65]
          refine T_eq (pc' := 167) (L' := [(6, .int (nI 0)), (5, .int (nI 0)), (4, .int (nI 1)), (0, .ref 373), (1, .int (nI d)), (2, .int (nI u)), (3, .int (nI w))]) (st' := [.int (nI 0)]) (M' := M_65) rfl rfl rfl rfl ?_
          refine N_if_eq_t (b := 0) d_Mo_root_167 (tgt := 179) rfl (by omega) (by omega) ?_
          refine T_aload_n (v := .ref 373) d_Mo_root_179 rfl (Or.inr ⟨_, rfl⟩) ?_
          refine T_iload_n d_Mo_root_180 rfl ?_
          refine T_bipush (v := nI 53) d_Mo_root_181 (by decide) ?_
          have r_70 := (ke_65 53 (by decide)).trans (r_64)
          refine T_virtual (as := [.int (nI d), .int (nI 53)]) (rest := []) (b := 373) d_Mo_root_183 rfl (jw_Mo_set.jo (by decide)) lm_Mo_160 ji_Mo_set js_Mo_set hE_65.ob rfl rfl rfl (Nat.le_of_ble_eq_true rfl) (by decide) (by decide) (u_Mo_set hE_65 (by omega) (by decide) r_70) (fun r M_71 hq => ?_)
          obtain ⟨rfl, E_71, hE_71, vr_71, ke_71, kp_71⟩ := hq
          refine T_eq (pc' := 186) (L' := [(6, .int (nI 0)), (5, .int (nI 0)), (4, .int (nI 1)), (0, .ref 373), (1, .int (nI d)), (2, .int (nI u)), (3, .int (nI w))]) (st' := []) (M' := M_71) rfl rfl rfl rfl ?_
          refine T_iload d_Mo_root_186 rfl ?_
          refine N_if_ne_t (b := 1) d_Mo_root_188 (tgt := 196) rfl (by omega) (by omega) ?_
          refine T_iconst (v := nI 1) d_Mo_root_196 (by decide) ?_
          refine T_goto (tgt := 201) d_Mo_root_197 rfl ?_
          refine T_ret d_Mo_root_201 rfl (by decide) (by decide) (by decide) ⟨?_, E_71, hE_71, ?_, KE.tr (KE.mono ((KE.tr (KE.tr (KE.tr (KE.tr (KE.tr (KE.tr (KE.tr (KE.tr (KE.tr (KE.tr (KE.tr (KE.tr (KE.tr (KE.tr (KE.tr (KE.tr (KE.rf : KE rtW E E) (KE.mono ke_1 (by decide))) (KE.mono ke_3 (by decide))) (KE.mono ke_4 (by decide))) (KE.mono ke_6 (by decide))) (KE.mono ke_8 (by decide))) (KE.mono ke_9 (by decide))) (KE.mono ke_11 (by decide))) (KE.mono ke_13 (by decide))) (KE.mono ke_14 (by decide))) (KE.mono ke_16 (by decide))) (KE.mono ke_19 (by decide))) (KE.mono ke_21 (by decide))) (KE.mono ke_24 (by decide))) (KE.mono ke_27 (by decide))) (KE.mono ke_53 (by decide))) (KE.mono ke_65 (by decide)))) (fun q hq => List.mem_cons_of_mem _ hq)) (KE.mono ke_71 (by simp)), (Kp.tr (Kp.tr (Kp.tr (Kp.tr (Kp.tr (Kp.tr (Kp.tr (Kp.tr (Kp.tr (Kp.tr (Kp.tr (Kp.tr (Kp.tr (Kp.tr (Kp.tr (Kp.tr (Kp.tr (Kp.rf : Kp [390, 391, 392, 393, 394] M M) (Kp.mono kp_1 (by decide))) (Kp.mono kp_3 (by decide))) (Kp.mono kp_4 (by decide))) (Kp.mono kp_6 (by decide))) (Kp.mono kp_8 (by decide))) (Kp.mono kp_9 (by decide))) (Kp.mono kp_11 (by decide))) (Kp.mono kp_13 (by decide))) (Kp.mono kp_14 (by decide))) (Kp.mono kp_16 (by decide))) (Kp.mono kp_19 (by decide))) (Kp.mono kp_21 (by decide))) (Kp.mono kp_24 (by decide))) (Kp.mono kp_27 (by decide))) (Kp.mono kp_53 (by decide))) (Kp.mono kp_65 (by decide))) (Kp.mono kp_71 (by decide)))⟩
          · unfold rtG; rw [if_pos (Or.inl hb_24)]
          · have hB : rtB U V = rtA U V := by unfold rtB; exact if_neg (fun c => c.elim hb_27 hb_53)
            unfold rt; rw [hB, if_neg hb_65]; exact vr_71
  · rw [if_neg hb_24]
    refine T_eq (pc' := 120) (L' := [(0, .ref 373), (1, .int (nI d)), (2, .int (nI u)), (3, .int (nI w))]) (st' := [.int (nI 0)]) (M' := M_24) rfl rfl rfl rfl ?_
    refine T_istore (L' := [(4, .int (nI 0)), (0, .ref 373), (1, .int (nI d)), (2, .int (nI u)), (3, .int (nI w))]) d_Mo_root_120 (by decide) rfl ?_
    refine T_aload_n (v := .ref 373) d_Mo_root_122 rfl (Or.inr ⟨_, rfl⟩) ?_
    refine T_bipush (v := nI 54) d_Mo_root_123 (by decide) ?_
    refine T_bipush (v := nI 55) d_Mo_root_125 (by decide) ?_
    have r_72 := (ke_24 54 (by decide)).trans (r_22)
    have r_73 := (ke_24 55 (by decide)).trans ((ke_21 55 (by decide)).trans (vr_19))
    refine T_virtual (as := [.int (nI 54), .int (nI 55)]) (rest := []) (b := 373) d_Mo_root_127 rfl (jw_Mo_same.jo (by decide)) lm_Mo_170 ji_Mo_same js_Mo_same hE_24.ob rfl rfl rfl (Nat.le_of_ble_eq_true rfl) (by decide) (by decide) (u_Mo_same hE_24 (by decide) (by decide) r_72 r_73) (fun r M_74 hq => ?_)
    obtain ⟨rfl, E_74, hE_74, ke_74, kp_74⟩ := hq
    rw [show ((rtC U V) - (-U)) = (rtC U V + U) from (by omega)]
    by_cases hb_74 : (rtC U V + U) % pP = 0
    · rw [if_pos hb_74]
      refine T_eq (pc' := 130) (L' := [(4, .int (nI 0)), (0, .ref 373), (1, .int (nI d)), (2, .int (nI u)), (3, .int (nI w))]) (st' := [.int (nI 1)]) (M' := M_74) rfl rfl rfl rfl ?_
      refine T_istore (L' := [(5, .int (nI 1)), (4, .int (nI 0)), (0, .ref 373), (1, .int (nI d)), (2, .int (nI u)), (3, .int (nI w))]) d_Mo_root_130 (by decide) rfl ?_
      refine T_aload_n (v := .ref 373) d_Mo_root_132 rfl (Or.inr ⟨_, rfl⟩) ?_
      refine T_bipush (v := nI 54) d_Mo_root_133 (by decide) ?_
      refine T_bipush (v := nI 56) d_Mo_root_135 (by decide) ?_
      have r_75 := (ke_74 54 (by decide)).trans (r_72)
      have r_76 := (ke_74 56 (by decide)).trans ((ke_24 56 (by decide)).trans (vr_21))
      refine T_virtual (as := [.int (nI 54), .int (nI 56)]) (rest := []) (b := 373) d_Mo_root_137 rfl (jw_Mo_same.jo (by decide)) lm_Mo_170 ji_Mo_same js_Mo_same hE_74.ob rfl rfl rfl (Nat.le_of_ble_eq_true rfl) (by decide) (by decide) (u_Mo_same hE_74 (by decide) (by decide) r_75 r_76) (fun r M_77 hq => ?_)
      obtain ⟨rfl, E_77, hE_77, ke_77, kp_77⟩ := hq
      rw [show ((rtC U V) - (-(U * cv_2))) = (rtC U V + U * cv_2) from (by omega)]
      by_cases hb_77 : (rtC U V + U * cv_2) % pP = 0
      · rw [if_pos hb_77]
        refine T_eq (pc' := 140) (L' := [(5, .int (nI 1)), (4, .int (nI 0)), (0, .ref 373), (1, .int (nI d)), (2, .int (nI u)), (3, .int (nI w))]) (st' := [.int (nI 1)]) (M' := M_77) rfl rfl rfl rfl ?_
        refine T_istore (L' := [(6, .int (nI 1)), (5, .int (nI 1)), (4, .int (nI 0)), (0, .ref 373), (1, .int (nI d)), (2, .int (nI u)), (3, .int (nI w))]) d_Mo_root_140 (by decide) rfl ?_
        refine T_iload d_Mo_root_142 rfl ?_
        refine N_if_ne_t (b := 1) d_Mo_root_144 (tgt := 152) rfl (by omega) (by omega) ?_
        refine T_aload_n (v := .ref 373) d_Mo_root_152 rfl (Or.inr ⟨_, rfl⟩) ?_
        refine T_bipush (v := nI 53) d_Mo_root_153 (by decide) ?_
        refine T_bipush (v := nI 53) d_Mo_root_155 (by decide) ?_
        refine T_iconst (v := nI 3) d_Mo_root_157 (by decide) ?_
        have r_78 := (ke_77 53 (by decide)).trans ((ke_74 53 (by decide)).trans ((ke_24 53 (by decide)).trans ((ke_21 53 (by decide)).trans ((ke_19 53 (by decide)).trans ((ke_16 53 (by decide)).trans ((ke_14 53 (by decide)).trans (vr_13)))))))
        have r_79 := (ke_77 3 (by decide)).trans ((ke_74 3 (by decide)).trans ((ke_24 3 (by decide)).trans ((ke_21 3 (by decide)).trans (r_20))))
        refine T_virtual (as := [.int (nI 53), .int (nI 53), .int (nI 3)]) (rest := []) (b := 373) d_Mo_root_158 rfl (jw_Mo_mul.jo (by decide)) lm_Mo_163 ji_Mo_mul js_Mo_mul hE_77.ob rfl rfl rfl (Nat.le_of_ble_eq_true rfl) (by decide) (by decide) (u_Mo_mul hE_77 (by decide) (by decide) (by decide) r_78 r_79) (fun r M_80 hq => ?_)
        obtain ⟨rfl, E_80, hE_80, vr_80, ke_80, kp_80⟩ := hq
        replace vr_80 : E_80 53 = (rtA U V * cv_2) := vr_80.trans (by rw [cI_v])
        refine T_eq (pc' := 161) (L' := [(6, .int (nI 1)), (5, .int (nI 1)), (4, .int (nI 0)), (0, .ref 373), (1, .int (nI d)), (2, .int (nI u)), (3, .int (nI w))]) (st' := []) (M' := M_80) rfl rfl rfl rfl ?_
        refine T_aload_n (v := .ref 373) d_Mo_root_161 rfl (Or.inr ⟨_, rfl⟩) ?_
        refine T_bipush (v := nI 53) d_Mo_root_162 (by decide) ?_
        refine T_virtual (as := [.int (nI 53)]) (rest := []) (b := 373) d_Mo_root_164 rfl (jw_Mo_odd.jo (by decide)) lm_Mo_174 ji_Mo_odd js_Mo_odd hE_80.ob rfl rfl rfl (Nat.le_of_ble_eq_true rfl) (by decide) (by decide) (u_Mo_odd hE_80 (by decide) vr_80) (fun r M_81 hq => ?_)
        obtain ⟨rfl, pk_81, E_81, hE_81, ke_81, kp_81⟩ := hq
        by_cases hb_81 : ((rtA U V * cv_2) % pP) % 2 = 1
        · rw [if_pos hb_81]
          refine T_eq (pc' := 167) (L' := [(6, .int (nI 1)), (5, .int (nI 1)), (4, .int (nI 0)), (0, .ref 373), (1, .int (nI d)), (2, .int (nI u)), (3, .int (nI w))]) (st' := [.int (nI 1)]) (M' := M_81) rfl rfl rfl rfl ?_
          refine N_if_eq_f (b := 1) d_Mo_root_167 (tgt := 179) rfl (by omega) (by omega) ?_
          refine T_aload_n (v := .ref 373) d_Mo_root_170 rfl (Or.inr ⟨_, rfl⟩) ?_
          refine T_bipush (v := nI 53) d_Mo_root_171 (by decide) ?_
          refine T_iconst (v := nI 0) d_Mo_root_173 (by decide) ?_
          refine T_bipush (v := nI 53) d_Mo_root_174 (by decide) ?_
          have r_82 := (ke_81 0 (by decide)).trans ((ke_80 0 (by decide)).trans ((ke_77 0 (by decide)).trans ((ke_74 0 (by decide)).trans ((ke_24 0 (by decide)).trans ((ke_21 0 (by decide)).trans ((ke_19 0 (by decide)).trans (r_17)))))))
          have r_83 := (ke_81 53 (by decide)).trans (vr_80)
          refine T_virtual (as := [.int (nI 53), .int (nI 0), .int (nI 53)]) (rest := []) (b := 373) d_Mo_root_176 rfl (jw_Mo_sub.jo (by decide)) lm_Mo_152 ji_Mo_sub js_Mo_sub hE_81.ob rfl rfl rfl (Nat.le_of_ble_eq_true rfl) (by decide) (by decide) (u_Mo_sub hE_81 (by decide) (by decide) (by decide) r_82 r_83) (fun r M_84 hq => ?_)
          obtain ⟨rfl, E_84, hE_84, vr_84, ke_84, kp_84⟩ := hq
          replace vr_84 : E_84 53 = (-(rtA U V * cv_2)) := vr_84.trans (Int.zero_sub _)
          refine T_eq (pc' := 179) (L' := [(6, .int (nI 1)), (5, .int (nI 1)), (4, .int (nI 0)), (0, .ref 373), (1, .int (nI d)), (2, .int (nI u)), (3, .int (nI w))]) (st' := []) (M' := M_84) rfl rfl rfl rfl ?_
          refine T_aload_n (v := .ref 373) d_Mo_root_179 rfl (Or.inr ⟨_, rfl⟩) ?_
          refine T_iload_n d_Mo_root_180 rfl ?_
          refine T_bipush (v := nI 53) d_Mo_root_181 (by decide) ?_
          refine T_virtual (as := [.int (nI d), .int (nI 53)]) (rest := []) (b := 373) d_Mo_root_183 rfl (jw_Mo_set.jo (by decide)) lm_Mo_160 ji_Mo_set js_Mo_set hE_84.ob rfl rfl rfl (Nat.le_of_ble_eq_true rfl) (by decide) (by decide) (u_Mo_set hE_84 (by omega) (by decide) vr_84) (fun r M_85 hq => ?_)
          obtain ⟨rfl, E_85, hE_85, vr_85, ke_85, kp_85⟩ := hq
          refine T_eq (pc' := 186) (L' := [(6, .int (nI 1)), (5, .int (nI 1)), (4, .int (nI 0)), (0, .ref 373), (1, .int (nI d)), (2, .int (nI u)), (3, .int (nI w))]) (st' := []) (M' := M_85) rfl rfl rfl rfl ?_
          refine T_iload d_Mo_root_186 rfl ?_
          refine N_if_ne_f (b := 0) d_Mo_root_188 (tgt := 196) rfl (by omega) (by omega) ?_
          refine T_iload d_Mo_root_191 rfl ?_
          refine N_if_eq_f (b := 1) d_Mo_root_193 (tgt := 200) rfl (by omega) (by omega) ?_
          refine T_iconst (v := nI 1) d_Mo_root_196 (by decide) ?_
          refine T_goto (tgt := 201) d_Mo_root_197 rfl ?_
          refine T_ret d_Mo_root_201 rfl (by decide) (by decide) (by decide) ⟨?_, E_85, hE_85, ?_, KE.tr (KE.mono ((KE.tr (KE.tr (KE.tr (KE.tr (KE.tr (KE.tr (KE.tr (KE.tr (KE.tr (KE.tr (KE.tr (KE.tr (KE.tr (KE.tr (KE.tr (KE.tr (KE.tr (KE.tr (KE.rf : KE rtW E E) (KE.mono ke_1 (by decide))) (KE.mono ke_3 (by decide))) (KE.mono ke_4 (by decide))) (KE.mono ke_6 (by decide))) (KE.mono ke_8 (by decide))) (KE.mono ke_9 (by decide))) (KE.mono ke_11 (by decide))) (KE.mono ke_13 (by decide))) (KE.mono ke_14 (by decide))) (KE.mono ke_16 (by decide))) (KE.mono ke_19 (by decide))) (KE.mono ke_21 (by decide))) (KE.mono ke_24 (by decide))) (KE.mono ke_74 (by decide))) (KE.mono ke_77 (by decide))) (KE.mono ke_80 (by decide))) (KE.mono ke_81 (by decide))) (KE.mono ke_84 (by decide)))) (fun q hq => List.mem_cons_of_mem _ hq)) (KE.mono ke_85 (by simp)), (Kp.tr (Kp.tr (Kp.tr (Kp.tr (Kp.tr (Kp.tr (Kp.tr (Kp.tr (Kp.tr (Kp.tr (Kp.tr (Kp.tr (Kp.tr (Kp.tr (Kp.tr (Kp.tr (Kp.tr (Kp.tr (Kp.tr (Kp.rf : Kp [390, 391, 392, 393, 394] M M) (Kp.mono kp_1 (by decide))) (Kp.mono kp_3 (by decide))) (Kp.mono kp_4 (by decide))) (Kp.mono kp_6 (by decide))) (Kp.mono kp_8 (by decide))) (Kp.mono kp_9 (by decide))) (Kp.mono kp_11 (by decide))) (Kp.mono kp_13 (by decide))) (Kp.mono kp_14 (by decide))) (Kp.mono kp_16 (by decide))) (Kp.mono kp_19 (by decide))) (Kp.mono kp_21 (by decide))) (Kp.mono kp_24 (by decide))) (Kp.mono kp_74 (by decide))) (Kp.mono kp_77 (by decide))) (Kp.mono kp_80 (by decide))) (Kp.mono kp_81 (by decide))) (Kp.mono kp_84 (by decide))) (Kp.mono kp_85 (by decide)))⟩
          · unfold rtG; rw [if_pos (Or.inr hb_74)]
          · have hB : rtB U V = rtA U V * cv_2 := by unfold rtB; exact if_pos (Or.inl hb_74)
            unfold rt; rw [hB, if_pos hb_81]; exact vr_85
        · rw [if_neg hb_81]
          refine T_eq (pc' := 167) (L' := [(6, .int (nI 1)), (5, .int (nI 1)), (4, .int (nI 0)), (0, .ref 373), (1, .int (nI d)), (2, .int (nI u)), (3, .int (nI w))]) (st' := [.int (nI 0)]) (M' := M_81) rfl rfl rfl rfl ?_
          refine N_if_eq_t (b := 0) d_Mo_root_167 (tgt := 179) rfl (by omega) (by omega) ?_
          refine T_aload_n (v := .ref 373) d_Mo_root_179 rfl (Or.inr ⟨_, rfl⟩) ?_
          refine T_iload_n d_Mo_root_180 rfl ?_
          refine T_bipush (v := nI 53) d_Mo_root_181 (by decide) ?_
          have r_86 := (ke_81 53 (by decide)).trans (vr_80)
          refine T_virtual (as := [.int (nI d), .int (nI 53)]) (rest := []) (b := 373) d_Mo_root_183 rfl (jw_Mo_set.jo (by decide)) lm_Mo_160 ji_Mo_set js_Mo_set hE_81.ob rfl rfl rfl (Nat.le_of_ble_eq_true rfl) (by decide) (by decide) (u_Mo_set hE_81 (by omega) (by decide) r_86) (fun r M_87 hq => ?_)
          obtain ⟨rfl, E_87, hE_87, vr_87, ke_87, kp_87⟩ := hq
          refine T_eq (pc' := 186) (L' := [(6, .int (nI 1)), (5, .int (nI 1)), (4, .int (nI 0)), (0, .ref 373), (1, .int (nI d)), (2, .int (nI u)), (3, .int (nI w))]) (st' := []) (M' := M_87) rfl rfl rfl rfl ?_
          refine T_iload d_Mo_root_186 rfl ?_
          refine N_if_ne_f (b := 0) d_Mo_root_188 (tgt := 196) rfl (by omega) (by omega) ?_
          refine T_iload d_Mo_root_191 rfl ?_
          refine N_if_eq_f (b := 1) d_Mo_root_193 (tgt := 200) rfl (by omega) (by omega) ?_
          refine T_iconst (v := nI 1) d_Mo_root_196 (by decide) ?_
          refine T_goto (tgt := 201) d_Mo_root_197 rfl ?_
          refine T_ret d_Mo_root_201 rfl (by decide) (by decide) (by decide) ⟨?_, E_87, hE_87, ?_, KE.tr (KE.mono ((KE.tr (KE.tr (KE.tr (KE.tr (KE.tr (KE.tr (KE.tr (KE.tr (KE.tr (KE.tr (KE.tr (KE.tr (KE.tr (KE.tr (KE.tr (KE.tr (KE.tr (KE.rf : KE rtW E E) (KE.mono ke_1 (by decide))) (KE.mono ke_3 (by decide))) (KE.mono ke_4 (by decide))) (KE.mono ke_6 (by decide))) (KE.mono ke_8 (by decide))) (KE.mono ke_9 (by decide))) (KE.mono ke_11 (by decide))) (KE.mono ke_13 (by decide))) (KE.mono ke_14 (by decide))) (KE.mono ke_16 (by decide))) (KE.mono ke_19 (by decide))) (KE.mono ke_21 (by decide))) (KE.mono ke_24 (by decide))) (KE.mono ke_74 (by decide))) (KE.mono ke_77 (by decide))) (KE.mono ke_80 (by decide))) (KE.mono ke_81 (by decide)))) (fun q hq => List.mem_cons_of_mem _ hq)) (KE.mono ke_87 (by simp)), (Kp.tr (Kp.tr (Kp.tr (Kp.tr (Kp.tr (Kp.tr (Kp.tr (Kp.tr (Kp.tr (Kp.tr (Kp.tr (Kp.tr (Kp.tr (Kp.tr (Kp.tr (Kp.tr (Kp.tr (Kp.tr (Kp.rf : Kp [390, 391, 392, 393, 394] M M) (Kp.mono kp_1 (by decide))) (Kp.mono kp_3 (by decide))) (Kp.mono kp_4 (by decide))) (Kp.mono kp_6 (by decide))) (Kp.mono kp_8 (by decide))) (Kp.mono kp_9 (by decide))) (Kp.mono kp_11 (by decide))) (Kp.mono kp_13 (by decide))) (Kp.mono kp_14 (by decide))) (Kp.mono kp_16 (by decide))) (Kp.mono kp_19 (by decide))) (Kp.mono kp_21 (by decide))) (Kp.mono kp_24 (by decide))) (Kp.mono kp_74 (by decide))) (Kp.mono kp_77 (by decide))) (Kp.mono kp_80 (by decide))) (Kp.mono kp_81 (by decide))) (Kp.mono kp_87 (by decide)))⟩
          · unfold rtG; rw [if_pos (Or.inr hb_74)]
          · have hB : rtB U V = rtA U V * cv_2 := by unfold rtB; exact if_pos (Or.inl hb_74)
            unfold rt; rw [hB, if_neg hb_81]; exact vr_87
      · rw [if_neg hb_77]
        refine T_eq (pc' := 140) (L' := [(5, .int (nI 1)), (4, .int (nI 0)), (0, .ref 373), (1, .int (nI d)), (2, .int (nI u)), (3, .int (nI w))]) (st' := [.int (nI 0)]) (M' := M_77) rfl rfl rfl rfl ?_
        refine T_istore (L' := [(6, .int (nI 0)), (5, .int (nI 1)), (4, .int (nI 0)), (0, .ref 373), (1, .int (nI d)), (2, .int (nI u)), (3, .int (nI w))]) d_Mo_root_140 (by decide) rfl ?_
        refine T_iload d_Mo_root_142 rfl ?_
        refine N_if_ne_t (b := 1) d_Mo_root_144 (tgt := 152) rfl (by omega) (by omega) ?_
        refine T_aload_n (v := .ref 373) d_Mo_root_152 rfl (Or.inr ⟨_, rfl⟩) ?_
        refine T_bipush (v := nI 53) d_Mo_root_153 (by decide) ?_
        refine T_bipush (v := nI 53) d_Mo_root_155 (by decide) ?_
        refine T_iconst (v := nI 3) d_Mo_root_157 (by decide) ?_
        have r_88 := (ke_77 53 (by decide)).trans ((ke_74 53 (by decide)).trans ((ke_24 53 (by decide)).trans ((ke_21 53 (by decide)).trans ((ke_19 53 (by decide)).trans ((ke_16 53 (by decide)).trans ((ke_14 53 (by decide)).trans (vr_13)))))))
        have r_89 := (ke_77 3 (by decide)).trans ((ke_74 3 (by decide)).trans ((ke_24 3 (by decide)).trans ((ke_21 3 (by decide)).trans (r_20))))
        refine T_virtual (as := [.int (nI 53), .int (nI 53), .int (nI 3)]) (rest := []) (b := 373) d_Mo_root_158 rfl (jw_Mo_mul.jo (by decide)) lm_Mo_163 ji_Mo_mul js_Mo_mul hE_77.ob rfl rfl rfl (Nat.le_of_ble_eq_true rfl) (by decide) (by decide) (u_Mo_mul hE_77 (by decide) (by decide) (by decide) r_88 r_89) (fun r M_90 hq => ?_)
        obtain ⟨rfl, E_90, hE_90, vr_90, ke_90, kp_90⟩ := hq
        replace vr_90 : E_90 53 = (rtA U V * cv_2) := vr_90.trans (by rw [cI_v])
        refine T_eq (pc' := 161) (L' := [(6, .int (nI 0)), (5, .int (nI 1)), (4, .int (nI 0)), (0, .ref 373), (1, .int (nI d)), (2, .int (nI u)), (3, .int (nI w))]) (st' := []) (M' := M_90) rfl rfl rfl rfl ?_
        refine T_aload_n (v := .ref 373) d_Mo_root_161 rfl (Or.inr ⟨_, rfl⟩) ?_
        refine T_bipush (v := nI 53) d_Mo_root_162 (by decide) ?_
        refine T_virtual (as := [.int (nI 53)]) (rest := []) (b := 373) d_Mo_root_164 rfl (jw_Mo_odd.jo (by decide)) lm_Mo_174 ji_Mo_odd js_Mo_odd hE_90.ob rfl rfl rfl (Nat.le_of_ble_eq_true rfl) (by decide) (by decide) (u_Mo_odd hE_90 (by decide) vr_90) (fun r M_91 hq => ?_)
        obtain ⟨rfl, pk_91, E_91, hE_91, ke_91, kp_91⟩ := hq
        by_cases hb_91 : ((rtA U V * cv_2) % pP) % 2 = 1
        · rw [if_pos hb_91]
          refine T_eq (pc' := 167) (L' := [(6, .int (nI 0)), (5, .int (nI 1)), (4, .int (nI 0)), (0, .ref 373), (1, .int (nI d)), (2, .int (nI u)), (3, .int (nI w))]) (st' := [.int (nI 1)]) (M' := M_91) rfl rfl rfl rfl ?_
          refine N_if_eq_f (b := 1) d_Mo_root_167 (tgt := 179) rfl (by omega) (by omega) ?_
          refine T_aload_n (v := .ref 373) d_Mo_root_170 rfl (Or.inr ⟨_, rfl⟩) ?_
          refine T_bipush (v := nI 53) d_Mo_root_171 (by decide) ?_
          refine T_iconst (v := nI 0) d_Mo_root_173 (by decide) ?_
          refine T_bipush (v := nI 53) d_Mo_root_174 (by decide) ?_
          have r_92 := (ke_91 0 (by decide)).trans ((ke_90 0 (by decide)).trans ((ke_77 0 (by decide)).trans ((ke_74 0 (by decide)).trans ((ke_24 0 (by decide)).trans ((ke_21 0 (by decide)).trans ((ke_19 0 (by decide)).trans (r_17)))))))
          have r_93 := (ke_91 53 (by decide)).trans (vr_90)
          refine T_virtual (as := [.int (nI 53), .int (nI 0), .int (nI 53)]) (rest := []) (b := 373) d_Mo_root_176 rfl (jw_Mo_sub.jo (by decide)) lm_Mo_152 ji_Mo_sub js_Mo_sub hE_91.ob rfl rfl rfl (Nat.le_of_ble_eq_true rfl) (by decide) (by decide) (u_Mo_sub hE_91 (by decide) (by decide) (by decide) r_92 r_93) (fun r M_94 hq => ?_)
          obtain ⟨rfl, E_94, hE_94, vr_94, ke_94, kp_94⟩ := hq
          replace vr_94 : E_94 53 = (-(rtA U V * cv_2)) := vr_94.trans (Int.zero_sub _)
          refine T_eq (pc' := 179) (L' := [(6, .int (nI 0)), (5, .int (nI 1)), (4, .int (nI 0)), (0, .ref 373), (1, .int (nI d)), (2, .int (nI u)), (3, .int (nI w))]) (st' := []) (M' := M_94) rfl rfl rfl rfl ?_
          refine T_aload_n (v := .ref 373) d_Mo_root_179 rfl (Or.inr ⟨_, rfl⟩) ?_
          refine T_iload_n d_Mo_root_180 rfl ?_
          refine T_bipush (v := nI 53) d_Mo_root_181 (by decide) ?_
          refine T_virtual (as := [.int (nI d), .int (nI 53)]) (rest := []) (b := 373) d_Mo_root_183 rfl (jw_Mo_set.jo (by decide)) lm_Mo_160 ji_Mo_set js_Mo_set hE_94.ob rfl rfl rfl (Nat.le_of_ble_eq_true rfl) (by decide) (by decide) (u_Mo_set hE_94 (by omega) (by decide) vr_94) (fun r M_95 hq => ?_)
          obtain ⟨rfl, E_95, hE_95, vr_95, ke_95, kp_95⟩ := hq
          refine T_eq (pc' := 186) (L' := [(6, .int (nI 0)), (5, .int (nI 1)), (4, .int (nI 0)), (0, .ref 373), (1, .int (nI d)), (2, .int (nI u)), (3, .int (nI w))]) (st' := []) (M' := M_95) rfl rfl rfl rfl ?_
          refine T_iload d_Mo_root_186 rfl ?_
          refine N_if_ne_f (b := 0) d_Mo_root_188 (tgt := 196) rfl (by omega) (by omega) ?_
          refine T_iload d_Mo_root_191 rfl ?_
          refine N_if_eq_f (b := 1) d_Mo_root_193 (tgt := 200) rfl (by omega) (by omega) ?_
          refine T_iconst (v := nI 1) d_Mo_root_196 (by decide) ?_
          refine T_goto (tgt := 201) d_Mo_root_197 rfl ?_
          refine T_ret d_Mo_root_201 rfl (by decide) (by decide) (by decide) ⟨?_, E_95, hE_95, ?_, KE.tr (KE.mono ((KE.tr (KE.tr (KE.tr (KE.tr (KE.tr (KE.tr (KE.tr (KE.tr (KE.tr (KE.tr (KE.tr (KE.tr (KE.tr (KE.tr (KE.tr (KE.tr (KE.tr (KE.tr (KE.rf : KE rtW E E) (KE.mono ke_1 (by decide))) (KE.mono ke_3 (by decide))) (KE.mono ke_4 (by decide))) (KE.mono ke_6 (by decide))) (KE.mono ke_8 (by decide))) (KE.mono ke_9 (by decide))) (KE.mono ke_11 (by decide))) (KE.mono ke_13 (by decide))) (KE.mono ke_14 (by decide))) (KE.mono ke_16 (by decide))) (KE.mono ke_19 (by decide))) (KE.mono ke_21 (by decide))) (KE.mono ke_24 (by decide))) (KE.mono ke_74 (by decide))) (KE.mono ke_77 (by decide))) (KE.mono ke_90 (by decide))) (KE.mono ke_91 (by decide))) (KE.mono ke_94 (by decide)))) (fun q hq => List.mem_cons_of_mem _ hq)) (KE.mono ke_95 (by simp)), (Kp.tr (Kp.tr (Kp.tr (Kp.tr (Kp.tr (Kp.tr (Kp.tr (Kp.tr (Kp.tr (Kp.tr (Kp.tr (Kp.tr (Kp.tr (Kp.tr (Kp.tr (Kp.tr (Kp.tr (Kp.tr (Kp.tr (Kp.rf : Kp [390, 391, 392, 393, 394] M M) (Kp.mono kp_1 (by decide))) (Kp.mono kp_3 (by decide))) (Kp.mono kp_4 (by decide))) (Kp.mono kp_6 (by decide))) (Kp.mono kp_8 (by decide))) (Kp.mono kp_9 (by decide))) (Kp.mono kp_11 (by decide))) (Kp.mono kp_13 (by decide))) (Kp.mono kp_14 (by decide))) (Kp.mono kp_16 (by decide))) (Kp.mono kp_19 (by decide))) (Kp.mono kp_21 (by decide))) (Kp.mono kp_24 (by decide))) (Kp.mono kp_74 (by decide))) (Kp.mono kp_77 (by decide))) (Kp.mono kp_90 (by decide))) (Kp.mono kp_91 (by decide))) (Kp.mono kp_94 (by decide))) (Kp.mono kp_95 (by decide)))⟩
          · unfold rtG; rw [if_pos (Or.inr hb_74)]
          · have hB : rtB U V = rtA U V * cv_2 := by unfold rtB; exact if_pos (Or.inl hb_74)
            unfold rt; rw [hB, if_pos hb_91]; exact vr_95
        · rw [if_neg hb_91]
          refine T_eq (pc' := 167) (L' := [(6, .int (nI 0)), (5, .int (nI 1)), (4, .int (nI 0)), (0, .ref 373), (1, .int (nI d)), (2, .int (nI u)), (3, .int (nI w))]) (st' := [.int (nI 0)]) (M' := M_91) rfl rfl rfl rfl ?_
          refine N_if_eq_t (b := 0) d_Mo_root_167 (tgt := 179) rfl (by omega) (by omega) ?_
          refine T_aload_n (v := .ref 373) d_Mo_root_179 rfl (Or.inr ⟨_, rfl⟩) ?_
          refine T_iload_n d_Mo_root_180 rfl ?_
          refine T_bipush (v := nI 53) d_Mo_root_181 (by decide) ?_
          have r_96 := (ke_91 53 (by decide)).trans (vr_90)
          refine T_virtual (as := [.int (nI d), .int (nI 53)]) (rest := []) (b := 373) d_Mo_root_183 rfl (jw_Mo_set.jo (by decide)) lm_Mo_160 ji_Mo_set js_Mo_set hE_91.ob rfl rfl rfl (Nat.le_of_ble_eq_true rfl) (by decide) (by decide) (u_Mo_set hE_91 (by omega) (by decide) r_96) (fun r M_97 hq => ?_)
          obtain ⟨rfl, E_97, hE_97, vr_97, ke_97, kp_97⟩ := hq
          refine T_eq (pc' := 186) (L' := [(6, .int (nI 0)), (5, .int (nI 1)), (4, .int (nI 0)), (0, .ref 373), (1, .int (nI d)), (2, .int (nI u)), (3, .int (nI w))]) (st' := []) (M' := M_97) rfl rfl rfl rfl ?_
          refine T_iload d_Mo_root_186 rfl ?_
          refine N_if_ne_f (b := 0) d_Mo_root_188 (tgt := 196) rfl (by omega) (by omega) ?_
          refine T_iload d_Mo_root_191 rfl ?_
          refine N_if_eq_f (b := 1) d_Mo_root_193 (tgt := 200) rfl (by omega) (by omega) ?_
          refine T_iconst (v := nI 1) d_Mo_root_196 (by decide) ?_
          refine T_goto (tgt := 201) d_Mo_root_197 rfl ?_
          refine T_ret d_Mo_root_201 rfl (by decide) (by decide) (by decide) ⟨?_, E_97, hE_97, ?_, KE.tr (KE.mono ((KE.tr (KE.tr (KE.tr (KE.tr (KE.tr (KE.tr (KE.tr (KE.tr (KE.tr (KE.tr (KE.tr (KE.tr (KE.tr (KE.tr (KE.tr (KE.tr (KE.tr (KE.rf : KE rtW E E) (KE.mono ke_1 (by decide))) (KE.mono ke_3 (by decide))) (KE.mono ke_4 (by decide))) (KE.mono ke_6 (by decide))) (KE.mono ke_8 (by decide))) (KE.mono ke_9 (by decide))) (KE.mono ke_11 (by decide))) (KE.mono ke_13 (by decide))) (KE.mono ke_14 (by decide))) (KE.mono ke_16 (by decide))) (KE.mono ke_19 (by decide))) (KE.mono ke_21 (by decide))) (KE.mono ke_24 (by decide))) (KE.mono ke_74 (by decide))) (KE.mono ke_77 (by decide))) (KE.mono ke_90 (by decide))) (KE.mono ke_91 (by decide)))) (fun q hq => List.mem_cons_of_mem _ hq)) (KE.mono ke_97 (by simp)), (Kp.tr (Kp.tr (Kp.tr (Kp.tr (Kp.tr (Kp.tr (Kp.tr (Kp.tr (Kp.tr (Kp.tr (Kp.tr (Kp.tr (Kp.tr (Kp.tr (Kp.tr (Kp.tr (Kp.tr (Kp.tr (Kp.rf : Kp [390, 391, 392, 393, 394] M M) (Kp.mono kp_1 (by decide))) (Kp.mono kp_3 (by decide))) (Kp.mono kp_4 (by decide))) (Kp.mono kp_6 (by decide))) (Kp.mono kp_8 (by decide))) (Kp.mono kp_9 (by decide))) (Kp.mono kp_11 (by decide))) (Kp.mono kp_13 (by decide))) (Kp.mono kp_14 (by decide))) (Kp.mono kp_16 (by decide))) (Kp.mono kp_19 (by decide))) (Kp.mono kp_21 (by decide))) (Kp.mono kp_24 (by decide))) (Kp.mono kp_74 (by decide))) (Kp.mono kp_77 (by decide))) (Kp.mono kp_90 (by decide))) (Kp.mono kp_91 (by decide))) (Kp.mono kp_97 (by decide)))⟩
          · unfold rtG; rw [if_pos (Or.inr hb_74)]
          · have hB : rtB U V = rtA U V * cv_2 := by unfold rtB; exact if_pos (Or.inl hb_74)
            unfold rt; rw [hB, if_neg hb_91]; exact vr_97
    · rw [if_neg hb_74]
      refine T_eq (pc' := 130) (L' := [(4, .int (nI 0)), (0, .ref 373), (1, .int (nI d)), (2, .int (nI u)), (3, .int (nI w))]) (st' := [.int (nI 0)]) (M' := M_74) rfl rfl rfl rfl ?_
      refine T_istore (L' := [(5, .int (nI 0)), (4, .int (nI 0)), (0, .ref 373), (1, .int (nI d)), (2, .int (nI u)), (3, .int (nI w))]) d_Mo_root_130 (by decide) rfl ?_
      refine T_aload_n (v := .ref 373) d_Mo_root_132 rfl (Or.inr ⟨_, rfl⟩) ?_
      refine T_bipush (v := nI 54) d_Mo_root_133 (by decide) ?_
      refine T_bipush (v := nI 56) d_Mo_root_135 (by decide) ?_
      have r_98 := (ke_74 54 (by decide)).trans (r_72)
      have r_99 := (ke_74 56 (by decide)).trans ((ke_24 56 (by decide)).trans (vr_21))
      refine T_virtual (as := [.int (nI 54), .int (nI 56)]) (rest := []) (b := 373) d_Mo_root_137 rfl (jw_Mo_same.jo (by decide)) lm_Mo_170 ji_Mo_same js_Mo_same hE_74.ob rfl rfl rfl (Nat.le_of_ble_eq_true rfl) (by decide) (by decide) (u_Mo_same hE_74 (by decide) (by decide) r_98 r_99) (fun r M_100 hq => ?_)
      obtain ⟨rfl, E_100, hE_100, ke_100, kp_100⟩ := hq
      rw [show ((rtC U V) - (-(U * cv_2))) = (rtC U V + U * cv_2) from (by omega)]
      by_cases hb_100 : (rtC U V + U * cv_2) % pP = 0
      · rw [if_pos hb_100]
        refine T_eq (pc' := 140) (L' := [(5, .int (nI 0)), (4, .int (nI 0)), (0, .ref 373), (1, .int (nI d)), (2, .int (nI u)), (3, .int (nI w))]) (st' := [.int (nI 1)]) (M' := M_100) rfl rfl rfl rfl ?_
        refine T_istore (L' := [(6, .int (nI 1)), (5, .int (nI 0)), (4, .int (nI 0)), (0, .ref 373), (1, .int (nI d)), (2, .int (nI u)), (3, .int (nI w))]) d_Mo_root_140 (by decide) rfl ?_
        refine T_iload d_Mo_root_142 rfl ?_
        refine N_if_ne_f (b := 0) d_Mo_root_144 (tgt := 152) rfl (by omega) (by omega) ?_
        refine T_iload d_Mo_root_147 rfl ?_
        refine N_if_eq_f (b := 1) d_Mo_root_149 (tgt := 161) rfl (by omega) (by omega) ?_
        refine T_aload_n (v := .ref 373) d_Mo_root_152 rfl (Or.inr ⟨_, rfl⟩) ?_
        refine T_bipush (v := nI 53) d_Mo_root_153 (by decide) ?_
        refine T_bipush (v := nI 53) d_Mo_root_155 (by decide) ?_
        refine T_iconst (v := nI 3) d_Mo_root_157 (by decide) ?_
        have r_101 := (ke_100 53 (by decide)).trans ((ke_74 53 (by decide)).trans ((ke_24 53 (by decide)).trans ((ke_21 53 (by decide)).trans ((ke_19 53 (by decide)).trans ((ke_16 53 (by decide)).trans ((ke_14 53 (by decide)).trans (vr_13)))))))
        have r_102 := (ke_100 3 (by decide)).trans ((ke_74 3 (by decide)).trans ((ke_24 3 (by decide)).trans ((ke_21 3 (by decide)).trans (r_20))))
        refine T_virtual (as := [.int (nI 53), .int (nI 53), .int (nI 3)]) (rest := []) (b := 373) d_Mo_root_158 rfl (jw_Mo_mul.jo (by decide)) lm_Mo_163 ji_Mo_mul js_Mo_mul hE_100.ob rfl rfl rfl (Nat.le_of_ble_eq_true rfl) (by decide) (by decide) (u_Mo_mul hE_100 (by decide) (by decide) (by decide) r_101 r_102) (fun r M_103 hq => ?_)
        obtain ⟨rfl, E_103, hE_103, vr_103, ke_103, kp_103⟩ := hq
        replace vr_103 : E_103 53 = (rtA U V * cv_2) := vr_103.trans (by rw [cI_v])
        refine T_eq (pc' := 161) (L' := [(6, .int (nI 1)), (5, .int (nI 0)), (4, .int (nI 0)), (0, .ref 373), (1, .int (nI d)), (2, .int (nI u)), (3, .int (nI w))]) (st' := []) (M' := M_103) rfl rfl rfl rfl ?_
        refine T_aload_n (v := .ref 373) d_Mo_root_161 rfl (Or.inr ⟨_, rfl⟩) ?_
        refine T_bipush (v := nI 53) d_Mo_root_162 (by decide) ?_
        refine T_virtual (as := [.int (nI 53)]) (rest := []) (b := 373) d_Mo_root_164 rfl (jw_Mo_odd.jo (by decide)) lm_Mo_174 ji_Mo_odd js_Mo_odd hE_103.ob rfl rfl rfl (Nat.le_of_ble_eq_true rfl) (by decide) (by decide) (u_Mo_odd hE_103 (by decide) vr_103) (fun r M_104 hq => ?_)
        obtain ⟨rfl, pk_104, E_104, hE_104, ke_104, kp_104⟩ := hq
        by_cases hb_104 : ((rtA U V * cv_2) % pP) % 2 = 1
        · rw [if_pos hb_104]
          refine T_eq (pc' := 167) (L' := [(6, .int (nI 1)), (5, .int (nI 0)), (4, .int (nI 0)), (0, .ref 373), (1, .int (nI d)), (2, .int (nI u)), (3, .int (nI w))]) (st' := [.int (nI 1)]) (M' := M_104) rfl rfl rfl rfl ?_
          refine N_if_eq_f (b := 1) d_Mo_root_167 (tgt := 179) rfl (by omega) (by omega) ?_
          refine T_aload_n (v := .ref 373) d_Mo_root_170 rfl (Or.inr ⟨_, rfl⟩) ?_
          refine T_bipush (v := nI 53) d_Mo_root_171 (by decide) ?_
          refine T_iconst (v := nI 0) d_Mo_root_173 (by decide) ?_
          refine T_bipush (v := nI 53) d_Mo_root_174 (by decide) ?_
          have r_105 := (ke_104 0 (by decide)).trans ((ke_103 0 (by decide)).trans ((ke_100 0 (by decide)).trans ((ke_74 0 (by decide)).trans ((ke_24 0 (by decide)).trans ((ke_21 0 (by decide)).trans ((ke_19 0 (by decide)).trans (r_17)))))))
          have r_106 := (ke_104 53 (by decide)).trans (vr_103)
          refine T_virtual (as := [.int (nI 53), .int (nI 0), .int (nI 53)]) (rest := []) (b := 373) d_Mo_root_176 rfl (jw_Mo_sub.jo (by decide)) lm_Mo_152 ji_Mo_sub js_Mo_sub hE_104.ob rfl rfl rfl (Nat.le_of_ble_eq_true rfl) (by decide) (by decide) (u_Mo_sub hE_104 (by decide) (by decide) (by decide) r_105 r_106) (fun r M_107 hq => ?_)
          obtain ⟨rfl, E_107, hE_107, vr_107, ke_107, kp_107⟩ := hq
          replace vr_107 : E_107 53 = (-(rtA U V * cv_2)) := vr_107.trans (Int.zero_sub _)
          refine T_eq (pc' := 179) (L' := [(6, .int (nI 1)), (5, .int (nI 0)), (4, .int (nI 0)), (0, .ref 373), (1, .int (nI d)), (2, .int (nI u)), (3, .int (nI w))]) (st' := []) (M' := M_107) rfl rfl rfl rfl ?_
          refine T_aload_n (v := .ref 373) d_Mo_root_179 rfl (Or.inr ⟨_, rfl⟩) ?_
          refine T_iload_n d_Mo_root_180 rfl ?_
          refine T_bipush (v := nI 53) d_Mo_root_181 (by decide) ?_
          refine T_virtual (as := [.int (nI d), .int (nI 53)]) (rest := []) (b := 373) d_Mo_root_183 rfl (jw_Mo_set.jo (by decide)) lm_Mo_160 ji_Mo_set js_Mo_set hE_107.ob rfl rfl rfl (Nat.le_of_ble_eq_true rfl) (by decide) (by decide) (u_Mo_set hE_107 (by omega) (by decide) vr_107) (fun r M_108 hq => ?_)
          obtain ⟨rfl, E_108, hE_108, vr_108, ke_108, kp_108⟩ := hq
          refine T_eq (pc' := 186) (L' := [(6, .int (nI 1)), (5, .int (nI 0)), (4, .int (nI 0)), (0, .ref 373), (1, .int (nI d)), (2, .int (nI u)), (3, .int (nI w))]) (st' := []) (M' := M_108) rfl rfl rfl rfl ?_
          refine T_iload d_Mo_root_186 rfl ?_
          refine N_if_ne_f (b := 0) d_Mo_root_188 (tgt := 196) rfl (by omega) (by omega) ?_
          refine T_iload d_Mo_root_191 rfl ?_
          refine N_if_eq_t (b := 0) d_Mo_root_193 (tgt := 200) rfl (by omega) (by omega) ?_
          refine T_iconst (v := nI 0) d_Mo_root_200 (by decide) ?_
          refine T_ret d_Mo_root_201 rfl (by decide) (by decide) (by decide) ⟨?_, E_108, hE_108, ?_, KE.tr (KE.mono ((KE.tr (KE.tr (KE.tr (KE.tr (KE.tr (KE.tr (KE.tr (KE.tr (KE.tr (KE.tr (KE.tr (KE.tr (KE.tr (KE.tr (KE.tr (KE.tr (KE.tr (KE.tr (KE.rf : KE rtW E E) (KE.mono ke_1 (by decide))) (KE.mono ke_3 (by decide))) (KE.mono ke_4 (by decide))) (KE.mono ke_6 (by decide))) (KE.mono ke_8 (by decide))) (KE.mono ke_9 (by decide))) (KE.mono ke_11 (by decide))) (KE.mono ke_13 (by decide))) (KE.mono ke_14 (by decide))) (KE.mono ke_16 (by decide))) (KE.mono ke_19 (by decide))) (KE.mono ke_21 (by decide))) (KE.mono ke_24 (by decide))) (KE.mono ke_74 (by decide))) (KE.mono ke_100 (by decide))) (KE.mono ke_103 (by decide))) (KE.mono ke_104 (by decide))) (KE.mono ke_107 (by decide)))) (fun q hq => List.mem_cons_of_mem _ hq)) (KE.mono ke_108 (by simp)), (Kp.tr (Kp.tr (Kp.tr (Kp.tr (Kp.tr (Kp.tr (Kp.tr (Kp.tr (Kp.tr (Kp.tr (Kp.tr (Kp.tr (Kp.tr (Kp.tr (Kp.tr (Kp.tr (Kp.tr (Kp.tr (Kp.tr (Kp.rf : Kp [390, 391, 392, 393, 394] M M) (Kp.mono kp_1 (by decide))) (Kp.mono kp_3 (by decide))) (Kp.mono kp_4 (by decide))) (Kp.mono kp_6 (by decide))) (Kp.mono kp_8 (by decide))) (Kp.mono kp_9 (by decide))) (Kp.mono kp_11 (by decide))) (Kp.mono kp_13 (by decide))) (Kp.mono kp_14 (by decide))) (Kp.mono kp_16 (by decide))) (Kp.mono kp_19 (by decide))) (Kp.mono kp_21 (by decide))) (Kp.mono kp_24 (by decide))) (Kp.mono kp_74 (by decide))) (Kp.mono kp_100 (by decide))) (Kp.mono kp_103 (by decide))) (Kp.mono kp_104 (by decide))) (Kp.mono kp_107 (by decide))) (Kp.mono kp_108 (by decide)))⟩
          · unfold rtG; rw [if_neg (fun c => c.elim hb_24 hb_74)]
          · have hB : rtB U V = rtA U V * cv_2 := by unfold rtB; exact if_pos (Or.inr hb_100)
            unfold rt; rw [hB, if_pos hb_104]; exact vr_108
        · rw [if_neg hb_104]
          refine T_eq (pc' := 167) (L' := [(6, .int (nI 1)), (5, .int (nI 0)), (4, .int (nI 0)), (0, .ref 373), (1, .int (nI d)), (2, .int (nI u)), (3, .int (nI w))]) (st' := [.int (nI 0)]) (M' := M_104) rfl rfl rfl rfl ?_
          refine N_if_eq_t (b := 0) d_Mo_root_167 (tgt := 179) rfl (by omega) (by omega) ?_
          refine T_aload_n (v := .ref 373) d_Mo_root_179 rfl (Or.inr ⟨_, rfl⟩) ?_
          refine T_iload_n d_Mo_root_180 rfl ?_
          refine T_bipush (v := nI 53) d_Mo_root_181 (by decide) ?_
          have r_109 := (ke_104 53 (by decide)).trans (vr_103)
          refine T_virtual (as := [.int (nI d), .int (nI 53)]) (rest := []) (b := 373) d_Mo_root_183 rfl (jw_Mo_set.jo (by decide)) lm_Mo_160 ji_Mo_set js_Mo_set hE_104.ob rfl rfl rfl (Nat.le_of_ble_eq_true rfl) (by decide) (by decide) (u_Mo_set hE_104 (by omega) (by decide) r_109) (fun r M_110 hq => ?_)
          obtain ⟨rfl, E_110, hE_110, vr_110, ke_110, kp_110⟩ := hq
          refine T_eq (pc' := 186) (L' := [(6, .int (nI 1)), (5, .int (nI 0)), (4, .int (nI 0)), (0, .ref 373), (1, .int (nI d)), (2, .int (nI u)), (3, .int (nI w))]) (st' := []) (M' := M_110) rfl rfl rfl rfl ?_
          refine T_iload d_Mo_root_186 rfl ?_
          refine N_if_ne_f (b := 0) d_Mo_root_188 (tgt := 196) rfl (by omega) (by omega) ?_
          refine T_iload d_Mo_root_191 rfl ?_
          refine N_if_eq_t (b := 0) d_Mo_root_193 (tgt := 200) rfl (by omega) (by omega) ?_
          refine T_iconst (v := nI 0) d_Mo_root_200 (by decide) ?_
          refine T_ret d_Mo_root_201 rfl (by decide) (by decide) (by decide) ⟨?_, E_110, hE_110, ?_, KE.tr (KE.mono ((KE.tr (KE.tr (KE.tr (KE.tr (KE.tr (KE.tr (KE.tr (KE.tr (KE.tr (KE.tr (KE.tr (KE.tr (KE.tr (KE.tr (KE.tr (KE.tr (KE.tr (KE.rf : KE rtW E E) (KE.mono ke_1 (by decide))) (KE.mono ke_3 (by decide))) (KE.mono ke_4 (by decide))) (KE.mono ke_6 (by decide))) (KE.mono ke_8 (by decide))) (KE.mono ke_9 (by decide))) (KE.mono ke_11 (by decide))) (KE.mono ke_13 (by decide))) (KE.mono ke_14 (by decide))) (KE.mono ke_16 (by decide))) (KE.mono ke_19 (by decide))) (KE.mono ke_21 (by decide))) (KE.mono ke_24 (by decide))) (KE.mono ke_74 (by decide))) (KE.mono ke_100 (by decide))) (KE.mono ke_103 (by decide))) (KE.mono ke_104 (by decide)))) (fun q hq => List.mem_cons_of_mem _ hq)) (KE.mono ke_110 (by simp)), (Kp.tr (Kp.tr (Kp.tr (Kp.tr (Kp.tr (Kp.tr (Kp.tr (Kp.tr (Kp.tr (Kp.tr (Kp.tr (Kp.tr (Kp.tr (Kp.tr (Kp.tr (Kp.tr (Kp.tr (Kp.tr (Kp.rf : Kp [390, 391, 392, 393, 394] M M) (Kp.mono kp_1 (by decide))) (Kp.mono kp_3 (by decide))) (Kp.mono kp_4 (by decide))) (Kp.mono kp_6 (by decide))) (Kp.mono kp_8 (by decide))) (Kp.mono kp_9 (by decide))) (Kp.mono kp_11 (by decide))) (Kp.mono kp_13 (by decide))) (Kp.mono kp_14 (by decide))) (Kp.mono kp_16 (by decide))) (Kp.mono kp_19 (by decide))) (Kp.mono kp_21 (by decide))) (Kp.mono kp_24 (by decide))) (Kp.mono kp_74 (by decide))) (Kp.mono kp_100 (by decide))) (Kp.mono kp_103 (by decide))) (Kp.mono kp_104 (by decide))) (Kp.mono kp_110 (by decide)))⟩
          · unfold rtG; rw [if_neg (fun c => c.elim hb_24 hb_74)]
          · have hB : rtB U V = rtA U V * cv_2 := by unfold rtB; exact if_pos (Or.inr hb_100)
            unfold rt; rw [hB, if_neg hb_104]; exact vr_110
      · rw [if_neg hb_100]
        refine T_eq (pc' := 140) (L' := [(5, .int (nI 0)), (4, .int (nI 0)), (0, .ref 373), (1, .int (nI d)), (2, .int (nI u)), (3, .int (nI w))]) (st' := [.int (nI 0)]) (M' := M_100) rfl rfl rfl rfl ?_
        refine T_istore (L' := [(6, .int (nI 0)), (5, .int (nI 0)), (4, .int (nI 0)), (0, .ref 373), (1, .int (nI d)), (2, .int (nI u)), (3, .int (nI w))]) d_Mo_root_140 (by decide) rfl ?_
        refine T_iload d_Mo_root_142 rfl ?_
        refine N_if_ne_f (b := 0) d_Mo_root_144 (tgt := 152) rfl (by omega) (by omega) ?_
        refine T_iload d_Mo_root_147 rfl ?_
        refine N_if_eq_t (b := 0) d_Mo_root_149 (tgt := 161) rfl (by omega) (by omega) ?_
        refine T_aload_n (v := .ref 373) d_Mo_root_161 rfl (Or.inr ⟨_, rfl⟩) ?_
        refine T_bipush (v := nI 53) d_Mo_root_162 (by decide) ?_
        have r_111 := (ke_100 53 (by decide)).trans ((ke_74 53 (by decide)).trans ((ke_24 53 (by decide)).trans ((ke_21 53 (by decide)).trans ((ke_19 53 (by decide)).trans ((ke_16 53 (by decide)).trans ((ke_14 53 (by decide)).trans (vr_13)))))))
        refine T_virtual (as := [.int (nI 53)]) (rest := []) (b := 373) d_Mo_root_164 rfl (jw_Mo_odd.jo (by decide)) lm_Mo_174 ji_Mo_odd js_Mo_odd hE_100.ob rfl rfl rfl (Nat.le_of_ble_eq_true rfl) (by decide) (by decide) (u_Mo_odd hE_100 (by decide) r_111) (fun r M_112 hq => ?_)
        obtain ⟨rfl, pk_112, E_112, hE_112, ke_112, kp_112⟩ := hq
        by_cases hb_112 : ((rtA U V) % pP) % 2 = 1
        · rw [if_pos hb_112]
          refine T_eq (pc' := 167) (L' := [(6, .int (nI 0)), (5, .int (nI 0)), (4, .int (nI 0)), (0, .ref 373), (1, .int (nI d)), (2, .int (nI u)), (3, .int (nI w))]) (st' := [.int (nI 1)]) (M' := M_112) rfl rfl rfl rfl ?_
          refine N_if_eq_f (b := 1) d_Mo_root_167 (tgt := 179) rfl (by omega) (by omega) ?_
          refine T_aload_n (v := .ref 373) d_Mo_root_170 rfl (Or.inr ⟨_, rfl⟩) ?_
          refine T_bipush (v := nI 53) d_Mo_root_171 (by decide) ?_
          refine T_iconst (v := nI 0) d_Mo_root_173 (by decide) ?_
          refine T_bipush (v := nI 53) d_Mo_root_174 (by decide) ?_
          have r_113 := (ke_112 0 (by decide)).trans ((ke_100 0 (by decide)).trans ((ke_74 0 (by decide)).trans ((ke_24 0 (by decide)).trans ((ke_21 0 (by decide)).trans ((ke_19 0 (by decide)).trans (r_17))))))
          have r_114 := (ke_112 53 (by decide)).trans (r_111)
          refine T_virtual (as := [.int (nI 53), .int (nI 0), .int (nI 53)]) (rest := []) (b := 373) d_Mo_root_176 rfl (jw_Mo_sub.jo (by decide)) lm_Mo_152 ji_Mo_sub js_Mo_sub hE_112.ob rfl rfl rfl (Nat.le_of_ble_eq_true rfl) (by decide) (by decide) (u_Mo_sub hE_112 (by decide) (by decide) (by decide) r_113 r_114) (fun r M_115 hq => ?_)
          obtain ⟨rfl, E_115, hE_115, vr_115, ke_115, kp_115⟩ := hq
          replace vr_115 : E_115 53 = (-(rtA U V)) := vr_115.trans (Int.zero_sub _)
          refine T_eq (pc' := 179) (L' := [(6, .int (nI 0)), (5, .int (nI 0)), (4, .int (nI 0)), (0, .ref 373), (1, .int (nI d)), (2, .int (nI u)), (3, .int (nI w))]) (st' := []) (M' := M_115) rfl rfl rfl rfl ?_
          refine T_aload_n (v := .ref 373) d_Mo_root_179 rfl (Or.inr ⟨_, rfl⟩) ?_
          refine T_iload_n d_Mo_root_180 rfl ?_
          refine T_bipush (v := nI 53) d_Mo_root_181 (by decide) ?_
          refine T_virtual (as := [.int (nI d), .int (nI 53)]) (rest := []) (b := 373) d_Mo_root_183 rfl (jw_Mo_set.jo (by decide)) lm_Mo_160 ji_Mo_set js_Mo_set hE_115.ob rfl rfl rfl (Nat.le_of_ble_eq_true rfl) (by decide) (by decide) (u_Mo_set hE_115 (by omega) (by decide) vr_115) (fun r M_116 hq => ?_)
          obtain ⟨rfl, E_116, hE_116, vr_116, ke_116, kp_116⟩ := hq
          refine T_eq (pc' := 186) (L' := [(6, .int (nI 0)), (5, .int (nI 0)), (4, .int (nI 0)), (0, .ref 373), (1, .int (nI d)), (2, .int (nI u)), (3, .int (nI w))]) (st' := []) (M' := M_116) rfl rfl rfl rfl ?_
          refine T_iload d_Mo_root_186 rfl ?_
          refine N_if_ne_f (b := 0) d_Mo_root_188 (tgt := 196) rfl (by omega) (by omega) ?_
          refine T_iload d_Mo_root_191 rfl ?_
          refine N_if_eq_t (b := 0) d_Mo_root_193 (tgt := 200) rfl (by omega) (by omega) ?_
          refine T_iconst (v := nI 0) d_Mo_root_200 (by decide) ?_
          refine T_ret d_Mo_root_201 rfl (by decide) (by decide) (by decide) ⟨?_, E_116, hE_116, ?_, KE.tr (KE.mono ((KE.tr (KE.tr (KE.tr (KE.tr (KE.tr (KE.tr (KE.tr (KE.tr (KE.tr (KE.tr (KE.tr (KE.tr (KE.tr (KE.tr (KE.tr (KE.tr (KE.tr (KE.rf : KE rtW E E) (KE.mono ke_1 (by decide))) (KE.mono ke_3 (by decide))) (KE.mono ke_4 (by decide))) (KE.mono ke_6 (by decide))) (KE.mono ke_8 (by decide))) (KE.mono ke_9 (by decide))) (KE.mono ke_11 (by decide))) (KE.mono ke_13 (by decide))) (KE.mono ke_14 (by decide))) (KE.mono ke_16 (by decide))) (KE.mono ke_19 (by decide))) (KE.mono ke_21 (by decide))) (KE.mono ke_24 (by decide))) (KE.mono ke_74 (by decide))) (KE.mono ke_100 (by decide))) (KE.mono ke_112 (by decide))) (KE.mono ke_115 (by decide)))) (fun q hq => List.mem_cons_of_mem _ hq)) (KE.mono ke_116 (by simp)), (Kp.tr (Kp.tr (Kp.tr (Kp.tr (Kp.tr (Kp.tr (Kp.tr (Kp.tr (Kp.tr (Kp.tr (Kp.tr (Kp.tr (Kp.tr (Kp.tr (Kp.tr (Kp.tr (Kp.tr (Kp.tr (Kp.rf : Kp [390, 391, 392, 393, 394] M M) (Kp.mono kp_1 (by decide))) (Kp.mono kp_3 (by decide))) (Kp.mono kp_4 (by decide))) (Kp.mono kp_6 (by decide))) (Kp.mono kp_8 (by decide))) (Kp.mono kp_9 (by decide))) (Kp.mono kp_11 (by decide))) (Kp.mono kp_13 (by decide))) (Kp.mono kp_14 (by decide))) (Kp.mono kp_16 (by decide))) (Kp.mono kp_19 (by decide))) (Kp.mono kp_21 (by decide))) (Kp.mono kp_24 (by decide))) (Kp.mono kp_74 (by decide))) (Kp.mono kp_100 (by decide))) (Kp.mono kp_112 (by decide))) (Kp.mono kp_115 (by decide))) (Kp.mono kp_116 (by decide)))⟩
          · unfold rtG; rw [if_neg (fun c => c.elim hb_24 hb_74)]
          · have hB : rtB U V = rtA U V := by unfold rtB; exact if_neg (fun c => c.elim hb_74 hb_100)
            unfold rt; rw [hB, if_pos hb_112]; exact vr_116
        · rw [if_neg hb_112]
          refine T_eq (pc' := 167) (L' := [(6, .int (nI 0)), (5, .int (nI 0)), (4, .int (nI 0)), (0, .ref 373), (1, .int (nI d)), (2, .int (nI u)), (3, .int (nI w))]) (st' := [.int (nI 0)]) (M' := M_112) rfl rfl rfl rfl ?_
          refine N_if_eq_t (b := 0) d_Mo_root_167 (tgt := 179) rfl (by omega) (by omega) ?_
          refine T_aload_n (v := .ref 373) d_Mo_root_179 rfl (Or.inr ⟨_, rfl⟩) ?_
          refine T_iload_n d_Mo_root_180 rfl ?_
          refine T_bipush (v := nI 53) d_Mo_root_181 (by decide) ?_
          have r_117 := (ke_112 53 (by decide)).trans (r_111)
          refine T_virtual (as := [.int (nI d), .int (nI 53)]) (rest := []) (b := 373) d_Mo_root_183 rfl (jw_Mo_set.jo (by decide)) lm_Mo_160 ji_Mo_set js_Mo_set hE_112.ob rfl rfl rfl (Nat.le_of_ble_eq_true rfl) (by decide) (by decide) (u_Mo_set hE_112 (by omega) (by decide) r_117) (fun r M_118 hq => ?_)
          obtain ⟨rfl, E_118, hE_118, vr_118, ke_118, kp_118⟩ := hq
          refine T_eq (pc' := 186) (L' := [(6, .int (nI 0)), (5, .int (nI 0)), (4, .int (nI 0)), (0, .ref 373), (1, .int (nI d)), (2, .int (nI u)), (3, .int (nI w))]) (st' := []) (M' := M_118) rfl rfl rfl rfl ?_
          refine T_iload d_Mo_root_186 rfl ?_
          refine N_if_ne_f (b := 0) d_Mo_root_188 (tgt := 196) rfl (by omega) (by omega) ?_
          refine T_iload d_Mo_root_191 rfl ?_
          refine N_if_eq_t (b := 0) d_Mo_root_193 (tgt := 200) rfl (by omega) (by omega) ?_
          refine T_iconst (v := nI 0) d_Mo_root_200 (by decide) ?_
          refine T_ret d_Mo_root_201 rfl (by decide) (by decide) (by decide) ⟨?_, E_118, hE_118, ?_, KE.tr (KE.mono ((KE.tr (KE.tr (KE.tr (KE.tr (KE.tr (KE.tr (KE.tr (KE.tr (KE.tr (KE.tr (KE.tr (KE.tr (KE.tr (KE.tr (KE.tr (KE.tr (KE.rf : KE rtW E E) (KE.mono ke_1 (by decide))) (KE.mono ke_3 (by decide))) (KE.mono ke_4 (by decide))) (KE.mono ke_6 (by decide))) (KE.mono ke_8 (by decide))) (KE.mono ke_9 (by decide))) (KE.mono ke_11 (by decide))) (KE.mono ke_13 (by decide))) (KE.mono ke_14 (by decide))) (KE.mono ke_16 (by decide))) (KE.mono ke_19 (by decide))) (KE.mono ke_21 (by decide))) (KE.mono ke_24 (by decide))) (KE.mono ke_74 (by decide))) (KE.mono ke_100 (by decide))) (KE.mono ke_112 (by decide)))) (fun q hq => List.mem_cons_of_mem _ hq)) (KE.mono ke_118 (by simp)), (Kp.tr (Kp.tr (Kp.tr (Kp.tr (Kp.tr (Kp.tr (Kp.tr (Kp.tr (Kp.tr (Kp.tr (Kp.tr (Kp.tr (Kp.tr (Kp.tr (Kp.tr (Kp.tr (Kp.tr (Kp.rf : Kp [390, 391, 392, 393, 394] M M) (Kp.mono kp_1 (by decide))) (Kp.mono kp_3 (by decide))) (Kp.mono kp_4 (by decide))) (Kp.mono kp_6 (by decide))) (Kp.mono kp_8 (by decide))) (Kp.mono kp_9 (by decide))) (Kp.mono kp_11 (by decide))) (Kp.mono kp_13 (by decide))) (Kp.mono kp_14 (by decide))) (Kp.mono kp_16 (by decide))) (Kp.mono kp_19 (by decide))) (Kp.mono kp_21 (by decide))) (Kp.mono kp_24 (by decide))) (Kp.mono kp_74 (by decide))) (Kp.mono kp_100 (by decide))) (Kp.mono kp_112 (by decide))) (Kp.mono kp_118 (by decide)))⟩
          · unfold rtG; rw [if_neg (fun c => c.elim hb_24 hb_74)]
          · have hB : rtB U V = rtA U V := by unfold rtB; exact if_neg (fun c => c.elim hb_74 hb_100)
            unfold rt; rw [hB, if_neg hb_112]; exact vr_118
