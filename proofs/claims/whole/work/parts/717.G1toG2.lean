def exO : va_E := .inr (9, [.ref 218, .ref 219, .ref 220, .ref 221, .ref 223, .ref 225, .ref 227, .ref 228, .ref 229, .ref 230])
def EO (M : List va_E) (q : Nat) : Prop := M[q]? = some exO
theorem EO.kp {M M' : List va_E} {W : List Nat} {q : Nat} (h : EO M q) (s : Kp W M M') (hn : q ∉ W) : EO M' q := (s _ hn).trans h
def elk (l s : List UInt8) (a b : Nat) : Prop := ∀ i, i < l.length - a → gd l (a + i) = gd s (b + i)
def elB (l s : List UInt8) (a b : Nat) : Bool := (List.range (l.length - a)).all fun i => gd l (a + i) == gd s (b + i)
theorem elB_k {l s : List UInt8} {a b : Nat} : elB l s a b = true ↔ elk l s a b := by
  unfold elB elk
  rw [List.all_eq_true]
  constructor
  · intro h i hi; exact eq_of_beq (h i (List.mem_range.mpr hi))
  · intro h i hi; exact beq_iff_eq.mpr (h i (List.mem_range.mp hi))
set_option maxHeartbeats 8000000 in
theorem el_lp (G : GX) {M0 : List va_E} {q d n p m a b : Nat} {l s : List UInt8} (hq : BY M0 q d n l) (hp : BA M0 p m s) (ha : a ≤ l.length) (hb : b + (l.length - a) ≤ s.length) (hn : n < 2 ^ 30) (hm : m < 2 ^ 30) {Q : Option Value → List va_E → Prop} (kk : ∀ z : Int32, (z = 0 ↔ elk l s a b) → TT G mi_By_endsLike 65 [(4, .int z), (0, .ref q), (1, .int (nI a)), (2, .ref p), (3, .int (nI b))] [] M0 0 0 Q) : ∀ j k (z : Int32), k + j = l.length → a ≤ k → (z = 0 ↔ ∀ i, i < k - a → gd l (a + i) = gd s (b + i)) → TT G mi_By_endsLike 29 [(5, .int (nI k)), (4, .int z), (0, .ref q), (1, .int (nI a)), (2, .ref p), (3, .int (nI b))] [] M0 0 0 Q := by
  intro j
  induction j with
  | zero =>
    intro k z hk hka hz
    obtain rfl : l.length = k := by omega
    have hle := hq.2.le
    refine T_iload d_By_endsLike_29 rfl ?_
    refine T_aload_n (v := .ref q) d_By_endsLike_31 rfl (Or.inr ⟨_, rfl⟩) ?_
    refine T_getfield (v := .int (nI (l.length))) d_By_endsLike_32 fg_By_13 hq.1 rfl ?_
    refine N_icmp_ge_t (a := l.length) (b := l.length) d_By_endsLike_35 (tgt := 65) rfl (by omega) (by omega) (by omega) ?_
    exact T_sub (fun q hq => List.mem_cons_of_mem _ hq) (kk z hz)
  | succ j ih =>
    intro k z hk hka hz
    have hle := hq.2.le
    have hle2 := hp.le
    refine T_iload d_By_endsLike_29 rfl ?_
    refine T_aload_n (v := .ref q) d_By_endsLike_31 rfl (Or.inr ⟨_, rfl⟩) ?_
    refine T_getfield (v := .int (nI (l.length))) d_By_endsLike_32 fg_By_13 hq.1 rfl ?_
    refine N_icmp_ge_f (a := l.length) (b := k) d_By_endsLike_35 (tgt := 65) rfl (by omega) (by omega) (by omega) ?_
    refine T_iload d_By_endsLike_38 rfl ?_
    refine T_aload_n (v := .ref q) d_By_endsLike_40 rfl (Or.inr ⟨_, rfl⟩) ?_
    refine T_getfield (v := .ref d) d_By_endsLike_41 fg_By_7 hq.1 rfl ?_
    refine T_iload d_By_endsLike_44 rfl ?_
    obtain ⟨f_1, hf_2, hl_3, hv_4⟩ := id hq.2
    refine N_baload (k := k) (x := (cB (gd l k))) d_By_endsLike_46 hf_2 (by omega) (by omega) (hv_4 k (by first | omega | (simp only [List.length_append, List.length_cons, List.length_nil, List.length_replicate, sl_len, be_len, sha_len]; omega))) ?_
    refine T_aload_n (v := .ref p) d_By_endsLike_47 rfl (Or.inr ⟨_, rfl⟩) ?_
    refine T_iload_n d_By_endsLike_48 rfl ?_
    refine T_iload d_By_endsLike_49 rfl ?_
    refine N_iadd (a := k) (b := b) (c := (b + k)) d_By_endsLike_51 rfl ?_
    refine T_iload_n d_By_endsLike_52 rfl ?_
    refine N_isub (a := a) (b := (b + k)) (c := ((b + k) - a)) d_By_endsLike_53 (by omega) rfl ?_
    obtain ⟨f_5, hf_6, hl_7, hv_8⟩ := id hp
    refine N_baload (k := ((b + k) - a)) (x := (cB (gd s ((b + k) - a)))) d_By_endsLike_54 hf_6 (by omega) (by omega) (hv_8 ((b + k) - a) (by first | omega | (simp only [List.length_append, List.length_cons, List.length_nil, List.length_replicate, sl_len, be_len, sha_len]; omega))) ?_
    refine T_ixor d_By_endsLike_55 ?_
    refine T_ior d_By_endsLike_56 ?_
    refine T_istore (L' := [(4, .int (z ||| ((cB (gd l k)) ^^^ (cB (gd s ((b + k) - a)))))), (5, .int (nI k)), (0, .ref q), (1, .int (nI a)), (2, .ref p), (3, .int (nI b))]) d_By_endsLike_57 (by decide) rfl ?_
    refine N_iinc (k := k) (m := 1) (c := (k + 1)) (L' := [(5, .int (nI ((k + 1)))), (4, .int (z ||| ((cB (gd l k)) ^^^ (cB (gd s ((b + k) - a)))))), (0, .ref q), (1, .int (nI a)), (2, .ref p), (3, .int (nI b))]) d_By_endsLike_59 (by decide) rfl (by decide) rfl rfl ?_
    refine T_goto (tgt := 29) d_By_endsLike_62 rfl ?_
    refine T_sub (L' := [(5, .int (nI ((k + 1)))), (4, .int (z ||| ((cB (gd l k)) ^^^ (cB (gd s ((b + k) - a)))))), (0, .ref q), (1, .int (nI a)), (2, .ref p), (3, .int (nI b))]) (fun q hq => hq) (ih (k + 1) _ (by omega) (by omega) ?_)
    rw [or32, hz, cB_in, show k + 1 - a = (k - a) + 1 by omega]
    have e1 : a + (k - a) = k := by omega
    have e2 : b + k - a = b + (k - a) := by omega
    rw [e2]
    constructor
    · rintro ⟨h1, h2⟩ i hi
      by_cases c : i = k - a
      · rw [c, e1]; exact h2
      · exact h1 i (by omega)
    · intro h; exact ⟨fun i hi => h i (by omega), by have := h (k - a) (by omega); rw [e1] at this; exact this⟩
set_option maxHeartbeats 8000000 in
theorem y_By_endsLike {G : GX} {M : List va_E} {q d n p m a b : Nat} {l s : List UInt8} (hq : BY M q d n l) (hp : BA M p m s) (ha : a ≤ l.length) (hb : b + (l.length - a) ≤ s.length) (hn : n < 2 ^ 30) (hm : m < 2 ^ 30) (k_p : K0 ≤ p) : CT G mi_By_endsLike [.ref q, .int (nI a), .ref p, .int (nI b)] M (fun r M' => r = some (.int (nI (if elB l s a b then 1 else 0))) ∧ M' = M) := by
  have hle := hq.2.le
  have hle2 := hp.le
  refine CT.of (by decide) (Nat.le_of_ble_eq_true rfl) ?_
  show TT G mi_By_endsLike 0 [(0, .ref q), (1, .int (nI a)), (2, .ref p), (3, .int (nI b))] [] M 0 0 _
  refine T_iload_n d_By_endsLike_0 rfl ?_
  refine N_if_lt_f (b := a) d_By_endsLike_1 (tgt := 21) rfl (by omega) (by omega) ?_
  refine T_iload_n d_By_endsLike_4 rfl ?_
  refine N_if_lt_f (b := b) d_By_endsLike_5 (tgt := 21) rfl (by omega) (by omega) ?_
  refine T_iload_n d_By_endsLike_8 rfl ?_
  refine T_aload_n (v := .ref q) d_By_endsLike_9 rfl (Or.inr ⟨_, rfl⟩) ?_
  refine T_getfield (v := .int (nI (l.length))) d_By_endsLike_10 fg_By_13 hq.1 rfl ?_
  refine N_iadd (a := l.length) (b := b) (c := (b + l.length)) d_By_endsLike_13 rfl ?_
  refine T_iload_n d_By_endsLike_14 rfl ?_
  refine N_isub (a := a) (b := (b + l.length)) (c := ((b + l.length) - a)) d_By_endsLike_15 (by omega) rfl ?_
  refine T_aload_n (v := .ref p) d_By_endsLike_16 rfl (Or.inr ⟨_, rfl⟩) ?_
  obtain ⟨f_1, hf_2, hl_3, hv_4⟩ := id hp
  refine T_alen (v := nI m) d_By_endsLike_17 k_p hf_2 rfl rfl ?_
  refine N_icmp_le_t (a := m) (b := ((b + l.length) - a)) d_By_endsLike_18 (tgt := 23) rfl (by omega) (by omega) (by omega) ?_
  refine T_iconst (v := nI 0) d_By_endsLike_23 (by decide) ?_
  refine T_istore (L' := [(4, .int (nI 0)), (0, .ref q), (1, .int (nI a)), (2, .ref p), (3, .int (nI b))]) d_By_endsLike_24 (by decide) rfl ?_
  refine T_iload_n d_By_endsLike_26 rfl ?_
  refine T_istore (L' := [(5, .int (nI a)), (4, .int (nI 0)), (0, .ref q), (1, .int (nI a)), (2, .ref p), (3, .int (nI b))]) d_By_endsLike_27 (by decide) rfl ?_
  refine T_sub (L' := [(5, .int (nI a)), (4, .int (nI 0)), (0, .ref q), (1, .int (nI a)), (2, .ref p), (3, .int (nI b))]) (fun q hq => hq) ?_
  refine el_lp G hq hp ha hb hn hm (fun z hz => ?_) (l.length - a) a (nI 0) (by omega) (Nat.le_refl a) ⟨fun _ i hi => absurd hi (by omega), fun _ => rfl⟩
  refine T_iload d_By_endsLike_65 rfl ?_
  refine T_if_ne d_By_endsLike_67 (tgt := 74) rfl (fun hc => ?_) (fun hc => ?_)
  ·
    refine T_iconst (v := nI 0) d_By_endsLike_74 (by decide) ?_
    exact T_ret d_By_endsLike_75 rfl (by decide) (by decide) (by decide) ⟨by rw [if_neg (fun c => hc (hz.mpr (elB_k.mp c)))], rfl⟩
  ·
    refine T_iconst (v := nI 1) d_By_endsLike_70 (by decide) ?_
    refine T_goto (tgt := 75) d_By_endsLike_71 rfl ?_
    exact T_ret d_By_endsLike_75 rfl (by decide) (by decide) (by decide) ⟨by rw [if_pos (elB_k.mpr (hz.mp hc))], rfl⟩
def pre8 (c f s g : List UInt8) : List UInt8 := ((((((W16 ++ [0, 0]) ++ [0, 32]) ++ sl c 0 32) ++ sl f 0 96) ++ [0, 32]) ++ sl s 0 32) ++ sl g 0 256
theorem pre8_len (c f s g : List UInt8) : (pre8 c f s g).length = 431 := by unfold pre8; simp only [List.length_append, List.length_cons, List.length_nil, sl_len, W16_len]
set_option maxHeartbeats 8000000 in
theorem y_Ex_open {G : GX} {M : List va_E} {cp mc fp mf sp ms gp mg : Nat} {c f s g lp lj : List UInt8} (heo : EO M 217) (hpr : BY M 221 222 500 lp) (hjo : BY M 223 224 96 lj) (hc : BA M cp mc c) (hf : BA M fp mf f) (hs : BA M sp ms s) (hg : BA M gp mg g) (lc : 32 ≤ c.length) (lf : 96 ≤ f.length) (ls : 32 ≤ s.length) (lg : 256 ≤ g.length) (bc : mc < 2 ^ 30) (bf : mf < 2 ^ 30) (bs : ms < 2 ^ 30) (bg : mg < 2 ^ 30) (gr : ∀ w ∈ [cp, fp, sp, gp], ∀ z ∈ [217, 221, 222, 223], w ≠ z) (k_cp : K0 ≤ cp) (k_fp : K0 ≤ fp) (k_sp : K0 ≤ sp) (k_gp : K0 ≤ gp) : CT G mi_Ex_open [.ref 217, .ref cp, .ref fp, .ref sp, .ref gp] M (fun r M' => r = none ∧ BY M' 221 222 500 (pre8 c f s g) ∧ BY M' 223 224 96 [] ∧ Kp [221, 222, 223] M M') := by
  refine CT.of (by decide) (Nat.le_of_ble_eq_true rfl) ?_
  show TT G mi_Ex_open 0 [(0, .ref 217), (1, .ref cp), (2, .ref fp), (3, .ref sp), (4, .ref gp)] [] M 0 0 _
  refine T_aload_n (v := .ref 217) d_Ex_open_0 rfl (Or.inr ⟨_, rfl⟩) ?_
  refine T_getfield (v := .ref 223) d_Ex_open_1 fg_Ex_28 heo rfl ?_
  refine T_virtual (as := []) (rest := []) (b := 223) d_Ex_open_4 rfl (jw_By_clear.jo (by decide)) lm_Ex_46 ji_By_clear js_By_clear hjo.1 rfl rfl rfl (Nat.le_of_ble_eq_true rfl) (by decide) (by decide) (y_By_clear hjo (by decide)) (fun r M_1 hq => ?_)
  obtain ⟨rfl, p_1_0, kp_1⟩ := hq
  refine T_eq (pc' := 7) (L' := [(0, .ref 217), (1, .ref cp), (2, .ref fp), (3, .ref sp), (4, .ref gp)]) (st' := []) (M' := M_1) rfl rfl rfl rfl ?_
  refine T_aload_n (v := .ref 217) d_Ex_open_7 rfl (Or.inr ⟨_, rfl⟩) ?_
  have h_2 := (kp_1 217 (by decide)).trans (heo)
  refine T_getfield (v := .ref 221) d_Ex_open_8 fg_Ex_24 h_2 rfl ?_
  have p_3 := (BY.kp (hpr) kp_1 (by decide) (by decide))
  refine T_virtual (as := []) (rest := []) (b := 221) d_Ex_open_11 rfl (jw_By_clear.jo (by decide)) lm_Ex_46 ji_By_clear js_By_clear p_3.1 rfl rfl rfl (Nat.le_of_ble_eq_true rfl) (by decide) (by decide) (y_By_clear p_3 (by decide)) (fun r M_4 hq => ?_)
  obtain ⟨rfl, p_4_0, kp_4⟩ := hq
  refine T_eq (pc' := 14) (L' := [(0, .ref 217), (1, .ref cp), (2, .ref fp), (3, .ref sp), (4, .ref gp)]) (st' := []) (M' := M_4) rfl rfl rfl rfl ?_
  refine T_aload_n (v := .ref 217) d_Ex_open_14 rfl (Or.inr ⟨_, rfl⟩) ?_
  have h_5 := (kp_4 217 (by decide)).trans (h_2)
  refine T_getfield (v := .ref 221) d_Ex_open_15 fg_Ex_24 h_5 rfl ?_
  refine T_ldcS (q := scl.getD 16 ("", 0, "", 0)) d_Ex_open_18 (List.mem_of_getElem? (i := 16) rfl) rfl rfl (by decide) ?_
  refine T_virtual (as := [.ref 46]) (rest := []) (b := 221) d_Ex_open_20 rfl (jw_By_putText.jo (by decide)) lm_Ex_51 ji_By_putText js_By_putText p_4_0.1 rfl rfl rfl (Nat.le_of_ble_eq_true rfl) (by decide) (by decide) (y_By_putText p_4_0 tx_46_ (by first | omega | (simp only [List.length_append, List.length_cons, List.length_nil, List.length_replicate, sl_len, be_len, sha_len, xk_len, hmac_len, ex1_len, ex2_len, tag1_len, tC_len, stretch_len, chance_len, enc_len, pub_len, lbN_len, lbF_len, zer8_len, W0_len, W1_len, W2_len, W3_len, W4_len, W5_len, W6_len, W7_len, W8_len, W9_len, W10_len, W11_len, W12_len, W13_len, W14_len, W15_len, W16_len, W17_len, W18_len, W19_len, W20_len, W21_len, sec8_len, seal8_len, xr_len]; done) | (simp only [List.length_append, List.length_cons, List.length_nil, List.length_replicate, sl_len, be_len, sha_len, xk_len, hmac_len, ex1_len, ex2_len, tag1_len, tC_len, stretch_len, chance_len, enc_len, pub_len, lbN_len, lbF_len, zer8_len, W0_len, W1_len, W2_len, W3_len, W4_len, W5_len, W6_len, W7_len, W8_len, W9_len, W10_len, W11_len, W12_len, W13_len, W14_len, W15_len, W16_len, W17_len, W18_len, W19_len, W20_len, W21_len, sec8_len, seal8_len, xr_len]; omega)) (by decide) (by decide) (by decide)) (fun r M_6 hq => ?_)
  obtain ⟨rfl, p_6, kp_6⟩ := hq
  refine T_eq (pc' := 23) (L' := [(0, .ref 217), (1, .ref cp), (2, .ref fp), (3, .ref sp), (4, .ref gp)]) (st' := []) (M' := M_6) rfl rfl rfl rfl ?_
  refine T_aload_n (v := .ref 217) d_Ex_open_23 rfl (Or.inr ⟨_, rfl⟩) ?_
  have h_7 := (kp_6 217 (by decide)).trans (h_5)
  refine T_getfield (v := .ref 221) d_Ex_open_24 fg_Ex_24 h_7 rfl ?_
  refine T_iconst (v := nI 0) d_Ex_open_27 (by decide) ?_
  refine T_iconst (v := nI 2) d_Ex_open_28 (by decide) ?_
  refine T_virtual (as := [.int (nI 0), .int (nI 2)]) (rest := []) (b := 221) d_Ex_open_29 rfl (jw_By_putNumber.jo (by decide)) lm_Ex_55 ji_By_putNumber js_By_putNumber p_6.1 rfl rfl rfl (Nat.le_of_ble_eq_true rfl) (by decide) (by decide) (y_By_putNumber (v := (nI 0)) (c := 2) p_6 (by decide) (by first | omega | (simp only [List.length_append, List.length_cons, List.length_nil, List.length_replicate, sl_len, be_len, sha_len, xk_len, hmac_len, ex1_len, ex2_len, tag1_len, tC_len, stretch_len, chance_len, enc_len, pub_len, lbN_len, lbF_len, zer8_len, W0_len, W1_len, W2_len, W3_len, W4_len, W5_len, W6_len, W7_len, W8_len, W9_len, W10_len, W11_len, W12_len, W13_len, W14_len, W15_len, W16_len, W17_len, W18_len, W19_len, W20_len, W21_len, sec8_len, seal8_len, xr_len]; done) | (simp only [List.length_append, List.length_cons, List.length_nil, List.length_replicate, sl_len, be_len, sha_len, xk_len, hmac_len, ex1_len, ex2_len, tag1_len, tC_len, stretch_len, chance_len, enc_len, pub_len, lbN_len, lbF_len, zer8_len, W0_len, W1_len, W2_len, W3_len, W4_len, W5_len, W6_len, W7_len, W8_len, W9_len, W10_len, W11_len, W12_len, W13_len, W14_len, W15_len, W16_len, W17_len, W18_len, W19_len, W20_len, W21_len, sec8_len, seal8_len, xr_len]; omega)) (by decide) (by decide) (by decide)) (fun r M_8 hq => ?_)
  obtain ⟨rfl, p_8_0, kp_8⟩ := hq
  refine T_eq (pc' := 32) (L' := [(0, .ref 217), (1, .ref cp), (2, .ref fp), (3, .ref sp), (4, .ref gp)]) (st' := []) (M' := M_8) rfl rfl rfl rfl ?_
  refine T_aload_n (v := .ref 217) d_Ex_open_32 rfl (Or.inr ⟨_, rfl⟩) ?_
  have h_9 := (kp_8 217 (by decide)).trans (h_7)
  refine T_getfield (v := .ref 221) d_Ex_open_33 fg_Ex_24 h_9 rfl ?_
  refine T_bipush (v := nI 32) d_Ex_open_36 (by decide) ?_
  refine T_iconst (v := nI 2) d_Ex_open_38 (by decide) ?_
  refine T_virtual (as := [.int (nI 32), .int (nI 2)]) (rest := []) (b := 221) d_Ex_open_39 rfl (jw_By_putNumber.jo (by decide)) lm_Ex_55 ji_By_putNumber js_By_putNumber p_8_0.1 rfl rfl rfl (Nat.le_of_ble_eq_true rfl) (by decide) (by decide) (y_By_putNumber (v := (nI 32)) (c := 2) p_8_0 (by decide) (by first | omega | (simp only [List.length_append, List.length_cons, List.length_nil, List.length_replicate, sl_len, be_len, sha_len, xk_len, hmac_len, ex1_len, ex2_len, tag1_len, tC_len, stretch_len, chance_len, enc_len, pub_len, lbN_len, lbF_len, zer8_len, W0_len, W1_len, W2_len, W3_len, W4_len, W5_len, W6_len, W7_len, W8_len, W9_len, W10_len, W11_len, W12_len, W13_len, W14_len, W15_len, W16_len, W17_len, W18_len, W19_len, W20_len, W21_len, sec8_len, seal8_len, xr_len]; done) | (simp only [List.length_append, List.length_cons, List.length_nil, List.length_replicate, sl_len, be_len, sha_len, xk_len, hmac_len, ex1_len, ex2_len, tag1_len, tC_len, stretch_len, chance_len, enc_len, pub_len, lbN_len, lbF_len, zer8_len, W0_len, W1_len, W2_len, W3_len, W4_len, W5_len, W6_len, W7_len, W8_len, W9_len, W10_len, W11_len, W12_len, W13_len, W14_len, W15_len, W16_len, W17_len, W18_len, W19_len, W20_len, W21_len, sec8_len, seal8_len, xr_len]; omega)) (by decide) (by decide) (by decide)) (fun r M_10 hq => ?_)
  obtain ⟨rfl, p_10_0, kp_10⟩ := hq
  refine T_eq (pc' := 42) (L' := [(0, .ref 217), (1, .ref cp), (2, .ref fp), (3, .ref sp), (4, .ref gp)]) (st' := []) (M' := M_10) rfl rfl rfl rfl ?_
  refine T_aload_n (v := .ref 217) d_Ex_open_42 rfl (Or.inr ⟨_, rfl⟩) ?_
  have h_11 := (kp_10 217 (by decide)).trans (h_9)
  refine T_getfield (v := .ref 221) d_Ex_open_43 fg_Ex_24 h_11 rfl ?_
  refine T_aload_n (v := .ref cp) d_Ex_open_46 rfl (Or.inr ⟨_, rfl⟩) ?_
  refine T_iconst (v := nI 0) d_Ex_open_47 (by decide) ?_
  refine T_bipush (v := nI 32) d_Ex_open_48 (by decide) ?_
  have p_12 := (BA.kp ((BA.kp ((BA.kp ((BA.kp ((BA.kp (hc) kp_1 (gr_ni (gr cp (by simp)) (by decide)))) kp_4 (gr_ni (gr cp (by simp)) (by decide)))) kp_6 (gr_ni (gr cp (by simp)) (by decide)))) kp_8 (gr_ni (gr cp (by simp)) (by decide)))) kp_10 (gr_ni (gr cp (by simp)) (by decide)))
  refine T_virtual (as := [.ref cp, .int (nI 0), .int (nI 32)]) (rest := []) (b := 221) d_Ex_open_50 rfl (jw_By_put.jo (by decide)) lm_Ex_59 ji_By_put js_By_put p_10_0.1 rfl rfl rfl (Nat.le_of_ble_eq_true rfl) (by decide) (by decide) (y_By_put (at0 := 0) (k := 32) p_10_0 p_12 (by first | omega | (simp only [List.length_append, List.length_cons, List.length_nil, List.length_replicate, sl_len, be_len, sha_len, xk_len, hmac_len, ex1_len, ex2_len, tag1_len, tC_len, stretch_len, chance_len, enc_len, pub_len, lbN_len, lbF_len, zer8_len, W0_len, W1_len, W2_len, W3_len, W4_len, W5_len, W6_len, W7_len, W8_len, W9_len, W10_len, W11_len, W12_len, W13_len, W14_len, W15_len, W16_len, W17_len, W18_len, W19_len, W20_len, W21_len, sec8_len, seal8_len, xr_len]; done) | (simp only [List.length_append, List.length_cons, List.length_nil, List.length_replicate, sl_len, be_len, sha_len, xk_len, hmac_len, ex1_len, ex2_len, tag1_len, tC_len, stretch_len, chance_len, enc_len, pub_len, lbN_len, lbF_len, zer8_len, W0_len, W1_len, W2_len, W3_len, W4_len, W5_len, W6_len, W7_len, W8_len, W9_len, W10_len, W11_len, W12_len, W13_len, W14_len, W15_len, W16_len, W17_len, W18_len, W19_len, W20_len, W21_len, sec8_len, seal8_len, xr_len]; omega)) (by first | omega | (simp only [List.length_append, List.length_cons, List.length_nil, List.length_replicate, sl_len, be_len, sha_len, xk_len, hmac_len, ex1_len, ex2_len, tag1_len, tC_len, stretch_len, chance_len, enc_len, pub_len, lbN_len, lbF_len, zer8_len, W0_len, W1_len, W2_len, W3_len, W4_len, W5_len, W6_len, W7_len, W8_len, W9_len, W10_len, W11_len, W12_len, W13_len, W14_len, W15_len, W16_len, W17_len, W18_len, W19_len, W20_len, W21_len, sec8_len, seal8_len, xr_len]; done) | (simp only [List.length_append, List.length_cons, List.length_nil, List.length_replicate, sl_len, be_len, sha_len, xk_len, hmac_len, ex1_len, ex2_len, tag1_len, tC_len, stretch_len, chance_len, enc_len, pub_len, lbN_len, lbF_len, zer8_len, W0_len, W1_len, W2_len, W3_len, W4_len, W5_len, W6_len, W7_len, W8_len, W9_len, W10_len, W11_len, W12_len, W13_len, W14_len, W15_len, W16_len, W17_len, W18_len, W19_len, W20_len, W21_len, sec8_len, seal8_len, xr_len]; omega)) (by decide) bc (by decide) k_cp (by decide)) (fun r M_13 hq => ?_)
  obtain ⟨rfl, p_13_0, kp_13⟩ := hq
  refine T_eq (pc' := 53) (L' := [(0, .ref 217), (1, .ref cp), (2, .ref fp), (3, .ref sp), (4, .ref gp)]) (st' := []) (M' := M_13) rfl rfl rfl rfl ?_
  refine T_aload_n (v := .ref 217) d_Ex_open_53 rfl (Or.inr ⟨_, rfl⟩) ?_
  have h_14 := (kp_13 217 (by decide)).trans (h_11)
  refine T_getfield (v := .ref 221) d_Ex_open_54 fg_Ex_24 h_14 rfl ?_
  refine T_aload_n (v := .ref fp) d_Ex_open_57 rfl (Or.inr ⟨_, rfl⟩) ?_
  refine T_iconst (v := nI 0) d_Ex_open_58 (by decide) ?_
  refine T_bipush (v := nI 96) d_Ex_open_59 (by decide) ?_
  have p_15 := (BA.kp ((BA.kp ((BA.kp ((BA.kp ((BA.kp ((BA.kp (hf) kp_1 (gr_ni (gr fp (by simp)) (by decide)))) kp_4 (gr_ni (gr fp (by simp)) (by decide)))) kp_6 (gr_ni (gr fp (by simp)) (by decide)))) kp_8 (gr_ni (gr fp (by simp)) (by decide)))) kp_10 (gr_ni (gr fp (by simp)) (by decide)))) kp_13 (gr_ni (gr fp (by simp)) (by decide)))
  refine T_virtual (as := [.ref fp, .int (nI 0), .int (nI 96)]) (rest := []) (b := 221) d_Ex_open_61 rfl (jw_By_put.jo (by decide)) lm_Ex_59 ji_By_put js_By_put p_13_0.1 rfl rfl rfl (Nat.le_of_ble_eq_true rfl) (by decide) (by decide) (y_By_put (at0 := 0) (k := 96) p_13_0 p_15 (by first | omega | (simp only [List.length_append, List.length_cons, List.length_nil, List.length_replicate, sl_len, be_len, sha_len, xk_len, hmac_len, ex1_len, ex2_len, tag1_len, tC_len, stretch_len, chance_len, enc_len, pub_len, lbN_len, lbF_len, zer8_len, W0_len, W1_len, W2_len, W3_len, W4_len, W5_len, W6_len, W7_len, W8_len, W9_len, W10_len, W11_len, W12_len, W13_len, W14_len, W15_len, W16_len, W17_len, W18_len, W19_len, W20_len, W21_len, sec8_len, seal8_len, xr_len]; done) | (simp only [List.length_append, List.length_cons, List.length_nil, List.length_replicate, sl_len, be_len, sha_len, xk_len, hmac_len, ex1_len, ex2_len, tag1_len, tC_len, stretch_len, chance_len, enc_len, pub_len, lbN_len, lbF_len, zer8_len, W0_len, W1_len, W2_len, W3_len, W4_len, W5_len, W6_len, W7_len, W8_len, W9_len, W10_len, W11_len, W12_len, W13_len, W14_len, W15_len, W16_len, W17_len, W18_len, W19_len, W20_len, W21_len, sec8_len, seal8_len, xr_len]; omega)) (by first | omega | (simp only [List.length_append, List.length_cons, List.length_nil, List.length_replicate, sl_len, be_len, sha_len, xk_len, hmac_len, ex1_len, ex2_len, tag1_len, tC_len, stretch_len, chance_len, enc_len, pub_len, lbN_len, lbF_len, zer8_len, W0_len, W1_len, W2_len, W3_len, W4_len, W5_len, W6_len, W7_len, W8_len, W9_len, W10_len, W11_len, W12_len, W13_len, W14_len, W15_len, W16_len, W17_len, W18_len, W19_len, W20_len, W21_len, sec8_len, seal8_len, xr_len]; done) | (simp only [List.length_append, List.length_cons, List.length_nil, List.length_replicate, sl_len, be_len, sha_len, xk_len, hmac_len, ex1_len, ex2_len, tag1_len, tC_len, stretch_len, chance_len, enc_len, pub_len, lbN_len, lbF_len, zer8_len, W0_len, W1_len, W2_len, W3_len, W4_len, W5_len, W6_len, W7_len, W8_len, W9_len, W10_len, W11_len, W12_len, W13_len, W14_len, W15_len, W16_len, W17_len, W18_len, W19_len, W20_len, W21_len, sec8_len, seal8_len, xr_len]; omega)) (by decide) bf (by decide) k_fp (by decide)) (fun r M_16 hq => ?_)
  obtain ⟨rfl, p_16_0, kp_16⟩ := hq
  refine T_eq (pc' := 64) (L' := [(0, .ref 217), (1, .ref cp), (2, .ref fp), (3, .ref sp), (4, .ref gp)]) (st' := []) (M' := M_16) rfl rfl rfl rfl ?_
  refine T_aload_n (v := .ref 217) d_Ex_open_64 rfl (Or.inr ⟨_, rfl⟩) ?_
  have h_17 := (kp_16 217 (by decide)).trans (h_14)
  refine T_getfield (v := .ref 221) d_Ex_open_65 fg_Ex_24 h_17 rfl ?_
  refine T_bipush (v := nI 32) d_Ex_open_68 (by decide) ?_
  refine T_iconst (v := nI 2) d_Ex_open_70 (by decide) ?_
  refine T_virtual (as := [.int (nI 32), .int (nI 2)]) (rest := []) (b := 221) d_Ex_open_71 rfl (jw_By_putNumber.jo (by decide)) lm_Ex_55 ji_By_putNumber js_By_putNumber p_16_0.1 rfl rfl rfl (Nat.le_of_ble_eq_true rfl) (by decide) (by decide) (y_By_putNumber (v := (nI 32)) (c := 2) p_16_0 (by decide) (by first | omega | (simp only [List.length_append, List.length_cons, List.length_nil, List.length_replicate, sl_len, be_len, sha_len, xk_len, hmac_len, ex1_len, ex2_len, tag1_len, tC_len, stretch_len, chance_len, enc_len, pub_len, lbN_len, lbF_len, zer8_len, W0_len, W1_len, W2_len, W3_len, W4_len, W5_len, W6_len, W7_len, W8_len, W9_len, W10_len, W11_len, W12_len, W13_len, W14_len, W15_len, W16_len, W17_len, W18_len, W19_len, W20_len, W21_len, sec8_len, seal8_len, xr_len]; done) | (simp only [List.length_append, List.length_cons, List.length_nil, List.length_replicate, sl_len, be_len, sha_len, xk_len, hmac_len, ex1_len, ex2_len, tag1_len, tC_len, stretch_len, chance_len, enc_len, pub_len, lbN_len, lbF_len, zer8_len, W0_len, W1_len, W2_len, W3_len, W4_len, W5_len, W6_len, W7_len, W8_len, W9_len, W10_len, W11_len, W12_len, W13_len, W14_len, W15_len, W16_len, W17_len, W18_len, W19_len, W20_len, W21_len, sec8_len, seal8_len, xr_len]; omega)) (by decide) (by decide) (by decide)) (fun r M_18 hq => ?_)
  obtain ⟨rfl, p_18_0, kp_18⟩ := hq
  refine T_eq (pc' := 74) (L' := [(0, .ref 217), (1, .ref cp), (2, .ref fp), (3, .ref sp), (4, .ref gp)]) (st' := []) (M' := M_18) rfl rfl rfl rfl ?_
  refine T_aload_n (v := .ref 217) d_Ex_open_74 rfl (Or.inr ⟨_, rfl⟩) ?_
  have h_19 := (kp_18 217 (by decide)).trans (h_17)
  refine T_getfield (v := .ref 221) d_Ex_open_75 fg_Ex_24 h_19 rfl ?_
  refine T_aload_n (v := .ref sp) d_Ex_open_78 rfl (Or.inr ⟨_, rfl⟩) ?_
  refine T_iconst (v := nI 0) d_Ex_open_79 (by decide) ?_
  refine T_bipush (v := nI 32) d_Ex_open_80 (by decide) ?_
  have p_20 := (BA.kp ((BA.kp ((BA.kp ((BA.kp ((BA.kp ((BA.kp ((BA.kp ((BA.kp (hs) kp_1 (gr_ni (gr sp (by simp)) (by decide)))) kp_4 (gr_ni (gr sp (by simp)) (by decide)))) kp_6 (gr_ni (gr sp (by simp)) (by decide)))) kp_8 (gr_ni (gr sp (by simp)) (by decide)))) kp_10 (gr_ni (gr sp (by simp)) (by decide)))) kp_13 (gr_ni (gr sp (by simp)) (by decide)))) kp_16 (gr_ni (gr sp (by simp)) (by decide)))) kp_18 (gr_ni (gr sp (by simp)) (by decide)))
  refine T_virtual (as := [.ref sp, .int (nI 0), .int (nI 32)]) (rest := []) (b := 221) d_Ex_open_82 rfl (jw_By_put.jo (by decide)) lm_Ex_59 ji_By_put js_By_put p_18_0.1 rfl rfl rfl (Nat.le_of_ble_eq_true rfl) (by decide) (by decide) (y_By_put (at0 := 0) (k := 32) p_18_0 p_20 (by first | omega | (simp only [List.length_append, List.length_cons, List.length_nil, List.length_replicate, sl_len, be_len, sha_len, xk_len, hmac_len, ex1_len, ex2_len, tag1_len, tC_len, stretch_len, chance_len, enc_len, pub_len, lbN_len, lbF_len, zer8_len, W0_len, W1_len, W2_len, W3_len, W4_len, W5_len, W6_len, W7_len, W8_len, W9_len, W10_len, W11_len, W12_len, W13_len, W14_len, W15_len, W16_len, W17_len, W18_len, W19_len, W20_len, W21_len, sec8_len, seal8_len, xr_len]; done) | (simp only [List.length_append, List.length_cons, List.length_nil, List.length_replicate, sl_len, be_len, sha_len, xk_len, hmac_len, ex1_len, ex2_len, tag1_len, tC_len, stretch_len, chance_len, enc_len, pub_len, lbN_len, lbF_len, zer8_len, W0_len, W1_len, W2_len, W3_len, W4_len, W5_len, W6_len, W7_len, W8_len, W9_len, W10_len, W11_len, W12_len, W13_len, W14_len, W15_len, W16_len, W17_len, W18_len, W19_len, W20_len, W21_len, sec8_len, seal8_len, xr_len]; omega)) (by first | omega | (simp only [List.length_append, List.length_cons, List.length_nil, List.length_replicate, sl_len, be_len, sha_len, xk_len, hmac_len, ex1_len, ex2_len, tag1_len, tC_len, stretch_len, chance_len, enc_len, pub_len, lbN_len, lbF_len, zer8_len, W0_len, W1_len, W2_len, W3_len, W4_len, W5_len, W6_len, W7_len, W8_len, W9_len, W10_len, W11_len, W12_len, W13_len, W14_len, W15_len, W16_len, W17_len, W18_len, W19_len, W20_len, W21_len, sec8_len, seal8_len, xr_len]; done) | (simp only [List.length_append, List.length_cons, List.length_nil, List.length_replicate, sl_len, be_len, sha_len, xk_len, hmac_len, ex1_len, ex2_len, tag1_len, tC_len, stretch_len, chance_len, enc_len, pub_len, lbN_len, lbF_len, zer8_len, W0_len, W1_len, W2_len, W3_len, W4_len, W5_len, W6_len, W7_len, W8_len, W9_len, W10_len, W11_len, W12_len, W13_len, W14_len, W15_len, W16_len, W17_len, W18_len, W19_len, W20_len, W21_len, sec8_len, seal8_len, xr_len]; omega)) (by decide) bs (by decide) k_sp (by decide)) (fun r M_21 hq => ?_)
  obtain ⟨rfl, p_21_0, kp_21⟩ := hq
  refine T_eq (pc' := 85) (L' := [(0, .ref 217), (1, .ref cp), (2, .ref fp), (3, .ref sp), (4, .ref gp)]) (st' := []) (M' := M_21) rfl rfl rfl rfl ?_
  refine T_aload_n (v := .ref 217) d_Ex_open_85 rfl (Or.inr ⟨_, rfl⟩) ?_
  have h_22 := (kp_21 217 (by decide)).trans (h_19)
  refine T_getfield (v := .ref 221) d_Ex_open_86 fg_Ex_24 h_22 rfl ?_
  refine T_aload (v := .ref gp) d_Ex_open_89 rfl (Or.inr ⟨_, rfl⟩) ?_
  refine T_iconst (v := nI 0) d_Ex_open_91 (by decide) ?_
  refine T_sipush (v := nI 256) d_Ex_open_92 (by decide) ?_
  have p_23 := (BA.kp ((BA.kp ((BA.kp ((BA.kp ((BA.kp ((BA.kp ((BA.kp ((BA.kp ((BA.kp (hg) kp_1 (gr_ni (gr gp (by simp)) (by decide)))) kp_4 (gr_ni (gr gp (by simp)) (by decide)))) kp_6 (gr_ni (gr gp (by simp)) (by decide)))) kp_8 (gr_ni (gr gp (by simp)) (by decide)))) kp_10 (gr_ni (gr gp (by simp)) (by decide)))) kp_13 (gr_ni (gr gp (by simp)) (by decide)))) kp_16 (gr_ni (gr gp (by simp)) (by decide)))) kp_18 (gr_ni (gr gp (by simp)) (by decide)))) kp_21 (gr_ni (gr gp (by simp)) (by decide)))
  refine T_virtual (as := [.ref gp, .int (nI 0), .int (nI 256)]) (rest := []) (b := 221) d_Ex_open_95 rfl (jw_By_put.jo (by decide)) lm_Ex_59 ji_By_put js_By_put p_21_0.1 rfl rfl rfl (Nat.le_of_ble_eq_true rfl) (by decide) (by decide) (y_By_put (at0 := 0) (k := 256) p_21_0 p_23 (by first | omega | (simp only [List.length_append, List.length_cons, List.length_nil, List.length_replicate, sl_len, be_len, sha_len, xk_len, hmac_len, ex1_len, ex2_len, tag1_len, tC_len, stretch_len, chance_len, enc_len, pub_len, lbN_len, lbF_len, zer8_len, W0_len, W1_len, W2_len, W3_len, W4_len, W5_len, W6_len, W7_len, W8_len, W9_len, W10_len, W11_len, W12_len, W13_len, W14_len, W15_len, W16_len, W17_len, W18_len, W19_len, W20_len, W21_len, sec8_len, seal8_len, xr_len]; done) | (simp only [List.length_append, List.length_cons, List.length_nil, List.length_replicate, sl_len, be_len, sha_len, xk_len, hmac_len, ex1_len, ex2_len, tag1_len, tC_len, stretch_len, chance_len, enc_len, pub_len, lbN_len, lbF_len, zer8_len, W0_len, W1_len, W2_len, W3_len, W4_len, W5_len, W6_len, W7_len, W8_len, W9_len, W10_len, W11_len, W12_len, W13_len, W14_len, W15_len, W16_len, W17_len, W18_len, W19_len, W20_len, W21_len, sec8_len, seal8_len, xr_len]; omega)) (by first | omega | (simp only [List.length_append, List.length_cons, List.length_nil, List.length_replicate, sl_len, be_len, sha_len, xk_len, hmac_len, ex1_len, ex2_len, tag1_len, tC_len, stretch_len, chance_len, enc_len, pub_len, lbN_len, lbF_len, zer8_len, W0_len, W1_len, W2_len, W3_len, W4_len, W5_len, W6_len, W7_len, W8_len, W9_len, W10_len, W11_len, W12_len, W13_len, W14_len, W15_len, W16_len, W17_len, W18_len, W19_len, W20_len, W21_len, sec8_len, seal8_len, xr_len]; done) | (simp only [List.length_append, List.length_cons, List.length_nil, List.length_replicate, sl_len, be_len, sha_len, xk_len, hmac_len, ex1_len, ex2_len, tag1_len, tC_len, stretch_len, chance_len, enc_len, pub_len, lbN_len, lbF_len, zer8_len, W0_len, W1_len, W2_len, W3_len, W4_len, W5_len, W6_len, W7_len, W8_len, W9_len, W10_len, W11_len, W12_len, W13_len, W14_len, W15_len, W16_len, W17_len, W18_len, W19_len, W20_len, W21_len, sec8_len, seal8_len, xr_len]; omega)) (by decide) bg (by decide) k_gp (by decide)) (fun r M_24 hq => ?_)
  obtain ⟨rfl, p_24_0, kp_24⟩ := hq
  refine T_eq (pc' := 98) (L' := [(0, .ref 217), (1, .ref cp), (2, .ref fp), (3, .ref sp), (4, .ref gp)]) (st' := []) (M' := M_24) rfl rfl rfl rfl ?_
  have h1 := p_24_0
  rw [List.nil_append, be0, be32] at h1
  have p_25 := (BY.kp ((BY.kp ((BY.kp ((BY.kp ((BY.kp ((BY.kp ((BY.kp ((BY.kp ((BY.kp (p_1_0) kp_4 (by decide) (by decide))) kp_6 (by decide) (by decide))) kp_8 (by decide) (by decide))) kp_10 (by decide) (by decide))) kp_13 (by decide) (by decide))) kp_16 (by decide) (by decide))) kp_18 (by decide) (by decide))) kp_21 (by decide) (by decide))) kp_24 (by decide) (by decide))
  exact T_vret d_Ex_open_98 rfl (by decide) (by decide) ⟨rfl, h1, p_25, (Kp.tr (Kp.tr (Kp.tr (Kp.tr (Kp.tr (Kp.tr (Kp.tr (Kp.tr (Kp.tr (Kp.tr (Kp.rf : Kp [221, 222, 223] M M) (Kp.mono kp_1 (by decide))) (Kp.mono kp_4 (by decide))) (Kp.mono kp_6 (by decide))) (Kp.mono kp_8 (by decide))) (Kp.mono kp_10 (by decide))) (Kp.mono kp_13 (by decide))) (Kp.mono kp_16 (by decide))) (Kp.mono kp_18 (by decide))) (Kp.mono kp_21 (by decide))) (Kp.mono kp_24 (by decide)))⟩
set_option maxHeartbeats 8000000 in
theorem y_Ex_join_188 {G : GX} {M : List va_E} {sd : Int32} {ch : Nat} {sp : Nat} {x : Nat} {lj : List UInt8} {P : Fp × Fp} (hko : KO M 62 sd ch) (heo : EO M 217) (hcu : CU M) (h207 : PQ M 207 208 209 210 211) (hjo : BY M 223 224 96 lj) (hp : PC M 188 189 190 191 192 P) (oP : OnP fD P) (hs : BA M sp 32 (lbN x)) (hx : x < qN) (hl : lj.length + 32 ≤ 96) (b_sp : 216 < sp) : CT G mi_Ex_join [.ref 217, .ref 62, .ref sp, .ref 188] M (fun r M' => r = none ∧ CU M' ∧ PQ M' 207 208 209 210 211 ∧ BY M' 223 224 96 (lj ++ enc (emul fD P x)) ∧ Kp ([223, 224, 208, 209, 210, 211] ++ cuW) M M') := by
  refine CT.of (by decide) (Nat.le_of_ble_eq_true rfl) ?_
  show TT G mi_Ex_join 0 [(0, .ref 217), (1, .ref 62), (2, .ref sp), (3, .ref 188)] [] M 0 0 _
  refine T_aload_n (v := .ref 62) d_Ex_join_0 rfl (Or.inr ⟨_, rfl⟩) ?_
  refine T_getfield (v := .ref 77) d_Ex_join_1 fg_Ex_63 hko rfl ?_
  refine T_aload_n (v := .ref 62) d_Ex_join_4 rfl (Or.inr ⟨_, rfl⟩) ?_
  refine T_getfield (v := .ref 207) d_Ex_join_5 fg_Ex_69 hko rfl ?_
  refine T_aload_n (v := .ref sp) d_Ex_join_8 rfl (Or.inr ⟨_, rfl⟩) ?_
  refine T_aload_n (v := .ref 188) d_Ex_join_9 rfl (Or.inr ⟨_, rfl⟩) ?_
  refine T_virtual (as := [.ref 207, .ref sp, .ref 188]) (rest := []) (b := 77) d_Ex_join_10 rfl (jw_Cu_multiply.jo (by decide)) lm_Ex_73 ji_Cu_multiply js_Cu_multiply hcu.1.1 rfl rfl rfl (Nat.le_of_ble_eq_true rfl) (by decide) (by decide) (y_Cu_mul_207_188 hcu h207 hp oP hs (by first | omega | (simp only [List.length_append, List.length_cons, List.length_nil, List.length_replicate, sl_len, be_len, sha_len, xk_len, hmac_len, ex1_len, ex2_len, tag1_len, tC_len, stretch_len, chance_len, enc_len, pub_len, lbN_len, lbF_len, zer8_len, W0_len, W1_len, W2_len, W3_len, W4_len, W5_len, W6_len, W7_len, W8_len, W9_len, W10_len, W11_len, W12_len, W13_len, W14_len, W15_len, W16_len, W17_len, W18_len, W19_len, W20_len, W21_len, sec8_len, seal8_len, xr_len]; done) | (simp only [List.length_append, List.length_cons, List.length_nil, List.length_replicate, sl_len, be_len, sha_len, xk_len, hmac_len, ex1_len, ex2_len, tag1_len, tC_len, stretch_len, chance_len, enc_len, pub_len, lbN_len, lbF_len, zer8_len, W0_len, W1_len, W2_len, W3_len, W4_len, W5_len, W6_len, W7_len, W8_len, W9_len, W10_len, W11_len, W12_len, W13_len, W14_len, W15_len, W16_len, W17_len, W18_len, W19_len, W20_len, W21_len, sec8_len, seal8_len, xr_len]; omega)) (hi_nin b_sp (by decide)) (hi_nin b_sp (by decide)) (Nat.le_of_lt (Nat.lt_of_le_of_lt (show K0 ≤ _ by decide) b_sp))) (fun r M_1 hq => ?_)
  obtain ⟨rfl, p_1a, p_1b, kp_1⟩ := hq
  refine T_eq (pc' := 13) (L' := [(0, .ref 217), (1, .ref 62), (2, .ref sp), (3, .ref 188)]) (st' := []) (M' := M_1) rfl rfl rfl rfl ?_
  refine T_aload_n (v := .ref 62) d_Ex_join_13 rfl (Or.inr ⟨_, rfl⟩) ?_
  have h_2 := (kp_1 62 (by decide)).trans (hko)
  refine T_getfield (v := .ref 77) d_Ex_join_14 fg_Ex_63 h_2 rfl ?_
  refine T_aload_n (v := .ref 62) d_Ex_join_17 rfl (Or.inr ⟨_, rfl⟩) ?_
  refine T_getfield (v := .ref 207) d_Ex_join_18 fg_Ex_69 h_2 rfl ?_
  refine T_aload_n (v := .ref 217) d_Ex_join_21 rfl (Or.inr ⟨_, rfl⟩) ?_
  have p_3 := (EO.kp (heo) kp_1 (by decide))
  refine T_getfield (v := .ref 223) d_Ex_join_22 fg_Ex_28 p_3 rfl ?_
  have p_4 := (BY.kp (hjo) kp_1 (by decide) (by decide))
  refine T_virtual (as := [.ref 207, .ref 223]) (rest := []) (b := 77) d_Ex_join_25 rfl (jw_Cu_code.jo (by decide)) lm_Ex_79 ji_Cu_code js_Cu_code p_1a.1.1 rfl rfl rfl (Nat.le_of_ble_eq_true rfl) (by decide) (by decide) (y_Cu_code p_1a p_1b p_4 (by first | omega | (simp only [List.length_append, List.length_cons, List.length_nil, List.length_replicate, sl_len, be_len, sha_len, xk_len, hmac_len, ex1_len, ex2_len, tag1_len, tC_len, stretch_len, chance_len, enc_len, pub_len, lbN_len, lbF_len, zer8_len, W0_len, W1_len, W2_len, W3_len, W4_len, W5_len, W6_len, W7_len, W8_len, W9_len, W10_len, W11_len, W12_len, W13_len, W14_len, W15_len, W16_len, W17_len, W18_len, W19_len, W20_len, W21_len, sec8_len, seal8_len, xr_len]; done) | (simp only [List.length_append, List.length_cons, List.length_nil, List.length_replicate, sl_len, be_len, sha_len, xk_len, hmac_len, ex1_len, ex2_len, tag1_len, tC_len, stretch_len, chance_len, enc_len, pub_len, lbN_len, lbF_len, zer8_len, W0_len, W1_len, W2_len, W3_len, W4_len, W5_len, W6_len, W7_len, W8_len, W9_len, W10_len, W11_len, W12_len, W13_len, W14_len, W15_len, W16_len, W17_len, W18_len, W19_len, W20_len, W21_len, sec8_len, seal8_len, xr_len]; omega)) (by decide) (by decide) (by decide) (by decide) (by decide) (by decide) (by decide) (by decide) (by decide)) (fun r M_5 hq => ?_)
  obtain ⟨rfl, p_5_0, p_5_1, kp_5⟩ := hq
  refine T_eq (pc' := 28) (L' := [(0, .ref 217), (1, .ref 62), (2, .ref sp), (3, .ref 188)]) (st' := []) (M' := M_5) rfl rfl rfl rfl ?_
  have hb := p_5_1
  rw [leN_lbN (Nat.le_refl 32), Nat.mod_eq_of_lt (Nat.lt_trans hx (by decide +kernel))] at hb
  have p_6 := (PC.kp (p_1b) kp_5 (by decide) (by decide) (by decide) (by decide) (by decide))
  exact T_vret d_Ex_join_28 rfl (by decide) (by decide) ⟨rfl, p_5_0, PC.pq p_6, hb, (Kp.tr (Kp.tr (Kp.rf : Kp [223, 224, 208, 209, 210, 211, 77, 78, 79, 80, 81, 82, 83, 84, 85, 86, 87, 88, 89, 90, 91, 92, 93, 94, 95, 96, 97, 98, 99, 100, 101, 102, 103, 104, 105, 106, 107, 108, 109, 110, 111, 112, 113, 114, 115, 116, 117, 118, 119, 120, 121, 122, 123, 124, 125, 126, 127, 128, 129, 130, 131, 132, 133, 134, 135, 136, 137, 138, 139, 140, 141, 142, 143, 144, 145, 146, 147, 148, 149, 150, 151, 152, 153, 154, 155, 156, 157, 158, 159, 160, 161, 162, 163, 164, 165, 166, 167, 168, 169, 170, 171, 172, 173, 174, 175, 176, 177, 178, 179, 180, 181, 182] M M) (Kp.mono kp_1 (by decide +kernel))) (Kp.mono kp_5 (by decide +kernel)))⟩
set_option maxHeartbeats 8000000 in
theorem y_Ex_join_193 {G : GX} {M : List va_E} {sd : Int32} {ch : Nat} {sp : Nat} {x : Nat} {lj : List UInt8} {P : Fp × Fp} (hko : KO M 62 sd ch) (heo : EO M 217) (hcu : CU M) (h207 : PQ M 207 208 209 210 211) (hjo : BY M 223 224 96 lj) (hp : PC M 193 194 195 196 197 P) (oP : OnP fD P) (hs : BA M sp 32 (lbN x)) (hx : x < qN) (hl : lj.length + 32 ≤ 96) (b_sp : 216 < sp) : CT G mi_Ex_join [.ref 217, .ref 62, .ref sp, .ref 193] M (fun r M' => r = none ∧ CU M' ∧ PQ M' 207 208 209 210 211 ∧ BY M' 223 224 96 (lj ++ enc (emul fD P x)) ∧ Kp ([223, 224, 208, 209, 210, 211] ++ cuW) M M') := by
  refine CT.of (by decide) (Nat.le_of_ble_eq_true rfl) ?_
  show TT G mi_Ex_join 0 [(0, .ref 217), (1, .ref 62), (2, .ref sp), (3, .ref 193)] [] M 0 0 _
  refine T_aload_n (v := .ref 62) d_Ex_join_0 rfl (Or.inr ⟨_, rfl⟩) ?_
  refine T_getfield (v := .ref 77) d_Ex_join_1 fg_Ex_63 hko rfl ?_
  refine T_aload_n (v := .ref 62) d_Ex_join_4 rfl (Or.inr ⟨_, rfl⟩) ?_
  refine T_getfield (v := .ref 207) d_Ex_join_5 fg_Ex_69 hko rfl ?_
  refine T_aload_n (v := .ref sp) d_Ex_join_8 rfl (Or.inr ⟨_, rfl⟩) ?_
  refine T_aload_n (v := .ref 193) d_Ex_join_9 rfl (Or.inr ⟨_, rfl⟩) ?_
  refine T_virtual (as := [.ref 207, .ref sp, .ref 193]) (rest := []) (b := 77) d_Ex_join_10 rfl (jw_Cu_multiply.jo (by decide)) lm_Ex_73 ji_Cu_multiply js_Cu_multiply hcu.1.1 rfl rfl rfl (Nat.le_of_ble_eq_true rfl) (by decide) (by decide) (y_Cu_mul_207_193 hcu h207 hp oP hs (by first | omega | (simp only [List.length_append, List.length_cons, List.length_nil, List.length_replicate, sl_len, be_len, sha_len, xk_len, hmac_len, ex1_len, ex2_len, tag1_len, tC_len, stretch_len, chance_len, enc_len, pub_len, lbN_len, lbF_len, zer8_len, W0_len, W1_len, W2_len, W3_len, W4_len, W5_len, W6_len, W7_len, W8_len, W9_len, W10_len, W11_len, W12_len, W13_len, W14_len, W15_len, W16_len, W17_len, W18_len, W19_len, W20_len, W21_len, sec8_len, seal8_len, xr_len]; done) | (simp only [List.length_append, List.length_cons, List.length_nil, List.length_replicate, sl_len, be_len, sha_len, xk_len, hmac_len, ex1_len, ex2_len, tag1_len, tC_len, stretch_len, chance_len, enc_len, pub_len, lbN_len, lbF_len, zer8_len, W0_len, W1_len, W2_len, W3_len, W4_len, W5_len, W6_len, W7_len, W8_len, W9_len, W10_len, W11_len, W12_len, W13_len, W14_len, W15_len, W16_len, W17_len, W18_len, W19_len, W20_len, W21_len, sec8_len, seal8_len, xr_len]; omega)) (hi_nin b_sp (by decide)) (hi_nin b_sp (by decide)) (Nat.le_of_lt (Nat.lt_of_le_of_lt (show K0 ≤ _ by decide) b_sp))) (fun r M_1 hq => ?_)
  obtain ⟨rfl, p_1a, p_1b, kp_1⟩ := hq
  refine T_eq (pc' := 13) (L' := [(0, .ref 217), (1, .ref 62), (2, .ref sp), (3, .ref 193)]) (st' := []) (M' := M_1) rfl rfl rfl rfl ?_
  refine T_aload_n (v := .ref 62) d_Ex_join_13 rfl (Or.inr ⟨_, rfl⟩) ?_
  have h_2 := (kp_1 62 (by decide)).trans (hko)
  refine T_getfield (v := .ref 77) d_Ex_join_14 fg_Ex_63 h_2 rfl ?_
  refine T_aload_n (v := .ref 62) d_Ex_join_17 rfl (Or.inr ⟨_, rfl⟩) ?_
  refine T_getfield (v := .ref 207) d_Ex_join_18 fg_Ex_69 h_2 rfl ?_
  refine T_aload_n (v := .ref 217) d_Ex_join_21 rfl (Or.inr ⟨_, rfl⟩) ?_
  have p_3 := (EO.kp (heo) kp_1 (by decide))
  refine T_getfield (v := .ref 223) d_Ex_join_22 fg_Ex_28 p_3 rfl ?_
  have p_4 := (BY.kp (hjo) kp_1 (by decide) (by decide))
  refine T_virtual (as := [.ref 207, .ref 223]) (rest := []) (b := 77) d_Ex_join_25 rfl (jw_Cu_code.jo (by decide)) lm_Ex_79 ji_Cu_code js_Cu_code p_1a.1.1 rfl rfl rfl (Nat.le_of_ble_eq_true rfl) (by decide) (by decide) (y_Cu_code p_1a p_1b p_4 (by first | omega | (simp only [List.length_append, List.length_cons, List.length_nil, List.length_replicate, sl_len, be_len, sha_len, xk_len, hmac_len, ex1_len, ex2_len, tag1_len, tC_len, stretch_len, chance_len, enc_len, pub_len, lbN_len, lbF_len, zer8_len, W0_len, W1_len, W2_len, W3_len, W4_len, W5_len, W6_len, W7_len, W8_len, W9_len, W10_len, W11_len, W12_len, W13_len, W14_len, W15_len, W16_len, W17_len, W18_len, W19_len, W20_len, W21_len, sec8_len, seal8_len, xr_len]; done) | (simp only [List.length_append, List.length_cons, List.length_nil, List.length_replicate, sl_len, be_len, sha_len, xk_len, hmac_len, ex1_len, ex2_len, tag1_len, tC_len, stretch_len, chance_len, enc_len, pub_len, lbN_len, lbF_len, zer8_len, W0_len, W1_len, W2_len, W3_len, W4_len, W5_len, W6_len, W7_len, W8_len, W9_len, W10_len, W11_len, W12_len, W13_len, W14_len, W15_len, W16_len, W17_len, W18_len, W19_len, W20_len, W21_len, sec8_len, seal8_len, xr_len]; omega)) (by decide) (by decide) (by decide) (by decide) (by decide) (by decide) (by decide) (by decide) (by decide)) (fun r M_5 hq => ?_)
  obtain ⟨rfl, p_5_0, p_5_1, kp_5⟩ := hq
  refine T_eq (pc' := 28) (L' := [(0, .ref 217), (1, .ref 62), (2, .ref sp), (3, .ref 193)]) (st' := []) (M' := M_5) rfl rfl rfl rfl ?_
  have hb := p_5_1
  rw [leN_lbN (Nat.le_refl 32), Nat.mod_eq_of_lt (Nat.lt_trans hx (by decide +kernel))] at hb
  have p_6 := (PC.kp (p_1b) kp_5 (by decide) (by decide) (by decide) (by decide) (by decide))
  exact T_vret d_Ex_join_28 rfl (by decide) (by decide) ⟨rfl, p_5_0, PC.pq p_6, hb, (Kp.tr (Kp.tr (Kp.rf : Kp [223, 224, 208, 209, 210, 211, 77, 78, 79, 80, 81, 82, 83, 84, 85, 86, 87, 88, 89, 90, 91, 92, 93, 94, 95, 96, 97, 98, 99, 100, 101, 102, 103, 104, 105, 106, 107, 108, 109, 110, 111, 112, 113, 114, 115, 116, 117, 118, 119, 120, 121, 122, 123, 124, 125, 126, 127, 128, 129, 130, 131, 132, 133, 134, 135, 136, 137, 138, 139, 140, 141, 142, 143, 144, 145, 146, 147, 148, 149, 150, 151, 152, 153, 154, 155, 156, 157, 158, 159, 160, 161, 162, 163, 164, 165, 166, 167, 168, 169, 170, 171, 172, 173, 174, 175, 176, 177, 178, 179, 180, 181, 182] M M) (Kp.mono kp_1 (by decide +kernel))) (Kp.mono kp_5 (by decide +kernel)))⟩
set_option maxHeartbeats 8000000 in
theorem y_Ex_join_193_202 {G : GX} {M : List va_E} {sd : Int32} {ch : Nat} {x : Nat} {lj : List UInt8} {P : Fp × Fp} (hko : KO M 62 sd ch) (heo : EO M 217) (hcu : CU M) (h207 : PQ M 207 208 209 210 211) (hjo : BY M 223 224 96 lj) (hp : PC M 193 194 195 196 197 P) (oP : OnP fD P) (hs : BA M 202 32 (lbN x)) (hx : x < qN) (hl : lj.length + 32 ≤ 96) : CT G mi_Ex_join [.ref 217, .ref 62, .ref 202, .ref 193] M (fun r M' => r = none ∧ CU M' ∧ PQ M' 207 208 209 210 211 ∧ BY M' 223 224 96 (lj ++ enc (emul fD P x)) ∧ Kp ([223, 224, 208, 209, 210, 211] ++ cuW) M M') := by
  refine CT.of (by decide) (Nat.le_of_ble_eq_true rfl) ?_
  show TT G mi_Ex_join 0 [(0, .ref 217), (1, .ref 62), (2, .ref 202), (3, .ref 193)] [] M 0 0 _
  refine T_aload_n (v := .ref 62) d_Ex_join_0 rfl (Or.inr ⟨_, rfl⟩) ?_
  refine T_getfield (v := .ref 77) d_Ex_join_1 fg_Ex_63 hko rfl ?_
  refine T_aload_n (v := .ref 62) d_Ex_join_4 rfl (Or.inr ⟨_, rfl⟩) ?_
  refine T_getfield (v := .ref 207) d_Ex_join_5 fg_Ex_69 hko rfl ?_
  refine T_aload_n (v := .ref 202) d_Ex_join_8 rfl (Or.inr ⟨_, rfl⟩) ?_
  refine T_aload_n (v := .ref 193) d_Ex_join_9 rfl (Or.inr ⟨_, rfl⟩) ?_
  refine T_virtual (as := [.ref 207, .ref 202, .ref 193]) (rest := []) (b := 77) d_Ex_join_10 rfl (jw_Cu_multiply.jo (by decide)) lm_Ex_73 ji_Cu_multiply js_Cu_multiply hcu.1.1 rfl rfl rfl (Nat.le_of_ble_eq_true rfl) (by decide) (by decide) (y_Cu_mul_207_193 hcu h207 hp oP hs (by first | omega | (simp only [List.length_append, List.length_cons, List.length_nil, List.length_replicate, sl_len, be_len, sha_len, xk_len, hmac_len, ex1_len, ex2_len, tag1_len, tC_len, stretch_len, chance_len, enc_len, pub_len, lbN_len, lbF_len, zer8_len, W0_len, W1_len, W2_len, W3_len, W4_len, W5_len, W6_len, W7_len, W8_len, W9_len, W10_len, W11_len, W12_len, W13_len, W14_len, W15_len, W16_len, W17_len, W18_len, W19_len, W20_len, W21_len, sec8_len, seal8_len, xr_len]; done) | (simp only [List.length_append, List.length_cons, List.length_nil, List.length_replicate, sl_len, be_len, sha_len, xk_len, hmac_len, ex1_len, ex2_len, tag1_len, tC_len, stretch_len, chance_len, enc_len, pub_len, lbN_len, lbF_len, zer8_len, W0_len, W1_len, W2_len, W3_len, W4_len, W5_len, W6_len, W7_len, W8_len, W9_len, W10_len, W11_len, W12_len, W13_len, W14_len, W15_len, W16_len, W17_len, W18_len, W19_len, W20_len, W21_len, sec8_len, seal8_len, xr_len]; omega)) (by decide) (by decide) (by decide)) (fun r M_1 hq => ?_)
  obtain ⟨rfl, p_1a, p_1b, kp_1⟩ := hq
  refine T_eq (pc' := 13) (L' := [(0, .ref 217), (1, .ref 62), (2, .ref 202), (3, .ref 193)]) (st' := []) (M' := M_1) rfl rfl rfl rfl ?_
  refine T_aload_n (v := .ref 62) d_Ex_join_13 rfl (Or.inr ⟨_, rfl⟩) ?_
  have h_2 := (kp_1 62 (by decide)).trans (hko)
  refine T_getfield (v := .ref 77) d_Ex_join_14 fg_Ex_63 h_2 rfl ?_
  refine T_aload_n (v := .ref 62) d_Ex_join_17 rfl (Or.inr ⟨_, rfl⟩) ?_
  refine T_getfield (v := .ref 207) d_Ex_join_18 fg_Ex_69 h_2 rfl ?_
  refine T_aload_n (v := .ref 217) d_Ex_join_21 rfl (Or.inr ⟨_, rfl⟩) ?_
  have p_3 := (EO.kp (heo) kp_1 (by decide))
  refine T_getfield (v := .ref 223) d_Ex_join_22 fg_Ex_28 p_3 rfl ?_
  have p_4 := (BY.kp (hjo) kp_1 (by decide) (by decide))
  refine T_virtual (as := [.ref 207, .ref 223]) (rest := []) (b := 77) d_Ex_join_25 rfl (jw_Cu_code.jo (by decide)) lm_Ex_79 ji_Cu_code js_Cu_code p_1a.1.1 rfl rfl rfl (Nat.le_of_ble_eq_true rfl) (by decide) (by decide) (y_Cu_code p_1a p_1b p_4 (by first | omega | (simp only [List.length_append, List.length_cons, List.length_nil, List.length_replicate, sl_len, be_len, sha_len, xk_len, hmac_len, ex1_len, ex2_len, tag1_len, tC_len, stretch_len, chance_len, enc_len, pub_len, lbN_len, lbF_len, zer8_len, W0_len, W1_len, W2_len, W3_len, W4_len, W5_len, W6_len, W7_len, W8_len, W9_len, W10_len, W11_len, W12_len, W13_len, W14_len, W15_len, W16_len, W17_len, W18_len, W19_len, W20_len, W21_len, sec8_len, seal8_len, xr_len]; done) | (simp only [List.length_append, List.length_cons, List.length_nil, List.length_replicate, sl_len, be_len, sha_len, xk_len, hmac_len, ex1_len, ex2_len, tag1_len, tC_len, stretch_len, chance_len, enc_len, pub_len, lbN_len, lbF_len, zer8_len, W0_len, W1_len, W2_len, W3_len, W4_len, W5_len, W6_len, W7_len, W8_len, W9_len, W10_len, W11_len, W12_len, W13_len, W14_len, W15_len, W16_len, W17_len, W18_len, W19_len, W20_len, W21_len, sec8_len, seal8_len, xr_len]; omega)) (by decide) (by decide) (by decide) (by decide) (by decide) (by decide) (by decide) (by decide) (by decide)) (fun r M_5 hq => ?_)
  obtain ⟨rfl, p_5_0, p_5_1, kp_5⟩ := hq
  refine T_eq (pc' := 28) (L' := [(0, .ref 217), (1, .ref 62), (2, .ref 202), (3, .ref 193)]) (st' := []) (M' := M_5) rfl rfl rfl rfl ?_
  have hb := p_5_1
  rw [leN_lbN (Nat.le_refl 32), Nat.mod_eq_of_lt (Nat.lt_trans hx (by decide +kernel))] at hb
  have p_6 := (PC.kp (p_1b) kp_5 (by decide) (by decide) (by decide) (by decide) (by decide))
  exact T_vret d_Ex_join_28 rfl (by decide) (by decide) ⟨rfl, p_5_0, PC.pq p_6, hb, (Kp.tr (Kp.tr (Kp.rf : Kp [223, 224, 208, 209, 210, 211, 77, 78, 79, 80, 81, 82, 83, 84, 85, 86, 87, 88, 89, 90, 91, 92, 93, 94, 95, 96, 97, 98, 99, 100, 101, 102, 103, 104, 105, 106, 107, 108, 109, 110, 111, 112, 113, 114, 115, 116, 117, 118, 119, 120, 121, 122, 123, 124, 125, 126, 127, 128, 129, 130, 131, 132, 133, 134, 135, 136, 137, 138, 139, 140, 141, 142, 143, 144, 145, 146, 147, 148, 149, 150, 151, 152, 153, 154, 155, 156, 157, 158, 159, 160, 161, 162, 163, 164, 165, 166, 167, 168, 169, 170, 171, 172, 173, 174, 175, 176, 177, 178, 179, 180, 181, 182] M M) (Kp.mono kp_1 (by decide +kernel))) (Kp.mono kp_5 (by decide +kernel)))⟩
set_option maxHeartbeats 8000000 in
theorem y_Ex_confirm_218 {G : GX} {M : List va_E} {sd : Int32} {ch : Nat} {tx td : Nat} {T hd hs lt : List UInt8} (hko : KO M 62 sd ch) (heo : EO M 217) (hky : KY M) (h228 : BA M 228 64 hs) (h229 : BQ M 229 64) (h230 : BA M 230 64 hd) (hto : BY M 225 226 64 lt) (ht : BQ M 218 64) (hT : TX tx td T) (l1 : hs.length = 64) (l2 : hd.length = 64) (lT : T.length ≤ 20) : CT G mi_Ex_confirm [.ref 217, .ref 62, .ref tx, .ref 218] M (fun r M' => r = none ∧ KY M' ∧ BQ M' 229 64 ∧ (∃ l, BY M' 225 226 64 l) ∧ BA M' 218 64 (hmac (ex1 hs (lab T [])) hd) ∧ Kp ([229, 225, 226, 218] ++ kyW) M M') := by
  refine CT.of (by decide) (Nat.le_of_ble_eq_true rfl) ?_
  show TT G mi_Ex_confirm 0 [(0, .ref 217), (1, .ref 62), (2, .ref tx), (3, .ref 218)] [] M 0 0 _
  refine T_aload_n (v := .ref 62) d_Ex_confirm_0 rfl (Or.inr ⟨_, rfl⟩) ?_
  refine T_getfield (v := .ref 66) d_Ex_confirm_1 fg_Ex_93 hko rfl ?_
  refine T_aload_n (v := .ref 217) d_Ex_confirm_4 rfl (Or.inr ⟨_, rfl⟩) ?_
  refine T_getfield (v := .ref 228) d_Ex_confirm_5 fg_Ex_37 heo rfl ?_
  refine T_aload_n (v := .ref tx) d_Ex_confirm_8 rfl (Or.inr ⟨_, rfl⟩) ?_
  refine T_aload_n (v := .ref 217) d_Ex_confirm_9 rfl (Or.inr ⟨_, rfl⟩) ?_
  refine T_getfield (v := .ref 230) d_Ex_confirm_10 fg_Ex_43 heo rfl ?_
  refine T_iconst (v := nI 0) d_Ex_confirm_13 (by decide) ?_
  refine T_aload_n (v := .ref 217) d_Ex_confirm_14 rfl (Or.inr ⟨_, rfl⟩) ?_
  refine T_getfield (v := .ref 229) d_Ex_confirm_15 fg_Ex_40 heo rfl ?_
  refine T_virtual (as := [.ref 228, .ref tx, .ref 230, .int (nI 0), .ref 229]) (rest := []) (b := 66) d_Ex_confirm_18 rfl (jw_Key_label.jo (by decide)) lm_Ex_104 ji_Key_label js_Key_label hky.1 rfl rfl rfl (Nat.le_of_ble_eq_true rfl) (by decide) (by decide) (y_ky_label_0 hky h228 hT h230 h229 l1 (by decide) (by first | omega | (simp only [List.length_append, List.length_cons, List.length_nil, List.length_replicate, sl_len, be_len, sha_len, xk_len, hmac_len, ex1_len, ex2_len, tag1_len, tC_len, stretch_len, chance_len, enc_len, pub_len, lbN_len, lbF_len, zer8_len, W0_len, W1_len, W2_len, W3_len, W4_len, W5_len, W6_len, W7_len, W8_len, W9_len, W10_len, W11_len, W12_len, W13_len, W14_len, W15_len, W16_len, W17_len, W18_len, W19_len, W20_len, W21_len, sec8_len, seal8_len, xr_len]; done) | (simp only [List.length_append, List.length_cons, List.length_nil, List.length_replicate, sl_len, be_len, sha_len, xk_len, hmac_len, ex1_len, ex2_len, tag1_len, tC_len, stretch_len, chance_len, enc_len, pub_len, lbN_len, lbF_len, zer8_len, W0_len, W1_len, W2_len, W3_len, W4_len, W5_len, W6_len, W7_len, W8_len, W9_len, W10_len, W11_len, W12_len, W13_len, W14_len, W15_len, W16_len, W17_len, W18_len, W19_len, W20_len, W21_len, sec8_len, seal8_len, xr_len]; omega)) (by first | omega | (simp only [List.length_append, List.length_cons, List.length_nil, List.length_replicate, sl_len, be_len, sha_len, xk_len, hmac_len, ex1_len, ex2_len, tag1_len, tC_len, stretch_len, chance_len, enc_len, pub_len, lbN_len, lbF_len, zer8_len, W0_len, W1_len, W2_len, W3_len, W4_len, W5_len, W6_len, W7_len, W8_len, W9_len, W10_len, W11_len, W12_len, W13_len, W14_len, W15_len, W16_len, W17_len, W18_len, W19_len, W20_len, W21_len, sec8_len, seal8_len, xr_len]; done) | (simp only [List.length_append, List.length_cons, List.length_nil, List.length_replicate, sl_len, be_len, sha_len, xk_len, hmac_len, ex1_len, ex2_len, tag1_len, tC_len, stretch_len, chance_len, enc_len, pub_len, lbN_len, lbF_len, zer8_len, W0_len, W1_len, W2_len, W3_len, W4_len, W5_len, W6_len, W7_len, W8_len, W9_len, W10_len, W11_len, W12_len, W13_len, W14_len, W15_len, W16_len, W17_len, W18_len, W19_len, W20_len, W21_len, sec8_len, seal8_len, xr_len]; omega)) (by decide) (by decide) (by decide) (by decide) (by decide) (by decide)) (fun r M_1 hq => ?_)
  obtain ⟨rfl, p_1a, p_1b, kp_1⟩ := hq
  refine T_eq (pc' := 21) (L' := [(0, .ref 217), (1, .ref 62), (2, .ref tx), (3, .ref 218)]) (st' := []) (M' := M_1) rfl rfl rfl rfl ?_
  refine T_aload_n (v := .ref 217) d_Ex_confirm_21 rfl (Or.inr ⟨_, rfl⟩) ?_
  have h_2 := (kp_1 217 (by decide)).trans (heo)
  refine T_getfield (v := .ref 225) d_Ex_confirm_22 fg_Ex_31 h_2 rfl ?_
  have p_3 := (BY.kp (hto) kp_1 (by decide) (by decide))
  refine T_virtual (as := []) (rest := []) (b := 225) d_Ex_confirm_25 rfl (jw_By_clear.jo (by decide)) lm_Ex_46 ji_By_clear js_By_clear p_3.1 rfl rfl rfl (Nat.le_of_ble_eq_true rfl) (by decide) (by decide) (y_By_clear p_3 (by decide)) (fun r M_4 hq => ?_)
  obtain ⟨rfl, p_4_0, kp_4⟩ := hq
  refine T_eq (pc' := 28) (L' := [(0, .ref 217), (1, .ref 62), (2, .ref tx), (3, .ref 218)]) (st' := []) (M' := M_4) rfl rfl rfl rfl ?_
  refine T_aload_n (v := .ref 217) d_Ex_confirm_28 rfl (Or.inr ⟨_, rfl⟩) ?_
  have h_5 := (kp_4 217 (by decide)).trans (h_2)
  refine T_getfield (v := .ref 225) d_Ex_confirm_29 fg_Ex_31 h_5 rfl ?_
  refine T_aload_n (v := .ref 217) d_Ex_confirm_32 rfl (Or.inr ⟨_, rfl⟩) ?_
  refine T_getfield (v := .ref 230) d_Ex_confirm_33 fg_Ex_43 h_5 rfl ?_
  refine T_iconst (v := nI 0) d_Ex_confirm_36 (by decide) ?_
  refine T_bipush (v := nI 64) d_Ex_confirm_37 (by decide) ?_
  have p_6 := (BA.kp ((BA.kp (h230) kp_1 (by decide))) kp_4 (by decide))
  refine T_virtual (as := [.ref 230, .int (nI 0), .int (nI 64)]) (rest := []) (b := 225) d_Ex_confirm_39 rfl (jw_By_put.jo (by decide)) lm_Ex_59 ji_By_put js_By_put p_4_0.1 rfl rfl rfl (Nat.le_of_ble_eq_true rfl) (by decide) (by decide) (y_By_put (at0 := 0) (k := 64) p_4_0 p_6 (by first | omega | (simp only [List.length_append, List.length_cons, List.length_nil, List.length_replicate, sl_len, be_len, sha_len, xk_len, hmac_len, ex1_len, ex2_len, tag1_len, tC_len, stretch_len, chance_len, enc_len, pub_len, lbN_len, lbF_len, zer8_len, W0_len, W1_len, W2_len, W3_len, W4_len, W5_len, W6_len, W7_len, W8_len, W9_len, W10_len, W11_len, W12_len, W13_len, W14_len, W15_len, W16_len, W17_len, W18_len, W19_len, W20_len, W21_len, sec8_len, seal8_len, xr_len]; done) | (simp only [List.length_append, List.length_cons, List.length_nil, List.length_replicate, sl_len, be_len, sha_len, xk_len, hmac_len, ex1_len, ex2_len, tag1_len, tC_len, stretch_len, chance_len, enc_len, pub_len, lbN_len, lbF_len, zer8_len, W0_len, W1_len, W2_len, W3_len, W4_len, W5_len, W6_len, W7_len, W8_len, W9_len, W10_len, W11_len, W12_len, W13_len, W14_len, W15_len, W16_len, W17_len, W18_len, W19_len, W20_len, W21_len, sec8_len, seal8_len, xr_len]; omega)) (by first | omega | (simp only [List.length_append, List.length_cons, List.length_nil, List.length_replicate, sl_len, be_len, sha_len, xk_len, hmac_len, ex1_len, ex2_len, tag1_len, tC_len, stretch_len, chance_len, enc_len, pub_len, lbN_len, lbF_len, zer8_len, W0_len, W1_len, W2_len, W3_len, W4_len, W5_len, W6_len, W7_len, W8_len, W9_len, W10_len, W11_len, W12_len, W13_len, W14_len, W15_len, W16_len, W17_len, W18_len, W19_len, W20_len, W21_len, sec8_len, seal8_len, xr_len]; done) | (simp only [List.length_append, List.length_cons, List.length_nil, List.length_replicate, sl_len, be_len, sha_len, xk_len, hmac_len, ex1_len, ex2_len, tag1_len, tC_len, stretch_len, chance_len, enc_len, pub_len, lbN_len, lbF_len, zer8_len, W0_len, W1_len, W2_len, W3_len, W4_len, W5_len, W6_len, W7_len, W8_len, W9_len, W10_len, W11_len, W12_len, W13_len, W14_len, W15_len, W16_len, W17_len, W18_len, W19_len, W20_len, W21_len, sec8_len, seal8_len, xr_len]; omega)) (by decide) (by decide) (by decide) (by decide) (by decide)) (fun r M_7 hq => ?_)
  obtain ⟨rfl, p_7_0, kp_7⟩ := hq
  refine T_eq (pc' := 42) (L' := [(0, .ref 217), (1, .ref 62), (2, .ref tx), (3, .ref 218)]) (st' := []) (M' := M_7) rfl rfl rfl rfl ?_
  refine T_aload_n (v := .ref 62) d_Ex_confirm_42 rfl (Or.inr ⟨_, rfl⟩) ?_
  have h_8 := (kp_7 62 (by decide)).trans ((kp_4 62 (by decide)).trans ((kp_1 62 (by decide)).trans (hko)))
  refine T_getfield (v := .ref 66) d_Ex_confirm_43 fg_Ex_93 h_8 rfl ?_
  refine T_aload_n (v := .ref 217) d_Ex_confirm_46 rfl (Or.inr ⟨_, rfl⟩) ?_
  have h_9 := (kp_7 217 (by decide)).trans (h_5)
  refine T_getfield (v := .ref 229) d_Ex_confirm_47 fg_Ex_40 h_9 rfl ?_
  refine T_aload_n (v := .ref 217) d_Ex_confirm_50 rfl (Or.inr ⟨_, rfl⟩) ?_
  refine T_getfield (v := .ref 225) d_Ex_confirm_51 fg_Ex_31 h_9 rfl ?_
  refine T_aload_n (v := .ref 218) d_Ex_confirm_54 rfl (Or.inr ⟨_, rfl⟩) ?_
  have p_10 := (KY.kp ((KY.kp (p_1a) kp_4 (by decide))) kp_7 (by decide))
  have p_11 := (BA.kp ((BA.kp (p_1b) kp_4 (by decide))) kp_7 (by decide))
  have p_12 := (BQ.kp ((BQ.kp ((BQ.kp (ht) kp_1 (by decide))) kp_4 (by decide))) kp_7 (by decide))
  refine T_virtual (as := [.ref 229, .ref 225, .ref 218]) (rest := []) (b := 66) d_Ex_confirm_55 rfl (jw_Key_mac.jo (by decide)) lm_Ex_118 ji_Key_mac js_Key_mac p_10.1 rfl rfl rfl (Nat.le_of_ble_eq_true rfl) (by decide) (by decide) (y_ky_mac p_10 p_11 p_7_0 p_12 (by first | omega | (simp only [List.length_append, List.length_cons, List.length_nil, List.length_replicate, sl_len, be_len, sha_len, xk_len, hmac_len, ex1_len, ex2_len, tag1_len, tC_len, stretch_len, chance_len, enc_len, pub_len, lbN_len, lbF_len, zer8_len, W0_len, W1_len, W2_len, W3_len, W4_len, W5_len, W6_len, W7_len, W8_len, W9_len, W10_len, W11_len, W12_len, W13_len, W14_len, W15_len, W16_len, W17_len, W18_len, W19_len, W20_len, W21_len, sec8_len, seal8_len, xr_len]; done) | (simp only [List.length_append, List.length_cons, List.length_nil, List.length_replicate, sl_len, be_len, sha_len, xk_len, hmac_len, ex1_len, ex2_len, tag1_len, tC_len, stretch_len, chance_len, enc_len, pub_len, lbN_len, lbF_len, zer8_len, W0_len, W1_len, W2_len, W3_len, W4_len, W5_len, W6_len, W7_len, W8_len, W9_len, W10_len, W11_len, W12_len, W13_len, W14_len, W15_len, W16_len, W17_len, W18_len, W19_len, W20_len, W21_len, sec8_len, seal8_len, xr_len]; omega)) (by decide) (by first | omega | (simp only [List.length_append, List.length_cons, List.length_nil, List.length_replicate, sl_len, be_len, sha_len, xk_len, hmac_len, ex1_len, ex2_len, tag1_len, tC_len, stretch_len, chance_len, enc_len, pub_len, lbN_len, lbF_len, zer8_len, W0_len, W1_len, W2_len, W3_len, W4_len, W5_len, W6_len, W7_len, W8_len, W9_len, W10_len, W11_len, W12_len, W13_len, W14_len, W15_len, W16_len, W17_len, W18_len, W19_len, W20_len, W21_len, sec8_len, seal8_len, xr_len]; done) | (simp only [List.length_append, List.length_cons, List.length_nil, List.length_replicate, sl_len, be_len, sha_len, xk_len, hmac_len, ex1_len, ex2_len, tag1_len, tC_len, stretch_len, chance_len, enc_len, pub_len, lbN_len, lbF_len, zer8_len, W0_len, W1_len, W2_len, W3_len, W4_len, W5_len, W6_len, W7_len, W8_len, W9_len, W10_len, W11_len, W12_len, W13_len, W14_len, W15_len, W16_len, W17_len, W18_len, W19_len, W20_len, W21_len, sec8_len, seal8_len, xr_len]; omega)) (by decide) (by decide) (by decide) (by decide) (by decide) (by decide)) (fun r M_13 hq => ?_)
  obtain ⟨rfl, p_13_0, p_13_1, kp_13⟩ := hq
  refine T_eq (pc' := 58) (L' := [(0, .ref 217), (1, .ref 62), (2, .ref tx), (3, .ref 218)]) (st' := []) (M' := M_13) rfl rfl rfl rfl ?_
  have h1 := p_13_1
  rw [List.nil_append, sl64 l2, sl0] at h1
  have p_14 := (BA.kp (p_11) kp_13 (by decide))
  have p_15 := (BY.kp (p_7_0) kp_13 (by decide) (by decide))
  exact T_vret d_Ex_confirm_58 rfl (by decide) (by decide) ⟨rfl, p_13_0, BA.bq p_14, ⟨_, p_15⟩, h1, (Kp.tr (Kp.tr (Kp.tr (Kp.tr (Kp.rf : Kp [229, 225, 226, 218, 66, 67, 68, 69, 70, 71, 72, 73, 74, 75, 76] M M) (Kp.mono kp_1 (by decide +kernel))) (Kp.mono kp_4 (by decide))) (Kp.mono kp_7 (by decide))) (Kp.mono kp_13 (by decide +kernel)))⟩
set_option maxHeartbeats 8000000 in
theorem y_Ex_confirm_219 {G : GX} {M : List va_E} {sd : Int32} {ch : Nat} {tx td : Nat} {T hd hs lt : List UInt8} (hko : KO M 62 sd ch) (heo : EO M 217) (hky : KY M) (h228 : BA M 228 64 hs) (h229 : BQ M 229 64) (h230 : BA M 230 64 hd) (hto : BY M 225 226 64 lt) (ht : BQ M 219 64) (hT : TX tx td T) (l1 : hs.length = 64) (l2 : hd.length = 64) (lT : T.length ≤ 20) : CT G mi_Ex_confirm [.ref 217, .ref 62, .ref tx, .ref 219] M (fun r M' => r = none ∧ KY M' ∧ BQ M' 229 64 ∧ (∃ l, BY M' 225 226 64 l) ∧ BA M' 219 64 (hmac (ex1 hs (lab T [])) hd) ∧ Kp ([229, 225, 226, 219] ++ kyW) M M') := by
  refine CT.of (by decide) (Nat.le_of_ble_eq_true rfl) ?_
  show TT G mi_Ex_confirm 0 [(0, .ref 217), (1, .ref 62), (2, .ref tx), (3, .ref 219)] [] M 0 0 _
  refine T_aload_n (v := .ref 62) d_Ex_confirm_0 rfl (Or.inr ⟨_, rfl⟩) ?_
  refine T_getfield (v := .ref 66) d_Ex_confirm_1 fg_Ex_93 hko rfl ?_
  refine T_aload_n (v := .ref 217) d_Ex_confirm_4 rfl (Or.inr ⟨_, rfl⟩) ?_
  refine T_getfield (v := .ref 228) d_Ex_confirm_5 fg_Ex_37 heo rfl ?_
  refine T_aload_n (v := .ref tx) d_Ex_confirm_8 rfl (Or.inr ⟨_, rfl⟩) ?_
  refine T_aload_n (v := .ref 217) d_Ex_confirm_9 rfl (Or.inr ⟨_, rfl⟩) ?_
  refine T_getfield (v := .ref 230) d_Ex_confirm_10 fg_Ex_43 heo rfl ?_
  refine T_iconst (v := nI 0) d_Ex_confirm_13 (by decide) ?_
  refine T_aload_n (v := .ref 217) d_Ex_confirm_14 rfl (Or.inr ⟨_, rfl⟩) ?_
  refine T_getfield (v := .ref 229) d_Ex_confirm_15 fg_Ex_40 heo rfl ?_
  refine T_virtual (as := [.ref 228, .ref tx, .ref 230, .int (nI 0), .ref 229]) (rest := []) (b := 66) d_Ex_confirm_18 rfl (jw_Key_label.jo (by decide)) lm_Ex_104 ji_Key_label js_Key_label hky.1 rfl rfl rfl (Nat.le_of_ble_eq_true rfl) (by decide) (by decide) (y_ky_label_0 hky h228 hT h230 h229 l1 (by decide) (by first | omega | (simp only [List.length_append, List.length_cons, List.length_nil, List.length_replicate, sl_len, be_len, sha_len, xk_len, hmac_len, ex1_len, ex2_len, tag1_len, tC_len, stretch_len, chance_len, enc_len, pub_len, lbN_len, lbF_len, zer8_len, W0_len, W1_len, W2_len, W3_len, W4_len, W5_len, W6_len, W7_len, W8_len, W9_len, W10_len, W11_len, W12_len, W13_len, W14_len, W15_len, W16_len, W17_len, W18_len, W19_len, W20_len, W21_len, sec8_len, seal8_len, xr_len]; done) | (simp only [List.length_append, List.length_cons, List.length_nil, List.length_replicate, sl_len, be_len, sha_len, xk_len, hmac_len, ex1_len, ex2_len, tag1_len, tC_len, stretch_len, chance_len, enc_len, pub_len, lbN_len, lbF_len, zer8_len, W0_len, W1_len, W2_len, W3_len, W4_len, W5_len, W6_len, W7_len, W8_len, W9_len, W10_len, W11_len, W12_len, W13_len, W14_len, W15_len, W16_len, W17_len, W18_len, W19_len, W20_len, W21_len, sec8_len, seal8_len, xr_len]; omega)) (by first | omega | (simp only [List.length_append, List.length_cons, List.length_nil, List.length_replicate, sl_len, be_len, sha_len, xk_len, hmac_len, ex1_len, ex2_len, tag1_len, tC_len, stretch_len, chance_len, enc_len, pub_len, lbN_len, lbF_len, zer8_len, W0_len, W1_len, W2_len, W3_len, W4_len, W5_len, W6_len, W7_len, W8_len, W9_len, W10_len, W11_len, W12_len, W13_len, W14_len, W15_len, W16_len, W17_len, W18_len, W19_len, W20_len, W21_len, sec8_len, seal8_len, xr_len]; done) | (simp only [List.length_append, List.length_cons, List.length_nil, List.length_replicate, sl_len, be_len, sha_len, xk_len, hmac_len, ex1_len, ex2_len, tag1_len, tC_len, stretch_len, chance_len, enc_len, pub_len, lbN_len, lbF_len, zer8_len, W0_len, W1_len, W2_len, W3_len, W4_len, W5_len, W6_len, W7_len, W8_len, W9_len, W10_len, W11_len, W12_len, W13_len, W14_len, W15_len, W16_len, W17_len, W18_len, W19_len, W20_len, W21_len, sec8_len, seal8_len, xr_len]; omega)) (by decide) (by decide) (by decide) (by decide) (by decide) (by decide)) (fun r M_1 hq => ?_)
  obtain ⟨rfl, p_1a, p_1b, kp_1⟩ := hq
  refine T_eq (pc' := 21) (L' := [(0, .ref 217), (1, .ref 62), (2, .ref tx), (3, .ref 219)]) (st' := []) (M' := M_1) rfl rfl rfl rfl ?_
  refine T_aload_n (v := .ref 217) d_Ex_confirm_21 rfl (Or.inr ⟨_, rfl⟩) ?_
  have h_2 := (kp_1 217 (by decide)).trans (heo)
  refine T_getfield (v := .ref 225) d_Ex_confirm_22 fg_Ex_31 h_2 rfl ?_
  have p_3 := (BY.kp (hto) kp_1 (by decide) (by decide))
  refine T_virtual (as := []) (rest := []) (b := 225) d_Ex_confirm_25 rfl (jw_By_clear.jo (by decide)) lm_Ex_46 ji_By_clear js_By_clear p_3.1 rfl rfl rfl (Nat.le_of_ble_eq_true rfl) (by decide) (by decide) (y_By_clear p_3 (by decide)) (fun r M_4 hq => ?_)
  obtain ⟨rfl, p_4_0, kp_4⟩ := hq
  refine T_eq (pc' := 28) (L' := [(0, .ref 217), (1, .ref 62), (2, .ref tx), (3, .ref 219)]) (st' := []) (M' := M_4) rfl rfl rfl rfl ?_
  refine T_aload_n (v := .ref 217) d_Ex_confirm_28 rfl (Or.inr ⟨_, rfl⟩) ?_
  have h_5 := (kp_4 217 (by decide)).trans (h_2)
  refine T_getfield (v := .ref 225) d_Ex_confirm_29 fg_Ex_31 h_5 rfl ?_
  refine T_aload_n (v := .ref 217) d_Ex_confirm_32 rfl (Or.inr ⟨_, rfl⟩) ?_
  refine T_getfield (v := .ref 230) d_Ex_confirm_33 fg_Ex_43 h_5 rfl ?_
  refine T_iconst (v := nI 0) d_Ex_confirm_36 (by decide) ?_
  refine T_bipush (v := nI 64) d_Ex_confirm_37 (by decide) ?_
  have p_6 := (BA.kp ((BA.kp (h230) kp_1 (by decide))) kp_4 (by decide))
  refine T_virtual (as := [.ref 230, .int (nI 0), .int (nI 64)]) (rest := []) (b := 225) d_Ex_confirm_39 rfl (jw_By_put.jo (by decide)) lm_Ex_59 ji_By_put js_By_put p_4_0.1 rfl rfl rfl (Nat.le_of_ble_eq_true rfl) (by decide) (by decide) (y_By_put (at0 := 0) (k := 64) p_4_0 p_6 (by first | omega | (simp only [List.length_append, List.length_cons, List.length_nil, List.length_replicate, sl_len, be_len, sha_len, xk_len, hmac_len, ex1_len, ex2_len, tag1_len, tC_len, stretch_len, chance_len, enc_len, pub_len, lbN_len, lbF_len, zer8_len, W0_len, W1_len, W2_len, W3_len, W4_len, W5_len, W6_len, W7_len, W8_len, W9_len, W10_len, W11_len, W12_len, W13_len, W14_len, W15_len, W16_len, W17_len, W18_len, W19_len, W20_len, W21_len, sec8_len, seal8_len, xr_len]; done) | (simp only [List.length_append, List.length_cons, List.length_nil, List.length_replicate, sl_len, be_len, sha_len, xk_len, hmac_len, ex1_len, ex2_len, tag1_len, tC_len, stretch_len, chance_len, enc_len, pub_len, lbN_len, lbF_len, zer8_len, W0_len, W1_len, W2_len, W3_len, W4_len, W5_len, W6_len, W7_len, W8_len, W9_len, W10_len, W11_len, W12_len, W13_len, W14_len, W15_len, W16_len, W17_len, W18_len, W19_len, W20_len, W21_len, sec8_len, seal8_len, xr_len]; omega)) (by first | omega | (simp only [List.length_append, List.length_cons, List.length_nil, List.length_replicate, sl_len, be_len, sha_len, xk_len, hmac_len, ex1_len, ex2_len, tag1_len, tC_len, stretch_len, chance_len, enc_len, pub_len, lbN_len, lbF_len, zer8_len, W0_len, W1_len, W2_len, W3_len, W4_len, W5_len, W6_len, W7_len, W8_len, W9_len, W10_len, W11_len, W12_len, W13_len, W14_len, W15_len, W16_len, W17_len, W18_len, W19_len, W20_len, W21_len, sec8_len, seal8_len, xr_len]; done) | (simp only [List.length_append, List.length_cons, List.length_nil, List.length_replicate, sl_len, be_len, sha_len, xk_len, hmac_len, ex1_len, ex2_len, tag1_len, tC_len, stretch_len, chance_len, enc_len, pub_len, lbN_len, lbF_len, zer8_len, W0_len, W1_len, W2_len, W3_len, W4_len, W5_len, W6_len, W7_len, W8_len, W9_len, W10_len, W11_len, W12_len, W13_len, W14_len, W15_len, W16_len, W17_len, W18_len, W19_len, W20_len, W21_len, sec8_len, seal8_len, xr_len]; omega)) (by decide) (by decide) (by decide) (by decide) (by decide)) (fun r M_7 hq => ?_)
  obtain ⟨rfl, p_7_0, kp_7⟩ := hq
  refine T_eq (pc' := 42) (L' := [(0, .ref 217), (1, .ref 62), (2, .ref tx), (3, .ref 219)]) (st' := []) (M' := M_7) rfl rfl rfl rfl ?_
  refine T_aload_n (v := .ref 62) d_Ex_confirm_42 rfl (Or.inr ⟨_, rfl⟩) ?_
  have h_8 := (kp_7 62 (by decide)).trans ((kp_4 62 (by decide)).trans ((kp_1 62 (by decide)).trans (hko)))
  refine T_getfield (v := .ref 66) d_Ex_confirm_43 fg_Ex_93 h_8 rfl ?_
  refine T_aload_n (v := .ref 217) d_Ex_confirm_46 rfl (Or.inr ⟨_, rfl⟩) ?_
  have h_9 := (kp_7 217 (by decide)).trans (h_5)
  refine T_getfield (v := .ref 229) d_Ex_confirm_47 fg_Ex_40 h_9 rfl ?_
  refine T_aload_n (v := .ref 217) d_Ex_confirm_50 rfl (Or.inr ⟨_, rfl⟩) ?_
  refine T_getfield (v := .ref 225) d_Ex_confirm_51 fg_Ex_31 h_9 rfl ?_
  refine T_aload_n (v := .ref 219) d_Ex_confirm_54 rfl (Or.inr ⟨_, rfl⟩) ?_
  have p_10 := (KY.kp ((KY.kp (p_1a) kp_4 (by decide))) kp_7 (by decide))
  have p_11 := (BA.kp ((BA.kp (p_1b) kp_4 (by decide))) kp_7 (by decide))
  have p_12 := (BQ.kp ((BQ.kp ((BQ.kp (ht) kp_1 (by decide))) kp_4 (by decide))) kp_7 (by decide))
  refine T_virtual (as := [.ref 229, .ref 225, .ref 219]) (rest := []) (b := 66) d_Ex_confirm_55 rfl (jw_Key_mac.jo (by decide)) lm_Ex_118 ji_Key_mac js_Key_mac p_10.1 rfl rfl rfl (Nat.le_of_ble_eq_true rfl) (by decide) (by decide) (y_ky_mac p_10 p_11 p_7_0 p_12 (by first | omega | (simp only [List.length_append, List.length_cons, List.length_nil, List.length_replicate, sl_len, be_len, sha_len, xk_len, hmac_len, ex1_len, ex2_len, tag1_len, tC_len, stretch_len, chance_len, enc_len, pub_len, lbN_len, lbF_len, zer8_len, W0_len, W1_len, W2_len, W3_len, W4_len, W5_len, W6_len, W7_len, W8_len, W9_len, W10_len, W11_len, W12_len, W13_len, W14_len, W15_len, W16_len, W17_len, W18_len, W19_len, W20_len, W21_len, sec8_len, seal8_len, xr_len]; done) | (simp only [List.length_append, List.length_cons, List.length_nil, List.length_replicate, sl_len, be_len, sha_len, xk_len, hmac_len, ex1_len, ex2_len, tag1_len, tC_len, stretch_len, chance_len, enc_len, pub_len, lbN_len, lbF_len, zer8_len, W0_len, W1_len, W2_len, W3_len, W4_len, W5_len, W6_len, W7_len, W8_len, W9_len, W10_len, W11_len, W12_len, W13_len, W14_len, W15_len, W16_len, W17_len, W18_len, W19_len, W20_len, W21_len, sec8_len, seal8_len, xr_len]; omega)) (by decide) (by first | omega | (simp only [List.length_append, List.length_cons, List.length_nil, List.length_replicate, sl_len, be_len, sha_len, xk_len, hmac_len, ex1_len, ex2_len, tag1_len, tC_len, stretch_len, chance_len, enc_len, pub_len, lbN_len, lbF_len, zer8_len, W0_len, W1_len, W2_len, W3_len, W4_len, W5_len, W6_len, W7_len, W8_len, W9_len, W10_len, W11_len, W12_len, W13_len, W14_len, W15_len, W16_len, W17_len, W18_len, W19_len, W20_len, W21_len, sec8_len, seal8_len, xr_len]; done) | (simp only [List.length_append, List.length_cons, List.length_nil, List.length_replicate, sl_len, be_len, sha_len, xk_len, hmac_len, ex1_len, ex2_len, tag1_len, tC_len, stretch_len, chance_len, enc_len, pub_len, lbN_len, lbF_len, zer8_len, W0_len, W1_len, W2_len, W3_len, W4_len, W5_len, W6_len, W7_len, W8_len, W9_len, W10_len, W11_len, W12_len, W13_len, W14_len, W15_len, W16_len, W17_len, W18_len, W19_len, W20_len, W21_len, sec8_len, seal8_len, xr_len]; omega)) (by decide) (by decide) (by decide) (by decide) (by decide) (by decide)) (fun r M_13 hq => ?_)
  obtain ⟨rfl, p_13_0, p_13_1, kp_13⟩ := hq
  refine T_eq (pc' := 58) (L' := [(0, .ref 217), (1, .ref 62), (2, .ref tx), (3, .ref 219)]) (st' := []) (M' := M_13) rfl rfl rfl rfl ?_
  have h1 := p_13_1
  rw [List.nil_append, sl64 l2, sl0] at h1
  have p_14 := (BA.kp (p_11) kp_13 (by decide))
  have p_15 := (BY.kp (p_7_0) kp_13 (by decide) (by decide))
  exact T_vret d_Ex_confirm_58 rfl (by decide) (by decide) ⟨rfl, p_13_0, BA.bq p_14, ⟨_, p_15⟩, h1, (Kp.tr (Kp.tr (Kp.tr (Kp.tr (Kp.rf : Kp [229, 225, 226, 219, 66, 67, 68, 69, 70, 71, 72, 73, 74, 75, 76] M M) (Kp.mono kp_1 (by decide +kernel))) (Kp.mono kp_4 (by decide))) (Kp.mono kp_7 (by decide))) (Kp.mono kp_13 (by decide +kernel)))⟩
def xP (j : List UInt8) : List UInt8 := hmac (zer8 64) j
def xK (j p : List UInt8) : List UInt8 := ex1 (xP j) (lab W17 (sha p))
def xSess (j p : List UInt8) : List UInt8 := ex1 (xP j) (lab W19 (sha p))
def xSrv (j p : List UInt8) : List UInt8 := hmac (ex1 (xK j p) (lab W20 [])) (sha p)
def xCli (j p : List UInt8) : List UInt8 := hmac (ex1 (xK j p) (lab W21 [])) (sha (p ++ xSrv j p))
theorem xSess_len (j p : List UInt8) : (xSess j p).length = 64 := sha_len _
theorem xSrv_len (j p : List UInt8) : (xSrv j p).length = 64 := sha_len _
theorem xCli_len (j p : List UInt8) : (xCli j p).length = 64 := sha_len _
set_option maxHeartbeats 8000000 in
theorem y_Ex_settle {G : GX} {M : List va_E} {sd : Int32} {ch : Nat} {pr j lt : List UInt8} (hko : KO M 62 sd ch) (heo : EO M 217) (hdg : DQ M 63 64 65) (hky : KY M) (hpr : BY M 221 222 500 pr) (hjo : BY M 223 224 96 j) (hto : BY M 225 226 64 lt) (h218 : BQ M 218 64) (h219 : BQ M 219 64) (h220 : BQ M 220 64) (h227 : BQ M 227 64) (h228 : BQ M 228 64) (h229 : BQ M 229 64) (h230 : BQ M 230 64) (l1 : pr.length ≤ 436) : CT G mi_Ex_settle [.ref 217, .ref 62] M (fun r M' => r = none ∧ DQ M' 63 64 65 ∧ KY M' ∧ (∃ l, BY M' 221 222 500 l) ∧ BY M' 223 224 96 j ∧ (∃ l, BY M' 225 226 64 l) ∧ BA M' 218 64 (xSrv j pr) ∧ BA M' 219 64 (xCli j pr) ∧ BA M' 220 64 (xSess j pr) ∧ BQ M' 227 64 ∧ BQ M' 228 64 ∧ BQ M' 229 64 ∧ BQ M' 230 64 ∧ Kp ([64, 65, 218, 219, 220, 221, 222, 225, 226, 227, 228, 229, 230] ++ kyW) M M') := by
  have l2 := hjo.2.le
  refine CT.of (by decide) (Nat.le_of_ble_eq_true rfl) ?_
  show TT G mi_Ex_settle 0 [(0, .ref 217), (1, .ref 62)] [] M 0 0 _
  refine T_aload_n (v := .ref 62) d_Ex_settle_0 rfl (Or.inr ⟨_, rfl⟩) ?_
  refine T_getfield (v := .ref 63) d_Ex_settle_1 fg_Ex_83 hko rfl ?_
  refine T_aload_n (v := .ref 217) d_Ex_settle_4 rfl (Or.inr ⟨_, rfl⟩) ?_
  refine T_getfield (v := .ref 221) d_Ex_settle_5 fg_Ex_24 heo rfl ?_
  refine T_aload_n (v := .ref 217) d_Ex_settle_8 rfl (Or.inr ⟨_, rfl⟩) ?_
  refine T_getfield (v := .ref 230) d_Ex_settle_9 fg_Ex_43 heo rfl ?_
  refine T_virtual (as := [.ref 221, .ref 230]) (rest := []) (b := 63) d_Ex_settle_12 rfl (jw_Dig_run.jo (by decide)) lm_Ex_87 ji_Dig_run js_Dig_run hdg.1 rfl rfl rfl (Nat.le_of_ble_eq_true rfl) (by decide) (by decide) (y_run hdg hpr h230 (by decide) (by decide) (by decide) (by decide) (by decide) (by decide) (by decide) (by decide) (by decide) (by decide) (by decide) (by decide) (by decide) (by decide) (by decide) (by decide)) (fun r M_1 hq => ?_)
  obtain ⟨rfl, p_1_0, p_1_1, kp_1⟩ := hq
  refine T_eq (pc' := 15) (L' := [(0, .ref 217), (1, .ref 62)]) (st' := []) (M' := M_1) rfl rfl rfl rfl ?_
  refine T_aload_n (v := .ref 62) d_Ex_settle_15 rfl (Or.inr ⟨_, rfl⟩) ?_
  have h_2 := (kp_1 62 (by decide)).trans (hko)
  refine T_getfield (v := .ref 66) d_Ex_settle_16 fg_Ex_93 h_2 rfl ?_
  refine T_aload_n (v := .ref 217) d_Ex_settle_19 rfl (Or.inr ⟨_, rfl⟩) ?_
  have h_3 := (kp_1 217 (by decide)).trans (heo)
  refine T_getfield (v := .ref 223) d_Ex_settle_20 fg_Ex_28 h_3 rfl ?_
  refine T_aload_n (v := .ref 217) d_Ex_settle_23 rfl (Or.inr ⟨_, rfl⟩) ?_
  refine T_getfield (v := .ref 227) d_Ex_settle_24 fg_Ex_34 h_3 rfl ?_
  have p_4 := (KY.kp (hky) kp_1 (by decide))
  have p_5 := (BY.kp (hjo) kp_1 (by decide) (by decide))
  have p_6 := (BQ.kp (h227) kp_1 (by decide))
  refine T_virtual (as := [.ref 223, .ref 227]) (rest := []) (b := 66) d_Ex_settle_27 rfl (jw_Key_extract.jo (by decide)) lm_Ex_97 ji_Key_extract js_Key_extract p_4.1 rfl rfl rfl (Nat.le_of_ble_eq_true rfl) (by decide) (by decide) (y_ky_extract p_4 p_5 p_6 (by first | omega | (simp only [List.length_append, List.length_cons, List.length_nil, List.length_replicate, sl_len, be_len, sha_len, xk_len, hmac_len, ex1_len, ex2_len, tag1_len, tC_len, stretch_len, chance_len, enc_len, pub_len, lbN_len, lbF_len, zer8_len, W0_len, W1_len, W2_len, W3_len, W4_len, W5_len, W6_len, W7_len, W8_len, W9_len, W10_len, W11_len, W12_len, W13_len, W14_len, W15_len, W16_len, W17_len, W18_len, W19_len, W20_len, W21_len, sec8_len, seal8_len, xr_len]; done) | (simp only [List.length_append, List.length_cons, List.length_nil, List.length_replicate, sl_len, be_len, sha_len, xk_len, hmac_len, ex1_len, ex2_len, tag1_len, tC_len, stretch_len, chance_len, enc_len, pub_len, lbN_len, lbF_len, zer8_len, W0_len, W1_len, W2_len, W3_len, W4_len, W5_len, W6_len, W7_len, W8_len, W9_len, W10_len, W11_len, W12_len, W13_len, W14_len, W15_len, W16_len, W17_len, W18_len, W19_len, W20_len, W21_len, sec8_len, seal8_len, xr_len]; omega)) (by decide) (by decide) (by decide) (by decide) (by decide) (by decide)) (fun r M_7 hq => ?_)
  obtain ⟨rfl, p_7_0, p_7_1, kp_7⟩ := hq
  refine T_eq (pc' := 30) (L' := [(0, .ref 217), (1, .ref 62)]) (st' := []) (M' := M_7) rfl rfl rfl rfl ?_
  refine T_aload_n (v := .ref 62) d_Ex_settle_30 rfl (Or.inr ⟨_, rfl⟩) ?_
  have h_8 := (kp_7 62 (by decide)).trans (h_2)
  refine T_getfield (v := .ref 66) d_Ex_settle_31 fg_Ex_93 h_8 rfl ?_
  refine T_aload_n (v := .ref 217) d_Ex_settle_34 rfl (Or.inr ⟨_, rfl⟩) ?_
  have h_9 := (kp_7 217 (by decide)).trans (h_3)
  refine T_getfield (v := .ref 227) d_Ex_settle_35 fg_Ex_34 h_9 rfl ?_
  refine T_ldcS (q := scl.getD 17 ("", 0, "", 0)) d_Ex_settle_38 (List.mem_of_getElem? (i := 17) rfl) rfl rfl (by decide) ?_
  refine T_aload_n (v := .ref 217) d_Ex_settle_40 rfl (Or.inr ⟨_, rfl⟩) ?_
  refine T_getfield (v := .ref 230) d_Ex_settle_41 fg_Ex_43 h_9 rfl ?_
  refine T_bipush (v := nI 64) d_Ex_settle_44 (by decide) ?_
  refine T_aload_n (v := .ref 217) d_Ex_settle_46 rfl (Or.inr ⟨_, rfl⟩) ?_
  refine T_getfield (v := .ref 228) d_Ex_settle_47 fg_Ex_37 h_9 rfl ?_
  have p_11 := (BA.kp (p_1_1) kp_7 (by decide))
  have p_12 := (BQ.kp ((BQ.kp (h228) kp_1 (by decide))) kp_7 (by decide))
  refine T_virtual (as := [.ref 227, .ref 48, .ref 230, .int (nI 64), .ref 228]) (rest := []) (b := 66) d_Ex_settle_50 rfl (jw_Key_label.jo (by decide)) lm_Ex_104 ji_Key_label js_Key_label p_7_0.1 rfl rfl rfl (Nat.le_of_ble_eq_true rfl) (by decide) (by decide) (y_ky_label_64 p_7_0 p_7_1 tx_48_ p_11 p_12 (by first | omega | (simp only [List.length_append, List.length_cons, List.length_nil, List.length_replicate, sl_len, be_len, sha_len, xk_len, hmac_len, ex1_len, ex2_len, tag1_len, tC_len, stretch_len, chance_len, enc_len, pub_len, lbN_len, lbF_len, zer8_len, W0_len, W1_len, W2_len, W3_len, W4_len, W5_len, W6_len, W7_len, W8_len, W9_len, W10_len, W11_len, W12_len, W13_len, W14_len, W15_len, W16_len, W17_len, W18_len, W19_len, W20_len, W21_len, sec8_len, seal8_len, xr_len]; done) | (simp only [List.length_append, List.length_cons, List.length_nil, List.length_replicate, sl_len, be_len, sha_len, xk_len, hmac_len, ex1_len, ex2_len, tag1_len, tC_len, stretch_len, chance_len, enc_len, pub_len, lbN_len, lbF_len, zer8_len, W0_len, W1_len, W2_len, W3_len, W4_len, W5_len, W6_len, W7_len, W8_len, W9_len, W10_len, W11_len, W12_len, W13_len, W14_len, W15_len, W16_len, W17_len, W18_len, W19_len, W20_len, W21_len, sec8_len, seal8_len, xr_len]; omega)) (by decide) (by first | omega | (simp only [List.length_append, List.length_cons, List.length_nil, List.length_replicate, sl_len, be_len, sha_len, xk_len, hmac_len, ex1_len, ex2_len, tag1_len, tC_len, stretch_len, chance_len, enc_len, pub_len, lbN_len, lbF_len, zer8_len, W0_len, W1_len, W2_len, W3_len, W4_len, W5_len, W6_len, W7_len, W8_len, W9_len, W10_len, W11_len, W12_len, W13_len, W14_len, W15_len, W16_len, W17_len, W18_len, W19_len, W20_len, W21_len, sec8_len, seal8_len, xr_len]; done) | (simp only [List.length_append, List.length_cons, List.length_nil, List.length_replicate, sl_len, be_len, sha_len, xk_len, hmac_len, ex1_len, ex2_len, tag1_len, tC_len, stretch_len, chance_len, enc_len, pub_len, lbN_len, lbF_len, zer8_len, W0_len, W1_len, W2_len, W3_len, W4_len, W5_len, W6_len, W7_len, W8_len, W9_len, W10_len, W11_len, W12_len, W13_len, W14_len, W15_len, W16_len, W17_len, W18_len, W19_len, W20_len, W21_len, sec8_len, seal8_len, xr_len]; omega)) (by first | omega | (simp only [List.length_append, List.length_cons, List.length_nil, List.length_replicate, sl_len, be_len, sha_len, xk_len, hmac_len, ex1_len, ex2_len, tag1_len, tC_len, stretch_len, chance_len, enc_len, pub_len, lbN_len, lbF_len, zer8_len, W0_len, W1_len, W2_len, W3_len, W4_len, W5_len, W6_len, W7_len, W8_len, W9_len, W10_len, W11_len, W12_len, W13_len, W14_len, W15_len, W16_len, W17_len, W18_len, W19_len, W20_len, W21_len, sec8_len, seal8_len, xr_len]; done) | (simp only [List.length_append, List.length_cons, List.length_nil, List.length_replicate, sl_len, be_len, sha_len, xk_len, hmac_len, ex1_len, ex2_len, tag1_len, tC_len, stretch_len, chance_len, enc_len, pub_len, lbN_len, lbF_len, zer8_len, W0_len, W1_len, W2_len, W3_len, W4_len, W5_len, W6_len, W7_len, W8_len, W9_len, W10_len, W11_len, W12_len, W13_len, W14_len, W15_len, W16_len, W17_len, W18_len, W19_len, W20_len, W21_len, sec8_len, seal8_len, xr_len]; omega)) (by decide) (by decide) (by decide) (by decide) (by decide) (by decide)) (fun r M_10 hq => ?_)
  obtain ⟨rfl, p_10a, p_10b, kp_10⟩ := hq
  refine T_eq (pc' := 53) (L' := [(0, .ref 217), (1, .ref 62)]) (st' := []) (M' := M_10) rfl rfl rfl rfl ?_
  refine T_aload_n (v := .ref 62) d_Ex_settle_53 rfl (Or.inr ⟨_, rfl⟩) ?_
  have h_13 := (kp_10 62 (by decide)).trans (h_8)
  refine T_getfield (v := .ref 66) d_Ex_settle_54 fg_Ex_93 h_13 rfl ?_
  refine T_aload_n (v := .ref 217) d_Ex_settle_57 rfl (Or.inr ⟨_, rfl⟩) ?_
  have h_14 := (kp_10 217 (by decide)).trans (h_9)
  refine T_getfield (v := .ref 227) d_Ex_settle_58 fg_Ex_34 h_14 rfl ?_
  refine T_ldcS (q := scl.getD 19 ("", 0, "", 0)) d_Ex_settle_61 (List.mem_of_getElem? (i := 19) rfl) rfl rfl (by decide) ?_
  refine T_aload_n (v := .ref 217) d_Ex_settle_63 rfl (Or.inr ⟨_, rfl⟩) ?_
  refine T_getfield (v := .ref 230) d_Ex_settle_64 fg_Ex_43 h_14 rfl ?_
  refine T_bipush (v := nI 64) d_Ex_settle_67 (by decide) ?_
  refine T_aload_n (v := .ref 217) d_Ex_settle_69 rfl (Or.inr ⟨_, rfl⟩) ?_
  refine T_getfield (v := .ref 220) d_Ex_settle_70 fg_Ex_16 h_14 rfl ?_
  have p_16 := (BA.kp (p_7_1) kp_10 (by decide))
  have p_17 := (BA.kp (p_11) kp_10 (by decide))
  have p_18 := (BQ.kp ((BQ.kp ((BQ.kp (h220) kp_1 (by decide))) kp_7 (by decide))) kp_10 (by decide))
  refine T_virtual (as := [.ref 227, .ref 52, .ref 230, .int (nI 64), .ref 220]) (rest := []) (b := 66) d_Ex_settle_73 rfl (jw_Key_label.jo (by decide)) lm_Ex_104 ji_Key_label js_Key_label p_10a.1 rfl rfl rfl (Nat.le_of_ble_eq_true rfl) (by decide) (by decide) (y_ky_label_64 p_10a p_16 tx_52_ p_17 p_18 (by first | omega | (simp only [List.length_append, List.length_cons, List.length_nil, List.length_replicate, sl_len, be_len, sha_len, xk_len, hmac_len, ex1_len, ex2_len, tag1_len, tC_len, stretch_len, chance_len, enc_len, pub_len, lbN_len, lbF_len, zer8_len, W0_len, W1_len, W2_len, W3_len, W4_len, W5_len, W6_len, W7_len, W8_len, W9_len, W10_len, W11_len, W12_len, W13_len, W14_len, W15_len, W16_len, W17_len, W18_len, W19_len, W20_len, W21_len, sec8_len, seal8_len, xr_len]; done) | (simp only [List.length_append, List.length_cons, List.length_nil, List.length_replicate, sl_len, be_len, sha_len, xk_len, hmac_len, ex1_len, ex2_len, tag1_len, tC_len, stretch_len, chance_len, enc_len, pub_len, lbN_len, lbF_len, zer8_len, W0_len, W1_len, W2_len, W3_len, W4_len, W5_len, W6_len, W7_len, W8_len, W9_len, W10_len, W11_len, W12_len, W13_len, W14_len, W15_len, W16_len, W17_len, W18_len, W19_len, W20_len, W21_len, sec8_len, seal8_len, xr_len]; omega)) (by decide) (by first | omega | (simp only [List.length_append, List.length_cons, List.length_nil, List.length_replicate, sl_len, be_len, sha_len, xk_len, hmac_len, ex1_len, ex2_len, tag1_len, tC_len, stretch_len, chance_len, enc_len, pub_len, lbN_len, lbF_len, zer8_len, W0_len, W1_len, W2_len, W3_len, W4_len, W5_len, W6_len, W7_len, W8_len, W9_len, W10_len, W11_len, W12_len, W13_len, W14_len, W15_len, W16_len, W17_len, W18_len, W19_len, W20_len, W21_len, sec8_len, seal8_len, xr_len]; done) | (simp only [List.length_append, List.length_cons, List.length_nil, List.length_replicate, sl_len, be_len, sha_len, xk_len, hmac_len, ex1_len, ex2_len, tag1_len, tC_len, stretch_len, chance_len, enc_len, pub_len, lbN_len, lbF_len, zer8_len, W0_len, W1_len, W2_len, W3_len, W4_len, W5_len, W6_len, W7_len, W8_len, W9_len, W10_len, W11_len, W12_len, W13_len, W14_len, W15_len, W16_len, W17_len, W18_len, W19_len, W20_len, W21_len, sec8_len, seal8_len, xr_len]; omega)) (by first | omega | (simp only [List.length_append, List.length_cons, List.length_nil, List.length_replicate, sl_len, be_len, sha_len, xk_len, hmac_len, ex1_len, ex2_len, tag1_len, tC_len, stretch_len, chance_len, enc_len, pub_len, lbN_len, lbF_len, zer8_len, W0_len, W1_len, W2_len, W3_len, W4_len, W5_len, W6_len, W7_len, W8_len, W9_len, W10_len, W11_len, W12_len, W13_len, W14_len, W15_len, W16_len, W17_len, W18_len, W19_len, W20_len, W21_len, sec8_len, seal8_len, xr_len]; done) | (simp only [List.length_append, List.length_cons, List.length_nil, List.length_replicate, sl_len, be_len, sha_len, xk_len, hmac_len, ex1_len, ex2_len, tag1_len, tC_len, stretch_len, chance_len, enc_len, pub_len, lbN_len, lbF_len, zer8_len, W0_len, W1_len, W2_len, W3_len, W4_len, W5_len, W6_len, W7_len, W8_len, W9_len, W10_len, W11_len, W12_len, W13_len, W14_len, W15_len, W16_len, W17_len, W18_len, W19_len, W20_len, W21_len, sec8_len, seal8_len, xr_len]; omega)) (by decide) (by decide) (by decide) (by decide) (by decide) (by decide)) (fun r M_15 hq => ?_)
  obtain ⟨rfl, p_15a, p_15b, kp_15⟩ := hq
  refine T_eq (pc' := 76) (L' := [(0, .ref 217), (1, .ref 62)]) (st' := []) (M' := M_15) rfl rfl rfl rfl ?_
  refine T_aload_n (v := .ref 217) d_Ex_settle_76 rfl (Or.inr ⟨_, rfl⟩) ?_
  refine T_aload_n (v := .ref 62) d_Ex_settle_77 rfl (Or.inr ⟨_, rfl⟩) ?_
  refine T_ldcS (q := scl.getD 20 ("", 0, "", 0)) d_Ex_settle_78 (List.mem_of_getElem? (i := 20) rfl) rfl rfl (by decide) ?_
  refine T_aload_n (v := .ref 217) d_Ex_settle_80 rfl (Or.inr ⟨_, rfl⟩) ?_
  have h_19 := (kp_15 217 (by decide)).trans (h_14)
  refine T_getfield (v := .ref 218) d_Ex_settle_81 fg_Ex_7 h_19 rfl ?_
  have p_21 := (KO.kp ((KO.kp ((KO.kp ((KO.kp (hko) kp_1 (by decide))) kp_7 (by decide))) kp_10 (by decide))) kp_15 (by decide))
  have p_22 := (EO.kp ((EO.kp ((EO.kp ((EO.kp (heo) kp_1 (by decide))) kp_7 (by decide))) kp_10 (by decide))) kp_15 (by decide))
  have p_23 := (BA.kp (p_10b) kp_15 (by decide))
  have p_24 := (BQ.kp ((BQ.kp ((BQ.kp ((BQ.kp (h229) kp_1 (by decide))) kp_7 (by decide))) kp_10 (by decide))) kp_15 (by decide))
  have p_25 := (BA.kp (p_17) kp_15 (by decide))
  have p_26 := (BY.kp ((BY.kp ((BY.kp ((BY.kp (hto) kp_1 (by decide) (by decide))) kp_7 (by decide) (by decide))) kp_10 (by decide) (by decide))) kp_15 (by decide) (by decide))
  have p_27 := (BQ.kp ((BQ.kp ((BQ.kp ((BQ.kp (h218) kp_1 (by decide))) kp_7 (by decide))) kp_10 (by decide))) kp_15 (by decide))
  refine T_virtual (as := [.ref 62, .ref 54, .ref 218]) (rest := []) (b := 217) d_Ex_settle_84 rfl (jw_Ex_confirm.jo (by decide)) lm_Ex_112 ji_Ex_confirm js_Ex_confirm h_19 rfl rfl rfl (Nat.le_of_ble_eq_true rfl) (by decide) (by decide) (y_Ex_confirm_218 p_21 p_22 p_15a p_23 p_24 p_25 p_26 p_27 tx_54_ (by first | omega | (simp only [List.length_append, List.length_cons, List.length_nil, List.length_replicate, sl_len, be_len, sha_len, xk_len, hmac_len, ex1_len, ex2_len, tag1_len, tC_len, stretch_len, chance_len, enc_len, pub_len, lbN_len, lbF_len, zer8_len, W0_len, W1_len, W2_len, W3_len, W4_len, W5_len, W6_len, W7_len, W8_len, W9_len, W10_len, W11_len, W12_len, W13_len, W14_len, W15_len, W16_len, W17_len, W18_len, W19_len, W20_len, W21_len, sec8_len, seal8_len, xr_len]; done) | (simp only [List.length_append, List.length_cons, List.length_nil, List.length_replicate, sl_len, be_len, sha_len, xk_len, hmac_len, ex1_len, ex2_len, tag1_len, tC_len, stretch_len, chance_len, enc_len, pub_len, lbN_len, lbF_len, zer8_len, W0_len, W1_len, W2_len, W3_len, W4_len, W5_len, W6_len, W7_len, W8_len, W9_len, W10_len, W11_len, W12_len, W13_len, W14_len, W15_len, W16_len, W17_len, W18_len, W19_len, W20_len, W21_len, sec8_len, seal8_len, xr_len]; omega)) (by first | omega | (simp only [List.length_append, List.length_cons, List.length_nil, List.length_replicate, sl_len, be_len, sha_len, xk_len, hmac_len, ex1_len, ex2_len, tag1_len, tC_len, stretch_len, chance_len, enc_len, pub_len, lbN_len, lbF_len, zer8_len, W0_len, W1_len, W2_len, W3_len, W4_len, W5_len, W6_len, W7_len, W8_len, W9_len, W10_len, W11_len, W12_len, W13_len, W14_len, W15_len, W16_len, W17_len, W18_len, W19_len, W20_len, W21_len, sec8_len, seal8_len, xr_len]; done) | (simp only [List.length_append, List.length_cons, List.length_nil, List.length_replicate, sl_len, be_len, sha_len, xk_len, hmac_len, ex1_len, ex2_len, tag1_len, tC_len, stretch_len, chance_len, enc_len, pub_len, lbN_len, lbF_len, zer8_len, W0_len, W1_len, W2_len, W3_len, W4_len, W5_len, W6_len, W7_len, W8_len, W9_len, W10_len, W11_len, W12_len, W13_len, W14_len, W15_len, W16_len, W17_len, W18_len, W19_len, W20_len, W21_len, sec8_len, seal8_len, xr_len]; omega)) (by first | omega | (simp only [List.length_append, List.length_cons, List.length_nil, List.length_replicate, sl_len, be_len, sha_len, xk_len, hmac_len, ex1_len, ex2_len, tag1_len, tC_len, stretch_len, chance_len, enc_len, pub_len, lbN_len, lbF_len, zer8_len, W0_len, W1_len, W2_len, W3_len, W4_len, W5_len, W6_len, W7_len, W8_len, W9_len, W10_len, W11_len, W12_len, W13_len, W14_len, W15_len, W16_len, W17_len, W18_len, W19_len, W20_len, W21_len, sec8_len, seal8_len, xr_len]; done) | (simp only [List.length_append, List.length_cons, List.length_nil, List.length_replicate, sl_len, be_len, sha_len, xk_len, hmac_len, ex1_len, ex2_len, tag1_len, tC_len, stretch_len, chance_len, enc_len, pub_len, lbN_len, lbF_len, zer8_len, W0_len, W1_len, W2_len, W3_len, W4_len, W5_len, W6_len, W7_len, W8_len, W9_len, W10_len, W11_len, W12_len, W13_len, W14_len, W15_len, W16_len, W17_len, W18_len, W19_len, W20_len, W21_len, sec8_len, seal8_len, xr_len]; omega))) (fun r M_20 hq => ?_)
  obtain ⟨rfl, p_20a, p_20b, ⟨lt_20, p_20c⟩, p_20d, kp_20⟩ := hq
  refine T_eq (pc' := 87) (L' := [(0, .ref 217), (1, .ref 62)]) (st' := []) (M' := M_20) rfl rfl rfl rfl ?_
  refine T_aload_n (v := .ref 217) d_Ex_settle_87 rfl (Or.inr ⟨_, rfl⟩) ?_
  have h_28 := (kp_20 217 (by decide)).trans (h_19)
  refine T_getfield (v := .ref 221) d_Ex_settle_88 fg_Ex_24 h_28 rfl ?_
  refine T_aload_n (v := .ref 217) d_Ex_settle_91 rfl (Or.inr ⟨_, rfl⟩) ?_
  refine T_getfield (v := .ref 218) d_Ex_settle_92 fg_Ex_7 h_28 rfl ?_
  refine T_iconst (v := nI 0) d_Ex_settle_95 (by decide) ?_
  refine T_bipush (v := nI 64) d_Ex_settle_96 (by decide) ?_
  have p_29 := (BY.kp ((BY.kp ((BY.kp ((BY.kp ((BY.kp (hpr) kp_1 (by decide) (by decide))) kp_7 (by decide) (by decide))) kp_10 (by decide) (by decide))) kp_15 (by decide) (by decide))) kp_20 (by decide) (by decide))
  refine T_virtual (as := [.ref 218, .int (nI 0), .int (nI 64)]) (rest := []) (b := 221) d_Ex_settle_98 rfl (jw_By_put.jo (by decide)) lm_Ex_59 ji_By_put js_By_put p_29.1 rfl rfl rfl (Nat.le_of_ble_eq_true rfl) (by decide) (by decide) (y_By_put (at0 := 0) (k := 64) p_29 p_20d (by first | omega | (simp only [List.length_append, List.length_cons, List.length_nil, List.length_replicate, sl_len, be_len, sha_len, xk_len, hmac_len, ex1_len, ex2_len, tag1_len, tC_len, stretch_len, chance_len, enc_len, pub_len, lbN_len, lbF_len, zer8_len, W0_len, W1_len, W2_len, W3_len, W4_len, W5_len, W6_len, W7_len, W8_len, W9_len, W10_len, W11_len, W12_len, W13_len, W14_len, W15_len, W16_len, W17_len, W18_len, W19_len, W20_len, W21_len, sec8_len, seal8_len, xr_len]; done) | (simp only [List.length_append, List.length_cons, List.length_nil, List.length_replicate, sl_len, be_len, sha_len, xk_len, hmac_len, ex1_len, ex2_len, tag1_len, tC_len, stretch_len, chance_len, enc_len, pub_len, lbN_len, lbF_len, zer8_len, W0_len, W1_len, W2_len, W3_len, W4_len, W5_len, W6_len, W7_len, W8_len, W9_len, W10_len, W11_len, W12_len, W13_len, W14_len, W15_len, W16_len, W17_len, W18_len, W19_len, W20_len, W21_len, sec8_len, seal8_len, xr_len]; omega)) (by first | omega | (simp only [List.length_append, List.length_cons, List.length_nil, List.length_replicate, sl_len, be_len, sha_len, xk_len, hmac_len, ex1_len, ex2_len, tag1_len, tC_len, stretch_len, chance_len, enc_len, pub_len, lbN_len, lbF_len, zer8_len, W0_len, W1_len, W2_len, W3_len, W4_len, W5_len, W6_len, W7_len, W8_len, W9_len, W10_len, W11_len, W12_len, W13_len, W14_len, W15_len, W16_len, W17_len, W18_len, W19_len, W20_len, W21_len, sec8_len, seal8_len, xr_len]; done) | (simp only [List.length_append, List.length_cons, List.length_nil, List.length_replicate, sl_len, be_len, sha_len, xk_len, hmac_len, ex1_len, ex2_len, tag1_len, tC_len, stretch_len, chance_len, enc_len, pub_len, lbN_len, lbF_len, zer8_len, W0_len, W1_len, W2_len, W3_len, W4_len, W5_len, W6_len, W7_len, W8_len, W9_len, W10_len, W11_len, W12_len, W13_len, W14_len, W15_len, W16_len, W17_len, W18_len, W19_len, W20_len, W21_len, sec8_len, seal8_len, xr_len]; omega)) (by decide) (by decide) (by decide) (by decide) (by decide)) (fun r M_30 hq => ?_)
  obtain ⟨rfl, p_30_0, kp_30⟩ := hq
  refine T_eq (pc' := 101) (L' := [(0, .ref 217), (1, .ref 62)]) (st' := []) (M' := M_30) rfl rfl rfl rfl ?_
  refine T_aload_n (v := .ref 62) d_Ex_settle_101 rfl (Or.inr ⟨_, rfl⟩) ?_
  have h_31 := (kp_30 62 (by decide)).trans ((kp_20 62 (by decide)).trans ((kp_15 62 (by decide)).trans (h_13)))
  refine T_getfield (v := .ref 63) d_Ex_settle_102 fg_Ex_83 h_31 rfl ?_
  refine T_aload_n (v := .ref 217) d_Ex_settle_105 rfl (Or.inr ⟨_, rfl⟩) ?_
  have h_32 := (kp_30 217 (by decide)).trans (h_28)
  refine T_getfield (v := .ref 221) d_Ex_settle_106 fg_Ex_24 h_32 rfl ?_
  refine T_aload_n (v := .ref 217) d_Ex_settle_109 rfl (Or.inr ⟨_, rfl⟩) ?_
  refine T_getfield (v := .ref 230) d_Ex_settle_110 fg_Ex_43 h_32 rfl ?_
  have p_33 := (DQ.kp ((DQ.kp ((DQ.kp ((DQ.kp ((DQ.kp (p_1_0) kp_7 (by decide) (by decide) (by decide))) kp_10 (by decide) (by decide) (by decide))) kp_15 (by decide) (by decide) (by decide))) kp_20 (by decide) (by decide) (by decide))) kp_30 (by decide) (by decide) (by decide))
  have p_34 := (BQ.kp ((BQ.kp ((BA.bq p_25)) kp_20 (by decide))) kp_30 (by decide))
  refine T_virtual (as := [.ref 221, .ref 230]) (rest := []) (b := 63) d_Ex_settle_113 rfl (jw_Dig_run.jo (by decide)) lm_Ex_87 ji_Dig_run js_Dig_run p_33.1 rfl rfl rfl (Nat.le_of_ble_eq_true rfl) (by decide) (by decide) (y_run p_33 p_30_0 p_34 (by decide) (by decide) (by decide) (by decide) (by decide) (by decide) (by decide) (by decide) (by decide) (by decide) (by decide) (by decide) (by decide) (by decide) (by decide) (by decide)) (fun r M_35 hq => ?_)
  obtain ⟨rfl, p_35_0, p_35_1, kp_35⟩ := hq
  refine T_eq (pc' := 116) (L' := [(0, .ref 217), (1, .ref 62)]) (st' := []) (M' := M_35) rfl rfl rfl rfl ?_
  refine T_aload_n (v := .ref 217) d_Ex_settle_116 rfl (Or.inr ⟨_, rfl⟩) ?_
  refine T_aload_n (v := .ref 62) d_Ex_settle_117 rfl (Or.inr ⟨_, rfl⟩) ?_
  refine T_ldcS (q := scl.getD 21 ("", 0, "", 0)) d_Ex_settle_118 (List.mem_of_getElem? (i := 21) rfl) rfl rfl (by decide) ?_
  refine T_aload_n (v := .ref 217) d_Ex_settle_120 rfl (Or.inr ⟨_, rfl⟩) ?_
  have h_36 := (kp_35 217 (by decide)).trans (h_32)
  refine T_getfield (v := .ref 219) d_Ex_settle_121 fg_Ex_13 h_36 rfl ?_
  have p_38 := (KO.kp ((KO.kp ((KO.kp (p_21) kp_20 (by decide))) kp_30 (by decide))) kp_35 (by decide))
  have p_39 := (EO.kp ((EO.kp ((EO.kp (p_22) kp_20 (by decide))) kp_30 (by decide))) kp_35 (by decide))
  have p_40 := (KY.kp ((KY.kp (p_20a) kp_30 (by decide))) kp_35 (by decide))
  have p_41 := (BA.kp ((BA.kp ((BA.kp (p_23) kp_20 (by decide))) kp_30 (by decide))) kp_35 (by decide))
  have p_42 := (BQ.kp ((BQ.kp (p_20b) kp_30 (by decide))) kp_35 (by decide))
  have p_43 := (BY.kp ((BY.kp (p_20c) kp_30 (by decide) (by decide))) kp_35 (by decide) (by decide))
  have p_44 := (BQ.kp ((BQ.kp ((BQ.kp ((BQ.kp ((BQ.kp ((BQ.kp ((BQ.kp (h219) kp_1 (by decide))) kp_7 (by decide))) kp_10 (by decide))) kp_15 (by decide))) kp_20 (by decide))) kp_30 (by decide))) kp_35 (by decide))
  refine T_virtual (as := [.ref 62, .ref 56, .ref 219]) (rest := []) (b := 217) d_Ex_settle_124 rfl (jw_Ex_confirm.jo (by decide)) lm_Ex_112 ji_Ex_confirm js_Ex_confirm h_36 rfl rfl rfl (Nat.le_of_ble_eq_true rfl) (by decide) (by decide) (y_Ex_confirm_219 p_38 p_39 p_40 p_41 p_42 p_35_1 p_43 p_44 tx_56_ (by first | omega | (simp only [List.length_append, List.length_cons, List.length_nil, List.length_replicate, sl_len, be_len, sha_len, xk_len, hmac_len, ex1_len, ex2_len, tag1_len, tC_len, stretch_len, chance_len, enc_len, pub_len, lbN_len, lbF_len, zer8_len, W0_len, W1_len, W2_len, W3_len, W4_len, W5_len, W6_len, W7_len, W8_len, W9_len, W10_len, W11_len, W12_len, W13_len, W14_len, W15_len, W16_len, W17_len, W18_len, W19_len, W20_len, W21_len, sec8_len, seal8_len, xr_len]; done) | (simp only [List.length_append, List.length_cons, List.length_nil, List.length_replicate, sl_len, be_len, sha_len, xk_len, hmac_len, ex1_len, ex2_len, tag1_len, tC_len, stretch_len, chance_len, enc_len, pub_len, lbN_len, lbF_len, zer8_len, W0_len, W1_len, W2_len, W3_len, W4_len, W5_len, W6_len, W7_len, W8_len, W9_len, W10_len, W11_len, W12_len, W13_len, W14_len, W15_len, W16_len, W17_len, W18_len, W19_len, W20_len, W21_len, sec8_len, seal8_len, xr_len]; omega)) (by first | omega | (simp only [List.length_append, List.length_cons, List.length_nil, List.length_replicate, sl_len, be_len, sha_len, xk_len, hmac_len, ex1_len, ex2_len, tag1_len, tC_len, stretch_len, chance_len, enc_len, pub_len, lbN_len, lbF_len, zer8_len, W0_len, W1_len, W2_len, W3_len, W4_len, W5_len, W6_len, W7_len, W8_len, W9_len, W10_len, W11_len, W12_len, W13_len, W14_len, W15_len, W16_len, W17_len, W18_len, W19_len, W20_len, W21_len, sec8_len, seal8_len, xr_len]; done) | (simp only [List.length_append, List.length_cons, List.length_nil, List.length_replicate, sl_len, be_len, sha_len, xk_len, hmac_len, ex1_len, ex2_len, tag1_len, tC_len, stretch_len, chance_len, enc_len, pub_len, lbN_len, lbF_len, zer8_len, W0_len, W1_len, W2_len, W3_len, W4_len, W5_len, W6_len, W7_len, W8_len, W9_len, W10_len, W11_len, W12_len, W13_len, W14_len, W15_len, W16_len, W17_len, W18_len, W19_len, W20_len, W21_len, sec8_len, seal8_len, xr_len]; omega)) (by first | omega | (simp only [List.length_append, List.length_cons, List.length_nil, List.length_replicate, sl_len, be_len, sha_len, xk_len, hmac_len, ex1_len, ex2_len, tag1_len, tC_len, stretch_len, chance_len, enc_len, pub_len, lbN_len, lbF_len, zer8_len, W0_len, W1_len, W2_len, W3_len, W4_len, W5_len, W6_len, W7_len, W8_len, W9_len, W10_len, W11_len, W12_len, W13_len, W14_len, W15_len, W16_len, W17_len, W18_len, W19_len, W20_len, W21_len, sec8_len, seal8_len, xr_len]; done) | (simp only [List.length_append, List.length_cons, List.length_nil, List.length_replicate, sl_len, be_len, sha_len, xk_len, hmac_len, ex1_len, ex2_len, tag1_len, tC_len, stretch_len, chance_len, enc_len, pub_len, lbN_len, lbF_len, zer8_len, W0_len, W1_len, W2_len, W3_len, W4_len, W5_len, W6_len, W7_len, W8_len, W9_len, W10_len, W11_len, W12_len, W13_len, W14_len, W15_len, W16_len, W17_len, W18_len, W19_len, W20_len, W21_len, sec8_len, seal8_len, xr_len]; omega))) (fun r M_37 hq => ?_)
  obtain ⟨rfl, p_37a, p_37b, ⟨lt_37, p_37c⟩, p_37d, kp_37⟩ := hq
  refine T_eq (pc' := 127) (L' := [(0, .ref 217), (1, .ref 62)]) (st' := []) (M' := M_37) rfl rfl rfl rfl ?_
  have e1 : ∀ a : List UInt8, sl (sha a) 0 64 = sha a := fun a => sl64 (sha_len a)
  have e2 : ∀ a b : List UInt8, sl (hmac a b) 0 64 = hmac a b := fun a b => sl64 (hmac_len a b)
  have p_45 := (BA.kp ((BA.kp ((BA.kp (p_20d) kp_30 (by decide))) kp_35 (by decide))) kp_37 (by decide))
  have g218 := p_45
  have g219 := p_37d
  have p_46 := (BA.kp ((BA.kp ((BA.kp ((BA.kp (p_15b) kp_20 (by decide))) kp_30 (by decide))) kp_35 (by decide))) kp_37 (by decide))
  have g220 := p_46
  rw [e1] at g218 g220
  rw [e1, e2] at g219
  have p_47 := (DQ.kp (p_35_0) kp_37 (by decide) (by decide) (by decide))
  have p_48 := (BY.kp ((BY.kp (p_30_0) kp_35 (by decide) (by decide))) kp_37 (by decide) (by decide))
  have p_49 := (BY.kp ((BY.kp ((BY.kp ((BY.kp ((BY.kp ((BY.kp ((BY.kp (p_5) kp_7 (by decide) (by decide))) kp_10 (by decide) (by decide))) kp_15 (by decide) (by decide))) kp_20 (by decide) (by decide))) kp_30 (by decide) (by decide))) kp_35 (by decide) (by decide))) kp_37 (by decide) (by decide))
  have p_50 := (BA.kp ((BA.kp ((BA.kp ((BA.kp ((BA.kp (p_16) kp_15 (by decide))) kp_20 (by decide))) kp_30 (by decide))) kp_35 (by decide))) kp_37 (by decide))
  have p_51 := (BA.kp (p_41) kp_37 (by decide))
  have p_52 := (BA.kp (p_35_1) kp_37 (by decide))
  exact T_vret d_Ex_settle_127 rfl (by decide) (by decide) ⟨rfl, p_47, p_37a, ⟨_, p_48⟩, p_49, ⟨_, p_37c⟩, g218, g219, g220, BA.bq p_50, BA.bq p_51, p_37b, BA.bq p_52, (Kp.tr (Kp.tr (Kp.tr (Kp.tr (Kp.tr (Kp.tr (Kp.tr (Kp.tr (Kp.rf : Kp [64, 65, 218, 219, 220, 221, 222, 225, 226, 227, 228, 229, 230, 66, 67, 68, 69, 70, 71, 72, 73, 74, 75, 76] M M) (Kp.mono kp_1 (by decide))) (Kp.mono kp_7 (by decide +kernel))) (Kp.mono kp_10 (by decide +kernel))) (Kp.mono kp_15 (by decide +kernel))) (Kp.mono kp_20 (by decide +kernel))) (Kp.mono kp_30 (by decide))) (Kp.mono kp_35 (by decide))) (Kp.mono kp_37 (by decide +kernel)))⟩
def ssO (s us : Nat) : va_E := .inr (11, [.ref (266 + 26 * s), .ref (267 + 26 * s), .ref (268 + 26 * s), .ref (269 + 26 * s), .int (nI us), .ref (270 + 26 * s), .ref (271 + 26 * s), .ref (273 + 26 * s), .ref (275 + 26 * s), .ref (277 + 26 * s), .ref (278 + 26 * s)])
def wiF (s : Nat) : Nat → Option Nat := fun j => [some (279 + 26 * s), some (281 + 26 * s), some (283 + 26 * s)].getD j none
def ksF (s : Nat) : Nat → Option Nat := fun j => [some (285 + 26 * s), some (287 + 26 * s), some (289 + 26 * s)].getD j none
def SO (M : List va_E) (q w k s us : Nat) : Prop := M[q]? = some (ssO s us) ∧ M[w]? = some (rr 5 3 (wiF s)) ∧ M[k]? = some (rr 5 3 (ksF s))
theorem SO.kp {M M' : List va_E} {W : List Nat} {q w k s us : Nat} (h : SO M q w k s us) (p : Kp W M M') (h1 : q ∉ W) (h2 : w ∉ W) (h3 : k ∉ W) : SO M' q w k s us := ⟨(p _ h1).trans h.1, (p _ h2).trans h.2.1, (p _ h3).trans h.2.2⟩
def bN (b : Bool) : Nat := if b then 1 else 0
def ZA (M : List va_E) (p : Nat) (t : Nat → Bool) : Prop := ∃ f, M[p]? = some (zr 3 f) ∧ ∀ j, j < 3 → f j = nI (bN (t j))
theorem ZA.kp {M M' : List va_E} {W : List Nat} {p : Nat} {t : Nat → Bool} (h : ZA M p t) (s : Kp W M M') (hn : p ∉ W) : ZA M' p t := by obtain ⟨f, h1, h2⟩ := h; exact ⟨f, (s _ hn).trans h1, h2⟩
def updB (t : Nat → Bool) (m : Nat) (b : Bool) : Nat → Bool := fun j => if j = m then b else t j
theorem bN_le (b : Bool) : bN b ≤ 1 := by unfold bN; split <;> omega
theorem za_set {f : Nat → Int32} {t : Nat → Bool} {m j : Nat} (h : ∀ j, j < 3 → f j = nI (bN (t j))) (hj : j < 3) : upd f m (vp_nar .boolean (nI 1)) j = nI (bN (updB t m true j)) := by
  unfold upd updB
  by_cases e : j = m
  · rw [if_pos e, if_pos e]; decide
  · rw [if_neg e, if_neg e]; exact h j hj
theorem za_clr {f : Nat → Int32} {t : Nat → Bool} {m j : Nat} (h : ∀ j, j < 3 → f j = nI (bN (t j))) (hj : j < 3) : upd f m (vp_nar .boolean (nI 0)) j = nI (bN (updB t m false j)) := by
  unfold upd updB
  by_cases e : j = m
  · rw [if_pos e, if_pos e]; decide
  · rw [if_neg e, if_neg e]; exact h j hj
set_option maxHeartbeats 8000000 in
theorem y_Ss_take_0 {G : GX} {M : List va_E} {s us : Nat} {l : List UInt8} {t : Nat → Bool} (hs : s < 4) (hso : SO M (265 + 26 * s) (266 + 26 * s) (267 + 26 * s) s us) (hw : BY M (279 + 26 * s) (280 + 26 * s) 96 l) (hz : ZA M (270 + 26 * s) t) : CT G mi_Ss_take [.ref (265 + 26 * s), .int (nI 0)] M (fun r M' => r = some (.int (nI (bN (decide (l ≠ []) && !t 0)))) ∧ ZA M' (270 + 26 * s) (if decide (l ≠ []) && !t 0 then updB t 0 true else t) ∧ Kp [(270 + 26 * s)] M M') := by
  obtain ⟨f, hf, hv⟩ := hz
  have hle := hw.2.le
  have ht := bN_le (t 0)
  refine CT.of (by decide) (Nat.le_of_ble_eq_true rfl) ?_
  show TT G mi_Ss_take 0 [(0, .ref (265 + 26 * s)), (1, .int (nI 0))] [] M 0 0 _
  refine T_aload_n (v := .ref (265 + 26 * s)) d_Ss_take_0 rfl (Or.inr ⟨_, rfl⟩) ?_
  refine T_getfield (v := .ref (266 + 26 * s)) d_Ss_take_1 fg_Ss_11 hso.1 rfl ?_
  refine T_iload_n d_Ss_take_4 rfl ?_
  refine N_aaload (k := 0) (p := (279 + 26 * s)) (C0 := "PasswordGate$Bytes") d_Ss_take_5 ((by decide : ∀ s, s < 4 → K0 ≤ (266 + 26 * s)) s hs) hso.2.1 rfl (by omega) (by decide) rfl ?_
  refine T_getfield (v := .int (nI (l.length))) d_Ss_take_6 fg_Ss_50 hw.1 rfl ?_
  refine N_if_eq (b := l.length) d_Ss_take_9 (tgt := 21) rfl (by omega) (fun h9 => ?_) (fun h9 => ?_)
  ·
    refine T_iconst (v := nI 0) d_Ss_take_21 (by decide) ?_
    have e : (decide (l ≠ []) && !t 0) = false := by rw [List.eq_nil_of_length_eq_zero h9]; rfl
    refine T_ret d_Ss_take_22 rfl (by decide) (by decide) (by decide) ⟨by rw [e]; rfl, by rw [e]; exact ⟨f, hf, hv⟩, Kp.rf⟩
  ·
    refine T_aload_n (v := .ref (265 + 26 * s)) d_Ss_take_12 rfl (Or.inr ⟨_, rfl⟩) ?_
    refine T_getfield (v := .ref (270 + 26 * s)) d_Ss_take_13 fg_Ss_27 hso.1 rfl ?_
    refine T_iload_n d_Ss_take_16 rfl ?_
    refine N_zaload (k := 0) (x := (nI ((bN (t 0))))) d_Ss_take_17 hf (by omega) (by decide) (hv 0 (by decide)) ?_
    refine N_if_eq (b := (bN (t 0))) d_Ss_take_18 (tgt := 23) rfl (by omega) (fun h18 => ?_) (fun h18 => ?_)
    ·
      refine T_aload_n (v := .ref (265 + 26 * s)) d_Ss_take_23 rfl (Or.inr ⟨_, rfl⟩) ?_
      refine T_getfield (v := .ref (270 + 26 * s)) d_Ss_take_24 fg_Ss_27 hso.1 rfl ?_
      refine T_iload_n d_Ss_take_27 rfl ?_
      refine T_iconst (v := nI 1) d_Ss_take_28 (by decide) ?_
      refine N_zastore (k := 0) d_Ss_take_29 ((by decide : ∀ s, s < 4 → K0 ≤ (270 + 26 * s)) s hs) hf (by omega) (by decide) rfl (fun M_1 h_2 s_3 => ?_)
      refine T_iconst (v := nI 1) d_Ss_take_30 (by decide) ?_
      have et : t 0 = false := by cases h : t 0 with | false => rfl | true => rw [h] at h18; exact absurd h18 (by decide)
      have el : l ≠ [] := fun c => h9 (by rw [c]; rfl)
      have e : (decide (l ≠ []) && !t 0) = true := by rw [et, decide_eq_true el]; rfl
      refine T_ret d_Ss_take_31 rfl (by decide) (by decide) (by decide) ⟨by rw [e]; rfl, by rw [e]; exact ⟨_, h_2, fun j hj => za_set hv hj⟩, (Kp.ex (Kp.rf : Kp [(270 + 26 * s)] M M) s_3 (by simp))⟩
    ·
      refine T_iconst (v := nI 0) d_Ss_take_21 (by decide) ?_
      have et : t 0 = true := by cases h : t 0 with | true => rfl | false => rw [h] at h18; exact absurd rfl h18
      have e : (decide (l ≠ []) && !t 0) = false := by rw [et]; simp
      refine T_ret d_Ss_take_22 rfl (by decide) (by decide) (by decide) ⟨by rw [e]; rfl, by rw [e]; exact ⟨f, hf, hv⟩, Kp.rf⟩
set_option maxHeartbeats 8000000 in
theorem y_Ss_take_1 {G : GX} {M : List va_E} {s us : Nat} {l : List UInt8} {t : Nat → Bool} (hs : s < 4) (hso : SO M (265 + 26 * s) (266 + 26 * s) (267 + 26 * s) s us) (hw : BY M (281 + 26 * s) (282 + 26 * s) 320 l) (hz : ZA M (270 + 26 * s) t) : CT G mi_Ss_take [.ref (265 + 26 * s), .int (nI 1)] M (fun r M' => r = some (.int (nI (bN (decide (l ≠ []) && !t 1)))) ∧ ZA M' (270 + 26 * s) (if decide (l ≠ []) && !t 1 then updB t 1 true else t) ∧ Kp [(270 + 26 * s)] M M') := by
  obtain ⟨f, hf, hv⟩ := hz
  have hle := hw.2.le
  have ht := bN_le (t 1)
  refine CT.of (by decide) (Nat.le_of_ble_eq_true rfl) ?_
  show TT G mi_Ss_take 0 [(0, .ref (265 + 26 * s)), (1, .int (nI 1))] [] M 0 0 _
  refine T_aload_n (v := .ref (265 + 26 * s)) d_Ss_take_0 rfl (Or.inr ⟨_, rfl⟩) ?_
  refine T_getfield (v := .ref (266 + 26 * s)) d_Ss_take_1 fg_Ss_11 hso.1 rfl ?_
  refine T_iload_n d_Ss_take_4 rfl ?_
  refine N_aaload (k := 1) (p := (281 + 26 * s)) (C0 := "PasswordGate$Bytes") d_Ss_take_5 ((by decide : ∀ s, s < 4 → K0 ≤ (266 + 26 * s)) s hs) hso.2.1 rfl (by omega) (by decide) rfl ?_
  refine T_getfield (v := .int (nI (l.length))) d_Ss_take_6 fg_Ss_50 hw.1 rfl ?_
  refine N_if_eq (b := l.length) d_Ss_take_9 (tgt := 21) rfl (by omega) (fun h9 => ?_) (fun h9 => ?_)
  ·
    refine T_iconst (v := nI 0) d_Ss_take_21 (by decide) ?_
    have e : (decide (l ≠ []) && !t 1) = false := by rw [List.eq_nil_of_length_eq_zero h9]; rfl
    refine T_ret d_Ss_take_22 rfl (by decide) (by decide) (by decide) ⟨by rw [e]; rfl, by rw [e]; exact ⟨f, hf, hv⟩, Kp.rf⟩
  ·
    refine T_aload_n (v := .ref (265 + 26 * s)) d_Ss_take_12 rfl (Or.inr ⟨_, rfl⟩) ?_
    refine T_getfield (v := .ref (270 + 26 * s)) d_Ss_take_13 fg_Ss_27 hso.1 rfl ?_
    refine T_iload_n d_Ss_take_16 rfl ?_
    refine N_zaload (k := 1) (x := (nI ((bN (t 1))))) d_Ss_take_17 hf (by omega) (by decide) (hv 1 (by decide)) ?_
    refine N_if_eq (b := (bN (t 1))) d_Ss_take_18 (tgt := 23) rfl (by omega) (fun h18 => ?_) (fun h18 => ?_)
    ·
      refine T_aload_n (v := .ref (265 + 26 * s)) d_Ss_take_23 rfl (Or.inr ⟨_, rfl⟩) ?_
      refine T_getfield (v := .ref (270 + 26 * s)) d_Ss_take_24 fg_Ss_27 hso.1 rfl ?_
      refine T_iload_n d_Ss_take_27 rfl ?_
      refine T_iconst (v := nI 1) d_Ss_take_28 (by decide) ?_
      refine N_zastore (k := 1) d_Ss_take_29 ((by decide : ∀ s, s < 4 → K0 ≤ (270 + 26 * s)) s hs) hf (by omega) (by decide) rfl (fun M_1 h_2 s_3 => ?_)
      refine T_iconst (v := nI 1) d_Ss_take_30 (by decide) ?_
      have et : t 1 = false := by cases h : t 1 with | false => rfl | true => rw [h] at h18; exact absurd h18 (by decide)
      have el : l ≠ [] := fun c => h9 (by rw [c]; rfl)
      have e : (decide (l ≠ []) && !t 1) = true := by rw [et, decide_eq_true el]; rfl
      refine T_ret d_Ss_take_31 rfl (by decide) (by decide) (by decide) ⟨by rw [e]; rfl, by rw [e]; exact ⟨_, h_2, fun j hj => za_set hv hj⟩, (Kp.ex (Kp.rf : Kp [(270 + 26 * s)] M M) s_3 (by simp))⟩
    ·
      refine T_iconst (v := nI 0) d_Ss_take_21 (by decide) ?_
      have et : t 1 = true := by cases h : t 1 with | true => rfl | false => rw [h] at h18; exact absurd rfl h18
      have e : (decide (l ≠ []) && !t 1) = false := by rw [et]; simp
      refine T_ret d_Ss_take_22 rfl (by decide) (by decide) (by decide) ⟨by rw [e]; rfl, by rw [e]; exact ⟨f, hf, hv⟩, Kp.rf⟩
set_option maxHeartbeats 8000000 in
theorem y_Ss_take_2 {G : GX} {M : List va_E} {s us : Nat} {l : List UInt8} {t : Nat → Bool} (hs : s < 4) (hso : SO M (265 + 26 * s) (266 + 26 * s) (267 + 26 * s) s us) (hw : BY M (283 + 26 * s) (284 + 26 * s) 64 l) (hz : ZA M (270 + 26 * s) t) : CT G mi_Ss_take [.ref (265 + 26 * s), .int (nI 2)] M (fun r M' => r = some (.int (nI (bN (decide (l ≠ []) && !t 2)))) ∧ ZA M' (270 + 26 * s) (if decide (l ≠ []) && !t 2 then updB t 2 true else t) ∧ Kp [(270 + 26 * s)] M M') := by
  obtain ⟨f, hf, hv⟩ := hz
  have hle := hw.2.le
  have ht := bN_le (t 2)
  refine CT.of (by decide) (Nat.le_of_ble_eq_true rfl) ?_
  show TT G mi_Ss_take 0 [(0, .ref (265 + 26 * s)), (1, .int (nI 2))] [] M 0 0 _
  refine T_aload_n (v := .ref (265 + 26 * s)) d_Ss_take_0 rfl (Or.inr ⟨_, rfl⟩) ?_
  refine T_getfield (v := .ref (266 + 26 * s)) d_Ss_take_1 fg_Ss_11 hso.1 rfl ?_
  refine T_iload_n d_Ss_take_4 rfl ?_
  refine N_aaload (k := 2) (p := (283 + 26 * s)) (C0 := "PasswordGate$Bytes") d_Ss_take_5 ((by decide : ∀ s, s < 4 → K0 ≤ (266 + 26 * s)) s hs) hso.2.1 rfl (by omega) (by decide) rfl ?_
  refine T_getfield (v := .int (nI (l.length))) d_Ss_take_6 fg_Ss_50 hw.1 rfl ?_
  refine N_if_eq (b := l.length) d_Ss_take_9 (tgt := 21) rfl (by omega) (fun h9 => ?_) (fun h9 => ?_)
  ·
    refine T_iconst (v := nI 0) d_Ss_take_21 (by decide) ?_
    have e : (decide (l ≠ []) && !t 2) = false := by rw [List.eq_nil_of_length_eq_zero h9]; rfl
    refine T_ret d_Ss_take_22 rfl (by decide) (by decide) (by decide) ⟨by rw [e]; rfl, by rw [e]; exact ⟨f, hf, hv⟩, Kp.rf⟩
  ·
    refine T_aload_n (v := .ref (265 + 26 * s)) d_Ss_take_12 rfl (Or.inr ⟨_, rfl⟩) ?_
    refine T_getfield (v := .ref (270 + 26 * s)) d_Ss_take_13 fg_Ss_27 hso.1 rfl ?_
    refine T_iload_n d_Ss_take_16 rfl ?_
    refine N_zaload (k := 2) (x := (nI ((bN (t 2))))) d_Ss_take_17 hf (by omega) (by decide) (hv 2 (by decide)) ?_
    refine N_if_eq (b := (bN (t 2))) d_Ss_take_18 (tgt := 23) rfl (by omega) (fun h18 => ?_) (fun h18 => ?_)
    ·
      refine T_aload_n (v := .ref (265 + 26 * s)) d_Ss_take_23 rfl (Or.inr ⟨_, rfl⟩) ?_
      refine T_getfield (v := .ref (270 + 26 * s)) d_Ss_take_24 fg_Ss_27 hso.1 rfl ?_
      refine T_iload_n d_Ss_take_27 rfl ?_
      refine T_iconst (v := nI 1) d_Ss_take_28 (by decide) ?_
      refine N_zastore (k := 2) d_Ss_take_29 ((by decide : ∀ s, s < 4 → K0 ≤ (270 + 26 * s)) s hs) hf (by omega) (by decide) rfl (fun M_1 h_2 s_3 => ?_)
      refine T_iconst (v := nI 1) d_Ss_take_30 (by decide) ?_
      have et : t 2 = false := by cases h : t 2 with | false => rfl | true => rw [h] at h18; exact absurd h18 (by decide)
      have el : l ≠ [] := fun c => h9 (by rw [c]; rfl)
      have e : (decide (l ≠ []) && !t 2) = true := by rw [et, decide_eq_true el]; rfl
      refine T_ret d_Ss_take_31 rfl (by decide) (by decide) (by decide) ⟨by rw [e]; rfl, by rw [e]; exact ⟨_, h_2, fun j hj => za_set hv hj⟩, (Kp.ex (Kp.rf : Kp [(270 + 26 * s)] M M) s_3 (by simp))⟩
    ·
      refine T_iconst (v := nI 0) d_Ss_take_21 (by decide) ?_
      have et : t 2 = true := by cases h : t 2 with | true => rfl | false => rw [h] at h18; exact absurd rfl h18
      have e : (decide (l ≠ []) && !t 2) = false := by rw [et]; simp
      refine T_ret d_Ss_take_22 rfl (by decide) (by decide) (by decide) ⟨by rw [e]; rfl, by rw [e]; exact ⟨f, hf, hv⟩, Kp.rf⟩
