def OV (g g' : Nat → Int32) (a : Nat) (l : List UInt8) : Prop := (∀ i, i < l.length → g' (a + i) = bR (gd l i)) ∧ ∀ i, i < a ∨ a + l.length ≤ i → g' i = g i
theorem pub_len' (x : Nat) : (pub x).length = 32 := enc_len _
theorem ov_z {g : Nat → Int32} {a : Nat} {l : List UInt8} : (∀ i, i < 0 → g (a + i) = bR (gd l i)) ∧ ∀ i, i < a ∨ a + 32 ≤ i → g i = g i := ⟨fun i hi => absurd hi (Nat.not_lt_zero i), fun _ _ => rfl⟩
set_option maxHeartbeats 8000000 in
theorem pb_l (G : GX) {M0 : List va_E} {v : Nat → Int32} {p n at0 : Nat} {g : Nat → Int32} {s : List UInt8}  (ho : M0[373]? = some (moO v)) (hs : IA M0 394 32 s) (hsn : 32 ≤ s.length) (hn : at0 + 32 ≤ n) (hn2 : n < 2 ^ 30) (hp : p ∉ [373, 394]) (k_p : K0 ≤ p) {Q : Option Value → List va_E → Prop} (kk : ∀ M, (∃ g', M[p]? = some (ir n g') ∧ (∀ i, i < 32 → g' (at0 + i) = bR (gd s i)) ∧ ∀ i, i < at0 ∨ at0 + 32 ≤ i → g' i = g i) ∧ Kp [p] M0 M → TT G mi_Mo_publicTo 39 [(0, .ref 373), (1, .ref p), (2, .int (nI at0))] [] M 0 0 Q) : ∀ j k M, k + j = 32 → (∃ g', M[p]? = some (ir n g') ∧ (∀ i, i < k → g' (at0 + i) = bR (gd s i)) ∧ ∀ i, i < at0 ∨ at0 + 32 ≤ i → g' i = g i) ∧ Kp [p] M0 M → TT G mi_Mo_publicTo 16 [(3, .int (nI k)), (0, .ref 373), (1, .ref p), (2, .int (nI at0))] [] M 0 0 Q := by
  intro j
  induction j with
  | zero =>
    intro k M hk hI
    obtain rfl : 32 = k := by omega
    refine T_iload_n d_Mo_publicTo_16 rfl ?_
    refine T_bipush (v := nI 32) d_Mo_publicTo_17 (by decide) ?_
    refine N_icmp_ge_t (a := 32) (b := 32) d_Mo_publicTo_19 (tgt := 39) rfl (by omega) (by omega) (by omega) ?_
    exact T_sub (fun q hq => List.mem_cons_of_mem _ hq) (kk M hI)
  | succ j ih =>
    intro k M hk hI
    obtain ⟨⟨g', h1, h2, h3⟩, hK⟩ := hI
    have hsl := hs.le
    refine T_iload_n d_Mo_publicTo_16 rfl ?_
    refine T_bipush (v := nI 32) d_Mo_publicTo_17 (by decide) ?_
    refine N_icmp_ge_f (a := 32) (b := k) d_Mo_publicTo_19 (tgt := 39) rfl (by omega) (by omega) (by omega) ?_
    refine T_aload_n (v := .ref p) d_Mo_publicTo_22 rfl (Or.inr ⟨_, rfl⟩) ?_
    refine T_iload_n d_Mo_publicTo_23 rfl ?_
    refine T_iload_n d_Mo_publicTo_24 rfl ?_
    refine N_iadd (a := k) (b := at0) (c := (at0 + k)) d_Mo_publicTo_25 rfl ?_
    refine T_aload_n (v := .ref 373) d_Mo_publicTo_26 rfl (Or.inr ⟨_, rfl⟩) ?_
    have h_1 := (hK 373 (by simp only [List.mem_cons, List.not_mem_nil, or_false]; exact (Ne.symm (nmne hp (by decide))))).trans (ho)
    refine T_getfield (v := .ref 394) d_Mo_publicTo_27 fg_Mo_146 h_1 rfl ?_
    refine T_iload_n d_Mo_publicTo_30 rfl ?_
    have p_2 := (IA.kp (hs) hK (by simp only [List.mem_cons, List.not_mem_nil, or_false]; exact (Ne.symm (nmne hp (by decide)))))
    obtain ⟨f_3, hf_4, hl_5, hv_6⟩ := id p_2
    refine N_iaload (k := k) (x := (bR (gd s k))) d_Mo_publicTo_31 hf_4 (by omega) (by decide) (hv_6 k (by first | omega | (simp only [List.length_append, List.length_cons, List.length_nil, List.length_replicate, sl_len, be_len, sha_len, hmac_len, ex1_len, ex2_len, stretch_len, zer8_len, tC_len, tag1_len, bnN_len, xkp_len]; omega))) ?_
    refine N_iastore (k := (at0 + k)) d_Mo_publicTo_32 k_p h1 (by omega) (by omega) rfl (fun M_7 h_8 s_9 => ?_)
    refine N_iinc (k := k) (m := 1) (c := (k + 1)) (L' := [(3, .int (nI ((k + 1)))), (0, .ref 373), (1, .ref p), (2, .int (nI at0))]) d_Mo_publicTo_33 (by decide) rfl (by decide) rfl rfl ?_
    refine T_goto (tgt := 16) d_Mo_publicTo_36 rfl ?_
    exact ih (k + 1) M_7 (by omega) ⟨⟨_, h_8, fun i hi => by by_cases c : i = k; subst c; exact upd_s; rw [upd_n (by omega)]; exact h2 i (by omega), fun i hi => by rw [upd_n (by omega)]; exact h3 i hi⟩, (Kp.ex (Kp.tr (Kp.rf : Kp [p] M0 M0) (Kp.mono hK (by simp))) s_9 (by simp))⟩
set_option maxHeartbeats 8000000 in
theorem b_Mo_publicTo {G : GX} {M : List va_E} {w : Nat → Int32} {l : List UInt8} {p n at0 x : Nat} {g : Nat → Int32} (hms : MS M) (h : BG M w l) (hs : SC M 395 16 0 x) (hx : x < 2 ^ 256) (hg : M[p]? = some (ir n g)) (hn : at0 + 32 ≤ n) (hn2 : n < 2 ^ 30) (hp : p ∉ [373, 390, 391, 392, 393, 394]) (k_p : K0 ≤ p) : CT G mi_Mo_publicTo [.ref 373, .ref p, .int (nI at0)] M (fun r M' => r = none ∧ ∃ M1, MS M1 ∧ Kp RW M M1 ∧ Kp [p] M1 M' ∧ ∃ g', M'[p]? = some (ir n g') ∧ OV g g' at0 (pub x)) := by
  refine CT.of (by decide) (Nat.le_of_ble_eq_true rfl) ?_
  show TT G mi_Mo_publicTo 0 [(0, .ref 373), (1, .ref p), (2, .int (nI at0))] [] M 0 0 _
  refine T_aload_n (v := .ref 373) d_Mo_publicTo_0 rfl (Or.inr ⟨_, rfl⟩) ?_
  refine T_bipush (v := nI 16) d_Mo_publicTo_1 (by decide) ?_
  refine T_bipush (v := nI 8) d_Mo_publicTo_3 (by decide) ?_
  obtain ⟨v_2, hov_2, hwv_2, hsv_2, hiv_2⟩ := id h
  refine T_virtual (as := [.int (nI 16), .int (nI 8)]) (rest := []) (b := 373) d_Mo_publicTo_5 rfl (jw_Mo_timesPoint.jo (by decide)) lm_Mo_290 ji_Mo_timesPoint js_Mo_timesPoint hov_2 rfl rfl rfl (Nat.le_of_ble_eq_true rfl) (by decide) (by decide) (b_Mo_times_b hms h hs hx) (fun r M_1 hq => ?_)
  obtain ⟨rfl, p_1_0, p_1_1, kp_1⟩ := hq
  refine T_eq (pc' := 8) (L' := [(0, .ref 373), (1, .ref p), (2, .int (nI at0))]) (st' := []) (M' := M_1) rfl rfl rfl rfl ?_
  refine T_aload_n (v := .ref 373) d_Mo_publicTo_8 rfl (Or.inr ⟨_, rfl⟩) ?_
  refine T_bipush (v := nI 16) d_Mo_publicTo_9 (by decide) ?_
  have p_3 := (BG.kp (h) kp_1 (by decide) (by decide))
  obtain ⟨v_5, hov_5, hwv_5, hsv_5, hiv_5⟩ := id p_3
  refine T_virtual (as := [.int (nI 16)]) (rest := []) (b := 373) d_Mo_publicTo_11 rfl (jw_Mo_code.jo (by decide)) lm_Mo_293 ji_Mo_code js_Mo_code hov_5 rfl rfl rfl (Nat.le_of_ble_eq_true rfl) (by decide) (by decide) (b_Mo_code_16o p_1_0 p_3 p_1_1) (fun r M_4 hq => ?_)
  obtain ⟨rfl, p_4_0, p_4_1, kp_4⟩ := hq
  refine T_eq (pc' := 14) (L' := [(0, .ref 373), (1, .ref p), (2, .int (nI at0))]) (st' := []) (M' := M_4) rfl rfl rfl rfl ?_
  refine T_iconst (v := nI 0) d_Mo_publicTo_14 (by decide) ?_
  refine T_istore_n (L' := [(3, .int (nI 0)), (0, .ref 373), (1, .ref p), (2, .int (nI at0))]) d_Mo_publicTo_15 (by decide) rfl ?_
  have p_6 := (BG.kp (p_3) kp_4 (by decide) (by decide))
  obtain ⟨v_7, hov_7, hwv_7, hsv_7, hiv_7⟩ := id p_6
  have kr : Kp RW M M_4 := (Kp.tr (Kp.tr (Kp.rf : Kp [390, 391, 392, 393, 394] M M) (Kp.mono kp_1 (by decide))) (Kp.mono kp_4 (by decide)))
  refine pb_l G hov_7 p_4_1 (by rw [enc_len]; exact Nat.le_refl _) hn hn2 (nm hp (by decide)) k_p (fun Mz hI => ?_) 32 0 M_4 rfl ⟨⟨g, (kr p (nm hp (by decide))).trans hg, ov_z⟩, Kp.rf⟩
  obtain ⟨⟨g', z1, z2, z3⟩, kz⟩ := hI
  exact T_vret d_Mo_publicTo_39 rfl (by decide) (by decide) ⟨rfl, _, p_4_0, kr, kz, g', z1, fun i hi => z2 i (by rw [pub_len'] at hi; exact hi), fun i hi => z3 i (by rw [pub_len'] at hi; exact hi)⟩
theorem MS.w1 {M M' : List va_E} {p n : Nat} (h : MS M) (s : Kp [p] M M') (hq : IQ M' p n) (hp : (p, n) ∈ msI) : MS M' := by
  have e := (by decide +kernel : ∀ z ∈ msI, (∀ y ∈ msI, y.1 = z.1 → y.2 = z.2) ∧ (∀ y ∈ msL, y.1 ≠ z.1) ∧ z.1 ∉ msC) _ hp
  exact h.wi s hq e.1 e.2.1 e.2.2
theorem OV.ia {M : List va_E} {p n : Nat} {g g' : Nat → Int32} {l : List UInt8} (h : OV g g' 0 l) (hm : M[p]? = some (ir n g')) (hl : l.length ≤ n) : IA M p n l := ⟨g', hm, hl, fun i hi => by have := h.1 i hi; rw [Nat.zero_add] at this; exact this⟩
theorem b_Mo_public0 {G : GX} {M : List va_E} {w : Nat → Int32} {l : List UInt8} {p n x : Nat} (hms : MS M) (h : BG M w l) (hs : SC M 395 16 0 x) (hx : x < 2 ^ 256) (hp1 : (p, n) ∈ msI) (hn : 32 ≤ n) (hn2 : n < 2 ^ 30) (hp : p ∉ [373, 390, 391, 392, 393, 394]) (k_p : K0 ≤ p) : CT G mi_Mo_publicTo [.ref 373, .ref p, .int (nI 0)] M (fun r M' => r = none ∧ MS M' ∧ IA M' p n (pub x) ∧ Kp (p :: RW) M M') := by
  obtain ⟨g, hg⟩ := hms.iq hp1
  refine (b_Mo_publicTo hms h hs hx hg (by omega) hn2 hp k_p).post fun r M' q => ?_
  obtain ⟨q1, M1, q2, q3, q4, g', q5, q6⟩ := q
  have ia := q6.ia q5 (by rw [pub_len']; exact hn)
  exact ⟨q1, q2.w1 q4 ia.iq hp1, ia, Kp.tr (q3.mono (fun z hz => List.mem_cons_of_mem _ hz)) (q4.mono (fun z hz => by rw [List.mem_singleton] at hz; subst hz; exact List.mem_cons_self))⟩
def SH (M : List va_E) (t : Nat → List UInt8) : Prop := ∃ g, M[440]? = some (ir 96 g) ∧ ∀ j, j < 3 → (t j).length ≤ 32 ∧ ∀ i, i < (t j).length → g (32 * j + i) = bR (gd (t j) i)
theorem SH.kp {M M' : List va_E} {W : List Nat} {t : Nat → List UInt8} (h : SH M t) (s : Kp W M M') (hn : 440 ∉ W) : SH M' t := by obtain ⟨g, h1, h2⟩ := h; exact ⟨g, (s _ hn).trans h1, h2⟩
theorem MS.sh {M : List va_E} (h : MS M) : SH M (fun _ => []) := by obtain ⟨g, h⟩ := h.iq (p := 440) (n := 96) (by decide); exact ⟨g, h, fun j _ => ⟨Nat.zero_le _, fun i hi => absurd hi (Nat.not_lt_zero i)⟩⟩
def updT (t : Nat → List UInt8) (j : Nat) (l : List UInt8) : Nat → List UInt8 := fun i => if i = j then l else t i
theorem SH.up {M' : List va_E} {t : Nat → List UInt8} {g g' : Nat → Int32} {j : Nat} {l : List UInt8} (h2 : ∀ j, j < 3 → (t j).length ≤ 32 ∧ ∀ i, i < (t j).length → g (32 * j + i) = bR (gd (t j) i)) (h : M'[440]? = some (ir 96 g')) (hj : j < 3) (hl : l.length = 32) (v : OV g g' (32 * j) l) : SH M' (updT t j l) := by
  refine ⟨g', h, fun i hi => ?_⟩
  unfold updT
  by_cases c : i = j
  · subst c; rw [if_pos rfl]; exact ⟨by omega, v.1⟩
  · rw [if_neg c]; exact ⟨(h2 i hi).1, fun m hm => by have := (h2 i hi).1; rw [v.2 _ (by omega)]; exact (h2 i hi).2 m hm⟩
theorem SH.ia {M : List va_E} {t : Nat → List UInt8} (h : SH M t) (h0 : (t 0).length = 32) (h1 : (t 1).length = 32) (h2 : (t 2).length = 32) : IA M 440 96 ((t 0 ++ t 1) ++ t 2) := by
  obtain ⟨g, g1, g2⟩ := h
  refine ⟨g, g1, by rw [List.length_append, List.length_append]; omega, fun i hi => ?_⟩
  rw [List.length_append, List.length_append] at hi
  by_cases c : i < 64
  · rw [gd_l (by rw [List.length_append]; omega)]
    by_cases d : i < 32
    · rw [gd_l (by omega)]; have := (g2 0 (by decide)).2 i (by omega); rw [Nat.mul_zero, Nat.zero_add] at this; exact this
    · rw [gd_r (by omega), h0]; have := (g2 1 (by decide)).2 (i - 32) (by omega); rw [show 32 * 1 + (i - 32) = i by omega] at this; exact this
  · rw [gd_r (by rw [List.length_append]; omega), List.length_append, h0, h1]; have := (g2 2 (by decide)).2 (i - 64) (by omega); rw [show 32 * 2 + (i - 64) = i by omega] at this; exact this
set_option maxHeartbeats 8000000 in
theorem sh_l (G : GX) {M0 : List va_E} {v : Nat → Int32} {at0 : Nat} {g : Nat → Int32} {s : List UInt8} (ho : M0[373]? = some (moO v)) (hs : IA M0 394 32 s) (hsn : 32 ≤ s.length) (hn : at0 + 32 ≤ 96) {Q : Option Value → List va_E → Prop} (kk : ∀ M, (∃ g', M[440]? = some (ir 96 g') ∧ (∀ i, i < 32 → g' (at0 + i) = bR (gd s i)) ∧ ∀ i, i < at0 ∨ at0 + 32 ≤ i → g' i = g i) ∧ Kp [440] M0 M → TT G mi_Mo_share 41 [(0, .ref 373), (1, .int (nI at0)), (2, .int (nI 12))] [] M 0 0 Q) : ∀ j k M, k + j = 32 → (∃ g', M[440]? = some (ir 96 g') ∧ (∀ i, i < k → g' (at0 + i) = bR (gd s i)) ∧ ∀ i, i < at0 ∨ at0 + 32 ≤ i → g' i = g i) ∧ Kp [440] M0 M → TT G mi_Mo_share 15 [(3, .int (nI k)), (0, .ref 373), (1, .int (nI at0)), (2, .int (nI 12))] [] M 0 0 Q := by
  intro j
  induction j with
  | zero =>
    intro k M hk hI
    obtain rfl : 32 = k := by omega
    refine T_iload_n d_Mo_share_15 rfl ?_
    refine T_bipush (v := nI 32) d_Mo_share_16 (by decide) ?_
    refine N_icmp_ge_t (a := 32) (b := 32) d_Mo_share_18 (tgt := 41) rfl (by omega) (by omega) (by omega) ?_
    exact T_sub (fun q hq => List.mem_cons_of_mem _ hq) (kk M hI)
  | succ j ih =>
    intro k M hk hI
    obtain ⟨⟨g', h1, h2, h3⟩, hK⟩ := hI
    have hsl := hs.le
    refine T_iload_n d_Mo_share_15 rfl ?_
    refine T_bipush (v := nI 32) d_Mo_share_16 (by decide) ?_
    refine N_icmp_ge_f (a := 32) (b := k) d_Mo_share_18 (tgt := 41) rfl (by omega) (by omega) (by omega) ?_
    refine T_aload_n (v := .ref 373) d_Mo_share_21 rfl (Or.inr ⟨_, rfl⟩) ?_
    have h_1 := (hK 373 (by decide)).trans (ho)
    refine T_getfield (v := .ref 440) d_Mo_share_22 fg_Mo_440 h_1 rfl ?_
    refine T_iload_n d_Mo_share_25 rfl ?_
    refine T_iload_n d_Mo_share_26 rfl ?_
    refine N_iadd (a := k) (b := at0) (c := (at0 + k)) d_Mo_share_27 rfl ?_
    refine T_aload_n (v := .ref 373) d_Mo_share_28 rfl (Or.inr ⟨_, rfl⟩) ?_
    refine T_getfield (v := .ref 394) d_Mo_share_29 fg_Mo_146 h_1 rfl ?_
    refine T_iload_n d_Mo_share_32 rfl ?_
    have p_2 := (IA.kp (hs) hK (by decide))
    obtain ⟨f_3, hf_4, hl_5, hv_6⟩ := id p_2
    refine N_iaload (k := k) (x := (bR (gd s k))) d_Mo_share_33 hf_4 (by omega) (by decide) (hv_6 k (by first | omega | (simp only [List.length_append, List.length_cons, List.length_nil, List.length_replicate, sl_len, be_len, sha_len, hmac_len, ex1_len, ex2_len, stretch_len, zer8_len, tC_len, tag1_len, bnN_len, xkp_len]; omega))) ?_
    refine N_iastore (k := (at0 + k)) d_Mo_share_34 (by decide) h1 (by omega) (by decide) rfl (fun M_7 h_8 s_9 => ?_)
    refine N_iinc (k := k) (m := 1) (c := (k + 1)) (L' := [(3, .int (nI ((k + 1)))), (0, .ref 373), (1, .int (nI at0)), (2, .int (nI 12))]) d_Mo_share_35 (by decide) rfl (by decide) rfl rfl ?_
    refine T_goto (tgt := 15) d_Mo_share_38 rfl ?_
    exact ih (k + 1) M_7 (by omega) ⟨⟨_, h_8, fun i hi => by by_cases c : i = k; subst c; exact upd_s; rw [upd_n (by omega)]; exact h2 i (by omega), fun i hi => by rw [upd_n (by omega)]; exact h3 i hi⟩, (Kp.ex (Kp.tr (Kp.rf : Kp [440] M0 M0) (Kp.mono hK (by decide))) s_9 (by decide))⟩
abbrev shW : List Nat := [390, 391, 392, 393, 394, 440]
set_option maxHeartbeats 8000000 in
theorem b_Mo_share {G : GX} {M : List va_E} {w : Nat → Int32} {l : List UInt8} {at0 x j : Nat} {t : Nat → List UInt8} {P : Fp × Fp} (hms : MS M) (h : BG M w l) (hs : SC M 395 16 0 x) (hP : PTa M P) (ht : SH M t) (oP : OnP fD P) (hx : x < 2 ^ 256) (ha : at0 = 32 * j) (hj : j < 3) : CT G mi_Mo_share [.ref 373, .int (nI at0), .int (nI 12)] M (fun r M' => r = none ∧ MS M' ∧ PTa M' P ∧ SH M' (updT t j (enc (emul fD P x))) ∧ Kp shW M M') := by
  refine CT.of (by decide) (Nat.le_of_ble_eq_true rfl) ?_
  show TT G mi_Mo_share 0 [(0, .ref 373), (1, .int (nI at0)), (2, .int (nI 12))] [] M 0 0 _
  refine T_aload_n (v := .ref 373) d_Mo_share_0 rfl (Or.inr ⟨_, rfl⟩) ?_
  refine T_bipush (v := nI 16) d_Mo_share_1 (by decide) ?_
  refine T_iload_n d_Mo_share_3 rfl ?_
  obtain ⟨v_2, hov_2, hwv_2, hsv_2, hiv_2⟩ := id h
  refine T_virtual (as := [.int (nI 16), .int (nI 12)]) (rest := []) (b := 373) d_Mo_share_4 rfl (jw_Mo_timesPoint.jo (by decide)) lm_Mo_290 ji_Mo_timesPoint js_Mo_timesPoint hov_2 rfl rfl rfl (Nat.le_of_ble_eq_true rfl) (by decide) (by decide) (b_Mo_times_16 hms h hP hs oP hx) (fun r M_1 hq => ?_)
  obtain ⟨rfl, p_1_0, p_1_1, p_1_2, kp_1⟩ := hq
  refine T_eq (pc' := 7) (L' := [(0, .ref 373), (1, .int (nI at0)), (2, .int (nI 12))]) (st' := []) (M' := M_1) rfl rfl rfl rfl ?_
  refine T_aload_n (v := .ref 373) d_Mo_share_7 rfl (Or.inr ⟨_, rfl⟩) ?_
  refine T_bipush (v := nI 16) d_Mo_share_8 (by decide) ?_
  have p_3 := (BG.kp (h) kp_1 (by decide) (by decide))
  obtain ⟨v_5, hov_5, hwv_5, hsv_5, hiv_5⟩ := id p_3
  refine T_virtual (as := [.int (nI 16)]) (rest := []) (b := 373) d_Mo_share_10 rfl (jw_Mo_code.jo (by decide)) lm_Mo_293 ji_Mo_code js_Mo_code hov_5 rfl rfl rfl (Nat.le_of_ble_eq_true rfl) (by decide) (by decide) (b_Mo_code_16 p_1_0 p_3 p_1_1 p_1_2) (fun r M_4 hq => ?_)
  obtain ⟨rfl, p_4_0, p_4_1, p_4_2, kp_4⟩ := hq
  refine T_eq (pc' := 13) (L' := [(0, .ref 373), (1, .int (nI at0)), (2, .int (nI 12))]) (st' := []) (M' := M_4) rfl rfl rfl rfl ?_
  refine T_iconst (v := nI 0) d_Mo_share_13 (by decide) ?_
  refine T_istore_n (L' := [(3, .int (nI 0)), (0, .ref 373), (1, .int (nI at0)), (2, .int (nI 12))]) d_Mo_share_14 (by decide) rfl ?_
  have p_6 := (BG.kp (p_3) kp_4 (by decide) (by decide))
  obtain ⟨v_7, hov_7, hwv_7, hsv_7, hiv_7⟩ := id p_6
  have p_8 := (SH.kp ((SH.kp (ht) kp_1 (by decide))) kp_4 (by decide))
  obtain ⟨g, g1, g2⟩ := p_8
  refine sh_l G hov_7 p_4_2 (by rw [enc_len]; exact Nat.le_refl _) (by omega) (fun Mz hI => ?_) 32 0 M_4 rfl ⟨⟨g, g1, ov_z⟩, Kp.rf⟩
  obtain ⟨⟨g', z1, z2, z3⟩, kz⟩ := hI
  have msz := MS.w1 p_4_0 kz ⟨_, z1⟩ (by decide)
  have shz : SH Mz (updT t j (enc (emul fD P x))) := SH.up (g := g) g2 z1 hj (enc_len _) ⟨fun i hi => by rw [enc_len] at hi; rw [← ha]; exact z2 i hi, fun i hi => by rw [enc_len, ← ha] at hi; exact z3 i hi⟩
  have p_9 := (PTa.kp (p_4_1) kz (by decide))
  exact T_vret d_Mo_share_41 rfl (by decide) (by decide) ⟨rfl, msz, p_9, shz, (Kp.tr (Kp.tr (Kp.tr (Kp.rf : Kp [390, 391, 392, 393, 394, 440] M M) (Kp.mono kp_1 (by decide))) (Kp.mono kp_4 (by decide))) (Kp.mono kz (by decide)))⟩
abbrev grW : List Nat := [373, 374, 380, 382, 381, 383, 389, 390, 391, 392, 393, 394]
set_option maxHeartbeats 8000000 in
theorem b_Mo_group {G : GX} {M : List va_E} {w : Nat → Int32} {m n : Nat} {s : List UInt8} (hms : MS M) (h : BG M w []) (hk : IA M 409 m s) (ha : s.length = n) (hm2 : m < 2 ^ 30) (hn : n ≤ 1000) : CT G mi_Mo_groupPoint [.ref 373, .int (nI 12), .ref 409, .int (nI n)] M (fun r M' => r = none ∧ MS M' ∧ BG M' w [] ∧ PTa M' (grp s) ∧ Kp grW M M') := by
  refine CT.of (by decide) (Nat.le_of_ble_eq_true rfl) ?_
  show TT G mi_Mo_groupPoint 0 [(0, .ref 373), (1, .int (nI 12)), (2, .ref 409), (3, .int (nI n))] [] M 0 0 _
  refine T_aload_n (v := .ref 373) d_Mo_groupPoint_0 rfl (Or.inr ⟨_, rfl⟩) ?_
  refine T_ldc2 d_Mo_groupPoint_1 kJ_Mo_205 ?_
  obtain ⟨v_2, hov_2, hwv_2, hsv_2, hiv_2⟩ := id h
  refine T_virtual (as := [.long 5215576735402116978]) (rest := []) (b := 373) d_Mo_groupPoint_4 rfl (jw_Mo_letters.jo (by decide)) lm_Mo_104 ji_Mo_letters js_Mo_letters hov_2 rfl rfl rfl (Nat.le_of_ble_eq_true rfl) (by decide) (by decide) (b_Mo_letters h (by first | omega | (simp only [List.length_append, List.length_cons, List.length_nil, List.length_replicate, sl_len, be_len, sha_len, hmac_len, ex1_len, ex2_len, stretch_len, zer8_len, tC_len, tag1_len, bnN_len, xkp_len, enc_len, chance_len, lbF_len, str2_len]; done) | (simp only [List.length_append, List.length_cons, List.length_nil, List.length_replicate, sl_len, be_len, sha_len, hmac_len, ex1_len, ex2_len, stretch_len, zer8_len, tC_len, tag1_len, bnN_len, xkp_len, enc_len, chance_len, lbF_len, str2_len]; omega))) (fun r M_1 hq => ?_)
  obtain ⟨rfl, p_1_0, kp_1⟩ := hq
  refine T_eq (pc' := 7) (L' := [(0, .ref 373), (1, .int (nI 12)), (2, .ref 409), (3, .int (nI n))]) (st' := []) (M' := M_1) rfl rfl rfl rfl ?_
  have p_3 : BG M_1 w ([] ++ [72, 97, 115, 104, 84, 111, 71, 114]) := (by have g := p_1_0; rw [show lts 5215576735402116978 = [72, 97, 115, 104, 84, 111, 71, 114] from by decide +kernel] at g; exact g)
  refine T_aload_n (v := .ref 373) d_Mo_groupPoint_7 rfl (Or.inr ⟨_, rfl⟩) ?_
  refine T_ldc2 d_Mo_groupPoint_8 kJ_Mo_207 ?_
  obtain ⟨v_5, hov_5, hwv_5, hsv_5, hiv_5⟩ := id p_3
  refine T_virtual (as := [.long 1869967405]) (rest := []) (b := 373) d_Mo_groupPoint_11 rfl (jw_Mo_letters.jo (by decide)) lm_Mo_104 ji_Mo_letters js_Mo_letters hov_5 rfl rfl rfl (Nat.le_of_ble_eq_true rfl) (by decide) (by decide) (b_Mo_letters p_3 (by first | omega | (simp only [List.length_append, List.length_cons, List.length_nil, List.length_replicate, sl_len, be_len, sha_len, hmac_len, ex1_len, ex2_len, stretch_len, zer8_len, tC_len, tag1_len, bnN_len, xkp_len, enc_len, chance_len, lbF_len, str2_len]; done) | (simp only [List.length_append, List.length_cons, List.length_nil, List.length_replicate, sl_len, be_len, sha_len, hmac_len, ex1_len, ex2_len, stretch_len, zer8_len, tC_len, tag1_len, bnN_len, xkp_len, enc_len, chance_len, lbF_len, str2_len]; omega))) (fun r M_4 hq => ?_)
  obtain ⟨rfl, p_4_0, kp_4⟩ := hq
  refine T_eq (pc' := 14) (L' := [(0, .ref 373), (1, .int (nI 12)), (2, .ref 409), (3, .int (nI n))]) (st' := []) (M' := M_4) rfl rfl rfl rfl ?_
  have p_6 : BG M_4 w (([] ++ [72, 97, 115, 104, 84, 111, 71, 114]) ++ [111, 117, 112, 45]) := (by have g := p_4_0; rw [show lts 1869967405 = [111, 117, 112, 45] from by decide +kernel] at g; exact g)
  refine T_aload_n (v := .ref 373) d_Mo_groupPoint_14 rfl (Or.inr ⟨_, rfl⟩) ?_
  obtain ⟨v_8, hov_8, hwv_8, hsv_8, hiv_8⟩ := id p_6
  refine T_virtual (as := []) (rest := []) (b := 373) d_Mo_groupPoint_15 rfl (jw_Mo_letterC.jo (by decide)) lm_Mo_209 ji_Mo_letterC js_Mo_letterC hov_8 rfl rfl rfl (Nat.le_of_ble_eq_true rfl) (by decide) (by decide) (b_Mo_letterC p_6 (by first | omega | (simp only [List.length_append, List.length_cons, List.length_nil, List.length_replicate, sl_len, be_len, sha_len, hmac_len, ex1_len, ex2_len, stretch_len, zer8_len, tC_len, tag1_len, bnN_len, xkp_len, enc_len, chance_len, lbF_len, str2_len]; done) | (simp only [List.length_append, List.length_cons, List.length_nil, List.length_replicate, sl_len, be_len, sha_len, hmac_len, ex1_len, ex2_len, stretch_len, zer8_len, tC_len, tag1_len, bnN_len, xkp_len, enc_len, chance_len, lbF_len, str2_len]; omega))) (fun r M_7 hq => ?_)
  obtain ⟨rfl, p_7_0, kp_7⟩ := hq
  refine T_eq (pc' := 18) (L' := [(0, .ref 373), (1, .int (nI 12)), (2, .ref 409), (3, .int (nI n))]) (st' := []) (M' := M_7) rfl rfl rfl rfl ?_
  refine T_aload_n (v := .ref 373) d_Mo_groupPoint_18 rfl (Or.inr ⟨_, rfl⟩) ?_
  refine T_aload_n (v := .ref 409) d_Mo_groupPoint_19 rfl (Or.inr ⟨_, rfl⟩) ?_
  refine T_iload_n d_Mo_groupPoint_20 rfl ?_
  have p_9 := (MS.kp ((MS.kp ((MS.kp (hms) kp_1 (by decide))) kp_4 (by decide))) kp_7 (by decide))
  have p_10 := (IA.kp ((IA.kp ((IA.kp (hk) kp_1 (by decide))) kp_4 (by decide))) kp_7 (by decide))
  obtain ⟨v_12, hov_12, hwv_12, hsv_12, hiv_12⟩ := id p_7_0
  refine T_virtual (as := [.ref 409, .int (nI n)]) (rest := []) (b := 373) d_Mo_groupPoint_21 rfl (jw_Mo_stretch.jo (by decide)) lm_Mo_212 ji_Mo_stretch js_Mo_stretch hov_12 rfl rfl rfl (Nat.le_of_ble_eq_true rfl) (by decide) (by decide) (b_Mo_stretch (n := n) p_9 p_7_0 p_10 (by first | omega | (simp only [List.length_append, List.length_cons, List.length_nil, List.length_replicate, sl_len, be_len, sha_len, hmac_len, ex1_len, ex2_len, stretch_len, zer8_len, tC_len, tag1_len, bnN_len, xkp_len, enc_len, chance_len, lbF_len, str2_len]; done) | (simp only [List.length_append, List.length_cons, List.length_nil, List.length_replicate, sl_len, be_len, sha_len, hmac_len, ex1_len, ex2_len, stretch_len, zer8_len, tC_len, tag1_len, bnN_len, xkp_len, enc_len, chance_len, lbF_len, str2_len]; omega)) (by omega) (by first | omega | (simp only [List.length_append, List.length_cons, List.length_nil, List.length_replicate, sl_len, be_len, sha_len, hmac_len, ex1_len, ex2_len, stretch_len, zer8_len, tC_len, tag1_len, bnN_len, xkp_len, enc_len, chance_len, lbF_len, str2_len]; done) | (simp only [List.length_append, List.length_cons, List.length_nil, List.length_replicate, sl_len, be_len, sha_len, hmac_len, ex1_len, ex2_len, stretch_len, zer8_len, tC_len, tag1_len, bnN_len, xkp_len, enc_len, chance_len, lbF_len, str2_len]; omega)) (by omega) (by decide)) (fun r M_11 hq => ?_)
  obtain ⟨rfl, p_11_0, p_11_1, p_11_2, kp_11⟩ := hq
  refine T_eq (pc' := 24) (L' := [(0, .ref 373), (1, .int (nI 12)), (2, .ref 409), (3, .int (nI n))]) (st' := []) (M' := M_11) rfl rfl rfl rfl ?_
  have p_13 : IA M_11 383 64 (stretch s W0) := (by have g := p_11_2; rw [sl64 ha, show ([] ++ [72, 97, 115, 104, 84, 111, 71, 114]) ++ [111, 117, 112, 45] = W0 from rfl, str2_1 _ _ (by decide)] at g; exact g)
  refine T_aload_n (v := .ref 373) d_Mo_groupPoint_24 rfl (Or.inr ⟨_, rfl⟩) ?_
  refine T_bipush (v := nI 12) d_Mo_groupPoint_25 (by decide) ?_
  refine T_aload_n (v := .ref 373) d_Mo_groupPoint_27 rfl (Or.inr ⟨_, rfl⟩) ?_
  obtain ⟨v_14, hov_14, hwv_14, hsv_14, hiv_14⟩ := id p_11_1
  refine T_getfield (v := .ref 383) d_Mo_groupPoint_28 fg_Mo_55 hov_14 rfl ?_
  refine T_iconst (v := nI 0) d_Mo_groupPoint_31 (by decide) ?_
  refine T_virtual (as := [.int (nI 12), .ref 383, .int (nI 0)]) (rest := []) (b := 373) d_Mo_groupPoint_32 rfl (jw_Mo_mapPart.jo (by decide)) lm_Mo_216 ji_Mo_mapPart js_Mo_mapPart hov_14 rfl rfl rfl (Nat.le_of_ble_eq_true rfl) (by decide) (by decide) (b_Mo_map_12 (at0 := 0) p_11_0 p_11_1 p_13 (by first | omega | (simp only [List.length_append, List.length_cons, List.length_nil, List.length_replicate, sl_len, be_len, sha_len, hmac_len, ex1_len, ex2_len, stretch_len, zer8_len, tC_len, tag1_len, bnN_len, xkp_len, enc_len, chance_len, lbF_len, str2_len]; done) | (simp only [List.length_append, List.length_cons, List.length_nil, List.length_replicate, sl_len, be_len, sha_len, hmac_len, ex1_len, ex2_len, stretch_len, zer8_len, tC_len, tag1_len, bnN_len, xkp_len, enc_len, chance_len, lbF_len, str2_len]; omega)) (by decide) (by decide)) (fun r M_15 hq => ?_)
  obtain ⟨rfl, p_15_0, p_15_1, kp_15⟩ := hq
  refine T_eq (pc' := 35) (L' := [(0, .ref 373), (1, .int (nI 12)), (2, .ref 409), (3, .int (nI n))]) (st' := []) (M' := M_15) rfl rfl rfl rfl ?_
  refine T_aload_n (v := .ref 373) d_Mo_groupPoint_35 rfl (Or.inr ⟨_, rfl⟩) ?_
  refine T_bipush (v := nI 16) d_Mo_groupPoint_36 (by decide) ?_
  refine T_aload_n (v := .ref 373) d_Mo_groupPoint_38 rfl (Or.inr ⟨_, rfl⟩) ?_
  have p_16 := (BG.kp (p_11_1) kp_15 (by decide) (by decide))
  obtain ⟨v_17, hov_17, hwv_17, hsv_17, hiv_17⟩ := id p_16
  refine T_getfield (v := .ref 383) d_Mo_groupPoint_39 fg_Mo_55 hov_17 rfl ?_
  refine T_bipush (v := nI 32) d_Mo_groupPoint_42 (by decide) ?_
  have p_18 := (IA.kp (p_13) kp_15 (by decide))
  refine T_virtual (as := [.int (nI 16), .ref 383, .int (nI 32)]) (rest := []) (b := 373) d_Mo_groupPoint_44 rfl (jw_Mo_mapPart.jo (by decide)) lm_Mo_216 ji_Mo_mapPart js_Mo_mapPart hov_17 rfl rfl rfl (Nat.le_of_ble_eq_true rfl) (by decide) (by decide) (b_Mo_map_16 (at0 := 32) p_15_0 p_16 p_15_1 p_18 (by first | omega | (simp only [List.length_append, List.length_cons, List.length_nil, List.length_replicate, sl_len, be_len, sha_len, hmac_len, ex1_len, ex2_len, stretch_len, zer8_len, tC_len, tag1_len, bnN_len, xkp_len, enc_len, chance_len, lbF_len, str2_len]; done) | (simp only [List.length_append, List.length_cons, List.length_nil, List.length_replicate, sl_len, be_len, sha_len, hmac_len, ex1_len, ex2_len, stretch_len, zer8_len, tC_len, tag1_len, bnN_len, xkp_len, enc_len, chance_len, lbF_len, str2_len]; omega)) (by decide) (by decide)) (fun r M_19 hq => ?_)
  obtain ⟨rfl, p_19_0, p_19_1, p_19_2, kp_19⟩ := hq
  refine T_eq (pc' := 47) (L' := [(0, .ref 373), (1, .int (nI 12)), (2, .ref 409), (3, .int (nI n))]) (st' := []) (M' := M_19) rfl rfl rfl rfl ?_
  refine T_aload_n (v := .ref 373) d_Mo_groupPoint_47 rfl (Or.inr ⟨_, rfl⟩) ?_
  refine T_iload_n d_Mo_groupPoint_48 rfl ?_
  refine T_bipush (v := nI 12) d_Mo_groupPoint_49 (by decide) ?_
  refine T_bipush (v := nI 16) d_Mo_groupPoint_51 (by decide) ?_
  have p_20 := (BG.kp (p_16) kp_19 (by decide) (by decide))
  obtain ⟨v_22, hov_22, hwv_22, hsv_22, hiv_22⟩ := id p_20
  refine T_virtual (as := [.int (nI 12), .int (nI 12), .int (nI 16)]) (rest := []) (b := 373) d_Mo_groupPoint_53 rfl (jw_Mo_sumPoint.jo (by decide)) lm_Mo_191 ji_Mo_sumPoint js_Mo_sumPoint hov_22 rfl rfl rfl (Nat.le_of_ble_eq_true rfl) (by decide) (by decide) (b_Mo_join p_19_0 p_20 p_19_2 p_19_1 (mPt_on _) (mPt_on _)) (fun r M_21 hq => ?_)
  obtain ⟨rfl, p_21_0, p_21_1, kp_21⟩ := hq
  refine T_eq (pc' := 56) (L' := [(0, .ref 373), (1, .int (nI 12)), (2, .ref 409), (3, .int (nI n))]) (st' := []) (M' := M_21) rfl rfl rfl rfl ?_
  have gp : PTa M_21 (grp s) := p_21_1
  have p_23 := (BG.kp (p_20) kp_21 (by decide) (by decide))
  exact T_vret d_Mo_groupPoint_56 rfl (by decide) (by decide) ⟨rfl, p_21_0, p_23, gp, (Kp.tr (Kp.tr (Kp.tr (Kp.tr (Kp.tr (Kp.tr (Kp.tr (Kp.rf : Kp [373, 374, 380, 382, 381, 383, 389, 390, 391, 392, 393, 394] M M) (Kp.mono kp_1 (by decide))) (Kp.mono kp_4 (by decide))) (Kp.mono kp_7 (by decide))) (Kp.mono kp_11 (by decide))) (Kp.mono kp_15 (by decide))) (Kp.mono kp_19 (by decide))) (Kp.mono kp_21 (by decide)))⟩
abbrev ukW : List Nat := [373, 374, 380, 381, 382, 383, 384, 385, 387, 388, 389, 395, 397, 398, 401, 408]
set_option maxHeartbeats 8000000 in
theorem uk_32 (G : GX) {M0 : List va_E} {w : Nat → Int32} {l s : List UInt8} {u : Nat} (hb : BG M0 w l) (hs : IA M0 388 192 s) (hsn : 192 < 2 ^ 31) (ha : 0 + 32 ≤ s.length) (hd : 0 + 32 ≤ 400)  {Q : Option Value → List va_E → Prop} (kk : ∀ M, IA M 408 400 (sl s 0 32) ∧ Kp [408] M0 M → TT G mi_Mo_userKey 56 [(0, .ref 373), (1, .int (nI u))] [] M 0 0 Q) : ∀ j k M, k + j = 32 → IA M 408 400 (sl s 0 k) ∧ Kp [408] M0 M → TT G mi_Mo_userKey 32 [(2, .int (nI k)), (0, .ref 373), (1, .int (nI u))] [] M 0 0 Q := by
  intro j
  induction j with
  | zero =>
    intro k M hk hI
    obtain rfl : 32 = k := by omega
    obtain ⟨hda, hK⟩ := id hI
    refine T_iload_n d_Mo_userKey_32 rfl ?_
    refine T_bipush (v := nI 32) d_Mo_userKey_33 (by decide) ?_
    refine N_icmp_ge_t (a := 32) (b := 32) d_Mo_userKey_35 (tgt := 56) rfl (by omega) (by omega) (by omega) ?_
    exact T_sub (fun q hq => List.mem_cons_of_mem _ hq) (kk M hI)
  | succ j ih =>
    intro k M hk hI
    obtain ⟨hda, hK⟩ := hI
    have hsl := IA.le hs
    refine T_iload_n d_Mo_userKey_32 rfl ?_
    refine T_bipush (v := nI 32) d_Mo_userKey_33 (by decide) ?_
    refine N_icmp_ge_f (a := 32) (b := k) d_Mo_userKey_35 (tgt := 56) rfl (by omega) (by omega) (by omega) ?_
    refine T_aload_n (v := .ref 373) d_Mo_userKey_38 rfl (Or.inr ⟨_, rfl⟩) ?_
    have p_1 := (BG.kp (hb) hK (by decide) (by decide))
    obtain ⟨v_2, hov_2, hwv_2, hsv_2, hiv_2⟩ := id p_1
    refine T_getfield (v := .ref 408) d_Mo_userKey_39 fg_Mo_338 hov_2 rfl ?_
    refine T_iload_n d_Mo_userKey_42 rfl ?_
    refine T_aload_n (v := .ref 373) d_Mo_userKey_43 rfl (Or.inr ⟨_, rfl⟩) ?_
    refine T_getfield (v := .ref 388) d_Mo_userKey_44 fg_Mo_99 hov_2 rfl ?_
    refine T_iload_n d_Mo_userKey_47 rfl ?_
    have p_3 := (IA.kp (hs) hK (by decide))
    obtain ⟨f_4, hf_5, hl_6, hv_7⟩ := id p_3
    refine N_iaload (k := k) (x := (bR (gd s k))) d_Mo_userKey_48 hf_5 (by omega) (by decide) (hv_7 k (by first | omega | (simp only [List.length_append, List.length_cons, List.length_nil, List.length_replicate, sl_len, be_len, sha_len, hmac_len, ex1_len, ex2_len, stretch_len, zer8_len, tC_len, tag1_len, bnN_len, xkp_len]; omega))) ?_
    obtain ⟨f_8, hf_9, hl_10, hv_11⟩ := id hda
    refine N_iastore (k := k) d_Mo_userKey_49 (by decide) hf_9 (by omega) (by decide) rfl (fun M_12 h_13 s_14 => ?_)
    refine N_iinc (k := k) (m := 1) (c := (k + 1)) (L' := [(2, .int (nI ((k + 1)))), (0, .ref 373), (1, .int (nI u))]) d_Mo_userKey_50 (by decide) rfl (by decide) rfl rfl ?_
    refine T_goto (tgt := 32) d_Mo_userKey_53 rfl ?_
    exact ih (k + 1) M_12 (by omega) ⟨ia_c0 h_13 (gd_c (by omega)) (by omega) (by omega) hv_11, (Kp.ex (Kp.tr (Kp.rf : Kp [408] M0 M0) (Kp.mono hK (by decide))) s_14 (by decide))⟩
set_option maxHeartbeats 8000000 in
theorem b_Mo_userKey {G : GX} {M : List va_E} {w : Nat → Int32} {u : Nat} {sd : Int32} (hms : MS M) (h : BG M w []) (hk : IA M 402 64 (chance sd (nI 0))) : CT G mi_Mo_userKey [.ref 373, .int (nI u)] M (fun r M' => r = none ∧ MS M' ∧ BG M' w [] ∧ SC M' 395 16 0 (keyN (sl (ex1 (chance sd (nI 0)) (([] ++ W6 ++ [u8 (nI u)]) ++ W7)) 0 32) W8) ∧ Kp ukW M M') := by
  refine CT.of (by decide) (Nat.le_of_ble_eq_true rfl) ?_
  show TT G mi_Mo_userKey 0 [(0, .ref 373), (1, .int (nI u))] [] M 0 0 _
  refine T_aload_n (v := .ref 373) d_Mo_userKey_0 rfl (Or.inr ⟨_, rfl⟩) ?_
  refine T_ldc2 d_Mo_userKey_1 kJ_Mo_506 ?_
  obtain ⟨v_2, hov_2, hwv_2, hsv_2, hiv_2⟩ := id h
  refine T_virtual (as := [.long 1970496882]) (rest := []) (b := 373) d_Mo_userKey_4 rfl (jw_Mo_letters.jo (by decide)) lm_Mo_104 ji_Mo_letters js_Mo_letters hov_2 rfl rfl rfl (Nat.le_of_ble_eq_true rfl) (by decide) (by decide) (b_Mo_letters h (by first | omega | (simp only [List.length_append, List.length_cons, List.length_nil, List.length_replicate, sl_len, be_len, sha_len, hmac_len, ex1_len, ex2_len, stretch_len, zer8_len, tC_len, tag1_len, bnN_len, xkp_len, enc_len, chance_len, lbF_len, str2_len]; done) | (simp only [List.length_append, List.length_cons, List.length_nil, List.length_replicate, sl_len, be_len, sha_len, hmac_len, ex1_len, ex2_len, stretch_len, zer8_len, tC_len, tag1_len, bnN_len, xkp_len, enc_len, chance_len, lbF_len, str2_len]; omega))) (fun r M_1 hq => ?_)
  obtain ⟨rfl, p_1_0, kp_1⟩ := hq
  refine T_eq (pc' := 7) (L' := [(0, .ref 373), (1, .int (nI u))]) (st' := []) (M' := M_1) rfl rfl rfl rfl ?_
  have p_3 : BG M_1 w ([] ++ [117, 115, 101, 114]) := (by have g := p_1_0; rw [show lts 1970496882 = [117, 115, 101, 114] from by decide +kernel] at g; exact g)
  refine T_aload_n (v := .ref 373) d_Mo_userKey_7 rfl (Or.inr ⟨_, rfl⟩) ?_
  refine T_iload_n d_Mo_userKey_8 rfl ?_
  obtain ⟨v_5, hov_5, hwv_5, hsv_5, hiv_5⟩ := id p_3
  refine T_virtual (as := [.int (nI u)]) (rest := []) (b := 373) d_Mo_userKey_9 rfl (jw_Mo_one.jo (by decide)) lm_Mo_11 ji_Mo_one js_Mo_one hov_5 rfl rfl rfl (Nat.le_of_ble_eq_true rfl) (by decide) (by decide) (b_Mo_one (x := (nI u)) p_3 (by first | omega | (simp only [List.length_append, List.length_cons, List.length_nil, List.length_replicate, sl_len, be_len, sha_len, hmac_len, ex1_len, ex2_len, stretch_len, zer8_len, tC_len, tag1_len, bnN_len, xkp_len, enc_len, chance_len, lbF_len, str2_len]; done) | (simp only [List.length_append, List.length_cons, List.length_nil, List.length_replicate, sl_len, be_len, sha_len, hmac_len, ex1_len, ex2_len, stretch_len, zer8_len, tC_len, tag1_len, bnN_len, xkp_len, enc_len, chance_len, lbF_len, str2_len]; omega))) (fun r M_4 hq => ?_)
  obtain ⟨rfl, p_4_0, kp_4⟩ := hq
  refine T_eq (pc' := 12) (L' := [(0, .ref 373), (1, .int (nI u))]) (st' := []) (M' := M_4) rfl rfl rfl rfl ?_
  refine T_aload_n (v := .ref 373) d_Mo_userKey_12 rfl (Or.inr ⟨_, rfl⟩) ?_
  refine T_ldc2 d_Mo_userKey_13 kJ_Mo_508 ?_
  obtain ⟨v_7, hov_7, hwv_7, hsv_7, hiv_7⟩ := id p_4_0
  refine T_virtual (as := [.long 22360159804941689]) (rest := []) (b := 373) d_Mo_userKey_16 rfl (jw_Mo_letters.jo (by decide)) lm_Mo_104 ji_Mo_letters js_Mo_letters hov_7 rfl rfl rfl (Nat.le_of_ble_eq_true rfl) (by decide) (by decide) (b_Mo_letters p_4_0 (by first | omega | (simp only [List.length_append, List.length_cons, List.length_nil, List.length_replicate, sl_len, be_len, sha_len, hmac_len, ex1_len, ex2_len, stretch_len, zer8_len, tC_len, tag1_len, bnN_len, xkp_len, enc_len, chance_len, lbF_len, str2_len]; done) | (simp only [List.length_append, List.length_cons, List.length_nil, List.length_replicate, sl_len, be_len, sha_len, hmac_len, ex1_len, ex2_len, stretch_len, zer8_len, tC_len, tag1_len, bnN_len, xkp_len, enc_len, chance_len, lbF_len, str2_len]; omega))) (fun r M_6 hq => ?_)
  obtain ⟨rfl, p_6_0, kp_6⟩ := hq
  refine T_eq (pc' := 19) (L' := [(0, .ref 373), (1, .int (nI u))]) (st' := []) (M' := M_6) rfl rfl rfl rfl ?_
  have p_8 : BG M_6 w ((([] ++ [117, 115, 101, 114]) ++ [u8 (nI u)]) ++ [79, 112, 114, 102, 75, 101, 121]) := (by have g := p_6_0; rw [show lts 22360159804941689 = [79, 112, 114, 102, 75, 101, 121] from by decide +kernel] at g; exact g)
  refine T_aload_n (v := .ref 373) d_Mo_userKey_19 rfl (Or.inr ⟨_, rfl⟩) ?_
  refine T_aload_n (v := .ref 373) d_Mo_userKey_20 rfl (Or.inr ⟨_, rfl⟩) ?_
  obtain ⟨v_9, hov_9, hwv_9, hsv_9, hiv_9⟩ := id p_8
  refine T_getfield (v := .ref 402) d_Mo_userKey_21 fg_Mo_319 hov_9 rfl ?_
  refine T_iconst (v := nI 0) d_Mo_userKey_24 (by decide) ?_
  refine T_bipush (v := nI 32) d_Mo_userKey_25 (by decide) ?_
  have p_10 := (MS.kp ((MS.kp ((MS.kp (hms) kp_1 (by decide))) kp_4 (by decide))) kp_6 (by decide))
  have p_11 := (IA.kp ((IA.kp ((IA.kp (hk) kp_1 (by decide))) kp_4 (by decide))) kp_6 (by decide))
  refine T_virtual (as := [.ref 402, .int (nI 0), .int (nI 32)]) (rest := []) (b := 373) d_Mo_userKey_27 rfl (jw_Mo_expand.jo (by decide)) lm_Mo_510 ji_Mo_expand js_Mo_expand hov_9 rfl rfl rfl (Nat.le_of_ble_eq_true rfl) (by decide) (by decide) (b_Mo_expand1 (at0 := 0) (n := 32) p_10 p_8 p_11 (by first | omega | (simp only [List.length_append, List.length_cons, List.length_nil, List.length_replicate, sl_len, be_len, sha_len, hmac_len, ex1_len, ex2_len, stretch_len, zer8_len, tC_len, tag1_len, bnN_len, xkp_len, enc_len, chance_len, lbF_len, str2_len]; done) | (simp only [List.length_append, List.length_cons, List.length_nil, List.length_replicate, sl_len, be_len, sha_len, hmac_len, ex1_len, ex2_len, stretch_len, zer8_len, tC_len, tag1_len, bnN_len, xkp_len, enc_len, chance_len, lbF_len, str2_len]; omega)) (by decide) (by first | omega | (simp only [List.length_append, List.length_cons, List.length_nil, List.length_replicate, sl_len, be_len, sha_len, hmac_len, ex1_len, ex2_len, stretch_len, zer8_len, tC_len, tag1_len, bnN_len, xkp_len, enc_len, chance_len, lbF_len, str2_len]; done) | (simp only [List.length_append, List.length_cons, List.length_nil, List.length_replicate, sl_len, be_len, sha_len, hmac_len, ex1_len, ex2_len, stretch_len, zer8_len, tC_len, tag1_len, bnN_len, xkp_len, enc_len, chance_len, lbF_len, str2_len]; omega)) (by decide) (by decide)) (fun r M_12 hq => ?_)
  obtain ⟨rfl, p_12_0, p_12_1, p_12_2, kp_12⟩ := hq
  refine T_eq (pc' := 30) (L' := [(0, .ref 373), (1, .int (nI u))]) (st' := []) (M' := M_12) rfl rfl rfl rfl ?_
  refine T_iconst (v := nI 0) d_Mo_userKey_30 (by decide) ?_
  refine T_istore_n (L' := [(2, .int (nI 0)), (0, .ref 373), (1, .int (nI u))]) d_Mo_userKey_31 (by decide) rfl ?_
  refine uk_32 G p_12_1 p_12_2 (by decide) (by first | omega | (simp only [List.length_append, List.length_cons, List.length_nil, List.length_replicate, sl_len, be_len, sha_len, hmac_len, ex1_len, ex2_len, stretch_len, zer8_len, tC_len, tag1_len, bnN_len, xkp_len, enc_len, chance_len, lbF_len, str2_len]; done) | (simp only [List.length_append, List.length_cons, List.length_nil, List.length_replicate, sl_len, be_len, sha_len, hmac_len, ex1_len, ex2_len, stretch_len, zer8_len, tC_len, tag1_len, bnN_len, xkp_len, enc_len, chance_len, lbF_len, str2_len]; omega)) (by decide) (fun Mc13 hI => ?_) 32 0 M_12 (Nat.zero_add _) ⟨by rw [sl_zero]; exact (MS.ia p_12_0 (p := 408) (n := 400) (by decide)), Kp.rf⟩
  obtain ⟨hd13, hK13⟩ := hI
  have ms13 := MS.wi p_12_0 hK13 hd13.iq (by decide) (by decide) (by decide)
  refine T_aload_n (v := .ref 373) d_Mo_userKey_56 rfl (Or.inr ⟨_, rfl⟩) ?_
  refine T_aload_n (v := .ref 373) d_Mo_userKey_57 rfl (Or.inr ⟨_, rfl⟩) ?_
  have p_14 := (BG.kp (p_12_1) hK13 (by decide) (by decide))
  obtain ⟨v_15, hov_15, hwv_15, hsv_15, hiv_15⟩ := id p_14
  refine T_getfield (v := .ref 408) d_Mo_userKey_58 fg_Mo_338 hov_15 rfl ?_
  refine T_iconst (v := nI 0) d_Mo_userKey_61 (by decide) ?_
  refine T_bipush (v := nI 32) d_Mo_userKey_62 (by decide) ?_
  refine T_iconst (v := nI 0) d_Mo_userKey_64 (by decide) ?_
  refine T_virtual (as := [.ref 408, .int (nI 0), .int (nI 32), .int (nI 0)]) (rest := []) (b := 373) d_Mo_userKey_65 rfl (jw_Mo_keyOf.jo (by decide)) lm_Mo_485 ji_Mo_keyOf js_Mo_keyOf hov_15 rfl rfl rfl (Nat.le_of_ble_eq_true rfl) (by decide) (by decide) (b_Mo_keyOf0 (at0 := 0) ms13 p_14 hd13 (by first | omega | (simp only [List.length_append, List.length_cons, List.length_nil, List.length_replicate, sl_len, be_len, sha_len, hmac_len, ex1_len, ex2_len, stretch_len, zer8_len, tC_len, tag1_len, bnN_len, xkp_len, enc_len, chance_len, lbF_len, str2_len]; done) | (simp only [List.length_append, List.length_cons, List.length_nil, List.length_replicate, sl_len, be_len, sha_len, hmac_len, ex1_len, ex2_len, stretch_len, zer8_len, tC_len, tag1_len, bnN_len, xkp_len, enc_len, chance_len, lbF_len, str2_len]; omega)) (by decide) (by decide)) (fun r M_16 hq => ?_)
  obtain ⟨rfl, p_16_0, p_16_1, p_16_2, kp_16⟩ := hq
  refine T_eq (pc' := 68) (L' := [(0, .ref 373), (1, .int (nI u))]) (st' := []) (M' := M_16) rfl rfl rfl rfl ?_
  have p_17 : SC M_16 395 16 0 (keyN (sl (ex1 (chance sd (nI 0)) (([] ++ W6 ++ [u8 (nI u)]) ++ W7)) 0 32) W8) := (by have g := p_16_2; rw [sl64 (sl_len _ _ _), sl64 (chance_len _ _)] at g; exact g)
  exact T_vret d_Mo_userKey_68 rfl (by decide) (by decide) ⟨rfl, p_16_0, p_16_1, p_17, (Kp.tr (Kp.tr (Kp.tr (Kp.tr (Kp.tr (Kp.tr (Kp.rf : Kp [373, 374, 380, 381, 382, 383, 384, 385, 387, 388, 389, 395, 397, 398, 401, 408] M M) (Kp.mono kp_1 (by decide))) (Kp.mono kp_4 (by decide))) (Kp.mono kp_6 (by decide))) (Kp.mono kp_12 (by decide +kernel))) (Kp.mono hK13 (by decide))) (Kp.mono kp_16 (by decide +kernel)))⟩
abbrev seW : List Nat := [373, 374, 380, 381, 382, 383, 384, 385, 408, 411]
set_option maxHeartbeats 8000000 in
theorem sd_45 (G : GX) {M0 : List va_E} {w : Nat → Int32} {l s : List UInt8} {p at0 n : Nat} (hb : BG M0 w l) (hs : IA M0 383 64 s) (hsn : 64 < 2 ^ 31) (ha : 0 + 64 ≤ s.length) (hd : 0 + 64 ≤ 400)  {Q : Option Value → List va_E → Prop} (kk : ∀ M, IA M 408 400 (sl s 0 64) ∧ Kp [408] M0 M → TT G mi_Mo_second 72 [(0, .ref 373), (1, .ref p), (2, .int (nI at0)), (3, .int (nI n))] [] M 0 0 Q) : ∀ j k M, k + j = 64 → IA M 408 400 (sl s 0 k) ∧ Kp [408] M0 M → TT G mi_Mo_second 45 [(4, .int (nI k)), (0, .ref 373), (1, .ref p), (2, .int (nI at0)), (3, .int (nI n))] [] M 0 0 Q := by
  intro j
  induction j with
  | zero =>
    intro k M hk hI
    obtain rfl : 64 = k := by omega
    obtain ⟨hda, hK⟩ := id hI
    refine T_iload d_Mo_second_45 rfl ?_
    refine T_bipush (v := nI 64) d_Mo_second_47 (by decide) ?_
    refine N_icmp_ge_t (a := 64) (b := 64) d_Mo_second_49 (tgt := 72) rfl (by omega) (by omega) (by omega) ?_
    exact T_sub (fun q hq => List.mem_cons_of_mem _ hq) (kk M hI)
  | succ j ih =>
    intro k M hk hI
    obtain ⟨hda, hK⟩ := hI
    have hsl := IA.le hs
    refine T_iload d_Mo_second_45 rfl ?_
    refine T_bipush (v := nI 64) d_Mo_second_47 (by decide) ?_
    refine N_icmp_ge_f (a := 64) (b := k) d_Mo_second_49 (tgt := 72) rfl (by omega) (by omega) (by omega) ?_
    refine T_aload_n (v := .ref 373) d_Mo_second_52 rfl (Or.inr ⟨_, rfl⟩) ?_
    have p_1 := (BG.kp (hb) hK (by decide) (by decide))
    obtain ⟨v_2, hov_2, hwv_2, hsv_2, hiv_2⟩ := id p_1
    refine T_getfield (v := .ref 408) d_Mo_second_53 fg_Mo_338 hov_2 rfl ?_
    refine T_iload d_Mo_second_56 rfl ?_
    refine T_aload_n (v := .ref 373) d_Mo_second_58 rfl (Or.inr ⟨_, rfl⟩) ?_
    refine T_getfield (v := .ref 383) d_Mo_second_59 fg_Mo_55 hov_2 rfl ?_
    refine T_iload d_Mo_second_62 rfl ?_
    have p_3 := (IA.kp (hs) hK (by decide))
    obtain ⟨f_4, hf_5, hl_6, hv_7⟩ := id p_3
    refine N_iaload (k := k) (x := (bR (gd s k))) d_Mo_second_64 hf_5 (by omega) (by decide) (hv_7 k (by first | omega | (simp only [List.length_append, List.length_cons, List.length_nil, List.length_replicate, sl_len, be_len, sha_len, hmac_len, ex1_len, ex2_len, stretch_len, zer8_len, tC_len, tag1_len, bnN_len, xkp_len]; omega))) ?_
    obtain ⟨f_8, hf_9, hl_10, hv_11⟩ := id hda
    refine N_iastore (k := k) d_Mo_second_65 (by decide) hf_9 (by omega) (by decide) rfl (fun M_12 h_13 s_14 => ?_)
    refine N_iinc (k := k) (m := 1) (c := (k + 1)) (L' := [(4, .int (nI ((k + 1)))), (0, .ref 373), (1, .ref p), (2, .int (nI at0)), (3, .int (nI n))]) d_Mo_second_66 (by decide) rfl (by decide) rfl rfl ?_
    refine T_goto (tgt := 45) d_Mo_second_69 rfl ?_
    exact ih (k + 1) M_12 (by omega) ⟨ia_c0 h_13 (gd_c (by omega)) (by omega) (by omega) hv_11, (Kp.ex (Kp.tr (Kp.rf : Kp [408] M0 M0) (Kp.mono hK (by decide))) s_14 (by decide))⟩
set_option maxHeartbeats 8000000 in
theorem sd_101 (G : GX) {M0 : List va_E} {w : Nat → Int32} {l s : List UInt8} {p at0 n : Nat} (hb : BG M0 w l) (hs : IA M0 383 64 s) (hsn : 64 < 2 ^ 31) (ha : 0 + 64 ≤ s.length) (hd : 0 + 64 ≤ 64)  {Q : Option Value → List va_E → Prop} (kk : ∀ M, IA M 411 64 (sl s 0 64) ∧ Kp [411] M0 M → TT G mi_Mo_second 128 [(0, .ref 373), (1, .ref p), (2, .int (nI at0)), (3, .int (nI n))] [] M 0 0 Q) : ∀ j k M, k + j = 64 → IA M 411 64 (sl s 0 k) ∧ Kp [411] M0 M → TT G mi_Mo_second 101 [(4, .int (nI k)), (0, .ref 373), (1, .ref p), (2, .int (nI at0)), (3, .int (nI n))] [] M 0 0 Q := by
  intro j
  induction j with
  | zero =>
    intro k M hk hI
    obtain rfl : 64 = k := by omega
    obtain ⟨hda, hK⟩ := id hI
    refine T_iload d_Mo_second_101 rfl ?_
    refine T_bipush (v := nI 64) d_Mo_second_103 (by decide) ?_
    refine N_icmp_ge_t (a := 64) (b := 64) d_Mo_second_105 (tgt := 128) rfl (by omega) (by omega) (by omega) ?_
    exact T_sub (fun q hq => List.mem_cons_of_mem _ hq) (kk M hI)
  | succ j ih =>
    intro k M hk hI
    obtain ⟨hda, hK⟩ := hI
    have hsl := IA.le hs
    refine T_iload d_Mo_second_101 rfl ?_
    refine T_bipush (v := nI 64) d_Mo_second_103 (by decide) ?_
    refine N_icmp_ge_f (a := 64) (b := k) d_Mo_second_105 (tgt := 128) rfl (by omega) (by omega) (by omega) ?_
    refine T_aload_n (v := .ref 373) d_Mo_second_108 rfl (Or.inr ⟨_, rfl⟩) ?_
    have p_1 := (BG.kp (hb) hK (by decide) (by decide))
    obtain ⟨v_2, hov_2, hwv_2, hsv_2, hiv_2⟩ := id p_1
    refine T_getfield (v := .ref 411) d_Mo_second_109 fg_Mo_353 hov_2 rfl ?_
    refine T_iload d_Mo_second_112 rfl ?_
    refine T_aload_n (v := .ref 373) d_Mo_second_114 rfl (Or.inr ⟨_, rfl⟩) ?_
    refine T_getfield (v := .ref 383) d_Mo_second_115 fg_Mo_55 hov_2 rfl ?_
    refine T_iload d_Mo_second_118 rfl ?_
    have p_3 := (IA.kp (hs) hK (by decide))
    obtain ⟨f_4, hf_5, hl_6, hv_7⟩ := id p_3
    refine N_iaload (k := k) (x := (bR (gd s k))) d_Mo_second_120 hf_5 (by omega) (by decide) (hv_7 k (by first | omega | (simp only [List.length_append, List.length_cons, List.length_nil, List.length_replicate, sl_len, be_len, sha_len, hmac_len, ex1_len, ex2_len, stretch_len, zer8_len, tC_len, tag1_len, bnN_len, xkp_len]; omega))) ?_
    obtain ⟨f_8, hf_9, hl_10, hv_11⟩ := id hda
    refine N_iastore (k := k) d_Mo_second_121 (by decide) hf_9 (by omega) (by decide) rfl (fun M_12 h_13 s_14 => ?_)
    refine N_iinc (k := k) (m := 1) (c := (k + 1)) (L' := [(4, .int (nI ((k + 1)))), (0, .ref 373), (1, .ref p), (2, .int (nI at0)), (3, .int (nI n))]) d_Mo_second_122 (by decide) rfl (by decide) rfl rfl ?_
    refine T_goto (tgt := 101) d_Mo_second_125 rfl ?_
    exact ih (k + 1) M_12 (by omega) ⟨ia_c0 h_13 (gd_c (by omega)) (by omega) (by omega) hv_11, (Kp.ex (Kp.tr (Kp.rf : Kp [411] M0 M0) (Kp.mono hK (by decide))) s_14 (by decide))⟩
set_option maxHeartbeats 8000000 in
theorem b_Mo_second {G : GX} {M : List va_E} {w : Nat → Int32} {p m at0 n : Nat} {s : List UInt8} {E : Fp × Fp} (hms : MS M) (h : BG M w []) (hk : IA M p m s) (he : IA M 394 32 (enc E)) (ha : at0 + n ≤ s.length) (hm2 : m < 2 ^ 30) (hn : n ≤ 1000) (hp : p ∉ seW) : CT G mi_Mo_second [.ref 373, .ref p, .int (nI at0), .int (nI n)] M (fun r M' => r = none ∧ MS M' ∧ BG M' w [] ∧ IA M' 411 64 (sec8 (sl s at0 n) E) ∧ Kp seW M M') := by
  refine CT.of (by decide) (Nat.le_of_ble_eq_true rfl) ?_
  show TT G mi_Mo_second 0 [(0, .ref 373), (1, .ref p), (2, .int (nI at0)), (3, .int (nI n))] [] M 0 0 _
  refine T_aload_n (v := .ref 373) d_Mo_second_0 rfl (Or.inr ⟨_, rfl⟩) ?_
  refine T_iload_n d_Mo_second_1 rfl ?_
  refine T_iconst (v := nI 2) d_Mo_second_2 (by decide) ?_
  obtain ⟨v_2, hov_2, hwv_2, hsv_2, hiv_2⟩ := id h
  refine T_virtual (as := [.int (nI n), .int (nI 2)]) (rest := []) (b := 373) d_Mo_second_3 rfl (jw_Mo_number.jo (by decide)) lm_Mo_120 ji_Mo_number js_Mo_number hov_2 rfl rfl rfl (Nat.le_of_ble_eq_true rfl) (by decide) (by decide) (b_Mo_number (v := (nI n)) (c := 2) h (by decide) (by first | omega | (simp only [List.length_append, List.length_cons, List.length_nil, List.length_replicate, sl_len, be_len, sha_len, hmac_len, ex1_len, ex2_len, stretch_len, zer8_len, tC_len, tag1_len, bnN_len, xkp_len, enc_len, chance_len, lbF_len, str2_len]; done) | (simp only [List.length_append, List.length_cons, List.length_nil, List.length_replicate, sl_len, be_len, sha_len, hmac_len, ex1_len, ex2_len, stretch_len, zer8_len, tC_len, tag1_len, bnN_len, xkp_len, enc_len, chance_len, lbF_len, str2_len]; omega))) (fun r M_1 hq => ?_)
  obtain ⟨rfl, p_1_0, kp_1⟩ := hq
  refine T_eq (pc' := 6) (L' := [(0, .ref 373), (1, .ref p), (2, .int (nI at0)), (3, .int (nI n))]) (st' := []) (M' := M_1) rfl rfl rfl rfl ?_
  refine T_aload_n (v := .ref 373) d_Mo_second_6 rfl (Or.inr ⟨_, rfl⟩) ?_
  refine T_aload_n (v := .ref p) d_Mo_second_7 rfl (Or.inr ⟨_, rfl⟩) ?_
  refine T_iload_n d_Mo_second_8 rfl ?_
  refine T_iload_n d_Mo_second_9 rfl ?_
  have p_3 := (IA.kp (hk) kp_1 (nm hp (by decide)))
  obtain ⟨v_5, hov_5, hwv_5, hsv_5, hiv_5⟩ := id p_1_0
  refine T_virtual (as := [.ref p, .int (nI at0), .int (nI n)]) (rest := []) (b := 373) d_Mo_second_10 rfl (jw_Mo_bytes.jo (by decide)) lm_Mo_76 ji_Mo_bytes js_Mo_bytes hov_5 rfl rfl rfl (Nat.le_of_ble_eq_true rfl) (by decide) (by decide) (b_Mo_bytes (at0 := at0) (n := n) p_1_0 p_3 (by first | omega | (simp only [List.length_append, List.length_cons, List.length_nil, List.length_replicate, sl_len, be_len, sha_len, hmac_len, ex1_len, ex2_len, stretch_len, zer8_len, tC_len, tag1_len, bnN_len, xkp_len, enc_len, chance_len, lbF_len, str2_len]; done) | (simp only [List.length_append, List.length_cons, List.length_nil, List.length_replicate, sl_len, be_len, sha_len, hmac_len, ex1_len, ex2_len, stretch_len, zer8_len, tC_len, tag1_len, bnN_len, xkp_len, enc_len, chance_len, lbF_len, str2_len]; omega)) (by omega) (by first | omega | (simp only [List.length_append, List.length_cons, List.length_nil, List.length_replicate, sl_len, be_len, sha_len, hmac_len, ex1_len, ex2_len, stretch_len, zer8_len, tC_len, tag1_len, bnN_len, xkp_len, enc_len, chance_len, lbF_len, str2_len]; done) | (simp only [List.length_append, List.length_cons, List.length_nil, List.length_replicate, sl_len, be_len, sha_len, hmac_len, ex1_len, ex2_len, stretch_len, zer8_len, tC_len, tag1_len, bnN_len, xkp_len, enc_len, chance_len, lbF_len, str2_len]; omega)) (nmne hp (by decide)) (nmne hp (by decide))) (fun r M_4 hq => ?_)
  obtain ⟨rfl, p_4_0, kp_4⟩ := hq
  refine T_eq (pc' := 13) (L' := [(0, .ref 373), (1, .ref p), (2, .int (nI at0)), (3, .int (nI n))]) (st' := []) (M' := M_4) rfl rfl rfl rfl ?_
  refine T_aload_n (v := .ref 373) d_Mo_second_13 rfl (Or.inr ⟨_, rfl⟩) ?_
  refine T_bipush (v := nI 32) d_Mo_second_14 (by decide) ?_
  refine T_iconst (v := nI 2) d_Mo_second_16 (by decide) ?_
  obtain ⟨v_7, hov_7, hwv_7, hsv_7, hiv_7⟩ := id p_4_0
  refine T_virtual (as := [.int (nI 32), .int (nI 2)]) (rest := []) (b := 373) d_Mo_second_17 rfl (jw_Mo_number.jo (by decide)) lm_Mo_120 ji_Mo_number js_Mo_number hov_7 rfl rfl rfl (Nat.le_of_ble_eq_true rfl) (by decide) (by decide) (b_Mo_number (v := (nI 32)) (c := 2) p_4_0 (by decide) (by first | omega | (simp only [List.length_append, List.length_cons, List.length_nil, List.length_replicate, sl_len, be_len, sha_len, hmac_len, ex1_len, ex2_len, stretch_len, zer8_len, tC_len, tag1_len, bnN_len, xkp_len, enc_len, chance_len, lbF_len, str2_len]; done) | (simp only [List.length_append, List.length_cons, List.length_nil, List.length_replicate, sl_len, be_len, sha_len, hmac_len, ex1_len, ex2_len, stretch_len, zer8_len, tC_len, tag1_len, bnN_len, xkp_len, enc_len, chance_len, lbF_len, str2_len]; omega))) (fun r M_6 hq => ?_)
  obtain ⟨rfl, p_6_0, kp_6⟩ := hq
  refine T_eq (pc' := 20) (L' := [(0, .ref 373), (1, .ref p), (2, .int (nI at0)), (3, .int (nI n))]) (st' := []) (M' := M_6) rfl rfl rfl rfl ?_
  have p_8 : BG M_6 w (((([]) ++ bnN (nI n) 2) ++ sl s at0 n) ++ [0, 32]) := (by have g := p_6_0; rw [show bnN (nI 32) 2 = [0, 32] from by decide] at g; exact g)
  refine T_aload_n (v := .ref 373) d_Mo_second_20 rfl (Or.inr ⟨_, rfl⟩) ?_
  refine T_aload_n (v := .ref 373) d_Mo_second_21 rfl (Or.inr ⟨_, rfl⟩) ?_
  obtain ⟨v_9, hov_9, hwv_9, hsv_9, hiv_9⟩ := id p_8
  refine T_getfield (v := .ref 394) d_Mo_second_22 fg_Mo_146 hov_9 rfl ?_
  refine T_iconst (v := nI 0) d_Mo_second_25 (by decide) ?_
  refine T_bipush (v := nI 32) d_Mo_second_26 (by decide) ?_
  have p_10 := (IA.kp ((IA.kp ((IA.kp (he) kp_1 (by decide))) kp_4 (by decide))) kp_6 (by decide))
  refine T_virtual (as := [.ref 394, .int (nI 0), .int (nI 32)]) (rest := []) (b := 373) d_Mo_second_28 rfl (jw_Mo_bytes.jo (by decide)) lm_Mo_76 ji_Mo_bytes js_Mo_bytes hov_9 rfl rfl rfl (Nat.le_of_ble_eq_true rfl) (by decide) (by decide) (b_Mo_bytes (at0 := 0) (n := 32) p_8 p_10 (by first | omega | (simp only [List.length_append, List.length_cons, List.length_nil, List.length_replicate, sl_len, be_len, sha_len, hmac_len, ex1_len, ex2_len, stretch_len, zer8_len, tC_len, tag1_len, bnN_len, xkp_len, enc_len, chance_len, lbF_len, str2_len]; done) | (simp only [List.length_append, List.length_cons, List.length_nil, List.length_replicate, sl_len, be_len, sha_len, hmac_len, ex1_len, ex2_len, stretch_len, zer8_len, tC_len, tag1_len, bnN_len, xkp_len, enc_len, chance_len, lbF_len, str2_len]; omega)) (by decide) (by first | omega | (simp only [List.length_append, List.length_cons, List.length_nil, List.length_replicate, sl_len, be_len, sha_len, hmac_len, ex1_len, ex2_len, stretch_len, zer8_len, tC_len, tag1_len, bnN_len, xkp_len, enc_len, chance_len, lbF_len, str2_len]; done) | (simp only [List.length_append, List.length_cons, List.length_nil, List.length_replicate, sl_len, be_len, sha_len, hmac_len, ex1_len, ex2_len, stretch_len, zer8_len, tC_len, tag1_len, bnN_len, xkp_len, enc_len, chance_len, lbF_len, str2_len]; omega)) (by decide) (by decide)) (fun r M_11 hq => ?_)
  obtain ⟨rfl, p_11_0, kp_11⟩ := hq
  refine T_eq (pc' := 31) (L' := [(0, .ref 373), (1, .ref p), (2, .int (nI at0)), (3, .int (nI n))]) (st' := []) (M' := M_11) rfl rfl rfl rfl ?_
  refine T_aload_n (v := .ref 373) d_Mo_second_31 rfl (Or.inr ⟨_, rfl⟩) ?_
  refine T_ldc2 d_Mo_second_32 kJ_Mo_513 ?_
  obtain ⟨v_13, hov_13, hwv_13, hsv_13, hiv_13⟩ := id p_11_0
  refine T_virtual (as := [.long 5073707819919309413]) (rest := []) (b := 373) d_Mo_second_35 rfl (jw_Mo_letters.jo (by decide)) lm_Mo_104 ji_Mo_letters js_Mo_letters hov_13 rfl rfl rfl (Nat.le_of_ble_eq_true rfl) (by decide) (by decide) (b_Mo_letters p_11_0 (by first | omega | (simp only [List.length_append, List.length_cons, List.length_nil, List.length_replicate, sl_len, be_len, sha_len, hmac_len, ex1_len, ex2_len, stretch_len, zer8_len, tC_len, tag1_len, bnN_len, xkp_len, enc_len, chance_len, lbF_len, str2_len]; done) | (simp only [List.length_append, List.length_cons, List.length_nil, List.length_replicate, sl_len, be_len, sha_len, hmac_len, ex1_len, ex2_len, stretch_len, zer8_len, tC_len, tag1_len, bnN_len, xkp_len, enc_len, chance_len, lbF_len, str2_len]; omega))) (fun r M_12 hq => ?_)
  obtain ⟨rfl, p_12_0, kp_12⟩ := hq
  refine T_eq (pc' := 38) (L' := [(0, .ref 373), (1, .ref p), (2, .int (nI at0)), (3, .int (nI n))]) (st' := []) (M' := M_12) rfl rfl rfl rfl ?_
  have p_14 : BG M_12 w (((((([]) ++ bnN (nI n) 2) ++ sl s at0 n) ++ [0, 32]) ++ sl (enc E) 0 32) ++ [70, 105, 110, 97, 108, 105, 122, 101]) := (by have g := p_12_0; rw [show lts 5073707819919309413 = [70, 105, 110, 97, 108, 105, 122, 101] from by decide +kernel] at g; exact g)
  refine T_aload_n (v := .ref 373) d_Mo_second_38 rfl (Or.inr ⟨_, rfl⟩) ?_
  have p_15 := (MS.kp ((MS.kp ((MS.kp ((MS.kp ((MS.kp (hms) kp_1 (by decide))) kp_4 (by decide))) kp_6 (by decide))) kp_11 (by decide))) kp_12 (by decide))
  obtain ⟨v_17, hov_17, hwv_17, hsv_17, hiv_17⟩ := id p_14
  refine T_virtual (as := []) (rest := []) (b := 373) d_Mo_second_39 rfl (jw_Mo_hash0.jo (by decide)) lm_Mo_80 ji_Mo_hash0 js_Mo_hash0 hov_17 rfl rfl rfl (Nat.le_of_ble_eq_true rfl) (by decide) (by decide) (b_Mo_hash0 p_15 p_14 (by first | omega | (simp only [List.length_append, List.length_cons, List.length_nil, List.length_replicate, sl_len, be_len, sha_len, hmac_len, ex1_len, ex2_len, stretch_len, zer8_len, tC_len, tag1_len, bnN_len, xkp_len, enc_len, chance_len, lbF_len, str2_len]; done) | (simp only [List.length_append, List.length_cons, List.length_nil, List.length_replicate, sl_len, be_len, sha_len, hmac_len, ex1_len, ex2_len, stretch_len, zer8_len, tC_len, tag1_len, bnN_len, xkp_len, enc_len, chance_len, lbF_len, str2_len]; omega))) (fun r M_16 hq => ?_)
  obtain ⟨rfl, p_16_0, p_16_1, p_16_2, kp_16⟩ := hq
  refine T_eq (pc' := 42) (L' := [(0, .ref 373), (1, .ref p), (2, .int (nI at0)), (3, .int (nI n))]) (st' := []) (M' := M_16) rfl rfl rfl rfl ?_
  refine T_iconst (v := nI 0) d_Mo_second_42 (by decide) ?_
  refine T_istore (L' := [(4, .int (nI 0)), (0, .ref 373), (1, .ref p), (2, .int (nI at0)), (3, .int (nI n))]) d_Mo_second_43 (by decide) rfl ?_
  refine sd_45 G p_16_1 p_16_2 (by decide) (by first | omega | (simp only [List.length_append, List.length_cons, List.length_nil, List.length_replicate, sl_len, be_len, sha_len, hmac_len, ex1_len, ex2_len, stretch_len, zer8_len, tC_len, tag1_len, bnN_len, xkp_len, enc_len, chance_len, lbF_len, str2_len]; done) | (simp only [List.length_append, List.length_cons, List.length_nil, List.length_replicate, sl_len, be_len, sha_len, hmac_len, ex1_len, ex2_len, stretch_len, zer8_len, tC_len, tag1_len, bnN_len, xkp_len, enc_len, chance_len, lbF_len, str2_len]; omega)) (by decide) (fun Mc18 hI => ?_) 64 0 M_16 (Nat.zero_add _) ⟨by rw [sl_zero]; exact (MS.ia p_16_0 (p := 408) (n := 400) (by decide)), Kp.rf⟩
  obtain ⟨hd18, hK18⟩ := hI
  have ms18 := MS.wi p_16_0 hK18 hd18.iq (by decide) (by decide) (by decide)
  have p_19 : IA Mc18 408 400 (sha (((((([]) ++ bnN (nI n) 2) ++ sl s at0 n) ++ [0, 32]) ++ sl (enc E) 0 32) ++ [70, 105, 110, 97, 108, 105, 122, 101])) := (by have g := hd18; rw [sl64 (by first | omega | (simp only [List.length_append, List.length_cons, List.length_nil, List.length_replicate, sl_len, be_len, sha_len, hmac_len, ex1_len, ex2_len, stretch_len, zer8_len, tC_len, tag1_len, bnN_len, xkp_len, enc_len, chance_len, lbF_len, str2_len]; done) | (simp only [List.length_append, List.length_cons, List.length_nil, List.length_replicate, sl_len, be_len, sha_len, hmac_len, ex1_len, ex2_len, stretch_len, zer8_len, tC_len, tag1_len, bnN_len, xkp_len, enc_len, chance_len, lbF_len, str2_len]; omega))] at g; exact g)
  refine T_aload_n (v := .ref 373) d_Mo_second_72 rfl (Or.inr ⟨_, rfl⟩) ?_
  refine T_aload_n (v := .ref 373) d_Mo_second_73 rfl (Or.inr ⟨_, rfl⟩) ?_
  have p_20 := (BG.kp (p_16_1) hK18 (by decide) (by decide))
  obtain ⟨v_21, hov_21, hwv_21, hsv_21, hiv_21⟩ := id p_20
  refine T_getfield (v := .ref 408) d_Mo_second_74 fg_Mo_338 hov_21 rfl ?_
  refine T_iconst (v := nI 0) d_Mo_second_77 (by decide) ?_
  refine T_bipush (v := nI 64) d_Mo_second_78 (by decide) ?_
  refine T_virtual (as := [.ref 408, .int (nI 0), .int (nI 64)]) (rest := []) (b := 373) d_Mo_second_80 rfl (jw_Mo_bytes.jo (by decide)) lm_Mo_76 ji_Mo_bytes js_Mo_bytes hov_21 rfl rfl rfl (Nat.le_of_ble_eq_true rfl) (by decide) (by decide) (b_Mo_bytes (at0 := 0) (n := 64) p_20 p_19 (by first | omega | (simp only [List.length_append, List.length_cons, List.length_nil, List.length_replicate, sl_len, be_len, sha_len, hmac_len, ex1_len, ex2_len, stretch_len, zer8_len, tC_len, tag1_len, bnN_len, xkp_len, enc_len, chance_len, lbF_len, str2_len]; done) | (simp only [List.length_append, List.length_cons, List.length_nil, List.length_replicate, sl_len, be_len, sha_len, hmac_len, ex1_len, ex2_len, stretch_len, zer8_len, tC_len, tag1_len, bnN_len, xkp_len, enc_len, chance_len, lbF_len, str2_len]; omega)) (by decide) (by first | omega | (simp only [List.length_append, List.length_cons, List.length_nil, List.length_replicate, sl_len, be_len, sha_len, hmac_len, ex1_len, ex2_len, stretch_len, zer8_len, tC_len, tag1_len, bnN_len, xkp_len, enc_len, chance_len, lbF_len, str2_len]; done) | (simp only [List.length_append, List.length_cons, List.length_nil, List.length_replicate, sl_len, be_len, sha_len, hmac_len, ex1_len, ex2_len, stretch_len, zer8_len, tC_len, tag1_len, bnN_len, xkp_len, enc_len, chance_len, lbF_len, str2_len]; omega)) (by decide) (by decide)) (fun r M_22 hq => ?_)
  obtain ⟨rfl, p_22_0, kp_22⟩ := hq
  refine T_eq (pc' := 83) (L' := [(0, .ref 373), (1, .ref p), (2, .int (nI at0)), (3, .int (nI n))]) (st' := []) (M' := M_22) rfl rfl rfl rfl ?_
  refine T_aload_n (v := .ref 373) d_Mo_second_83 rfl (Or.inr ⟨_, rfl⟩) ?_
  refine T_aload_n (v := .ref 373) d_Mo_second_84 rfl (Or.inr ⟨_, rfl⟩) ?_
  obtain ⟨v_23, hov_23, hwv_23, hsv_23, hiv_23⟩ := id p_22_0
  refine T_getfield (v := .ref 408) d_Mo_second_85 fg_Mo_338 hov_23 rfl ?_
  refine T_iconst (v := nI 0) d_Mo_second_88 (by decide) ?_
  refine T_bipush (v := nI 64) d_Mo_second_89 (by decide) ?_
  have p_24 := (IA.kp (p_19) kp_22 (by decide))
  refine T_virtual (as := [.ref 408, .int (nI 0), .int (nI 64)]) (rest := []) (b := 373) d_Mo_second_91 rfl (jw_Mo_bytes.jo (by decide)) lm_Mo_76 ji_Mo_bytes js_Mo_bytes hov_23 rfl rfl rfl (Nat.le_of_ble_eq_true rfl) (by decide) (by decide) (b_Mo_bytes (at0 := 0) (n := 64) p_22_0 p_24 (by first | omega | (simp only [List.length_append, List.length_cons, List.length_nil, List.length_replicate, sl_len, be_len, sha_len, hmac_len, ex1_len, ex2_len, stretch_len, zer8_len, tC_len, tag1_len, bnN_len, xkp_len, enc_len, chance_len, lbF_len, str2_len]; done) | (simp only [List.length_append, List.length_cons, List.length_nil, List.length_replicate, sl_len, be_len, sha_len, hmac_len, ex1_len, ex2_len, stretch_len, zer8_len, tC_len, tag1_len, bnN_len, xkp_len, enc_len, chance_len, lbF_len, str2_len]; omega)) (by decide) (by first | omega | (simp only [List.length_append, List.length_cons, List.length_nil, List.length_replicate, sl_len, be_len, sha_len, hmac_len, ex1_len, ex2_len, stretch_len, zer8_len, tC_len, tag1_len, bnN_len, xkp_len, enc_len, chance_len, lbF_len, str2_len]; done) | (simp only [List.length_append, List.length_cons, List.length_nil, List.length_replicate, sl_len, be_len, sha_len, hmac_len, ex1_len, ex2_len, stretch_len, zer8_len, tC_len, tag1_len, bnN_len, xkp_len, enc_len, chance_len, lbF_len, str2_len]; omega)) (by decide) (by decide)) (fun r M_25 hq => ?_)
  obtain ⟨rfl, p_25_0, kp_25⟩ := hq
  refine T_eq (pc' := 94) (L' := [(0, .ref 373), (1, .ref p), (2, .int (nI at0)), (3, .int (nI n))]) (st' := []) (M' := M_25) rfl rfl rfl rfl ?_
  refine T_aload_n (v := .ref 373) d_Mo_second_94 rfl (Or.inr ⟨_, rfl⟩) ?_
  have p_26 := (MS.kp ((MS.kp (ms18) kp_22 (by decide))) kp_25 (by decide))
  obtain ⟨v_28, hov_28, hwv_28, hsv_28, hiv_28⟩ := id p_25_0
  refine T_virtual (as := []) (rest := []) (b := 373) d_Mo_second_95 rfl (jw_Mo_extract.jo (by decide)) lm_Mo_515 ji_Mo_extract js_Mo_extract hov_28 rfl rfl rfl (Nat.le_of_ble_eq_true rfl) (by decide) (by decide) (b_Mo_extract p_26 p_25_0 (by first | omega | (simp only [List.length_append, List.length_cons, List.length_nil, List.length_replicate, sl_len, be_len, sha_len, hmac_len, ex1_len, ex2_len, stretch_len, zer8_len, tC_len, tag1_len, bnN_len, xkp_len, enc_len, chance_len, lbF_len, str2_len]; done) | (simp only [List.length_append, List.length_cons, List.length_nil, List.length_replicate, sl_len, be_len, sha_len, hmac_len, ex1_len, ex2_len, stretch_len, zer8_len, tC_len, tag1_len, bnN_len, xkp_len, enc_len, chance_len, lbF_len, str2_len]; omega))) (fun r M_27 hq => ?_)
  obtain ⟨rfl, p_27_0, p_27_1, p_27_2, kp_27⟩ := hq
  refine T_eq (pc' := 98) (L' := [(0, .ref 373), (1, .ref p), (2, .int (nI at0)), (3, .int (nI n))]) (st' := []) (M' := M_27) rfl rfl rfl rfl ?_
  refine T_iconst (v := nI 0) d_Mo_second_98 (by decide) ?_
  refine T_istore (L' := [(4, .int (nI 0)), (0, .ref 373), (1, .ref p), (2, .int (nI at0)), (3, .int (nI n))]) d_Mo_second_99 (by decide) rfl ?_
  refine sd_101 G p_27_1 p_27_2 (by decide) (by first | omega | (simp only [List.length_append, List.length_cons, List.length_nil, List.length_replicate, sl_len, be_len, sha_len, hmac_len, ex1_len, ex2_len, stretch_len, zer8_len, tC_len, tag1_len, bnN_len, xkp_len, enc_len, chance_len, lbF_len, str2_len]; done) | (simp only [List.length_append, List.length_cons, List.length_nil, List.length_replicate, sl_len, be_len, sha_len, hmac_len, ex1_len, ex2_len, stretch_len, zer8_len, tC_len, tag1_len, bnN_len, xkp_len, enc_len, chance_len, lbF_len, str2_len]; omega)) (by decide) (fun Mc29 hI => ?_) 64 0 M_27 (Nat.zero_add _) ⟨by rw [sl_zero]; exact (MS.ia p_27_0 (p := 411) (n := 64) (by decide)), Kp.rf⟩
  obtain ⟨hd29, hK29⟩ := hI
  have ms29 := MS.wi p_27_0 hK29 hd29.iq (by decide) (by decide) (by decide)
  have p_30 : IA Mc29 411 64 (hmac (zer8 64) ((([]) ++ sl (sha (((((([]) ++ bnN (nI n) 2) ++ sl s at0 n) ++ [0, 32]) ++ sl (enc E) 0 32) ++ [70, 105, 110, 97, 108, 105, 122, 101])) 0 64) ++ sl (sha (((((([]) ++ bnN (nI n) 2) ++ sl s at0 n) ++ [0, 32]) ++ sl (enc E) 0 32) ++ [70, 105, 110, 97, 108, 105, 122, 101])) 0 64)) := (by have g := hd29; rw [sl64 (by first | omega | (simp only [List.length_append, List.length_cons, List.length_nil, List.length_replicate, sl_len, be_len, sha_len, hmac_len, ex1_len, ex2_len, stretch_len, zer8_len, tC_len, tag1_len, bnN_len, xkp_len, enc_len, chance_len, lbF_len, str2_len]; done) | (simp only [List.length_append, List.length_cons, List.length_nil, List.length_replicate, sl_len, be_len, sha_len, hmac_len, ex1_len, ex2_len, stretch_len, zer8_len, tC_len, tag1_len, bnN_len, xkp_len, enc_len, chance_len, lbF_len, str2_len]; omega))] at g; exact g)
  have p_31 : IA Mc29 411 64 (sec8 (sl s at0 n) E) := (by have g := p_30; rw [sl64 (sha_len _), sl64 (enc_len _), bn_be _ (by decide)] at g; unfold sec8 fin8; rw [sl_len]; exact g)
  have p_32 := (BG.kp (p_27_1) hK29 (by decide) (by decide))
  exact T_vret d_Mo_second_128 rfl (by decide) (by decide) ⟨rfl, ms29, p_32, p_31, (Kp.tr (Kp.tr (Kp.tr (Kp.tr (Kp.tr (Kp.tr (Kp.tr (Kp.tr (Kp.tr (Kp.tr (Kp.tr (Kp.rf : Kp [373, 374, 380, 381, 382, 383, 384, 385, 408, 411] M M) (Kp.mono kp_1 (by decide))) (Kp.mono kp_4 (by decide))) (Kp.mono kp_6 (by decide))) (Kp.mono kp_11 (by decide))) (Kp.mono kp_12 (by decide))) (Kp.mono kp_16 (by decide))) (Kp.mono hK18 (by decide))) (Kp.mono kp_22 (by decide))) (Kp.mono kp_25 (by decide))) (Kp.mono kp_27 (by decide))) (Kp.mono hK29 (by decide)))⟩
abbrev mkW : List Nat := [373, 374, 380, 381, 382, 383, 384, 385, 387, 388, 417]
set_option maxHeartbeats 8000000 in
theorem mk_27 (G : GX) {M0 : List va_E} {w : Nat → Int32} {l s : List UInt8}  (hb : BG M0 w l) (hs : IA M0 388 192 s) (hsn : 192 < 2 ^ 31) (ha : 0 + 64 ≤ s.length) (hd : 0 + 64 ≤ 64)  {Q : Option Value → List va_E → Prop} (kk : ∀ M, IA M 417 64 (sl s 0 64) ∧ Kp [417] M0 M → TT G mi_Mo_maskOf 51 [(0, .ref 373)] [] M 0 0 Q) : ∀ j k M, k + j = 64 → IA M 417 64 (sl s 0 k) ∧ Kp [417] M0 M → TT G mi_Mo_maskOf 27 [(1, .int (nI k)), (0, .ref 373)] [] M 0 0 Q := by
  intro j
  induction j with
  | zero =>
    intro k M hk hI
    obtain rfl : 64 = k := by omega
    obtain ⟨hda, hK⟩ := id hI
    refine T_iload_n d_Mo_maskOf_27 rfl ?_
    refine T_bipush (v := nI 64) d_Mo_maskOf_28 (by decide) ?_
    refine N_icmp_ge_t (a := 64) (b := 64) d_Mo_maskOf_30 (tgt := 51) rfl (by omega) (by omega) (by omega) ?_
    exact T_sub (fun q hq => List.mem_cons_of_mem _ hq) (kk M hI)
  | succ j ih =>
    intro k M hk hI
    obtain ⟨hda, hK⟩ := hI
    have hsl := IA.le hs
    refine T_iload_n d_Mo_maskOf_27 rfl ?_
    refine T_bipush (v := nI 64) d_Mo_maskOf_28 (by decide) ?_
    refine N_icmp_ge_f (a := 64) (b := k) d_Mo_maskOf_30 (tgt := 51) rfl (by omega) (by omega) (by omega) ?_
    refine T_aload_n (v := .ref 373) d_Mo_maskOf_33 rfl (Or.inr ⟨_, rfl⟩) ?_
    have p_1 := (BG.kp (hb) hK (by decide) (by decide))
    obtain ⟨v_2, hov_2, hwv_2, hsv_2, hiv_2⟩ := id p_1
    refine T_getfield (v := .ref 417) d_Mo_maskOf_34 fg_Mo_371 hov_2 rfl ?_
    refine T_iload_n d_Mo_maskOf_37 rfl ?_
    refine T_aload_n (v := .ref 373) d_Mo_maskOf_38 rfl (Or.inr ⟨_, rfl⟩) ?_
    refine T_getfield (v := .ref 388) d_Mo_maskOf_39 fg_Mo_99 hov_2 rfl ?_
    refine T_iload_n d_Mo_maskOf_42 rfl ?_
    have p_3 := (IA.kp (hs) hK (by decide))
    obtain ⟨f_4, hf_5, hl_6, hv_7⟩ := id p_3
    refine N_iaload (k := k) (x := (bR (gd s k))) d_Mo_maskOf_43 hf_5 (by omega) (by decide) (hv_7 k (by first | omega | (simp only [List.length_append, List.length_cons, List.length_nil, List.length_replicate, sl_len, be_len, sha_len, hmac_len, ex1_len, ex2_len, stretch_len, zer8_len, tC_len, tag1_len, bnN_len, xkp_len]; omega))) ?_
    obtain ⟨f_8, hf_9, hl_10, hv_11⟩ := id hda
    refine N_iastore (k := k) d_Mo_maskOf_44 (by decide) hf_9 (by omega) (by decide) rfl (fun M_12 h_13 s_14 => ?_)
    refine N_iinc (k := k) (m := 1) (c := (k + 1)) (L' := [(1, .int (nI ((k + 1)))), (0, .ref 373)]) d_Mo_maskOf_45 (by decide) rfl (by decide) rfl rfl ?_
    refine T_goto (tgt := 27) d_Mo_maskOf_48 rfl ?_
    exact ih (k + 1) M_12 (by omega) ⟨ia_c0 h_13 (gd_c (by omega)) (by omega) (by omega) hv_11, (Kp.ex (Kp.tr (Kp.rf : Kp [417] M0 M0) (Kp.mono hK (by decide))) s_14 (by decide))⟩
set_option maxHeartbeats 8000000 in
theorem b_Mo_maskOf {G : GX} {M : List va_E} {w : Nat → Int32} {R : List UInt8} (hms : MS M) (h : BG M w []) (hr : IA M 411 64 R) (hl : R.length = 64) : CT G mi_Mo_maskOf [.ref 373] M (fun r M' => r = none ∧ MS M' ∧ BG M' w [] ∧ IA M' 417 64 (ex1 R W10) ∧ Kp mkW M M') := by
  refine CT.of (by decide) (Nat.le_of_ble_eq_true rfl) ?_
  show TT G mi_Mo_maskOf 0 [(0, .ref 373)] [] M 0 0 _
  refine T_aload_n (v := .ref 373) d_Mo_maskOf_0 rfl (Or.inr ⟨_, rfl⟩) ?_
  refine T_ldc2 d_Mo_maskOf_1 kJ_Mo_528 ?_
  obtain ⟨v_2, hov_2, hwv_2, hsv_2, hiv_2⟩ := id h
  refine T_virtual (as := [.long 5575864718828922699]) (rest := []) (b := 373) d_Mo_maskOf_4 rfl (jw_Mo_letters.jo (by decide)) lm_Mo_104 ji_Mo_letters js_Mo_letters hov_2 rfl rfl rfl (Nat.le_of_ble_eq_true rfl) (by decide) (by decide) (b_Mo_letters h (by first | omega | (simp only [List.length_append, List.length_cons, List.length_nil, List.length_replicate, sl_len, be_len, sha_len, hmac_len, ex1_len, ex2_len, stretch_len, zer8_len, tC_len, tag1_len, bnN_len, xkp_len, enc_len, chance_len, lbF_len, str2_len]; done) | (simp only [List.length_append, List.length_cons, List.length_nil, List.length_replicate, sl_len, be_len, sha_len, hmac_len, ex1_len, ex2_len, stretch_len, zer8_len, tC_len, tag1_len, bnN_len, xkp_len, enc_len, chance_len, lbF_len, str2_len]; omega))) (fun r M_1 hq => ?_)
  obtain ⟨rfl, p_1_0, kp_1⟩ := hq
  refine T_eq (pc' := 7) (L' := [(0, .ref 373)]) (st' := []) (M' := M_1) rfl rfl rfl rfl ?_
  have p_3 : BG M_1 w ([] ++ [77, 97, 115, 107, 105, 110, 103, 75]) := (by have g := p_1_0; rw [show lts 5575864718828922699 = [77, 97, 115, 107, 105, 110, 103, 75] from by decide +kernel] at g; exact g)
  refine T_aload_n (v := .ref 373) d_Mo_maskOf_7 rfl (Or.inr ⟨_, rfl⟩) ?_
  refine T_ldc2 d_Mo_maskOf_8 kJ_Mo_520 ?_
  obtain ⟨v_5, hov_5, hwv_5, hsv_5, hiv_5⟩ := id p_3
  refine T_virtual (as := [.long 25977]) (rest := []) (b := 373) d_Mo_maskOf_11 rfl (jw_Mo_letters.jo (by decide)) lm_Mo_104 ji_Mo_letters js_Mo_letters hov_5 rfl rfl rfl (Nat.le_of_ble_eq_true rfl) (by decide) (by decide) (b_Mo_letters p_3 (by first | omega | (simp only [List.length_append, List.length_cons, List.length_nil, List.length_replicate, sl_len, be_len, sha_len, hmac_len, ex1_len, ex2_len, stretch_len, zer8_len, tC_len, tag1_len, bnN_len, xkp_len, enc_len, chance_len, lbF_len, str2_len]; done) | (simp only [List.length_append, List.length_cons, List.length_nil, List.length_replicate, sl_len, be_len, sha_len, hmac_len, ex1_len, ex2_len, stretch_len, zer8_len, tC_len, tag1_len, bnN_len, xkp_len, enc_len, chance_len, lbF_len, str2_len]; omega))) (fun r M_4 hq => ?_)
  obtain ⟨rfl, p_4_0, kp_4⟩ := hq
  refine T_eq (pc' := 14) (L' := [(0, .ref 373)]) (st' := []) (M' := M_4) rfl rfl rfl rfl ?_
  have p_6 : BG M_4 w (([] ++ [77, 97, 115, 107, 105, 110, 103, 75]) ++ [101, 121]) := (by have g := p_4_0; rw [show lts 25977 = [101, 121] from by decide +kernel] at g; exact g)
  refine T_aload_n (v := .ref 373) d_Mo_maskOf_14 rfl (Or.inr ⟨_, rfl⟩) ?_
  refine T_aload_n (v := .ref 373) d_Mo_maskOf_15 rfl (Or.inr ⟨_, rfl⟩) ?_
  obtain ⟨v_7, hov_7, hwv_7, hsv_7, hiv_7⟩ := id p_6
  refine T_getfield (v := .ref 411) d_Mo_maskOf_16 fg_Mo_353 hov_7 rfl ?_
  refine T_iconst (v := nI 0) d_Mo_maskOf_19 (by decide) ?_
  refine T_bipush (v := nI 64) d_Mo_maskOf_20 (by decide) ?_
  have p_8 := (MS.kp ((MS.kp (hms) kp_1 (by decide))) kp_4 (by decide))
  have p_9 := (IA.kp ((IA.kp (hr) kp_1 (by decide))) kp_4 (by decide))
  refine T_virtual (as := [.ref 411, .int (nI 0), .int (nI 64)]) (rest := []) (b := 373) d_Mo_maskOf_22 rfl (jw_Mo_expand.jo (by decide)) lm_Mo_510 ji_Mo_expand js_Mo_expand hov_7 rfl rfl rfl (Nat.le_of_ble_eq_true rfl) (by decide) (by decide) (b_Mo_expand1 (at0 := 0) (n := 64) p_8 p_6 p_9 (by first | omega | (simp only [List.length_append, List.length_cons, List.length_nil, List.length_replicate, sl_len, be_len, sha_len, hmac_len, ex1_len, ex2_len, stretch_len, zer8_len, tC_len, tag1_len, bnN_len, xkp_len, enc_len, chance_len, lbF_len, str2_len]; done) | (simp only [List.length_append, List.length_cons, List.length_nil, List.length_replicate, sl_len, be_len, sha_len, hmac_len, ex1_len, ex2_len, stretch_len, zer8_len, tC_len, tag1_len, bnN_len, xkp_len, enc_len, chance_len, lbF_len, str2_len]; omega)) (by decide) (by first | omega | (simp only [List.length_append, List.length_cons, List.length_nil, List.length_replicate, sl_len, be_len, sha_len, hmac_len, ex1_len, ex2_len, stretch_len, zer8_len, tC_len, tag1_len, bnN_len, xkp_len, enc_len, chance_len, lbF_len, str2_len]; done) | (simp only [List.length_append, List.length_cons, List.length_nil, List.length_replicate, sl_len, be_len, sha_len, hmac_len, ex1_len, ex2_len, stretch_len, zer8_len, tC_len, tag1_len, bnN_len, xkp_len, enc_len, chance_len, lbF_len, str2_len]; omega)) (by decide) (by decide)) (fun r M_10 hq => ?_)
  obtain ⟨rfl, p_10_0, p_10_1, p_10_2, kp_10⟩ := hq
  refine T_eq (pc' := 25) (L' := [(0, .ref 373)]) (st' := []) (M' := M_10) rfl rfl rfl rfl ?_
  refine T_iconst (v := nI 0) d_Mo_maskOf_25 (by decide) ?_
  refine T_istore_n (L' := [(1, .int (nI 0)), (0, .ref 373)]) d_Mo_maskOf_26 (by decide) rfl ?_
  refine mk_27 G p_10_1 p_10_2 (by decide) (by first | omega | (simp only [List.length_append, List.length_cons, List.length_nil, List.length_replicate, sl_len, be_len, sha_len, hmac_len, ex1_len, ex2_len, stretch_len, zer8_len, tC_len, tag1_len, bnN_len, xkp_len, enc_len, chance_len, lbF_len, str2_len]; done) | (simp only [List.length_append, List.length_cons, List.length_nil, List.length_replicate, sl_len, be_len, sha_len, hmac_len, ex1_len, ex2_len, stretch_len, zer8_len, tC_len, tag1_len, bnN_len, xkp_len, enc_len, chance_len, lbF_len, str2_len]; omega)) (by decide) (fun Mc11 hI => ?_) 64 0 M_10 (Nat.zero_add _) ⟨by rw [sl_zero]; exact (MS.ia p_10_0 (p := 417) (n := 64) (by decide)), Kp.rf⟩
  obtain ⟨hd11, hK11⟩ := hI
  have ms11 := MS.wi p_10_0 hK11 hd11.iq (by decide) (by decide) (by decide)
  have p_12 : IA Mc11 417 64 (ex1 (sl R 0 64) (([] ++ [77, 97, 115, 107, 105, 110, 103, 75]) ++ [101, 121])) := (by have g := hd11; rw [sl64 (by first | omega | (simp only [List.length_append, List.length_cons, List.length_nil, List.length_replicate, sl_len, be_len, sha_len, hmac_len, ex1_len, ex2_len, stretch_len, zer8_len, tC_len, tag1_len, bnN_len, xkp_len, enc_len, chance_len, lbF_len, str2_len]; done) | (simp only [List.length_append, List.length_cons, List.length_nil, List.length_replicate, sl_len, be_len, sha_len, hmac_len, ex1_len, ex2_len, stretch_len, zer8_len, tC_len, tag1_len, bnN_len, xkp_len, enc_len, chance_len, lbF_len, str2_len]; omega))] at g; exact g)
  have p_13 : IA Mc11 417 64 (ex1 R W10) := (by have g := p_12; rw [sl64 hl] at g; exact g)
  have p_14 := (BG.kp (p_10_1) hK11 (by decide) (by decide))
  exact T_vret d_Mo_maskOf_51 rfl (by decide) (by decide) ⟨rfl, ms11, p_14, p_13, (Kp.tr (Kp.tr (Kp.tr (Kp.tr (Kp.rf : Kp [373, 374, 380, 381, 382, 383, 384, 385, 387, 388, 417] M M) (Kp.mono kp_1 (by decide))) (Kp.mono kp_4 (by decide))) (Kp.mono kp_10 (by decide +kernel))) (Kp.mono hK11 (by decide)))⟩
abbrev paW : List Nat := [373, 374, 380, 381, 382, 383, 384, 385, 387, 388, 448]
set_option maxHeartbeats 8000000 in
theorem pd_42 (G : GX) {M0 : List va_E} {w : Nat → Int32} {l s : List UInt8} {p at0 q a1 : Nat} (hb : BG M0 w l) (hs : IA M0 388 192 s) (hsn : 192 < 2 ^ 31) (ha : 0 + 128 ≤ s.length) (hd : 0 + 128 ≤ 128)  {Q : Option Value → List va_E → Prop} (kk : ∀ M, IA M 448 128 (sl s 0 128) ∧ Kp [448] M0 M → TT G mi_Mo_padOf 70 [(0, .ref 373), (1, .ref p), (2, .int (nI at0)), (3, .ref q), (4, .int (nI a1))] [] M 0 0 Q) : ∀ j k M, k + j = 128 → IA M 448 128 (sl s 0 k) ∧ Kp [448] M0 M → TT G mi_Mo_padOf 42 [(5, .int (nI k)), (0, .ref 373), (1, .ref p), (2, .int (nI at0)), (3, .ref q), (4, .int (nI a1))] [] M 0 0 Q := by
  intro j
  induction j with
  | zero =>
    intro k M hk hI
    obtain rfl : 128 = k := by omega
    obtain ⟨hda, hK⟩ := id hI
    refine T_iload d_Mo_padOf_42 rfl ?_
    refine T_sipush (v := nI 128) d_Mo_padOf_44 (by decide) ?_
    refine N_icmp_ge_t (a := 128) (b := 128) d_Mo_padOf_47 (tgt := 70) rfl (by omega) (by omega) (by omega) ?_
    exact T_sub (fun q hq => List.mem_cons_of_mem _ hq) (kk M hI)
  | succ j ih =>
    intro k M hk hI
    obtain ⟨hda, hK⟩ := hI
    have hsl := IA.le hs
    refine T_iload d_Mo_padOf_42 rfl ?_
    refine T_sipush (v := nI 128) d_Mo_padOf_44 (by decide) ?_
    refine N_icmp_ge_f (a := 128) (b := k) d_Mo_padOf_47 (tgt := 70) rfl (by omega) (by omega) (by omega) ?_
    refine T_aload_n (v := .ref 373) d_Mo_padOf_50 rfl (Or.inr ⟨_, rfl⟩) ?_
    have p_1 := (BG.kp (hb) hK (by decide) (by decide))
    obtain ⟨v_2, hov_2, hwv_2, hsv_2, hiv_2⟩ := id p_1
    refine T_getfield (v := .ref 448) d_Mo_padOf_51 fg_Mo_467 hov_2 rfl ?_
    refine T_iload d_Mo_padOf_54 rfl ?_
    refine T_aload_n (v := .ref 373) d_Mo_padOf_56 rfl (Or.inr ⟨_, rfl⟩) ?_
    refine T_getfield (v := .ref 388) d_Mo_padOf_57 fg_Mo_99 hov_2 rfl ?_
    refine T_iload d_Mo_padOf_60 rfl ?_
    have p_3 := (IA.kp (hs) hK (by decide))
    obtain ⟨f_4, hf_5, hl_6, hv_7⟩ := id p_3
    refine N_iaload (k := k) (x := (bR (gd s k))) d_Mo_padOf_62 hf_5 (by omega) (by decide) (hv_7 k (by first | omega | (simp only [List.length_append, List.length_cons, List.length_nil, List.length_replicate, sl_len, be_len, sha_len, hmac_len, ex1_len, ex2_len, stretch_len, zer8_len, tC_len, tag1_len, bnN_len, xkp_len]; omega))) ?_
    obtain ⟨f_8, hf_9, hl_10, hv_11⟩ := id hda
    refine N_iastore (k := k) d_Mo_padOf_63 (by decide) hf_9 (by omega) (by decide) rfl (fun M_12 h_13 s_14 => ?_)
    refine N_iinc (k := k) (m := 1) (c := (k + 1)) (L' := [(5, .int (nI ((k + 1)))), (0, .ref 373), (1, .ref p), (2, .int (nI at0)), (3, .ref q), (4, .int (nI a1))]) d_Mo_padOf_64 (by decide) rfl (by decide) rfl rfl ?_
    refine T_goto (tgt := 42) d_Mo_padOf_67 rfl ?_
    exact ih (k + 1) M_12 (by omega) ⟨ia_c0 h_13 (gd_c (by omega)) (by omega) (by omega) hv_11, (Kp.ex (Kp.tr (Kp.rf : Kp [448] M0 M0) (Kp.mono hK (by decide))) s_14 (by decide))⟩
set_option maxHeartbeats 8000000 in
theorem b_Mo_padOf {G : GX} {M : List va_E} {w : Nat → Int32} {p m at0 q m1 a1 : Nat} {s s1 : List UInt8} (hms : MS M) (h : BG M w []) (hk : IA M p m s) (hk1 : IA M q m1 s1) (ha : at0 + 64 ≤ s.length) (hm2 : m < 2 ^ 30) (ha1 : a1 + 32 ≤ s1.length) (hm1 : m1 < 2 ^ 30) (hp : p ∉ paW) (hq : q ∉ paW) : CT G mi_Mo_padOf [.ref 373, .ref p, .int (nI at0), .ref q, .int (nI a1)] M (fun r M' => r = none ∧ MS M' ∧ BG M' w [] ∧ IA M' 448 128 (ex1 (sl s at0 64) (sl s1 a1 32 ++ W15) ++ ex2 (sl s at0 64) (sl s1 a1 32 ++ W15)) ∧ Kp paW M M') := by
  refine CT.of (by decide) (Nat.le_of_ble_eq_true rfl) ?_
  show TT G mi_Mo_padOf 0 [(0, .ref 373), (1, .ref p), (2, .int (nI at0)), (3, .ref q), (4, .int (nI a1))] [] M 0 0 _
  refine T_aload_n (v := .ref 373) d_Mo_padOf_0 rfl (Or.inr ⟨_, rfl⟩) ?_
  refine T_aload_n (v := .ref q) d_Mo_padOf_1 rfl (Or.inr ⟨_, rfl⟩) ?_
  refine T_iload d_Mo_padOf_2 rfl ?_
  refine T_bipush (v := nI 32) d_Mo_padOf_4 (by decide) ?_
  obtain ⟨v_2, hov_2, hwv_2, hsv_2, hiv_2⟩ := id h
  refine T_virtual (as := [.ref q, .int (nI a1), .int (nI 32)]) (rest := []) (b := 373) d_Mo_padOf_6 rfl (jw_Mo_bytes.jo (by decide)) lm_Mo_76 ji_Mo_bytes js_Mo_bytes hov_2 rfl rfl rfl (Nat.le_of_ble_eq_true rfl) (by decide) (by decide) (b_Mo_bytes (at0 := a1) (n := 32) h hk1 (by first | omega | (simp only [List.length_append, List.length_cons, List.length_nil, List.length_replicate, sl_len, be_len, sha_len, hmac_len, ex1_len, ex2_len, stretch_len, zer8_len, tC_len, tag1_len, bnN_len, xkp_len, enc_len, chance_len, lbF_len, str2_len]; done) | (simp only [List.length_append, List.length_cons, List.length_nil, List.length_replicate, sl_len, be_len, sha_len, hmac_len, ex1_len, ex2_len, stretch_len, zer8_len, tC_len, tag1_len, bnN_len, xkp_len, enc_len, chance_len, lbF_len, str2_len]; omega)) (by omega) (by first | omega | (simp only [List.length_append, List.length_cons, List.length_nil, List.length_replicate, sl_len, be_len, sha_len, hmac_len, ex1_len, ex2_len, stretch_len, zer8_len, tC_len, tag1_len, bnN_len, xkp_len, enc_len, chance_len, lbF_len, str2_len]; done) | (simp only [List.length_append, List.length_cons, List.length_nil, List.length_replicate, sl_len, be_len, sha_len, hmac_len, ex1_len, ex2_len, stretch_len, zer8_len, tC_len, tag1_len, bnN_len, xkp_len, enc_len, chance_len, lbF_len, str2_len]; omega)) (nmne hq (by decide)) (nmne hq (by decide))) (fun r M_1 hq => ?_)
  obtain ⟨rfl, p_1_0, kp_1⟩ := hq
  refine T_eq (pc' := 9) (L' := [(0, .ref 373), (1, .ref p), (2, .int (nI at0)), (3, .ref q), (4, .int (nI a1))]) (st' := []) (M' := M_1) rfl rfl rfl rfl ?_
  refine T_aload_n (v := .ref 373) d_Mo_padOf_9 rfl (Or.inr ⟨_, rfl⟩) ?_
  refine T_ldc2 d_Mo_padOf_10 kJ_Mo_572 ?_
  obtain ⟨v_4, hov_4, hwv_4, hsv_4, hiv_4⟩ := id p_1_0
  refine T_virtual (as := [.long 4860058429759059049]) (rest := []) (b := 373) d_Mo_padOf_13 rfl (jw_Mo_letters.jo (by decide)) lm_Mo_104 ji_Mo_letters js_Mo_letters hov_4 rfl rfl rfl (Nat.le_of_ble_eq_true rfl) (by decide) (by decide) (b_Mo_letters p_1_0 (by first | omega | (simp only [List.length_append, List.length_cons, List.length_nil, List.length_replicate, sl_len, be_len, sha_len, hmac_len, ex1_len, ex2_len, stretch_len, zer8_len, tC_len, tag1_len, bnN_len, xkp_len, enc_len, chance_len, lbF_len, str2_len]; done) | (simp only [List.length_append, List.length_cons, List.length_nil, List.length_replicate, sl_len, be_len, sha_len, hmac_len, ex1_len, ex2_len, stretch_len, zer8_len, tC_len, tag1_len, bnN_len, xkp_len, enc_len, chance_len, lbF_len, str2_len]; omega))) (fun r M_3 hq => ?_)
  obtain ⟨rfl, p_3_0, kp_3⟩ := hq
  refine T_eq (pc' := 16) (L' := [(0, .ref 373), (1, .ref p), (2, .int (nI at0)), (3, .ref q), (4, .int (nI a1))]) (st' := []) (M' := M_3) rfl rfl rfl rfl ?_
  have p_5 : BG M_3 w ((([]) ++ sl s1 a1 32) ++ [67, 114, 101, 100, 101, 110, 116, 105]) := (by have g := p_3_0; rw [show lts 4860058429759059049 = [67, 114, 101, 100, 101, 110, 116, 105] from by decide +kernel] at g; exact g)
  refine T_aload_n (v := .ref 373) d_Mo_padOf_16 rfl (Or.inr ⟨_, rfl⟩) ?_
  refine T_ldc2 d_Mo_padOf_17 kJ_Mo_574 ?_
  obtain ⟨v_7, hov_7, hwv_7, hsv_7, hiv_7⟩ := id p_5
  refine T_virtual (as := [.long 7020076514845683566]) (rest := []) (b := 373) d_Mo_padOf_20 rfl (jw_Mo_letters.jo (by decide)) lm_Mo_104 ji_Mo_letters js_Mo_letters hov_7 rfl rfl rfl (Nat.le_of_ble_eq_true rfl) (by decide) (by decide) (b_Mo_letters p_5 (by first | omega | (simp only [List.length_append, List.length_cons, List.length_nil, List.length_replicate, sl_len, be_len, sha_len, hmac_len, ex1_len, ex2_len, stretch_len, zer8_len, tC_len, tag1_len, bnN_len, xkp_len, enc_len, chance_len, lbF_len, str2_len]; done) | (simp only [List.length_append, List.length_cons, List.length_nil, List.length_replicate, sl_len, be_len, sha_len, hmac_len, ex1_len, ex2_len, stretch_len, zer8_len, tC_len, tag1_len, bnN_len, xkp_len, enc_len, chance_len, lbF_len, str2_len]; omega))) (fun r M_6 hq => ?_)
  obtain ⟨rfl, p_6_0, kp_6⟩ := hq
  refine T_eq (pc' := 23) (L' := [(0, .ref 373), (1, .ref p), (2, .int (nI at0)), (3, .ref q), (4, .int (nI a1))]) (st' := []) (M' := M_6) rfl rfl rfl rfl ?_
  have p_8 : BG M_6 w (((([]) ++ sl s1 a1 32) ++ [67, 114, 101, 100, 101, 110, 116, 105]) ++ [97, 108, 82, 101, 115, 112, 111, 110]) := (by have g := p_6_0; rw [show lts 7020076514845683566 = [97, 108, 82, 101, 115, 112, 111, 110] from by decide +kernel] at g; exact g)
  refine T_aload_n (v := .ref 373) d_Mo_padOf_23 rfl (Or.inr ⟨_, rfl⟩) ?_
  refine T_ldc2 d_Mo_padOf_24 kJ_Mo_576 ?_
  obtain ⟨v_10, hov_10, hwv_10, hsv_10, hiv_10⟩ := id p_8
  refine T_virtual (as := [.long 495621005668]) (rest := []) (b := 373) d_Mo_padOf_27 rfl (jw_Mo_letters.jo (by decide)) lm_Mo_104 ji_Mo_letters js_Mo_letters hov_10 rfl rfl rfl (Nat.le_of_ble_eq_true rfl) (by decide) (by decide) (b_Mo_letters p_8 (by first | omega | (simp only [List.length_append, List.length_cons, List.length_nil, List.length_replicate, sl_len, be_len, sha_len, hmac_len, ex1_len, ex2_len, stretch_len, zer8_len, tC_len, tag1_len, bnN_len, xkp_len, enc_len, chance_len, lbF_len, str2_len]; done) | (simp only [List.length_append, List.length_cons, List.length_nil, List.length_replicate, sl_len, be_len, sha_len, hmac_len, ex1_len, ex2_len, stretch_len, zer8_len, tC_len, tag1_len, bnN_len, xkp_len, enc_len, chance_len, lbF_len, str2_len]; omega))) (fun r M_9 hq => ?_)
  obtain ⟨rfl, p_9_0, kp_9⟩ := hq
  refine T_eq (pc' := 30) (L' := [(0, .ref 373), (1, .ref p), (2, .int (nI at0)), (3, .ref q), (4, .int (nI a1))]) (st' := []) (M' := M_9) rfl rfl rfl rfl ?_
  have p_11 : BG M_9 w ((((([]) ++ sl s1 a1 32) ++ [67, 114, 101, 100, 101, 110, 116, 105]) ++ [97, 108, 82, 101, 115, 112, 111, 110]) ++ [115, 101, 80, 97, 100]) := (by have g := p_9_0; rw [show lts 495621005668 = [115, 101, 80, 97, 100] from by decide +kernel] at g; exact g)
  refine T_aload_n (v := .ref 373) d_Mo_padOf_30 rfl (Or.inr ⟨_, rfl⟩) ?_
  refine T_aload_n (v := .ref p) d_Mo_padOf_31 rfl (Or.inr ⟨_, rfl⟩) ?_
  refine T_iload_n d_Mo_padOf_32 rfl ?_
  refine T_sipush (v := nI 128) d_Mo_padOf_33 (by decide) ?_
  have p_12 := (MS.kp ((MS.kp ((MS.kp ((MS.kp (hms) kp_1 (by decide))) kp_3 (by decide))) kp_6 (by decide))) kp_9 (by decide))
  have p_13 := (IA.kp ((IA.kp ((IA.kp ((IA.kp (hk) kp_1 (nm hp (by decide)))) kp_3 (nm hp (by decide)))) kp_6 (nm hp (by decide)))) kp_9 (nm hp (by decide)))
  obtain ⟨v_15, hov_15, hwv_15, hsv_15, hiv_15⟩ := id p_11
  refine T_virtual (as := [.ref p, .int (nI at0), .int (nI 128)]) (rest := []) (b := 373) d_Mo_padOf_36 rfl (jw_Mo_expand.jo (by decide)) lm_Mo_510 ji_Mo_expand js_Mo_expand hov_15 rfl rfl rfl (Nat.le_of_ble_eq_true rfl) (by decide) (by decide) (b_Mo_expand2 (at0 := at0) p_12 p_11 p_13 (by first | omega | (simp only [List.length_append, List.length_cons, List.length_nil, List.length_replicate, sl_len, be_len, sha_len, hmac_len, ex1_len, ex2_len, stretch_len, zer8_len, tC_len, tag1_len, bnN_len, xkp_len, enc_len, chance_len, lbF_len, str2_len]; done) | (simp only [List.length_append, List.length_cons, List.length_nil, List.length_replicate, sl_len, be_len, sha_len, hmac_len, ex1_len, ex2_len, stretch_len, zer8_len, tC_len, tag1_len, bnN_len, xkp_len, enc_len, chance_len, lbF_len, str2_len]; omega)) (by omega) (by first | omega | (simp only [List.length_append, List.length_cons, List.length_nil, List.length_replicate, sl_len, be_len, sha_len, hmac_len, ex1_len, ex2_len, stretch_len, zer8_len, tC_len, tag1_len, bnN_len, xkp_len, enc_len, chance_len, lbF_len, str2_len]; done) | (simp only [List.length_append, List.length_cons, List.length_nil, List.length_replicate, sl_len, be_len, sha_len, hmac_len, ex1_len, ex2_len, stretch_len, zer8_len, tC_len, tag1_len, bnN_len, xkp_len, enc_len, chance_len, lbF_len, str2_len]; omega)) (nm hp (by decide))) (fun r M_14 hq => ?_)
  obtain ⟨rfl, p_14_0, p_14_1, p_14_2, kp_14⟩ := hq
  refine T_eq (pc' := 39) (L' := [(0, .ref 373), (1, .ref p), (2, .int (nI at0)), (3, .ref q), (4, .int (nI a1))]) (st' := []) (M' := M_14) rfl rfl rfl rfl ?_
  refine T_iconst (v := nI 0) d_Mo_padOf_39 (by decide) ?_
  refine T_istore (L' := [(5, .int (nI 0)), (0, .ref 373), (1, .ref p), (2, .int (nI at0)), (3, .ref q), (4, .int (nI a1))]) d_Mo_padOf_40 (by decide) rfl ?_
  refine pd_42 G p_14_1 p_14_2 (by decide) (by first | omega | (simp only [List.length_append, List.length_cons, List.length_nil, List.length_replicate, sl_len, be_len, sha_len, hmac_len, ex1_len, ex2_len, stretch_len, zer8_len, tC_len, tag1_len, bnN_len, xkp_len, enc_len, chance_len, lbF_len, str2_len]; done) | (simp only [List.length_append, List.length_cons, List.length_nil, List.length_replicate, sl_len, be_len, sha_len, hmac_len, ex1_len, ex2_len, stretch_len, zer8_len, tC_len, tag1_len, bnN_len, xkp_len, enc_len, chance_len, lbF_len, str2_len]; omega)) (by decide) (fun Mc16 hI => ?_) 128 0 M_14 (Nat.zero_add _) ⟨by rw [sl_zero]; exact (MS.ia p_14_0 (p := 448) (n := 128) (by decide)), Kp.rf⟩
  obtain ⟨hd16, hK16⟩ := hI
  have ms16 := MS.wi p_14_0 hK16 hd16.iq (by decide) (by decide) (by decide)
  have p_17 : IA Mc16 448 128 (ex1 (sl s at0 64) ((((([]) ++ sl s1 a1 32) ++ [67, 114, 101, 100, 101, 110, 116, 105]) ++ [97, 108, 82, 101, 115, 112, 111, 110]) ++ [115, 101, 80, 97, 100]) ++ ex2 (sl s at0 64) ((((([]) ++ sl s1 a1 32) ++ [67, 114, 101, 100, 101, 110, 116, 105]) ++ [97, 108, 82, 101, 115, 112, 111, 110]) ++ [115, 101, 80, 97, 100])) := (by have g := hd16; rw [sl64 (by first | omega | (simp only [List.length_append, List.length_cons, List.length_nil, List.length_replicate, sl_len, be_len, sha_len, hmac_len, ex1_len, ex2_len, stretch_len, zer8_len, tC_len, tag1_len, bnN_len, xkp_len, enc_len, chance_len, lbF_len, str2_len]; done) | (simp only [List.length_append, List.length_cons, List.length_nil, List.length_replicate, sl_len, be_len, sha_len, hmac_len, ex1_len, ex2_len, stretch_len, zer8_len, tC_len, tag1_len, bnN_len, xkp_len, enc_len, chance_len, lbF_len, str2_len]; omega))] at g; exact g)
  have p_18 : IA Mc16 448 128 (ex1 (sl s at0 64) (sl s1 a1 32 ++ W15) ++ ex2 (sl s at0 64) (sl s1 a1 32 ++ W15)) := (by have g := p_17; simp only [List.append_assoc, List.nil_append] at g; simp only [W15]; exact g)
  have p_19 := (BG.kp (p_14_1) hK16 (by decide) (by decide))
  exact T_vret d_Mo_padOf_70 rfl (by decide) (by decide) ⟨rfl, ms16, p_19, p_18, (Kp.tr (Kp.tr (Kp.tr (Kp.tr (Kp.tr (Kp.tr (Kp.rf : Kp [373, 374, 380, 381, 382, 383, 384, 385, 387, 388, 448] M M) (Kp.mono kp_1 (by decide))) (Kp.mono kp_3 (by decide))) (Kp.mono kp_6 (by decide))) (Kp.mono kp_9 (by decide))) (Kp.mono kp_14 (by decide +kernel))) (Kp.mono hK16 (by decide)))⟩
