set_option maxHeartbeats 8000000 in
theorem RP.ov {M M' : List va_E} {p n a c b j : Nat} {L0 l m : List UInt8} {D D' : Nat → Prop} {g g' : Nat → Int32} (h : RP M p n L0 a c l D) (hg : M[p]? = some (ir n g)) (hg' : M'[p]? = some (ir n g')) (v : OV g g' b m) (hb : b = a + j) (hm : ∀ i, i < m.length → gd m i = gd l (j + i)) (hc : j + m.length ≤ c) (hD : ∀ i, i < c → D' i → D i ∨ (j ≤ i ∧ i < j + m.length)) : RP M' p n L0 a c l D' := by
  obtain ⟨L, ⟨f, f1, f2, f3⟩, hL, out, sg, h1, h2⟩ := h
  rw [f1] at hg
  have e0 := Option.some.inj hg
  simp only [Sum.inl.injEq, Prod.mk.injEq, true_and] at e0
  subst e0
  subst hb
  let L' : List UInt8 := (List.range n).map fun i => if a + j ≤ i ∧ i < a + j + m.length then gd m (i - (a + j)) else gd L i
  have lL : L'.length = n := by simp [L']
  have e : ∀ q, q < n → gd L' q = if a + j ≤ q ∧ q < a + j + m.length then gd m (q - (a + j)) else gd L q := fun q hq => mr_gd hq
  refine ⟨L', ⟨g', hg', by omega, fun q hq => ?_⟩, lL, fun q hq => ?_, fun q hq d => ?_, h1, h2⟩
  · rw [lL] at hq
    rw [e q hq]
    split
    · rename_i c1
      have := v.1 (q - (a + j)) (by omega)
      rw [show a + j + (q - (a + j)) = q by omega] at this
      exact this
    · rename_i c1
      rw [v.2 q (by omega)]; exact f3 q (by omega)
  · by_cases c2 : q < n
    · rw [e q c2, if_neg (by omega)]; exact out q hq
    · rw [gd_big (by omega), ← out q hq, gd_big (by omega)]
  · rw [e _ (by omega)]
    by_cases c2 : j ≤ q ∧ q < j + m.length
    · rw [if_pos (by omega), show a + q - (a + j) = q - j by omega, hm (q - j) (by omega), show j + (q - j) = q by omega]
    · rw [if_neg (by omega)]
      rcases hD q hq d with z | z
      · exact sg q hq z
      · exact absurd z c2
theorem RO.ia {M : List va_E} {p n : Nat} {L0 l : List UInt8} (h : RO M p n L0 0 n l) (hl : l.length = n) : IA M p n l := by
  obtain ⟨L, h1, h2, h3, h4, h5, h6⟩ := h
  exact h1.cut (by omega) fun i hi => by have := h4 i hi; rw [Nat.zero_add] at this; exact this.symm
theorem IA.ro {M : List va_E} {p n : Nat} {l : List UInt8} (h : IA M p n l) (hl : l.length = n) : RO M p n l 0 n [] := ⟨l, h, hl, fun _ _ => rfl, fun i hi => absurd hi (Nat.not_lt_zero i), Nat.zero_le _, by omega⟩
theorem mkU_0 (sd : Int32) (ch i : Nat) (hi : i < 32) : gd (pub (scal (chance sd (nI (ch + 1))))) i = gd (mkU sd ch) (0 + i) := by
  unfold mkU; rw [Nat.zero_add, gd_l (by simp only [List.length_append, pub_len', chance_len]; omega), gd_l (by rw [pub_len']; omega)]
theorem mkU_32 (sd : Int32) (ch i : Nat) (hi : i < 64) : gd (chance sd (nI ch)) i = gd (mkU sd ch) (32 + i) := by
  unfold mkU; rw [gd_l (by simp only [List.length_append, pub_len', chance_len]; omega), gd_r (by rw [pub_len']; omega), pub_len']; exact gd_c (by omega)
theorem mkU_96 (sd : Int32) (ch i : Nat) (h1 : 96 ≤ i) (hi : i < 192) : (0 : UInt8) = gd (mkU sd ch) i := by
  unfold mkU; rw [gd_r (by simp only [List.length_append, pub_len', chance_len]; omega)]
  unfold gd; rw [List.getD_eq_getElem?_getD, List.getElem?_replicate]; split <;> rfl
set_option maxHeartbeats 8000000 in
theorem an_r (G : GX) {M0 : List va_E} {w : Nat → Int32} {l s : List UInt8} {u se : Nat} (hb : BG M0 w l) (hs : IA M0 406 1536 s) (hsn : 1536 < 2 ^ 31) (ha : 192 * u + 192 ≤ s.length) (hd : 0 + 192 ≤ 192)  {Q : Option Value → List va_E → Prop} (kk : ∀ M, IA M 407 192 (sl s (192 * u) 192) ∧ Kp [407] M0 M → TT G mi_Mo_answer 126 [(3, .int (nI u)), (2, .int (nI se)), (1, .int (nI se)), (0, .ref 373)] [] M 0 0 Q) : ∀ j k M, k + j = 192 → IA M 407 192 (sl s (192 * u) k) ∧ Kp [407] M0 M → TT G mi_Mo_answer 92 [(4, .int (nI k)), (3, .int (nI u)), (2, .int (nI se)), (1, .int (nI se)), (0, .ref 373)] [] M 0 0 Q := by
  intro j
  induction j with
  | zero =>
    intro k M hk hI
    obtain rfl : 192 = k := by omega
    obtain ⟨hda, hK⟩ := id hI
    refine T_iload d_Mo_answer_92 rfl ?_
    refine T_sipush (v := nI 192) d_Mo_answer_94 (by decide) ?_
    refine N_icmp_ge_t (a := 192) (b := 192) d_Mo_answer_97 (tgt := 126) rfl (by omega) (by omega) (by omega) ?_
    exact T_sub (fun q hq => List.mem_cons_of_mem _ hq) (kk M hI)
  | succ j ih =>
    intro k M hk hI
    obtain ⟨hda, hK⟩ := hI
    have hsl := IA.le hs
    refine T_iload d_Mo_answer_92 rfl ?_
    refine T_sipush (v := nI 192) d_Mo_answer_94 (by decide) ?_
    refine N_icmp_ge_f (a := 192) (b := k) d_Mo_answer_97 (tgt := 126) rfl (by omega) (by omega) (by omega) ?_
    refine T_aload_n (v := .ref 373) d_Mo_answer_100 rfl (Or.inr ⟨_, rfl⟩) ?_
    have p_1 := (BG.kp (hb) hK (by decide) (by decide))
    obtain ⟨v_2, hov_2, hwv_2, hsv_2, hiv_2⟩ := id p_1
    refine T_getfield (v := .ref 407) d_Mo_answer_101 fg_Mo_335 hov_2 rfl ?_
    refine T_iload d_Mo_answer_104 rfl ?_
    refine T_aload_n (v := .ref 373) d_Mo_answer_106 rfl (Or.inr ⟨_, rfl⟩) ?_
    refine T_getfield (v := .ref 406) d_Mo_answer_107 fg_Mo_332 hov_2 rfl ?_
    refine T_sipush (v := nI 192) d_Mo_answer_110 (by decide) ?_
    refine T_iload_n d_Mo_answer_113 rfl ?_
    refine N_imul (a := u) (b := 192) (c := (192 * u)) d_Mo_answer_114 rfl ?_
    refine T_iload d_Mo_answer_115 rfl ?_
    refine N_iadd (a := k) (b := (192 * u)) (c := ((192 * u) + k)) d_Mo_answer_117 rfl ?_
    have p_3 := (IA.kp (hs) hK (by decide))
    obtain ⟨f_4, hf_5, hl_6, hv_7⟩ := id p_3
    refine N_iaload (k := ((192 * u) + k)) (x := (bR (gd s ((192 * u) + k)))) d_Mo_answer_118 hf_5 (by omega) (by decide) (hv_7 ((192 * u) + k) (by first | omega | (simp only [List.length_append, List.length_cons, List.length_nil, List.length_replicate, sl_len, be_len, sha_len, hmac_len, ex1_len, ex2_len, stretch_len, zer8_len, tC_len, tag1_len, bnN_len, xkp_len]; omega))) ?_
    obtain ⟨f_8, hf_9, hl_10, hv_11⟩ := id hda
    refine N_iastore (k := k) d_Mo_answer_119 (by decide) hf_9 (by omega) (by decide) rfl (fun M_12 h_13 s_14 => ?_)
    refine N_iinc (k := k) (m := 1) (c := (k + 1)) (L' := [(4, .int (nI ((k + 1)))), (3, .int (nI u)), (2, .int (nI se)), (1, .int (nI se)), (0, .ref 373)]) d_Mo_answer_120 (by decide) rfl (by decide) rfl rfl ?_
    refine T_goto (tgt := 92) d_Mo_answer_123 rfl ?_
    exact ih (k + 1) M_12 (by omega) ⟨ia_c0 h_13 (gd_c (by omega)) (by omega) (by omega) hv_11, (Kp.ex (Kp.tr (Kp.rf : Kp [407] M0 M0) (Kp.mono hK (by decide))) s_14 (by decide))⟩
set_option maxHeartbeats 8000000 in
theorem an_1 (G : GX) {M0 : List va_E} {w : Nat → Int32} {l R0 T sa : List UInt8} {u s : Nat} (hb : BG M0 w l) (hsa : IA M0 383 64 sa) (lsa : 64 ≤ sa.length) (tsa : ∀ i, i < 64 → gd sa i = gd T (32 + i)) (hu : 0 + 192 ≤ 192)  {Q : Option Value → List va_E → Prop} (kk : ∀ M, RP M 407 192 R0 (0) 192 T (fun i => 32 ≤ i ∧ i < 32 + (64)) ∧ Kp [407] M0 M → TT G mi_Mo_answer 172 [(3, .int (nI u)), (2, .int (nI s)), (1, .int (nI s)), (0, .ref 373)] [] M 0 0 Q) : ∀ j k M, k + j = 64 → RP M 407 192 R0 (0) 192 T (fun i => 32 ≤ i ∧ i < 32 + (k)) ∧ Kp [407] M0 M → TT G mi_Mo_answer 142 [(4, .int (nI k)), (3, .int (nI u)), (2, .int (nI s)), (1, .int (nI s)), (0, .ref 373)] [] M 0 0 Q := by
  intro j
  induction j with
  | zero =>
    intro k M hk hI
    obtain rfl : 64 = k := by omega
    refine T_iload d_Mo_answer_142 rfl ?_
    refine T_bipush (v := nI 64) d_Mo_answer_144 (by decide) ?_
    refine N_icmp_ge_t (a := 64) (b := 64) d_Mo_answer_146 (tgt := 172) rfl (by omega) (by omega) (by omega) ?_
    exact T_sub (fun q hq => List.mem_cons_of_mem _ hq) (kk M hI)
  | succ j ih =>
    intro k M hk hI
    obtain ⟨hda, hK⟩ := hI
    obtain ⟨L, ⟨f, f1, f2, f3⟩, eL, out, sg, hc1, hc2⟩ := id hda
    have hlsa := hsa.le
    refine T_iload d_Mo_answer_142 rfl ?_
    refine T_bipush (v := nI 64) d_Mo_answer_144 (by decide) ?_
    refine N_icmp_ge_f (a := 64) (b := k) d_Mo_answer_146 (tgt := 172) rfl (by omega) (by omega) (by omega) ?_
    refine T_aload_n (v := .ref 373) d_Mo_answer_149 rfl (Or.inr ⟨_, rfl⟩) ?_
    have p_1 := (BG.kp (hb) hK (by decide) (by decide))
    obtain ⟨v_2, hov_2, hwv_2, hsv_2, hiv_2⟩ := id p_1
    refine T_getfield (v := .ref 407) d_Mo_answer_150 fg_Mo_335 hov_2 rfl ?_
    refine T_bipush (v := nI 32) d_Mo_answer_153 (by decide) ?_
    refine T_iload d_Mo_answer_155 rfl ?_
    refine N_iadd (a := k) (b := 32) (c := (32 + k)) d_Mo_answer_157 rfl ?_
    refine T_aload_n (v := .ref 373) d_Mo_answer_158 rfl (Or.inr ⟨_, rfl⟩) ?_
    refine T_getfield (v := .ref 383) d_Mo_answer_159 fg_Mo_55 hov_2 rfl ?_
    refine T_iload d_Mo_answer_162 rfl ?_
    have p_3 := (IA.kp (hsa) hK (by decide))
    obtain ⟨f_4, hf_5, hl_6, hv_7⟩ := id p_3
    refine N_iaload (k := k) (x := (bR (gd sa k))) d_Mo_answer_164 hf_5 (by omega) (by decide) (hv_7 k (by first | omega | (simp only [List.length_append, List.length_cons, List.length_nil, List.length_replicate, sl_len, be_len, sha_len, hmac_len, ex1_len, ex2_len, stretch_len, zer8_len, tC_len, tag1_len, bnN_len, xkp_len]; omega))) ?_
    refine N_iastore (k := (32 + k)) d_Mo_answer_165 (by decide) f1 (by omega) (by decide) rfl (fun M_8 h_9 s_10 => ?_)
    refine N_iinc (k := k) (m := 1) (c := (k + 1)) (L' := [(4, .int (nI ((k + 1)))), (3, .int (nI u)), (2, .int (nI s)), (1, .int (nI s)), (0, .ref 373)]) d_Mo_answer_166 (by decide) rfl (by decide) rfl rfl ?_
    refine T_goto (tgt := 142) d_Mo_answer_169 rfl ?_
    exact ih (k + 1) M_8 (by omega) ⟨(RP.push (i := 32 + k) (D' := fun i => 32 ≤ i ∧ i < 32 + (k + 1)) hda f1 h_9 (by omega) (by omega) (tsa k (by omega)) (fun j hj d => by show (32 ≤ j ∧ j < 32 + (k)) ∨ j = 32 + k; have d2 : 32 ≤ j ∧ j < 32 + (k + 1) := d; omega)), (Kp.ex (Kp.tr (Kp.rf : Kp [407] M0 M0) (Kp.mono hK (by decide))) s_10 (by decide))⟩
set_option maxHeartbeats 8000000 in
theorem an_0 (G : GX) {M0 : List va_E} {v : Nat → Int32} {R0 T : List UInt8} {u s : Nat} (ho : M0[373]? = some (moO v)) (hT : ∀ i, 96 ≤ i → i < 192 → (0 : UInt8) = gd T i) {Q : Option Value → List va_E → Prop} (kk : ∀ M, (96 ≤ 192 ∧ RP M 407 192 R0 0 192 T (fun i => i < 192)) ∧ Kp [407] M0 M → TT G mi_Mo_answer 211 [(3, .int (nI u)), (2, .int (nI s)), (1, .int (nI s)), (0, .ref 373)] [] M 0 0 Q) : ∀ j k M, k + j = 192 → (96 ≤ k ∧ RP M 407 192 R0 0 192 T (fun i => i < k)) ∧ Kp [407] M0 M → TT G mi_Mo_answer 189 [(4, .int (nI k)), (3, .int (nI u)), (2, .int (nI s)), (1, .int (nI s)), (0, .ref 373)] [] M 0 0 Q := by
  intro j
  induction j with
  | zero =>
    intro k M hk hI
    obtain rfl : 192 = k := by omega
    refine T_iload d_Mo_answer_189 rfl ?_
    refine T_sipush (v := nI 192) d_Mo_answer_191 (by decide) ?_
    refine N_icmp_ge_t (a := 192) (b := 192) d_Mo_answer_194 (tgt := 211) rfl (by omega) (by omega) (by omega) ?_
    exact T_sub (fun q hq => List.mem_cons_of_mem _ hq) (kk M hI)
  | succ j ih =>
    intro k M hk hI
    obtain ⟨⟨h96, hda⟩, hK⟩ := hI
    obtain ⟨L, ⟨f, f1, f2, f3⟩, eL, out, sg, hc1, hc2⟩ := id hda
    refine T_iload d_Mo_answer_189 rfl ?_
    refine T_sipush (v := nI 192) d_Mo_answer_191 (by decide) ?_
    refine N_icmp_ge_f (a := 192) (b := k) d_Mo_answer_194 (tgt := 211) rfl (by omega) (by omega) (by omega) ?_
    refine T_aload_n (v := .ref 373) d_Mo_answer_197 rfl (Or.inr ⟨_, rfl⟩) ?_
    have h_1 := (hK 373 (by decide)).trans (ho)
    refine T_getfield (v := .ref 407) d_Mo_answer_198 fg_Mo_335 h_1 rfl ?_
    refine T_iload d_Mo_answer_201 rfl ?_
    refine T_iconst (v := nI 0) d_Mo_answer_203 (by decide) ?_
    refine N_iastore (k := k) d_Mo_answer_204 (by decide) f1 (by omega) (by decide) rfl (fun M_2 h_3 s_4 => ?_)
    refine N_iinc (k := k) (m := 1) (c := (k + 1)) (L' := [(4, .int (nI ((k + 1)))), (3, .int (nI u)), (2, .int (nI s)), (1, .int (nI s)), (0, .ref 373)]) d_Mo_answer_205 (by decide) rfl (by decide) rfl rfl ?_
    refine T_goto (tgt := 189) d_Mo_answer_208 rfl ?_
    exact ih (k + 1) M_2 (by omega) ⟨⟨by omega, RP.push (b := 0) (i := k) (D' := fun i => i < k + 1) hda f1 h_3 (by omega) (by omega) (hT k h96 (by omega)) (fun j hj d => by show j < k ∨ j = k; have d2 : j < k + 1 := d; omega)⟩, (Kp.ex (Kp.tr (Kp.rf : Kp [407] M0 M0) (Kp.mono hK (by decide))) s_4 (by decide))⟩
set_option maxHeartbeats 8000000 in
theorem an_a (G : GX) {M0 : List va_E} {w : Nat → Int32} {l l0 R0 sa : List UInt8} {u s : Nat} (hb : BG M0 w l) (hsa : IA M0 394 32 sa) (sd0 : 0 + 32 ≤ sa.length) (sd1 : s < 4) (hof : l0.length = 0)  {Q : Option Value → List va_E → Prop} (kk : ∀ M, RO M 434 1280 R0 (320 * s) 320 (l0 ++ mp (fun i => gd sa (0 + i)) 32) ∧ Kp [434] M0 M → TT G mi_Mo_answer 285 [(4, .int (nI ((320 * s)))), (3, .int (nI u)), (2, .int (nI s)), (1, .int (nI s)), (0, .ref 373)] [] M 0 0 Q) : ∀ j k M, k + j = 32 → RO M 434 1280 R0 (320 * s) 320 (l0 ++ mp (fun i => gd sa (0 + i)) k) ∧ Kp [434] M0 M → TT G mi_Mo_answer 255 [(5, .int (nI k)), (4, .int (nI ((320 * s)))), (3, .int (nI u)), (2, .int (nI s)), (1, .int (nI s)), (0, .ref 373)] [] M 0 0 Q := by
  intro j
  induction j with
  | zero =>
    intro k M hk hI
    obtain rfl : 32 = k := by omega
    refine T_iload d_Mo_answer_255 rfl ?_
    refine T_bipush (v := nI 32) d_Mo_answer_257 (by decide) ?_
    refine N_icmp_ge_t (a := 32) (b := 32) d_Mo_answer_259 (tgt := 285) rfl (by omega) (by omega) (by omega) ?_
    exact T_sub (fun q hq => List.mem_cons_of_mem _ hq) (kk M hI)
  | succ j ih =>
    intro k M hk hI
    obtain ⟨hda, hK⟩ := hI
    obtain ⟨L, hL, eL, out, sg, hc1, hc2⟩ := id hda
    obtain ⟨f, f1, f2, f3⟩ := id hL
    have hlsa := hsa.le
    refine T_iload d_Mo_answer_255 rfl ?_
    refine T_bipush (v := nI 32) d_Mo_answer_257 (by decide) ?_
    refine N_icmp_ge_f (a := 32) (b := k) d_Mo_answer_259 (tgt := 285) rfl (by omega) (by omega) (by omega) ?_
    refine T_aload_n (v := .ref 373) d_Mo_answer_262 rfl (Or.inr ⟨_, rfl⟩) ?_
    have p_1 := (BG.kp (hb) hK (by decide) (by decide))
    obtain ⟨v_2, hov_2, hwv_2, hsv_2, hiv_2⟩ := id p_1
    refine T_getfield (v := .ref 434) d_Mo_answer_263 fg_Mo_422 hov_2 rfl ?_
    refine T_iload d_Mo_answer_266 rfl ?_
    refine T_iload d_Mo_answer_268 rfl ?_
    refine N_iadd (a := k) (b := (320 * s)) (c := ((320 * s) + k)) d_Mo_answer_270 rfl ?_
    refine T_aload_n (v := .ref 373) d_Mo_answer_271 rfl (Or.inr ⟨_, rfl⟩) ?_
    refine T_getfield (v := .ref 394) d_Mo_answer_272 fg_Mo_146 hov_2 rfl ?_
    refine T_iload d_Mo_answer_275 rfl ?_
    have p_3 := (IA.kp (hsa) hK (by decide))
    obtain ⟨f_4, hf_5, hl_6, hv_7⟩ := id p_3
    refine N_iaload (k := k) (x := (bR (gd sa k))) d_Mo_answer_277 hf_5 (by omega) (by decide) (hv_7 k (by first | omega | (simp only [List.length_append, List.length_cons, List.length_nil, List.length_replicate, sl_len, be_len, sha_len, hmac_len, ex1_len, ex2_len, stretch_len, zer8_len, tC_len, tag1_len, bnN_len, xkp_len]; omega))) ?_
    refine N_iastore (k := ((320 * s) + k)) d_Mo_answer_278 (by decide) f1 (by omega) (by decide) rfl (fun M_8 h_9 s_10 => ?_)
    refine N_iinc (k := k) (m := 1) (c := (k + 1)) (L' := [(5, .int (nI ((k + 1)))), (4, .int (nI ((320 * s)))), (3, .int (nI u)), (2, .int (nI s)), (1, .int (nI s)), (0, .ref 373)]) d_Mo_answer_279 (by decide) rfl (by decide) rfl rfl ?_
    refine T_goto (tgt := 255) d_Mo_answer_282 rfl ?_
    exact ih (k + 1) M_8 (by omega) ⟨RO.pushm h_9 f3 eL out sg (gd_c (by omega)) (by omega) (by omega) hc2, (Kp.ex (Kp.tr (Kp.rf : Kp [434] M0 M0) (Kp.mono hK (by decide))) s_10 (by decide))⟩
set_option maxHeartbeats 8000000 in
theorem an_b (G : GX) {M0 : List va_E} {w : Nat → Int32} {l l0 R0 sa : List UInt8} {u s : Nat} (hb : BG M0 w l) (hsa : IA M0 383 64 sa) (sd0 : 0 + 32 ≤ sa.length) (sd1 : s < 4) (hof : l0.length = 32)  {Q : Option Value → List va_E → Prop} (kk : ∀ M, RO M 434 1280 R0 (320 * s) 320 (l0 ++ mp (fun i => gd sa (0 + i)) 32) ∧ Kp [434] M0 M → TT G mi_Mo_answer 325 [(4, .int (nI ((320 * s)))), (3, .int (nI u)), (2, .int (nI s)), (1, .int (nI s)), (0, .ref 373)] [] M 0 0 Q) : ∀ j k M, k + j = 32 → RO M 434 1280 R0 (320 * s) 320 (l0 ++ mp (fun i => gd sa (0 + i)) k) ∧ Kp [434] M0 M → TT G mi_Mo_answer 292 [(5, .int (nI k)), (4, .int (nI ((320 * s)))), (3, .int (nI u)), (2, .int (nI s)), (1, .int (nI s)), (0, .ref 373)] [] M 0 0 Q := by
  intro j
  induction j with
  | zero =>
    intro k M hk hI
    obtain rfl : 32 = k := by omega
    refine T_iload d_Mo_answer_292 rfl ?_
    refine T_bipush (v := nI 32) d_Mo_answer_294 (by decide) ?_
    refine N_icmp_ge_t (a := 32) (b := 32) d_Mo_answer_296 (tgt := 325) rfl (by omega) (by omega) (by omega) ?_
    exact T_sub (fun q hq => List.mem_cons_of_mem _ hq) (kk M hI)
  | succ j ih =>
    intro k M hk hI
    obtain ⟨hda, hK⟩ := hI
    obtain ⟨L, hL, eL, out, sg, hc1, hc2⟩ := id hda
    obtain ⟨f, f1, f2, f3⟩ := id hL
    have hlsa := hsa.le
    refine T_iload d_Mo_answer_292 rfl ?_
    refine T_bipush (v := nI 32) d_Mo_answer_294 (by decide) ?_
    refine N_icmp_ge_f (a := 32) (b := k) d_Mo_answer_296 (tgt := 325) rfl (by omega) (by omega) (by omega) ?_
    refine T_aload_n (v := .ref 373) d_Mo_answer_299 rfl (Or.inr ⟨_, rfl⟩) ?_
    have p_1 := (BG.kp (hb) hK (by decide) (by decide))
    obtain ⟨v_2, hov_2, hwv_2, hsv_2, hiv_2⟩ := id p_1
    refine T_getfield (v := .ref 434) d_Mo_answer_300 fg_Mo_422 hov_2 rfl ?_
    refine T_iload d_Mo_answer_303 rfl ?_
    refine T_bipush (v := nI 32) d_Mo_answer_305 (by decide) ?_
    refine N_iadd (a := 32) (b := (320 * s)) (c := ((320 * s) + 32)) d_Mo_answer_307 rfl ?_
    refine T_iload d_Mo_answer_308 rfl ?_
    refine N_iadd (a := k) (b := ((320 * s) + 32)) (c := (((320 * s) + 32) + k)) d_Mo_answer_310 rfl ?_
    refine T_aload_n (v := .ref 373) d_Mo_answer_311 rfl (Or.inr ⟨_, rfl⟩) ?_
    refine T_getfield (v := .ref 383) d_Mo_answer_312 fg_Mo_55 hov_2 rfl ?_
    refine T_iload d_Mo_answer_315 rfl ?_
    have p_3 := (IA.kp (hsa) hK (by decide))
    obtain ⟨f_4, hf_5, hl_6, hv_7⟩ := id p_3
    refine N_iaload (k := k) (x := (bR (gd sa k))) d_Mo_answer_317 hf_5 (by omega) (by decide) (hv_7 k (by first | omega | (simp only [List.length_append, List.length_cons, List.length_nil, List.length_replicate, sl_len, be_len, sha_len, hmac_len, ex1_len, ex2_len, stretch_len, zer8_len, tC_len, tag1_len, bnN_len, xkp_len]; omega))) ?_
    refine N_iastore (k := (((320 * s) + 32) + k)) d_Mo_answer_318 (by decide) f1 (by omega) (by decide) rfl (fun M_8 h_9 s_10 => ?_)
    refine N_iinc (k := k) (m := 1) (c := (k + 1)) (L' := [(5, .int (nI ((k + 1)))), (4, .int (nI ((320 * s)))), (3, .int (nI u)), (2, .int (nI s)), (1, .int (nI s)), (0, .ref 373)]) d_Mo_answer_319 (by decide) rfl (by decide) rfl rfl ?_
    refine T_goto (tgt := 292) d_Mo_answer_322 rfl ?_
    exact ih (k + 1) M_8 (by omega) ⟨RO.pushm h_9 f3 eL out sg (gd_c (by omega)) (by omega) (by omega) hc2, (Kp.ex (Kp.tr (Kp.rf : Kp [434] M0 M0) (Kp.mono hK (by decide))) s_10 (by decide))⟩
set_option maxHeartbeats 8000000 in
theorem an_c (G : GX) {M0 : List va_E} {w : Nat → Int32} {l l0 R0 sa sb : List UInt8} {u s : Nat} (hb : BG M0 w l) (hsa : IA M0 404 32 sa) (hsb : IA M0 448 128 sb) (sd0 : 0 + 32 ≤ sa.length) (sd1 : 0 + 32 ≤ sb.length) (sd2 : s < 4) (hof : l0.length = 64)  {Q : Option Value → List va_E → Prop} (kk : ∀ M, RO M 434 1280 R0 (320 * s) 320 (l0 ++ mp (fun i => gd sa (0 + i) ^^^ gd sb (0 + i)) 32) ∧ Kp [434] M0 M → TT G mi_Mo_answer 388 [(4, .int (nI ((320 * s)))), (3, .int (nI u)), (2, .int (nI s)), (1, .int (nI s)), (0, .ref 373)] [] M 0 0 Q) : ∀ j k M, k + j = 32 → RO M 434 1280 R0 (320 * s) 320 (l0 ++ mp (fun i => gd sa (0 + i) ^^^ gd sb (0 + i)) k) ∧ Kp [434] M0 M → TT G mi_Mo_answer 347 [(5, .int (nI k)), (4, .int (nI ((320 * s)))), (3, .int (nI u)), (2, .int (nI s)), (1, .int (nI s)), (0, .ref 373)] [] M 0 0 Q := by
  intro j
  induction j with
  | zero =>
    intro k M hk hI
    obtain rfl : 32 = k := by omega
    refine T_iload d_Mo_answer_347 rfl ?_
    refine T_bipush (v := nI 32) d_Mo_answer_349 (by decide) ?_
    refine N_icmp_ge_t (a := 32) (b := 32) d_Mo_answer_351 (tgt := 388) rfl (by omega) (by omega) (by omega) ?_
    exact T_sub (fun q hq => List.mem_cons_of_mem _ hq) (kk M hI)
  | succ j ih =>
    intro k M hk hI
    obtain ⟨hda, hK⟩ := hI
    obtain ⟨L, hL, eL, out, sg, hc1, hc2⟩ := id hda
    obtain ⟨f, f1, f2, f3⟩ := id hL
    have hlsa := hsa.le
    have hlsb := hsb.le
    refine T_iload d_Mo_answer_347 rfl ?_
    refine T_bipush (v := nI 32) d_Mo_answer_349 (by decide) ?_
    refine N_icmp_ge_f (a := 32) (b := k) d_Mo_answer_351 (tgt := 388) rfl (by omega) (by omega) (by omega) ?_
    refine T_aload_n (v := .ref 373) d_Mo_answer_354 rfl (Or.inr ⟨_, rfl⟩) ?_
    have p_1 := (BG.kp (hb) hK (by decide) (by decide))
    obtain ⟨v_2, hov_2, hwv_2, hsv_2, hiv_2⟩ := id p_1
    refine T_getfield (v := .ref 434) d_Mo_answer_355 fg_Mo_422 hov_2 rfl ?_
    refine T_iload d_Mo_answer_358 rfl ?_
    refine T_bipush (v := nI 64) d_Mo_answer_360 (by decide) ?_
    refine N_iadd (a := 64) (b := (320 * s)) (c := ((320 * s) + 64)) d_Mo_answer_362 rfl ?_
    refine T_iload d_Mo_answer_363 rfl ?_
    refine N_iadd (a := k) (b := ((320 * s) + 64)) (c := (((320 * s) + 64) + k)) d_Mo_answer_365 rfl ?_
    refine T_aload_n (v := .ref 373) d_Mo_answer_366 rfl (Or.inr ⟨_, rfl⟩) ?_
    refine T_getfield (v := .ref 404) d_Mo_answer_367 fg_Mo_325 hov_2 rfl ?_
    refine T_iload d_Mo_answer_370 rfl ?_
    have p_3 := (IA.kp (hsa) hK (by decide))
    obtain ⟨f_4, hf_5, hl_6, hv_7⟩ := id p_3
    refine N_iaload (k := k) (x := (bR (gd sa k))) d_Mo_answer_372 hf_5 (by omega) (by decide) (hv_7 k (by first | omega | (simp only [List.length_append, List.length_cons, List.length_nil, List.length_replicate, sl_len, be_len, sha_len, hmac_len, ex1_len, ex2_len, stretch_len, zer8_len, tC_len, tag1_len, bnN_len, xkp_len]; omega))) ?_
    refine T_aload_n (v := .ref 373) d_Mo_answer_373 rfl (Or.inr ⟨_, rfl⟩) ?_
    refine T_getfield (v := .ref 448) d_Mo_answer_374 fg_Mo_467 hov_2 rfl ?_
    refine T_iload d_Mo_answer_377 rfl ?_
    have p_8 := (IA.kp (hsb) hK (by decide))
    obtain ⟨f_9, hf_10, hl_11, hv_12⟩ := id p_8
    refine N_iaload (k := k) (x := (bR (gd sb k))) d_Mo_answer_379 hf_10 (by omega) (by decide) (hv_12 k (by first | omega | (simp only [List.length_append, List.length_cons, List.length_nil, List.length_replicate, sl_len, be_len, sha_len, hmac_len, ex1_len, ex2_len, stretch_len, zer8_len, tC_len, tag1_len, bnN_len, xkp_len]; omega))) ?_
    refine T_ixor d_Mo_answer_380 ?_
    refine N_iastore (k := (((320 * s) + 64) + k)) d_Mo_answer_381 (by decide) f1 (by omega) (by decide) rfl (fun M_13 h_14 s_15 => ?_)
    refine N_iinc (k := k) (m := 1) (c := (k + 1)) (L' := [(5, .int (nI ((k + 1)))), (4, .int (nI ((320 * s)))), (3, .int (nI u)), (2, .int (nI s)), (1, .int (nI s)), (0, .ref 373)]) d_Mo_answer_382 (by decide) rfl (by decide) rfl rfl ?_
    refine T_goto (tgt := 347) d_Mo_answer_385 rfl ?_
    exact ih (k + 1) M_13 (by omega) ⟨RO.pushm (by have g := h_14; rw [bR_xor] at g; exact g) f3 eL out sg (xo_c (gd_c (by omega)) (gd_c (by omega))) (by omega) (by omega) hc2, (Kp.ex (Kp.tr (Kp.rf : Kp [434] M0 M0) (Kp.mono hK (by decide))) s_15 (by decide))⟩
set_option maxHeartbeats 8000000 in
theorem an_d (G : GX) {M0 : List va_E} {w : Nat → Int32} {l l0 R0 sa sb : List UInt8} {u s : Nat} (hb : BG M0 w l) (hsa : IA M0 407 192 sa) (hsb : IA M0 448 128 sb) (sd0 : 96 + 96 ≤ sa.length) (sd1 : 32 + 96 ≤ sb.length) (sd2 : s < 4) (hof : l0.length = 96)  {Q : Option Value → List va_E → Prop} (kk : ∀ M, RO M 434 1280 R0 (320 * s) 320 (l0 ++ mp (fun i => gd sa (96 + i) ^^^ gd sb (32 + i)) 96) ∧ Kp [434] M0 M → TT G mi_Mo_answer 438 [(4, .int (nI ((320 * s)))), (3, .int (nI u)), (2, .int (nI s)), (1, .int (nI s)), (0, .ref 373)] [] M 0 0 Q) : ∀ j k M, k + j = 96 → RO M 434 1280 R0 (320 * s) 320 (l0 ++ mp (fun i => gd sa (96 + i) ^^^ gd sb (32 + i)) k) ∧ Kp [434] M0 M → TT G mi_Mo_answer 391 [(5, .int (nI k)), (4, .int (nI ((320 * s)))), (3, .int (nI u)), (2, .int (nI s)), (1, .int (nI s)), (0, .ref 373)] [] M 0 0 Q := by
  intro j
  induction j with
  | zero =>
    intro k M hk hI
    obtain rfl : 96 = k := by omega
    refine T_iload d_Mo_answer_391 rfl ?_
    refine T_bipush (v := nI 96) d_Mo_answer_393 (by decide) ?_
    refine N_icmp_ge_t (a := 96) (b := 96) d_Mo_answer_395 (tgt := 438) rfl (by omega) (by omega) (by omega) ?_
    exact T_sub (fun q hq => List.mem_cons_of_mem _ hq) (kk M hI)
  | succ j ih =>
    intro k M hk hI
    obtain ⟨hda, hK⟩ := hI
    obtain ⟨L, hL, eL, out, sg, hc1, hc2⟩ := id hda
    obtain ⟨f, f1, f2, f3⟩ := id hL
    have hlsa := hsa.le
    have hlsb := hsb.le
    refine T_iload d_Mo_answer_391 rfl ?_
    refine T_bipush (v := nI 96) d_Mo_answer_393 (by decide) ?_
    refine N_icmp_ge_f (a := 96) (b := k) d_Mo_answer_395 (tgt := 438) rfl (by omega) (by omega) (by omega) ?_
    refine T_aload_n (v := .ref 373) d_Mo_answer_398 rfl (Or.inr ⟨_, rfl⟩) ?_
    have p_1 := (BG.kp (hb) hK (by decide) (by decide))
    obtain ⟨v_2, hov_2, hwv_2, hsv_2, hiv_2⟩ := id p_1
    refine T_getfield (v := .ref 434) d_Mo_answer_399 fg_Mo_422 hov_2 rfl ?_
    refine T_iload d_Mo_answer_402 rfl ?_
    refine T_bipush (v := nI 96) d_Mo_answer_404 (by decide) ?_
    refine N_iadd (a := 96) (b := (320 * s)) (c := ((320 * s) + 96)) d_Mo_answer_406 rfl ?_
    refine T_iload d_Mo_answer_407 rfl ?_
    refine N_iadd (a := k) (b := ((320 * s) + 96)) (c := (((320 * s) + 96) + k)) d_Mo_answer_409 rfl ?_
    refine T_aload_n (v := .ref 373) d_Mo_answer_410 rfl (Or.inr ⟨_, rfl⟩) ?_
    refine T_getfield (v := .ref 407) d_Mo_answer_411 fg_Mo_335 hov_2 rfl ?_
    refine T_bipush (v := nI 96) d_Mo_answer_414 (by decide) ?_
    refine T_iload d_Mo_answer_416 rfl ?_
    refine N_iadd (a := k) (b := 96) (c := (96 + k)) d_Mo_answer_418 rfl ?_
    have p_3 := (IA.kp (hsa) hK (by decide))
    obtain ⟨f_4, hf_5, hl_6, hv_7⟩ := id p_3
    refine N_iaload (k := (96 + k)) (x := (bR (gd sa (96 + k)))) d_Mo_answer_419 hf_5 (by omega) (by decide) (hv_7 (96 + k) (by first | omega | (simp only [List.length_append, List.length_cons, List.length_nil, List.length_replicate, sl_len, be_len, sha_len, hmac_len, ex1_len, ex2_len, stretch_len, zer8_len, tC_len, tag1_len, bnN_len, xkp_len]; omega))) ?_
    refine T_aload_n (v := .ref 373) d_Mo_answer_420 rfl (Or.inr ⟨_, rfl⟩) ?_
    refine T_getfield (v := .ref 448) d_Mo_answer_421 fg_Mo_467 hov_2 rfl ?_
    refine T_bipush (v := nI 32) d_Mo_answer_424 (by decide) ?_
    refine T_iload d_Mo_answer_426 rfl ?_
    refine N_iadd (a := k) (b := 32) (c := (32 + k)) d_Mo_answer_428 rfl ?_
    have p_8 := (IA.kp (hsb) hK (by decide))
    obtain ⟨f_9, hf_10, hl_11, hv_12⟩ := id p_8
    refine N_iaload (k := (32 + k)) (x := (bR (gd sb (32 + k)))) d_Mo_answer_429 hf_10 (by omega) (by decide) (hv_12 (32 + k) (by first | omega | (simp only [List.length_append, List.length_cons, List.length_nil, List.length_replicate, sl_len, be_len, sha_len, hmac_len, ex1_len, ex2_len, stretch_len, zer8_len, tC_len, tag1_len, bnN_len, xkp_len]; omega))) ?_
    refine T_ixor d_Mo_answer_430 ?_
    refine N_iastore (k := (((320 * s) + 96) + k)) d_Mo_answer_431 (by decide) f1 (by omega) (by decide) rfl (fun M_13 h_14 s_15 => ?_)
    refine N_iinc (k := k) (m := 1) (c := (k + 1)) (L' := [(5, .int (nI ((k + 1)))), (4, .int (nI ((320 * s)))), (3, .int (nI u)), (2, .int (nI s)), (1, .int (nI s)), (0, .ref 373)]) d_Mo_answer_432 (by decide) rfl (by decide) rfl rfl ?_
    refine T_goto (tgt := 391) d_Mo_answer_435 rfl ?_
    exact ih (k + 1) M_13 (by omega) ⟨RO.pushm (by have g := h_14; rw [bR_xor] at g; exact g) f3 eL out sg (xo_c (gd_c (by omega)) (gd_c (by omega))) (by omega) (by omega) hc2, (Kp.ex (Kp.tr (Kp.rf : Kp [434] M0 M0) (Kp.mono hK (by decide))) s_15 (by decide))⟩
set_option maxHeartbeats 8000000 in
theorem an_e (G : GX) {M0 : List va_E} {w : Nat → Int32} {l l0 R0 sa : List UInt8} {u s : Nat} (hb : BG M0 w l) (hsa : IA M0 383 64 sa) (sd0 : 0 + 32 ≤ sa.length) (sd1 : s < 4) (hof : l0.length = 192)  {Q : Option Value → List va_E → Prop} (kk : ∀ M, RO M 434 1280 R0 (320 * s) 320 (l0 ++ mp (fun i => gd sa (0 + i)) 32) ∧ Kp [434] M0 M → TT G mi_Mo_answer 479 [(4, .int (nI ((320 * s)))), (3, .int (nI u)), (2, .int (nI s)), (1, .int (nI s)), (0, .ref 373)] [] M 0 0 Q) : ∀ j k M, k + j = 32 → RO M 434 1280 R0 (320 * s) 320 (l0 ++ mp (fun i => gd sa (0 + i)) k) ∧ Kp [434] M0 M → TT G mi_Mo_answer 445 [(5, .int (nI k)), (4, .int (nI ((320 * s)))), (3, .int (nI u)), (2, .int (nI s)), (1, .int (nI s)), (0, .ref 373)] [] M 0 0 Q := by
  intro j
  induction j with
  | zero =>
    intro k M hk hI
    obtain rfl : 32 = k := by omega
    refine T_iload d_Mo_answer_445 rfl ?_
    refine T_bipush (v := nI 32) d_Mo_answer_447 (by decide) ?_
    refine N_icmp_ge_t (a := 32) (b := 32) d_Mo_answer_449 (tgt := 479) rfl (by omega) (by omega) (by omega) ?_
    exact T_sub (fun q hq => List.mem_cons_of_mem _ hq) (kk M hI)
  | succ j ih =>
    intro k M hk hI
    obtain ⟨hda, hK⟩ := hI
    obtain ⟨L, hL, eL, out, sg, hc1, hc2⟩ := id hda
    obtain ⟨f, f1, f2, f3⟩ := id hL
    have hlsa := hsa.le
    refine T_iload d_Mo_answer_445 rfl ?_
    refine T_bipush (v := nI 32) d_Mo_answer_447 (by decide) ?_
    refine N_icmp_ge_f (a := 32) (b := k) d_Mo_answer_449 (tgt := 479) rfl (by omega) (by omega) (by omega) ?_
    refine T_aload_n (v := .ref 373) d_Mo_answer_452 rfl (Or.inr ⟨_, rfl⟩) ?_
    have p_1 := (BG.kp (hb) hK (by decide) (by decide))
    obtain ⟨v_2, hov_2, hwv_2, hsv_2, hiv_2⟩ := id p_1
    refine T_getfield (v := .ref 434) d_Mo_answer_453 fg_Mo_422 hov_2 rfl ?_
    refine T_iload d_Mo_answer_456 rfl ?_
    refine T_sipush (v := nI 192) d_Mo_answer_458 (by decide) ?_
    refine N_iadd (a := 192) (b := (320 * s)) (c := ((320 * s) + 192)) d_Mo_answer_461 rfl ?_
    refine T_iload d_Mo_answer_462 rfl ?_
    refine N_iadd (a := k) (b := ((320 * s) + 192)) (c := (((320 * s) + 192) + k)) d_Mo_answer_464 rfl ?_
    refine T_aload_n (v := .ref 373) d_Mo_answer_465 rfl (Or.inr ⟨_, rfl⟩) ?_
    refine T_getfield (v := .ref 383) d_Mo_answer_466 fg_Mo_55 hov_2 rfl ?_
    refine T_iload d_Mo_answer_469 rfl ?_
    have p_3 := (IA.kp (hsa) hK (by decide))
    obtain ⟨f_4, hf_5, hl_6, hv_7⟩ := id p_3
    refine N_iaload (k := k) (x := (bR (gd sa k))) d_Mo_answer_471 hf_5 (by omega) (by decide) (hv_7 k (by first | omega | (simp only [List.length_append, List.length_cons, List.length_nil, List.length_replicate, sl_len, be_len, sha_len, hmac_len, ex1_len, ex2_len, stretch_len, zer8_len, tC_len, tag1_len, bnN_len, xkp_len]; omega))) ?_
    refine N_iastore (k := (((320 * s) + 192) + k)) d_Mo_answer_472 (by decide) f1 (by omega) (by decide) rfl (fun M_8 h_9 s_10 => ?_)
    refine N_iinc (k := k) (m := 1) (c := (k + 1)) (L' := [(5, .int (nI ((k + 1)))), (4, .int (nI ((320 * s)))), (3, .int (nI u)), (2, .int (nI s)), (1, .int (nI s)), (0, .ref 373)]) d_Mo_answer_473 (by decide) rfl (by decide) rfl rfl ?_
    refine T_goto (tgt := 445) d_Mo_answer_476 rfl ?_
    exact ih (k + 1) M_8 (by omega) ⟨RO.pushm h_9 f3 eL out sg (gd_c (by omega)) (by omega) (by omega) hc2, (Kp.ex (Kp.tr (Kp.rf : Kp [434] M0 M0) (Kp.mono hK (by decide))) s_10 (by decide))⟩
set_option maxHeartbeats 8000000 in
theorem an_f (G : GX) {M0 : List va_E} {w : Nat → Int32} {l l0 l1 l2 R0 R1 R2 sa sb sc : List UInt8} {u s : Nat} (hb : BG M0 w l) (hsa : IA M0 445 64 sa) (esa : 64 ≤ sa.length) (hsb : IA M0 446 64 sb) (esb : 64 ≤ sb.length) (hsc : IA M0 447 64 sc) (esc : 64 ≤ sc.length) (of0 : l0.length = 256) (of1 : l1.length = 0) (of2 : l2.length = 0) (sd0 : s < 4)  {Q : Option Value → List va_E → Prop} (kk : ∀ M, (RO M 434 1280 R0 (320 * s) 320 (l0 ++ sl sa 0 64) ∧ RO M 436 256 R1 (64 * s) 64 (l1 ++ sl sb 0 64) ∧ RO M 438 256 R2 (64 * s) 64 (l2 ++ sl sc 0 64) ∧ Kp [434, 436, 438] M0 M) → TT G mi_Mo_answer 693 [(4, .int (nI ((320 * s)))), (3, .int (nI u)), (2, .int (nI s)), (1, .int (nI s)), (0, .ref 373)] [] M 0 0 Q) : ∀ j k M, k + j = 64 → (RO M 434 1280 R0 (320 * s) 320 (l0 ++ sl sa 0 k) ∧ RO M 436 256 R1 (64 * s) 64 (l1 ++ sl sb 0 k) ∧ RO M 438 256 R2 (64 * s) 64 (l2 ++ sl sc 0 k) ∧ Kp [434, 436, 438] M0 M) → TT G mi_Mo_answer 621 [(5, .int (nI k)), (4, .int (nI ((320 * s)))), (3, .int (nI u)), (2, .int (nI s)), (1, .int (nI s)), (0, .ref 373)] [] M 0 0 Q := by
  intro j
  induction j with
  | zero =>
    intro k M hk hI
    obtain rfl : 64 = k := by omega
    refine T_iload d_Mo_answer_621 rfl ?_
    refine T_bipush (v := nI 64) d_Mo_answer_623 (by decide) ?_
    refine N_icmp_ge_t (a := 64) (b := 64) d_Mo_answer_625 (tgt := 693) rfl (by omega) (by omega) (by omega) ?_
    exact T_sub (fun q hq => List.mem_cons_of_mem _ hq) (kk M hI)
  | succ j ih =>
    intro k M hk hI
    obtain ⟨hd0, hd1, hd2, hK⟩ := hI
    obtain ⟨L0, ⟨f0, g0, fb0, fc0⟩, eL0, out0, sg0, hc0, hx0⟩ := id hd0
    have hlsa := hsa.le
    obtain ⟨L1, ⟨f1, g1, fb1, fc1⟩, eL1, out1, sg1, hc1, hx1⟩ := id hd1
    have hlsb := hsb.le
    obtain ⟨L2, ⟨f2, g2, fb2, fc2⟩, eL2, out2, sg2, hc2, hx2⟩ := id hd2
    have hlsc := hsc.le
    refine T_iload d_Mo_answer_621 rfl ?_
    refine T_bipush (v := nI 64) d_Mo_answer_623 (by decide) ?_
    refine N_icmp_ge_f (a := 64) (b := k) d_Mo_answer_625 (tgt := 693) rfl (by omega) (by omega) (by omega) ?_
    refine T_aload_n (v := .ref 373) d_Mo_answer_628 rfl (Or.inr ⟨_, rfl⟩) ?_
    have p_1 := (BG.kp (hb) hK (by decide) (by decide))
    obtain ⟨v_2, hov_2, hwv_2, hsv_2, hiv_2⟩ := id p_1
    refine T_getfield (v := .ref 434) d_Mo_answer_629 fg_Mo_422 hov_2 rfl ?_
    refine T_iload d_Mo_answer_632 rfl ?_
    refine T_sipush (v := nI 256) d_Mo_answer_634 (by decide) ?_
    refine N_iadd (a := 256) (b := (320 * s)) (c := ((320 * s) + 256)) d_Mo_answer_637 rfl ?_
    refine T_iload d_Mo_answer_638 rfl ?_
    refine N_iadd (a := k) (b := ((320 * s) + 256)) (c := (((320 * s) + 256) + k)) d_Mo_answer_640 rfl ?_
    refine T_aload_n (v := .ref 373) d_Mo_answer_641 rfl (Or.inr ⟨_, rfl⟩) ?_
    refine T_getfield (v := .ref 445) d_Mo_answer_642 fg_Mo_458 hov_2 rfl ?_
    refine T_iload d_Mo_answer_645 rfl ?_
    have p_3 := (IA.kp (hsa) hK (by decide))
    obtain ⟨f_4, hf_5, hl_6, hv_7⟩ := id p_3
    refine N_iaload (k := k) (x := (bR (gd sa k))) d_Mo_answer_647 hf_5 (by omega) (by decide) (hv_7 k (by first | omega | (simp only [List.length_append, List.length_cons, List.length_nil, List.length_replicate, sl_len, be_len, sha_len, hmac_len, ex1_len, ex2_len, stretch_len, zer8_len, tC_len, tag1_len, bnN_len, xkp_len]; omega))) ?_
    refine N_iastore (k := (((320 * s) + 256) + k)) d_Mo_answer_648 (by decide) g0 (by omega) (by decide) rfl (fun M_8 h_9 s_10 => ?_)
    refine T_aload_n (v := .ref 373) d_Mo_answer_649 rfl (Or.inr ⟨_, rfl⟩) ?_
    have p_11 := (BG.kp (p_1) (Ex.kp s_10) (by decide) (by decide))
    obtain ⟨v_12, hov_12, hwv_12, hsv_12, hiv_12⟩ := id p_11
    refine T_getfield (v := .ref 436) d_Mo_answer_650 fg_Mo_428 hov_12 rfl ?_
    refine T_bipush (v := nI 64) d_Mo_answer_653 (by decide) ?_
    refine T_iload_n d_Mo_answer_655 rfl ?_
    refine N_imul (a := s) (b := 64) (c := (64 * s)) d_Mo_answer_656 rfl ?_
    refine T_iload d_Mo_answer_657 rfl ?_
    refine N_iadd (a := k) (b := (64 * s)) (c := ((64 * s) + k)) d_Mo_answer_659 rfl ?_
    refine T_aload_n (v := .ref 373) d_Mo_answer_660 rfl (Or.inr ⟨_, rfl⟩) ?_
    refine T_getfield (v := .ref 446) d_Mo_answer_661 fg_Mo_461 hov_12 rfl ?_
    refine T_iload d_Mo_answer_664 rfl ?_
    have p_13 := (IA.kp ((IA.kp (hsb) hK (by decide))) (Ex.kp s_10) (by decide))
    obtain ⟨f_14, hf_15, hl_16, hv_17⟩ := id p_13
    refine N_iaload (k := k) (x := (bR (gd sb k))) d_Mo_answer_666 hf_15 (by omega) (by decide) (hv_17 k (by first | omega | (simp only [List.length_append, List.length_cons, List.length_nil, List.length_replicate, sl_len, be_len, sha_len, hmac_len, ex1_len, ex2_len, stretch_len, zer8_len, tC_len, tag1_len, bnN_len, xkp_len]; omega))) ?_
    have h_18 := (s_10 436 (by decide)).trans (g1)
    refine N_iastore (k := ((64 * s) + k)) d_Mo_answer_667 (by decide) h_18 (by omega) (by decide) rfl (fun M_19 h_20 s_21 => ?_)
    refine T_aload_n (v := .ref 373) d_Mo_answer_668 rfl (Or.inr ⟨_, rfl⟩) ?_
    have p_22 := (BG.kp (p_11) (Ex.kp s_21) (by decide) (by decide))
    obtain ⟨v_23, hov_23, hwv_23, hsv_23, hiv_23⟩ := id p_22
    refine T_getfield (v := .ref 438) d_Mo_answer_669 fg_Mo_434 hov_23 rfl ?_
    refine T_bipush (v := nI 64) d_Mo_answer_672 (by decide) ?_
    refine T_iload_n d_Mo_answer_674 rfl ?_
    refine N_imul (a := s) (b := 64) (c := (64 * s)) d_Mo_answer_675 rfl ?_
    refine T_iload d_Mo_answer_676 rfl ?_
    refine N_iadd (a := k) (b := (64 * s)) (c := ((64 * s) + k)) d_Mo_answer_678 rfl ?_
    refine T_aload_n (v := .ref 373) d_Mo_answer_679 rfl (Or.inr ⟨_, rfl⟩) ?_
    refine T_getfield (v := .ref 447) d_Mo_answer_680 fg_Mo_464 hov_23 rfl ?_
    refine T_iload d_Mo_answer_683 rfl ?_
    have p_24 := (IA.kp ((IA.kp ((IA.kp (hsc) hK (by decide))) (Ex.kp s_10) (by decide))) (Ex.kp s_21) (by decide))
    obtain ⟨f_25, hf_26, hl_27, hv_28⟩ := id p_24
    refine N_iaload (k := k) (x := (bR (gd sc k))) d_Mo_answer_685 hf_26 (by omega) (by decide) (hv_28 k (by first | omega | (simp only [List.length_append, List.length_cons, List.length_nil, List.length_replicate, sl_len, be_len, sha_len, hmac_len, ex1_len, ex2_len, stretch_len, zer8_len, tC_len, tag1_len, bnN_len, xkp_len]; omega))) ?_
    have h_29 := (s_21 438 (by decide)).trans ((s_10 438 (by decide)).trans (g2))
    refine N_iastore (k := ((64 * s) + k)) d_Mo_answer_686 (by decide) h_29 (by omega) (by decide) rfl (fun M_30 h_31 s_32 => ?_)
    refine N_iinc (k := k) (m := 1) (c := (k + 1)) (L' := [(5, .int (nI ((k + 1)))), (4, .int (nI ((320 * s)))), (3, .int (nI u)), (2, .int (nI s)), (1, .int (nI s)), (0, .ref 373)]) d_Mo_answer_687 (by decide) rfl (by decide) rfl rfl ?_
    refine T_goto (tgt := 621) d_Mo_answer_690 rfl ?_
    have h_33 := (s_32 434 (by decide)).trans ((s_21 434 (by decide)).trans (h_9))
    have h_34 := (s_32 436 (by decide)).trans (h_20)
    exact ih (k + 1) M_30 (by omega) ⟨RO.pushm (h0 := fun i => gd sa (0 + i)) h_33 fc0 eL0 out0 sg0 (gd_c (by omega)) (by omega) (by omega) hx0, RO.pushm (h0 := fun i => gd sb (0 + i)) h_34 fc1 eL1 out1 sg1 (gd_c (by omega)) (by omega) (by omega) hx1, RO.pushm (h0 := fun i => gd sc (0 + i)) h_31 fc2 eL2 out2 sg2 (gd_c (by omega)) (by omega) (by omega) hx2, (Kp.ex (Kp.ex (Kp.ex (Kp.tr (Kp.rf : Kp [434, 436, 438] M0 M0) (Kp.mono hK (by decide))) s_10 (by decide)) s_21 (by decide)) s_32 (by decide))⟩
abbrev anW : List Nat := [373, 374, 380, 381, 382, 383, 384, 385, 387, 388, 389, 390, 391, 392, 393, 394, 395, 397, 398, 401, 407, 408, 425, 427, 434, 436, 438, 440, 441, 442, 443, 444, 445, 446, 447, 448, 449]
abbrev anoW : List Nat := [373, 390, 391, 392, 393, 394, 427]
set_option maxRecDepth 100000 in
set_option maxHeartbeats 8000000 in
theorem p_Mo_answer_no {G : GX} {M : List va_E} {sd : Int32} {ch n m th : Nat} {s u xs : Nat} {us : Nat → Nat} {w1 w2 xp ss rc : Nat → List UInt8} {c2 m2 J P : List UInt8} {h1 h2 r1 en : Nat → Bool} (hs : s < 4) (hdue : (h1 s && !r1 s) = true) (hw : (w1 s).length = 96) (hno : ¬ (dec (nB (w1 s) 0) ∧ dec (nB (w1 s) 64))) (hms : MS M) (hnb : NB M sd ch n m th) (z1 : ZR M 424 4 h1) (z4 : ZR M 427 4 r1) (hw1 : SL M 433 384 96 4 w1) : CT G mi_Mo_answer [.ref 373, .int (nI s)] M (fun r M' => r = some (.int (nI 1)) ∧ MS M' ∧ NB M' sd ch n m 0 ∧ ZR M' 427 4 (updB r1 s true) ∧ Kp anoW M M') := by
  obtain ⟨w, h, h66, h71, h72, h73, h74⟩ := hnb
  refine CT.of (by decide) (Nat.le_of_ble_eq_true rfl) ?_
  show TT G mi_Mo_answer 0 [(0, .ref 373), (1, .int (nI s))] [] M 0 0 _
  have bA : bN (h1 s) = 1 := by revert hdue; cases h1 s <;> cases r1 s <;> decide
  have bB : bN (r1 s) = 0 := by revert hdue; cases h1 s <;> cases r1 s <;> decide
  refine T_aload_n (v := .ref 373) d_Mo_answer_0 rfl (Or.inr ⟨_, rfl⟩) ?_
  refine T_iconst (v := nI 0) d_Mo_answer_1 (by decide) ?_
  obtain ⟨v_1, hov_1, hwv_1, hsv_1, hiv_1⟩ := id h
  refine N_put (e := (moO (upd v_1 66 (nI 0)))) d_Mo_answer_2 (fp_Mo_316 _) hov_1 (Nat.le_of_ble_eq_true rfl) ⟨rfl, rfl⟩ rfl (fun M_2 h_3 s_4 => ?_)
  have p_5 := BG.st (j := 66) (by decide) hwv_1 hsv_1 hiv_1 h_3 (Ex.kp s_4)
  refine T_iload_n d_Mo_answer_5 rfl ?_
  refine T_static (as := [.int (nI s)]) (rest := []) d_Mo_answer_6 rfl (jw_Mo_isSession.jo (by decide)) lm_Mo_545 jt_Mo_isSession rfl (Nat.le_of_ble_eq_true rfl) (by decide) (by decide) (b_Mo_isS_in hs) (fun r M_6 hq => ?_)
  obtain ⟨rfl, he⟩ := hq
  obtain rfl := he.symm
  refine T_eq (pc' := 9) (L' := [(0, .ref 373), (1, .int (nI s))]) (st' := [.int (nI 1)]) (M' := M_2) rfl rfl rfl rfl ?_
  refine N_if_ne_t (b := 1) d_Mo_answer_9 (tgt := 14) rfl (by omega) (by omega) ?_
  refine T_aload_n (v := .ref 373) d_Mo_answer_14 rfl (Or.inr ⟨_, rfl⟩) ?_
  obtain ⟨v_7, hov_7, hwv_7, hsv_7, hiv_7⟩ := id p_5
  refine T_getfield (v := .ref 424) d_Mo_answer_15 fg_Mo_392 hov_7 rfl ?_
  refine T_iload_n d_Mo_answer_18 rfl ?_
  have p_8 := (ZR.kp (z1) (Ex.kp s_4) (by decide))
  obtain ⟨f_9, h_10, h_11⟩ := id p_8
  refine N_zaload (k := s) (x := (nI ((bN (h1 s))))) d_Mo_answer_19 h_10 (by omega) (by decide) (h_11 s (by omega)) ?_
  refine N_if_eq_f (b := (bN (h1 s))) d_Mo_answer_20 (tgt := 32) rfl (by omega) (by omega) ?_
  refine T_aload_n (v := .ref 373) d_Mo_answer_23 rfl (Or.inr ⟨_, rfl⟩) ?_
  refine T_getfield (v := .ref 427) d_Mo_answer_24 fg_Mo_401 hov_7 rfl ?_
  refine T_iload_n d_Mo_answer_27 rfl ?_
  have p_12 := (ZR.kp (z4) (Ex.kp s_4) (by decide))
  obtain ⟨f_13, h_14, h_15⟩ := id p_12
  refine N_zaload (k := s) (x := (nI ((bN (r1 s))))) d_Mo_answer_28 h_14 (by omega) (by decide) (h_15 s (by omega)) ?_
  refine N_if_eq_t (b := (bN (r1 s))) d_Mo_answer_29 (tgt := 34) rfl (by omega) (by omega) ?_
  refine T_iload_n d_Mo_answer_34 rfl ?_
  refine T_istore_n (L' := [(2, .int (nI s)), (0, .ref 373), (1, .int (nI s))]) d_Mo_answer_35 (by decide) rfl ?_
  refine T_aload_n (v := .ref 373) d_Mo_answer_36 rfl (Or.inr ⟨_, rfl⟩) ?_
  refine T_getfield (v := .ref 427) d_Mo_answer_37 fg_Mo_401 hov_7 rfl ?_
  refine T_iload_n d_Mo_answer_40 rfl ?_
  refine T_iconst (v := nI 1) d_Mo_answer_41 (by decide) ?_
  refine N_zastore (k := s) d_Mo_answer_42 (by decide) h_14 (by omega) (by decide) rfl (fun M_16 h_17 s_18 => ?_)
  have p_19 := ZR.up (b := true) h_15 (by decide) h_17
  refine T_aload_n (v := .ref 373) d_Mo_answer_43 rfl (Or.inr ⟨_, rfl⟩) ?_
  refine T_bipush (v := nI 12) d_Mo_answer_44 (by decide) ?_
  refine T_aload_n (v := .ref 373) d_Mo_answer_46 rfl (Or.inr ⟨_, rfl⟩) ?_
  have p_20 := (BG.kp (p_5) (Ex.kp s_18) (by decide) (by decide))
  obtain ⟨v_21, hov_21, hwv_21, hsv_21, hiv_21⟩ := id p_20
  refine T_getfield (v := .ref 433) d_Mo_answer_47 fg_Mo_419 hov_21 rfl ?_
  refine T_bipush (v := nI 96) d_Mo_answer_50 (by decide) ?_
  refine T_iload_n d_Mo_answer_52 rfl ?_
  refine N_imul (a := s) (b := 96) (c := (96 * s)) d_Mo_answer_53 rfl ?_
  have p_23 := (SL.kp ((SL.kp (hw1) (Ex.kp s_4) (by decide))) (Ex.kp s_18) (by decide))
  obtain ⟨L24, hL24, eL24, sg24⟩ := SL.rd p_23 hs
  have nq_22 : nB L24 (96 * s) = nB (w1 s) 0 := nB_sg (b := 0) sg24 (by first | omega | (simp only [List.length_append, List.length_cons, List.length_nil, List.length_replicate, sl_len, be_len, sha_len, hmac_len, ex1_len, ex2_len, stretch_len, zer8_len, tC_len, tag1_len, bnN_len, xkp_len, enc_len, chance_len, lbF_len, str2_len, pub_len', sec8_len, mp_len, xSrv_len, xCli_len, xSess_len, seal8_len, mkU_len]; done) | (simp only [List.length_append, List.length_cons, List.length_nil, List.length_replicate, sl_len, be_len, sha_len, hmac_len, ex1_len, ex2_len, stretch_len, zer8_len, tC_len, tag1_len, bnN_len, xkp_len, enc_len, chance_len, lbF_len, str2_len, pub_len', sec8_len, mp_len, xSrv_len, xCli_len, xSess_len, seal8_len, mkU_len]; omega))
  have ln_22 : (96 * s) + 32 ≤ L24.length := by rw [eL24]; omega
  have p_25 := (MS.kp ((MS.kp (hms) (Ex.kp s_4) (by decide))) (Ex.kp s_18) (by decide))
  refine T_virtual (as := [.int (nI 12), .ref 433, .int (nI ((96 * s)))]) (rest := []) (b := 373) d_Mo_answer_54 rfl (jw_Mo_decode.jo (by decide)) lm_Mo_502 ji_Mo_decode js_Mo_decode hov_21 rfl rfl rfl (Nat.le_of_ble_eq_true rfl) (by decide) (by decide) (b_Mo_decode (at0 := (96 * s)) p_25 p_20 hL24 ln_22 (by decide) (by decide)) (fun r M_22 hq => ?_)
  rw [nq_22] at hq
  obtain ⟨rfl, ms_22, pt_22, kp_22⟩ := hq
  by_cases hd_22 : dec (nB (w1 s) 0)
  · rw [if_pos hd_22]
    have pd_22 := pt_22 hd_22
    refine T_eq (pc' := 57) (L' := [(2, .int (nI s)), (0, .ref 373), (1, .int (nI s))]) (st' := [.int (nI 1)]) (M' := M_22) rfl rfl rfl rfl ?_
    refine N_if_eq_f (b := 1) d_Mo_answer_57 (tgt := 80) rfl (by omega) (by omega) ?_
    refine T_aload_n (v := .ref 373) d_Mo_answer_60 rfl (Or.inr ⟨_, rfl⟩) ?_
    refine T_bipush (v := nI 12) d_Mo_answer_61 (by decide) ?_
    refine T_aload_n (v := .ref 373) d_Mo_answer_63 rfl (Or.inr ⟨_, rfl⟩) ?_
    have p_26 := (BG.kp (p_20) kp_22 (by decide) (by decide))
    obtain ⟨v_27, hov_27, hwv_27, hsv_27, hiv_27⟩ := id p_26
    refine T_getfield (v := .ref 433) d_Mo_answer_64 fg_Mo_419 hov_27 rfl ?_
    refine T_bipush (v := nI 96) d_Mo_answer_67 (by decide) ?_
    refine T_iload_n d_Mo_answer_69 rfl ?_
    refine N_imul (a := s) (b := 96) (c := (96 * s)) d_Mo_answer_70 rfl ?_
    refine T_bipush (v := nI 64) d_Mo_answer_71 (by decide) ?_
    refine N_iadd (a := 64) (b := (96 * s)) (c := ((96 * s) + 64)) d_Mo_answer_73 rfl ?_
    have p_29 := (SL.kp (p_23) kp_22 (by decide))
    obtain ⟨L30, hL30, eL30, sg30⟩ := SL.rd p_29 hs
    have nq_28 : nB L30 ((96 * s) + 64) = nB (w1 s) 64 := nB_sg (b := 64) sg30 (by first | omega | (simp only [List.length_append, List.length_cons, List.length_nil, List.length_replicate, sl_len, be_len, sha_len, hmac_len, ex1_len, ex2_len, stretch_len, zer8_len, tC_len, tag1_len, bnN_len, xkp_len, enc_len, chance_len, lbF_len, str2_len, pub_len', sec8_len, mp_len, xSrv_len, xCli_len, xSess_len, seal8_len, mkU_len]; done) | (simp only [List.length_append, List.length_cons, List.length_nil, List.length_replicate, sl_len, be_len, sha_len, hmac_len, ex1_len, ex2_len, stretch_len, zer8_len, tC_len, tag1_len, bnN_len, xkp_len, enc_len, chance_len, lbF_len, str2_len, pub_len', sec8_len, mp_len, xSrv_len, xCli_len, xSess_len, seal8_len, mkU_len]; omega))
    have ln_28 : ((96 * s) + 64) + 32 ≤ L30.length := by rw [eL30]; omega
    refine T_virtual (as := [.int (nI 12), .ref 433, .int (nI (((96 * s) + 64)))]) (rest := []) (b := 373) d_Mo_answer_74 rfl (jw_Mo_decode.jo (by decide)) lm_Mo_502 ji_Mo_decode js_Mo_decode hov_27 rfl rfl rfl (Nat.le_of_ble_eq_true rfl) (by decide) (by decide) (b_Mo_decode (at0 := ((96 * s) + 64)) ms_22 p_26 hL30 ln_28 (by decide) (by decide)) (fun r M_28 hq => ?_)
    rw [nq_28] at hq
    obtain ⟨rfl, ms_28, pt_28, kp_28⟩ := hq
    rw [if_neg (fun c => hno ⟨hd_22, c⟩)]
    refine T_eq (pc' := 77) (L' := [(2, .int (nI s)), (0, .ref 373), (1, .int (nI s))]) (st' := [.int (nI 0)]) (M' := M_28) rfl rfl rfl rfl ?_
    refine N_if_ne_f (b := 0) d_Mo_answer_77 (tgt := 82) rfl (by omega) (by omega) ?_
    refine T_iconst (v := nI 1) d_Mo_answer_80 (by decide) ?_
    have p_31 := (BG.kp (p_26) kp_28 (by decide) (by decide))
    have nb_ : NB M_28 sd ch n m 0 := ⟨_, p_31, (show (upd w 66 (nI 0)) 66 = (nI 0) from rfl), (show (upd w 66 (nI 0)) 71 = sd from h71), (show (upd w 66 (nI 0)) 72 = (nI ch) from h72), (show (upd w 66 (nI 0)) 73 = (nI n) from h73), (show (upd w 66 (nI 0)) 74 = (nI m) from h74)⟩
    have p_32 := (ZR.kp ((ZR.kp (p_19) kp_22 (by decide))) kp_28 (by decide))
    exact T_ret d_Mo_answer_81 rfl (by first | decide | rfl) (by decide) (by decide) ⟨rfl, ms_28, nb_, p_32, (Kp.tr (Kp.tr (Kp.ex (Kp.ex (Kp.rf : Kp [373, 390, 391, 392, 393, 394, 427] M M) s_4 (by decide)) s_18 (by decide)) (Kp.mono kp_22 (by decide))) (Kp.mono kp_28 (by decide)))⟩
  · rw [if_neg hd_22]
    refine T_eq (pc' := 57) (L' := [(2, .int (nI s)), (0, .ref 373), (1, .int (nI s))]) (st' := [.int (nI 0)]) (M' := M_22) rfl rfl rfl rfl ?_
    refine N_if_eq_t (b := 0) d_Mo_answer_57 (tgt := 80) rfl (by omega) (by omega) ?_
    refine T_iconst (v := nI 1) d_Mo_answer_80 (by decide) ?_
    have p_33 := (BG.kp (p_20) kp_22 (by decide) (by decide))
    have nb_ : NB M_22 sd ch n m 0 := ⟨_, p_33, (show (upd w 66 (nI 0)) 66 = (nI 0) from rfl), (show (upd w 66 (nI 0)) 71 = sd from h71), (show (upd w 66 (nI 0)) 72 = (nI ch) from h72), (show (upd w 66 (nI 0)) 73 = (nI n) from h73), (show (upd w 66 (nI 0)) 74 = (nI m) from h74)⟩
    have p_34 := (ZR.kp (p_19) kp_22 (by decide))
    exact T_ret d_Mo_answer_81 rfl (by first | decide | rfl) (by decide) (by decide) ⟨rfl, ms_22, nb_, p_34, (Kp.tr (Kp.ex (Kp.ex (Kp.rf : Kp [373, 390, 391, 392, 393, 394, 427] M M) s_4 (by decide)) s_18 (by decide)) (Kp.mono kp_22 (by decide)))⟩
set_option maxRecDepth 100000 in
set_option maxHeartbeats 8000000 in
theorem p_Mo_answer_B {G : GX} {M : List va_E} {sd : Int32} {ch n m th : Nat} {s u xs : Nat} {us : Nat → Nat} {w1 w2 xp ss rc : Nat → List UInt8} {c2 m2 J P : List UInt8} {h1 h2 r1 en : Nat → Bool} (hs : s < 4) (hdue : (h1 s && !r1 s) = true) (hw : (w1 s).length = 96) (hu : u < 8) (hus : us s = u) (hd1 : dec (nB (w1 s) 0)) (hd2 : dec (nB (w1 s) 64)) (he : en u = true) (lrec : (rc u).length = 192) (hd3 : dec (nB (rc u) 0)) (hC : crd (enc (emul fD (dPt (nB (w1 s) 0)) (usK sd u)) ++ sl (chance sd (nI ch)) 0 32) (pub (ownK sd) ++ sl (rc u) 96 96) (sl (rc u) 32 64) = c2) (hX : scal (chance sd (nI (ch + 2))) = xs) (hM : (c2 ++ sl (chance sd (nI (ch + 1))) 0 32) ++ pub xs = m2) (hJ : (([] ++ enc (emul fD (dPt (nB (w1 s) 64)) xs)) ++ enc (emul fD (dPt (nB (w1 s) 64)) (ownK sd))) ++ enc (emul fD (dPt (nB (rc u) 0)) xs) = J) (hP : pre8 (rc u) (w1 s) (pub (ownK sd)) m2 = P) (hms : MS M) (hnb : NB M sd ch n m th) (z1 : ZR M 424 4 h1) (z4 : ZR M 427 4 r1) (hw1 : SL M 433 384 96 4 w1) (z2 : ZR M 425 4 h2) (hsu : NR M 419 4 us) (hse : IA M 402 64 (chance sd (nI 0))) (hsk : SC M 403 16 0 (ownK sd)) (hsp : IA M 404 32 (pub (ownK sd))) (hen : ZR M 405 8 en) (hrc : SL M 406 1536 192 8 rc) (hw2 : SL M 434 1280 320 4 w2) (hxp : SL M 436 256 64 4 xp) (hss : SL M 438 256 64 4 ss) : CT G mi_Mo_answer [.ref 373, .int (nI s)] M (fun r M' => r = some (.int (nI 0)) ∧ MS M' ∧ NB M' sd (ch + 3) n m 0 ∧ ZR M' 427 4 (updB r1 s true) ∧ ZR M' 425 4 (updB h2 s true) ∧ SL M' 434 1280 320 4 (updT w2 s (m2 ++ xSrv J P)) ∧ SL M' 436 256 64 4 (updT xp s (xCli J P)) ∧ SL M' 438 256 64 4 (updT ss s (xSess J P)) ∧ Kp anW M M') := by
  obtain ⟨w, h, h66, h71, h72, h73, h74⟩ := hnb
  refine CT.of (by decide) (Nat.le_of_ble_eq_true rfl) ?_
  show TT G mi_Mo_answer 0 [(0, .ref 373), (1, .int (nI s))] [] M 0 0 _
  have bA : bN (h1 s) = 1 := by revert hdue; cases h1 s <;> cases r1 s <;> decide
  have bB : bN (r1 s) = 0 := by revert hdue; cases h1 s <;> cases r1 s <;> decide
  have bE : bN (en u) = 1 := by rw [he]; rfl
  obtain ⟨R1, ro1, px1⟩ := SL.ro hw2 hs (by decide)
  obtain ⟨R2, ro2, px2⟩ := SL.ro hxp hs (by decide)
  obtain ⟨R3, ro3, px3⟩ := SL.ro hss hs (by decide)
  refine T_aload_n (v := .ref 373) d_Mo_answer_0 rfl (Or.inr ⟨_, rfl⟩) ?_
  refine T_iconst (v := nI 0) d_Mo_answer_1 (by decide) ?_
  obtain ⟨v_4, hov_4, hwv_4, hsv_4, hiv_4⟩ := id h
  refine N_put (e := (moO (upd v_4 66 (nI 0)))) d_Mo_answer_2 (fp_Mo_316 _) hov_4 (Nat.le_of_ble_eq_true rfl) ⟨rfl, rfl⟩ rfl (fun M_5 h_6 s_7 => ?_)
  have p_8 := BG.st (j := 66) (by decide) hwv_4 hsv_4 hiv_4 h_6 (Ex.kp s_7)
  refine T_iload_n d_Mo_answer_5 rfl ?_
  refine T_static (as := [.int (nI s)]) (rest := []) d_Mo_answer_6 rfl (jw_Mo_isSession.jo (by decide)) lm_Mo_545 jt_Mo_isSession rfl (Nat.le_of_ble_eq_true rfl) (by decide) (by decide) (b_Mo_isS_in hs) (fun r M_9 hq => ?_)
  obtain ⟨rfl, he⟩ := hq
  obtain rfl := he.symm
  refine T_eq (pc' := 9) (L' := [(0, .ref 373), (1, .int (nI s))]) (st' := [.int (nI 1)]) (M' := M_5) rfl rfl rfl rfl ?_
  refine N_if_ne_t (b := 1) d_Mo_answer_9 (tgt := 14) rfl (by omega) (by omega) ?_
  refine T_aload_n (v := .ref 373) d_Mo_answer_14 rfl (Or.inr ⟨_, rfl⟩) ?_
  obtain ⟨v_10, hov_10, hwv_10, hsv_10, hiv_10⟩ := id p_8
  refine T_getfield (v := .ref 424) d_Mo_answer_15 fg_Mo_392 hov_10 rfl ?_
  refine T_iload_n d_Mo_answer_18 rfl ?_
  have p_11 := (ZR.kp (z1) (Ex.kp s_7) (by decide))
  obtain ⟨f_12, h_13, h_14⟩ := id p_11
  refine N_zaload (k := s) (x := (nI ((bN (h1 s))))) d_Mo_answer_19 h_13 (by omega) (by decide) (h_14 s (by omega)) ?_
  refine N_if_eq_f (b := (bN (h1 s))) d_Mo_answer_20 (tgt := 32) rfl (by omega) (by omega) ?_
  refine T_aload_n (v := .ref 373) d_Mo_answer_23 rfl (Or.inr ⟨_, rfl⟩) ?_
  refine T_getfield (v := .ref 427) d_Mo_answer_24 fg_Mo_401 hov_10 rfl ?_
  refine T_iload_n d_Mo_answer_27 rfl ?_
  have p_15 := (ZR.kp (z4) (Ex.kp s_7) (by decide))
  obtain ⟨f_16, h_17, h_18⟩ := id p_15
  refine N_zaload (k := s) (x := (nI ((bN (r1 s))))) d_Mo_answer_28 h_17 (by omega) (by decide) (h_18 s (by omega)) ?_
  refine N_if_eq_t (b := (bN (r1 s))) d_Mo_answer_29 (tgt := 34) rfl (by omega) (by omega) ?_
  refine T_iload_n d_Mo_answer_34 rfl ?_
  refine T_istore_n (L' := [(2, .int (nI s)), (0, .ref 373), (1, .int (nI s))]) d_Mo_answer_35 (by decide) rfl ?_
  refine T_aload_n (v := .ref 373) d_Mo_answer_36 rfl (Or.inr ⟨_, rfl⟩) ?_
  refine T_getfield (v := .ref 427) d_Mo_answer_37 fg_Mo_401 hov_10 rfl ?_
  refine T_iload_n d_Mo_answer_40 rfl ?_
  refine T_iconst (v := nI 1) d_Mo_answer_41 (by decide) ?_
  refine N_zastore (k := s) d_Mo_answer_42 (by decide) h_17 (by omega) (by decide) rfl (fun M_19 h_20 s_21 => ?_)
  have p_22 := ZR.up (b := true) h_18 (by decide) h_20
  refine T_aload_n (v := .ref 373) d_Mo_answer_43 rfl (Or.inr ⟨_, rfl⟩) ?_
  refine T_bipush (v := nI 12) d_Mo_answer_44 (by decide) ?_
  refine T_aload_n (v := .ref 373) d_Mo_answer_46 rfl (Or.inr ⟨_, rfl⟩) ?_
  have p_23 := (BG.kp (p_8) (Ex.kp s_21) (by decide) (by decide))
  obtain ⟨v_24, hov_24, hwv_24, hsv_24, hiv_24⟩ := id p_23
  refine T_getfield (v := .ref 433) d_Mo_answer_47 fg_Mo_419 hov_24 rfl ?_
  refine T_bipush (v := nI 96) d_Mo_answer_50 (by decide) ?_
  refine T_iload_n d_Mo_answer_52 rfl ?_
  refine N_imul (a := s) (b := 96) (c := (96 * s)) d_Mo_answer_53 rfl ?_
  have p_26 := (SL.kp ((SL.kp (hw1) (Ex.kp s_7) (by decide))) (Ex.kp s_21) (by decide))
  obtain ⟨L27, hL27, eL27, sg27⟩ := SL.rd p_26 hs
  have nq_25 : nB L27 (96 * s) = nB (w1 s) 0 := nB_sg (b := 0) sg27 (by first | omega | (simp only [List.length_append, List.length_cons, List.length_nil, List.length_replicate, sl_len, be_len, sha_len, hmac_len, ex1_len, ex2_len, stretch_len, zer8_len, tC_len, tag1_len, bnN_len, xkp_len, enc_len, chance_len, lbF_len, str2_len, pub_len', sec8_len, mp_len, xSrv_len, xCli_len, xSess_len, seal8_len, mkU_len, lrec]; done) | (simp only [List.length_append, List.length_cons, List.length_nil, List.length_replicate, sl_len, be_len, sha_len, hmac_len, ex1_len, ex2_len, stretch_len, zer8_len, tC_len, tag1_len, bnN_len, xkp_len, enc_len, chance_len, lbF_len, str2_len, pub_len', sec8_len, mp_len, xSrv_len, xCli_len, xSess_len, seal8_len, mkU_len, lrec]; omega))
  have ln_25 : (96 * s) + 32 ≤ L27.length := by rw [eL27]; omega
  have p_28 := (MS.kp ((MS.kp (hms) (Ex.kp s_7) (by decide))) (Ex.kp s_21) (by decide))
  refine T_virtual (as := [.int (nI 12), .ref 433, .int (nI ((96 * s)))]) (rest := []) (b := 373) d_Mo_answer_54 rfl (jw_Mo_decode.jo (by decide)) lm_Mo_502 ji_Mo_decode js_Mo_decode hov_24 rfl rfl rfl (Nat.le_of_ble_eq_true rfl) (by decide) (by decide) (b_Mo_decode (at0 := (96 * s)) p_28 p_23 hL27 ln_25 (by decide) (by decide)) (fun r M_25 hq => ?_)
  rw [nq_25] at hq
  obtain ⟨rfl, ms_25, pt_25, kp_25⟩ := hq
  rw [if_pos hd1]
  have pd_25 := pt_25 hd1
  refine T_eq (pc' := 57) (L' := [(2, .int (nI s)), (0, .ref 373), (1, .int (nI s))]) (st' := [.int (nI 1)]) (M' := M_25) rfl rfl rfl rfl ?_
  refine N_if_eq_f (b := 1) d_Mo_answer_57 (tgt := 80) rfl (by omega) (by omega) ?_
  refine T_aload_n (v := .ref 373) d_Mo_answer_60 rfl (Or.inr ⟨_, rfl⟩) ?_
  refine T_bipush (v := nI 12) d_Mo_answer_61 (by decide) ?_
  refine T_aload_n (v := .ref 373) d_Mo_answer_63 rfl (Or.inr ⟨_, rfl⟩) ?_
  have p_29 := (BG.kp (p_23) kp_25 (by decide) (by decide))
  obtain ⟨v_30, hov_30, hwv_30, hsv_30, hiv_30⟩ := id p_29
  refine T_getfield (v := .ref 433) d_Mo_answer_64 fg_Mo_419 hov_30 rfl ?_
  refine T_bipush (v := nI 96) d_Mo_answer_67 (by decide) ?_
  refine T_iload_n d_Mo_answer_69 rfl ?_
  refine N_imul (a := s) (b := 96) (c := (96 * s)) d_Mo_answer_70 rfl ?_
  refine T_bipush (v := nI 64) d_Mo_answer_71 (by decide) ?_
  refine N_iadd (a := 64) (b := (96 * s)) (c := ((96 * s) + 64)) d_Mo_answer_73 rfl ?_
  have p_32 := (SL.kp (p_26) kp_25 (by decide))
  obtain ⟨L33, hL33, eL33, sg33⟩ := SL.rd p_32 hs
  have nq_31 : nB L33 ((96 * s) + 64) = nB (w1 s) 64 := nB_sg (b := 64) sg33 (by first | omega | (simp only [List.length_append, List.length_cons, List.length_nil, List.length_replicate, sl_len, be_len, sha_len, hmac_len, ex1_len, ex2_len, stretch_len, zer8_len, tC_len, tag1_len, bnN_len, xkp_len, enc_len, chance_len, lbF_len, str2_len, pub_len', sec8_len, mp_len, xSrv_len, xCli_len, xSess_len, seal8_len, mkU_len, lrec]; done) | (simp only [List.length_append, List.length_cons, List.length_nil, List.length_replicate, sl_len, be_len, sha_len, hmac_len, ex1_len, ex2_len, stretch_len, zer8_len, tC_len, tag1_len, bnN_len, xkp_len, enc_len, chance_len, lbF_len, str2_len, pub_len', sec8_len, mp_len, xSrv_len, xCli_len, xSess_len, seal8_len, mkU_len, lrec]; omega))
  have ln_31 : ((96 * s) + 64) + 32 ≤ L33.length := by rw [eL33]; omega
  refine T_virtual (as := [.int (nI 12), .ref 433, .int (nI (((96 * s) + 64)))]) (rest := []) (b := 373) d_Mo_answer_74 rfl (jw_Mo_decode.jo (by decide)) lm_Mo_502 ji_Mo_decode js_Mo_decode hov_30 rfl rfl rfl (Nat.le_of_ble_eq_true rfl) (by decide) (by decide) (b_Mo_decode (at0 := ((96 * s) + 64)) ms_25 p_29 hL33 ln_31 (by decide) (by decide)) (fun r M_31 hq => ?_)
  rw [nq_31] at hq
  obtain ⟨rfl, ms_31, pt_31, kp_31⟩ := hq
  rw [if_pos hd2]
  have pd_31 := pt_31 hd2
  refine T_eq (pc' := 77) (L' := [(2, .int (nI s)), (0, .ref 373), (1, .int (nI s))]) (st' := [.int (nI 1)]) (M' := M_31) rfl rfl rfl rfl ?_
  refine N_if_ne_t (b := 1) d_Mo_answer_77 (tgt := 82) rfl (by omega) (by omega) ?_
  refine T_aload_n (v := .ref 373) d_Mo_answer_82 rfl (Or.inr ⟨_, rfl⟩) ?_
  have p_34 := (BG.kp (p_29) kp_31 (by decide) (by decide))
  obtain ⟨v_35, hov_35, hwv_35, hsv_35, hiv_35⟩ := id p_34
  refine T_getfield (v := .ref 419) d_Mo_answer_83 fg_Mo_377 hov_35 rfl ?_
  refine T_iload_n d_Mo_answer_86 rfl ?_
  have p_36 := (NR.kp ((NR.kp ((NR.kp ((NR.kp (hsu) (Ex.kp s_7) (by decide))) (Ex.kp s_21) (by decide))) kp_25 (by decide))) kp_31 (by decide))
  obtain ⟨f_37, h_38, h_39⟩ := id p_36
  refine N_iaload (k := s) (x := (nI ((us s)))) d_Mo_answer_87 h_38 (by omega) (by decide) (h_39 s (by omega)) ?_
  refine N_topi (y := (nI u)) (by rw [hus]) ?_
  refine T_istore_n (L' := [(3, .int (nI u)), (2, .int (nI s)), (0, .ref 373), (1, .int (nI s))]) d_Mo_answer_88 (by decide) rfl ?_
  refine T_iconst (v := nI 0) d_Mo_answer_89 (by decide) ?_
  refine T_istore (L' := [(4, .int (nI 0)), (3, .int (nI u)), (2, .int (nI s)), (0, .ref 373), (1, .int (nI s))]) d_Mo_answer_90 (by decide) rfl ?_
  have p_40 := (SL.kp ((SL.kp ((SL.kp ((SL.kp (hrc) (Ex.kp s_7) (by decide))) (Ex.kp s_21) (by decide))) kp_25 (by decide))) kp_31 (by decide))
  obtain ⟨L41, hL41, eL41, sg41⟩ := SL.rd p_40 hu
  refine T_sub (L' := [(4, .int (nI 0)), (3, .int (nI u)), (2, .int (nI s)), (1, .int (nI s)), (0, .ref 373)]) (fun q hq => by simp only [List.mem_cons, List.not_mem_nil, or_false] at hq ⊢; rcases hq with rfl | rfl | rfl | rfl | rfl <;> simp) ?_
  refine an_r G p_34 hL41 (by decide) (by rw [eL41]; omega) (by decide) (fun Mc42 hI => ?_) 192 0 M_31 (Nat.zero_add _) ⟨by rw [sl_zero]; exact (MS.ia ms_31 (p := 407) (n := 192) (by decide)), Kp.rf⟩
  obtain ⟨hd42, hK42⟩ := hI
  have ms42 := MS.wi ms_31 hK42 hd42.iq (by decide) (by decide) (by decide)
  have p_43 : IA Mc42 407 192 (rc u) := (by have g := hd42; rw [show sl L41 (192 * u) 192 = (rc u) from (sl_sg (b := 0) sg41 (by rw [lrec]; decide)).trans (sl64 lrec)] at g; exact g)
  refine T_aload_n (v := .ref 373) d_Mo_answer_126 rfl (Or.inr ⟨_, rfl⟩) ?_
  have p_44 := (BG.kp (p_34) hK42 (by decide) (by decide))
  obtain ⟨v_45, hov_45, hwv_45, hsv_45, hiv_45⟩ := id p_44
  refine T_getfield (v := .ref 405) d_Mo_answer_127 fg_Mo_328 hov_45 rfl ?_
  refine T_iload_n d_Mo_answer_130 rfl ?_
  have p_46 := (ZR.kp ((ZR.kp ((ZR.kp ((ZR.kp ((ZR.kp (hen) (Ex.kp s_7) (by decide))) (Ex.kp s_21) (by decide))) kp_25 (by decide))) kp_31 (by decide))) hK42 (by decide))
  obtain ⟨f_47, h_48, h_49⟩ := id p_46
  refine N_zaload (k := u) (x := (nI ((bN (en u))))) d_Mo_answer_131 h_48 (by omega) (by decide) (h_49 u (by omega)) ?_
  refine N_if_ne_t (b := (bN (en u))) d_Mo_answer_132 (tgt := 211) rfl (by omega) (by omega) ?_
  refine T_aload_n (v := .ref 373) d_Mo_answer_211 rfl (Or.inr ⟨_, rfl⟩) ?_
  refine T_iload_n d_Mo_answer_212 rfl ?_
  have p_50 := (IA.kp ((IA.kp ((IA.kp ((IA.kp ((IA.kp (hse) (Ex.kp s_7) (by decide))) (Ex.kp s_21) (by decide))) kp_25 (by decide))) kp_31 (by decide))) hK42 (by decide))
  refine T_virtual (as := [.int (nI u)]) (rest := []) (b := 373) d_Mo_answer_213 rfl (jw_Mo_userKey.jo (by decide)) lm_Mo_530 ji_Mo_userKey js_Mo_userKey hov_45 rfl rfl rfl (Nat.le_of_ble_eq_true rfl) (by decide) (by decide) (b_Mo_userKey (u := u) ms42 p_44 p_50) (fun r M_51 hq => ?_)
  obtain ⟨rfl, p_51_0, p_51_1, p_51_2, kp_51⟩ := hq
  refine T_eq (pc' := 216) (L' := [(3, .int (nI u)), (2, .int (nI s)), (1, .int (nI s)), (0, .ref 373)]) (st' := []) (M' := M_51) rfl rfl rfl rfl ?_
  refine T_aload_n (v := .ref 373) d_Mo_answer_216 rfl (Or.inr ⟨_, rfl⟩) ?_
  refine T_bipush (v := nI 12) d_Mo_answer_217 (by decide) ?_
  refine T_aload_n (v := .ref 373) d_Mo_answer_219 rfl (Or.inr ⟨_, rfl⟩) ?_
  obtain ⟨v_52, hov_52, hwv_52, hsv_52, hiv_52⟩ := id p_51_1
  refine T_getfield (v := .ref 433) d_Mo_answer_220 fg_Mo_419 hov_52 rfl ?_
  refine T_bipush (v := nI 96) d_Mo_answer_223 (by decide) ?_
  refine T_iload_n d_Mo_answer_225 rfl ?_
  refine N_imul (a := s) (b := 96) (c := (96 * s)) d_Mo_answer_226 rfl ?_
  have p_54 := (SL.kp ((SL.kp ((SL.kp (p_32) kp_31 (by decide))) hK42 (by decide))) kp_51 (by decide))
  obtain ⟨L55, hL55, eL55, sg55⟩ := SL.rd p_54 hs
  have nq_53 : nB L55 (96 * s) = nB (w1 s) 0 := nB_sg (b := 0) sg55 (by first | omega | (simp only [List.length_append, List.length_cons, List.length_nil, List.length_replicate, sl_len, be_len, sha_len, hmac_len, ex1_len, ex2_len, stretch_len, zer8_len, tC_len, tag1_len, bnN_len, xkp_len, enc_len, chance_len, lbF_len, str2_len, pub_len', sec8_len, mp_len, xSrv_len, xCli_len, xSess_len, seal8_len, mkU_len, lrec]; done) | (simp only [List.length_append, List.length_cons, List.length_nil, List.length_replicate, sl_len, be_len, sha_len, hmac_len, ex1_len, ex2_len, stretch_len, zer8_len, tC_len, tag1_len, bnN_len, xkp_len, enc_len, chance_len, lbF_len, str2_len, pub_len', sec8_len, mp_len, xSrv_len, xCli_len, xSess_len, seal8_len, mkU_len, lrec]; omega))
  have ln_53 : (96 * s) + 32 ≤ L55.length := by rw [eL55]; omega
  refine T_virtual (as := [.int (nI 12), .ref 433, .int (nI ((96 * s)))]) (rest := []) (b := 373) d_Mo_answer_227 rfl (jw_Mo_decode.jo (by decide)) lm_Mo_502 ji_Mo_decode js_Mo_decode hov_52 rfl rfl rfl (Nat.le_of_ble_eq_true rfl) (by decide) (by decide) (b_Mo_decode (at0 := (96 * s)) p_51_0 p_51_1 hL55 ln_53 (by decide) (by decide)) (fun r M_53 hq => ?_)
  rw [nq_53] at hq
  obtain ⟨rfl, ms_53, pt_53, kp_53⟩ := hq
  rw [if_pos hd1]
  have pd_53 := pt_53 hd1
  refine T_eq (pc' := 230) (L' := [(3, .int (nI u)), (2, .int (nI s)), (1, .int (nI s)), (0, .ref 373)]) (st' := [.int (nI 1)]) (M' := M_53) rfl rfl rfl rfl ?_
  refine T_pop d_Mo_answer_230 rfl ?_
  refine T_aload_n (v := .ref 373) d_Mo_answer_231 rfl (Or.inr ⟨_, rfl⟩) ?_
  refine T_bipush (v := nI 12) d_Mo_answer_232 (by decide) ?_
  refine T_bipush (v := nI 12) d_Mo_answer_234 (by decide) ?_
  have p_56 := (BG.kp (p_51_1) kp_53 (by decide) (by decide))
  have p_57 := (SC.kp (p_51_2) kp_53 (by decide))
  obtain ⟨v_59, hov_59, hwv_59, hsv_59, hiv_59⟩ := id p_56
  refine T_virtual (as := [.int (nI 12), .int (nI 12)]) (rest := []) (b := 373) d_Mo_answer_236 rfl (jw_Mo_timesPoint.jo (by decide)) lm_Mo_290 ji_Mo_timesPoint js_Mo_timesPoint hov_59 rfl rfl rfl (Nat.le_of_ble_eq_true rfl) (by decide) (by decide) (b_Mo_times_12 ms_53 p_56 pd_53 p_57 (dPt_on hd1) (Nat.lt_trans (keyN_lt _ _) (by decide))) (fun r M_58 hq => ?_)
  obtain ⟨rfl, p_58_0, p_58_1, kp_58⟩ := hq
  refine T_eq (pc' := 239) (L' := [(3, .int (nI u)), (2, .int (nI s)), (1, .int (nI s)), (0, .ref 373)]) (st' := []) (M' := M_58) rfl rfl rfl rfl ?_
  refine T_aload_n (v := .ref 373) d_Mo_answer_239 rfl (Or.inr ⟨_, rfl⟩) ?_
  refine T_bipush (v := nI 12) d_Mo_answer_240 (by decide) ?_
  have p_60 := (BG.kp (p_56) kp_58 (by decide) (by decide))
  obtain ⟨v_62, hov_62, hwv_62, hsv_62, hiv_62⟩ := id p_60
  refine T_virtual (as := [.int (nI 12)]) (rest := []) (b := 373) d_Mo_answer_242 rfl (jw_Mo_code.jo (by decide)) lm_Mo_293 ji_Mo_code js_Mo_code hov_62 rfl rfl rfl (Nat.le_of_ble_eq_true rfl) (by decide) (by decide) (b_Mo_code_12 p_58_0 p_60 p_58_1) (fun r M_61 hq => ?_)
  obtain ⟨rfl, p_61_0, p_61_1, p_61_2, kp_61⟩ := hq
  refine T_eq (pc' := 245) (L' := [(3, .int (nI u)), (2, .int (nI s)), (1, .int (nI s)), (0, .ref 373)]) (st' := []) (M' := M_61) rfl rfl rfl rfl ?_
  refine T_sipush (v := nI 320) d_Mo_answer_245 (by decide) ?_
  refine T_iload_n d_Mo_answer_248 rfl ?_
  refine N_imul (a := s) (b := 320) (c := (320 * s)) d_Mo_answer_249 rfl ?_
  refine T_istore (L' := [(4, .int (nI ((320 * s)))), (3, .int (nI u)), (2, .int (nI s)), (1, .int (nI s)), (0, .ref 373)]) d_Mo_answer_250 (by decide) rfl ?_
  refine T_iconst (v := nI 0) d_Mo_answer_252 (by decide) ?_
  refine T_istore (L' := [(5, .int (nI 0)), (4, .int (nI ((320 * s)))), (3, .int (nI u)), (2, .int (nI s)), (1, .int (nI s)), (0, .ref 373)]) d_Mo_answer_253 (by decide) rfl ?_
  have p_63 := (BG.kp (p_60) kp_61 (by decide) (by decide))
  have p_64 := (RO.kp ((RO.kp ((RO.kp ((RO.kp ((RO.kp ((RO.kp ((RO.kp ((RO.kp ((RO.kp (ro1) (Ex.kp s_7) (by decide))) (Ex.kp s_21) (by decide))) kp_25 (by decide))) kp_31 (by decide))) hK42 (by decide))) kp_51 (by decide))) kp_53 (by decide))) kp_58 (by decide))) kp_61 (by decide))
  refine an_a G (l0 := []) p_63 p_61_2 (by first | omega | (simp only [List.length_append, List.length_cons, List.length_nil, List.length_replicate, sl_len, be_len, sha_len, hmac_len, ex1_len, ex2_len, stretch_len, zer8_len, tC_len, tag1_len, bnN_len, xkp_len, enc_len, chance_len, lbF_len, str2_len, pub_len', sec8_len, mp_len, xSrv_len, xCli_len, xSess_len, seal8_len, mkU_len, lrec]; done) | (simp only [List.length_append, List.length_cons, List.length_nil, List.length_replicate, sl_len, be_len, sha_len, hmac_len, ex1_len, ex2_len, stretch_len, zer8_len, tC_len, tag1_len, bnN_len, xkp_len, enc_len, chance_len, lbF_len, str2_len, pub_len', sec8_len, mp_len, xSrv_len, xCli_len, xSess_len, seal8_len, mkU_len, lrec]; omega)) (by omega) (by first | omega | (simp only [List.length_append, List.length_cons, List.length_nil, List.length_replicate, sl_len, be_len, sha_len, hmac_len, ex1_len, ex2_len, stretch_len, zer8_len, tC_len, tag1_len, bnN_len, xkp_len, enc_len, chance_len, lbF_len, str2_len, pub_len', sec8_len, mp_len, xSrv_len, xCli_len, xSess_len, seal8_len, mkU_len, lrec]; done) | (simp only [List.length_append, List.length_cons, List.length_nil, List.length_replicate, sl_len, be_len, sha_len, hmac_len, ex1_len, ex2_len, stretch_len, zer8_len, tC_len, tag1_len, bnN_len, xkp_len, enc_len, chance_len, lbF_len, str2_len, pub_len', sec8_len, mp_len, xSrv_len, xCli_len, xSess_len, seal8_len, mkU_len, lrec]; omega)) (fun Mr65 hI => ?_) 32 0 M_61 (Nat.zero_add _) ⟨by rw [mp_0, List.append_nil]; exact p_64, Kp.rf⟩
  obtain ⟨hd65, hK65⟩ := hI
  have hr65 : RO Mr65 434 1280 R1 (320 * s) 320 (sl (enc (emul fD (dPt (nB (w1 s) 0)) (usK sd u))) 0 32) := hd65
  have p_66 : RO Mr65 434 1280 R1 (320 * s) 320 (enc (emul fD (dPt (nB (w1 s) 0)) (usK sd u))) := (by have g := hr65; rw [sl64 (enc_len _)] at g; exact g)
  refine T_aload_n (v := .ref 373) d_Mo_answer_285 rfl (Or.inr ⟨_, rfl⟩) ?_
  have p_67 := (MS.kp (p_61_0) hK65 (by decide))
  have p_68 := (BG.kp (p_63) hK65 (by decide) (by decide))
  obtain ⟨v_70, hov_70, hwv_70, hsv_70, hiv_70⟩ := id p_68
  refine T_virtual (as := []) (rest := []) (b := 373) d_Mo_answer_286 rfl (jw_Mo_chance.jo (by decide)) lm_Mo_304 ji_Mo_chance js_Mo_chance hov_70 rfl rfl rfl (Nat.le_of_ble_eq_true rfl) (by decide) (by decide) (b_Mo_chance p_67 p_68 (show (upd w 66 (nI 0)) 71 = sd from h71) (show (upd w 66 (nI 0)) 72 = nI ch from h72)) (fun r M_69 hq => ?_)
  obtain ⟨rfl, p_69_0, p_69_1, p_69_2, kp_69⟩ := hq
  refine T_eq (pc' := 289) (L' := [(4, .int (nI ((320 * s)))), (3, .int (nI u)), (2, .int (nI s)), (1, .int (nI s)), (0, .ref 373)]) (st' := []) (M' := M_69) rfl rfl rfl rfl ?_
  refine T_iconst (v := nI 0) d_Mo_answer_289 (by decide) ?_
  refine T_istore (L' := [(5, .int (nI 0)), (4, .int (nI ((320 * s)))), (3, .int (nI u)), (2, .int (nI s)), (1, .int (nI s)), (0, .ref 373)]) d_Mo_answer_290 (by decide) rfl ?_
  have p_71 := (RO.kp (p_66) kp_69 (by decide))
  refine an_b G (l0 := (enc (emul fD (dPt (nB (w1 s) 0)) (usK sd u)))) p_69_1 p_69_2 (by first | omega | (simp only [List.length_append, List.length_cons, List.length_nil, List.length_replicate, sl_len, be_len, sha_len, hmac_len, ex1_len, ex2_len, stretch_len, zer8_len, tC_len, tag1_len, bnN_len, xkp_len, enc_len, chance_len, lbF_len, str2_len, pub_len', sec8_len, mp_len, xSrv_len, xCli_len, xSess_len, seal8_len, mkU_len, lrec]; done) | (simp only [List.length_append, List.length_cons, List.length_nil, List.length_replicate, sl_len, be_len, sha_len, hmac_len, ex1_len, ex2_len, stretch_len, zer8_len, tC_len, tag1_len, bnN_len, xkp_len, enc_len, chance_len, lbF_len, str2_len, pub_len', sec8_len, mp_len, xSrv_len, xCli_len, xSess_len, seal8_len, mkU_len, lrec]; omega)) (by omega) (by first | omega | (simp only [List.length_append, List.length_cons, List.length_nil, List.length_replicate, sl_len, be_len, sha_len, hmac_len, ex1_len, ex2_len, stretch_len, zer8_len, tC_len, tag1_len, bnN_len, xkp_len, enc_len, chance_len, lbF_len, str2_len, pub_len', sec8_len, mp_len, xSrv_len, xCli_len, xSess_len, seal8_len, mkU_len, lrec]; done) | (simp only [List.length_append, List.length_cons, List.length_nil, List.length_replicate, sl_len, be_len, sha_len, hmac_len, ex1_len, ex2_len, stretch_len, zer8_len, tC_len, tag1_len, bnN_len, xkp_len, enc_len, chance_len, lbF_len, str2_len, pub_len', sec8_len, mp_len, xSrv_len, xCli_len, xSess_len, seal8_len, mkU_len, lrec]; omega)) (fun Mr72 hI => ?_) 32 0 M_69 (Nat.zero_add _) ⟨by rw [mp_0, List.append_nil]; exact p_71, Kp.rf⟩
  obtain ⟨hd72, hK72⟩ := hI
  have hr72 : RO Mr72 434 1280 R1 (320 * s) 320 ((enc (emul fD (dPt (nB (w1 s) 0)) (usK sd u))) ++ (sl (chance sd (nI ch)) 0 32)) := hd72
  refine T_aload_n (v := .ref 373) d_Mo_answer_325 rfl (Or.inr ⟨_, rfl⟩) ?_
  refine T_aload_n (v := .ref 373) d_Mo_answer_326 rfl (Or.inr ⟨_, rfl⟩) ?_
  have p_73 := (BG.kp (p_69_1) hK72 (by decide) (by decide))
  obtain ⟨v_74, hov_74, hwv_74, hsv_74, hiv_74⟩ := id p_73
  refine T_getfield (v := .ref 407) d_Mo_answer_327 fg_Mo_335 hov_74 rfl ?_
  refine T_bipush (v := nI 32) d_Mo_answer_330 (by decide) ?_
  refine T_aload_n (v := .ref 373) d_Mo_answer_332 rfl (Or.inr ⟨_, rfl⟩) ?_
  refine T_getfield (v := .ref 434) d_Mo_answer_333 fg_Mo_422 hov_74 rfl ?_
  refine T_iload d_Mo_answer_336 rfl ?_
  refine T_bipush (v := nI 32) d_Mo_answer_338 (by decide) ?_
  refine N_iadd (a := 32) (b := (320 * s)) (c := ((320 * s) + 32)) d_Mo_answer_340 rfl ?_
  have p_75 := (IA.kp ((IA.kp ((IA.kp ((IA.kp ((IA.kp ((IA.kp ((IA.kp (p_43) kp_51 (by decide))) kp_53 (by decide))) kp_58 (by decide))) kp_61 (by decide))) hK65 (by decide))) kp_69 (by decide))) hK72 (by decide))
  obtain ⟨L76, hL76, eL76, _, sg76, _, _⟩ := id hr72
  have le_L76 : ((320 * s) + 32) + 32 ≤ L76.length := by rw [eL76]; omega
  have p_77 := (MS.kp (p_69_0) hK72 (by decide))
  refine T_virtual (as := [.ref 407, .int (nI 32), .ref 434, .int (nI (((320 * s) + 32)))]) (rest := []) (b := 373) d_Mo_answer_341 rfl (jw_Mo_padOf.jo (by decide)) lm_Mo_578 ji_Mo_padOf js_Mo_padOf hov_74 rfl rfl rfl (Nat.le_of_ble_eq_true rfl) (by decide) (by decide) (b_Mo_padOf (at0 := 32) (a1 := ((320 * s) + 32)) p_77 p_73 p_75 hL76 (by first | omega | (simp only [List.length_append, List.length_cons, List.length_nil, List.length_replicate, sl_len, be_len, sha_len, hmac_len, ex1_len, ex2_len, stretch_len, zer8_len, tC_len, tag1_len, bnN_len, xkp_len, enc_len, chance_len, lbF_len, str2_len, pub_len', sec8_len, mp_len, xSrv_len, xCli_len, xSess_len, seal8_len, mkU_len, lrec]; done) | (simp only [List.length_append, List.length_cons, List.length_nil, List.length_replicate, sl_len, be_len, sha_len, hmac_len, ex1_len, ex2_len, stretch_len, zer8_len, tC_len, tag1_len, bnN_len, xkp_len, enc_len, chance_len, lbF_len, str2_len, pub_len', sec8_len, mp_len, xSrv_len, xCli_len, xSess_len, seal8_len, mkU_len, lrec]; omega)) (by decide) le_L76 (by decide) (by decide) (by decide)) (fun r M_78 hq => ?_)
  obtain ⟨rfl, p_78_0, p_78_1, p_78_2, kp_78⟩ := hq
  refine T_eq (pc' := 344) (L' := [(4, .int (nI ((320 * s)))), (3, .int (nI u)), (2, .int (nI s)), (1, .int (nI s)), (0, .ref 373)]) (st' := []) (M' := M_78) rfl rfl rfl rfl ?_
  have p_79 : IA M_78 448 128 (ex1 (sl (rc u) 32 64) (sl ((enc (emul fD (dPt (nB (w1 s) 0)) (usK sd u))) ++ (sl (chance sd (nI ch)) 0 32)) 32 32 ++ W15) ++ ex2 (sl (rc u) 32 64) (sl ((enc (emul fD (dPt (nB (w1 s) 0)) (usK sd u))) ++ (sl (chance sd (nI ch)) 0 32)) 32 32 ++ W15)) := (by have g := p_78_2; rw [show sl L76 ((320 * s) + 32) 32 = sl ((enc (emul fD (dPt (nB (w1 s) 0)) (usK sd u))) ++ (sl (chance sd (nI ch)) 0 32)) 32 32 from sl_sg (b := 32) sg76 (by first | omega | (simp only [List.length_append, List.length_cons, List.length_nil, List.length_replicate, sl_len, be_len, sha_len, hmac_len, ex1_len, ex2_len, stretch_len, zer8_len, tC_len, tag1_len, bnN_len, xkp_len, enc_len, chance_len, lbF_len, str2_len, pub_len', sec8_len, mp_len, xSrv_len, xCli_len, xSess_len, seal8_len, mkU_len, lrec]; done) | (simp only [List.length_append, List.length_cons, List.length_nil, List.length_replicate, sl_len, be_len, sha_len, hmac_len, ex1_len, ex2_len, stretch_len, zer8_len, tC_len, tag1_len, bnN_len, xkp_len, enc_len, chance_len, lbF_len, str2_len, pub_len', sec8_len, mp_len, xSrv_len, xCli_len, xSess_len, seal8_len, mkU_len, lrec]; omega))] at g; exact g)
  refine T_iconst (v := nI 0) d_Mo_answer_344 (by decide) ?_
  refine T_istore (L' := [(5, .int (nI 0)), (4, .int (nI ((320 * s)))), (3, .int (nI u)), (2, .int (nI s)), (1, .int (nI s)), (0, .ref 373)]) d_Mo_answer_345 (by decide) rfl ?_
  have p_80 := (RO.kp (hr72) kp_78 (by decide))
  have p_82 := (IA.kp ((IA.kp ((IA.kp ((IA.kp ((IA.kp ((IA.kp ((IA.kp ((IA.kp ((IA.kp ((IA.kp ((IA.kp ((IA.kp ((IA.kp (hsp) (Ex.kp s_7) (by decide))) (Ex.kp s_21) (by decide))) kp_25 (by decide))) kp_31 (by decide))) hK42 (by decide))) kp_51 (by decide))) kp_53 (by decide))) kp_58 (by decide))) kp_61 (by decide))) hK65 (by decide))) kp_69 (by decide))) hK72 (by decide))) kp_78 (by decide))
  refine an_c G (l0 := ((enc (emul fD (dPt (nB (w1 s) 0)) (usK sd u))) ++ (sl (chance sd (nI ch)) 0 32))) p_78_1 p_82 p_79 (by first | omega | (simp only [List.length_append, List.length_cons, List.length_nil, List.length_replicate, sl_len, be_len, sha_len, hmac_len, ex1_len, ex2_len, stretch_len, zer8_len, tC_len, tag1_len, bnN_len, xkp_len, enc_len, chance_len, lbF_len, str2_len, pub_len', sec8_len, mp_len, xSrv_len, xCli_len, xSess_len, seal8_len, mkU_len, lrec]; done) | (simp only [List.length_append, List.length_cons, List.length_nil, List.length_replicate, sl_len, be_len, sha_len, hmac_len, ex1_len, ex2_len, stretch_len, zer8_len, tC_len, tag1_len, bnN_len, xkp_len, enc_len, chance_len, lbF_len, str2_len, pub_len', sec8_len, mp_len, xSrv_len, xCli_len, xSess_len, seal8_len, mkU_len, lrec]; omega)) (by first | omega | (simp only [List.length_append, List.length_cons, List.length_nil, List.length_replicate, sl_len, be_len, sha_len, hmac_len, ex1_len, ex2_len, stretch_len, zer8_len, tC_len, tag1_len, bnN_len, xkp_len, enc_len, chance_len, lbF_len, str2_len, pub_len', sec8_len, mp_len, xSrv_len, xCli_len, xSess_len, seal8_len, mkU_len, lrec]; done) | (simp only [List.length_append, List.length_cons, List.length_nil, List.length_replicate, sl_len, be_len, sha_len, hmac_len, ex1_len, ex2_len, stretch_len, zer8_len, tC_len, tag1_len, bnN_len, xkp_len, enc_len, chance_len, lbF_len, str2_len, pub_len', sec8_len, mp_len, xSrv_len, xCli_len, xSess_len, seal8_len, mkU_len, lrec]; omega)) (by omega) (by first | omega | (simp only [List.length_append, List.length_cons, List.length_nil, List.length_replicate, sl_len, be_len, sha_len, hmac_len, ex1_len, ex2_len, stretch_len, zer8_len, tC_len, tag1_len, bnN_len, xkp_len, enc_len, chance_len, lbF_len, str2_len, pub_len', sec8_len, mp_len, xSrv_len, xCli_len, xSess_len, seal8_len, mkU_len, lrec]; done) | (simp only [List.length_append, List.length_cons, List.length_nil, List.length_replicate, sl_len, be_len, sha_len, hmac_len, ex1_len, ex2_len, stretch_len, zer8_len, tC_len, tag1_len, bnN_len, xkp_len, enc_len, chance_len, lbF_len, str2_len, pub_len', sec8_len, mp_len, xSrv_len, xCli_len, xSess_len, seal8_len, mkU_len, lrec]; omega)) (fun Mr81 hI => ?_) 32 0 M_78 (Nat.zero_add _) ⟨by rw [mp_0, List.append_nil]; exact p_80, Kp.rf⟩
  obtain ⟨hd81, hK81⟩ := hI
  have hr81 : RO Mr81 434 1280 R1 (320 * s) 320 (((enc (emul fD (dPt (nB (w1 s) 0)) (usK sd u))) ++ (sl (chance sd (nI ch)) 0 32)) ++ (mp (fun i => gd (pub (ownK sd)) (0 + i) ^^^ gd (ex1 (sl (rc u) 32 64) (sl ((enc (emul fD (dPt (nB (w1 s) 0)) (usK sd u))) ++ (sl (chance sd (nI ch)) 0 32)) 32 32 ++ W15) ++ ex2 (sl (rc u) 32 64) (sl ((enc (emul fD (dPt (nB (w1 s) 0)) (usK sd u))) ++ (sl (chance sd (nI ch)) 0 32)) 32 32 ++ W15)) (0 + i)) 32)) := hd81
  refine T_iconst (v := nI 0) d_Mo_answer_388 (by decide) ?_
  refine T_istore (L' := [(5, .int (nI 0)), (4, .int (nI ((320 * s)))), (3, .int (nI u)), (2, .int (nI s)), (1, .int (nI s)), (0, .ref 373)]) d_Mo_answer_389 (by decide) rfl ?_
  have p_83 := (BG.kp (p_78_1) hK81 (by decide) (by decide))
  have p_85 := (IA.kp ((IA.kp (p_75) kp_78 (by decide))) hK81 (by decide))
  have p_86 := (IA.kp (p_79) hK81 (by decide))
  refine an_d G (l0 := (((enc (emul fD (dPt (nB (w1 s) 0)) (usK sd u))) ++ (sl (chance sd (nI ch)) 0 32)) ++ (mp (fun i => gd (pub (ownK sd)) (0 + i) ^^^ gd (ex1 (sl (rc u) 32 64) (sl ((enc (emul fD (dPt (nB (w1 s) 0)) (usK sd u))) ++ (sl (chance sd (nI ch)) 0 32)) 32 32 ++ W15) ++ ex2 (sl (rc u) 32 64) (sl ((enc (emul fD (dPt (nB (w1 s) 0)) (usK sd u))) ++ (sl (chance sd (nI ch)) 0 32)) 32 32 ++ W15)) (0 + i)) 32))) p_83 p_85 p_86 (by first | omega | (simp only [List.length_append, List.length_cons, List.length_nil, List.length_replicate, sl_len, be_len, sha_len, hmac_len, ex1_len, ex2_len, stretch_len, zer8_len, tC_len, tag1_len, bnN_len, xkp_len, enc_len, chance_len, lbF_len, str2_len, pub_len', sec8_len, mp_len, xSrv_len, xCli_len, xSess_len, seal8_len, mkU_len, lrec]; done) | (simp only [List.length_append, List.length_cons, List.length_nil, List.length_replicate, sl_len, be_len, sha_len, hmac_len, ex1_len, ex2_len, stretch_len, zer8_len, tC_len, tag1_len, bnN_len, xkp_len, enc_len, chance_len, lbF_len, str2_len, pub_len', sec8_len, mp_len, xSrv_len, xCli_len, xSess_len, seal8_len, mkU_len, lrec]; omega)) (by first | omega | (simp only [List.length_append, List.length_cons, List.length_nil, List.length_replicate, sl_len, be_len, sha_len, hmac_len, ex1_len, ex2_len, stretch_len, zer8_len, tC_len, tag1_len, bnN_len, xkp_len, enc_len, chance_len, lbF_len, str2_len, pub_len', sec8_len, mp_len, xSrv_len, xCli_len, xSess_len, seal8_len, mkU_len, lrec]; done) | (simp only [List.length_append, List.length_cons, List.length_nil, List.length_replicate, sl_len, be_len, sha_len, hmac_len, ex1_len, ex2_len, stretch_len, zer8_len, tC_len, tag1_len, bnN_len, xkp_len, enc_len, chance_len, lbF_len, str2_len, pub_len', sec8_len, mp_len, xSrv_len, xCli_len, xSess_len, seal8_len, mkU_len, lrec]; omega)) (by omega) (by first | omega | (simp only [List.length_append, List.length_cons, List.length_nil, List.length_replicate, sl_len, be_len, sha_len, hmac_len, ex1_len, ex2_len, stretch_len, zer8_len, tC_len, tag1_len, bnN_len, xkp_len, enc_len, chance_len, lbF_len, str2_len, pub_len', sec8_len, mp_len, xSrv_len, xCli_len, xSess_len, seal8_len, mkU_len, lrec]; done) | (simp only [List.length_append, List.length_cons, List.length_nil, List.length_replicate, sl_len, be_len, sha_len, hmac_len, ex1_len, ex2_len, stretch_len, zer8_len, tC_len, tag1_len, bnN_len, xkp_len, enc_len, chance_len, lbF_len, str2_len, pub_len', sec8_len, mp_len, xSrv_len, xCli_len, xSess_len, seal8_len, mkU_len, lrec]; omega)) (fun Mr84 hI => ?_) 96 0 Mr81 (Nat.zero_add _) ⟨by rw [mp_0, List.append_nil]; exact hr81, Kp.rf⟩
  obtain ⟨hd84, hK84⟩ := hI
  have hr84 : RO Mr84 434 1280 R1 (320 * s) 320 ((((enc (emul fD (dPt (nB (w1 s) 0)) (usK sd u))) ++ (sl (chance sd (nI ch)) 0 32)) ++ (mp (fun i => gd (pub (ownK sd)) (0 + i) ^^^ gd (ex1 (sl (rc u) 32 64) (sl ((enc (emul fD (dPt (nB (w1 s) 0)) (usK sd u))) ++ (sl (chance sd (nI ch)) 0 32)) 32 32 ++ W15) ++ ex2 (sl (rc u) 32 64) (sl ((enc (emul fD (dPt (nB (w1 s) 0)) (usK sd u))) ++ (sl (chance sd (nI ch)) 0 32)) 32 32 ++ W15)) (0 + i)) 32)) ++ (mp (fun i => gd (rc u) (96 + i) ^^^ gd (ex1 (sl (rc u) 32 64) (sl ((enc (emul fD (dPt (nB (w1 s) 0)) (usK sd u))) ++ (sl (chance sd (nI ch)) 0 32)) 32 32 ++ W15) ++ ex2 (sl (rc u) 32 64) (sl ((enc (emul fD (dPt (nB (w1 s) 0)) (usK sd u))) ++ (sl (chance sd (nI ch)) 0 32)) 32 32 ++ W15)) (32 + i)) 96)) := hd84
  have p_87 := (IA.kp (p_86) hK84 (by decide))
  have p_88 : RO Mr84 434 1280 R1 (320 * s) 320 c2 := (by have g := hr84; rw [← hC]; unfold crd; rw [← xr_2 (pub (ownK sd) ++ sl (rc u) 96 96) _ (pub (ownK sd)) (rc u) (fun i hi => gd_l (by rw [pub_len']; exact hi)) (fun i hi => by rw [gd_r (by rw [pub_len']; omega), pub_len', sl_gd (by omega)]; exact gd_c (by omega)), ← List.append_assoc]; exact g)
  have lc2 : c2.length = 192 := by rw [← hC]; unfold crd; simp only [List.length_append, List.length_cons, List.length_nil, List.length_replicate, sl_len, be_len, sha_len, hmac_len, ex1_len, ex2_len, stretch_len, zer8_len, tC_len, tag1_len, bnN_len, xkp_len, enc_len, chance_len, lbF_len, str2_len, pub_len', sec8_len, mp_len, xSrv_len, xCli_len, xSess_len, seal8_len, mkU_len, lrec, xr_len]
  refine T_aload_n (v := .ref 373) d_Mo_answer_438 rfl (Or.inr ⟨_, rfl⟩) ?_
  have p_89 := (MS.kp ((MS.kp (p_78_0) hK81 (by decide))) hK84 (by decide))
  have p_90 := (BG.kp (p_83) hK84 (by decide) (by decide))
  obtain ⟨v_92, hov_92, hwv_92, hsv_92, hiv_92⟩ := id p_90
  refine T_virtual (as := []) (rest := []) (b := 373) d_Mo_answer_439 rfl (jw_Mo_chance.jo (by decide)) lm_Mo_304 ji_Mo_chance js_Mo_chance hov_92 rfl rfl rfl (Nat.le_of_ble_eq_true rfl) (by decide) (by decide) (b_Mo_chance p_89 p_90 (show (upd (upd w 66 (nI 0)) 72 (nI (ch + 1))) 71 = sd from h71) (show (upd (upd w 66 (nI 0)) 72 (nI (ch + 1))) 72 = nI (ch + 1) from rfl)) (fun r M_91 hq => ?_)
  obtain ⟨rfl, p_91_0, p_91_1, p_91_2, kp_91⟩ := hq
  refine T_eq (pc' := 442) (L' := [(4, .int (nI ((320 * s)))), (3, .int (nI u)), (2, .int (nI s)), (1, .int (nI s)), (0, .ref 373)]) (st' := []) (M' := M_91) rfl rfl rfl rfl ?_
  refine T_iconst (v := nI 0) d_Mo_answer_442 (by decide) ?_
  refine T_istore (L' := [(5, .int (nI 0)), (4, .int (nI ((320 * s)))), (3, .int (nI u)), (2, .int (nI s)), (1, .int (nI s)), (0, .ref 373)]) d_Mo_answer_443 (by decide) rfl ?_
  have p_93 := (RO.kp (p_88) kp_91 (by decide))
  refine an_e G (l0 := c2) p_91_1 p_91_2 (by first | omega | (simp only [List.length_append, List.length_cons, List.length_nil, List.length_replicate, sl_len, be_len, sha_len, hmac_len, ex1_len, ex2_len, stretch_len, zer8_len, tC_len, tag1_len, bnN_len, xkp_len, enc_len, chance_len, lbF_len, str2_len, pub_len', sec8_len, mp_len, xSrv_len, xCli_len, xSess_len, seal8_len, mkU_len, lrec, lc2]; done) | (simp only [List.length_append, List.length_cons, List.length_nil, List.length_replicate, sl_len, be_len, sha_len, hmac_len, ex1_len, ex2_len, stretch_len, zer8_len, tC_len, tag1_len, bnN_len, xkp_len, enc_len, chance_len, lbF_len, str2_len, pub_len', sec8_len, mp_len, xSrv_len, xCli_len, xSess_len, seal8_len, mkU_len, lrec, lc2]; omega)) (by omega) lc2 (fun Mr94 hI => ?_) 32 0 M_91 (Nat.zero_add _) ⟨by rw [mp_0, List.append_nil]; exact p_93, Kp.rf⟩
  obtain ⟨hd94, hK94⟩ := hI
  have hr94 : RO Mr94 434 1280 R1 (320 * s) 320 (c2 ++ (sl (chance sd (nI (ch + 1))) 0 32)) := hd94
  refine T_aload_n (v := .ref 373) d_Mo_answer_479 rfl (Or.inr ⟨_, rfl⟩) ?_
  have p_95 := (MS.kp (p_91_0) hK94 (by decide))
  have p_96 := (BG.kp (p_91_1) hK94 (by decide) (by decide))
  obtain ⟨v_98, hov_98, hwv_98, hsv_98, hiv_98⟩ := id p_96
  refine T_virtual (as := []) (rest := []) (b := 373) d_Mo_answer_480 rfl (jw_Mo_chanceScalar.jo (by decide)) lm_Mo_548 ji_Mo_chanceScalar js_Mo_chanceScalar hov_98 rfl rfl rfl (Nat.le_of_ble_eq_true rfl) (by decide) (by decide) (b_Mo_chanceScalar p_95 p_96 (show (upd (upd (upd w 66 (nI 0)) 72 (nI (ch + 1))) 72 (nI ((ch + 1) + 1))) 71 = sd from h71) (show (upd (upd (upd w 66 (nI 0)) 72 (nI (ch + 1))) 72 (nI ((ch + 1) + 1))) 72 = nI ((ch + 1) + 1) from rfl)) (fun r M_97 hq => ?_)
  obtain ⟨rfl, p_97_0, p_97_1, p_97_2, kp_97⟩ := hq
  refine T_eq (pc' := 483) (L' := [(4, .int (nI ((320 * s)))), (3, .int (nI u)), (2, .int (nI s)), (1, .int (nI s)), (0, .ref 373)]) (st' := []) (M' := M_97) rfl rfl rfl rfl ?_
  refine T_aload_n (v := .ref 373) d_Mo_answer_483 rfl (Or.inr ⟨_, rfl⟩) ?_
  refine T_aload_n (v := .ref 373) d_Mo_answer_484 rfl (Or.inr ⟨_, rfl⟩) ?_
  obtain ⟨v_99, hov_99, hwv_99, hsv_99, hiv_99⟩ := id p_97_1
  refine T_getfield (v := .ref 449) d_Mo_answer_485 fg_Mo_470 hov_99 rfl ?_
  refine T_iconst (v := nI 0) d_Mo_answer_488 (by decide) ?_
  refine T_virtual (as := [.ref 449, .int (nI 0)]) (rest := []) (b := 373) d_Mo_answer_489 rfl (jw_Mo_putScalar.jo (by decide)) lm_Mo_489 ji_Mo_putScalar js_Mo_putScalar hov_99 rfl rfl rfl (Nat.le_of_ble_eq_true rfl) (by decide) (by decide) (b_Mo_put16 p_97_0 p_97_1 p_97_2 (by decide) (by decide) (by decide)) (fun r M_100 hq => ?_)
  obtain ⟨rfl, p_100_0, p_100_1, kp_100⟩ := hq
  refine T_eq (pc' := 492) (L' := [(4, .int (nI ((320 * s)))), (3, .int (nI u)), (2, .int (nI s)), (1, .int (nI s)), (0, .ref 373)]) (st' := []) (M' := M_100) rfl rfl rfl rfl ?_
  refine T_aload_n (v := .ref 373) d_Mo_answer_492 rfl (Or.inr ⟨_, rfl⟩) ?_
  refine T_aload_n (v := .ref 373) d_Mo_answer_493 rfl (Or.inr ⟨_, rfl⟩) ?_
  have p_101 := (BG.kp (p_97_1) kp_100 (by decide) (by decide))
  obtain ⟨v_102, hov_102, hwv_102, hsv_102, hiv_102⟩ := id p_101
  refine T_getfield (v := .ref 434) d_Mo_answer_494 fg_Mo_422 hov_102 rfl ?_
  refine T_iload d_Mo_answer_497 rfl ?_
  refine T_sipush (v := nI 224) d_Mo_answer_499 (by decide) ?_
  refine N_iadd (a := 224) (b := (320 * s)) (c := ((320 * s) + 224)) d_Mo_answer_502 rfl ?_
  have p_104 := (RO.kp ((RO.kp (hr94) kp_97 (by decide))) kp_100 (by decide))
  have p_105 := (SC.kp (p_97_2) kp_100 (by decide))
  obtain ⟨_, ⟨g_103, ga_103, _, _⟩, _, _, _, _, hx_103⟩ := id p_104
  have ro_103 := p_104
  refine T_virtual (as := [.ref 434, .int (nI (((320 * s) + 224)))]) (rest := []) (b := 373) d_Mo_answer_503 rfl (jw_Mo_publicTo.jo (by decide)) lm_Mo_492 ji_Mo_publicTo js_Mo_publicTo hov_102 rfl rfl rfl (Nat.le_of_ble_eq_true rfl) (by decide) (by decide) (b_Mo_publicTo (at0 := ((320 * s) + 224)) p_100_0 p_101 p_105 (Nat.lt_trans (scal_lt _) (by decide)) ga_103 (by omega) (by decide) (by decide) (by decide)) (fun r M_103 hq => ?_)
  obtain ⟨rfl, M1_103, ms1_103, kr_103, kz_103, g'_103, z1_103, z2_103⟩ := hq
  have kp_103 : Kp [434, 390, 391, 392, 393, 394] M_100 M_103 := Kp.tr (Kp.mono kr_103 (by decide)) (Kp.mono kz_103 (by decide))
  have ms_103 := MS.kp ms1_103 kz_103 (by decide)
  have rp_103 := RO.app (RO.kp ro_103 kr_103 (by decide)) ((kr_103 434 (by decide)).trans ga_103) z1_103 z2_103 (by first | omega | (simp only [List.length_append, List.length_cons, List.length_nil, List.length_replicate, sl_len, be_len, sha_len, hmac_len, ex1_len, ex2_len, stretch_len, zer8_len, tC_len, tag1_len, bnN_len, xkp_len, enc_len, chance_len, lbF_len, str2_len, pub_len', sec8_len, mp_len, xSrv_len, xCli_len, xSess_len, seal8_len, mkU_len, lrec, lc2]; done) | (simp only [List.length_append, List.length_cons, List.length_nil, List.length_replicate, sl_len, be_len, sha_len, hmac_len, ex1_len, ex2_len, stretch_len, zer8_len, tC_len, tag1_len, bnN_len, xkp_len, enc_len, chance_len, lbF_len, str2_len, pub_len', sec8_len, mp_len, xSrv_len, xCli_len, xSess_len, seal8_len, mkU_len, lrec, lc2]; omega)) (by first | omega | (simp only [List.length_append, List.length_cons, List.length_nil, List.length_replicate, sl_len, be_len, sha_len, hmac_len, ex1_len, ex2_len, stretch_len, zer8_len, tC_len, tag1_len, bnN_len, xkp_len, enc_len, chance_len, lbF_len, str2_len, pub_len', sec8_len, mp_len, xSrv_len, xCli_len, xSess_len, seal8_len, mkU_len, lrec, lc2]; done) | (simp only [List.length_append, List.length_cons, List.length_nil, List.length_replicate, sl_len, be_len, sha_len, hmac_len, ex1_len, ex2_len, stretch_len, zer8_len, tC_len, tag1_len, bnN_len, xkp_len, enc_len, chance_len, lbF_len, str2_len, pub_len', sec8_len, mp_len, xSrv_len, xCli_len, xSess_len, seal8_len, mkU_len, lrec, lc2]; omega))
  refine T_eq (pc' := 506) (L' := [(4, .int (nI ((320 * s)))), (3, .int (nI u)), (2, .int (nI s)), (1, .int (nI s)), (0, .ref 373)]) (st' := []) (M' := M_103) rfl rfl rfl rfl ?_
  have p_106 : RO M_103 434 1280 R1 (320 * s) 320 m2 := (by have g := rp_103; rw [hX, hM] at g; exact g)
  have lm2 : m2.length = 256 := by rw [← hM]; simp only [List.length_append, List.length_cons, List.length_nil, List.length_replicate, sl_len, be_len, sha_len, hmac_len, ex1_len, ex2_len, stretch_len, zer8_len, tC_len, tag1_len, bnN_len, xkp_len, enc_len, chance_len, lbF_len, str2_len, pub_len', sec8_len, mp_len, xSrv_len, xCli_len, xSess_len, seal8_len, mkU_len, lrec, lc2]
  have p_107 := (SC.kp (p_100_1) kp_103 (by decide))
  have p_108 : SC M_103 449 16 0 xs := (by have g := p_107; rw [hX] at g; exact g)
  have hxs : xs < 2 ^ 256 := by rw [← hX]; exact Nat.lt_trans (scal_lt _) (by decide)
  refine T_aload_n (v := .ref 373) d_Mo_answer_506 rfl (Or.inr ⟨_, rfl⟩) ?_
  refine T_bipush (v := nI 12) d_Mo_answer_507 (by decide) ?_
  refine T_aload_n (v := .ref 373) d_Mo_answer_509 rfl (Or.inr ⟨_, rfl⟩) ?_
  have p_109 := (BG.kp (p_101) kp_103 (by decide) (by decide))
  obtain ⟨v_110, hov_110, hwv_110, hsv_110, hiv_110⟩ := id p_109
  refine T_getfield (v := .ref 433) d_Mo_answer_510 fg_Mo_419 hov_110 rfl ?_
  refine T_bipush (v := nI 96) d_Mo_answer_513 (by decide) ?_
  refine T_iload_n d_Mo_answer_515 rfl ?_
  refine N_imul (a := s) (b := 96) (c := (96 * s)) d_Mo_answer_516 rfl ?_
  refine T_bipush (v := nI 64) d_Mo_answer_517 (by decide) ?_
  refine N_iadd (a := 64) (b := (96 * s)) (c := ((96 * s) + 64)) d_Mo_answer_519 rfl ?_
  have p_112 := (SL.kp ((SL.kp ((SL.kp ((SL.kp ((SL.kp ((SL.kp ((SL.kp ((SL.kp ((SL.kp ((SL.kp ((SL.kp ((SL.kp ((SL.kp ((SL.kp (p_54) kp_53 (by decide))) kp_58 (by decide))) kp_61 (by decide))) hK65 (by decide))) kp_69 (by decide))) hK72 (by decide))) kp_78 (by decide))) hK81 (by decide))) hK84 (by decide))) kp_91 (by decide))) hK94 (by decide))) kp_97 (by decide))) kp_100 (by decide))) kp_103 (by decide))
  obtain ⟨L113, hL113, eL113, sg113⟩ := SL.rd p_112 hs
  have nq_111 : nB L113 ((96 * s) + 64) = nB (w1 s) 64 := nB_sg (b := 64) sg113 (by first | omega | (simp only [List.length_append, List.length_cons, List.length_nil, List.length_replicate, sl_len, be_len, sha_len, hmac_len, ex1_len, ex2_len, stretch_len, zer8_len, tC_len, tag1_len, bnN_len, xkp_len, enc_len, chance_len, lbF_len, str2_len, pub_len', sec8_len, mp_len, xSrv_len, xCli_len, xSess_len, seal8_len, mkU_len, lrec, lc2, lm2]; done) | (simp only [List.length_append, List.length_cons, List.length_nil, List.length_replicate, sl_len, be_len, sha_len, hmac_len, ex1_len, ex2_len, stretch_len, zer8_len, tC_len, tag1_len, bnN_len, xkp_len, enc_len, chance_len, lbF_len, str2_len, pub_len', sec8_len, mp_len, xSrv_len, xCli_len, xSess_len, seal8_len, mkU_len, lrec, lc2, lm2]; omega))
  have ln_111 : ((96 * s) + 64) + 32 ≤ L113.length := by rw [eL113]; omega
  refine T_virtual (as := [.int (nI 12), .ref 433, .int (nI (((96 * s) + 64)))]) (rest := []) (b := 373) d_Mo_answer_520 rfl (jw_Mo_decode.jo (by decide)) lm_Mo_502 ji_Mo_decode js_Mo_decode hov_110 rfl rfl rfl (Nat.le_of_ble_eq_true rfl) (by decide) (by decide) (b_Mo_decode (at0 := ((96 * s) + 64)) ms_103 p_109 hL113 ln_111 (by decide) (by decide)) (fun r M_111 hq => ?_)
  rw [nq_111] at hq
  obtain ⟨rfl, ms_111, pt_111, kp_111⟩ := hq
  rw [if_pos hd2]
  have pd_111 := pt_111 hd2
  refine T_eq (pc' := 523) (L' := [(4, .int (nI ((320 * s)))), (3, .int (nI u)), (2, .int (nI s)), (1, .int (nI s)), (0, .ref 373)]) (st' := [.int (nI 1)]) (M' := M_111) rfl rfl rfl rfl ?_
  refine T_pop d_Mo_answer_523 rfl ?_
  refine T_aload_n (v := .ref 373) d_Mo_answer_524 rfl (Or.inr ⟨_, rfl⟩) ?_
  refine T_aload_n (v := .ref 373) d_Mo_answer_525 rfl (Or.inr ⟨_, rfl⟩) ?_
  have p_114 := (BG.kp (p_109) kp_111 (by decide) (by decide))
  obtain ⟨v_115, hov_115, hwv_115, hsv_115, hiv_115⟩ := id p_114
  refine T_getfield (v := .ref 449) d_Mo_answer_526 fg_Mo_470 hov_115 rfl ?_
  refine T_iconst (v := nI 0) d_Mo_answer_529 (by decide) ?_
  have p_116 := (SC.kp (p_108) kp_111 (by decide))
  refine T_virtual (as := [.ref 449, .int (nI 0)]) (rest := []) (b := 373) d_Mo_answer_530 rfl (jw_Mo_takeScalar.jo (by decide)) lm_Mo_533 ji_Mo_takeScalar js_Mo_takeScalar hov_115 rfl rfl rfl (Nat.le_of_ble_eq_true rfl) (by decide) (by decide) (b_Mo_take (at0 := 0) ms_111 p_114 p_116 (by decide) (by decide) (by decide)) (fun r M_117 hq => ?_)
  obtain ⟨rfl, p_117_0, p_117_1, kp_117⟩ := hq
  refine T_eq (pc' := 533) (L' := [(4, .int (nI ((320 * s)))), (3, .int (nI u)), (2, .int (nI s)), (1, .int (nI s)), (0, .ref 373)]) (st' := []) (M' := M_117) rfl rfl rfl rfl ?_
  refine T_aload_n (v := .ref 373) d_Mo_answer_533 rfl (Or.inr ⟨_, rfl⟩) ?_
  refine T_iconst (v := nI 0) d_Mo_answer_534 (by decide) ?_
  refine T_bipush (v := nI 12) d_Mo_answer_535 (by decide) ?_
  have p_118 := (BG.kp (p_114) kp_117 (by decide) (by decide))
  have p_119 := (PTa.kp (pd_111) kp_117 (by decide))
  have p_120 := (SH.kp ((SH.kp ((MS.sh ms_103)) kp_111 (by decide))) kp_117 (by decide))
  obtain ⟨v_122, hov_122, hwv_122, hsv_122, hiv_122⟩ := id p_118
  refine T_virtual (as := [.int (nI 0), .int (nI 12)]) (rest := []) (b := 373) d_Mo_answer_537 rfl (jw_Mo_share.jo (by decide)) lm_Mo_582 ji_Mo_share js_Mo_share hov_122 rfl rfl rfl (Nat.le_of_ble_eq_true rfl) (by decide) (by decide) (b_Mo_share (j := 0) (at0 := 0) p_117_0 p_118 p_117_1 p_119 p_120 (dPt_on hd2) hxs (by decide) (by decide)) (fun r M_121 hq => ?_)
  obtain ⟨rfl, p_121_0, p_121_1, p_121_2, kp_121⟩ := hq
  refine T_eq (pc' := 540) (L' := [(4, .int (nI ((320 * s)))), (3, .int (nI u)), (2, .int (nI s)), (1, .int (nI s)), (0, .ref 373)]) (st' := []) (M' := M_121) rfl rfl rfl rfl ?_
  refine T_aload_n (v := .ref 373) d_Mo_answer_540 rfl (Or.inr ⟨_, rfl⟩) ?_
  refine T_aload_n (v := .ref 373) d_Mo_answer_541 rfl (Or.inr ⟨_, rfl⟩) ?_
  have p_123 := (BG.kp (p_118) kp_121 (by decide) (by decide))
  obtain ⟨v_124, hov_124, hwv_124, hsv_124, hiv_124⟩ := id p_123
  refine T_getfield (v := .ref 403) d_Mo_answer_542 fg_Mo_322 hov_124 rfl ?_
  refine T_iconst (v := nI 0) d_Mo_answer_545 (by decide) ?_
  have p_125 := (SC.kp ((SC.kp ((SC.kp ((SC.kp ((SC.kp ((SC.kp ((SC.kp ((SC.kp ((SC.kp ((SC.kp ((SC.kp ((SC.kp ((SC.kp ((SC.kp ((SC.kp ((SC.kp ((SC.kp ((SC.kp ((SC.kp ((SC.kp ((SC.kp ((SC.kp ((SC.kp (hsk) (Ex.kp s_7) (by decide))) (Ex.kp s_21) (by decide))) kp_25 (by decide))) kp_31 (by decide))) hK42 (by decide))) kp_51 (by decide))) kp_53 (by decide))) kp_58 (by decide))) kp_61 (by decide))) hK65 (by decide))) kp_69 (by decide))) hK72 (by decide))) kp_78 (by decide))) hK81 (by decide))) hK84 (by decide))) kp_91 (by decide))) hK94 (by decide))) kp_97 (by decide))) kp_100 (by decide))) kp_103 (by decide))) kp_111 (by decide))) kp_117 (by decide))) kp_121 (by decide))
  refine T_virtual (as := [.ref 403, .int (nI 0)]) (rest := []) (b := 373) d_Mo_answer_546 rfl (jw_Mo_takeScalar.jo (by decide)) lm_Mo_533 ji_Mo_takeScalar js_Mo_takeScalar hov_124 rfl rfl rfl (Nat.le_of_ble_eq_true rfl) (by decide) (by decide) (b_Mo_take (at0 := 0) p_121_0 p_123 p_125 (by decide) (by decide) (by decide)) (fun r M_126 hq => ?_)
  obtain ⟨rfl, p_126_0, p_126_1, kp_126⟩ := hq
  refine T_eq (pc' := 549) (L' := [(4, .int (nI ((320 * s)))), (3, .int (nI u)), (2, .int (nI s)), (1, .int (nI s)), (0, .ref 373)]) (st' := []) (M' := M_126) rfl rfl rfl rfl ?_
  refine T_aload_n (v := .ref 373) d_Mo_answer_549 rfl (Or.inr ⟨_, rfl⟩) ?_
  refine T_bipush (v := nI 32) d_Mo_answer_550 (by decide) ?_
  refine T_bipush (v := nI 12) d_Mo_answer_552 (by decide) ?_
  have p_127 := (BG.kp (p_123) kp_126 (by decide) (by decide))
  have p_128 := (PTa.kp (p_121_1) kp_126 (by decide))
  have p_129 := (SH.kp (p_121_2) kp_126 (by decide))
  obtain ⟨v_131, hov_131, hwv_131, hsv_131, hiv_131⟩ := id p_127
  refine T_virtual (as := [.int (nI 32), .int (nI 12)]) (rest := []) (b := 373) d_Mo_answer_554 rfl (jw_Mo_share.jo (by decide)) lm_Mo_582 ji_Mo_share js_Mo_share hov_131 rfl rfl rfl (Nat.le_of_ble_eq_true rfl) (by decide) (by decide) (b_Mo_share (j := 1) (at0 := 32) p_126_0 p_127 p_126_1 p_128 p_129 (dPt_on hd2) (Nat.lt_trans (keyN_lt _ _) (by decide)) (by decide) (by decide)) (fun r M_130 hq => ?_)
  obtain ⟨rfl, p_130_0, p_130_1, p_130_2, kp_130⟩ := hq
  refine T_eq (pc' := 557) (L' := [(4, .int (nI ((320 * s)))), (3, .int (nI u)), (2, .int (nI s)), (1, .int (nI s)), (0, .ref 373)]) (st' := []) (M' := M_130) rfl rfl rfl rfl ?_
  refine T_aload_n (v := .ref 373) d_Mo_answer_557 rfl (Or.inr ⟨_, rfl⟩) ?_
  refine T_bipush (v := nI 12) d_Mo_answer_558 (by decide) ?_
  refine T_aload_n (v := .ref 373) d_Mo_answer_560 rfl (Or.inr ⟨_, rfl⟩) ?_
  have p_132 := (BG.kp (p_127) kp_130 (by decide) (by decide))
  obtain ⟨v_133, hov_133, hwv_133, hsv_133, hiv_133⟩ := id p_132
  refine T_getfield (v := .ref 407) d_Mo_answer_561 fg_Mo_335 hov_133 rfl ?_
  refine T_iconst (v := nI 0) d_Mo_answer_564 (by decide) ?_
  have p_135 := (IA.kp ((IA.kp ((IA.kp ((IA.kp ((IA.kp ((IA.kp ((IA.kp ((IA.kp ((IA.kp ((IA.kp ((IA.kp (p_85) hK84 (by decide))) kp_91 (by decide))) hK94 (by decide))) kp_97 (by decide))) kp_100 (by decide))) kp_103 (by decide))) kp_111 (by decide))) kp_117 (by decide))) kp_121 (by decide))) kp_126 (by decide))) kp_130 (by decide))
  refine T_virtual (as := [.int (nI 12), .ref 407, .int (nI 0)]) (rest := []) (b := 373) d_Mo_answer_565 rfl (jw_Mo_decode.jo (by decide)) lm_Mo_502 ji_Mo_decode js_Mo_decode hov_133 rfl rfl rfl (Nat.le_of_ble_eq_true rfl) (by decide) (by decide) (b_Mo_decode (at0 := 0) p_130_0 p_132 p_135 (by first | omega | (simp only [List.length_append, List.length_cons, List.length_nil, List.length_replicate, sl_len, be_len, sha_len, hmac_len, ex1_len, ex2_len, stretch_len, zer8_len, tC_len, tag1_len, bnN_len, xkp_len, enc_len, chance_len, lbF_len, str2_len, pub_len', sec8_len, mp_len, xSrv_len, xCli_len, xSess_len, seal8_len, mkU_len, lrec, lc2, lm2]; done) | (simp only [List.length_append, List.length_cons, List.length_nil, List.length_replicate, sl_len, be_len, sha_len, hmac_len, ex1_len, ex2_len, stretch_len, zer8_len, tC_len, tag1_len, bnN_len, xkp_len, enc_len, chance_len, lbF_len, str2_len, pub_len', sec8_len, mp_len, xSrv_len, xCli_len, xSess_len, seal8_len, mkU_len, lrec, lc2, lm2]; omega)) (by decide) (by decide)) (fun r M_134 hq => ?_)
  obtain ⟨rfl, ms_134, pt_134, kp_134⟩ := hq
  rw [if_pos hd3]
  have pd_134 := pt_134 hd3
  refine T_eq (pc' := 568) (L' := [(4, .int (nI ((320 * s)))), (3, .int (nI u)), (2, .int (nI s)), (1, .int (nI s)), (0, .ref 373)]) (st' := [.int (nI 1)]) (M' := M_134) rfl rfl rfl rfl ?_
  refine T_pop d_Mo_answer_568 rfl ?_
  refine T_aload_n (v := .ref 373) d_Mo_answer_569 rfl (Or.inr ⟨_, rfl⟩) ?_
  refine T_aload_n (v := .ref 373) d_Mo_answer_570 rfl (Or.inr ⟨_, rfl⟩) ?_
  have p_136 := (BG.kp (p_132) kp_134 (by decide) (by decide))
  obtain ⟨v_137, hov_137, hwv_137, hsv_137, hiv_137⟩ := id p_136
  refine T_getfield (v := .ref 449) d_Mo_answer_571 fg_Mo_470 hov_137 rfl ?_
  refine T_iconst (v := nI 0) d_Mo_answer_574 (by decide) ?_
  have p_138 := (SC.kp ((SC.kp ((SC.kp ((SC.kp ((SC.kp (p_116) kp_117 (by decide))) kp_121 (by decide))) kp_126 (by decide))) kp_130 (by decide))) kp_134 (by decide))
  refine T_virtual (as := [.ref 449, .int (nI 0)]) (rest := []) (b := 373) d_Mo_answer_575 rfl (jw_Mo_takeScalar.jo (by decide)) lm_Mo_533 ji_Mo_takeScalar js_Mo_takeScalar hov_137 rfl rfl rfl (Nat.le_of_ble_eq_true rfl) (by decide) (by decide) (b_Mo_take (at0 := 0) ms_134 p_136 p_138 (by decide) (by decide) (by decide)) (fun r M_139 hq => ?_)
  obtain ⟨rfl, p_139_0, p_139_1, kp_139⟩ := hq
  refine T_eq (pc' := 578) (L' := [(4, .int (nI ((320 * s)))), (3, .int (nI u)), (2, .int (nI s)), (1, .int (nI s)), (0, .ref 373)]) (st' := []) (M' := M_139) rfl rfl rfl rfl ?_
  refine T_aload_n (v := .ref 373) d_Mo_answer_578 rfl (Or.inr ⟨_, rfl⟩) ?_
  refine T_bipush (v := nI 64) d_Mo_answer_579 (by decide) ?_
  refine T_bipush (v := nI 12) d_Mo_answer_581 (by decide) ?_
  have p_140 := (BG.kp (p_136) kp_139 (by decide) (by decide))
  have p_141 := (PTa.kp (pd_134) kp_139 (by decide))
  have p_142 := (SH.kp ((SH.kp (p_130_2) kp_134 (by decide))) kp_139 (by decide))
  obtain ⟨v_144, hov_144, hwv_144, hsv_144, hiv_144⟩ := id p_140
  refine T_virtual (as := [.int (nI 64), .int (nI 12)]) (rest := []) (b := 373) d_Mo_answer_583 rfl (jw_Mo_share.jo (by decide)) lm_Mo_582 ji_Mo_share js_Mo_share hov_144 rfl rfl rfl (Nat.le_of_ble_eq_true rfl) (by decide) (by decide) (b_Mo_share (j := 2) (at0 := 64) p_139_0 p_140 p_139_1 p_141 p_142 (dPt_on hd3) hxs (by decide) (by decide)) (fun r M_143 hq => ?_)
  obtain ⟨rfl, p_143_0, p_143_1, p_143_2, kp_143⟩ := hq
  refine T_eq (pc' := 586) (L' := [(4, .int (nI ((320 * s)))), (3, .int (nI u)), (2, .int (nI s)), (1, .int (nI s)), (0, .ref 373)]) (st' := []) (M' := M_143) rfl rfl rfl rfl ?_
  refine T_aload_n (v := .ref 373) d_Mo_answer_586 rfl (Or.inr ⟨_, rfl⟩) ?_
  refine T_aload_n (v := .ref 373) d_Mo_answer_587 rfl (Or.inr ⟨_, rfl⟩) ?_
  have p_145 := (BG.kp (p_140) kp_143 (by decide) (by decide))
  obtain ⟨v_146, hov_146, hwv_146, hsv_146, hiv_146⟩ := id p_145
  refine T_getfield (v := .ref 407) d_Mo_answer_588 fg_Mo_335 hov_146 rfl ?_
  refine T_iconst (v := nI 0) d_Mo_answer_591 (by decide) ?_
  refine T_aload_n (v := .ref 373) d_Mo_answer_592 rfl (Or.inr ⟨_, rfl⟩) ?_
  refine T_getfield (v := .ref 433) d_Mo_answer_593 fg_Mo_419 hov_146 rfl ?_
  refine T_bipush (v := nI 96) d_Mo_answer_596 (by decide) ?_
  refine T_iload_n d_Mo_answer_598 rfl ?_
  refine N_imul (a := s) (b := 96) (c := (96 * s)) d_Mo_answer_599 rfl ?_
  refine T_aload_n (v := .ref 373) d_Mo_answer_600 rfl (Or.inr ⟨_, rfl⟩) ?_
  refine T_getfield (v := .ref 404) d_Mo_answer_601 fg_Mo_325 hov_146 rfl ?_
  refine T_iconst (v := nI 0) d_Mo_answer_604 (by decide) ?_
  refine T_aload_n (v := .ref 373) d_Mo_answer_605 rfl (Or.inr ⟨_, rfl⟩) ?_
  refine T_getfield (v := .ref 434) d_Mo_answer_606 fg_Mo_422 hov_146 rfl ?_
  refine T_iload d_Mo_answer_609 rfl ?_
  have p_147 := (SL.kp ((SL.kp ((SL.kp ((SL.kp ((SL.kp ((SL.kp ((SL.kp ((SL.kp (p_112) kp_111 (by decide))) kp_117 (by decide))) kp_121 (by decide))) kp_126 (by decide))) kp_130 (by decide))) kp_134 (by decide))) kp_139 (by decide))) kp_143 (by decide))
  obtain ⟨L148, hL148, eL148, sg148⟩ := SL.rd p_147 hs
  have p_149 := (RO.kp ((RO.kp ((RO.kp ((RO.kp ((RO.kp ((RO.kp ((RO.kp ((RO.kp (p_106) kp_111 (by decide))) kp_117 (by decide))) kp_121 (by decide))) kp_126 (by decide))) kp_130 (by decide))) kp_134 (by decide))) kp_139 (by decide))) kp_143 (by decide))
  obtain ⟨L150, hL150, eL150, _, sg150, _, _⟩ := id p_149
  have p_151 := (IA.kp ((IA.kp ((IA.kp (p_135) kp_134 (by decide))) kp_139 (by decide))) kp_143 (by decide))
  have p_152 := (IA.kp ((IA.kp ((IA.kp ((IA.kp ((IA.kp ((IA.kp ((IA.kp ((IA.kp ((IA.kp ((IA.kp ((IA.kp ((IA.kp ((IA.kp ((IA.kp ((IA.kp (p_82) hK81 (by decide))) hK84 (by decide))) kp_91 (by decide))) hK94 (by decide))) kp_97 (by decide))) kp_100 (by decide))) kp_103 (by decide))) kp_111 (by decide))) kp_117 (by decide))) kp_121 (by decide))) kp_126 (by decide))) kp_130 (by decide))) kp_134 (by decide))) kp_139 (by decide))) kp_143 (by decide))
  refine T_virtual (as := [.ref 407, .int (nI 0), .ref 433, .int (nI ((96 * s))), .ref 404, .int (nI 0), .ref 434, .int (nI ((320 * s)))]) (rest := []) (b := 373) d_Mo_answer_611 rfl (jw_Mo_preambleOf.jo (by decide)) lm_Mo_585 ji_Mo_preambleOf js_Mo_preambleOf hov_146 rfl rfl rfl (Nat.le_of_ble_eq_true rfl) (by decide) (by decide) (b_Mo_preambleOf (aa := 0) (ab := (96 * s)) (ac := 0) (ad := (320 * s)) p_143_0 p_145 p_151 hL148 p_152 hL150 (by first | omega | (simp only [List.length_append, List.length_cons, List.length_nil, List.length_replicate, sl_len, be_len, sha_len, hmac_len, ex1_len, ex2_len, stretch_len, zer8_len, tC_len, tag1_len, bnN_len, xkp_len, enc_len, chance_len, lbF_len, str2_len, pub_len', sec8_len, mp_len, xSrv_len, xCli_len, xSess_len, seal8_len, mkU_len, lrec, lc2, lm2]; done) | (simp only [List.length_append, List.length_cons, List.length_nil, List.length_replicate, sl_len, be_len, sha_len, hmac_len, ex1_len, ex2_len, stretch_len, zer8_len, tC_len, tag1_len, bnN_len, xkp_len, enc_len, chance_len, lbF_len, str2_len, pub_len', sec8_len, mp_len, xSrv_len, xCli_len, xSess_len, seal8_len, mkU_len, lrec, lc2, lm2]; omega)) (by decide) (by decide) (by rw [eL148]; omega) (by decide) (by decide) (by first | omega | (simp only [List.length_append, List.length_cons, List.length_nil, List.length_replicate, sl_len, be_len, sha_len, hmac_len, ex1_len, ex2_len, stretch_len, zer8_len, tC_len, tag1_len, bnN_len, xkp_len, enc_len, chance_len, lbF_len, str2_len, pub_len', sec8_len, mp_len, xSrv_len, xCli_len, xSess_len, seal8_len, mkU_len, lrec, lc2, lm2]; done) | (simp only [List.length_append, List.length_cons, List.length_nil, List.length_replicate, sl_len, be_len, sha_len, hmac_len, ex1_len, ex2_len, stretch_len, zer8_len, tC_len, tag1_len, bnN_len, xkp_len, enc_len, chance_len, lbF_len, str2_len, pub_len', sec8_len, mp_len, xSrv_len, xCli_len, xSess_len, seal8_len, mkU_len, lrec, lc2, lm2]; omega)) (by decide) (by decide) (by rw [eL150]; omega) (by decide) (by decide)) (fun r M_153 hq => ?_)
  obtain ⟨rfl, p_153_0, p_153_1, p_153_2, kp_153⟩ := hq
  refine T_eq (pc' := 614) (L' := [(4, .int (nI ((320 * s)))), (3, .int (nI u)), (2, .int (nI s)), (1, .int (nI s)), (0, .ref 373)]) (st' := []) (M' := M_153) rfl rfl rfl rfl ?_
  have p_154 : IA M_153 441 500 P := (by have g := p_153_2; rw [show pre8 (sl (rc u) 0 32) (sl L148 (96 * s) 96) (sl (pub (ownK sd)) 0 32) (sl L150 (320 * s) 256) = P from (pre8_c (sl64 (sl_len _ _ _)) ((sl64 (sl_len _ _ _)).trans (sl_sg (b := 0) sg148 (by rw [hw]; decide))) (sl64 (sl_len _ _ _)) ((sl64 (sl_len _ _ _)).trans (sl_sg (b := 0) sg150 (by rw [lm2]; decide)))).trans hP] at g; exact g)
  have lP : P.length = 431 := by rw [← hP]; exact pre8_len _ _ _ _
  have p_155 := (SH.kp (p_143_2) kp_153 (by decide))
  have hj9 : IA M_153 440 96 J := by rw [← hJ]; exact SH.ia p_155 (enc_len _) (enc_len _) (enc_len _)
  have lJ : J.length = 96 := by rw [← hJ]; simp only [List.length_append, List.length_cons, List.length_nil, List.length_replicate, sl_len, be_len, sha_len, hmac_len, ex1_len, ex2_len, stretch_len, zer8_len, tC_len, tag1_len, bnN_len, xkp_len, enc_len, chance_len, lbF_len, str2_len, pub_len', sec8_len, mp_len, xSrv_len, xCli_len, xSess_len, seal8_len, mkU_len, lrec, lc2, lm2]
  refine T_aload_n (v := .ref 373) d_Mo_answer_614 rfl (Or.inr ⟨_, rfl⟩) ?_
  obtain ⟨v_157, hov_157, hwv_157, hsv_157, hiv_157⟩ := id p_153_1
  refine T_virtual (as := []) (rest := []) (b := 373) d_Mo_answer_615 rfl (jw_Mo_derive.jo (by decide)) lm_Mo_589 ji_Mo_derive js_Mo_derive hov_157 rfl rfl rfl (Nat.le_of_ble_eq_true rfl) (by decide) (by decide) (b_Mo_derive p_153_0 p_153_1 hj9 p_154 lJ lP (show (upd (upd (upd (upd (upd w 66 (nI 0)) 72 (nI (ch + 1))) 72 (nI ((ch + 1) + 1))) 72 (nI (((ch + 1) + 1) + 1))) 75 (nI 431)) 75 = nI 431 from rfl)) (fun r M_156 hq => ?_)
  obtain ⟨rfl, p_156_0, p_156_1, p_156_2, p_156_3, p_156_4, kp_156⟩ := hq
  refine T_eq (pc' := 618) (L' := [(4, .int (nI ((320 * s)))), (3, .int (nI u)), (2, .int (nI s)), (1, .int (nI s)), (0, .ref 373)]) (st' := []) (M' := M_156) rfl rfl rfl rfl ?_
  refine T_iconst (v := nI 0) d_Mo_answer_618 (by decide) ?_
  refine T_istore (L' := [(5, .int (nI 0)), (4, .int (nI ((320 * s)))), (3, .int (nI u)), (2, .int (nI s)), (1, .int (nI s)), (0, .ref 373)]) d_Mo_answer_619 (by decide) rfl ?_
  have p_158 := (RO.kp ((RO.kp (p_149) kp_153 (by decide))) kp_156 (by decide))
  have p_159 := (RO.kp ((RO.kp ((RO.kp ((RO.kp ((RO.kp ((RO.kp ((RO.kp ((RO.kp ((RO.kp ((RO.kp ((RO.kp ((RO.kp ((RO.kp ((RO.kp ((RO.kp ((RO.kp ((RO.kp ((RO.kp ((RO.kp ((RO.kp ((RO.kp ((RO.kp ((RO.kp ((RO.kp ((RO.kp ((RO.kp ((RO.kp ((RO.kp ((RO.kp ((RO.kp (ro2) (Ex.kp s_7) (by decide))) (Ex.kp s_21) (by decide))) kp_25 (by decide))) kp_31 (by decide))) hK42 (by decide))) kp_51 (by decide))) kp_53 (by decide))) kp_58 (by decide))) kp_61 (by decide))) hK65 (by decide))) kp_69 (by decide))) hK72 (by decide))) kp_78 (by decide))) hK81 (by decide))) hK84 (by decide))) kp_91 (by decide))) hK94 (by decide))) kp_97 (by decide))) kp_100 (by decide))) kp_103 (by decide))) kp_111 (by decide))) kp_117 (by decide))) kp_121 (by decide))) kp_126 (by decide))) kp_130 (by decide))) kp_134 (by decide))) kp_139 (by decide))) kp_143 (by decide))) kp_153 (by decide))) kp_156 (by decide))
  have p_160 := (RO.kp ((RO.kp ((RO.kp ((RO.kp ((RO.kp ((RO.kp ((RO.kp ((RO.kp ((RO.kp ((RO.kp ((RO.kp ((RO.kp ((RO.kp ((RO.kp ((RO.kp ((RO.kp ((RO.kp ((RO.kp ((RO.kp ((RO.kp ((RO.kp ((RO.kp ((RO.kp ((RO.kp ((RO.kp ((RO.kp ((RO.kp ((RO.kp ((RO.kp ((RO.kp (ro3) (Ex.kp s_7) (by decide))) (Ex.kp s_21) (by decide))) kp_25 (by decide))) kp_31 (by decide))) hK42 (by decide))) kp_51 (by decide))) kp_53 (by decide))) kp_58 (by decide))) kp_61 (by decide))) hK65 (by decide))) kp_69 (by decide))) hK72 (by decide))) kp_78 (by decide))) hK81 (by decide))) hK84 (by decide))) kp_91 (by decide))) hK94 (by decide))) kp_97 (by decide))) kp_100 (by decide))) kp_103 (by decide))) kp_111 (by decide))) kp_117 (by decide))) kp_121 (by decide))) kp_126 (by decide))) kp_130 (by decide))) kp_134 (by decide))) kp_139 (by decide))) kp_143 (by decide))) kp_153 (by decide))) kp_156 (by decide))
  refine an_f G (l0 := m2) (l1 := []) (l2 := []) p_156_1 p_156_2 (by first | omega | (simp only [List.length_append, List.length_cons, List.length_nil, List.length_replicate, sl_len, be_len, sha_len, hmac_len, ex1_len, ex2_len, stretch_len, zer8_len, tC_len, tag1_len, bnN_len, xkp_len, enc_len, chance_len, lbF_len, str2_len, pub_len', sec8_len, mp_len, xSrv_len, xCli_len, xSess_len, seal8_len, mkU_len, lrec, lc2, lm2]; done) | (simp only [List.length_append, List.length_cons, List.length_nil, List.length_replicate, sl_len, be_len, sha_len, hmac_len, ex1_len, ex2_len, stretch_len, zer8_len, tC_len, tag1_len, bnN_len, xkp_len, enc_len, chance_len, lbF_len, str2_len, pub_len', sec8_len, mp_len, xSrv_len, xCli_len, xSess_len, seal8_len, mkU_len, lrec, lc2, lm2]; omega)) p_156_3 (by first | omega | (simp only [List.length_append, List.length_cons, List.length_nil, List.length_replicate, sl_len, be_len, sha_len, hmac_len, ex1_len, ex2_len, stretch_len, zer8_len, tC_len, tag1_len, bnN_len, xkp_len, enc_len, chance_len, lbF_len, str2_len, pub_len', sec8_len, mp_len, xSrv_len, xCli_len, xSess_len, seal8_len, mkU_len, lrec, lc2, lm2]; done) | (simp only [List.length_append, List.length_cons, List.length_nil, List.length_replicate, sl_len, be_len, sha_len, hmac_len, ex1_len, ex2_len, stretch_len, zer8_len, tC_len, tag1_len, bnN_len, xkp_len, enc_len, chance_len, lbF_len, str2_len, pub_len', sec8_len, mp_len, xSrv_len, xCli_len, xSess_len, seal8_len, mkU_len, lrec, lc2, lm2]; omega)) p_156_4 (by first | omega | (simp only [List.length_append, List.length_cons, List.length_nil, List.length_replicate, sl_len, be_len, sha_len, hmac_len, ex1_len, ex2_len, stretch_len, zer8_len, tC_len, tag1_len, bnN_len, xkp_len, enc_len, chance_len, lbF_len, str2_len, pub_len', sec8_len, mp_len, xSrv_len, xCli_len, xSess_len, seal8_len, mkU_len, lrec, lc2, lm2]; done) | (simp only [List.length_append, List.length_cons, List.length_nil, List.length_replicate, sl_len, be_len, sha_len, hmac_len, ex1_len, ex2_len, stretch_len, zer8_len, tC_len, tag1_len, bnN_len, xkp_len, enc_len, chance_len, lbF_len, str2_len, pub_len', sec8_len, mp_len, xSrv_len, xCli_len, xSess_len, seal8_len, mkU_len, lrec, lc2, lm2]; omega)) (by first | omega | (simp only [List.length_append, List.length_cons, List.length_nil, List.length_replicate, sl_len, be_len, sha_len, hmac_len, ex1_len, ex2_len, stretch_len, zer8_len, tC_len, tag1_len, bnN_len, xkp_len, enc_len, chance_len, lbF_len, str2_len, pub_len', sec8_len, mp_len, xSrv_len, xCli_len, xSess_len, seal8_len, mkU_len, lrec, lc2, lm2]; done) | (simp only [List.length_append, List.length_cons, List.length_nil, List.length_replicate, sl_len, be_len, sha_len, hmac_len, ex1_len, ex2_len, stretch_len, zer8_len, tC_len, tag1_len, bnN_len, xkp_len, enc_len, chance_len, lbF_len, str2_len, pub_len', sec8_len, mp_len, xSrv_len, xCli_len, xSess_len, seal8_len, mkU_len, lrec, lc2, lm2]; omega)) (by first | omega | (simp only [List.length_append, List.length_cons, List.length_nil, List.length_replicate, sl_len, be_len, sha_len, hmac_len, ex1_len, ex2_len, stretch_len, zer8_len, tC_len, tag1_len, bnN_len, xkp_len, enc_len, chance_len, lbF_len, str2_len, pub_len', sec8_len, mp_len, xSrv_len, xCli_len, xSess_len, seal8_len, mkU_len, lrec, lc2, lm2]; done) | (simp only [List.length_append, List.length_cons, List.length_nil, List.length_replicate, sl_len, be_len, sha_len, hmac_len, ex1_len, ex2_len, stretch_len, zer8_len, tC_len, tag1_len, bnN_len, xkp_len, enc_len, chance_len, lbF_len, str2_len, pub_len', sec8_len, mp_len, xSrv_len, xCli_len, xSess_len, seal8_len, mkU_len, lrec, lc2, lm2]; omega)) (by first | omega | (simp only [List.length_append, List.length_cons, List.length_nil, List.length_replicate, sl_len, be_len, sha_len, hmac_len, ex1_len, ex2_len, stretch_len, zer8_len, tC_len, tag1_len, bnN_len, xkp_len, enc_len, chance_len, lbF_len, str2_len, pub_len', sec8_len, mp_len, xSrv_len, xCli_len, xSess_len, seal8_len, mkU_len, lrec, lc2, lm2]; done) | (simp only [List.length_append, List.length_cons, List.length_nil, List.length_replicate, sl_len, be_len, sha_len, hmac_len, ex1_len, ex2_len, stretch_len, zer8_len, tC_len, tag1_len, bnN_len, xkp_len, enc_len, chance_len, lbF_len, str2_len, pub_len', sec8_len, mp_len, xSrv_len, xCli_len, xSess_len, seal8_len, mkU_len, lrec, lc2, lm2]; omega)) (by omega) (fun Mq161 hI => ?_) 64 0 M_156 (Nat.zero_add _) ⟨by rw [sl_zero, List.append_nil]; exact p_158, by rw [sl_zero, List.append_nil]; exact p_159, by rw [sl_zero, List.append_nil]; exact p_160, Kp.rf⟩
  obtain ⟨ra1610, ra1611, ra1612, hK161⟩ := hI
  have rb1610 : RO Mq161 434 1280 R1 (320 * s) 320 (m2 ++ (sl (xSrv J P) 0 64)) := ra1610
  have rb1611 : RO Mq161 436 256 R2 (64 * s) 64 (sl (xCli J P) 0 64) := ra1611
  have rb1612 : RO Mq161 438 256 R3 (64 * s) 64 (sl (xSess J P) 0 64) := ra1612
  refine T_aload_n (v := .ref 373) d_Mo_answer_693 rfl (Or.inr ⟨_, rfl⟩) ?_
  have p_162 := (BG.kp (p_156_1) hK161 (by decide) (by decide))
  obtain ⟨v_163, hov_163, hwv_163, hsv_163, hiv_163⟩ := id p_162
  refine T_getfield (v := .ref 425) d_Mo_answer_694 fg_Mo_395 hov_163 rfl ?_
  refine T_iload_n d_Mo_answer_697 rfl ?_
  refine T_iconst (v := nI 1) d_Mo_answer_698 (by decide) ?_
  have p_164 := (ZR.kp ((ZR.kp ((ZR.kp ((ZR.kp ((ZR.kp ((ZR.kp ((ZR.kp ((ZR.kp ((ZR.kp ((ZR.kp ((ZR.kp ((ZR.kp ((ZR.kp ((ZR.kp ((ZR.kp ((ZR.kp ((ZR.kp ((ZR.kp ((ZR.kp ((ZR.kp ((ZR.kp ((ZR.kp ((ZR.kp ((ZR.kp ((ZR.kp ((ZR.kp ((ZR.kp ((ZR.kp ((ZR.kp ((ZR.kp ((ZR.kp (z2) (Ex.kp s_7) (by decide))) (Ex.kp s_21) (by decide))) kp_25 (by decide))) kp_31 (by decide))) hK42 (by decide))) kp_51 (by decide))) kp_53 (by decide))) kp_58 (by decide))) kp_61 (by decide))) hK65 (by decide))) kp_69 (by decide))) hK72 (by decide))) kp_78 (by decide))) hK81 (by decide))) hK84 (by decide))) kp_91 (by decide))) hK94 (by decide))) kp_97 (by decide))) kp_100 (by decide))) kp_103 (by decide))) kp_111 (by decide))) kp_117 (by decide))) kp_121 (by decide))) kp_126 (by decide))) kp_130 (by decide))) kp_134 (by decide))) kp_139 (by decide))) kp_143 (by decide))) kp_153 (by decide))) kp_156 (by decide))) hK161 (by decide))
  obtain ⟨f_165, h_166, h_167⟩ := id p_164
  refine N_zastore (k := s) d_Mo_answer_699 (by decide) h_166 (by omega) (by decide) rfl (fun M_168 h_169 s_170 => ?_)
  have p_171 := ZR.up (b := true) h_167 (by decide) h_169
  refine T_iconst (v := nI 0) d_Mo_answer_700 (by decide) ?_
  have p_172 := (RO.kp (rb1610) (Ex.kp s_170) (by decide))
  have p_173 : RO M_168 434 1280 R1 (320 * s) 320 (m2 ++ xSrv J P) := (by have g := p_172; rw [sl64 (xSrv_len _ _)] at g; exact g)
  have p_174 := RO.sl p_173 px1
  have p_175 := (RO.kp (rb1611) (Ex.kp s_170) (by decide))
  have p_176 : RO M_168 436 256 R2 (64 * s) 64 (xCli J P) := (by have g := p_175; rw [sl64 (xCli_len _ _)] at g; exact g)
  have p_177 := RO.sl p_176 px2
  have p_178 := (RO.kp (rb1612) (Ex.kp s_170) (by decide))
  have p_179 : RO M_168 438 256 R3 (64 * s) 64 (xSess J P) := (by have g := p_178; rw [sl64 (xSess_len _ _)] at g; exact g)
  have p_180 := RO.sl p_179 px3
  have p_181 := (BG.kp (p_162) (Ex.kp s_170) (by decide) (by decide))
  have nb_ : NB M_168 sd (((ch + 1) + 1) + 1) n m 0 := ⟨_, p_181, (show (upd (upd (upd (upd (upd w 66 (nI 0)) 72 (nI (ch + 1))) 72 (nI ((ch + 1) + 1))) 72 (nI (((ch + 1) + 1) + 1))) 75 (nI 431)) 66 = (nI 0) from rfl), (show (upd (upd (upd (upd (upd w 66 (nI 0)) 72 (nI (ch + 1))) 72 (nI ((ch + 1) + 1))) 72 (nI (((ch + 1) + 1) + 1))) 75 (nI 431)) 71 = sd from h71), (show (upd (upd (upd (upd (upd w 66 (nI 0)) 72 (nI (ch + 1))) 72 (nI ((ch + 1) + 1))) 72 (nI (((ch + 1) + 1) + 1))) 75 (nI 431)) 72 = (nI ((((ch + 1) + 1) + 1))) from rfl), (show (upd (upd (upd (upd (upd w 66 (nI 0)) 72 (nI (ch + 1))) 72 (nI ((ch + 1) + 1))) 72 (nI (((ch + 1) + 1) + 1))) 75 (nI 431)) 73 = (nI n) from h73), (show (upd (upd (upd (upd (upd w 66 (nI 0)) 72 (nI (ch + 1))) 72 (nI ((ch + 1) + 1))) 72 (nI (((ch + 1) + 1) + 1))) 75 (nI 431)) 74 = (nI m) from h74)⟩
  have p_182 := (MS.kp ((MS.kp (p_156_0) hK161 (by decide))) (Ex.kp s_170) (by decide))
  have p_183 := (ZR.kp ((ZR.kp ((ZR.kp ((ZR.kp ((ZR.kp ((ZR.kp ((ZR.kp ((ZR.kp ((ZR.kp ((ZR.kp ((ZR.kp ((ZR.kp ((ZR.kp ((ZR.kp ((ZR.kp ((ZR.kp ((ZR.kp ((ZR.kp ((ZR.kp ((ZR.kp ((ZR.kp ((ZR.kp ((ZR.kp ((ZR.kp ((ZR.kp ((ZR.kp ((ZR.kp ((ZR.kp ((ZR.kp ((ZR.kp (p_22) kp_25 (by decide))) kp_31 (by decide))) hK42 (by decide))) kp_51 (by decide))) kp_53 (by decide))) kp_58 (by decide))) kp_61 (by decide))) hK65 (by decide))) kp_69 (by decide))) hK72 (by decide))) kp_78 (by decide))) hK81 (by decide))) hK84 (by decide))) kp_91 (by decide))) hK94 (by decide))) kp_97 (by decide))) kp_100 (by decide))) kp_103 (by decide))) kp_111 (by decide))) kp_117 (by decide))) kp_121 (by decide))) kp_126 (by decide))) kp_130 (by decide))) kp_134 (by decide))) kp_139 (by decide))) kp_143 (by decide))) kp_153 (by decide))) kp_156 (by decide))) hK161 (by decide))) (Ex.kp s_170) (by decide))
  exact T_ret d_Mo_answer_701 rfl (by first | decide | rfl) (by decide) (by decide) ⟨rfl, p_182, nb_, p_183, p_171, p_174, p_177, p_180, (Kp.ex (Kp.tr (Kp.tr (Kp.tr (Kp.tr (Kp.tr (Kp.tr (Kp.tr (Kp.tr (Kp.tr (Kp.tr (Kp.tr (Kp.tr (Kp.tr (Kp.tr (Kp.tr (Kp.tr (Kp.tr (Kp.tr (Kp.tr (Kp.tr (Kp.tr (Kp.tr (Kp.tr (Kp.tr (Kp.tr (Kp.tr (Kp.tr (Kp.tr (Kp.tr (Kp.ex (Kp.ex (Kp.rf : Kp [373, 374, 380, 381, 382, 383, 384, 385, 387, 388, 389, 390, 391, 392, 393, 394, 395, 397, 398, 401, 407, 408, 425, 427, 434, 436, 438, 440, 441, 442, 443, 444, 445, 446, 447, 448, 449] M M) s_7 (by decide)) s_21 (by decide)) (Kp.mono kp_25 (by decide))) (Kp.mono kp_31 (by decide))) (Kp.mono hK42 (by decide))) (Kp.mono kp_51 (by decide +kernel))) (Kp.mono kp_53 (by decide))) (Kp.mono kp_58 (by decide))) (Kp.mono kp_61 (by decide))) (Kp.mono hK65 (by decide))) (Kp.mono kp_69 (by decide))) (Kp.mono hK72 (by decide))) (Kp.mono kp_78 (by decide +kernel))) (Kp.mono hK81 (by decide))) (Kp.mono hK84 (by decide))) (Kp.mono kp_91 (by decide))) (Kp.mono hK94 (by decide))) (Kp.mono kp_97 (by decide +kernel))) (Kp.mono kp_100 (by decide))) (Kp.mono kp_103 (by decide))) (Kp.mono kp_111 (by decide))) (Kp.mono kp_117 (by decide))) (Kp.mono kp_121 (by decide))) (Kp.mono kp_126 (by decide))) (Kp.mono kp_130 (by decide))) (Kp.mono kp_134 (by decide))) (Kp.mono kp_139 (by decide))) (Kp.mono kp_143 (by decide))) (Kp.mono kp_153 (by decide))) (Kp.mono kp_156 (by decide +kernel))) (Kp.mono hK161 (by decide))) s_170 (by decide))⟩
set_option maxRecDepth 100000 in
set_option maxHeartbeats 8000000 in
theorem p_Mo_answer_A {G : GX} {M : List va_E} {sd : Int32} {ch n m th : Nat} {s u xs : Nat} {us : Nat → Nat} {w1 w2 xp ss rc : Nat → List UInt8} {c2 m2 J P : List UInt8} {h1 h2 r1 en : Nat → Bool} (hs : s < 4) (hdue : (h1 s && !r1 s) = true) (hw : (w1 s).length = 96) (hu : u < 8) (hus : us s = u) (hd1 : dec (nB (w1 s) 0)) (hd2 : dec (nB (w1 s) 64)) (he : en u = false) (hd3 : dec (nB (mkU sd ch) 0)) (hC : crd (enc (emul fD (dPt (nB (w1 s) 0)) (usK sd u)) ++ sl (chance sd (nI (ch + 2))) 0 32) (pub (ownK sd) ++ sl (mkU sd ch) 96 96) (sl (mkU sd ch) 32 64) = c2) (hX : scal (chance sd (nI (ch + 4))) = xs) (hM : (c2 ++ sl (chance sd (nI (ch + 3))) 0 32) ++ pub xs = m2) (hJ : (([] ++ enc (emul fD (dPt (nB (w1 s) 64)) xs)) ++ enc (emul fD (dPt (nB (w1 s) 64)) (ownK sd))) ++ enc (emul fD (dPt (nB (mkU sd ch) 0)) xs) = J) (hP : pre8 (mkU sd ch) (w1 s) (pub (ownK sd)) m2 = P) (hms : MS M) (hnb : NB M sd ch n m th) (z1 : ZR M 424 4 h1) (z4 : ZR M 427 4 r1) (hw1 : SL M 433 384 96 4 w1) (z2 : ZR M 425 4 h2) (hsu : NR M 419 4 us) (hse : IA M 402 64 (chance sd (nI 0))) (hsk : SC M 403 16 0 (ownK sd)) (hsp : IA M 404 32 (pub (ownK sd))) (hen : ZR M 405 8 en) (hrc : SL M 406 1536 192 8 rc) (hw2 : SL M 434 1280 320 4 w2) (hxp : SL M 436 256 64 4 xp) (hss : SL M 438 256 64 4 ss) : CT G mi_Mo_answer [.ref 373, .int (nI s)] M (fun r M' => r = some (.int (nI 0)) ∧ MS M' ∧ NB M' sd (ch + 5) n m 0 ∧ ZR M' 427 4 (updB r1 s true) ∧ ZR M' 425 4 (updB h2 s true) ∧ SL M' 434 1280 320 4 (updT w2 s (m2 ++ xSrv J P)) ∧ SL M' 436 256 64 4 (updT xp s (xCli J P)) ∧ SL M' 438 256 64 4 (updT ss s (xSess J P)) ∧ Kp anW M M') := by
  obtain ⟨w, h, h66, h71, h72, h73, h74⟩ := hnb
  refine CT.of (by decide) (Nat.le_of_ble_eq_true rfl) ?_
  show TT G mi_Mo_answer 0 [(0, .ref 373), (1, .int (nI s))] [] M 0 0 _
  have bA : bN (h1 s) = 1 := by revert hdue; cases h1 s <;> cases r1 s <;> decide
  have bB : bN (r1 s) = 0 := by revert hdue; cases h1 s <;> cases r1 s <;> decide
  have bE : bN (en u) = 0 := by rw [he]; rfl
  obtain ⟨R1, ro1, px1⟩ := SL.ro hw2 hs (by decide)
  obtain ⟨R2, ro2, px2⟩ := SL.ro hxp hs (by decide)
  obtain ⟨R3, ro3, px3⟩ := SL.ro hss hs (by decide)
  refine T_aload_n (v := .ref 373) d_Mo_answer_0 rfl (Or.inr ⟨_, rfl⟩) ?_
  refine T_iconst (v := nI 0) d_Mo_answer_1 (by decide) ?_
  obtain ⟨v_4, hov_4, hwv_4, hsv_4, hiv_4⟩ := id h
  refine N_put (e := (moO (upd v_4 66 (nI 0)))) d_Mo_answer_2 (fp_Mo_316 _) hov_4 (Nat.le_of_ble_eq_true rfl) ⟨rfl, rfl⟩ rfl (fun M_5 h_6 s_7 => ?_)
  have p_8 := BG.st (j := 66) (by decide) hwv_4 hsv_4 hiv_4 h_6 (Ex.kp s_7)
  refine T_iload_n d_Mo_answer_5 rfl ?_
  refine T_static (as := [.int (nI s)]) (rest := []) d_Mo_answer_6 rfl (jw_Mo_isSession.jo (by decide)) lm_Mo_545 jt_Mo_isSession rfl (Nat.le_of_ble_eq_true rfl) (by decide) (by decide) (b_Mo_isS_in hs) (fun r M_9 hq => ?_)
  obtain ⟨rfl, he⟩ := hq
  obtain rfl := he.symm
  refine T_eq (pc' := 9) (L' := [(0, .ref 373), (1, .int (nI s))]) (st' := [.int (nI 1)]) (M' := M_5) rfl rfl rfl rfl ?_
  refine N_if_ne_t (b := 1) d_Mo_answer_9 (tgt := 14) rfl (by omega) (by omega) ?_
  refine T_aload_n (v := .ref 373) d_Mo_answer_14 rfl (Or.inr ⟨_, rfl⟩) ?_
  obtain ⟨v_10, hov_10, hwv_10, hsv_10, hiv_10⟩ := id p_8
  refine T_getfield (v := .ref 424) d_Mo_answer_15 fg_Mo_392 hov_10 rfl ?_
  refine T_iload_n d_Mo_answer_18 rfl ?_
  have p_11 := (ZR.kp (z1) (Ex.kp s_7) (by decide))
  obtain ⟨f_12, h_13, h_14⟩ := id p_11
  refine N_zaload (k := s) (x := (nI ((bN (h1 s))))) d_Mo_answer_19 h_13 (by omega) (by decide) (h_14 s (by omega)) ?_
  refine N_if_eq_f (b := (bN (h1 s))) d_Mo_answer_20 (tgt := 32) rfl (by omega) (by omega) ?_
  refine T_aload_n (v := .ref 373) d_Mo_answer_23 rfl (Or.inr ⟨_, rfl⟩) ?_
  refine T_getfield (v := .ref 427) d_Mo_answer_24 fg_Mo_401 hov_10 rfl ?_
  refine T_iload_n d_Mo_answer_27 rfl ?_
  have p_15 := (ZR.kp (z4) (Ex.kp s_7) (by decide))
  obtain ⟨f_16, h_17, h_18⟩ := id p_15
  refine N_zaload (k := s) (x := (nI ((bN (r1 s))))) d_Mo_answer_28 h_17 (by omega) (by decide) (h_18 s (by omega)) ?_
  refine N_if_eq_t (b := (bN (r1 s))) d_Mo_answer_29 (tgt := 34) rfl (by omega) (by omega) ?_
  refine T_iload_n d_Mo_answer_34 rfl ?_
  refine T_istore_n (L' := [(2, .int (nI s)), (0, .ref 373), (1, .int (nI s))]) d_Mo_answer_35 (by decide) rfl ?_
  refine T_aload_n (v := .ref 373) d_Mo_answer_36 rfl (Or.inr ⟨_, rfl⟩) ?_
  refine T_getfield (v := .ref 427) d_Mo_answer_37 fg_Mo_401 hov_10 rfl ?_
  refine T_iload_n d_Mo_answer_40 rfl ?_
  refine T_iconst (v := nI 1) d_Mo_answer_41 (by decide) ?_
  refine N_zastore (k := s) d_Mo_answer_42 (by decide) h_17 (by omega) (by decide) rfl (fun M_19 h_20 s_21 => ?_)
  have p_22 := ZR.up (b := true) h_18 (by decide) h_20
  refine T_aload_n (v := .ref 373) d_Mo_answer_43 rfl (Or.inr ⟨_, rfl⟩) ?_
  refine T_bipush (v := nI 12) d_Mo_answer_44 (by decide) ?_
  refine T_aload_n (v := .ref 373) d_Mo_answer_46 rfl (Or.inr ⟨_, rfl⟩) ?_
  have p_23 := (BG.kp (p_8) (Ex.kp s_21) (by decide) (by decide))
  obtain ⟨v_24, hov_24, hwv_24, hsv_24, hiv_24⟩ := id p_23
  refine T_getfield (v := .ref 433) d_Mo_answer_47 fg_Mo_419 hov_24 rfl ?_
  refine T_bipush (v := nI 96) d_Mo_answer_50 (by decide) ?_
  refine T_iload_n d_Mo_answer_52 rfl ?_
  refine N_imul (a := s) (b := 96) (c := (96 * s)) d_Mo_answer_53 rfl ?_
  have p_26 := (SL.kp ((SL.kp (hw1) (Ex.kp s_7) (by decide))) (Ex.kp s_21) (by decide))
  obtain ⟨L27, hL27, eL27, sg27⟩ := SL.rd p_26 hs
  have nq_25 : nB L27 (96 * s) = nB (w1 s) 0 := nB_sg (b := 0) sg27 (by first | omega | (simp only [List.length_append, List.length_cons, List.length_nil, List.length_replicate, sl_len, be_len, sha_len, hmac_len, ex1_len, ex2_len, stretch_len, zer8_len, tC_len, tag1_len, bnN_len, xkp_len, enc_len, chance_len, lbF_len, str2_len, pub_len', sec8_len, mp_len, xSrv_len, xCli_len, xSess_len, seal8_len, mkU_len]; done) | (simp only [List.length_append, List.length_cons, List.length_nil, List.length_replicate, sl_len, be_len, sha_len, hmac_len, ex1_len, ex2_len, stretch_len, zer8_len, tC_len, tag1_len, bnN_len, xkp_len, enc_len, chance_len, lbF_len, str2_len, pub_len', sec8_len, mp_len, xSrv_len, xCli_len, xSess_len, seal8_len, mkU_len]; omega))
  have ln_25 : (96 * s) + 32 ≤ L27.length := by rw [eL27]; omega
  have p_28 := (MS.kp ((MS.kp (hms) (Ex.kp s_7) (by decide))) (Ex.kp s_21) (by decide))
  refine T_virtual (as := [.int (nI 12), .ref 433, .int (nI ((96 * s)))]) (rest := []) (b := 373) d_Mo_answer_54 rfl (jw_Mo_decode.jo (by decide)) lm_Mo_502 ji_Mo_decode js_Mo_decode hov_24 rfl rfl rfl (Nat.le_of_ble_eq_true rfl) (by decide) (by decide) (b_Mo_decode (at0 := (96 * s)) p_28 p_23 hL27 ln_25 (by decide) (by decide)) (fun r M_25 hq => ?_)
  rw [nq_25] at hq
  obtain ⟨rfl, ms_25, pt_25, kp_25⟩ := hq
  rw [if_pos hd1]
  have pd_25 := pt_25 hd1
  refine T_eq (pc' := 57) (L' := [(2, .int (nI s)), (0, .ref 373), (1, .int (nI s))]) (st' := [.int (nI 1)]) (M' := M_25) rfl rfl rfl rfl ?_
  refine N_if_eq_f (b := 1) d_Mo_answer_57 (tgt := 80) rfl (by omega) (by omega) ?_
  refine T_aload_n (v := .ref 373) d_Mo_answer_60 rfl (Or.inr ⟨_, rfl⟩) ?_
  refine T_bipush (v := nI 12) d_Mo_answer_61 (by decide) ?_
  refine T_aload_n (v := .ref 373) d_Mo_answer_63 rfl (Or.inr ⟨_, rfl⟩) ?_
  have p_29 := (BG.kp (p_23) kp_25 (by decide) (by decide))
  obtain ⟨v_30, hov_30, hwv_30, hsv_30, hiv_30⟩ := id p_29
  refine T_getfield (v := .ref 433) d_Mo_answer_64 fg_Mo_419 hov_30 rfl ?_
  refine T_bipush (v := nI 96) d_Mo_answer_67 (by decide) ?_
  refine T_iload_n d_Mo_answer_69 rfl ?_
  refine N_imul (a := s) (b := 96) (c := (96 * s)) d_Mo_answer_70 rfl ?_
  refine T_bipush (v := nI 64) d_Mo_answer_71 (by decide) ?_
  refine N_iadd (a := 64) (b := (96 * s)) (c := ((96 * s) + 64)) d_Mo_answer_73 rfl ?_
  have p_32 := (SL.kp (p_26) kp_25 (by decide))
  obtain ⟨L33, hL33, eL33, sg33⟩ := SL.rd p_32 hs
  have nq_31 : nB L33 ((96 * s) + 64) = nB (w1 s) 64 := nB_sg (b := 64) sg33 (by first | omega | (simp only [List.length_append, List.length_cons, List.length_nil, List.length_replicate, sl_len, be_len, sha_len, hmac_len, ex1_len, ex2_len, stretch_len, zer8_len, tC_len, tag1_len, bnN_len, xkp_len, enc_len, chance_len, lbF_len, str2_len, pub_len', sec8_len, mp_len, xSrv_len, xCli_len, xSess_len, seal8_len, mkU_len]; done) | (simp only [List.length_append, List.length_cons, List.length_nil, List.length_replicate, sl_len, be_len, sha_len, hmac_len, ex1_len, ex2_len, stretch_len, zer8_len, tC_len, tag1_len, bnN_len, xkp_len, enc_len, chance_len, lbF_len, str2_len, pub_len', sec8_len, mp_len, xSrv_len, xCli_len, xSess_len, seal8_len, mkU_len]; omega))
  have ln_31 : ((96 * s) + 64) + 32 ≤ L33.length := by rw [eL33]; omega
  refine T_virtual (as := [.int (nI 12), .ref 433, .int (nI (((96 * s) + 64)))]) (rest := []) (b := 373) d_Mo_answer_74 rfl (jw_Mo_decode.jo (by decide)) lm_Mo_502 ji_Mo_decode js_Mo_decode hov_30 rfl rfl rfl (Nat.le_of_ble_eq_true rfl) (by decide) (by decide) (b_Mo_decode (at0 := ((96 * s) + 64)) ms_25 p_29 hL33 ln_31 (by decide) (by decide)) (fun r M_31 hq => ?_)
  rw [nq_31] at hq
  obtain ⟨rfl, ms_31, pt_31, kp_31⟩ := hq
  rw [if_pos hd2]
  have pd_31 := pt_31 hd2
  refine T_eq (pc' := 77) (L' := [(2, .int (nI s)), (0, .ref 373), (1, .int (nI s))]) (st' := [.int (nI 1)]) (M' := M_31) rfl rfl rfl rfl ?_
  refine N_if_ne_t (b := 1) d_Mo_answer_77 (tgt := 82) rfl (by omega) (by omega) ?_
  refine T_aload_n (v := .ref 373) d_Mo_answer_82 rfl (Or.inr ⟨_, rfl⟩) ?_
  have p_34 := (BG.kp (p_29) kp_31 (by decide) (by decide))
  obtain ⟨v_35, hov_35, hwv_35, hsv_35, hiv_35⟩ := id p_34
  refine T_getfield (v := .ref 419) d_Mo_answer_83 fg_Mo_377 hov_35 rfl ?_
  refine T_iload_n d_Mo_answer_86 rfl ?_
  have p_36 := (NR.kp ((NR.kp ((NR.kp ((NR.kp (hsu) (Ex.kp s_7) (by decide))) (Ex.kp s_21) (by decide))) kp_25 (by decide))) kp_31 (by decide))
  obtain ⟨f_37, h_38, h_39⟩ := id p_36
  refine N_iaload (k := s) (x := (nI ((us s)))) d_Mo_answer_87 h_38 (by omega) (by decide) (h_39 s (by omega)) ?_
  refine N_topi (y := (nI u)) (by rw [hus]) ?_
  refine T_istore_n (L' := [(3, .int (nI u)), (2, .int (nI s)), (0, .ref 373), (1, .int (nI s))]) d_Mo_answer_88 (by decide) rfl ?_
  refine T_iconst (v := nI 0) d_Mo_answer_89 (by decide) ?_
  refine T_istore (L' := [(4, .int (nI 0)), (3, .int (nI u)), (2, .int (nI s)), (0, .ref 373), (1, .int (nI s))]) d_Mo_answer_90 (by decide) rfl ?_
  have p_40 := (SL.kp ((SL.kp ((SL.kp ((SL.kp (hrc) (Ex.kp s_7) (by decide))) (Ex.kp s_21) (by decide))) kp_25 (by decide))) kp_31 (by decide))
  obtain ⟨L41, hL41, eL41, sg41⟩ := SL.rd p_40 hu
  refine T_sub (L' := [(4, .int (nI 0)), (3, .int (nI u)), (2, .int (nI s)), (1, .int (nI s)), (0, .ref 373)]) (fun q hq => by simp only [List.mem_cons, List.not_mem_nil, or_false] at hq ⊢; rcases hq with rfl | rfl | rfl | rfl | rfl <;> simp) ?_
  refine an_r G p_34 hL41 (by decide) (by rw [eL41]; omega) (by decide) (fun Mc42 hI => ?_) 192 0 M_31 (Nat.zero_add _) ⟨by rw [sl_zero]; exact (MS.ia ms_31 (p := 407) (n := 192) (by decide)), Kp.rf⟩
  obtain ⟨hd42, hK42⟩ := hI
  have ms42 := MS.wi ms_31 hK42 hd42.iq (by decide) (by decide) (by decide)
  refine T_aload_n (v := .ref 373) d_Mo_answer_126 rfl (Or.inr ⟨_, rfl⟩) ?_
  have p_43 := (BG.kp (p_34) hK42 (by decide) (by decide))
  obtain ⟨v_44, hov_44, hwv_44, hsv_44, hiv_44⟩ := id p_43
  refine T_getfield (v := .ref 405) d_Mo_answer_127 fg_Mo_328 hov_44 rfl ?_
  refine T_iload_n d_Mo_answer_130 rfl ?_
  have p_45 := (ZR.kp ((ZR.kp ((ZR.kp ((ZR.kp ((ZR.kp (hen) (Ex.kp s_7) (by decide))) (Ex.kp s_21) (by decide))) kp_25 (by decide))) kp_31 (by decide))) hK42 (by decide))
  obtain ⟨f_46, h_47, h_48⟩ := id p_45
  refine N_zaload (k := u) (x := (nI ((bN (en u))))) d_Mo_answer_131 h_47 (by omega) (by decide) (h_48 u (by omega)) ?_
  refine N_if_ne_f (b := (bN (en u))) d_Mo_answer_132 (tgt := 211) rfl (by omega) (by omega) ?_
  refine T_aload_n (v := .ref 373) d_Mo_answer_135 rfl (Or.inr ⟨_, rfl⟩) ?_
  refine T_virtual (as := []) (rest := []) (b := 373) d_Mo_answer_136 rfl (jw_Mo_chance.jo (by decide)) lm_Mo_304 ji_Mo_chance js_Mo_chance hov_44 rfl rfl rfl (Nat.le_of_ble_eq_true rfl) (by decide) (by decide) (b_Mo_chance ms42 p_43 (show (upd w 66 (nI 0)) 71 = sd from h71) (show (upd w 66 (nI 0)) 72 = nI ch from h72)) (fun r M_49 hq => ?_)
  obtain ⟨rfl, p_49_0, p_49_1, p_49_2, kp_49⟩ := hq
  refine T_eq (pc' := 139) (L' := [(3, .int (nI u)), (2, .int (nI s)), (1, .int (nI s)), (0, .ref 373)]) (st' := []) (M' := M_49) rfl rfl rfl rfl ?_
  refine T_iconst (v := nI 0) d_Mo_answer_139 (by decide) ?_
  refine T_istore (L' := [(4, .int (nI 0)), (3, .int (nI u)), (2, .int (nI s)), (1, .int (nI s)), (0, .ref 373)]) d_Mo_answer_140 (by decide) rfl ?_
  have p_50 := (IA.kp (hd42) kp_49 (by decide))
  refine an_1 G (T := (mkU sd ch)) p_49_1 p_49_2 (by rw [chance_len]; decide) (fun i hi => mkU_32 sd ch i hi) (by decide) (fun Mp1 hI => ?_) 64 0 M_49 rfl ⟨RP.of (IA.ro p_50 (sl_len _ _ _)) (mkU_len sd ch) (fun i hi => by omega), Kp.rf⟩
  obtain ⟨rp1, kq1⟩ := hI
  have ms_p1 : MS Mp1 := by obtain ⟨L, i1, _⟩ := id rp1; exact MS.w1 p_49_0 kq1 i1.iq (by decide)
  refine T_aload_n (v := .ref 373) d_Mo_answer_172 rfl (Or.inr ⟨_, rfl⟩) ?_
  have p_51 := (BG.kp (p_49_1) kq1 (by decide) (by decide))
  obtain ⟨v_53, hov_53, hwv_53, hsv_53, hiv_53⟩ := id p_51
  refine T_virtual (as := []) (rest := []) (b := 373) d_Mo_answer_173 rfl (jw_Mo_chanceScalar.jo (by decide)) lm_Mo_548 ji_Mo_chanceScalar js_Mo_chanceScalar hov_53 rfl rfl rfl (Nat.le_of_ble_eq_true rfl) (by decide) (by decide) (b_Mo_chanceScalar ms_p1 p_51 (show (upd (upd w 66 (nI 0)) 72 (nI (ch + 1))) 71 = sd from h71) (show (upd (upd w 66 (nI 0)) 72 (nI (ch + 1))) 72 = nI (ch + 1) from rfl)) (fun r M_52 hq => ?_)
  obtain ⟨rfl, p_52_0, p_52_1, p_52_2, kp_52⟩ := hq
  refine T_eq (pc' := 176) (L' := [(3, .int (nI u)), (2, .int (nI s)), (1, .int (nI s)), (0, .ref 373)]) (st' := []) (M' := M_52) rfl rfl rfl rfl ?_
  refine T_aload_n (v := .ref 373) d_Mo_answer_176 rfl (Or.inr ⟨_, rfl⟩) ?_
  refine T_aload_n (v := .ref 373) d_Mo_answer_177 rfl (Or.inr ⟨_, rfl⟩) ?_
  obtain ⟨v_54, hov_54, hwv_54, hsv_54, hiv_54⟩ := id p_52_1
  refine T_getfield (v := .ref 407) d_Mo_answer_178 fg_Mo_335 hov_54 rfl ?_
  refine T_iconst (v := nI 0) d_Mo_answer_181 (by decide) ?_
  have rpx := RP.kp rp1 ((Kp.tr (Kp.rf : Kp [373, 374, 380, 382, 381, 383, 395, 397, 398] Mp1 Mp1) (Kp.mono kp_52 (by decide +kernel)))) (by decide)
  obtain ⟨_, ⟨g_55, ga_55, _, _⟩, _⟩ := id rpx
  refine T_virtual (as := [.ref 407, .int (nI 0)]) (rest := []) (b := 373) d_Mo_answer_182 rfl (jw_Mo_publicTo.jo (by decide)) lm_Mo_492 ji_Mo_publicTo js_Mo_publicTo hov_54 rfl rfl rfl (Nat.le_of_ble_eq_true rfl) (by decide) (by decide) (b_Mo_publicTo (at0 := 0) p_52_0 p_52_1 p_52_2 (Nat.lt_trans (scal_lt _) (by decide)) ga_55 (by decide) (by decide) (by decide) (by decide)) (fun r M_55 hq => ?_)
  obtain ⟨rfl, M1_55, ms1_55, kr_55, kz_55, g'_55, z1_55, z2_55⟩ := hq
  have kp_55 : Kp [407, 390, 391, 392, 393, 394] M_52 M_55 := Kp.tr (Kp.mono kr_55 (by decide)) (Kp.mono kz_55 (by decide))
  have rp2 : RP M_55 407 192 _ 0 192 (mkU sd ch) (fun i => i < 96) := RP.ov (j := 0) (RP.kp rpx kr_55 (by decide)) ((kr_55 407 (by decide)).trans ga_55) z1_55 z2_55 rfl (fun i hi => by rw [pub_len'] at hi; exact mkU_0 sd ch i hi) (by rw [pub_len']; decide) (fun i hi d => by rw [pub_len']; have d2 : i < 96 := d; show (32 ≤ i ∧ i < 32 + 64) ∨ (0 ≤ i ∧ i < 0 + 32); omega)
  have ms_55 := MS.w1 ms1_55 kz_55 ⟨_, z1_55⟩ (by decide)
  refine T_eq (pc' := 185) (L' := [(3, .int (nI u)), (2, .int (nI s)), (1, .int (nI s)), (0, .ref 373)]) (st' := []) (M' := M_55) rfl rfl rfl rfl ?_
  refine T_bipush (v := nI 96) d_Mo_answer_185 (by decide) ?_
  refine T_istore (L' := [(4, .int (nI 96)), (3, .int (nI u)), (2, .int (nI s)), (1, .int (nI s)), (0, .ref 373)]) d_Mo_answer_187 (by decide) rfl ?_
  have p_56 := (BG.kp (p_52_1) kp_55 (by decide) (by decide))
  obtain ⟨v_57, hov_57, hwv_57, hsv_57, hiv_57⟩ := id p_56
  refine an_0 G (T := (mkU sd ch)) hov_57 (fun i h1 h2 => mkU_96 sd ch i h1 h2) (fun Mp3 hI => ?_) 96 96 M_55 rfl ⟨⟨Nat.le_refl _, rp2⟩, Kp.rf⟩
  obtain ⟨⟨_, rp3⟩, kq3⟩ := hI
  have i73 : IA Mp3 407 192 (mkU sd ch) := RO.ia (RP.ro rp3 (fun i hi => hi)) (mkU_len sd ch)
  have ms_p3 := MS.w1 ms_55 kq3 i73.iq (by decide)
  refine T_aload_n (v := .ref 373) d_Mo_answer_211 rfl (Or.inr ⟨_, rfl⟩) ?_
  refine T_iload_n d_Mo_answer_212 rfl ?_
  have p_58 := (BG.kp (p_56) kq3 (by decide) (by decide))
  have p_59 := (IA.kp ((IA.kp ((IA.kp ((IA.kp ((IA.kp ((IA.kp ((IA.kp ((IA.kp ((IA.kp ((IA.kp (hse) (Ex.kp s_7) (by decide))) (Ex.kp s_21) (by decide))) kp_25 (by decide))) kp_31 (by decide))) hK42 (by decide))) kp_49 (by decide))) kq1 (by decide))) kp_52 (by decide))) kp_55 (by decide))) kq3 (by decide))
  obtain ⟨v_61, hov_61, hwv_61, hsv_61, hiv_61⟩ := id p_58
  refine T_virtual (as := [.int (nI u)]) (rest := []) (b := 373) d_Mo_answer_213 rfl (jw_Mo_userKey.jo (by decide)) lm_Mo_530 ji_Mo_userKey js_Mo_userKey hov_61 rfl rfl rfl (Nat.le_of_ble_eq_true rfl) (by decide) (by decide) (b_Mo_userKey (u := u) ms_p3 p_58 p_59) (fun r M_60 hq => ?_)
  obtain ⟨rfl, p_60_0, p_60_1, p_60_2, kp_60⟩ := hq
  refine T_eq (pc' := 216) (L' := [(3, .int (nI u)), (2, .int (nI s)), (1, .int (nI s)), (0, .ref 373)]) (st' := []) (M' := M_60) rfl rfl rfl rfl ?_
  refine T_aload_n (v := .ref 373) d_Mo_answer_216 rfl (Or.inr ⟨_, rfl⟩) ?_
  refine T_bipush (v := nI 12) d_Mo_answer_217 (by decide) ?_
  refine T_aload_n (v := .ref 373) d_Mo_answer_219 rfl (Or.inr ⟨_, rfl⟩) ?_
  obtain ⟨v_62, hov_62, hwv_62, hsv_62, hiv_62⟩ := id p_60_1
  refine T_getfield (v := .ref 433) d_Mo_answer_220 fg_Mo_419 hov_62 rfl ?_
  refine T_bipush (v := nI 96) d_Mo_answer_223 (by decide) ?_
  refine T_iload_n d_Mo_answer_225 rfl ?_
  refine N_imul (a := s) (b := 96) (c := (96 * s)) d_Mo_answer_226 rfl ?_
  have p_64 := (SL.kp ((SL.kp ((SL.kp ((SL.kp ((SL.kp ((SL.kp ((SL.kp ((SL.kp (p_32) kp_31 (by decide))) hK42 (by decide))) kp_49 (by decide))) kq1 (by decide))) kp_52 (by decide))) kp_55 (by decide))) kq3 (by decide))) kp_60 (by decide))
  obtain ⟨L65, hL65, eL65, sg65⟩ := SL.rd p_64 hs
  have nq_63 : nB L65 (96 * s) = nB (w1 s) 0 := nB_sg (b := 0) sg65 (by first | omega | (simp only [List.length_append, List.length_cons, List.length_nil, List.length_replicate, sl_len, be_len, sha_len, hmac_len, ex1_len, ex2_len, stretch_len, zer8_len, tC_len, tag1_len, bnN_len, xkp_len, enc_len, chance_len, lbF_len, str2_len, pub_len', sec8_len, mp_len, xSrv_len, xCli_len, xSess_len, seal8_len, mkU_len]; done) | (simp only [List.length_append, List.length_cons, List.length_nil, List.length_replicate, sl_len, be_len, sha_len, hmac_len, ex1_len, ex2_len, stretch_len, zer8_len, tC_len, tag1_len, bnN_len, xkp_len, enc_len, chance_len, lbF_len, str2_len, pub_len', sec8_len, mp_len, xSrv_len, xCli_len, xSess_len, seal8_len, mkU_len]; omega))
  have ln_63 : (96 * s) + 32 ≤ L65.length := by rw [eL65]; omega
  refine T_virtual (as := [.int (nI 12), .ref 433, .int (nI ((96 * s)))]) (rest := []) (b := 373) d_Mo_answer_227 rfl (jw_Mo_decode.jo (by decide)) lm_Mo_502 ji_Mo_decode js_Mo_decode hov_62 rfl rfl rfl (Nat.le_of_ble_eq_true rfl) (by decide) (by decide) (b_Mo_decode (at0 := (96 * s)) p_60_0 p_60_1 hL65 ln_63 (by decide) (by decide)) (fun r M_63 hq => ?_)
  rw [nq_63] at hq
  obtain ⟨rfl, ms_63, pt_63, kp_63⟩ := hq
  rw [if_pos hd1]
  have pd_63 := pt_63 hd1
  refine T_eq (pc' := 230) (L' := [(3, .int (nI u)), (2, .int (nI s)), (1, .int (nI s)), (0, .ref 373)]) (st' := [.int (nI 1)]) (M' := M_63) rfl rfl rfl rfl ?_
  refine T_pop d_Mo_answer_230 rfl ?_
  refine T_aload_n (v := .ref 373) d_Mo_answer_231 rfl (Or.inr ⟨_, rfl⟩) ?_
  refine T_bipush (v := nI 12) d_Mo_answer_232 (by decide) ?_
  refine T_bipush (v := nI 12) d_Mo_answer_234 (by decide) ?_
  have p_66 := (BG.kp (p_60_1) kp_63 (by decide) (by decide))
  have p_67 := (SC.kp (p_60_2) kp_63 (by decide))
  obtain ⟨v_69, hov_69, hwv_69, hsv_69, hiv_69⟩ := id p_66
  refine T_virtual (as := [.int (nI 12), .int (nI 12)]) (rest := []) (b := 373) d_Mo_answer_236 rfl (jw_Mo_timesPoint.jo (by decide)) lm_Mo_290 ji_Mo_timesPoint js_Mo_timesPoint hov_69 rfl rfl rfl (Nat.le_of_ble_eq_true rfl) (by decide) (by decide) (b_Mo_times_12 ms_63 p_66 pd_63 p_67 (dPt_on hd1) (Nat.lt_trans (keyN_lt _ _) (by decide))) (fun r M_68 hq => ?_)
  obtain ⟨rfl, p_68_0, p_68_1, kp_68⟩ := hq
  refine T_eq (pc' := 239) (L' := [(3, .int (nI u)), (2, .int (nI s)), (1, .int (nI s)), (0, .ref 373)]) (st' := []) (M' := M_68) rfl rfl rfl rfl ?_
  refine T_aload_n (v := .ref 373) d_Mo_answer_239 rfl (Or.inr ⟨_, rfl⟩) ?_
  refine T_bipush (v := nI 12) d_Mo_answer_240 (by decide) ?_
  have p_70 := (BG.kp (p_66) kp_68 (by decide) (by decide))
  obtain ⟨v_72, hov_72, hwv_72, hsv_72, hiv_72⟩ := id p_70
  refine T_virtual (as := [.int (nI 12)]) (rest := []) (b := 373) d_Mo_answer_242 rfl (jw_Mo_code.jo (by decide)) lm_Mo_293 ji_Mo_code js_Mo_code hov_72 rfl rfl rfl (Nat.le_of_ble_eq_true rfl) (by decide) (by decide) (b_Mo_code_12 p_68_0 p_70 p_68_1) (fun r M_71 hq => ?_)
  obtain ⟨rfl, p_71_0, p_71_1, p_71_2, kp_71⟩ := hq
  refine T_eq (pc' := 245) (L' := [(3, .int (nI u)), (2, .int (nI s)), (1, .int (nI s)), (0, .ref 373)]) (st' := []) (M' := M_71) rfl rfl rfl rfl ?_
  refine T_sipush (v := nI 320) d_Mo_answer_245 (by decide) ?_
  refine T_iload_n d_Mo_answer_248 rfl ?_
  refine N_imul (a := s) (b := 320) (c := (320 * s)) d_Mo_answer_249 rfl ?_
  refine T_istore (L' := [(4, .int (nI ((320 * s)))), (3, .int (nI u)), (2, .int (nI s)), (1, .int (nI s)), (0, .ref 373)]) d_Mo_answer_250 (by decide) rfl ?_
  refine T_iconst (v := nI 0) d_Mo_answer_252 (by decide) ?_
  refine T_istore (L' := [(5, .int (nI 0)), (4, .int (nI ((320 * s)))), (3, .int (nI u)), (2, .int (nI s)), (1, .int (nI s)), (0, .ref 373)]) d_Mo_answer_253 (by decide) rfl ?_
  have p_73 := (BG.kp (p_70) kp_71 (by decide) (by decide))
  have p_74 := (RO.kp ((RO.kp ((RO.kp ((RO.kp ((RO.kp ((RO.kp ((RO.kp ((RO.kp ((RO.kp ((RO.kp ((RO.kp ((RO.kp ((RO.kp ((RO.kp (ro1) (Ex.kp s_7) (by decide))) (Ex.kp s_21) (by decide))) kp_25 (by decide))) kp_31 (by decide))) hK42 (by decide))) kp_49 (by decide))) kq1 (by decide))) kp_52 (by decide))) kp_55 (by decide))) kq3 (by decide))) kp_60 (by decide))) kp_63 (by decide))) kp_68 (by decide))) kp_71 (by decide))
  refine an_a G (l0 := []) p_73 p_71_2 (by first | omega | (simp only [List.length_append, List.length_cons, List.length_nil, List.length_replicate, sl_len, be_len, sha_len, hmac_len, ex1_len, ex2_len, stretch_len, zer8_len, tC_len, tag1_len, bnN_len, xkp_len, enc_len, chance_len, lbF_len, str2_len, pub_len', sec8_len, mp_len, xSrv_len, xCli_len, xSess_len, seal8_len, mkU_len]; done) | (simp only [List.length_append, List.length_cons, List.length_nil, List.length_replicate, sl_len, be_len, sha_len, hmac_len, ex1_len, ex2_len, stretch_len, zer8_len, tC_len, tag1_len, bnN_len, xkp_len, enc_len, chance_len, lbF_len, str2_len, pub_len', sec8_len, mp_len, xSrv_len, xCli_len, xSess_len, seal8_len, mkU_len]; omega)) (by omega) (by first | omega | (simp only [List.length_append, List.length_cons, List.length_nil, List.length_replicate, sl_len, be_len, sha_len, hmac_len, ex1_len, ex2_len, stretch_len, zer8_len, tC_len, tag1_len, bnN_len, xkp_len, enc_len, chance_len, lbF_len, str2_len, pub_len', sec8_len, mp_len, xSrv_len, xCli_len, xSess_len, seal8_len, mkU_len]; done) | (simp only [List.length_append, List.length_cons, List.length_nil, List.length_replicate, sl_len, be_len, sha_len, hmac_len, ex1_len, ex2_len, stretch_len, zer8_len, tC_len, tag1_len, bnN_len, xkp_len, enc_len, chance_len, lbF_len, str2_len, pub_len', sec8_len, mp_len, xSrv_len, xCli_len, xSess_len, seal8_len, mkU_len]; omega)) (fun Mr75 hI => ?_) 32 0 M_71 (Nat.zero_add _) ⟨by rw [mp_0, List.append_nil]; exact p_74, Kp.rf⟩
  obtain ⟨hd75, hK75⟩ := hI
  have hr75 : RO Mr75 434 1280 R1 (320 * s) 320 (sl (enc (emul fD (dPt (nB (w1 s) 0)) (usK sd u))) 0 32) := hd75
  have p_76 : RO Mr75 434 1280 R1 (320 * s) 320 (enc (emul fD (dPt (nB (w1 s) 0)) (usK sd u))) := (by have g := hr75; rw [sl64 (enc_len _)] at g; exact g)
  refine T_aload_n (v := .ref 373) d_Mo_answer_285 rfl (Or.inr ⟨_, rfl⟩) ?_
  have p_77 := (MS.kp (p_71_0) hK75 (by decide))
  have p_78 := (BG.kp (p_73) hK75 (by decide) (by decide))
  obtain ⟨v_80, hov_80, hwv_80, hsv_80, hiv_80⟩ := id p_78
  refine T_virtual (as := []) (rest := []) (b := 373) d_Mo_answer_286 rfl (jw_Mo_chance.jo (by decide)) lm_Mo_304 ji_Mo_chance js_Mo_chance hov_80 rfl rfl rfl (Nat.le_of_ble_eq_true rfl) (by decide) (by decide) (b_Mo_chance p_77 p_78 (show (upd (upd (upd w 66 (nI 0)) 72 (nI (ch + 1))) 72 (nI ((ch + 1) + 1))) 71 = sd from h71) (show (upd (upd (upd w 66 (nI 0)) 72 (nI (ch + 1))) 72 (nI ((ch + 1) + 1))) 72 = nI ((ch + 1) + 1) from rfl)) (fun r M_79 hq => ?_)
  obtain ⟨rfl, p_79_0, p_79_1, p_79_2, kp_79⟩ := hq
  refine T_eq (pc' := 289) (L' := [(4, .int (nI ((320 * s)))), (3, .int (nI u)), (2, .int (nI s)), (1, .int (nI s)), (0, .ref 373)]) (st' := []) (M' := M_79) rfl rfl rfl rfl ?_
  refine T_iconst (v := nI 0) d_Mo_answer_289 (by decide) ?_
  refine T_istore (L' := [(5, .int (nI 0)), (4, .int (nI ((320 * s)))), (3, .int (nI u)), (2, .int (nI s)), (1, .int (nI s)), (0, .ref 373)]) d_Mo_answer_290 (by decide) rfl ?_
  have p_81 := (RO.kp (p_76) kp_79 (by decide))
  refine an_b G (l0 := (enc (emul fD (dPt (nB (w1 s) 0)) (usK sd u)))) p_79_1 p_79_2 (by first | omega | (simp only [List.length_append, List.length_cons, List.length_nil, List.length_replicate, sl_len, be_len, sha_len, hmac_len, ex1_len, ex2_len, stretch_len, zer8_len, tC_len, tag1_len, bnN_len, xkp_len, enc_len, chance_len, lbF_len, str2_len, pub_len', sec8_len, mp_len, xSrv_len, xCli_len, xSess_len, seal8_len, mkU_len]; done) | (simp only [List.length_append, List.length_cons, List.length_nil, List.length_replicate, sl_len, be_len, sha_len, hmac_len, ex1_len, ex2_len, stretch_len, zer8_len, tC_len, tag1_len, bnN_len, xkp_len, enc_len, chance_len, lbF_len, str2_len, pub_len', sec8_len, mp_len, xSrv_len, xCli_len, xSess_len, seal8_len, mkU_len]; omega)) (by omega) (by first | omega | (simp only [List.length_append, List.length_cons, List.length_nil, List.length_replicate, sl_len, be_len, sha_len, hmac_len, ex1_len, ex2_len, stretch_len, zer8_len, tC_len, tag1_len, bnN_len, xkp_len, enc_len, chance_len, lbF_len, str2_len, pub_len', sec8_len, mp_len, xSrv_len, xCli_len, xSess_len, seal8_len, mkU_len]; done) | (simp only [List.length_append, List.length_cons, List.length_nil, List.length_replicate, sl_len, be_len, sha_len, hmac_len, ex1_len, ex2_len, stretch_len, zer8_len, tC_len, tag1_len, bnN_len, xkp_len, enc_len, chance_len, lbF_len, str2_len, pub_len', sec8_len, mp_len, xSrv_len, xCli_len, xSess_len, seal8_len, mkU_len]; omega)) (fun Mr82 hI => ?_) 32 0 M_79 (Nat.zero_add _) ⟨by rw [mp_0, List.append_nil]; exact p_81, Kp.rf⟩
  obtain ⟨hd82, hK82⟩ := hI
  have hr82 : RO Mr82 434 1280 R1 (320 * s) 320 ((enc (emul fD (dPt (nB (w1 s) 0)) (usK sd u))) ++ (sl (chance sd (nI ((ch + 1) + 1))) 0 32)) := hd82
  refine T_aload_n (v := .ref 373) d_Mo_answer_325 rfl (Or.inr ⟨_, rfl⟩) ?_
  refine T_aload_n (v := .ref 373) d_Mo_answer_326 rfl (Or.inr ⟨_, rfl⟩) ?_
  have p_83 := (BG.kp (p_79_1) hK82 (by decide) (by decide))
  obtain ⟨v_84, hov_84, hwv_84, hsv_84, hiv_84⟩ := id p_83
  refine T_getfield (v := .ref 407) d_Mo_answer_327 fg_Mo_335 hov_84 rfl ?_
  refine T_bipush (v := nI 32) d_Mo_answer_330 (by decide) ?_
  refine T_aload_n (v := .ref 373) d_Mo_answer_332 rfl (Or.inr ⟨_, rfl⟩) ?_
  refine T_getfield (v := .ref 434) d_Mo_answer_333 fg_Mo_422 hov_84 rfl ?_
  refine T_iload d_Mo_answer_336 rfl ?_
  refine T_bipush (v := nI 32) d_Mo_answer_338 (by decide) ?_
  refine N_iadd (a := 32) (b := (320 * s)) (c := ((320 * s) + 32)) d_Mo_answer_340 rfl ?_
  have p_85 := (IA.kp ((IA.kp ((IA.kp ((IA.kp ((IA.kp ((IA.kp ((IA.kp (i73) kp_60 (by decide))) kp_63 (by decide))) kp_68 (by decide))) kp_71 (by decide))) hK75 (by decide))) kp_79 (by decide))) hK82 (by decide))
  obtain ⟨L86, hL86, eL86, _, sg86, _, _⟩ := id hr82
  have le_L86 : ((320 * s) + 32) + 32 ≤ L86.length := by rw [eL86]; omega
  have p_87 := (MS.kp (p_79_0) hK82 (by decide))
  refine T_virtual (as := [.ref 407, .int (nI 32), .ref 434, .int (nI (((320 * s) + 32)))]) (rest := []) (b := 373) d_Mo_answer_341 rfl (jw_Mo_padOf.jo (by decide)) lm_Mo_578 ji_Mo_padOf js_Mo_padOf hov_84 rfl rfl rfl (Nat.le_of_ble_eq_true rfl) (by decide) (by decide) (b_Mo_padOf (at0 := 32) (a1 := ((320 * s) + 32)) p_87 p_83 p_85 hL86 (by first | omega | (simp only [List.length_append, List.length_cons, List.length_nil, List.length_replicate, sl_len, be_len, sha_len, hmac_len, ex1_len, ex2_len, stretch_len, zer8_len, tC_len, tag1_len, bnN_len, xkp_len, enc_len, chance_len, lbF_len, str2_len, pub_len', sec8_len, mp_len, xSrv_len, xCli_len, xSess_len, seal8_len, mkU_len]; done) | (simp only [List.length_append, List.length_cons, List.length_nil, List.length_replicate, sl_len, be_len, sha_len, hmac_len, ex1_len, ex2_len, stretch_len, zer8_len, tC_len, tag1_len, bnN_len, xkp_len, enc_len, chance_len, lbF_len, str2_len, pub_len', sec8_len, mp_len, xSrv_len, xCli_len, xSess_len, seal8_len, mkU_len]; omega)) (by decide) le_L86 (by decide) (by decide) (by decide)) (fun r M_88 hq => ?_)
  obtain ⟨rfl, p_88_0, p_88_1, p_88_2, kp_88⟩ := hq
  refine T_eq (pc' := 344) (L' := [(4, .int (nI ((320 * s)))), (3, .int (nI u)), (2, .int (nI s)), (1, .int (nI s)), (0, .ref 373)]) (st' := []) (M' := M_88) rfl rfl rfl rfl ?_
  have p_89 : IA M_88 448 128 (ex1 (sl (mkU sd ch) 32 64) (sl ((enc (emul fD (dPt (nB (w1 s) 0)) (usK sd u))) ++ (sl (chance sd (nI ((ch + 1) + 1))) 0 32)) 32 32 ++ W15) ++ ex2 (sl (mkU sd ch) 32 64) (sl ((enc (emul fD (dPt (nB (w1 s) 0)) (usK sd u))) ++ (sl (chance sd (nI ((ch + 1) + 1))) 0 32)) 32 32 ++ W15)) := (by have g := p_88_2; rw [show sl L86 ((320 * s) + 32) 32 = sl ((enc (emul fD (dPt (nB (w1 s) 0)) (usK sd u))) ++ (sl (chance sd (nI ((ch + 1) + 1))) 0 32)) 32 32 from sl_sg (b := 32) sg86 (by first | omega | (simp only [List.length_append, List.length_cons, List.length_nil, List.length_replicate, sl_len, be_len, sha_len, hmac_len, ex1_len, ex2_len, stretch_len, zer8_len, tC_len, tag1_len, bnN_len, xkp_len, enc_len, chance_len, lbF_len, str2_len, pub_len', sec8_len, mp_len, xSrv_len, xCli_len, xSess_len, seal8_len, mkU_len]; done) | (simp only [List.length_append, List.length_cons, List.length_nil, List.length_replicate, sl_len, be_len, sha_len, hmac_len, ex1_len, ex2_len, stretch_len, zer8_len, tC_len, tag1_len, bnN_len, xkp_len, enc_len, chance_len, lbF_len, str2_len, pub_len', sec8_len, mp_len, xSrv_len, xCli_len, xSess_len, seal8_len, mkU_len]; omega))] at g; exact g)
  refine T_iconst (v := nI 0) d_Mo_answer_344 (by decide) ?_
  refine T_istore (L' := [(5, .int (nI 0)), (4, .int (nI ((320 * s)))), (3, .int (nI u)), (2, .int (nI s)), (1, .int (nI s)), (0, .ref 373)]) d_Mo_answer_345 (by decide) rfl ?_
  have p_90 := (RO.kp (hr82) kp_88 (by decide))
  have p_92 := (IA.kp ((IA.kp ((IA.kp ((IA.kp ((IA.kp ((IA.kp ((IA.kp ((IA.kp ((IA.kp ((IA.kp ((IA.kp ((IA.kp ((IA.kp ((IA.kp ((IA.kp ((IA.kp ((IA.kp ((IA.kp (hsp) (Ex.kp s_7) (by decide))) (Ex.kp s_21) (by decide))) kp_25 (by decide))) kp_31 (by decide))) hK42 (by decide))) kp_49 (by decide))) kq1 (by decide))) kp_52 (by decide))) kp_55 (by decide))) kq3 (by decide))) kp_60 (by decide))) kp_63 (by decide))) kp_68 (by decide))) kp_71 (by decide))) hK75 (by decide))) kp_79 (by decide))) hK82 (by decide))) kp_88 (by decide))
  refine an_c G (l0 := ((enc (emul fD (dPt (nB (w1 s) 0)) (usK sd u))) ++ (sl (chance sd (nI ((ch + 1) + 1))) 0 32))) p_88_1 p_92 p_89 (by first | omega | (simp only [List.length_append, List.length_cons, List.length_nil, List.length_replicate, sl_len, be_len, sha_len, hmac_len, ex1_len, ex2_len, stretch_len, zer8_len, tC_len, tag1_len, bnN_len, xkp_len, enc_len, chance_len, lbF_len, str2_len, pub_len', sec8_len, mp_len, xSrv_len, xCli_len, xSess_len, seal8_len, mkU_len]; done) | (simp only [List.length_append, List.length_cons, List.length_nil, List.length_replicate, sl_len, be_len, sha_len, hmac_len, ex1_len, ex2_len, stretch_len, zer8_len, tC_len, tag1_len, bnN_len, xkp_len, enc_len, chance_len, lbF_len, str2_len, pub_len', sec8_len, mp_len, xSrv_len, xCli_len, xSess_len, seal8_len, mkU_len]; omega)) (by first | omega | (simp only [List.length_append, List.length_cons, List.length_nil, List.length_replicate, sl_len, be_len, sha_len, hmac_len, ex1_len, ex2_len, stretch_len, zer8_len, tC_len, tag1_len, bnN_len, xkp_len, enc_len, chance_len, lbF_len, str2_len, pub_len', sec8_len, mp_len, xSrv_len, xCli_len, xSess_len, seal8_len, mkU_len]; done) | (simp only [List.length_append, List.length_cons, List.length_nil, List.length_replicate, sl_len, be_len, sha_len, hmac_len, ex1_len, ex2_len, stretch_len, zer8_len, tC_len, tag1_len, bnN_len, xkp_len, enc_len, chance_len, lbF_len, str2_len, pub_len', sec8_len, mp_len, xSrv_len, xCli_len, xSess_len, seal8_len, mkU_len]; omega)) (by omega) (by first | omega | (simp only [List.length_append, List.length_cons, List.length_nil, List.length_replicate, sl_len, be_len, sha_len, hmac_len, ex1_len, ex2_len, stretch_len, zer8_len, tC_len, tag1_len, bnN_len, xkp_len, enc_len, chance_len, lbF_len, str2_len, pub_len', sec8_len, mp_len, xSrv_len, xCli_len, xSess_len, seal8_len, mkU_len]; done) | (simp only [List.length_append, List.length_cons, List.length_nil, List.length_replicate, sl_len, be_len, sha_len, hmac_len, ex1_len, ex2_len, stretch_len, zer8_len, tC_len, tag1_len, bnN_len, xkp_len, enc_len, chance_len, lbF_len, str2_len, pub_len', sec8_len, mp_len, xSrv_len, xCli_len, xSess_len, seal8_len, mkU_len]; omega)) (fun Mr91 hI => ?_) 32 0 M_88 (Nat.zero_add _) ⟨by rw [mp_0, List.append_nil]; exact p_90, Kp.rf⟩
  obtain ⟨hd91, hK91⟩ := hI
  have hr91 : RO Mr91 434 1280 R1 (320 * s) 320 (((enc (emul fD (dPt (nB (w1 s) 0)) (usK sd u))) ++ (sl (chance sd (nI ((ch + 1) + 1))) 0 32)) ++ (mp (fun i => gd (pub (ownK sd)) (0 + i) ^^^ gd (ex1 (sl (mkU sd ch) 32 64) (sl ((enc (emul fD (dPt (nB (w1 s) 0)) (usK sd u))) ++ (sl (chance sd (nI ((ch + 1) + 1))) 0 32)) 32 32 ++ W15) ++ ex2 (sl (mkU sd ch) 32 64) (sl ((enc (emul fD (dPt (nB (w1 s) 0)) (usK sd u))) ++ (sl (chance sd (nI ((ch + 1) + 1))) 0 32)) 32 32 ++ W15)) (0 + i)) 32)) := hd91
  refine T_iconst (v := nI 0) d_Mo_answer_388 (by decide) ?_
  refine T_istore (L' := [(5, .int (nI 0)), (4, .int (nI ((320 * s)))), (3, .int (nI u)), (2, .int (nI s)), (1, .int (nI s)), (0, .ref 373)]) d_Mo_answer_389 (by decide) rfl ?_
  have p_93 := (BG.kp (p_88_1) hK91 (by decide) (by decide))
  have p_95 := (IA.kp ((IA.kp (p_85) kp_88 (by decide))) hK91 (by decide))
  have p_96 := (IA.kp (p_89) hK91 (by decide))
  refine an_d G (l0 := (((enc (emul fD (dPt (nB (w1 s) 0)) (usK sd u))) ++ (sl (chance sd (nI ((ch + 1) + 1))) 0 32)) ++ (mp (fun i => gd (pub (ownK sd)) (0 + i) ^^^ gd (ex1 (sl (mkU sd ch) 32 64) (sl ((enc (emul fD (dPt (nB (w1 s) 0)) (usK sd u))) ++ (sl (chance sd (nI ((ch + 1) + 1))) 0 32)) 32 32 ++ W15) ++ ex2 (sl (mkU sd ch) 32 64) (sl ((enc (emul fD (dPt (nB (w1 s) 0)) (usK sd u))) ++ (sl (chance sd (nI ((ch + 1) + 1))) 0 32)) 32 32 ++ W15)) (0 + i)) 32))) p_93 p_95 p_96 (by first | omega | (simp only [List.length_append, List.length_cons, List.length_nil, List.length_replicate, sl_len, be_len, sha_len, hmac_len, ex1_len, ex2_len, stretch_len, zer8_len, tC_len, tag1_len, bnN_len, xkp_len, enc_len, chance_len, lbF_len, str2_len, pub_len', sec8_len, mp_len, xSrv_len, xCli_len, xSess_len, seal8_len, mkU_len]; done) | (simp only [List.length_append, List.length_cons, List.length_nil, List.length_replicate, sl_len, be_len, sha_len, hmac_len, ex1_len, ex2_len, stretch_len, zer8_len, tC_len, tag1_len, bnN_len, xkp_len, enc_len, chance_len, lbF_len, str2_len, pub_len', sec8_len, mp_len, xSrv_len, xCli_len, xSess_len, seal8_len, mkU_len]; omega)) (by first | omega | (simp only [List.length_append, List.length_cons, List.length_nil, List.length_replicate, sl_len, be_len, sha_len, hmac_len, ex1_len, ex2_len, stretch_len, zer8_len, tC_len, tag1_len, bnN_len, xkp_len, enc_len, chance_len, lbF_len, str2_len, pub_len', sec8_len, mp_len, xSrv_len, xCli_len, xSess_len, seal8_len, mkU_len]; done) | (simp only [List.length_append, List.length_cons, List.length_nil, List.length_replicate, sl_len, be_len, sha_len, hmac_len, ex1_len, ex2_len, stretch_len, zer8_len, tC_len, tag1_len, bnN_len, xkp_len, enc_len, chance_len, lbF_len, str2_len, pub_len', sec8_len, mp_len, xSrv_len, xCli_len, xSess_len, seal8_len, mkU_len]; omega)) (by omega) (by first | omega | (simp only [List.length_append, List.length_cons, List.length_nil, List.length_replicate, sl_len, be_len, sha_len, hmac_len, ex1_len, ex2_len, stretch_len, zer8_len, tC_len, tag1_len, bnN_len, xkp_len, enc_len, chance_len, lbF_len, str2_len, pub_len', sec8_len, mp_len, xSrv_len, xCli_len, xSess_len, seal8_len, mkU_len]; done) | (simp only [List.length_append, List.length_cons, List.length_nil, List.length_replicate, sl_len, be_len, sha_len, hmac_len, ex1_len, ex2_len, stretch_len, zer8_len, tC_len, tag1_len, bnN_len, xkp_len, enc_len, chance_len, lbF_len, str2_len, pub_len', sec8_len, mp_len, xSrv_len, xCli_len, xSess_len, seal8_len, mkU_len]; omega)) (fun Mr94 hI => ?_) 96 0 Mr91 (Nat.zero_add _) ⟨by rw [mp_0, List.append_nil]; exact hr91, Kp.rf⟩
  obtain ⟨hd94, hK94⟩ := hI
  have hr94 : RO Mr94 434 1280 R1 (320 * s) 320 ((((enc (emul fD (dPt (nB (w1 s) 0)) (usK sd u))) ++ (sl (chance sd (nI ((ch + 1) + 1))) 0 32)) ++ (mp (fun i => gd (pub (ownK sd)) (0 + i) ^^^ gd (ex1 (sl (mkU sd ch) 32 64) (sl ((enc (emul fD (dPt (nB (w1 s) 0)) (usK sd u))) ++ (sl (chance sd (nI ((ch + 1) + 1))) 0 32)) 32 32 ++ W15) ++ ex2 (sl (mkU sd ch) 32 64) (sl ((enc (emul fD (dPt (nB (w1 s) 0)) (usK sd u))) ++ (sl (chance sd (nI ((ch + 1) + 1))) 0 32)) 32 32 ++ W15)) (0 + i)) 32)) ++ (mp (fun i => gd (mkU sd ch) (96 + i) ^^^ gd (ex1 (sl (mkU sd ch) 32 64) (sl ((enc (emul fD (dPt (nB (w1 s) 0)) (usK sd u))) ++ (sl (chance sd (nI ((ch + 1) + 1))) 0 32)) 32 32 ++ W15) ++ ex2 (sl (mkU sd ch) 32 64) (sl ((enc (emul fD (dPt (nB (w1 s) 0)) (usK sd u))) ++ (sl (chance sd (nI ((ch + 1) + 1))) 0 32)) 32 32 ++ W15)) (32 + i)) 96)) := hd94
  have p_97 := (IA.kp (p_96) hK94 (by decide))
  have p_98 : RO Mr94 434 1280 R1 (320 * s) 320 c2 := (by have g := hr94; rw [← hC]; unfold crd; rw [← xr_2 (pub (ownK sd) ++ sl (mkU sd ch) 96 96) _ (pub (ownK sd)) (mkU sd ch) (fun i hi => gd_l (by rw [pub_len']; exact hi)) (fun i hi => by rw [gd_r (by rw [pub_len']; omega), pub_len', sl_gd (by omega)]; exact gd_c (by omega)), ← List.append_assoc]; exact g)
  have lc2 : c2.length = 192 := by rw [← hC]; unfold crd; simp only [List.length_append, List.length_cons, List.length_nil, List.length_replicate, sl_len, be_len, sha_len, hmac_len, ex1_len, ex2_len, stretch_len, zer8_len, tC_len, tag1_len, bnN_len, xkp_len, enc_len, chance_len, lbF_len, str2_len, pub_len', sec8_len, mp_len, xSrv_len, xCli_len, xSess_len, seal8_len, mkU_len, xr_len]
  refine T_aload_n (v := .ref 373) d_Mo_answer_438 rfl (Or.inr ⟨_, rfl⟩) ?_
  have p_99 := (MS.kp ((MS.kp (p_88_0) hK91 (by decide))) hK94 (by decide))
  have p_100 := (BG.kp (p_93) hK94 (by decide) (by decide))
  obtain ⟨v_102, hov_102, hwv_102, hsv_102, hiv_102⟩ := id p_100
  refine T_virtual (as := []) (rest := []) (b := 373) d_Mo_answer_439 rfl (jw_Mo_chance.jo (by decide)) lm_Mo_304 ji_Mo_chance js_Mo_chance hov_102 rfl rfl rfl (Nat.le_of_ble_eq_true rfl) (by decide) (by decide) (b_Mo_chance p_99 p_100 (show (upd (upd (upd (upd w 66 (nI 0)) 72 (nI (ch + 1))) 72 (nI ((ch + 1) + 1))) 72 (nI (((ch + 1) + 1) + 1))) 71 = sd from h71) (show (upd (upd (upd (upd w 66 (nI 0)) 72 (nI (ch + 1))) 72 (nI ((ch + 1) + 1))) 72 (nI (((ch + 1) + 1) + 1))) 72 = nI (((ch + 1) + 1) + 1) from rfl)) (fun r M_101 hq => ?_)
  obtain ⟨rfl, p_101_0, p_101_1, p_101_2, kp_101⟩ := hq
  refine T_eq (pc' := 442) (L' := [(4, .int (nI ((320 * s)))), (3, .int (nI u)), (2, .int (nI s)), (1, .int (nI s)), (0, .ref 373)]) (st' := []) (M' := M_101) rfl rfl rfl rfl ?_
  refine T_iconst (v := nI 0) d_Mo_answer_442 (by decide) ?_
  refine T_istore (L' := [(5, .int (nI 0)), (4, .int (nI ((320 * s)))), (3, .int (nI u)), (2, .int (nI s)), (1, .int (nI s)), (0, .ref 373)]) d_Mo_answer_443 (by decide) rfl ?_
  have p_103 := (RO.kp (p_98) kp_101 (by decide))
  refine an_e G (l0 := c2) p_101_1 p_101_2 (by first | omega | (simp only [List.length_append, List.length_cons, List.length_nil, List.length_replicate, sl_len, be_len, sha_len, hmac_len, ex1_len, ex2_len, stretch_len, zer8_len, tC_len, tag1_len, bnN_len, xkp_len, enc_len, chance_len, lbF_len, str2_len, pub_len', sec8_len, mp_len, xSrv_len, xCli_len, xSess_len, seal8_len, mkU_len, lc2]; done) | (simp only [List.length_append, List.length_cons, List.length_nil, List.length_replicate, sl_len, be_len, sha_len, hmac_len, ex1_len, ex2_len, stretch_len, zer8_len, tC_len, tag1_len, bnN_len, xkp_len, enc_len, chance_len, lbF_len, str2_len, pub_len', sec8_len, mp_len, xSrv_len, xCli_len, xSess_len, seal8_len, mkU_len, lc2]; omega)) (by omega) lc2 (fun Mr104 hI => ?_) 32 0 M_101 (Nat.zero_add _) ⟨by rw [mp_0, List.append_nil]; exact p_103, Kp.rf⟩
  obtain ⟨hd104, hK104⟩ := hI
  have hr104 : RO Mr104 434 1280 R1 (320 * s) 320 (c2 ++ (sl (chance sd (nI (((ch + 1) + 1) + 1))) 0 32)) := hd104
  refine T_aload_n (v := .ref 373) d_Mo_answer_479 rfl (Or.inr ⟨_, rfl⟩) ?_
  have p_105 := (MS.kp (p_101_0) hK104 (by decide))
  have p_106 := (BG.kp (p_101_1) hK104 (by decide) (by decide))
  obtain ⟨v_108, hov_108, hwv_108, hsv_108, hiv_108⟩ := id p_106
  refine T_virtual (as := []) (rest := []) (b := 373) d_Mo_answer_480 rfl (jw_Mo_chanceScalar.jo (by decide)) lm_Mo_548 ji_Mo_chanceScalar js_Mo_chanceScalar hov_108 rfl rfl rfl (Nat.le_of_ble_eq_true rfl) (by decide) (by decide) (b_Mo_chanceScalar p_105 p_106 (show (upd (upd (upd (upd (upd w 66 (nI 0)) 72 (nI (ch + 1))) 72 (nI ((ch + 1) + 1))) 72 (nI (((ch + 1) + 1) + 1))) 72 (nI ((((ch + 1) + 1) + 1) + 1))) 71 = sd from h71) (show (upd (upd (upd (upd (upd w 66 (nI 0)) 72 (nI (ch + 1))) 72 (nI ((ch + 1) + 1))) 72 (nI (((ch + 1) + 1) + 1))) 72 (nI ((((ch + 1) + 1) + 1) + 1))) 72 = nI ((((ch + 1) + 1) + 1) + 1) from rfl)) (fun r M_107 hq => ?_)
  obtain ⟨rfl, p_107_0, p_107_1, p_107_2, kp_107⟩ := hq
  refine T_eq (pc' := 483) (L' := [(4, .int (nI ((320 * s)))), (3, .int (nI u)), (2, .int (nI s)), (1, .int (nI s)), (0, .ref 373)]) (st' := []) (M' := M_107) rfl rfl rfl rfl ?_
  refine T_aload_n (v := .ref 373) d_Mo_answer_483 rfl (Or.inr ⟨_, rfl⟩) ?_
  refine T_aload_n (v := .ref 373) d_Mo_answer_484 rfl (Or.inr ⟨_, rfl⟩) ?_
  obtain ⟨v_109, hov_109, hwv_109, hsv_109, hiv_109⟩ := id p_107_1
  refine T_getfield (v := .ref 449) d_Mo_answer_485 fg_Mo_470 hov_109 rfl ?_
  refine T_iconst (v := nI 0) d_Mo_answer_488 (by decide) ?_
  refine T_virtual (as := [.ref 449, .int (nI 0)]) (rest := []) (b := 373) d_Mo_answer_489 rfl (jw_Mo_putScalar.jo (by decide)) lm_Mo_489 ji_Mo_putScalar js_Mo_putScalar hov_109 rfl rfl rfl (Nat.le_of_ble_eq_true rfl) (by decide) (by decide) (b_Mo_put16 p_107_0 p_107_1 p_107_2 (by decide) (by decide) (by decide)) (fun r M_110 hq => ?_)
  obtain ⟨rfl, p_110_0, p_110_1, kp_110⟩ := hq
  refine T_eq (pc' := 492) (L' := [(4, .int (nI ((320 * s)))), (3, .int (nI u)), (2, .int (nI s)), (1, .int (nI s)), (0, .ref 373)]) (st' := []) (M' := M_110) rfl rfl rfl rfl ?_
  refine T_aload_n (v := .ref 373) d_Mo_answer_492 rfl (Or.inr ⟨_, rfl⟩) ?_
  refine T_aload_n (v := .ref 373) d_Mo_answer_493 rfl (Or.inr ⟨_, rfl⟩) ?_
  have p_111 := (BG.kp (p_107_1) kp_110 (by decide) (by decide))
  obtain ⟨v_112, hov_112, hwv_112, hsv_112, hiv_112⟩ := id p_111
  refine T_getfield (v := .ref 434) d_Mo_answer_494 fg_Mo_422 hov_112 rfl ?_
  refine T_iload d_Mo_answer_497 rfl ?_
  refine T_sipush (v := nI 224) d_Mo_answer_499 (by decide) ?_
  refine N_iadd (a := 224) (b := (320 * s)) (c := ((320 * s) + 224)) d_Mo_answer_502 rfl ?_
  have p_114 := (RO.kp ((RO.kp (hr104) kp_107 (by decide))) kp_110 (by decide))
  have p_115 := (SC.kp (p_107_2) kp_110 (by decide))
  obtain ⟨_, ⟨g_113, ga_113, _, _⟩, _, _, _, _, hx_113⟩ := id p_114
  have ro_113 := p_114
  refine T_virtual (as := [.ref 434, .int (nI (((320 * s) + 224)))]) (rest := []) (b := 373) d_Mo_answer_503 rfl (jw_Mo_publicTo.jo (by decide)) lm_Mo_492 ji_Mo_publicTo js_Mo_publicTo hov_112 rfl rfl rfl (Nat.le_of_ble_eq_true rfl) (by decide) (by decide) (b_Mo_publicTo (at0 := ((320 * s) + 224)) p_110_0 p_111 p_115 (Nat.lt_trans (scal_lt _) (by decide)) ga_113 (by omega) (by decide) (by decide) (by decide)) (fun r M_113 hq => ?_)
  obtain ⟨rfl, M1_113, ms1_113, kr_113, kz_113, g'_113, z1_113, z2_113⟩ := hq
  have kp_113 : Kp [434, 390, 391, 392, 393, 394] M_110 M_113 := Kp.tr (Kp.mono kr_113 (by decide)) (Kp.mono kz_113 (by decide))
  have ms_113 := MS.kp ms1_113 kz_113 (by decide)
  have rp_113 := RO.app (RO.kp ro_113 kr_113 (by decide)) ((kr_113 434 (by decide)).trans ga_113) z1_113 z2_113 (by first | omega | (simp only [List.length_append, List.length_cons, List.length_nil, List.length_replicate, sl_len, be_len, sha_len, hmac_len, ex1_len, ex2_len, stretch_len, zer8_len, tC_len, tag1_len, bnN_len, xkp_len, enc_len, chance_len, lbF_len, str2_len, pub_len', sec8_len, mp_len, xSrv_len, xCli_len, xSess_len, seal8_len, mkU_len, lc2]; done) | (simp only [List.length_append, List.length_cons, List.length_nil, List.length_replicate, sl_len, be_len, sha_len, hmac_len, ex1_len, ex2_len, stretch_len, zer8_len, tC_len, tag1_len, bnN_len, xkp_len, enc_len, chance_len, lbF_len, str2_len, pub_len', sec8_len, mp_len, xSrv_len, xCli_len, xSess_len, seal8_len, mkU_len, lc2]; omega)) (by first | omega | (simp only [List.length_append, List.length_cons, List.length_nil, List.length_replicate, sl_len, be_len, sha_len, hmac_len, ex1_len, ex2_len, stretch_len, zer8_len, tC_len, tag1_len, bnN_len, xkp_len, enc_len, chance_len, lbF_len, str2_len, pub_len', sec8_len, mp_len, xSrv_len, xCli_len, xSess_len, seal8_len, mkU_len, lc2]; done) | (simp only [List.length_append, List.length_cons, List.length_nil, List.length_replicate, sl_len, be_len, sha_len, hmac_len, ex1_len, ex2_len, stretch_len, zer8_len, tC_len, tag1_len, bnN_len, xkp_len, enc_len, chance_len, lbF_len, str2_len, pub_len', sec8_len, mp_len, xSrv_len, xCli_len, xSess_len, seal8_len, mkU_len, lc2]; omega))
  refine T_eq (pc' := 506) (L' := [(4, .int (nI ((320 * s)))), (3, .int (nI u)), (2, .int (nI s)), (1, .int (nI s)), (0, .ref 373)]) (st' := []) (M' := M_113) rfl rfl rfl rfl ?_
  have p_116 : RO M_113 434 1280 R1 (320 * s) 320 m2 := (by have g := rp_113; rw [hX, hM] at g; exact g)
  have lm2 : m2.length = 256 := by rw [← hM]; simp only [List.length_append, List.length_cons, List.length_nil, List.length_replicate, sl_len, be_len, sha_len, hmac_len, ex1_len, ex2_len, stretch_len, zer8_len, tC_len, tag1_len, bnN_len, xkp_len, enc_len, chance_len, lbF_len, str2_len, pub_len', sec8_len, mp_len, xSrv_len, xCli_len, xSess_len, seal8_len, mkU_len, lc2]
  have p_117 := (SC.kp (p_110_1) kp_113 (by decide))
  have p_118 : SC M_113 449 16 0 xs := (by have g := p_117; rw [hX] at g; exact g)
  have hxs : xs < 2 ^ 256 := by rw [← hX]; exact Nat.lt_trans (scal_lt _) (by decide)
  refine T_aload_n (v := .ref 373) d_Mo_answer_506 rfl (Or.inr ⟨_, rfl⟩) ?_
  refine T_bipush (v := nI 12) d_Mo_answer_507 (by decide) ?_
  refine T_aload_n (v := .ref 373) d_Mo_answer_509 rfl (Or.inr ⟨_, rfl⟩) ?_
  have p_119 := (BG.kp (p_111) kp_113 (by decide) (by decide))
  obtain ⟨v_120, hov_120, hwv_120, hsv_120, hiv_120⟩ := id p_119
  refine T_getfield (v := .ref 433) d_Mo_answer_510 fg_Mo_419 hov_120 rfl ?_
  refine T_bipush (v := nI 96) d_Mo_answer_513 (by decide) ?_
  refine T_iload_n d_Mo_answer_515 rfl ?_
  refine N_imul (a := s) (b := 96) (c := (96 * s)) d_Mo_answer_516 rfl ?_
  refine T_bipush (v := nI 64) d_Mo_answer_517 (by decide) ?_
  refine N_iadd (a := 64) (b := (96 * s)) (c := ((96 * s) + 64)) d_Mo_answer_519 rfl ?_
  have p_122 := (SL.kp ((SL.kp ((SL.kp ((SL.kp ((SL.kp ((SL.kp ((SL.kp ((SL.kp ((SL.kp ((SL.kp ((SL.kp ((SL.kp ((SL.kp ((SL.kp (p_64) kp_63 (by decide))) kp_68 (by decide))) kp_71 (by decide))) hK75 (by decide))) kp_79 (by decide))) hK82 (by decide))) kp_88 (by decide))) hK91 (by decide))) hK94 (by decide))) kp_101 (by decide))) hK104 (by decide))) kp_107 (by decide))) kp_110 (by decide))) kp_113 (by decide))
  obtain ⟨L123, hL123, eL123, sg123⟩ := SL.rd p_122 hs
  have nq_121 : nB L123 ((96 * s) + 64) = nB (w1 s) 64 := nB_sg (b := 64) sg123 (by first | omega | (simp only [List.length_append, List.length_cons, List.length_nil, List.length_replicate, sl_len, be_len, sha_len, hmac_len, ex1_len, ex2_len, stretch_len, zer8_len, tC_len, tag1_len, bnN_len, xkp_len, enc_len, chance_len, lbF_len, str2_len, pub_len', sec8_len, mp_len, xSrv_len, xCli_len, xSess_len, seal8_len, mkU_len, lc2, lm2]; done) | (simp only [List.length_append, List.length_cons, List.length_nil, List.length_replicate, sl_len, be_len, sha_len, hmac_len, ex1_len, ex2_len, stretch_len, zer8_len, tC_len, tag1_len, bnN_len, xkp_len, enc_len, chance_len, lbF_len, str2_len, pub_len', sec8_len, mp_len, xSrv_len, xCli_len, xSess_len, seal8_len, mkU_len, lc2, lm2]; omega))
  have ln_121 : ((96 * s) + 64) + 32 ≤ L123.length := by rw [eL123]; omega
  refine T_virtual (as := [.int (nI 12), .ref 433, .int (nI (((96 * s) + 64)))]) (rest := []) (b := 373) d_Mo_answer_520 rfl (jw_Mo_decode.jo (by decide)) lm_Mo_502 ji_Mo_decode js_Mo_decode hov_120 rfl rfl rfl (Nat.le_of_ble_eq_true rfl) (by decide) (by decide) (b_Mo_decode (at0 := ((96 * s) + 64)) ms_113 p_119 hL123 ln_121 (by decide) (by decide)) (fun r M_121 hq => ?_)
  rw [nq_121] at hq
  obtain ⟨rfl, ms_121, pt_121, kp_121⟩ := hq
  rw [if_pos hd2]
  have pd_121 := pt_121 hd2
  refine T_eq (pc' := 523) (L' := [(4, .int (nI ((320 * s)))), (3, .int (nI u)), (2, .int (nI s)), (1, .int (nI s)), (0, .ref 373)]) (st' := [.int (nI 1)]) (M' := M_121) rfl rfl rfl rfl ?_
  refine T_pop d_Mo_answer_523 rfl ?_
  refine T_aload_n (v := .ref 373) d_Mo_answer_524 rfl (Or.inr ⟨_, rfl⟩) ?_
  refine T_aload_n (v := .ref 373) d_Mo_answer_525 rfl (Or.inr ⟨_, rfl⟩) ?_
  have p_124 := (BG.kp (p_119) kp_121 (by decide) (by decide))
  obtain ⟨v_125, hov_125, hwv_125, hsv_125, hiv_125⟩ := id p_124
  refine T_getfield (v := .ref 449) d_Mo_answer_526 fg_Mo_470 hov_125 rfl ?_
  refine T_iconst (v := nI 0) d_Mo_answer_529 (by decide) ?_
  have p_126 := (SC.kp (p_118) kp_121 (by decide))
  refine T_virtual (as := [.ref 449, .int (nI 0)]) (rest := []) (b := 373) d_Mo_answer_530 rfl (jw_Mo_takeScalar.jo (by decide)) lm_Mo_533 ji_Mo_takeScalar js_Mo_takeScalar hov_125 rfl rfl rfl (Nat.le_of_ble_eq_true rfl) (by decide) (by decide) (b_Mo_take (at0 := 0) ms_121 p_124 p_126 (by decide) (by decide) (by decide)) (fun r M_127 hq => ?_)
  obtain ⟨rfl, p_127_0, p_127_1, kp_127⟩ := hq
  refine T_eq (pc' := 533) (L' := [(4, .int (nI ((320 * s)))), (3, .int (nI u)), (2, .int (nI s)), (1, .int (nI s)), (0, .ref 373)]) (st' := []) (M' := M_127) rfl rfl rfl rfl ?_
  refine T_aload_n (v := .ref 373) d_Mo_answer_533 rfl (Or.inr ⟨_, rfl⟩) ?_
  refine T_iconst (v := nI 0) d_Mo_answer_534 (by decide) ?_
  refine T_bipush (v := nI 12) d_Mo_answer_535 (by decide) ?_
  have p_128 := (BG.kp (p_124) kp_127 (by decide) (by decide))
  have p_129 := (PTa.kp (pd_121) kp_127 (by decide))
  have p_130 := (SH.kp ((SH.kp ((MS.sh ms_113)) kp_121 (by decide))) kp_127 (by decide))
  obtain ⟨v_132, hov_132, hwv_132, hsv_132, hiv_132⟩ := id p_128
  refine T_virtual (as := [.int (nI 0), .int (nI 12)]) (rest := []) (b := 373) d_Mo_answer_537 rfl (jw_Mo_share.jo (by decide)) lm_Mo_582 ji_Mo_share js_Mo_share hov_132 rfl rfl rfl (Nat.le_of_ble_eq_true rfl) (by decide) (by decide) (b_Mo_share (j := 0) (at0 := 0) p_127_0 p_128 p_127_1 p_129 p_130 (dPt_on hd2) hxs (by decide) (by decide)) (fun r M_131 hq => ?_)
  obtain ⟨rfl, p_131_0, p_131_1, p_131_2, kp_131⟩ := hq
  refine T_eq (pc' := 540) (L' := [(4, .int (nI ((320 * s)))), (3, .int (nI u)), (2, .int (nI s)), (1, .int (nI s)), (0, .ref 373)]) (st' := []) (M' := M_131) rfl rfl rfl rfl ?_
  refine T_aload_n (v := .ref 373) d_Mo_answer_540 rfl (Or.inr ⟨_, rfl⟩) ?_
  refine T_aload_n (v := .ref 373) d_Mo_answer_541 rfl (Or.inr ⟨_, rfl⟩) ?_
  have p_133 := (BG.kp (p_128) kp_131 (by decide) (by decide))
  obtain ⟨v_134, hov_134, hwv_134, hsv_134, hiv_134⟩ := id p_133
  refine T_getfield (v := .ref 403) d_Mo_answer_542 fg_Mo_322 hov_134 rfl ?_
  refine T_iconst (v := nI 0) d_Mo_answer_545 (by decide) ?_
  have p_135 := (SC.kp ((SC.kp ((SC.kp ((SC.kp ((SC.kp ((SC.kp ((SC.kp ((SC.kp ((SC.kp ((SC.kp ((SC.kp ((SC.kp ((SC.kp ((SC.kp ((SC.kp ((SC.kp ((SC.kp ((SC.kp ((SC.kp ((SC.kp ((SC.kp ((SC.kp ((SC.kp ((SC.kp ((SC.kp ((SC.kp ((SC.kp ((SC.kp (hsk) (Ex.kp s_7) (by decide))) (Ex.kp s_21) (by decide))) kp_25 (by decide))) kp_31 (by decide))) hK42 (by decide))) kp_49 (by decide))) kq1 (by decide))) kp_52 (by decide))) kp_55 (by decide))) kq3 (by decide))) kp_60 (by decide))) kp_63 (by decide))) kp_68 (by decide))) kp_71 (by decide))) hK75 (by decide))) kp_79 (by decide))) hK82 (by decide))) kp_88 (by decide))) hK91 (by decide))) hK94 (by decide))) kp_101 (by decide))) hK104 (by decide))) kp_107 (by decide))) kp_110 (by decide))) kp_113 (by decide))) kp_121 (by decide))) kp_127 (by decide))) kp_131 (by decide))
  refine T_virtual (as := [.ref 403, .int (nI 0)]) (rest := []) (b := 373) d_Mo_answer_546 rfl (jw_Mo_takeScalar.jo (by decide)) lm_Mo_533 ji_Mo_takeScalar js_Mo_takeScalar hov_134 rfl rfl rfl (Nat.le_of_ble_eq_true rfl) (by decide) (by decide) (b_Mo_take (at0 := 0) p_131_0 p_133 p_135 (by decide) (by decide) (by decide)) (fun r M_136 hq => ?_)
  obtain ⟨rfl, p_136_0, p_136_1, kp_136⟩ := hq
  refine T_eq (pc' := 549) (L' := [(4, .int (nI ((320 * s)))), (3, .int (nI u)), (2, .int (nI s)), (1, .int (nI s)), (0, .ref 373)]) (st' := []) (M' := M_136) rfl rfl rfl rfl ?_
  refine T_aload_n (v := .ref 373) d_Mo_answer_549 rfl (Or.inr ⟨_, rfl⟩) ?_
  refine T_bipush (v := nI 32) d_Mo_answer_550 (by decide) ?_
  refine T_bipush (v := nI 12) d_Mo_answer_552 (by decide) ?_
  have p_137 := (BG.kp (p_133) kp_136 (by decide) (by decide))
  have p_138 := (PTa.kp (p_131_1) kp_136 (by decide))
  have p_139 := (SH.kp (p_131_2) kp_136 (by decide))
  obtain ⟨v_141, hov_141, hwv_141, hsv_141, hiv_141⟩ := id p_137
  refine T_virtual (as := [.int (nI 32), .int (nI 12)]) (rest := []) (b := 373) d_Mo_answer_554 rfl (jw_Mo_share.jo (by decide)) lm_Mo_582 ji_Mo_share js_Mo_share hov_141 rfl rfl rfl (Nat.le_of_ble_eq_true rfl) (by decide) (by decide) (b_Mo_share (j := 1) (at0 := 32) p_136_0 p_137 p_136_1 p_138 p_139 (dPt_on hd2) (Nat.lt_trans (keyN_lt _ _) (by decide)) (by decide) (by decide)) (fun r M_140 hq => ?_)
  obtain ⟨rfl, p_140_0, p_140_1, p_140_2, kp_140⟩ := hq
  refine T_eq (pc' := 557) (L' := [(4, .int (nI ((320 * s)))), (3, .int (nI u)), (2, .int (nI s)), (1, .int (nI s)), (0, .ref 373)]) (st' := []) (M' := M_140) rfl rfl rfl rfl ?_
  refine T_aload_n (v := .ref 373) d_Mo_answer_557 rfl (Or.inr ⟨_, rfl⟩) ?_
  refine T_bipush (v := nI 12) d_Mo_answer_558 (by decide) ?_
  refine T_aload_n (v := .ref 373) d_Mo_answer_560 rfl (Or.inr ⟨_, rfl⟩) ?_
  have p_142 := (BG.kp (p_137) kp_140 (by decide) (by decide))
  obtain ⟨v_143, hov_143, hwv_143, hsv_143, hiv_143⟩ := id p_142
  refine T_getfield (v := .ref 407) d_Mo_answer_561 fg_Mo_335 hov_143 rfl ?_
  refine T_iconst (v := nI 0) d_Mo_answer_564 (by decide) ?_
  have p_145 := (IA.kp ((IA.kp ((IA.kp ((IA.kp ((IA.kp ((IA.kp ((IA.kp ((IA.kp ((IA.kp ((IA.kp ((IA.kp (p_95) hK94 (by decide))) kp_101 (by decide))) hK104 (by decide))) kp_107 (by decide))) kp_110 (by decide))) kp_113 (by decide))) kp_121 (by decide))) kp_127 (by decide))) kp_131 (by decide))) kp_136 (by decide))) kp_140 (by decide))
  refine T_virtual (as := [.int (nI 12), .ref 407, .int (nI 0)]) (rest := []) (b := 373) d_Mo_answer_565 rfl (jw_Mo_decode.jo (by decide)) lm_Mo_502 ji_Mo_decode js_Mo_decode hov_143 rfl rfl rfl (Nat.le_of_ble_eq_true rfl) (by decide) (by decide) (b_Mo_decode (at0 := 0) p_140_0 p_142 p_145 (by first | omega | (simp only [List.length_append, List.length_cons, List.length_nil, List.length_replicate, sl_len, be_len, sha_len, hmac_len, ex1_len, ex2_len, stretch_len, zer8_len, tC_len, tag1_len, bnN_len, xkp_len, enc_len, chance_len, lbF_len, str2_len, pub_len', sec8_len, mp_len, xSrv_len, xCli_len, xSess_len, seal8_len, mkU_len, lc2, lm2]; done) | (simp only [List.length_append, List.length_cons, List.length_nil, List.length_replicate, sl_len, be_len, sha_len, hmac_len, ex1_len, ex2_len, stretch_len, zer8_len, tC_len, tag1_len, bnN_len, xkp_len, enc_len, chance_len, lbF_len, str2_len, pub_len', sec8_len, mp_len, xSrv_len, xCli_len, xSess_len, seal8_len, mkU_len, lc2, lm2]; omega)) (by decide) (by decide)) (fun r M_144 hq => ?_)
  obtain ⟨rfl, ms_144, pt_144, kp_144⟩ := hq
  rw [if_pos hd3]
  have pd_144 := pt_144 hd3
  refine T_eq (pc' := 568) (L' := [(4, .int (nI ((320 * s)))), (3, .int (nI u)), (2, .int (nI s)), (1, .int (nI s)), (0, .ref 373)]) (st' := [.int (nI 1)]) (M' := M_144) rfl rfl rfl rfl ?_
  refine T_pop d_Mo_answer_568 rfl ?_
  refine T_aload_n (v := .ref 373) d_Mo_answer_569 rfl (Or.inr ⟨_, rfl⟩) ?_
  refine T_aload_n (v := .ref 373) d_Mo_answer_570 rfl (Or.inr ⟨_, rfl⟩) ?_
  have p_146 := (BG.kp (p_142) kp_144 (by decide) (by decide))
  obtain ⟨v_147, hov_147, hwv_147, hsv_147, hiv_147⟩ := id p_146
  refine T_getfield (v := .ref 449) d_Mo_answer_571 fg_Mo_470 hov_147 rfl ?_
  refine T_iconst (v := nI 0) d_Mo_answer_574 (by decide) ?_
  have p_148 := (SC.kp ((SC.kp ((SC.kp ((SC.kp ((SC.kp (p_126) kp_127 (by decide))) kp_131 (by decide))) kp_136 (by decide))) kp_140 (by decide))) kp_144 (by decide))
  refine T_virtual (as := [.ref 449, .int (nI 0)]) (rest := []) (b := 373) d_Mo_answer_575 rfl (jw_Mo_takeScalar.jo (by decide)) lm_Mo_533 ji_Mo_takeScalar js_Mo_takeScalar hov_147 rfl rfl rfl (Nat.le_of_ble_eq_true rfl) (by decide) (by decide) (b_Mo_take (at0 := 0) ms_144 p_146 p_148 (by decide) (by decide) (by decide)) (fun r M_149 hq => ?_)
  obtain ⟨rfl, p_149_0, p_149_1, kp_149⟩ := hq
  refine T_eq (pc' := 578) (L' := [(4, .int (nI ((320 * s)))), (3, .int (nI u)), (2, .int (nI s)), (1, .int (nI s)), (0, .ref 373)]) (st' := []) (M' := M_149) rfl rfl rfl rfl ?_
  refine T_aload_n (v := .ref 373) d_Mo_answer_578 rfl (Or.inr ⟨_, rfl⟩) ?_
  refine T_bipush (v := nI 64) d_Mo_answer_579 (by decide) ?_
  refine T_bipush (v := nI 12) d_Mo_answer_581 (by decide) ?_
  have p_150 := (BG.kp (p_146) kp_149 (by decide) (by decide))
  have p_151 := (PTa.kp (pd_144) kp_149 (by decide))
  have p_152 := (SH.kp ((SH.kp (p_140_2) kp_144 (by decide))) kp_149 (by decide))
  obtain ⟨v_154, hov_154, hwv_154, hsv_154, hiv_154⟩ := id p_150
  refine T_virtual (as := [.int (nI 64), .int (nI 12)]) (rest := []) (b := 373) d_Mo_answer_583 rfl (jw_Mo_share.jo (by decide)) lm_Mo_582 ji_Mo_share js_Mo_share hov_154 rfl rfl rfl (Nat.le_of_ble_eq_true rfl) (by decide) (by decide) (b_Mo_share (j := 2) (at0 := 64) p_149_0 p_150 p_149_1 p_151 p_152 (dPt_on hd3) hxs (by decide) (by decide)) (fun r M_153 hq => ?_)
  obtain ⟨rfl, p_153_0, p_153_1, p_153_2, kp_153⟩ := hq
  refine T_eq (pc' := 586) (L' := [(4, .int (nI ((320 * s)))), (3, .int (nI u)), (2, .int (nI s)), (1, .int (nI s)), (0, .ref 373)]) (st' := []) (M' := M_153) rfl rfl rfl rfl ?_
  refine T_aload_n (v := .ref 373) d_Mo_answer_586 rfl (Or.inr ⟨_, rfl⟩) ?_
  refine T_aload_n (v := .ref 373) d_Mo_answer_587 rfl (Or.inr ⟨_, rfl⟩) ?_
  have p_155 := (BG.kp (p_150) kp_153 (by decide) (by decide))
  obtain ⟨v_156, hov_156, hwv_156, hsv_156, hiv_156⟩ := id p_155
  refine T_getfield (v := .ref 407) d_Mo_answer_588 fg_Mo_335 hov_156 rfl ?_
  refine T_iconst (v := nI 0) d_Mo_answer_591 (by decide) ?_
  refine T_aload_n (v := .ref 373) d_Mo_answer_592 rfl (Or.inr ⟨_, rfl⟩) ?_
  refine T_getfield (v := .ref 433) d_Mo_answer_593 fg_Mo_419 hov_156 rfl ?_
  refine T_bipush (v := nI 96) d_Mo_answer_596 (by decide) ?_
  refine T_iload_n d_Mo_answer_598 rfl ?_
  refine N_imul (a := s) (b := 96) (c := (96 * s)) d_Mo_answer_599 rfl ?_
  refine T_aload_n (v := .ref 373) d_Mo_answer_600 rfl (Or.inr ⟨_, rfl⟩) ?_
  refine T_getfield (v := .ref 404) d_Mo_answer_601 fg_Mo_325 hov_156 rfl ?_
  refine T_iconst (v := nI 0) d_Mo_answer_604 (by decide) ?_
  refine T_aload_n (v := .ref 373) d_Mo_answer_605 rfl (Or.inr ⟨_, rfl⟩) ?_
  refine T_getfield (v := .ref 434) d_Mo_answer_606 fg_Mo_422 hov_156 rfl ?_
  refine T_iload d_Mo_answer_609 rfl ?_
  have p_157 := (SL.kp ((SL.kp ((SL.kp ((SL.kp ((SL.kp ((SL.kp ((SL.kp ((SL.kp (p_122) kp_121 (by decide))) kp_127 (by decide))) kp_131 (by decide))) kp_136 (by decide))) kp_140 (by decide))) kp_144 (by decide))) kp_149 (by decide))) kp_153 (by decide))
  obtain ⟨L158, hL158, eL158, sg158⟩ := SL.rd p_157 hs
  have p_159 := (RO.kp ((RO.kp ((RO.kp ((RO.kp ((RO.kp ((RO.kp ((RO.kp ((RO.kp (p_116) kp_121 (by decide))) kp_127 (by decide))) kp_131 (by decide))) kp_136 (by decide))) kp_140 (by decide))) kp_144 (by decide))) kp_149 (by decide))) kp_153 (by decide))
  obtain ⟨L160, hL160, eL160, _, sg160, _, _⟩ := id p_159
  have p_161 := (IA.kp ((IA.kp ((IA.kp (p_145) kp_144 (by decide))) kp_149 (by decide))) kp_153 (by decide))
  have p_162 := (IA.kp ((IA.kp ((IA.kp ((IA.kp ((IA.kp ((IA.kp ((IA.kp ((IA.kp ((IA.kp ((IA.kp ((IA.kp ((IA.kp ((IA.kp ((IA.kp ((IA.kp (p_92) hK91 (by decide))) hK94 (by decide))) kp_101 (by decide))) hK104 (by decide))) kp_107 (by decide))) kp_110 (by decide))) kp_113 (by decide))) kp_121 (by decide))) kp_127 (by decide))) kp_131 (by decide))) kp_136 (by decide))) kp_140 (by decide))) kp_144 (by decide))) kp_149 (by decide))) kp_153 (by decide))
  refine T_virtual (as := [.ref 407, .int (nI 0), .ref 433, .int (nI ((96 * s))), .ref 404, .int (nI 0), .ref 434, .int (nI ((320 * s)))]) (rest := []) (b := 373) d_Mo_answer_611 rfl (jw_Mo_preambleOf.jo (by decide)) lm_Mo_585 ji_Mo_preambleOf js_Mo_preambleOf hov_156 rfl rfl rfl (Nat.le_of_ble_eq_true rfl) (by decide) (by decide) (b_Mo_preambleOf (aa := 0) (ab := (96 * s)) (ac := 0) (ad := (320 * s)) p_153_0 p_155 p_161 hL158 p_162 hL160 (by first | omega | (simp only [List.length_append, List.length_cons, List.length_nil, List.length_replicate, sl_len, be_len, sha_len, hmac_len, ex1_len, ex2_len, stretch_len, zer8_len, tC_len, tag1_len, bnN_len, xkp_len, enc_len, chance_len, lbF_len, str2_len, pub_len', sec8_len, mp_len, xSrv_len, xCli_len, xSess_len, seal8_len, mkU_len, lc2, lm2]; done) | (simp only [List.length_append, List.length_cons, List.length_nil, List.length_replicate, sl_len, be_len, sha_len, hmac_len, ex1_len, ex2_len, stretch_len, zer8_len, tC_len, tag1_len, bnN_len, xkp_len, enc_len, chance_len, lbF_len, str2_len, pub_len', sec8_len, mp_len, xSrv_len, xCli_len, xSess_len, seal8_len, mkU_len, lc2, lm2]; omega)) (by decide) (by decide) (by rw [eL158]; omega) (by decide) (by decide) (by first | omega | (simp only [List.length_append, List.length_cons, List.length_nil, List.length_replicate, sl_len, be_len, sha_len, hmac_len, ex1_len, ex2_len, stretch_len, zer8_len, tC_len, tag1_len, bnN_len, xkp_len, enc_len, chance_len, lbF_len, str2_len, pub_len', sec8_len, mp_len, xSrv_len, xCli_len, xSess_len, seal8_len, mkU_len, lc2, lm2]; done) | (simp only [List.length_append, List.length_cons, List.length_nil, List.length_replicate, sl_len, be_len, sha_len, hmac_len, ex1_len, ex2_len, stretch_len, zer8_len, tC_len, tag1_len, bnN_len, xkp_len, enc_len, chance_len, lbF_len, str2_len, pub_len', sec8_len, mp_len, xSrv_len, xCli_len, xSess_len, seal8_len, mkU_len, lc2, lm2]; omega)) (by decide) (by decide) (by rw [eL160]; omega) (by decide) (by decide)) (fun r M_163 hq => ?_)
  obtain ⟨rfl, p_163_0, p_163_1, p_163_2, kp_163⟩ := hq
  refine T_eq (pc' := 614) (L' := [(4, .int (nI ((320 * s)))), (3, .int (nI u)), (2, .int (nI s)), (1, .int (nI s)), (0, .ref 373)]) (st' := []) (M' := M_163) rfl rfl rfl rfl ?_
  have p_164 : IA M_163 441 500 P := (by have g := p_163_2; rw [show pre8 (sl (mkU sd ch) 0 32) (sl L158 (96 * s) 96) (sl (pub (ownK sd)) 0 32) (sl L160 (320 * s) 256) = P from (pre8_c (sl64 (sl_len _ _ _)) ((sl64 (sl_len _ _ _)).trans (sl_sg (b := 0) sg158 (by rw [hw]; decide))) (sl64 (sl_len _ _ _)) ((sl64 (sl_len _ _ _)).trans (sl_sg (b := 0) sg160 (by rw [lm2]; decide)))).trans hP] at g; exact g)
  have lP : P.length = 431 := by rw [← hP]; exact pre8_len _ _ _ _
  have p_165 := (SH.kp (p_153_2) kp_163 (by decide))
  have hj9 : IA M_163 440 96 J := by rw [← hJ]; exact SH.ia p_165 (enc_len _) (enc_len _) (enc_len _)
  have lJ : J.length = 96 := by rw [← hJ]; simp only [List.length_append, List.length_cons, List.length_nil, List.length_replicate, sl_len, be_len, sha_len, hmac_len, ex1_len, ex2_len, stretch_len, zer8_len, tC_len, tag1_len, bnN_len, xkp_len, enc_len, chance_len, lbF_len, str2_len, pub_len', sec8_len, mp_len, xSrv_len, xCli_len, xSess_len, seal8_len, mkU_len, lc2, lm2]
  refine T_aload_n (v := .ref 373) d_Mo_answer_614 rfl (Or.inr ⟨_, rfl⟩) ?_
  obtain ⟨v_167, hov_167, hwv_167, hsv_167, hiv_167⟩ := id p_163_1
  refine T_virtual (as := []) (rest := []) (b := 373) d_Mo_answer_615 rfl (jw_Mo_derive.jo (by decide)) lm_Mo_589 ji_Mo_derive js_Mo_derive hov_167 rfl rfl rfl (Nat.le_of_ble_eq_true rfl) (by decide) (by decide) (b_Mo_derive p_163_0 p_163_1 hj9 p_164 lJ lP (show (upd (upd (upd (upd (upd (upd (upd w 66 (nI 0)) 72 (nI (ch + 1))) 72 (nI ((ch + 1) + 1))) 72 (nI (((ch + 1) + 1) + 1))) 72 (nI ((((ch + 1) + 1) + 1) + 1))) 72 (nI (((((ch + 1) + 1) + 1) + 1) + 1))) 75 (nI 431)) 75 = nI 431 from rfl)) (fun r M_166 hq => ?_)
  obtain ⟨rfl, p_166_0, p_166_1, p_166_2, p_166_3, p_166_4, kp_166⟩ := hq
  refine T_eq (pc' := 618) (L' := [(4, .int (nI ((320 * s)))), (3, .int (nI u)), (2, .int (nI s)), (1, .int (nI s)), (0, .ref 373)]) (st' := []) (M' := M_166) rfl rfl rfl rfl ?_
  refine T_iconst (v := nI 0) d_Mo_answer_618 (by decide) ?_
  refine T_istore (L' := [(5, .int (nI 0)), (4, .int (nI ((320 * s)))), (3, .int (nI u)), (2, .int (nI s)), (1, .int (nI s)), (0, .ref 373)]) d_Mo_answer_619 (by decide) rfl ?_
  have p_168 := (RO.kp ((RO.kp (p_159) kp_163 (by decide))) kp_166 (by decide))
  have p_169 := (RO.kp ((RO.kp ((RO.kp ((RO.kp ((RO.kp ((RO.kp ((RO.kp ((RO.kp ((RO.kp ((RO.kp ((RO.kp ((RO.kp ((RO.kp ((RO.kp ((RO.kp ((RO.kp ((RO.kp ((RO.kp ((RO.kp ((RO.kp ((RO.kp ((RO.kp ((RO.kp ((RO.kp ((RO.kp ((RO.kp ((RO.kp ((RO.kp ((RO.kp ((RO.kp ((RO.kp ((RO.kp ((RO.kp ((RO.kp ((RO.kp (ro2) (Ex.kp s_7) (by decide))) (Ex.kp s_21) (by decide))) kp_25 (by decide))) kp_31 (by decide))) hK42 (by decide))) kp_49 (by decide))) kq1 (by decide))) kp_52 (by decide))) kp_55 (by decide))) kq3 (by decide))) kp_60 (by decide))) kp_63 (by decide))) kp_68 (by decide))) kp_71 (by decide))) hK75 (by decide))) kp_79 (by decide))) hK82 (by decide))) kp_88 (by decide))) hK91 (by decide))) hK94 (by decide))) kp_101 (by decide))) hK104 (by decide))) kp_107 (by decide))) kp_110 (by decide))) kp_113 (by decide))) kp_121 (by decide))) kp_127 (by decide))) kp_131 (by decide))) kp_136 (by decide))) kp_140 (by decide))) kp_144 (by decide))) kp_149 (by decide))) kp_153 (by decide))) kp_163 (by decide))) kp_166 (by decide))
  have p_170 := (RO.kp ((RO.kp ((RO.kp ((RO.kp ((RO.kp ((RO.kp ((RO.kp ((RO.kp ((RO.kp ((RO.kp ((RO.kp ((RO.kp ((RO.kp ((RO.kp ((RO.kp ((RO.kp ((RO.kp ((RO.kp ((RO.kp ((RO.kp ((RO.kp ((RO.kp ((RO.kp ((RO.kp ((RO.kp ((RO.kp ((RO.kp ((RO.kp ((RO.kp ((RO.kp ((RO.kp ((RO.kp ((RO.kp ((RO.kp ((RO.kp (ro3) (Ex.kp s_7) (by decide))) (Ex.kp s_21) (by decide))) kp_25 (by decide))) kp_31 (by decide))) hK42 (by decide))) kp_49 (by decide))) kq1 (by decide))) kp_52 (by decide))) kp_55 (by decide))) kq3 (by decide))) kp_60 (by decide))) kp_63 (by decide))) kp_68 (by decide))) kp_71 (by decide))) hK75 (by decide))) kp_79 (by decide))) hK82 (by decide))) kp_88 (by decide))) hK91 (by decide))) hK94 (by decide))) kp_101 (by decide))) hK104 (by decide))) kp_107 (by decide))) kp_110 (by decide))) kp_113 (by decide))) kp_121 (by decide))) kp_127 (by decide))) kp_131 (by decide))) kp_136 (by decide))) kp_140 (by decide))) kp_144 (by decide))) kp_149 (by decide))) kp_153 (by decide))) kp_163 (by decide))) kp_166 (by decide))
  refine an_f G (l0 := m2) (l1 := []) (l2 := []) p_166_1 p_166_2 (by first | omega | (simp only [List.length_append, List.length_cons, List.length_nil, List.length_replicate, sl_len, be_len, sha_len, hmac_len, ex1_len, ex2_len, stretch_len, zer8_len, tC_len, tag1_len, bnN_len, xkp_len, enc_len, chance_len, lbF_len, str2_len, pub_len', sec8_len, mp_len, xSrv_len, xCli_len, xSess_len, seal8_len, mkU_len, lc2, lm2]; done) | (simp only [List.length_append, List.length_cons, List.length_nil, List.length_replicate, sl_len, be_len, sha_len, hmac_len, ex1_len, ex2_len, stretch_len, zer8_len, tC_len, tag1_len, bnN_len, xkp_len, enc_len, chance_len, lbF_len, str2_len, pub_len', sec8_len, mp_len, xSrv_len, xCli_len, xSess_len, seal8_len, mkU_len, lc2, lm2]; omega)) p_166_3 (by first | omega | (simp only [List.length_append, List.length_cons, List.length_nil, List.length_replicate, sl_len, be_len, sha_len, hmac_len, ex1_len, ex2_len, stretch_len, zer8_len, tC_len, tag1_len, bnN_len, xkp_len, enc_len, chance_len, lbF_len, str2_len, pub_len', sec8_len, mp_len, xSrv_len, xCli_len, xSess_len, seal8_len, mkU_len, lc2, lm2]; done) | (simp only [List.length_append, List.length_cons, List.length_nil, List.length_replicate, sl_len, be_len, sha_len, hmac_len, ex1_len, ex2_len, stretch_len, zer8_len, tC_len, tag1_len, bnN_len, xkp_len, enc_len, chance_len, lbF_len, str2_len, pub_len', sec8_len, mp_len, xSrv_len, xCli_len, xSess_len, seal8_len, mkU_len, lc2, lm2]; omega)) p_166_4 (by first | omega | (simp only [List.length_append, List.length_cons, List.length_nil, List.length_replicate, sl_len, be_len, sha_len, hmac_len, ex1_len, ex2_len, stretch_len, zer8_len, tC_len, tag1_len, bnN_len, xkp_len, enc_len, chance_len, lbF_len, str2_len, pub_len', sec8_len, mp_len, xSrv_len, xCli_len, xSess_len, seal8_len, mkU_len, lc2, lm2]; done) | (simp only [List.length_append, List.length_cons, List.length_nil, List.length_replicate, sl_len, be_len, sha_len, hmac_len, ex1_len, ex2_len, stretch_len, zer8_len, tC_len, tag1_len, bnN_len, xkp_len, enc_len, chance_len, lbF_len, str2_len, pub_len', sec8_len, mp_len, xSrv_len, xCli_len, xSess_len, seal8_len, mkU_len, lc2, lm2]; omega)) (by first | omega | (simp only [List.length_append, List.length_cons, List.length_nil, List.length_replicate, sl_len, be_len, sha_len, hmac_len, ex1_len, ex2_len, stretch_len, zer8_len, tC_len, tag1_len, bnN_len, xkp_len, enc_len, chance_len, lbF_len, str2_len, pub_len', sec8_len, mp_len, xSrv_len, xCli_len, xSess_len, seal8_len, mkU_len, lc2, lm2]; done) | (simp only [List.length_append, List.length_cons, List.length_nil, List.length_replicate, sl_len, be_len, sha_len, hmac_len, ex1_len, ex2_len, stretch_len, zer8_len, tC_len, tag1_len, bnN_len, xkp_len, enc_len, chance_len, lbF_len, str2_len, pub_len', sec8_len, mp_len, xSrv_len, xCli_len, xSess_len, seal8_len, mkU_len, lc2, lm2]; omega)) (by first | omega | (simp only [List.length_append, List.length_cons, List.length_nil, List.length_replicate, sl_len, be_len, sha_len, hmac_len, ex1_len, ex2_len, stretch_len, zer8_len, tC_len, tag1_len, bnN_len, xkp_len, enc_len, chance_len, lbF_len, str2_len, pub_len', sec8_len, mp_len, xSrv_len, xCli_len, xSess_len, seal8_len, mkU_len, lc2, lm2]; done) | (simp only [List.length_append, List.length_cons, List.length_nil, List.length_replicate, sl_len, be_len, sha_len, hmac_len, ex1_len, ex2_len, stretch_len, zer8_len, tC_len, tag1_len, bnN_len, xkp_len, enc_len, chance_len, lbF_len, str2_len, pub_len', sec8_len, mp_len, xSrv_len, xCli_len, xSess_len, seal8_len, mkU_len, lc2, lm2]; omega)) (by first | omega | (simp only [List.length_append, List.length_cons, List.length_nil, List.length_replicate, sl_len, be_len, sha_len, hmac_len, ex1_len, ex2_len, stretch_len, zer8_len, tC_len, tag1_len, bnN_len, xkp_len, enc_len, chance_len, lbF_len, str2_len, pub_len', sec8_len, mp_len, xSrv_len, xCli_len, xSess_len, seal8_len, mkU_len, lc2, lm2]; done) | (simp only [List.length_append, List.length_cons, List.length_nil, List.length_replicate, sl_len, be_len, sha_len, hmac_len, ex1_len, ex2_len, stretch_len, zer8_len, tC_len, tag1_len, bnN_len, xkp_len, enc_len, chance_len, lbF_len, str2_len, pub_len', sec8_len, mp_len, xSrv_len, xCli_len, xSess_len, seal8_len, mkU_len, lc2, lm2]; omega)) (by omega) (fun Mq171 hI => ?_) 64 0 M_166 (Nat.zero_add _) ⟨by rw [sl_zero, List.append_nil]; exact p_168, by rw [sl_zero, List.append_nil]; exact p_169, by rw [sl_zero, List.append_nil]; exact p_170, Kp.rf⟩
  obtain ⟨ra1710, ra1711, ra1712, hK171⟩ := hI
  have rb1710 : RO Mq171 434 1280 R1 (320 * s) 320 (m2 ++ (sl (xSrv J P) 0 64)) := ra1710
  have rb1711 : RO Mq171 436 256 R2 (64 * s) 64 (sl (xCli J P) 0 64) := ra1711
  have rb1712 : RO Mq171 438 256 R3 (64 * s) 64 (sl (xSess J P) 0 64) := ra1712
  refine T_aload_n (v := .ref 373) d_Mo_answer_693 rfl (Or.inr ⟨_, rfl⟩) ?_
  have p_172 := (BG.kp (p_166_1) hK171 (by decide) (by decide))
  obtain ⟨v_173, hov_173, hwv_173, hsv_173, hiv_173⟩ := id p_172
  refine T_getfield (v := .ref 425) d_Mo_answer_694 fg_Mo_395 hov_173 rfl ?_
  refine T_iload_n d_Mo_answer_697 rfl ?_
  refine T_iconst (v := nI 1) d_Mo_answer_698 (by decide) ?_
  have p_174 := (ZR.kp ((ZR.kp ((ZR.kp ((ZR.kp ((ZR.kp ((ZR.kp ((ZR.kp ((ZR.kp ((ZR.kp ((ZR.kp ((ZR.kp ((ZR.kp ((ZR.kp ((ZR.kp ((ZR.kp ((ZR.kp ((ZR.kp ((ZR.kp ((ZR.kp ((ZR.kp ((ZR.kp ((ZR.kp ((ZR.kp ((ZR.kp ((ZR.kp ((ZR.kp ((ZR.kp ((ZR.kp ((ZR.kp ((ZR.kp ((ZR.kp ((ZR.kp ((ZR.kp ((ZR.kp ((ZR.kp ((ZR.kp (z2) (Ex.kp s_7) (by decide))) (Ex.kp s_21) (by decide))) kp_25 (by decide))) kp_31 (by decide))) hK42 (by decide))) kp_49 (by decide))) kq1 (by decide))) kp_52 (by decide))) kp_55 (by decide))) kq3 (by decide))) kp_60 (by decide))) kp_63 (by decide))) kp_68 (by decide))) kp_71 (by decide))) hK75 (by decide))) kp_79 (by decide))) hK82 (by decide))) kp_88 (by decide))) hK91 (by decide))) hK94 (by decide))) kp_101 (by decide))) hK104 (by decide))) kp_107 (by decide))) kp_110 (by decide))) kp_113 (by decide))) kp_121 (by decide))) kp_127 (by decide))) kp_131 (by decide))) kp_136 (by decide))) kp_140 (by decide))) kp_144 (by decide))) kp_149 (by decide))) kp_153 (by decide))) kp_163 (by decide))) kp_166 (by decide))) hK171 (by decide))
  obtain ⟨f_175, h_176, h_177⟩ := id p_174
  refine N_zastore (k := s) d_Mo_answer_699 (by decide) h_176 (by omega) (by decide) rfl (fun M_178 h_179 s_180 => ?_)
  have p_181 := ZR.up (b := true) h_177 (by decide) h_179
  refine T_iconst (v := nI 0) d_Mo_answer_700 (by decide) ?_
  have p_182 := (RO.kp (rb1710) (Ex.kp s_180) (by decide))
  have p_183 : RO M_178 434 1280 R1 (320 * s) 320 (m2 ++ xSrv J P) := (by have g := p_182; rw [sl64 (xSrv_len _ _)] at g; exact g)
  have p_184 := RO.sl p_183 px1
  have p_185 := (RO.kp (rb1711) (Ex.kp s_180) (by decide))
  have p_186 : RO M_178 436 256 R2 (64 * s) 64 (xCli J P) := (by have g := p_185; rw [sl64 (xCli_len _ _)] at g; exact g)
  have p_187 := RO.sl p_186 px2
  have p_188 := (RO.kp (rb1712) (Ex.kp s_180) (by decide))
  have p_189 : RO M_178 438 256 R3 (64 * s) 64 (xSess J P) := (by have g := p_188; rw [sl64 (xSess_len _ _)] at g; exact g)
  have p_190 := RO.sl p_189 px3
  have p_191 := (BG.kp (p_172) (Ex.kp s_180) (by decide) (by decide))
  have nb_ : NB M_178 sd (((((ch + 1) + 1) + 1) + 1) + 1) n m 0 := ⟨_, p_191, (show (upd (upd (upd (upd (upd (upd (upd w 66 (nI 0)) 72 (nI (ch + 1))) 72 (nI ((ch + 1) + 1))) 72 (nI (((ch + 1) + 1) + 1))) 72 (nI ((((ch + 1) + 1) + 1) + 1))) 72 (nI (((((ch + 1) + 1) + 1) + 1) + 1))) 75 (nI 431)) 66 = (nI 0) from rfl), (show (upd (upd (upd (upd (upd (upd (upd w 66 (nI 0)) 72 (nI (ch + 1))) 72 (nI ((ch + 1) + 1))) 72 (nI (((ch + 1) + 1) + 1))) 72 (nI ((((ch + 1) + 1) + 1) + 1))) 72 (nI (((((ch + 1) + 1) + 1) + 1) + 1))) 75 (nI 431)) 71 = sd from h71), (show (upd (upd (upd (upd (upd (upd (upd w 66 (nI 0)) 72 (nI (ch + 1))) 72 (nI ((ch + 1) + 1))) 72 (nI (((ch + 1) + 1) + 1))) 72 (nI ((((ch + 1) + 1) + 1) + 1))) 72 (nI (((((ch + 1) + 1) + 1) + 1) + 1))) 75 (nI 431)) 72 = (nI ((((((ch + 1) + 1) + 1) + 1) + 1))) from rfl), (show (upd (upd (upd (upd (upd (upd (upd w 66 (nI 0)) 72 (nI (ch + 1))) 72 (nI ((ch + 1) + 1))) 72 (nI (((ch + 1) + 1) + 1))) 72 (nI ((((ch + 1) + 1) + 1) + 1))) 72 (nI (((((ch + 1) + 1) + 1) + 1) + 1))) 75 (nI 431)) 73 = (nI n) from h73), (show (upd (upd (upd (upd (upd (upd (upd w 66 (nI 0)) 72 (nI (ch + 1))) 72 (nI ((ch + 1) + 1))) 72 (nI (((ch + 1) + 1) + 1))) 72 (nI ((((ch + 1) + 1) + 1) + 1))) 72 (nI (((((ch + 1) + 1) + 1) + 1) + 1))) 75 (nI 431)) 74 = (nI m) from h74)⟩
  have p_192 := (MS.kp ((MS.kp (p_166_0) hK171 (by decide))) (Ex.kp s_180) (by decide))
  have p_193 := (ZR.kp ((ZR.kp ((ZR.kp ((ZR.kp ((ZR.kp ((ZR.kp ((ZR.kp ((ZR.kp ((ZR.kp ((ZR.kp ((ZR.kp ((ZR.kp ((ZR.kp ((ZR.kp ((ZR.kp ((ZR.kp ((ZR.kp ((ZR.kp ((ZR.kp ((ZR.kp ((ZR.kp ((ZR.kp ((ZR.kp ((ZR.kp ((ZR.kp ((ZR.kp ((ZR.kp ((ZR.kp ((ZR.kp ((ZR.kp ((ZR.kp ((ZR.kp ((ZR.kp ((ZR.kp ((ZR.kp (p_22) kp_25 (by decide))) kp_31 (by decide))) hK42 (by decide))) kp_49 (by decide))) kq1 (by decide))) kp_52 (by decide))) kp_55 (by decide))) kq3 (by decide))) kp_60 (by decide))) kp_63 (by decide))) kp_68 (by decide))) kp_71 (by decide))) hK75 (by decide))) kp_79 (by decide))) hK82 (by decide))) kp_88 (by decide))) hK91 (by decide))) hK94 (by decide))) kp_101 (by decide))) hK104 (by decide))) kp_107 (by decide))) kp_110 (by decide))) kp_113 (by decide))) kp_121 (by decide))) kp_127 (by decide))) kp_131 (by decide))) kp_136 (by decide))) kp_140 (by decide))) kp_144 (by decide))) kp_149 (by decide))) kp_153 (by decide))) kp_163 (by decide))) kp_166 (by decide))) hK171 (by decide))) (Ex.kp s_180) (by decide))
  exact T_ret d_Mo_answer_701 rfl (by first | decide | rfl) (by decide) (by decide) ⟨rfl, p_192, nb_, p_193, p_181, p_184, p_187, p_190, (Kp.ex (Kp.tr (Kp.tr (Kp.tr (Kp.tr (Kp.tr (Kp.tr (Kp.tr (Kp.tr (Kp.tr (Kp.tr (Kp.tr (Kp.tr (Kp.tr (Kp.tr (Kp.tr (Kp.tr (Kp.tr (Kp.tr (Kp.tr (Kp.tr (Kp.tr (Kp.tr (Kp.tr (Kp.tr (Kp.tr (Kp.tr (Kp.tr (Kp.tr (Kp.tr (Kp.tr (Kp.tr (Kp.tr (Kp.tr (Kp.tr (Kp.ex (Kp.ex (Kp.rf : Kp [373, 374, 380, 381, 382, 383, 384, 385, 387, 388, 389, 390, 391, 392, 393, 394, 395, 397, 398, 401, 407, 408, 425, 427, 434, 436, 438, 440, 441, 442, 443, 444, 445, 446, 447, 448, 449] M M) s_7 (by decide)) s_21 (by decide)) (Kp.mono kp_25 (by decide))) (Kp.mono kp_31 (by decide))) (Kp.mono hK42 (by decide))) (Kp.mono kp_49 (by decide))) (Kp.mono kq1 (by decide))) (Kp.mono kp_52 (by decide +kernel))) (Kp.mono kp_55 (by decide))) (Kp.mono kq3 (by decide))) (Kp.mono kp_60 (by decide +kernel))) (Kp.mono kp_63 (by decide))) (Kp.mono kp_68 (by decide))) (Kp.mono kp_71 (by decide))) (Kp.mono hK75 (by decide))) (Kp.mono kp_79 (by decide))) (Kp.mono hK82 (by decide))) (Kp.mono kp_88 (by decide +kernel))) (Kp.mono hK91 (by decide))) (Kp.mono hK94 (by decide))) (Kp.mono kp_101 (by decide))) (Kp.mono hK104 (by decide))) (Kp.mono kp_107 (by decide +kernel))) (Kp.mono kp_110 (by decide))) (Kp.mono kp_113 (by decide))) (Kp.mono kp_121 (by decide))) (Kp.mono kp_127 (by decide))) (Kp.mono kp_131 (by decide))) (Kp.mono kp_136 (by decide))) (Kp.mono kp_140 (by decide))) (Kp.mono kp_144 (by decide))) (Kp.mono kp_149 (by decide))) (Kp.mono kp_153 (by decide))) (Kp.mono kp_163 (by decide))) (Kp.mono kp_166 (by decide +kernel))) (Kp.mono hK171 (by decide))) s_180 (by decide))⟩
