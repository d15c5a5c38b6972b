theorem gd_al {a b : List UInt8} {i : Nat} (h : i < a.length) : gd (a ++ b) i = gd a i := by unfold gd; rw [List.getD_eq_getElem?_getD, List.getD_eq_getElem?_getD, List.getElem?_append_left h]
theorem gd_ar {a b : List UInt8} {i : Nat} (h : a.length ≤ i) : gd (a ++ b) i = gd b (i - a.length) := by unfold gd; rw [List.getD_eq_getElem?_getD, List.getD_eq_getElem?_getD, List.getElem?_append_right h]
theorem gd_rep (c i : Nat) : gd (List.replicate c 0) i = 0 := by
  unfold gd
  rw [List.getD_eq_getElem?_getD, List.getElem?_replicate]
  split <;> rfl
def pdB (l : List UInt8) (c : Nat) : List UInt8 := (((l ++ [u8 (nI 128)]) ++ List.replicate c 0) ++ List.replicate 8 0) ++ b8h (8 * (nI l.length).toInt64) 8
theorem pdB_len (l : List UInt8) (c : Nat) : (pdB l c).length = l.length + 1 + c + 16 := by unfold pdB; simp only [List.length_append, List.length_singleton, List.length_replicate, b8h_len]
theorem pdB_o {l : List UInt8} {c x : Nat} (h : x < l.length + 1 + c + 8) : bR (gd (pdB l c) x) = oc l x := by
  unfold pdB oc
  have e1 : (l ++ [u8 (nI 128)]).length = l.length + 1 := by rw [List.length_append]; rfl
  have e2 : ((l ++ [u8 (nI 128)]) ++ List.replicate c 0).length = l.length + 1 + c := by rw [List.length_append, e1, List.length_replicate]
  have e3 : (((l ++ [u8 (nI 128)]) ++ List.replicate c 0) ++ List.replicate 8 0).length = l.length + 1 + c + 8 := by rw [List.length_append, e2, List.length_replicate]
  rw [gd_al (by rw [e3]; exact h)]
  by_cases h1 : x < l.length
  · rw [if_pos h1, gd_al (by omega), gd_al (by omega), gd_al h1]
  · rw [if_neg h1]
    by_cases h2 : x = l.length
    · rw [if_pos h2, gd_al (by omega), gd_al (by omega), gd_ar (by omega), h2, Nat.sub_self]; decide
    · rw [if_neg h2]
      by_cases h3 : x < l.length + 1 + c
      · rw [gd_al (by omega), gd_ar (by omega), gd_rep]; rfl
      · rw [gd_ar (by omega), gd_rep]; rfl
theorem pdB_b {l : List UInt8} {c i : Nat} (hi : i < 8) : gd (pdB l c) (l.length + 1 + c + 8 + i) = ltc (8 * (nI l.length).toInt64) (7 - i) := by
  unfold pdB
  have e3 : (((l ++ [u8 (nI 128)]) ++ List.replicate c 0) ++ List.replicate 8 0).length = l.length + 1 + c + 8 := by simp only [List.length_append, List.length_singleton, List.length_replicate]
  rw [gd_ar (by omega), e3, show l.length + 1 + c + 8 + i - (l.length + 1 + c + 8) = i by omega]
  unfold b8h
  exact mr_gd hi
theorem pd_n {l : List UInt8} {c : Nat} (h : (l.length + 1 + c) % 128 = 112) (hc : c < 128) : l.length + 1 + c + 16 = 128 * nb l := by unfold nb; omega
theorem pd_w {l : List UInt8} {c k t : Nat} (h : (l.length + 1 + c) % 128 = 112) (hc : c < 128) (hl : l.length < 4000) (hk : k < nb l) (ht : t < 16) : wdb (pdB l c) (128 * k + 8 * t) 8 = wdB l k t := by
  have hn := pd_n h hc
  unfold wdB
  by_cases e : t = 15 ∧ k + 1 = nb l
  · rw [if_pos e, wdb_g (pdB l c) (128 * k + 8 * t) (fun i => ltc (8 * (nI l.length).toInt64) (7 - i)) (fun i hi => by rw [show 128 * k + 8 * t + i = l.length + 1 + c + 8 + i by omega]; exact pdB_b hi) 8 (Nat.le_refl 8)]
    exact bits_w hl
  · rw [if_neg e]
    exact wdb_o _ _ _ (fun i hi => pdB_o (by omega)) 8 (Nat.le_refl 8)
theorem pd_h {l : List UInt8} {c : Nat} (h : (l.length + 1 + c) % 128 = 112) (hc : c < 128) (hl : l.length < 4000) : ∀ k, k ≤ nb l → ∀ t, t < 8 → hsb (pdB l c) k t = hs l k t := by
  intro k
  induction k with
  | zero => intro _ t _; rfl
  | succ k ih =>
    intro hk t ht
    show comp (hsb (pdB l c) k) (fun t => wdb (pdB l c) (128 * k + 8 * t) 8) t = comp (hs l k) (wdB l k) t
    exact comp_c (ih (by omega)) (fun t ht => pd_w h hc hl (by omega) ht) t ht
set_option maxHeartbeats 8000000 in
theorem y_Mo_hash0 {G : GX} {M : List va_E} {w : Nat → Int32} {l : List UInt8} {W0 S0 U0 sq cu : Nat → Int64} {f0 : Nat → Int32} (h : BF M w l) (hl : l.length + 160 ≤ 4000) (hw : M[380]? = some (lr 80 W0)) (hst : M[382]? = some (lr 8 S0)) (hsu : M[381]? = some (lr 8 U0)) (hq : M[376]? = some (lr 8 sq)) (hsq : ∀ t, t < 8 → sq t = hT t) (hc : M[375]? = some (lr 80 cu)) (hcu : ∀ t, t < 80 → cu t = kT t) (hd : M[383]? = some (ir 64 f0)) : CT G mi_Mo_hash0 [.ref 373] M (fun r M' => r = none ∧ BF M' w [] ∧ IA M' 383 64 (sha l) ∧ (∃ W, M'[380]? = some (lr 80 W)) ∧ (∃ S, M'[382]? = some (lr 8 S)) ∧ (∃ S, M'[381]? = some (lr 8 S)) ∧ Kp [373, 374, 380, 382, 381, 383] M M') := by
  obtain ⟨c, hc1, hc2⟩ : ∃ c, (l.length + 1 + c) % 128 = 112 ∧ c < 128 := ⟨(239 - l.length % 128) % 128, by omega, by omega⟩
  have e1 : (l ++ [u8 (nI 128)]).length = l.length + 1 := by rw [List.length_append]; rfl
  have hn := pd_n hc1 hc2
  refine CT.of (by decide) (Nat.le_of_ble_eq_true rfl) ?_
  show TT G mi_Mo_hash0 0 [(0, .ref 373)] [] M 0 0 _
  refine T_ldc2 d_Mo_hash0_0 kJ_Mo_45 ?_
  refine T_aload_n (v := .ref 373) d_Mo_hash0_3 rfl (Or.inr ⟨_, rfl⟩) ?_
  obtain ⟨v_1, hov_1, _, hsv_1, _⟩ := id h
  refine N_getI (x := (v_1 67)) (y := (nI (l.length))) d_Mo_hash0_4 fg_Mo_7 hov_1 rfl hsv_1 ?_
  refine T_i2l d_Mo_hash0_7 ?_
  refine T_lmul d_Mo_hash0_8 ?_
  refine T_lstore_n (L' := [(1, .long (8 * ((nI (l.length)).toInt64))), (0, .ref 373)]) d_Mo_hash0_9 (by decide) rfl ?_
  refine T_aload_n (v := .ref 373) d_Mo_hash0_10 rfl (Or.inr ⟨_, rfl⟩) ?_
  refine T_sipush (v := nI 128) d_Mo_hash0_11 (by decide) ?_
  refine T_virtual (as := [.int (nI 128)]) (rest := []) (b := 373) d_Mo_hash0_14 rfl (jw_Mo_one.jo (by decide)) lm_Mo_11 ji_Mo_one js_Mo_one hov_1 rfl rfl rfl (Nat.le_of_ble_eq_true rfl) (by decide) (by decide) (y_Mo_one (x := (nI 128)) h (by first | omega | (simp only [List.length_append, List.length_cons, List.length_nil, List.length_replicate, sl_len, be_len, sha_len]; done) | (simp only [List.length_append, List.length_cons, List.length_nil, List.length_replicate, sl_len, be_len, sha_len]; omega))) (fun r M_2 hq => ?_)
  obtain ⟨rfl, p_2_0, kp_2⟩ := hq
  refine T_eq (pc' := 17) (L' := [(1, .long (8 * ((nI (l.length)).toInt64))), (0, .ref 373)]) (st' := []) (M' := M_2) rfl rfl rfl rfl ?_
  have kz : Kp [373, 374] M M_2 := (Kp.tr (Kp.rf : Kp [373, 374] M M) (Kp.mono kp_2 (by decide)))
  refine T_sub (L' := [(0, .ref 373), (1, .long (8 * (nI l.length).toInt64))]) (fun q hq => by simp only [List.mem_cons, List.not_mem_nil, or_false] at hq ⊢; rcases hq with rfl | rfl <;> simp) ?_
  refine mh_z G (l := l ++ [u8 (nI 128)]) (c := c) (by omega) (by rw [e1]; exact hc1) hc2 (fun Ma hI => ?_) c 0 M_2 (Nat.zero_add c) ⟨by rw [List.replicate_zero, List.append_nil]; exact p_2_0, Kp.rf⟩
  obtain ⟨b1, k1⟩ := hI
  refine T_iconst (v := nI 0) d_Mo_hash0_38 (by decide) ?_
  refine T_istore_n (L' := [(3, .int (nI 0)), (0, .ref 373), (1, .long (8 * (nI l.length).toInt64))]) d_Mo_hash0_39 (by decide) rfl ?_
  have e2 : ((l ++ [u8 (nI 128)]) ++ List.replicate c 0).length = l.length + 1 + c := by rw [List.length_append, e1, List.length_replicate]
  have e3 : (((l ++ [u8 (nI 128)]) ++ List.replicate c 0) ++ List.replicate 8 0).length = l.length + 1 + c + 8 := by rw [List.length_append, e2, List.length_replicate]
  refine mh_8 G (l := ((l ++ [u8 (nI 128)]) ++ List.replicate c 0)) (by rw [e2]; omega) (fun Mb hI => ?_) 8 0 Ma rfl ⟨by rw [List.replicate_zero, List.append_nil]; exact b1, Kp.rf⟩
  obtain ⟨b2, k2⟩ := hI
  refine T_bipush (v := nI 56) d_Mo_hash0_57 (by decide) ?_
  refine T_istore_n (L' := [(3, .int (nI 56)), (0, .ref 373), (1, .long (8 * (nI l.length).toInt64))]) d_Mo_hash0_59 (by decide) rfl ?_
  refine T_eq (pc' := 60) (L' := [(3, .int (nI (8 * 8) + Int32.ofInt (-8))), (0, .ref 373), (1, .long (8 * (nI l.length).toInt64))]) (st' := []) (M' := Mb) rfl rfl rfl rfl ?_
  refine mh_b G (l := (((l ++ [u8 (nI 128)]) ++ List.replicate c 0) ++ List.replicate 8 0)) (by rw [e3]; omega) (fun Mc hI => ?_) 8 Mb (Nat.le_refl 8) ⟨by rw [Nat.sub_self]; show BF Mb w ((((l ++ [u8 (nI 128)]) ++ List.replicate c 0) ++ List.replicate 8 0) ++ []); rw [List.append_nil]; exact b2, Kp.rf⟩
  obtain ⟨b3, k3⟩ := hI
  have hB : BF Mc w (pdB l c) := b3
  have kc : Kp [373, 374] M Mc := Kp.tr kz (Kp.tr k1 (Kp.tr k2 k3))
  obtain ⟨v, ho, hv, hs, hA⟩ := id hB
  refine T_iconst (v := nI 0) d_Mo_hash0_82 (by decide) ?_
  refine T_istore_n (L' := [(3, .int (nI 0)), (0, .ref 373), (1, .long (8 * (nI l.length).toInt64))]) d_Mo_hash0_83 (by decide) rfl ?_
  refine mh_q G ho ((kc 376 (by decide)).trans hq) (fun Md hI => ?_) 8 0 Mc rfl ⟨⟨_, (kc 381 (by decide)).trans hsu, fun t ht => absurd ht (Nat.not_lt_zero t)⟩, Kp.rf⟩
  obtain ⟨⟨S, s1, s2⟩, k4⟩ := hI
  refine T_iconst (v := nI 0) d_Mo_hash0_108 (by decide) ?_
  refine T_istore_n (L' := [(3, .int (nI 0)), (0, .ref 373), (1, .long (8 * (nI l.length).toInt64))]) d_Mo_hash0_109 (by decide) rfl ?_
  refine mh_k G (n := nb l) (hB.kp k4 (by decide) (by decide)) (by rw [pdB_len]; exact hn) ((k4 375 (by decide)).trans ((kc 375 (by decide)).trans hc)) hcu (fun Me hI => ?_) (nb l) 0 Md (Nat.zero_add _) ⟨⟨S, s1, fun t ht => (s2 t ht).trans (hsq t ht)⟩, ⟨_, (k4 380 (by decide)).trans ((kc 380 (by decide)).trans hw)⟩, ⟨_, (k4 382 (by decide)).trans ((kc 382 (by decide)).trans hst)⟩, Kp.rf⟩
  obtain ⟨⟨T, t1, t2⟩, ⟨W9, gW⟩, ⟨S9, gT⟩, k5⟩ := hI
  refine T_iconst (v := nI 0) d_Mo_hash0_132 (by decide) ?_
  refine T_istore_n (L' := [(3, .int (nI 0)), (0, .ref 373), (1, .long (8 * (nI l.length).toInt64))]) d_Mo_hash0_133 (by decide) rfl ?_
  refine mh_d G ((k5 373 (by decide)).trans ((k4 373 (by decide)).trans ho)) t1 (fun Mf hI => ?_) 64 0 Me rfl ⟨⟨_, (k5 383 (by decide)).trans ((k4 383 (by decide)).trans ((kc 383 (by decide)).trans hd)), fun t ht => absurd ht (Nat.not_lt_zero t)⟩, Kp.rf⟩
  obtain ⟨⟨f, d1, d2⟩, k6⟩ := hI
  have hof := (k6 373 (by decide)).trans ((k5 373 (by decide)).trans ((k4 373 (by decide)).trans ho))
  refine T_aload_n (v := .ref 373) d_Mo_hash0_177 rfl (Or.inr ⟨_, rfl⟩) ?_
  refine T_iconst (v := nI 0) d_Mo_hash0_178 (by decide) ?_
  refine N_put (e := (moO (upd v 67 (nI 0)))) d_Mo_hash0_179 (fp_Mo_7 _) hof (Nat.le_of_ble_eq_true rfl) ⟨rfl, rfl⟩ rfl (fun M_3 h_4 s_5 => ?_)
  have kall : Kp [373, 374, 380, 382, 381, 383] M M_3 := Kp.tr (Kp.tr (Kp.tr (Kp.tr (Kp.mono kc (by decide)) (Kp.mono k4 (by decide))) (Kp.mono k5 (by decide))) (Kp.mono k6 (by decide))) (Kp.mono (Ex.kp s_5) (by decide))
  obtain ⟨fb, fb1, _, _⟩ := hA
  refine T_vret d_Mo_hash0_182 rfl (by decide) (by decide) ⟨rfl, ⟨(upd v 67 (nI 0)), h_4, fun j hj => ?_, ?_, fb, (s_5 374 (by decide)).trans ((k6 374 (by decide)).trans ((k5 374 (by decide)).trans ((k4 374 (by decide)).trans fb1))), Nat.zero_le _, fun i hi => absurd hi (Nat.not_lt_zero i)⟩, ⟨f, (s_5 383 (by decide)).trans d1, by rw [sha_len]; exact Nat.le_refl 64, fun i hi => ?_⟩, ⟨_, (s_5 380 (by decide)).trans ((k6 380 (by decide)).trans gW)⟩, ⟨_, (s_5 382 (by decide)).trans ((k6 382 (by decide)).trans gT)⟩, ⟨_, (s_5 381 (by decide)).trans ((k6 381 (by decide)).trans t1)⟩, kall⟩
  · unfold upd; rw [if_neg hj]; exact hv j hj
  · exact upd_s
  · rw [sha_len] at hi; rw [d2 i hi, sha_gd l hi, t2 (i / 8) (by omega), pd_h hc1 hc2 (by omega) (nb l) (Nat.le_refl _) (i / 8) (by omega)]
def IQ (M : List va_E) (p n : Nat) : Prop := ∃ f, M[p]? = some (ir n f)
theorem IQ.kp {M M' : List va_E} {W : List Nat} {p n : Nat} (h : IQ M p n) (s : Kp W M M') (hn : p ∉ W) : IQ M' p n := by obtain ⟨f, h⟩ := h; exact ⟨f, (s _ hn).trans h⟩
theorem IA.iq {M : List va_E} {p n : Nat} {l : List UInt8} (h : IA M p n l) : IQ M p n := by obtain ⟨f, h, -⟩ := h; exact ⟨f, h⟩
theorem IQ.ia {M : List va_E} {p n : Nat} (h : IQ M p n) : IA M p n [] := by obtain ⟨f, h⟩ := h; exact ⟨f, h, Nat.zero_le n, fun i hi => absurd hi (Nat.not_lt_zero i)⟩
theorem IA.cut {M : List va_E} {p n : Nat} {l m : List UInt8} (h : IA M p n l) (hm : m.length ≤ l.length) (e : ∀ i, i < m.length → gd m i = gd l i) : IA M p n m := by
  obtain ⟨f, h1, h2, h3⟩ := h
  exact ⟨f, h1, by omega, fun i hi => by rw [h3 i (by omega), e i hi]⟩
theorem ia_app {M : List va_E} {p n i : Nat} {l : List UInt8} {b : UInt8} {f : Nat → Int32} (h : M[p]? = some (ir n (upd f i (bR b)))) (hi : i = l.length) (hl : l.length < n) (hf : ∀ j, j < l.length → f j = bR (gd l j)) : IA M p n (l ++ [b]) := by
  subst hi
  exact ⟨_, h, by rw [List.length_append]; exact hl, fun j hj => ia_push hf hj⟩
theorem gd_c {s : List UInt8} {i j : Nat} (h : i = j) : gd s i = gd s j := by rw [h]
theorem ia_cp {M : List va_E} {p n i a k : Nat} {l s : List UInt8} {b : UInt8} {f : Nat → Int32} (h : M[p]? = some (ir n (upd f i (bR b)))) (hb : b = gd s (a + k)) (hi : i = l.length + k) (hl : l.length + k < n) (hf : ∀ j, j < (l ++ sl s a k).length → f j = bR (gd (l ++ sl s a k) j)) : IA M p n (l ++ sl s a (k + 1)) := by
  subst hb
  have e : (l ++ sl s a k).length = l.length + k := by rw [List.length_append, sl_len]
  rw [sl_succ, ← List.append_assoc]
  exact ia_app h (by rw [e]; exact hi) (by rw [e]; exact hl) hf
theorem ia_c0 {M : List va_E} {p n i a k : Nat} {s : List UInt8} {b : UInt8} {f : Nat → Int32} (h : M[p]? = some (ir n (upd f i (bR b)))) (hb : b = gd s (a + k)) (hi : i = k) (hl : k < n) (hf : ∀ j, j < (sl s a k).length → f j = bR (gd (sl s a k) j)) : IA M p n (sl s a (k + 1)) := by
  subst hb
  rw [sl_succ]
  exact ia_app h (by rw [sl_len]; exact hi) (by rw [sl_len]; exact hl) hf
theorem BF.sz {M M' : List va_E} {v w : Nat → Int32} {l : List UInt8} (hw : ∀ j, j ≠ 67 → v j = w j) (hI : IA M 374 4000 l) (h : M'[373]? = some (moO (upd v 67 (nI 0)))) (s : Kp [373] M M') : BF M' w [] :=
  ⟨_, h, fun j hj => by unfold upd; rw [if_neg hj]; exact hw j hj, upd_s, (hI.kp s (by decide)).iq.ia⟩
theorem BF.st {M M' : List va_E} {v w : Nat → Int32} {l : List UInt8} {j : Nat} {x : Int32} (hj : j ≠ 67) (hw : ∀ j, j ≠ 67 → v j = w j) (hs : v 67 = nI l.length) (hI : IA M 374 4000 l) (h : M'[373]? = some (moO (upd v j x))) (s : Kp [373] M M') : BF M' (upd w j x) l :=
  ⟨_, h, fun i hi => by unfold upd; split; rfl; exact hw i hi, by unfold upd; rw [if_neg (Ne.symm hj)]; exact hs, hI.kp s (by decide)⟩
theorem nmne {u z : Nat} {L : List Nat} (h : u ∉ L) (hz : z ∈ L) : u ≠ z := fun c => h (c ▸ hz)
def RG (M : List va_E) (E : Nat → Int) : Prop := ∃ F, M[390]? = some (lr 1024 F) ∧ LQ M 391 31 ∧ LQ M 392 16 ∧ LQ M 393 16 ∧ IQ M 394 32 ∧ ∀ d, d < 64 → V16 F d (E d)
theorem RG.re {M : List va_E} {v : Nat → Int32} {E : Nat → Int} (h : RG M E) (ho : M[373]? = some (moO v)) : RE M v E := by obtain ⟨F, h1, h2, h3, h4, h5, h6⟩ := h; exact ⟨F, ⟨ho, h1, h2, h3, h4, h5⟩, h6⟩
theorem RE.rg {M : List va_E} {v : Nat → Int32} {E : Nat → Int} (h : RE M v E) : RG M E := by obtain ⟨F, ⟨ho, h1, h2, h3, h4, h5⟩, h6⟩ := h; exact ⟨F, h1, h2, h3, h4, h5, h6⟩
theorem RG.kp {M M' : List va_E} {W : List Nat} {E : Nat → Int} (h : RG M E) (s : Kp W M M') (hn : ∀ q ∈ RW, q ∉ W) : RG M' E := by
  obtain ⟨F, h1, h2, h3, h4, h5, h6⟩ := h
  exact ⟨F, (s _ (hn 390 (by decide))).trans h1, h2.kp s (hn 391 (by decide)), h3.kp s (hn 392 (by decide)), h4.kp s (hn 393 (by decide)), h5.kp s (hn 394 (by decide)), h6⟩
def qL (t : Nat) : Int64 := ([54253, 23797, 25370, 22546, 40150, 41719, 63966, 5342, 0, 0, 0, 0, 0, 0, 0, 4096, 0] : List Int64).getD t 0
def CN (M : List va_E) : Prop := (∃ f, M[375]? = some (lr 80 f) ∧ ∀ t, t < 80 → f t = kT t) ∧ (∃ f, M[376]? = some (lr 8 f) ∧ ∀ t, t < 8 → f t = hT t) ∧ IA M 386 64 (zer8 64) ∧ ∃ f, M[396]? = some (lr 17 f) ∧ ∀ t, t < 17 → f t = qL t
theorem CN.kp {M M' : List va_E} {W : List Nat} (h : CN M) (s : Kp W M M') (hn : ∀ q ∈ [375, 376, 386, 396], q ∉ W) : CN M' := by
  obtain ⟨⟨f1, h1, e1⟩, ⟨f2, h2, e2⟩, h3, f4, h4, e4⟩ := h
  exact ⟨⟨f1, (s _ (hn 375 (by decide))).trans h1, e1⟩, ⟨f2, (s _ (hn 376 (by decide))).trans h2, e2⟩, h3.kp s (hn 386 (by decide)), f4, (s _ (hn 396 (by decide))).trans h4, e4⟩
abbrev msI : List (Nat × Nat) := [(383, 64), (384, 2000), (385, 64), (387, 400), (388, 192), (389, 100), (401, 400), (407, 192), (408, 400), (411, 64), (412, 32), (413, 32), (415, 64), (416, 64), (417, 64), (440, 96), (441, 500), (442, 64), (443, 64), (444, 64), (445, 64), (446, 64), (447, 64), (448, 128), (450, 128)]
abbrev msL : List (Nat × Nat) := [(380, 80), (381, 8), (382, 8), (395, 16), (397, 17), (398, 32), (399, 16), (400, 16), (414, 16), (418, 16), (449, 16)]
abbrev msC : List Nat := [375, 376, 386, 396, 390, 391, 392, 393, 394]
abbrev msP : List Nat := [383, 384, 385, 387, 388, 389, 401, 407, 408, 411, 412, 413, 415, 416, 417, 440, 441, 442, 443, 444, 445, 446, 447, 448, 450, 380, 381, 382, 395, 397, 398, 399, 400, 414, 418, 449, 375, 376, 386, 396, 390, 391, 392, 393, 394]
def MS (M : List va_E) : Prop := (∀ z ∈ msI, IQ M z.1 z.2) ∧ (∀ z ∈ msL, LQ M z.1 z.2) ∧ CN M ∧ ∃ E, RG M E ∧ CK E
theorem ms_sI : ∀ z ∈ msI, z.1 ∈ msP := by decide +kernel
theorem ms_sL : ∀ z ∈ msL, z.1 ∈ msP := by decide +kernel
theorem MS.iq {M : List va_E} (h : MS M) {p n : Nat} (hp : (p, n) ∈ msI) : IQ M p n := h.1 _ hp
theorem MS.ia {M : List va_E} (h : MS M) {p n : Nat} (hp : (p, n) ∈ msI) : IA M p n [] := (h.1 _ hp).ia
theorem MS.lq {M : List va_E} (h : MS M) {p n : Nat} (hp : (p, n) ∈ msL) : LQ M p n := h.2.1 _ hp
theorem MS.up {M M' : List va_E} {W : List Nat} (h : MS M) (s : Kp W M M') (hI : ∀ z ∈ msI, z.1 ∈ W → IQ M' z.1 z.2) (hL : ∀ z ∈ msL, z.1 ∈ W → LQ M' z.1 z.2) (hC : ∀ q ∈ msC, q ∉ W) : MS M' := by
  obtain ⟨h1, h2, h3, E, h4, h5⟩ := h
  refine ⟨fun z hz => ?_, fun z hz => ?_, h3.kp s fun q hq => hC q ((by decide : ∀ q ∈ [375, 376, 386, 396], q ∈ msC) q hq), E, h4.kp s fun q hq => hC q ((by decide : ∀ q ∈ RW, q ∈ msC) q hq), h5⟩
  · by_cases c : z.1 ∈ W
    · exact hI z hz c
    · exact (h1 z hz).kp s c
  · by_cases c : z.1 ∈ W
    · exact hL z hz c
    · exact (h2 z hz).kp s c
theorem MS.kp {M M' : List va_E} {W : List Nat} (h : MS M) (s : Kp W M M') (hn : ∀ q ∈ W, q ∉ msP) : MS M' :=
  h.up s (fun z hz c => absurd (ms_sI z hz) (hn _ c)) (fun z hz c => absurd (ms_sL z hz) (hn _ c)) fun q hq c => hn q c ((by decide +kernel : ∀ q ∈ msC, q ∈ msP) q hq)
theorem MS.wi {M M' : List va_E} {p n : Nat} (h : MS M) (s : Kp [p] M M') (hq : IQ M' p n) (hI : ∀ z ∈ msI, z.1 = p → z.2 = n) (hL : ∀ z ∈ msL, z.1 ≠ p) (hC : p ∉ msC) : MS M' :=
  h.up s (fun z hz c => by rw [List.mem_singleton] at c; rw [hI z hz c, c]; exact hq) (fun z hz c => absurd (List.mem_singleton.mp c) (hL z hz)) fun q hq c => hC (List.mem_singleton.mp c ▸ hq)
theorem MS.wl {M M' : List va_E} {p n : Nat} (h : MS M) (s : Kp [p] M M') (hq : LQ M' p n) (hL : ∀ z ∈ msL, z.1 = p → z.2 = n) (hI : ∀ z ∈ msI, z.1 ≠ p) (hC : p ∉ msC) : MS M' :=
  h.up s (fun z hz c => absurd (List.mem_singleton.mp c) (hI z hz)) (fun z hz c => by rw [List.mem_singleton] at c; rw [hL z hz c, c]; exact hq) fun q hq c => hC (List.mem_singleton.mp c ▸ hq)
theorem MS.rg {M M' : List va_E} {W : List Nat} {E : Nat → Int} (h : MS M) (s : Kp W M M') (hW : ∀ q ∈ W, q ∈ RW) (h4 : RG M' E) (h5 : CK E) : MS M' := by
  obtain ⟨h1, h2, h3, -⟩ := h
  exact ⟨fun z hz => (h1 z hz).kp s fun c => absurd (hW _ c) ((by decide +kernel : ∀ z ∈ msI, z.1 ∉ RW) z hz), fun z hz => (h2 z hz).kp s fun c => absurd (hW _ c) ((by decide +kernel : ∀ z ∈ msL, z.1 ∉ RW) z hz), h3.kp s fun q hq c => absurd (hW _ c) ((by decide : ∀ q ∈ [375, 376, 386, 396], q ∉ RW) q hq), E, h4, h5⟩
abbrev haW : List Nat := [373, 374, 380, 382, 381, 383]
set_option maxHeartbeats 8000000 in
theorem g_Mo_hash0 {G : GX} {M : List va_E} {w : Nat → Int32} {l : List UInt8} (hm : MS M) (h : BF M w l) (hl : l.length + 160 ≤ 4000) : CT G mi_Mo_hash0 [.ref 373] M (fun r M' => r = none ∧ MS M' ∧ BF M' w [] ∧ IA M' 383 64 (sha l) ∧ Kp haW M M') := by
  obtain ⟨W0, a1⟩ := hm.lq (p := 380) (n := 80) (by decide)
  obtain ⟨S0, a2⟩ := hm.lq (p := 382) (n := 8) (by decide)
  obtain ⟨U0, a3⟩ := hm.lq (p := 381) (n := 8) (by decide)
  obtain ⟨f0, a4⟩ := hm.iq (p := 383) (n := 64) (by decide)
  obtain ⟨⟨cu, c1, c2⟩, ⟨sq, c3, c4⟩, -⟩ := hm.2.2.1
  refine (y_Mo_hash0 h hl a1 a2 a3 c3 c4 c1 c2 a4).post fun r M' q => ?_
  obtain ⟨q1, q2, q3, q4, q5, q6, q7⟩ := q
  refine ⟨q1, hm.up q7 (fun z hz c => ?_) (fun z hz c => ?_) (by decide), q2, q3, q7⟩
  · have e := (by decide +kernel : ∀ z ∈ msI, z.1 ∈ haW → z = (383, 64)) z hz c
    subst e; exact q3.iq
  · have e := (by decide +kernel : ∀ z ∈ msL, z.1 ∈ haW → z = (380, 80) ∨ z = (382, 8) ∨ z = (381, 8)) z hz c
    rcases e with e | e | e <;> subst e
    · exact q4
    · exact q5
    · exact q6
def xkb (K : List UInt8) (m : UInt8) (k : Nat) : UInt8 := (if k < 64 then gd K k else 0) ^^^ m
def xkp (K : List UInt8) (m : UInt8) (k : Nat) : List UInt8 := (List.range k).map fun i => xkb K m i
theorem xkp_len (K : List UInt8) (m : UInt8) (k : Nat) : (xkp K m k).length = k := by unfold xkp; simp
theorem xkp_s (K : List UInt8) (m : UInt8) (k : Nat) : xkp K m (k + 1) = xkp K m k ++ [xkb K m k] := by unfold xkp; rw [List.range_succ, List.map_append]; rfl
theorem xkp_x (K : List UInt8) (m : UInt8) : xkp K m 128 = xk K m := rfl
theorem xkb_lt {s : List UInt8} {a k : Nat} {m : UInt8} (h : k < 64) : xkb (sl s a 64) m k = gd s (a + k) ^^^ m := by unfold xkb; rw [if_pos h, sl_gd h]
theorem xkb_ge {K : List UInt8} {k : Nat} {m : UInt8} (h : ¬ k < 64) : xkb K m k = 0 ^^^ m := by unfold xkb; rw [if_neg h]
theorem xr_54 (b : UInt8) : u8 (bR b ^^^ nI 54) = b ^^^ 54 := u8_all (P := fun b => u8 (bR b ^^^ nI 54) = b ^^^ 54) (by decide +kernel) b
theorem xr_92 (b : UInt8) : u8 (bR b ^^^ nI 92) = b ^^^ 92 := u8_all (P := fun b => u8 (bR b ^^^ nI 92) = b ^^^ 92) (by decide +kernel) b
theorem xz_54 : u8 (nI 0 ^^^ nI 54) = 0 ^^^ 54 := by decide
theorem xz_92 : u8 (nI 0 ^^^ nI 92) = 0 ^^^ 92 := by decide
def BG (M : List va_E) (w : Nat → Int32) (l : List UInt8) : Prop := ∃ v, M[373]? = some (moO v) ∧ (∀ j, j < 67 ∨ 70 < j → v j = w j) ∧ v 67 = nI l.length ∧ IA M 374 4000 l
theorem BG.kp {M M' : List va_E} {W : List Nat} {w : Nat → Int32} {l : List UInt8} (h : BG M w l) (s : Kp W M M') (h1 : 373 ∉ W) (h2 : 374 ∉ W) : BG M' w l := by obtain ⟨v, a, b, c, d⟩ := h; exact ⟨v, (s _ h1).trans a, b, c, d.kp s h2⟩
theorem BG.bf {M : List va_E} {w : Nat → Int32} {l : List UInt8} (h : BG M w l) : ∃ w', BF M w' l ∧ ∀ j, j < 67 ∨ 70 < j → w' j = w j := by obtain ⟨v, a, b, c, d⟩ := h; exact ⟨v, ⟨v, a, fun _ _ => rfl, c, d⟩, b⟩
theorem BF.bg {M : List va_E} {w w' : Nat → Int32} {l : List UInt8} (h : BF M w' l) (e : ∀ j, j < 67 ∨ 70 < j → w' j = w j) : BG M w l := by obtain ⟨v, a, b, c, d⟩ := h; exact ⟨v, a, fun j hj => (b j (by omega)).trans (e j hj), c, d⟩
theorem BG.sz {M M' : List va_E} {v w : Nat → Int32} {l : List UInt8} (hw : ∀ j, j < 67 ∨ 70 < j → v j = w j) (hI : IA M 374 4000 l) (h : M'[373]? = some (moO (upd v 67 (nI 0)))) (s : Kp [373] M M') : BG M' w [] :=
  ⟨_, h, fun j hj => by unfold upd; rw [if_neg (by omega)]; exact hw j hj, upd_s, (hI.kp s (by decide)).iq.ia⟩
theorem BG.st {M M' : List va_E} {v w : Nat → Int32} {l : List UInt8} {j : Nat} {x : Int32} (hj : j ≠ 67) (hw : ∀ j, j < 67 ∨ 70 < j → v j = w j) (hs : v 67 = nI l.length) (hI : IA M 374 4000 l) (h : M'[373]? = some (moO (upd v j x))) (s : Kp [373] M M') : BG M' (upd w j x) l :=
  ⟨_, h, fun i hi => by unfold upd; split; rfl; exact hw i hi, by unfold upd; rw [if_neg (Ne.symm hj)]; exact hs, hI.kp s (by decide)⟩
theorem BG.eq {M : List va_E} {w w' : Nat → Int32} {l : List UInt8} (h : BG M w l) (e : ∀ j, j < 67 ∨ 70 < j → w j = w' j) : BG M w' l := by obtain ⟨v, a, b, c, d⟩ := h; exact ⟨v, a, fun j hj => (b j hj).trans (e j hj), c, d⟩
section BGs
variable {G : GX} {M : List va_E} {w : Nat → Int32} {l s : List UInt8}
theorem b_Mo_one {x : Int32} (h : BG M w l) (hl : l.length < 4000) : CT G mi_Mo_one [.ref 373, .int x] M (fun r M' => r = none ∧ BG M' w (l ++ [u8 x]) ∧ Kp [373, 374] M M') := by
  obtain ⟨w', h, e⟩ := h.bf
  exact (y_Mo_one h hl).post fun r M' q => ⟨q.1, q.2.1.bg e, q.2.2⟩
theorem b_Mo_bytes {p m at0 n : Nat} (h : BG M w l) (hp : IA M p m s) (ha : at0 + n ≤ s.length) (hm : m < 2 ^ 30) (hl : l.length + n ≤ 4000) (n1 : p ≠ 373) (n2 : p ≠ 374) : CT G mi_Mo_bytes [.ref 373, .ref p, .int (nI at0), .int (nI n)] M (fun r M' => r = none ∧ BG M' w (l ++ sl s at0 n) ∧ Kp [373, 374] M M') := by
  obtain ⟨w', h, e⟩ := h.bf
  exact (y_Mo_bytes h hp ha hm hl n1 n2).post fun r M' q => ⟨q.1, q.2.1.bg e, q.2.2⟩
theorem b_Mo_number {c : Nat} {v : Int32} (h : BG M w l) (hc : 0 < c ∧ c < 2 ^ 20) (hl : l.length + c ≤ 4000) : CT G mi_Mo_number [.ref 373, .int v, .int (nI c)] M (fun r M' => r = none ∧ BG M' w (l ++ bnN v c) ∧ Kp [373, 374] M M') := by
  obtain ⟨w', h, e⟩ := h.bf
  exact (y_Mo_number h hc hl).post fun r M' q => ⟨q.1, q.2.1.bg e, q.2.2⟩
theorem b_Mo_letters {x : Int64} (h : BG M w l) (hl : l.length + 8 ≤ 4000) : CT G mi_Mo_letters [.ref 373, .long x] M (fun r M' => r = none ∧ BG M' w (l ++ lts x) ∧ Kp [373, 374] M M') := by
  obtain ⟨w', h, e⟩ := h.bf
  exact (y_Mo_letters h hl).post fun r M' q => ⟨q.1, q.2.1.bg e, q.2.2⟩
theorem b_Mo_hash0 (hm : MS M) (h : BG M w l) (hl : l.length + 160 ≤ 4000) : CT G mi_Mo_hash0 [.ref 373] M (fun r M' => r = none ∧ MS M' ∧ BG M' w [] ∧ IA M' 383 64 (sha l) ∧ Kp haW M M') := by
  obtain ⟨w', h, e⟩ := h.bf
  exact (g_Mo_hash0 hm h hl).post fun r M' q => ⟨q.1, q.2.1, q.2.2.1.bg e, q.2.2.2⟩
end BGs
theorem u8_1 : u8 (nI 1) = 1 := by decide
theorem u8_2 : u8 (nI 2) = 2 := by decide
theorem u8_0 : u8 (nI 0) = 0 := by decide
theorem bn64 : bnN (nI 64) 2 = [0, 64] := by decide
theorem bn32 : bnN (nI 32) 2 = [0, 32] := by decide
theorem bn0 : bnN (nI 0) 2 = [0, 0] := by decide
theorem bn20 : bnN (nI 20) 2 = [0, 20] := by decide
theorem bn33 : bnN (nI 33) 2 = [0, 33] := by decide
def str2 (a T : List UInt8) : List UInt8 := sha (sha (zer8 128 ++ a ++ [0, 64] ++ [0] ++ T) ++ [1] ++ T)
theorem str2_len (a T : List UInt8) : (str2 a T).length = 64 := sha_len _
abbrev macW : List Nat := [373, 374, 380, 382, 381, 383, 384, 385]
set_option maxHeartbeats 8000000 in
theorem mc_d (G : GX) {M0 : List va_E} {w : Nat → Int32} {l : List UInt8} {p at0 : Nat} (hb : BF M0 w l) (ha : 0 + l.length ≤ l.length) (hd : 0 + l.length ≤ 2000)  {Q : Option Value → List va_E → Prop} (kk : ∀ M, IA M 384 2000 (sl l 0 l.length) ∧ Kp [384] M0 M → TT G mi_Mo_mac 40 [(0, .ref 373), (1, .ref p), (2, .int (nI at0)), (3, .int (nI 64))] [] M 0 0 Q) : ∀ j k M, k + j = l.length → IA M 384 2000 (sl l 0 k) ∧ Kp [384] M0 M → TT G mi_Mo_mac 11 [(4, .int (nI k)), (0, .ref 373), (1, .ref p), (2, .int (nI at0)), (3, .int (nI 64))] [] M 0 0 Q := by
  intro j
  induction j with
  | zero =>
    intro k M hk hI
    obtain rfl : l.length = k := by omega
    obtain ⟨hda, hK⟩ := id hI
    refine T_iload d_Mo_mac_11 rfl ?_
    refine T_aload_n (v := .ref 373) d_Mo_mac_13 rfl (Or.inr ⟨_, rfl⟩) ?_
    have p_1 := (BF.kp (hb) hK (by decide) (by decide))
    obtain ⟨v_2, hov_2, hwv_2, hsv_2, hiv_2⟩ := id p_1
    refine N_getI (x := (v_2 67)) (y := (nI (l.length))) d_Mo_mac_14 fg_Mo_7 hov_2 rfl hsv_2 ?_
    refine N_icmp_ge_t (a := l.length) (b := l.length) d_Mo_mac_17 (tgt := 40) rfl (by omega) (by omega) (by omega) ?_
    exact T_sub (fun q hq => List.mem_cons_of_mem _ hq) (kk M hI)
  | succ j ih =>
    intro k M hk hI
    obtain ⟨hda, hK⟩ := hI
    obtain ⟨vb, hob, hwb, hsb, hib⟩ := id hb
    have hsl := IA.le hib
    refine T_iload d_Mo_mac_11 rfl ?_
    refine T_aload_n (v := .ref 373) d_Mo_mac_13 rfl (Or.inr ⟨_, rfl⟩) ?_
    have p_1 := (BF.kp (hb) hK (by decide) (by decide))
    obtain ⟨v_2, hov_2, hwv_2, hsv_2, hiv_2⟩ := id p_1
    refine N_getI (x := (v_2 67)) (y := (nI (l.length))) d_Mo_mac_14 fg_Mo_7 hov_2 rfl hsv_2 ?_
    refine N_icmp_ge_f (a := l.length) (b := k) d_Mo_mac_17 (tgt := 40) rfl (by omega) (by omega) (by omega) ?_
    refine T_aload_n (v := .ref 373) d_Mo_mac_20 rfl (Or.inr ⟨_, rfl⟩) ?_
    refine T_getfield (v := .ref 384) d_Mo_mac_21 fg_Mo_73 hov_2 rfl ?_
    refine T_iload d_Mo_mac_24 rfl ?_
    refine T_aload_n (v := .ref 373) d_Mo_mac_26 rfl (Or.inr ⟨_, rfl⟩) ?_
    refine T_getfield (v := .ref 374) d_Mo_mac_27 fg_Mo_1 hov_2 rfl ?_
    refine T_iload d_Mo_mac_30 rfl ?_
    have p_3 := (IA.kp (hib) hK (by decide))
    obtain ⟨f_4, hf_5, hl_6, hv_7⟩ := id p_3
    refine N_iaload (k := k) (x := (bR (gd l k))) d_Mo_mac_32 hf_5 (by omega) (by decide) (hv_7 k (by first | omega | (simp only [List.length_append, List.length_cons, List.length_nil, List.length_replicate, sl_len, be_len, sha_len, hmac_len, ex1_len, ex2_len, stretch_len, zer8_len, tC_len, tag1_len, bnN_len, xkp_len]; omega))) ?_
    obtain ⟨f_8, hf_9, hl_10, hv_11⟩ := id hda
    refine N_iastore (k := k) d_Mo_mac_33 (by decide) hf_9 (by omega) (by decide) rfl (fun M_12 h_13 s_14 => ?_)
    refine N_iinc (k := k) (m := 1) (c := (k + 1)) (L' := [(4, .int (nI ((k + 1)))), (0, .ref 373), (1, .ref p), (2, .int (nI at0)), (3, .int (nI 64))]) d_Mo_mac_34 (by decide) rfl (by decide) rfl rfl ?_
    refine T_goto (tgt := 11) d_Mo_mac_37 rfl ?_
    exact ih (k + 1) M_12 (by omega) ⟨ia_c0 h_13 (gd_c (by omega)) (by omega) (by omega) hv_11, (Kp.ex (Kp.tr (Kp.rf : Kp [384] M0 M0) (Kp.mono hK (by decide))) s_14 (by decide))⟩
set_option maxHeartbeats 8000000 in
theorem mc_x (G : GX) {M0 : List va_E} {w : Nat → Int32} {p m at0 : Nat} {s : List UInt8} (hky : IA M0 p m s) (ha : at0 + 64 ≤ s.length) (hm : m < 2 ^ 30) (hp : p ∉ macW) {Q : Option Value → List va_E → Prop} (kk : ∀ M, BF M w (xkp (sl s at0 64) 54 128) ∧ Kp [373, 374] M0 M → TT G mi_Mo_mac 85 [(0, .ref 373), (1, .ref p), (2, .int (nI at0)), (3, .int (nI 64))] [] M 0 0 Q) : ∀ j k M, k + j = 128 → BF M w (xkp (sl s at0 64) 54 k) ∧ Kp [373, 374] M0 M → TT G mi_Mo_mac 48 [(4, .int (nI k)), (0, .ref 373), (1, .ref p), (2, .int (nI at0)), (3, .int (nI 64))] [] M 0 0 Q := by
  intro j
  induction j with
  | zero =>
    intro k M hk hI
    obtain rfl : 128 = k := by omega
    refine T_iload d_Mo_mac_48 rfl ?_
    refine T_sipush (v := nI 128) d_Mo_mac_50 (by decide) ?_
    refine N_icmp_ge_t (a := 128) (b := 128) d_Mo_mac_53 (tgt := 85) rfl (by omega) (by omega) (by omega) ?_
    exact T_sub (fun q hq => List.mem_cons_of_mem _ hq) (kk M hI)
  | succ j ih =>
    intro k M hk hI
    obtain ⟨hb, hK⟩ := hI
    have hps := hky.le
    refine T_iload d_Mo_mac_48 rfl ?_
    refine T_sipush (v := nI 128) d_Mo_mac_50 (by decide) ?_
    refine N_icmp_ge_f (a := 128) (b := k) d_Mo_mac_53 (tgt := 85) rfl (by omega) (by omega) (by omega) ?_
    refine T_aload_n (v := .ref 373) d_Mo_mac_56 rfl (Or.inr ⟨_, rfl⟩) ?_
    refine T_iload d_Mo_mac_57 rfl ?_
    refine T_iload_n d_Mo_mac_59 rfl ?_
    refine N_icmp_ge (a := 64) (b := k) d_Mo_mac_60 (tgt := 72) rfl (by omega) (by omega) (fun hs => ?_) (fun hs => ?_)
    ·
      refine T_iconst (v := nI 0) d_Mo_mac_72 (by decide) ?_
      refine T_bipush (v := nI 54) d_Mo_mac_73 (by decide) ?_
      refine T_ixor d_Mo_mac_75 ?_
      obtain ⟨v_2, hov_2, hwv_2, hsv_2, hiv_2⟩ := id hb
      refine T_virtual (as := [.int ((nI 0) ^^^ (nI 54))]) (rest := []) (b := 373) d_Mo_mac_76 rfl (jw_Mo_one.jo (by decide)) lm_Mo_11 ji_Mo_one js_Mo_one hov_2 rfl rfl rfl (Nat.le_of_ble_eq_true rfl) (by decide) (by decide) (y_Mo_one (x := ((nI 0) ^^^ (nI 54))) hb (by rw [xkp_len]; omega)) (fun r M_1 hq => ?_)
      obtain ⟨rfl, p_1_0, kp_1⟩ := hq
      refine T_eq (pc' := 79) (L' := [(4, .int (nI k)), (0, .ref 373), (1, .ref p), (2, .int (nI at0)), (3, .int (nI 64))]) (st' := []) (M' := M_1) rfl rfl rfl rfl ?_
      refine N_iinc (k := k) (m := 1) (c := (k + 1)) (L' := [(4, .int (nI ((k + 1)))), (0, .ref 373), (1, .ref p), (2, .int (nI at0)), (3, .int (nI 64))]) d_Mo_mac_79 (by decide) rfl (by decide) rfl rfl ?_
      refine T_goto (tgt := 48) d_Mo_mac_82 rfl ?_
      exact ih (k + 1) M_1 (by omega) ⟨by rw [xkp_s, xkb_ge (by omega), ← xz_54]; exact p_1_0, (Kp.tr (Kp.tr (Kp.rf : Kp [373, 374] M0 M0) (Kp.mono hK (by decide))) (Kp.mono kp_1 (by decide)))⟩
    ·
      refine T_aload_n (v := .ref p) d_Mo_mac_63 rfl (Or.inr ⟨_, rfl⟩) ?_
      refine T_iload_n d_Mo_mac_64 rfl ?_
      refine T_iload d_Mo_mac_65 rfl ?_
      refine N_iadd (a := k) (b := at0) (c := (at0 + k)) d_Mo_mac_67 rfl ?_
      have p_3 := (IA.kp (hky) hK (nm hp (by decide)))
      obtain ⟨f_4, hf_5, hl_6, hv_7⟩ := id p_3
      refine N_iaload (k := (at0 + k)) (x := (bR (gd s (at0 + k)))) d_Mo_mac_68 hf_5 (by omega) (by omega) (hv_7 (at0 + k) (by first | omega | (simp only [List.length_append, List.length_cons, List.length_nil, List.length_replicate, sl_len, be_len, sha_len, hmac_len, ex1_len, ex2_len, stretch_len, zer8_len, tC_len, tag1_len, bnN_len, xkp_len]; omega))) ?_
      refine T_goto (tgt := 73) d_Mo_mac_69 rfl ?_
      refine T_bipush (v := nI 54) d_Mo_mac_73 (by decide) ?_
      refine T_ixor d_Mo_mac_75 ?_
      obtain ⟨v_9, hov_9, hwv_9, hsv_9, hiv_9⟩ := id hb
      refine T_virtual (as := [.int ((bR (gd s (at0 + k))) ^^^ (nI 54))]) (rest := []) (b := 373) d_Mo_mac_76 rfl (jw_Mo_one.jo (by decide)) lm_Mo_11 ji_Mo_one js_Mo_one hov_9 rfl rfl rfl (Nat.le_of_ble_eq_true rfl) (by decide) (by decide) (y_Mo_one (x := ((bR (gd s (at0 + k))) ^^^ (nI 54))) hb (by rw [xkp_len]; omega)) (fun r M_8 hq => ?_)
      obtain ⟨rfl, p_8_0, kp_8⟩ := hq
      refine T_eq (pc' := 79) (L' := [(4, .int (nI k)), (0, .ref 373), (1, .ref p), (2, .int (nI at0)), (3, .int (nI 64))]) (st' := []) (M' := M_8) rfl rfl rfl rfl ?_
      refine N_iinc (k := k) (m := 1) (c := (k + 1)) (L' := [(4, .int (nI ((k + 1)))), (0, .ref 373), (1, .ref p), (2, .int (nI at0)), (3, .int (nI 64))]) d_Mo_mac_79 (by decide) rfl (by decide) rfl rfl ?_
      refine T_goto (tgt := 48) d_Mo_mac_82 rfl ?_
      exact ih (k + 1) M_8 (by omega) ⟨by rw [xkp_s, xkb_lt (by omega), ← xr_54]; exact p_8_0, (Kp.tr (Kp.tr (Kp.rf : Kp [373, 374] M0 M0) (Kp.mono hK (by decide))) (Kp.mono kp_8 (by decide)))⟩
set_option maxHeartbeats 8000000 in
theorem mc_y (G : GX) {M0 : List va_E} {w : Nat → Int32} {p m at0 : Nat} {s : List UInt8} (hky : IA M0 p m s) (ha : at0 + 64 ≤ s.length) (hm : m < 2 ^ 30) (hp : p ∉ macW) {Q : Option Value → List va_E → Prop} (kk : ∀ M, BF M w (xkp (sl s at0 64) 92 128) ∧ Kp [373, 374] M0 M → TT G mi_Mo_mac 172 [(0, .ref 373), (1, .ref p), (2, .int (nI at0)), (3, .int (nI 64))] [] M 0 0 Q) : ∀ j k M, k + j = 128 → BF M w (xkp (sl s at0 64) 92 k) ∧ Kp [373, 374] M0 M → TT G mi_Mo_mac 135 [(4, .int (nI k)), (0, .ref 373), (1, .ref p), (2, .int (nI at0)), (3, .int (nI 64))] [] M 0 0 Q := by
  intro j
  induction j with
  | zero =>
    intro k M hk hI
    obtain rfl : 128 = k := by omega
    refine T_iload d_Mo_mac_135 rfl ?_
    refine T_sipush (v := nI 128) d_Mo_mac_137 (by decide) ?_
    refine N_icmp_ge_t (a := 128) (b := 128) d_Mo_mac_140 (tgt := 172) rfl (by omega) (by omega) (by omega) ?_
    exact T_sub (fun q hq => List.mem_cons_of_mem _ hq) (kk M hI)
  | succ j ih =>
    intro k M hk hI
    obtain ⟨hb, hK⟩ := hI
    have hps := hky.le
    refine T_iload d_Mo_mac_135 rfl ?_
    refine T_sipush (v := nI 128) d_Mo_mac_137 (by decide) ?_
    refine N_icmp_ge_f (a := 128) (b := k) d_Mo_mac_140 (tgt := 172) rfl (by omega) (by omega) (by omega) ?_
    refine T_aload_n (v := .ref 373) d_Mo_mac_143 rfl (Or.inr ⟨_, rfl⟩) ?_
    refine T_iload d_Mo_mac_144 rfl ?_
    refine T_iload_n d_Mo_mac_146 rfl ?_
    refine N_icmp_ge (a := 64) (b := k) d_Mo_mac_147 (tgt := 159) rfl (by omega) (by omega) (fun hs => ?_) (fun hs => ?_)
    ·
      refine T_iconst (v := nI 0) d_Mo_mac_159 (by decide) ?_
      refine T_bipush (v := nI 92) d_Mo_mac_160 (by decide) ?_
      refine T_ixor d_Mo_mac_162 ?_
      obtain ⟨v_2, hov_2, hwv_2, hsv_2, hiv_2⟩ := id hb
      refine T_virtual (as := [.int ((nI 0) ^^^ (nI 92))]) (rest := []) (b := 373) d_Mo_mac_163 rfl (jw_Mo_one.jo (by decide)) lm_Mo_11 ji_Mo_one js_Mo_one hov_2 rfl rfl rfl (Nat.le_of_ble_eq_true rfl) (by decide) (by decide) (y_Mo_one (x := ((nI 0) ^^^ (nI 92))) hb (by rw [xkp_len]; omega)) (fun r M_1 hq => ?_)
      obtain ⟨rfl, p_1_0, kp_1⟩ := hq
      refine T_eq (pc' := 166) (L' := [(4, .int (nI k)), (0, .ref 373), (1, .ref p), (2, .int (nI at0)), (3, .int (nI 64))]) (st' := []) (M' := M_1) rfl rfl rfl rfl ?_
      refine N_iinc (k := k) (m := 1) (c := (k + 1)) (L' := [(4, .int (nI ((k + 1)))), (0, .ref 373), (1, .ref p), (2, .int (nI at0)), (3, .int (nI 64))]) d_Mo_mac_166 (by decide) rfl (by decide) rfl rfl ?_
      refine T_goto (tgt := 135) d_Mo_mac_169 rfl ?_
      exact ih (k + 1) M_1 (by omega) ⟨by rw [xkp_s, xkb_ge (by omega), ← xz_92]; exact p_1_0, (Kp.tr (Kp.tr (Kp.rf : Kp [373, 374] M0 M0) (Kp.mono hK (by decide))) (Kp.mono kp_1 (by decide)))⟩
    ·
      refine T_aload_n (v := .ref p) d_Mo_mac_150 rfl (Or.inr ⟨_, rfl⟩) ?_
      refine T_iload_n d_Mo_mac_151 rfl ?_
      refine T_iload d_Mo_mac_152 rfl ?_
      refine N_iadd (a := k) (b := at0) (c := (at0 + k)) d_Mo_mac_154 rfl ?_
      have p_3 := (IA.kp (hky) hK (nm hp (by decide)))
      obtain ⟨f_4, hf_5, hl_6, hv_7⟩ := id p_3
      refine N_iaload (k := (at0 + k)) (x := (bR (gd s (at0 + k)))) d_Mo_mac_155 hf_5 (by omega) (by omega) (hv_7 (at0 + k) (by first | omega | (simp only [List.length_append, List.length_cons, List.length_nil, List.length_replicate, sl_len, be_len, sha_len, hmac_len, ex1_len, ex2_len, stretch_len, zer8_len, tC_len, tag1_len, bnN_len, xkp_len]; omega))) ?_
      refine T_goto (tgt := 160) d_Mo_mac_156 rfl ?_
      refine T_bipush (v := nI 92) d_Mo_mac_160 (by decide) ?_
      refine T_ixor d_Mo_mac_162 ?_
      obtain ⟨v_9, hov_9, hwv_9, hsv_9, hiv_9⟩ := id hb
      refine T_virtual (as := [.int ((bR (gd s (at0 + k))) ^^^ (nI 92))]) (rest := []) (b := 373) d_Mo_mac_163 rfl (jw_Mo_one.jo (by decide)) lm_Mo_11 ji_Mo_one js_Mo_one hov_9 rfl rfl rfl (Nat.le_of_ble_eq_true rfl) (by decide) (by decide) (y_Mo_one (x := ((bR (gd s (at0 + k))) ^^^ (nI 92))) hb (by rw [xkp_len]; omega)) (fun r M_8 hq => ?_)
      obtain ⟨rfl, p_8_0, kp_8⟩ := hq
      refine T_eq (pc' := 166) (L' := [(4, .int (nI k)), (0, .ref 373), (1, .ref p), (2, .int (nI at0)), (3, .int (nI 64))]) (st' := []) (M' := M_8) rfl rfl rfl rfl ?_
      refine N_iinc (k := k) (m := 1) (c := (k + 1)) (L' := [(4, .int (nI ((k + 1)))), (0, .ref 373), (1, .ref p), (2, .int (nI at0)), (3, .int (nI 64))]) d_Mo_mac_166 (by decide) rfl (by decide) rfl rfl ?_
      refine T_goto (tgt := 135) d_Mo_mac_169 rfl ?_
      exact ih (k + 1) M_8 (by omega) ⟨by rw [xkp_s, xkb_lt (by omega), ← xr_92]; exact p_8_0, (Kp.tr (Kp.tr (Kp.rf : Kp [373, 374] M0 M0) (Kp.mono hK (by decide))) (Kp.mono kp_8 (by decide)))⟩
set_option maxHeartbeats 8000000 in
theorem mc_i (G : GX) {M0 : List va_E} {w : Nat → Int32} {l s : List UInt8} {p at0 : Nat} (hb : BF M0 w l) (hs : IA M0 383 64 s) (hsn : 64 < 2 ^ 31) (ha : 0 + 64 ≤ s.length) (hd : 0 + 64 ≤ 64)  {Q : Option Value → List va_E → Prop} (kk : ∀ M, IA M 385 64 (sl s 0 64) ∧ Kp [385] M0 M → TT G mi_Mo_mac 132 [(0, .ref 373), (1, .ref p), (2, .int (nI at0)), (3, .int (nI 64))] [] M 0 0 Q) : ∀ j k M, k + j = 64 → IA M 385 64 (sl s 0 k) ∧ Kp [385] M0 M → TT G mi_Mo_mac 105 [(4, .int (nI k)), (0, .ref 373), (1, .ref p), (2, .int (nI at0)), (3, .int (nI 64))] [] M 0 0 Q := by
  intro j
  induction j with
  | zero =>
    intro k M hk hI
    obtain rfl : 64 = k := by omega
    obtain ⟨hda, hK⟩ := id hI
    refine T_iload d_Mo_mac_105 rfl ?_
    refine T_bipush (v := nI 64) d_Mo_mac_107 (by decide) ?_
    refine N_icmp_ge_t (a := 64) (b := 64) d_Mo_mac_109 (tgt := 132) rfl (by omega) (by omega) (by omega) ?_
    exact T_sub (fun q hq => List.mem_cons_of_mem _ hq) (kk M hI)
  | succ j ih =>
    intro k M hk hI
    obtain ⟨hda, hK⟩ := hI
    have hsl := IA.le hs
    refine T_iload d_Mo_mac_105 rfl ?_
    refine T_bipush (v := nI 64) d_Mo_mac_107 (by decide) ?_
    refine N_icmp_ge_f (a := 64) (b := k) d_Mo_mac_109 (tgt := 132) rfl (by omega) (by omega) (by omega) ?_
    refine T_aload_n (v := .ref 373) d_Mo_mac_112 rfl (Or.inr ⟨_, rfl⟩) ?_
    have p_1 := (BF.kp (hb) hK (by decide) (by decide))
    obtain ⟨v_2, hov_2, hwv_2, hsv_2, hiv_2⟩ := id p_1
    refine T_getfield (v := .ref 385) d_Mo_mac_113 fg_Mo_84 hov_2 rfl ?_
    refine T_iload d_Mo_mac_116 rfl ?_
    refine T_aload_n (v := .ref 373) d_Mo_mac_118 rfl (Or.inr ⟨_, rfl⟩) ?_
    refine T_getfield (v := .ref 383) d_Mo_mac_119 fg_Mo_55 hov_2 rfl ?_
    refine T_iload d_Mo_mac_122 rfl ?_
    have p_3 := (IA.kp (hs) hK (by decide))
    obtain ⟨f_4, hf_5, hl_6, hv_7⟩ := id p_3
    refine N_iaload (k := k) (x := (bR (gd s k))) d_Mo_mac_124 hf_5 (by omega) (by decide) (hv_7 k (by first | omega | (simp only [List.length_append, List.length_cons, List.length_nil, List.length_replicate, sl_len, be_len, sha_len, hmac_len, ex1_len, ex2_len, stretch_len, zer8_len, tC_len, tag1_len, bnN_len, xkp_len]; omega))) ?_
    obtain ⟨f_8, hf_9, hl_10, hv_11⟩ := id hda
    refine N_iastore (k := k) d_Mo_mac_125 (by decide) hf_9 (by omega) (by decide) rfl (fun M_12 h_13 s_14 => ?_)
    refine N_iinc (k := k) (m := 1) (c := (k + 1)) (L' := [(4, .int (nI ((k + 1)))), (0, .ref 373), (1, .ref p), (2, .int (nI at0)), (3, .int (nI 64))]) d_Mo_mac_126 (by decide) rfl (by decide) rfl rfl ?_
    refine T_goto (tgt := 105) d_Mo_mac_129 rfl ?_
    exact ih (k + 1) M_12 (by omega) ⟨ia_c0 h_13 (gd_c (by omega)) (by omega) (by omega) hv_11, (Kp.ex (Kp.tr (Kp.rf : Kp [385] M0 M0) (Kp.mono hK (by decide))) s_14 (by decide))⟩
set_option maxHeartbeats 8000000 in
theorem g_Mo_mac {G : GX} {M : List va_E} {w : Nat → Int32} {p m at0 : Nat} {l s : List UInt8} (hms : MS M) (h : BF M w l) (hk : IA M p m s) (ha : at0 + 64 ≤ s.length) (hm2 : m < 2 ^ 30) (hl : l.length ≤ 1700) (hp : p ∉ macW) : CT G mi_Mo_mac [.ref 373, .ref p, .int (nI at0), .int (nI 64)] M (fun r M' => r = none ∧ MS M' ∧ BF M' (upd w 68 (nI l.length)) [] ∧ IA M' 383 64 (hmac (sl s at0 64) l) ∧ Kp macW M M') := by
  refine CT.of (by decide) (Nat.le_of_ble_eq_true rfl) ?_
  show TT G mi_Mo_mac 0 [(0, .ref 373), (1, .ref p), (2, .int (nI at0)), (3, .int (nI 64))] [] M 0 0 _
  refine T_aload_n (v := .ref 373) d_Mo_mac_0 rfl (Or.inr ⟨_, rfl⟩) ?_
  refine T_aload_n (v := .ref 373) d_Mo_mac_1 rfl (Or.inr ⟨_, rfl⟩) ?_
  obtain ⟨v_1, hov_1, hwv_1, hsv_1, hiv_1⟩ := id h
  refine N_getI (x := (v_1 67)) (y := (nI (l.length))) d_Mo_mac_2 fg_Mo_7 hov_1 rfl hsv_1 ?_
  refine N_put (e := (moO (upd v_1 68 (nI (l.length))))) d_Mo_mac_5 (fp_Mo_70 _) hov_1 (Nat.le_of_ble_eq_true rfl) ⟨rfl, rfl⟩ rfl (fun M_2 h_3 s_4 => ?_)
  have p_5 := BF.st (j := 68) (by decide) hwv_1 hsv_1 hiv_1 h_3 (Ex.kp s_4)
  refine T_iconst (v := nI 0) d_Mo_mac_8 (by decide) ?_
  refine T_istore (L' := [(4, .int (nI 0)), (0, .ref 373), (1, .ref p), (2, .int (nI at0)), (3, .int (nI 64))]) d_Mo_mac_9 (by decide) rfl ?_
  have p_6 := (MS.kp (hms) (Ex.kp s_4) (by decide))
  refine mc_d G p_5 (by first | omega | (simp only [List.length_append, List.length_cons, List.length_nil, List.length_replicate, sl_len, be_len, sha_len, hmac_len, ex1_len, ex2_len, stretch_len, zer8_len, tC_len, tag1_len, bnN_len, xkp_len, xk_len]; done) | (simp only [List.length_append, List.length_cons, List.length_nil, List.length_replicate, sl_len, be_len, sha_len, hmac_len, ex1_len, ex2_len, stretch_len, zer8_len, tC_len, tag1_len, bnN_len, xkp_len, xk_len]; omega)) (by first | omega | (simp only [List.length_append, List.length_cons, List.length_nil, List.length_replicate, sl_len, be_len, sha_len, hmac_len, ex1_len, ex2_len, stretch_len, zer8_len, tC_len, tag1_len, bnN_len, xkp_len, xk_len]; done) | (simp only [List.length_append, List.length_cons, List.length_nil, List.length_replicate, sl_len, be_len, sha_len, hmac_len, ex1_len, ex2_len, stretch_len, zer8_len, tC_len, tag1_len, bnN_len, xkp_len, xk_len]; omega)) (fun Mc7 hI => ?_) l.length 0 M_2 (Nat.zero_add _) ⟨by rw [sl_zero]; exact (MS.ia p_6 (p := 384) (n := 2000) (by decide)), Kp.rf⟩
  obtain ⟨hd7, hK7⟩ := hI
  have ms7 := MS.wi p_6 hK7 hd7.iq (by decide) (by decide) (by decide)
  have p_8 : IA Mc7 384 2000 l := (by have g := hd7; rw [sl_all] at g; exact g)
  refine T_aload_n (v := .ref 373) d_Mo_mac_40 rfl (Or.inr ⟨_, rfl⟩) ?_
  refine T_iconst (v := nI 0) d_Mo_mac_41 (by decide) ?_
  have p_9 := (BF.kp (p_5) hK7 (by decide) (by decide))
  obtain ⟨v_10, hov_10, hwv_10, hsv_10, hiv_10⟩ := id p_9
  refine N_put (e := (moO (upd v_10 67 (nI 0)))) d_Mo_mac_42 (fp_Mo_7 _) hov_10 (Nat.le_of_ble_eq_true rfl) ⟨rfl, rfl⟩ rfl (fun M_11 h_12 s_13 => ?_)
  have p_14 := BF.sz hwv_10 hiv_10 h_12 (Ex.kp s_13)
  refine T_iconst (v := nI 0) d_Mo_mac_45 (by decide) ?_
  refine T_istore (L' := [(4, .int (nI 0)), (0, .ref 373), (1, .ref p), (2, .int (nI at0)), (3, .int (nI 64))]) d_Mo_mac_46 (by decide) rfl ?_
  have p_15 := (IA.kp ((IA.kp ((IA.kp (hk) (Ex.kp s_4) (nm hp (by decide)))) hK7 (nm hp (by decide)))) (Ex.kp s_13) (nm hp (by decide)))
  refine mc_x G p_15 ha hm2 hp (fun Mx16 hI => ?_) 128 0 M_11 (Nat.zero_add _) ⟨p_14, Kp.rf⟩
  obtain ⟨hb16, hK16⟩ := hI
  rw [xkp_x] at hb16
  refine T_aload_n (v := .ref 373) d_Mo_mac_85 rfl (Or.inr ⟨_, rfl⟩) ?_
  refine T_aload_n (v := .ref 373) d_Mo_mac_86 rfl (Or.inr ⟨_, rfl⟩) ?_
  obtain ⟨v_17, hov_17, hwv_17, hsv_17, hiv_17⟩ := id hb16
  refine T_getfield (v := .ref 384) d_Mo_mac_87 fg_Mo_73 hov_17 rfl ?_
  refine T_iconst (v := nI 0) d_Mo_mac_90 (by decide) ?_
  refine T_aload_n (v := .ref 373) d_Mo_mac_91 rfl (Or.inr ⟨_, rfl⟩) ?_
  refine N_getI (x := (v_17 68)) (y := (nI ((l.length)))) d_Mo_mac_92 fg_Mo_70 hov_17 rfl ((hwv_17 68 (by decide)).trans (show (upd w 68 (nI (l.length))) 68 = (nI ((l.length))) from rfl)) ?_
  have p_18 := (IA.kp ((IA.kp (p_8) (Ex.kp s_13) (by decide))) hK16 (by decide))
  refine T_virtual (as := [.ref 384, .int (nI 0), .int (nI ((l.length)))]) (rest := []) (b := 373) d_Mo_mac_95 rfl (jw_Mo_bytes.jo (by decide)) lm_Mo_76 ji_Mo_bytes js_Mo_bytes hov_17 rfl rfl rfl (Nat.le_of_ble_eq_true rfl) (by decide) (by decide) (y_Mo_bytes (at0 := 0) (n := (l.length)) hb16 p_18 (by first | omega | (simp only [List.length_append, List.length_cons, List.length_nil, List.length_replicate, sl_len, be_len, sha_len, hmac_len, ex1_len, ex2_len, stretch_len, zer8_len, tC_len, tag1_len, bnN_len, xkp_len, xk_len]; done) | (simp only [List.length_append, List.length_cons, List.length_nil, List.length_replicate, sl_len, be_len, sha_len, hmac_len, ex1_len, ex2_len, stretch_len, zer8_len, tC_len, tag1_len, bnN_len, xkp_len, xk_len]; omega)) (by decide) (by first | omega | (simp only [List.length_append, List.length_cons, List.length_nil, List.length_replicate, sl_len, be_len, sha_len, hmac_len, ex1_len, ex2_len, stretch_len, zer8_len, tC_len, tag1_len, bnN_len, xkp_len, xk_len]; done) | (simp only [List.length_append, List.length_cons, List.length_nil, List.length_replicate, sl_len, be_len, sha_len, hmac_len, ex1_len, ex2_len, stretch_len, zer8_len, tC_len, tag1_len, bnN_len, xkp_len, xk_len]; omega)) (by decide) (by decide)) (fun r M_19 hq => ?_)
  obtain ⟨rfl, p_19_0, kp_19⟩ := hq
  refine T_eq (pc' := 98) (L' := [(0, .ref 373), (1, .ref p), (2, .int (nI at0)), (3, .int (nI 64))]) (st' := []) (M' := M_19) rfl rfl rfl rfl ?_
  refine T_aload_n (v := .ref 373) d_Mo_mac_98 rfl (Or.inr ⟨_, rfl⟩) ?_
  have p_20 := (MS.kp ((MS.kp ((MS.kp (ms7) (Ex.kp s_13) (by decide))) hK16 (by decide))) kp_19 (by decide))
  obtain ⟨v_22, hov_22, hwv_22, hsv_22, hiv_22⟩ := id p_19_0
  refine T_virtual (as := []) (rest := []) (b := 373) d_Mo_mac_99 rfl (jw_Mo_hash0.jo (by decide)) lm_Mo_80 ji_Mo_hash0 js_Mo_hash0 hov_22 rfl rfl rfl (Nat.le_of_ble_eq_true rfl) (by decide) (by decide) (g_Mo_hash0 p_20 p_19_0 (by first | omega | (simp only [List.length_append, List.length_cons, List.length_nil, List.length_replicate, sl_len, be_len, sha_len, hmac_len, ex1_len, ex2_len, stretch_len, zer8_len, tC_len, tag1_len, bnN_len, xkp_len, xk_len]; done) | (simp only [List.length_append, List.length_cons, List.length_nil, List.length_replicate, sl_len, be_len, sha_len, hmac_len, ex1_len, ex2_len, stretch_len, zer8_len, tC_len, tag1_len, bnN_len, xkp_len, xk_len]; omega))) (fun r M_21 hq => ?_)
  obtain ⟨rfl, p_21_0, p_21_1, p_21_2, kp_21⟩ := hq
  refine T_eq (pc' := 102) (L' := [(0, .ref 373), (1, .ref p), (2, .int (nI at0)), (3, .int (nI 64))]) (st' := []) (M' := M_21) rfl rfl rfl rfl ?_
  refine T_iconst (v := nI 0) d_Mo_mac_102 (by decide) ?_
  refine T_istore (L' := [(4, .int (nI 0)), (0, .ref 373), (1, .ref p), (2, .int (nI at0)), (3, .int (nI 64))]) d_Mo_mac_103 (by decide) rfl ?_
  refine mc_i G p_21_1 p_21_2 (by decide) (by first | omega | (simp only [List.length_append, List.length_cons, List.length_nil, List.length_replicate, sl_len, be_len, sha_len, hmac_len, ex1_len, ex2_len, stretch_len, zer8_len, tC_len, tag1_len, bnN_len, xkp_len, xk_len]; done) | (simp only [List.length_append, List.length_cons, List.length_nil, List.length_replicate, sl_len, be_len, sha_len, hmac_len, ex1_len, ex2_len, stretch_len, zer8_len, tC_len, tag1_len, bnN_len, xkp_len, xk_len]; omega)) (by decide) (fun Mc23 hI => ?_) 64 0 M_21 (Nat.zero_add _) ⟨by rw [sl_zero]; exact (MS.ia p_21_0 (p := 385) (n := 64) (by decide)), Kp.rf⟩
  obtain ⟨hd23, hK23⟩ := hI
  have ms23 := MS.wi p_21_0 hK23 hd23.iq (by decide) (by decide) (by decide)
  refine T_iconst (v := nI 0) d_Mo_mac_132 (by decide) ?_
  refine T_istore (L' := [(4, .int (nI 0)), (0, .ref 373), (1, .ref p), (2, .int (nI at0)), (3, .int (nI 64))]) d_Mo_mac_133 (by decide) rfl ?_
  have p_24 := (BF.kp (p_21_1) hK23 (by decide) (by decide))
  have p_25 := (IA.kp ((IA.kp ((IA.kp ((IA.kp (p_15) hK16 (nm hp (by decide)))) kp_19 (nm hp (by decide)))) kp_21 (nm hp (by decide)))) hK23 (nm hp (by decide)))
  refine mc_y G p_25 ha hm2 hp (fun Mx26 hI => ?_) 128 0 Mc23 (Nat.zero_add _) ⟨p_24, Kp.rf⟩
  obtain ⟨hb26, hK26⟩ := hI
  rw [xkp_x] at hb26
  refine T_aload_n (v := .ref 373) d_Mo_mac_172 rfl (Or.inr ⟨_, rfl⟩) ?_
  refine T_aload_n (v := .ref 373) d_Mo_mac_173 rfl (Or.inr ⟨_, rfl⟩) ?_
  obtain ⟨v_27, hov_27, hwv_27, hsv_27, hiv_27⟩ := id hb26
  refine T_getfield (v := .ref 385) d_Mo_mac_174 fg_Mo_84 hov_27 rfl ?_
  refine T_iconst (v := nI 0) d_Mo_mac_177 (by decide) ?_
  refine T_bipush (v := nI 64) d_Mo_mac_178 (by decide) ?_
  have p_28 := (IA.kp (hd23) hK26 (by decide))
  refine T_virtual (as := [.ref 385, .int (nI 0), .int (nI 64)]) (rest := []) (b := 373) d_Mo_mac_180 rfl (jw_Mo_bytes.jo (by decide)) lm_Mo_76 ji_Mo_bytes js_Mo_bytes hov_27 rfl rfl rfl (Nat.le_of_ble_eq_true rfl) (by decide) (by decide) (y_Mo_bytes (at0 := 0) (n := 64) hb26 p_28 (by first | omega | (simp only [List.length_append, List.length_cons, List.length_nil, List.length_replicate, sl_len, be_len, sha_len, hmac_len, ex1_len, ex2_len, stretch_len, zer8_len, tC_len, tag1_len, bnN_len, xkp_len, xk_len]; done) | (simp only [List.length_append, List.length_cons, List.length_nil, List.length_replicate, sl_len, be_len, sha_len, hmac_len, ex1_len, ex2_len, stretch_len, zer8_len, tC_len, tag1_len, bnN_len, xkp_len, xk_len]; omega)) (by decide) (by first | omega | (simp only [List.length_append, List.length_cons, List.length_nil, List.length_replicate, sl_len, be_len, sha_len, hmac_len, ex1_len, ex2_len, stretch_len, zer8_len, tC_len, tag1_len, bnN_len, xkp_len, xk_len]; done) | (simp only [List.length_append, List.length_cons, List.length_nil, List.length_replicate, sl_len, be_len, sha_len, hmac_len, ex1_len, ex2_len, stretch_len, zer8_len, tC_len, tag1_len, bnN_len, xkp_len, xk_len]; omega)) (by decide) (by decide)) (fun r M_29 hq => ?_)
  obtain ⟨rfl, p_29_0, kp_29⟩ := hq
  refine T_eq (pc' := 183) (L' := [(0, .ref 373), (1, .ref p), (2, .int (nI at0)), (3, .int (nI 64))]) (st' := []) (M' := M_29) rfl rfl rfl rfl ?_
  refine T_aload_n (v := .ref 373) d_Mo_mac_183 rfl (Or.inr ⟨_, rfl⟩) ?_
  have p_30 := (MS.kp ((MS.kp (ms23) hK26 (by decide))) kp_29 (by decide))
  obtain ⟨v_32, hov_32, hwv_32, hsv_32, hiv_32⟩ := id p_29_0
  refine T_virtual (as := []) (rest := []) (b := 373) d_Mo_mac_184 rfl (jw_Mo_hash0.jo (by decide)) lm_Mo_80 ji_Mo_hash0 js_Mo_hash0 hov_32 rfl rfl rfl (Nat.le_of_ble_eq_true rfl) (by decide) (by decide) (g_Mo_hash0 p_30 p_29_0 (by first | omega | (simp only [List.length_append, List.length_cons, List.length_nil, List.length_replicate, sl_len, be_len, sha_len, hmac_len, ex1_len, ex2_len, stretch_len, zer8_len, tC_len, tag1_len, bnN_len, xkp_len, xk_len]; done) | (simp only [List.length_append, List.length_cons, List.length_nil, List.length_replicate, sl_len, be_len, sha_len, hmac_len, ex1_len, ex2_len, stretch_len, zer8_len, tC_len, tag1_len, bnN_len, xkp_len, xk_len]; omega))) (fun r M_31 hq => ?_)
  obtain ⟨rfl, p_31_0, p_31_1, p_31_2, kp_31⟩ := hq
  refine T_eq (pc' := 187) (L' := [(0, .ref 373), (1, .ref p), (2, .int (nI at0)), (3, .int (nI 64))]) (st' := []) (M' := M_31) rfl rfl rfl rfl ?_
  have p_33 : IA M_31 383 64 (hmac (sl s at0 64) l) := (by have g := p_31_2; rw [sl64 (sha_len _), sl64 (sha_len _), sl_all] at g; exact g)
  exact T_vret d_Mo_mac_187 rfl (by decide) (by decide) ⟨rfl, p_31_0, p_31_1, p_33, (Kp.tr (Kp.tr (Kp.tr (Kp.tr (Kp.tr (Kp.tr (Kp.tr (Kp.ex (Kp.tr (Kp.ex (Kp.rf : Kp [373, 374, 380, 382, 381, 383, 384, 385] M M) s_4 (by decide)) (Kp.mono hK7 (by decide))) s_13 (by decide)) (Kp.mono hK16 (by decide))) (Kp.mono kp_19 (by decide))) (Kp.mono kp_21 (by decide))) (Kp.mono hK23 (by decide))) (Kp.mono hK26 (by decide))) (Kp.mono kp_29 (by decide))) (Kp.mono kp_31 (by decide)))⟩
theorem b_Mo_mac {G : GX} {M : List va_E} {w : Nat → Int32} {p m at0 : Nat} {l s : List UInt8} (hms : MS M) (h : BG M w l) (hk : IA M p m s) (ha : at0 + 64 ≤ s.length) (hm2 : m < 2 ^ 30) (hl : l.length ≤ 1700) (hp : p ∉ macW) : CT G mi_Mo_mac [.ref 373, .ref p, .int (nI at0), .int (nI 64)] M (fun r M' => r = none ∧ MS M' ∧ BG M' w [] ∧ IA M' 383 64 (hmac (sl s at0 64) l) ∧ Kp macW M M') := by
  obtain ⟨w', h, e⟩ := h.bf
  exact (g_Mo_mac hms h hk ha hm2 hl hp).post fun r M' q => ⟨q.1, q.2.1, q.2.2.1.bg (fun j hj => by unfold upd; rw [if_neg (by omega)]; exact e j hj), q.2.2.2⟩
set_option maxHeartbeats 8000000 in
theorem b_Mo_extract {G : GX} {M : List va_E} {w : Nat → Int32} {l : List UInt8} (hms : MS M) (h : BG M w l) (hl : l.length ≤ 1700) : CT G mi_Mo_extract [.ref 373] M (fun r M' => r = none ∧ MS M' ∧ BG M' w [] ∧ IA M' 383 64 (hmac (zer8 64) l) ∧ Kp macW M M') := by
  refine CT.of (by decide) (Nat.le_of_ble_eq_true rfl) ?_
  show TT G mi_Mo_extract 0 [(0, .ref 373)] [] M 0 0 _
  refine T_aload_n (v := .ref 373) d_Mo_extract_0 rfl (Or.inr ⟨_, rfl⟩) ?_
  refine T_aload_n (v := .ref 373) d_Mo_extract_1 rfl (Or.inr ⟨_, rfl⟩) ?_
  obtain ⟨v_1, hov_1, hwv_1, hsv_1, hiv_1⟩ := id h
  refine T_getfield (v := .ref 386) d_Mo_extract_2 fg_Mo_87 hov_1 rfl ?_
  refine T_iconst (v := nI 0) d_Mo_extract_5 (by decide) ?_
  refine T_bipush (v := nI 64) d_Mo_extract_6 (by decide) ?_
  refine T_virtual (as := [.ref 386, .int (nI 0), .int (nI 64)]) (rest := []) (b := 373) d_Mo_extract_8 rfl (jw_Mo_mac.jo (by decide)) lm_Mo_90 ji_Mo_mac js_Mo_mac hov_1 rfl rfl rfl (Nat.le_of_ble_eq_true rfl) (by decide) (by decide) (b_Mo_mac (at0 := 0) hms h hms.2.2.1.2.2.1 (by first | omega | (simp only [List.length_append, List.length_cons, List.length_nil, List.length_replicate, sl_len, be_len, sha_len, hmac_len, ex1_len, ex2_len, stretch_len, zer8_len, tC_len, tag1_len, bnN_len, xkp_len]; done) | (simp only [List.length_append, List.length_cons, List.length_nil, List.length_replicate, sl_len, be_len, sha_len, hmac_len, ex1_len, ex2_len, stretch_len, zer8_len, tC_len, tag1_len, bnN_len, xkp_len]; omega)) (by decide) (by first | omega | (simp only [List.length_append, List.length_cons, List.length_nil, List.length_replicate, sl_len, be_len, sha_len, hmac_len, ex1_len, ex2_len, stretch_len, zer8_len, tC_len, tag1_len, bnN_len, xkp_len]; done) | (simp only [List.length_append, List.length_cons, List.length_nil, List.length_replicate, sl_len, be_len, sha_len, hmac_len, ex1_len, ex2_len, stretch_len, zer8_len, tC_len, tag1_len, bnN_len, xkp_len]; omega)) (by decide)) (fun r M_2 hq => ?_)
  obtain ⟨rfl, p_2_0, p_2_1, p_2_2, kp_2⟩ := hq
  refine T_eq (pc' := 11) (L' := [(0, .ref 373)]) (st' := []) (M' := M_2) rfl rfl rfl rfl ?_
  have p_3 : IA M_2 383 64 (hmac (zer8 64) l) := (by have g := p_2_2; rw [sl64 (zer8_len 64)] at g; exact g)
  exact T_vret d_Mo_extract_11 rfl (by decide) (by decide) ⟨rfl, p_2_0, p_2_1, p_3, (Kp.tr (Kp.rf : Kp [373, 374, 380, 382, 381, 383, 384, 385] M M) (Kp.mono kp_2 (by decide)))⟩
abbrev expW : List Nat := [373, 374, 380, 382, 381, 383, 384, 385, 387, 388]
set_option maxHeartbeats 8000000 in
theorem xp_i1 (G : GX) {M0 : List va_E} {w : Nat → Int32} {l : List UInt8} {p at0 n : Nat} (hb : BF M0 w l) (ha : 0 + l.length ≤ l.length) (hd : 0 + l.length ≤ 400)  {Q : Option Value → List va_E → Prop} (kk : ∀ M, IA M 387 400 (sl l 0 l.length) ∧ Kp [387] M0 M → TT G mi_Mo_expand 40 [(0, .ref 373), (1, .ref p), (2, .int (nI at0)), (3, .int (nI n))] [] M 0 0 Q) : ∀ j k M, k + j = l.length → IA M 387 400 (sl l 0 k) ∧ Kp [387] M0 M → TT G mi_Mo_expand 11 [(4, .int (nI k)), (0, .ref 373), (1, .ref p), (2, .int (nI at0)), (3, .int (nI n))] [] M 0 0 Q := by
  intro j
  induction j with
  | zero =>
    intro k M hk hI
    obtain rfl : l.length = k := by omega
    obtain ⟨hda, hK⟩ := id hI
    refine T_iload d_Mo_expand_11 rfl ?_
    refine T_aload_n (v := .ref 373) d_Mo_expand_13 rfl (Or.inr ⟨_, rfl⟩) ?_
    have p_1 := (BF.kp (hb) hK (by decide) (by decide))
    obtain ⟨v_2, hov_2, hwv_2, hsv_2, hiv_2⟩ := id p_1
    refine N_getI (x := (v_2 67)) (y := (nI (l.length))) d_Mo_expand_14 fg_Mo_7 hov_2 rfl hsv_2 ?_
    refine N_icmp_ge_t (a := l.length) (b := l.length) d_Mo_expand_17 (tgt := 40) rfl (by omega) (by omega) (by omega) ?_
    exact T_sub (fun q hq => List.mem_cons_of_mem _ hq) (kk M hI)
  | succ j ih =>
    intro k M hk hI
    obtain ⟨hda, hK⟩ := hI
    obtain ⟨vb, hob, hwb, hsb, hib⟩ := id hb
    have hsl := IA.le hib
    refine T_iload d_Mo_expand_11 rfl ?_
    refine T_aload_n (v := .ref 373) d_Mo_expand_13 rfl (Or.inr ⟨_, rfl⟩) ?_
    have p_1 := (BF.kp (hb) hK (by decide) (by decide))
    obtain ⟨v_2, hov_2, hwv_2, hsv_2, hiv_2⟩ := id p_1
    refine N_getI (x := (v_2 67)) (y := (nI (l.length))) d_Mo_expand_14 fg_Mo_7 hov_2 rfl hsv_2 ?_
    refine N_icmp_ge_f (a := l.length) (b := k) d_Mo_expand_17 (tgt := 40) rfl (by omega) (by omega) (by omega) ?_
    refine T_aload_n (v := .ref 373) d_Mo_expand_20 rfl (Or.inr ⟨_, rfl⟩) ?_
    refine T_getfield (v := .ref 387) d_Mo_expand_21 fg_Mo_96 hov_2 rfl ?_
    refine T_iload d_Mo_expand_24 rfl ?_
    refine T_aload_n (v := .ref 373) d_Mo_expand_26 rfl (Or.inr ⟨_, rfl⟩) ?_
    refine T_getfield (v := .ref 374) d_Mo_expand_27 fg_Mo_1 hov_2 rfl ?_
    refine T_iload d_Mo_expand_30 rfl ?_
    have p_3 := (IA.kp (hib) hK (by decide))
    obtain ⟨f_4, hf_5, hl_6, hv_7⟩ := id p_3
    refine N_iaload (k := k) (x := (bR (gd l k))) d_Mo_expand_32 hf_5 (by omega) (by decide) (hv_7 k (by first | omega | (simp only [List.length_append, List.length_cons, List.length_nil, List.length_replicate, sl_len, be_len, sha_len, hmac_len, ex1_len, ex2_len, stretch_len, zer8_len, tC_len, tag1_len, bnN_len, xkp_len]; omega))) ?_
    obtain ⟨f_8, hf_9, hl_10, hv_11⟩ := id hda
    refine N_iastore (k := k) d_Mo_expand_33 (by decide) hf_9 (by omega) (by decide) rfl (fun M_12 h_13 s_14 => ?_)
    refine N_iinc (k := k) (m := 1) (c := (k + 1)) (L' := [(4, .int (nI ((k + 1)))), (0, .ref 373), (1, .ref p), (2, .int (nI at0)), (3, .int (nI n))]) d_Mo_expand_34 (by decide) rfl (by decide) rfl rfl ?_
    refine T_goto (tgt := 11) d_Mo_expand_37 rfl ?_
    exact ih (k + 1) M_12 (by omega) ⟨ia_c0 h_13 (gd_c (by omega)) (by omega) (by omega) hv_11, (Kp.ex (Kp.tr (Kp.rf : Kp [387] M0 M0) (Kp.mono hK (by decide))) s_14 (by decide))⟩
set_option maxHeartbeats 8000000 in
theorem xp_a1 (G : GX) {M0 : List va_E} {w : Nat → Int32} {l s : List UInt8} {p at0 n : Nat} (hb : BF M0 w l) (hs : IA M0 383 64 s) (hsn : 64 < 2 ^ 31) (ha : 0 + 64 ≤ s.length) (hd : 0 + 64 ≤ 192)  {Q : Option Value → List va_E → Prop} (kk : ∀ M, IA M 388 192 (sl s 0 64) ∧ Kp [388] M0 M → TT G mi_Mo_expand 145 [(4, .int (nI 0)), (0, .ref 373), (1, .ref p), (2, .int (nI at0)), (3, .int (nI n))] [] M 0 0 Q) : ∀ j k M, k + j = 64 → IA M 388 192 (sl s 0 k) ∧ Kp [388] M0 M → TT G mi_Mo_expand 112 [(5, .int (nI k)), (4, .int (nI 0)), (0, .ref 373), (1, .ref p), (2, .int (nI at0)), (3, .int (nI n))] [] M 0 0 Q := by
  intro j
  induction j with
  | zero =>
    intro k M hk hI
    obtain rfl : 64 = k := by omega
    obtain ⟨hda, hK⟩ := id hI
    refine T_iload d_Mo_expand_112 rfl ?_
    refine T_bipush (v := nI 64) d_Mo_expand_114 (by decide) ?_
    refine N_icmp_ge_t (a := 64) (b := 64) d_Mo_expand_116 (tgt := 145) rfl (by omega) (by omega) (by omega) ?_
    exact T_sub (fun q hq => List.mem_cons_of_mem _ hq) (kk M hI)
  | succ j ih =>
    intro k M hk hI
    obtain ⟨hda, hK⟩ := hI
    have hsl := IA.le hs
    refine T_iload d_Mo_expand_112 rfl ?_
    refine T_bipush (v := nI 64) d_Mo_expand_114 (by decide) ?_
    refine N_icmp_ge_f (a := 64) (b := k) d_Mo_expand_116 (tgt := 145) rfl (by omega) (by omega) (by omega) ?_
    refine T_aload_n (v := .ref 373) d_Mo_expand_119 rfl (Or.inr ⟨_, rfl⟩) ?_
    have p_1 := (BF.kp (hb) hK (by decide) (by decide))
    obtain ⟨v_2, hov_2, hwv_2, hsv_2, hiv_2⟩ := id p_1
    refine T_getfield (v := .ref 388) d_Mo_expand_120 fg_Mo_99 hov_2 rfl ?_
    refine T_bipush (v := nI 64) d_Mo_expand_123 (by decide) ?_
    refine T_iload d_Mo_expand_125 rfl ?_
    refine N_imul (a := 0) (b := 64) (c := 0) d_Mo_expand_127 rfl ?_
    refine T_iload d_Mo_expand_128 rfl ?_
    refine N_iadd (a := k) (b := 0) (c := (0 + k)) d_Mo_expand_130 rfl ?_
    refine T_aload_n (v := .ref 373) d_Mo_expand_131 rfl (Or.inr ⟨_, rfl⟩) ?_
    refine T_getfield (v := .ref 383) d_Mo_expand_132 fg_Mo_55 hov_2 rfl ?_
    refine T_iload d_Mo_expand_135 rfl ?_
    have p_3 := (IA.kp (hs) hK (by decide))
    obtain ⟨f_4, hf_5, hl_6, hv_7⟩ := id p_3
    refine N_iaload (k := k) (x := (bR (gd s k))) d_Mo_expand_137 hf_5 (by omega) (by decide) (hv_7 k (by first | omega | (simp only [List.length_append, List.length_cons, List.length_nil, List.length_replicate, sl_len, be_len, sha_len, hmac_len, ex1_len, ex2_len, stretch_len, zer8_len, tC_len, tag1_len, bnN_len, xkp_len]; omega))) ?_
    obtain ⟨f_8, hf_9, hl_10, hv_11⟩ := id hda
    refine N_iastore (k := (0 + k)) d_Mo_expand_138 (by decide) hf_9 (by omega) (by decide) rfl (fun M_12 h_13 s_14 => ?_)
    refine N_iinc (k := k) (m := 1) (c := (k + 1)) (L' := [(5, .int (nI ((k + 1)))), (4, .int (nI 0)), (0, .ref 373), (1, .ref p), (2, .int (nI at0)), (3, .int (nI n))]) d_Mo_expand_139 (by decide) rfl (by decide) rfl rfl ?_
    refine T_goto (tgt := 112) d_Mo_expand_142 rfl ?_
    exact ih (k + 1) M_12 (by omega) ⟨ia_c0 h_13 (gd_c (by omega)) (by omega) (by omega) hv_11, (Kp.ex (Kp.tr (Kp.rf : Kp [388] M0 M0) (Kp.mono hK (by decide))) s_14 (by decide))⟩
set_option maxHeartbeats 8000000 in
theorem b_Mo_expand1 {G : GX} {M : List va_E} {w : Nat → Int32} {p m at0 n : Nat} {l s : List UInt8} (hms : MS M) (h : BG M w l) (hk : IA M p m s) (ha : at0 + 64 ≤ s.length) (hm2 : m < 2 ^ 30) (hl : l.length ≤ 400) (hp : p ∉ expW) (hn : 0 < n ∧ n ≤ 64) : CT G mi_Mo_expand [.ref 373, .ref p, .int (nI at0), .int (nI n)] M (fun r M' => r = none ∧ MS M' ∧ BG M' w [] ∧ IA M' 388 192 (ex1 (sl s at0 64) l) ∧ Kp expW M M') := by
  obtain ⟨w', h, e⟩ := h.bf
  refine CT.of (by decide) (Nat.le_of_ble_eq_true rfl) ?_
  show TT G mi_Mo_expand 0 [(0, .ref 373), (1, .ref p), (2, .int (nI at0)), (3, .int (nI n))] [] M 0 0 _
  refine T_aload_n (v := .ref 373) d_Mo_expand_0 rfl (Or.inr ⟨_, rfl⟩) ?_
  refine T_aload_n (v := .ref 373) d_Mo_expand_1 rfl (Or.inr ⟨_, rfl⟩) ?_
  obtain ⟨v_1, hov_1, hwv_1, hsv_1, hiv_1⟩ := id h
  refine N_getI (x := (v_1 67)) (y := (nI (l.length))) d_Mo_expand_2 fg_Mo_7 hov_1 rfl hsv_1 ?_
  refine N_put (e := (moO (upd v_1 69 (nI (l.length))))) d_Mo_expand_5 (fp_Mo_93 _) hov_1 (Nat.le_of_ble_eq_true rfl) ⟨rfl, rfl⟩ rfl (fun M_2 h_3 s_4 => ?_)
  have p_5 := BF.st (j := 69) (by decide) hwv_1 hsv_1 hiv_1 h_3 (Ex.kp s_4)
  refine T_iconst (v := nI 0) d_Mo_expand_8 (by decide) ?_
  refine T_istore (L' := [(4, .int (nI 0)), (0, .ref 373), (1, .ref p), (2, .int (nI at0)), (3, .int (nI n))]) d_Mo_expand_9 (by decide) rfl ?_
  have p_6 := (MS.kp (hms) (Ex.kp s_4) (by decide))
  refine xp_i1 G p_5 (by first | omega | (simp only [List.length_append, List.length_cons, List.length_nil, List.length_replicate, sl_len, be_len, sha_len, hmac_len, ex1_len, ex2_len, stretch_len, zer8_len, tC_len, tag1_len, bnN_len, xkp_len]; done) | (simp only [List.length_append, List.length_cons, List.length_nil, List.length_replicate, sl_len, be_len, sha_len, hmac_len, ex1_len, ex2_len, stretch_len, zer8_len, tC_len, tag1_len, bnN_len, xkp_len]; omega)) (by first | omega | (simp only [List.length_append, List.length_cons, List.length_nil, List.length_replicate, sl_len, be_len, sha_len, hmac_len, ex1_len, ex2_len, stretch_len, zer8_len, tC_len, tag1_len, bnN_len, xkp_len]; done) | (simp only [List.length_append, List.length_cons, List.length_nil, List.length_replicate, sl_len, be_len, sha_len, hmac_len, ex1_len, ex2_len, stretch_len, zer8_len, tC_len, tag1_len, bnN_len, xkp_len]; omega)) (fun Mc7 hI => ?_) l.length 0 M_2 (Nat.zero_add _) ⟨by rw [sl_zero]; exact (MS.ia p_6 (p := 387) (n := 400) (by decide)), Kp.rf⟩
  obtain ⟨hd7, hK7⟩ := hI
  have ms7 := MS.wi p_6 hK7 hd7.iq (by decide) (by decide) (by decide)
  have p_8 : IA Mc7 387 400 l := (by have g := hd7; rw [sl_all] at g; exact g)
  refine T_aload_n (v := .ref 373) d_Mo_expand_40 rfl (Or.inr ⟨_, rfl⟩) ?_
  refine T_iconst (v := nI 0) d_Mo_expand_41 (by decide) ?_
  have p_9 := (BF.kp (p_5) hK7 (by decide) (by decide))
  obtain ⟨v_10, hov_10, hwv_10, hsv_10, hiv_10⟩ := id p_9
  refine N_put (e := (moO (upd v_10 67 (nI 0)))) d_Mo_expand_42 (fp_Mo_7 _) hov_10 (Nat.le_of_ble_eq_true rfl) ⟨rfl, rfl⟩ rfl (fun M_11 h_12 s_13 => ?_)
  have p_14 := BF.sz hwv_10 hiv_10 h_12 (Ex.kp s_13)
  refine T_iconst (v := nI 0) d_Mo_expand_45 (by decide) ?_
  refine T_istore (L' := [(4, .int (nI 0)), (0, .ref 373), (1, .ref p), (2, .int (nI at0)), (3, .int (nI n))]) d_Mo_expand_46 (by decide) rfl ?_
  refine T_bipush (v := nI 64) d_Mo_expand_48 (by decide) ?_
  refine T_iload d_Mo_expand_50 rfl ?_
  refine N_imul (a := 0) (b := 64) (c := 0) d_Mo_expand_52 rfl ?_
  refine T_iload_n d_Mo_expand_53 rfl ?_
  refine N_icmp_ge_f (a := n) (b := 0) d_Mo_expand_54 (tgt := 151) rfl (by omega) (by omega) (by omega) ?_
  refine T_iload d_Mo_expand_57 rfl ?_
  refine N_if_le_t (b := 0) d_Mo_expand_59 (tgt := 80) rfl (by omega) (by omega) ?_
  refine T_aload_n (v := .ref 373) d_Mo_expand_80 rfl (Or.inr ⟨_, rfl⟩) ?_
  refine T_aload_n (v := .ref 373) d_Mo_expand_81 rfl (Or.inr ⟨_, rfl⟩) ?_
  obtain ⟨v_15, hov_15, hwv_15, hsv_15, hiv_15⟩ := id p_14
  refine T_getfield (v := .ref 387) d_Mo_expand_82 fg_Mo_96 hov_15 rfl ?_
  refine T_iconst (v := nI 0) d_Mo_expand_85 (by decide) ?_
  refine T_aload_n (v := .ref 373) d_Mo_expand_86 rfl (Or.inr ⟨_, rfl⟩) ?_
  refine N_getI (x := (v_15 69)) (y := (nI ((l.length)))) d_Mo_expand_87 fg_Mo_93 hov_15 rfl ((hwv_15 69 (by decide)).trans (show (upd w' 69 (nI (l.length))) 69 = (nI ((l.length))) from rfl)) ?_
  have p_16 := (IA.kp (p_8) (Ex.kp s_13) (by decide))
  refine T_virtual (as := [.ref 387, .int (nI 0), .int (nI ((l.length)))]) (rest := []) (b := 373) d_Mo_expand_90 rfl (jw_Mo_bytes.jo (by decide)) lm_Mo_76 ji_Mo_bytes js_Mo_bytes hov_15 rfl rfl rfl (Nat.le_of_ble_eq_true rfl) (by decide) (by decide) (y_Mo_bytes (at0 := 0) (n := (l.length)) p_14 p_16 (by first | omega | (simp only [List.length_append, List.length_cons, List.length_nil, List.length_replicate, sl_len, be_len, sha_len, hmac_len, ex1_len, ex2_len, stretch_len, zer8_len, tC_len, tag1_len, bnN_len, xkp_len]; done) | (simp only [List.length_append, List.length_cons, List.length_nil, List.length_replicate, sl_len, be_len, sha_len, hmac_len, ex1_len, ex2_len, stretch_len, zer8_len, tC_len, tag1_len, bnN_len, xkp_len]; omega)) (by decide) (by first | omega | (simp only [List.length_append, List.length_cons, List.length_nil, List.length_replicate, sl_len, be_len, sha_len, hmac_len, ex1_len, ex2_len, stretch_len, zer8_len, tC_len, tag1_len, bnN_len, xkp_len]; done) | (simp only [List.length_append, List.length_cons, List.length_nil, List.length_replicate, sl_len, be_len, sha_len, hmac_len, ex1_len, ex2_len, stretch_len, zer8_len, tC_len, tag1_len, bnN_len, xkp_len]; omega)) (by decide) (by decide)) (fun r M_17 hq => ?_)
  obtain ⟨rfl, p_17_0, kp_17⟩ := hq
  refine T_eq (pc' := 93) (L' := [(4, .int (nI 0)), (0, .ref 373), (1, .ref p), (2, .int (nI at0)), (3, .int (nI n))]) (st' := []) (M' := M_17) rfl rfl rfl rfl ?_
  refine T_aload_n (v := .ref 373) d_Mo_expand_93 rfl (Or.inr ⟨_, rfl⟩) ?_
  refine T_iload d_Mo_expand_94 rfl ?_
  refine T_iconst (v := nI 1) d_Mo_expand_96 (by decide) ?_
  refine N_iadd (a := 1) (b := 0) (c := 1) d_Mo_expand_97 rfl ?_
  obtain ⟨v_19, hov_19, hwv_19, hsv_19, hiv_19⟩ := id p_17_0
  refine T_virtual (as := [.int (nI 1)]) (rest := []) (b := 373) d_Mo_expand_98 rfl (jw_Mo_one.jo (by decide)) lm_Mo_11 ji_Mo_one js_Mo_one hov_19 rfl rfl rfl (Nat.le_of_ble_eq_true rfl) (by decide) (by decide) (y_Mo_one (x := (nI 1)) p_17_0 (by first | omega | (simp only [List.length_append, List.length_cons, List.length_nil, List.length_replicate, sl_len, be_len, sha_len, hmac_len, ex1_len, ex2_len, stretch_len, zer8_len, tC_len, tag1_len, bnN_len, xkp_len]; done) | (simp only [List.length_append, List.length_cons, List.length_nil, List.length_replicate, sl_len, be_len, sha_len, hmac_len, ex1_len, ex2_len, stretch_len, zer8_len, tC_len, tag1_len, bnN_len, xkp_len]; omega))) (fun r M_18 hq => ?_)
  obtain ⟨rfl, p_18_0, kp_18⟩ := hq
  refine T_eq (pc' := 101) (L' := [(4, .int (nI 0)), (0, .ref 373), (1, .ref p), (2, .int (nI at0)), (3, .int (nI n))]) (st' := []) (M' := M_18) rfl rfl rfl rfl ?_
  refine T_aload_n (v := .ref 373) d_Mo_expand_101 rfl (Or.inr ⟨_, rfl⟩) ?_
  refine T_aload_n (v := .ref p) d_Mo_expand_102 rfl (Or.inr ⟨_, rfl⟩) ?_
  refine T_iload_n d_Mo_expand_103 rfl ?_
  refine T_bipush (v := nI 64) d_Mo_expand_104 (by decide) ?_
  have p_20 := (MS.kp ((MS.kp ((MS.kp (ms7) (Ex.kp s_13) (by decide))) kp_17 (by decide))) kp_18 (by decide))
  have p_21 := (IA.kp ((IA.kp ((IA.kp ((IA.kp ((IA.kp (hk) (Ex.kp s_4) (nm hp (by decide)))) hK7 (nm hp (by decide)))) (Ex.kp s_13) (nm hp (by decide)))) kp_17 (nm hp (by decide)))) kp_18 (nm hp (by decide)))
  obtain ⟨v_23, hov_23, hwv_23, hsv_23, hiv_23⟩ := id p_18_0
  refine T_virtual (as := [.ref p, .int (nI at0), .int (nI 64)]) (rest := []) (b := 373) d_Mo_expand_106 rfl (jw_Mo_mac.jo (by decide)) lm_Mo_90 ji_Mo_mac js_Mo_mac hov_23 rfl rfl rfl (Nat.le_of_ble_eq_true rfl) (by decide) (by decide) (g_Mo_mac (at0 := at0) p_20 p_18_0 p_21 (by first | omega | (simp only [List.length_append, List.length_cons, List.length_nil, List.length_replicate, sl_len, be_len, sha_len, hmac_len, ex1_len, ex2_len, stretch_len, zer8_len, tC_len, tag1_len, bnN_len, xkp_len]; done) | (simp only [List.length_append, List.length_cons, List.length_nil, List.length_replicate, sl_len, be_len, sha_len, hmac_len, ex1_len, ex2_len, stretch_len, zer8_len, tC_len, tag1_len, bnN_len, xkp_len]; omega)) (by omega) (by first | omega | (simp only [List.length_append, List.length_cons, List.length_nil, List.length_replicate, sl_len, be_len, sha_len, hmac_len, ex1_len, ex2_len, stretch_len, zer8_len, tC_len, tag1_len, bnN_len, xkp_len]; done) | (simp only [List.length_append, List.length_cons, List.length_nil, List.length_replicate, sl_len, be_len, sha_len, hmac_len, ex1_len, ex2_len, stretch_len, zer8_len, tC_len, tag1_len, bnN_len, xkp_len]; omega)) (nm hp (by decide))) (fun r M_22 hq => ?_)
  obtain ⟨rfl, p_22_0, p_22_1, p_22_2, kp_22⟩ := hq
  refine T_eq (pc' := 109) (L' := [(4, .int (nI 0)), (0, .ref 373), (1, .ref p), (2, .int (nI at0)), (3, .int (nI n))]) (st' := []) (M' := M_22) rfl rfl rfl rfl ?_
  refine T_iconst (v := nI 0) d_Mo_expand_109 (by decide) ?_
  refine T_istore (L' := [(5, .int (nI 0)), (4, .int (nI 0)), (0, .ref 373), (1, .ref p), (2, .int (nI at0)), (3, .int (nI n))]) d_Mo_expand_110 (by decide) rfl ?_
  refine xp_a1 G p_22_1 p_22_2 (by decide) (by first | omega | (simp only [List.length_append, List.length_cons, List.length_nil, List.length_replicate, sl_len, be_len, sha_len, hmac_len, ex1_len, ex2_len, stretch_len, zer8_len, tC_len, tag1_len, bnN_len, xkp_len]; done) | (simp only [List.length_append, List.length_cons, List.length_nil, List.length_replicate, sl_len, be_len, sha_len, hmac_len, ex1_len, ex2_len, stretch_len, zer8_len, tC_len, tag1_len, bnN_len, xkp_len]; omega)) (by decide) (fun Mc24 hI => ?_) 64 0 M_22 (Nat.zero_add _) ⟨by rw [sl_zero]; exact (MS.ia p_22_0 (p := 388) (n := 192) (by decide)), Kp.rf⟩
  obtain ⟨hd24, hK24⟩ := hI
  have ms24 := MS.wi p_22_0 hK24 hd24.iq (by decide) (by decide) (by decide)
  have p_25 : IA Mc24 388 192 (ex1 (sl s at0 64) l) := (by have g := hd24; rw [sl64 (hmac_len _ _), sl_all, u8_1] at g; exact g)
  refine N_iinc (k := 0) (m := 1) (c := 1) (L' := [(4, .int (nI 1)), (0, .ref 373), (1, .ref p), (2, .int (nI at0)), (3, .int (nI n))]) d_Mo_expand_145 (by decide) rfl (by decide) rfl rfl ?_
  refine T_goto (tgt := 48) d_Mo_expand_148 rfl ?_
  refine T_bipush (v := nI 64) d_Mo_expand_48 (by decide) ?_
  refine T_iload d_Mo_expand_50 rfl ?_
  refine N_imul (a := 1) (b := 64) (c := 64) d_Mo_expand_52 rfl ?_
  refine T_iload_n d_Mo_expand_53 rfl ?_
  refine N_icmp_ge_t (a := n) (b := 64) d_Mo_expand_54 (tgt := 151) rfl (by omega) (by omega) (by omega) ?_
  have p_26 := (BF.kp (p_22_1) hK24 (by decide) (by decide))
  exact T_vret d_Mo_expand_151 rfl (by decide) (by decide) ⟨rfl, ms24, BF.bg p_26 (fun j hj => by unfold upd; rw [if_neg (by omega), if_neg (by omega)]; exact e j hj), p_25, (Kp.tr (Kp.tr (Kp.tr (Kp.tr (Kp.ex (Kp.tr (Kp.ex (Kp.rf : Kp [373, 374, 380, 382, 381, 383, 384, 385, 387, 388] M M) s_4 (by decide)) (Kp.mono hK7 (by decide))) s_13 (by decide)) (Kp.mono kp_17 (by decide))) (Kp.mono kp_18 (by decide))) (Kp.mono kp_22 (by decide))) (Kp.mono hK24 (by decide)))⟩
set_option maxHeartbeats 8000000 in
theorem xp_i2 (G : GX) {M0 : List va_E} {w : Nat → Int32} {l : List UInt8} {p at0 : Nat} (hb : BF M0 w l) (ha : 0 + l.length ≤ l.length) (hd : 0 + l.length ≤ 400)  {Q : Option Value → List va_E → Prop} (kk : ∀ M, IA M 387 400 (sl l 0 l.length) ∧ Kp [387] M0 M → TT G mi_Mo_expand 40 [(0, .ref 373), (1, .ref p), (2, .int (nI at0)), (3, .int (nI 128))] [] M 0 0 Q) : ∀ j k M, k + j = l.length → IA M 387 400 (sl l 0 k) ∧ Kp [387] M0 M → TT G mi_Mo_expand 11 [(4, .int (nI k)), (0, .ref 373), (1, .ref p), (2, .int (nI at0)), (3, .int (nI 128))] [] M 0 0 Q := by
  intro j
  induction j with
  | zero =>
    intro k M hk hI
    obtain rfl : l.length = k := by omega
    obtain ⟨hda, hK⟩ := id hI
    refine T_iload d_Mo_expand_11 rfl ?_
    refine T_aload_n (v := .ref 373) d_Mo_expand_13 rfl (Or.inr ⟨_, rfl⟩) ?_
    have p_1 := (BF.kp (hb) hK (by decide) (by decide))
    obtain ⟨v_2, hov_2, hwv_2, hsv_2, hiv_2⟩ := id p_1
    refine N_getI (x := (v_2 67)) (y := (nI (l.length))) d_Mo_expand_14 fg_Mo_7 hov_2 rfl hsv_2 ?_
    refine N_icmp_ge_t (a := l.length) (b := l.length) d_Mo_expand_17 (tgt := 40) rfl (by omega) (by omega) (by omega) ?_
    exact T_sub (fun q hq => List.mem_cons_of_mem _ hq) (kk M hI)
  | succ j ih =>
    intro k M hk hI
    obtain ⟨hda, hK⟩ := hI
    obtain ⟨vb, hob, hwb, hsb, hib⟩ := id hb
    have hsl := IA.le hib
    refine T_iload d_Mo_expand_11 rfl ?_
    refine T_aload_n (v := .ref 373) d_Mo_expand_13 rfl (Or.inr ⟨_, rfl⟩) ?_
    have p_1 := (BF.kp (hb) hK (by decide) (by decide))
    obtain ⟨v_2, hov_2, hwv_2, hsv_2, hiv_2⟩ := id p_1
    refine N_getI (x := (v_2 67)) (y := (nI (l.length))) d_Mo_expand_14 fg_Mo_7 hov_2 rfl hsv_2 ?_
    refine N_icmp_ge_f (a := l.length) (b := k) d_Mo_expand_17 (tgt := 40) rfl (by omega) (by omega) (by omega) ?_
    refine T_aload_n (v := .ref 373) d_Mo_expand_20 rfl (Or.inr ⟨_, rfl⟩) ?_
    refine T_getfield (v := .ref 387) d_Mo_expand_21 fg_Mo_96 hov_2 rfl ?_
    refine T_iload d_Mo_expand_24 rfl ?_
    refine T_aload_n (v := .ref 373) d_Mo_expand_26 rfl (Or.inr ⟨_, rfl⟩) ?_
    refine T_getfield (v := .ref 374) d_Mo_expand_27 fg_Mo_1 hov_2 rfl ?_
    refine T_iload d_Mo_expand_30 rfl ?_
    have p_3 := (IA.kp (hib) hK (by decide))
    obtain ⟨f_4, hf_5, hl_6, hv_7⟩ := id p_3
    refine N_iaload (k := k) (x := (bR (gd l k))) d_Mo_expand_32 hf_5 (by omega) (by decide) (hv_7 k (by first | omega | (simp only [List.length_append, List.length_cons, List.length_nil, List.length_replicate, sl_len, be_len, sha_len, hmac_len, ex1_len, ex2_len, stretch_len, zer8_len, tC_len, tag1_len, bnN_len, xkp_len]; omega))) ?_
    obtain ⟨f_8, hf_9, hl_10, hv_11⟩ := id hda
    refine N_iastore (k := k) d_Mo_expand_33 (by decide) hf_9 (by omega) (by decide) rfl (fun M_12 h_13 s_14 => ?_)
    refine N_iinc (k := k) (m := 1) (c := (k + 1)) (L' := [(4, .int (nI ((k + 1)))), (0, .ref 373), (1, .ref p), (2, .int (nI at0)), (3, .int (nI 128))]) d_Mo_expand_34 (by decide) rfl (by decide) rfl rfl ?_
    refine T_goto (tgt := 11) d_Mo_expand_37 rfl ?_
    exact ih (k + 1) M_12 (by omega) ⟨ia_c0 h_13 (gd_c (by omega)) (by omega) (by omega) hv_11, (Kp.ex (Kp.tr (Kp.rf : Kp [387] M0 M0) (Kp.mono hK (by decide))) s_14 (by decide))⟩
set_option maxHeartbeats 8000000 in
theorem xp_a2 (G : GX) {M0 : List va_E} {w : Nat → Int32} {l s : List UInt8} {p at0 : Nat} (hb : BF M0 w l) (hs : IA M0 383 64 s) (hsn : 64 < 2 ^ 31) (ha : 0 + 64 ≤ s.length) (hd : 0 + 64 ≤ 192)  {Q : Option Value → List va_E → Prop} (kk : ∀ M, IA M 388 192 (sl s 0 64) ∧ Kp [388] M0 M → TT G mi_Mo_expand 145 [(4, .int (nI 0)), (0, .ref 373), (1, .ref p), (2, .int (nI at0)), (3, .int (nI 128))] [] M 0 0 Q) : ∀ j k M, k + j = 64 → IA M 388 192 (sl s 0 k) ∧ Kp [388] M0 M → TT G mi_Mo_expand 112 [(5, .int (nI k)), (4, .int (nI 0)), (0, .ref 373), (1, .ref p), (2, .int (nI at0)), (3, .int (nI 128))] [] M 0 0 Q := by
  intro j
  induction j with
  | zero =>
    intro k M hk hI
    obtain rfl : 64 = k := by omega
    obtain ⟨hda, hK⟩ := id hI
    refine T_iload d_Mo_expand_112 rfl ?_
    refine T_bipush (v := nI 64) d_Mo_expand_114 (by decide) ?_
    refine N_icmp_ge_t (a := 64) (b := 64) d_Mo_expand_116 (tgt := 145) rfl (by omega) (by omega) (by omega) ?_
    exact T_sub (fun q hq => List.mem_cons_of_mem _ hq) (kk M hI)
  | succ j ih =>
    intro k M hk hI
    obtain ⟨hda, hK⟩ := hI
    have hsl := IA.le hs
    refine T_iload d_Mo_expand_112 rfl ?_
    refine T_bipush (v := nI 64) d_Mo_expand_114 (by decide) ?_
    refine N_icmp_ge_f (a := 64) (b := k) d_Mo_expand_116 (tgt := 145) rfl (by omega) (by omega) (by omega) ?_
    refine T_aload_n (v := .ref 373) d_Mo_expand_119 rfl (Or.inr ⟨_, rfl⟩) ?_
    have p_1 := (BF.kp (hb) hK (by decide) (by decide))
    obtain ⟨v_2, hov_2, hwv_2, hsv_2, hiv_2⟩ := id p_1
    refine T_getfield (v := .ref 388) d_Mo_expand_120 fg_Mo_99 hov_2 rfl ?_
    refine T_bipush (v := nI 64) d_Mo_expand_123 (by decide) ?_
    refine T_iload d_Mo_expand_125 rfl ?_
    refine N_imul (a := 0) (b := 64) (c := 0) d_Mo_expand_127 rfl ?_
    refine T_iload d_Mo_expand_128 rfl ?_
    refine N_iadd (a := k) (b := 0) (c := (0 + k)) d_Mo_expand_130 rfl ?_
    refine T_aload_n (v := .ref 373) d_Mo_expand_131 rfl (Or.inr ⟨_, rfl⟩) ?_
    refine T_getfield (v := .ref 383) d_Mo_expand_132 fg_Mo_55 hov_2 rfl ?_
    refine T_iload d_Mo_expand_135 rfl ?_
    have p_3 := (IA.kp (hs) hK (by decide))
    obtain ⟨f_4, hf_5, hl_6, hv_7⟩ := id p_3
    refine N_iaload (k := k) (x := (bR (gd s k))) d_Mo_expand_137 hf_5 (by omega) (by decide) (hv_7 k (by first | omega | (simp only [List.length_append, List.length_cons, List.length_nil, List.length_replicate, sl_len, be_len, sha_len, hmac_len, ex1_len, ex2_len, stretch_len, zer8_len, tC_len, tag1_len, bnN_len, xkp_len]; omega))) ?_
    obtain ⟨f_8, hf_9, hl_10, hv_11⟩ := id hda
    refine N_iastore (k := (0 + k)) d_Mo_expand_138 (by decide) hf_9 (by omega) (by decide) rfl (fun M_12 h_13 s_14 => ?_)
    refine N_iinc (k := k) (m := 1) (c := (k + 1)) (L' := [(5, .int (nI ((k + 1)))), (4, .int (nI 0)), (0, .ref 373), (1, .ref p), (2, .int (nI at0)), (3, .int (nI 128))]) d_Mo_expand_139 (by decide) rfl (by decide) rfl rfl ?_
    refine T_goto (tgt := 112) d_Mo_expand_142 rfl ?_
    exact ih (k + 1) M_12 (by omega) ⟨ia_c0 h_13 (gd_c (by omega)) (by omega) (by omega) hv_11, (Kp.ex (Kp.tr (Kp.rf : Kp [388] M0 M0) (Kp.mono hK (by decide))) s_14 (by decide))⟩
set_option maxHeartbeats 8000000 in
theorem xp_b2 (G : GX) {M0 : List va_E} {w : Nat → Int32} {l s l0 : List UInt8} {p at0 : Nat} (hb : BF M0 w l) (hs : IA M0 383 64 s) (hsn : 64 < 2 ^ 31) (ha : 0 + 64 ≤ s.length) (hd : 64 + 64 ≤ 192) (hof : l0.length = 64)  {Q : Option Value → List va_E → Prop} (kk : ∀ M, IA M 388 192 (l0 ++ sl s 0 64) ∧ Kp [388] M0 M → TT G mi_Mo_expand 145 [(4, .int (nI 1)), (0, .ref 373), (1, .ref p), (2, .int (nI at0)), (3, .int (nI 128))] [] M 0 0 Q) : ∀ j k M, k + j = 64 → IA M 388 192 (l0 ++ sl s 0 k) ∧ Kp [388] M0 M → TT G mi_Mo_expand 112 [(5, .int (nI k)), (4, .int (nI 1)), (0, .ref 373), (1, .ref p), (2, .int (nI at0)), (3, .int (nI 128))] [] M 0 0 Q := by
  intro j
  induction j with
  | zero =>
    intro k M hk hI
    obtain rfl : 64 = k := by omega
    obtain ⟨hda, hK⟩ := id hI
    refine T_iload d_Mo_expand_112 rfl ?_
    refine T_bipush (v := nI 64) d_Mo_expand_114 (by decide) ?_
    refine N_icmp_ge_t (a := 64) (b := 64) d_Mo_expand_116 (tgt := 145) rfl (by omega) (by omega) (by omega) ?_
    exact T_sub (fun q hq => List.mem_cons_of_mem _ hq) (kk M hI)
  | succ j ih =>
    intro k M hk hI
    obtain ⟨hda, hK⟩ := hI
    have hsl := IA.le hs
    refine T_iload d_Mo_expand_112 rfl ?_
    refine T_bipush (v := nI 64) d_Mo_expand_114 (by decide) ?_
    refine N_icmp_ge_f (a := 64) (b := k) d_Mo_expand_116 (tgt := 145) rfl (by omega) (by omega) (by omega) ?_
    refine T_aload_n (v := .ref 373) d_Mo_expand_119 rfl (Or.inr ⟨_, rfl⟩) ?_
    have p_1 := (BF.kp (hb) hK (by decide) (by decide))
    obtain ⟨v_2, hov_2, hwv_2, hsv_2, hiv_2⟩ := id p_1
    refine T_getfield (v := .ref 388) d_Mo_expand_120 fg_Mo_99 hov_2 rfl ?_
    refine T_bipush (v := nI 64) d_Mo_expand_123 (by decide) ?_
    refine T_iload d_Mo_expand_125 rfl ?_
    refine N_imul (a := 1) (b := 64) (c := 64) d_Mo_expand_127 rfl ?_
    refine T_iload d_Mo_expand_128 rfl ?_
    refine N_iadd (a := k) (b := 64) (c := (64 + k)) d_Mo_expand_130 rfl ?_
    refine T_aload_n (v := .ref 373) d_Mo_expand_131 rfl (Or.inr ⟨_, rfl⟩) ?_
    refine T_getfield (v := .ref 383) d_Mo_expand_132 fg_Mo_55 hov_2 rfl ?_
    refine T_iload d_Mo_expand_135 rfl ?_
    have p_3 := (IA.kp (hs) hK (by decide))
    obtain ⟨f_4, hf_5, hl_6, hv_7⟩ := id p_3
    refine N_iaload (k := k) (x := (bR (gd s k))) d_Mo_expand_137 hf_5 (by omega) (by decide) (hv_7 k (by first | omega | (simp only [List.length_append, List.length_cons, List.length_nil, List.length_replicate, sl_len, be_len, sha_len, hmac_len, ex1_len, ex2_len, stretch_len, zer8_len, tC_len, tag1_len, bnN_len, xkp_len]; omega))) ?_
    obtain ⟨f_8, hf_9, hl_10, hv_11⟩ := id hda
    refine N_iastore (k := (64 + k)) d_Mo_expand_138 (by decide) hf_9 (by omega) (by decide) rfl (fun M_12 h_13 s_14 => ?_)
    refine N_iinc (k := k) (m := 1) (c := (k + 1)) (L' := [(5, .int (nI ((k + 1)))), (4, .int (nI 1)), (0, .ref 373), (1, .ref p), (2, .int (nI at0)), (3, .int (nI 128))]) d_Mo_expand_139 (by decide) rfl (by decide) rfl rfl ?_
    refine T_goto (tgt := 112) d_Mo_expand_142 rfl ?_
    exact ih (k + 1) M_12 (by omega) ⟨ia_cp h_13 (gd_c (by omega)) (by omega) (by omega) hv_11, (Kp.ex (Kp.tr (Kp.rf : Kp [388] M0 M0) (Kp.mono hK (by decide))) s_14 (by decide))⟩
set_option maxHeartbeats 8000000 in
theorem b_Mo_expand2 {G : GX} {M : List va_E} {w : Nat → Int32} {p m at0 : Nat} {l s : List UInt8} (hms : MS M) (h : BG M w l) (hk : IA M p m s) (ha : at0 + 64 ≤ s.length) (hm2 : m < 2 ^ 30) (hl : l.length ≤ 400) (hp : p ∉ expW) : CT G mi_Mo_expand [.ref 373, .ref p, .int (nI at0), .int (nI 128)] M (fun r M' => r = none ∧ MS M' ∧ BG M' w [] ∧ IA M' 388 192 (ex1 (sl s at0 64) l ++ ex2 (sl s at0 64) l) ∧ Kp expW M M') := by
  obtain ⟨w', h, e⟩ := h.bf
  refine CT.of (by decide) (Nat.le_of_ble_eq_true rfl) ?_
  show TT G mi_Mo_expand 0 [(0, .ref 373), (1, .ref p), (2, .int (nI at0)), (3, .int (nI 128))] [] M 0 0 _
  refine T_aload_n (v := .ref 373) d_Mo_expand_0 rfl (Or.inr ⟨_, rfl⟩) ?_
  refine T_aload_n (v := .ref 373) d_Mo_expand_1 rfl (Or.inr ⟨_, rfl⟩) ?_
  obtain ⟨v_1, hov_1, hwv_1, hsv_1, hiv_1⟩ := id h
  refine N_getI (x := (v_1 67)) (y := (nI (l.length))) d_Mo_expand_2 fg_Mo_7 hov_1 rfl hsv_1 ?_
  refine N_put (e := (moO (upd v_1 69 (nI (l.length))))) d_Mo_expand_5 (fp_Mo_93 _) hov_1 (Nat.le_of_ble_eq_true rfl) ⟨rfl, rfl⟩ rfl (fun M_2 h_3 s_4 => ?_)
  have p_5 := BF.st (j := 69) (by decide) hwv_1 hsv_1 hiv_1 h_3 (Ex.kp s_4)
  refine T_iconst (v := nI 0) d_Mo_expand_8 (by decide) ?_
  refine T_istore (L' := [(4, .int (nI 0)), (0, .ref 373), (1, .ref p), (2, .int (nI at0)), (3, .int (nI 128))]) d_Mo_expand_9 (by decide) rfl ?_
  have p_6 := (MS.kp (hms) (Ex.kp s_4) (by decide))
  refine xp_i2 G p_5 (by first | omega | (simp only [List.length_append, List.length_cons, List.length_nil, List.length_replicate, sl_len, be_len, sha_len, hmac_len, ex1_len, ex2_len, stretch_len, zer8_len, tC_len, tag1_len, bnN_len, xkp_len]; done) | (simp only [List.length_append, List.length_cons, List.length_nil, List.length_replicate, sl_len, be_len, sha_len, hmac_len, ex1_len, ex2_len, stretch_len, zer8_len, tC_len, tag1_len, bnN_len, xkp_len]; omega)) (by first | omega | (simp only [List.length_append, List.length_cons, List.length_nil, List.length_replicate, sl_len, be_len, sha_len, hmac_len, ex1_len, ex2_len, stretch_len, zer8_len, tC_len, tag1_len, bnN_len, xkp_len]; done) | (simp only [List.length_append, List.length_cons, List.length_nil, List.length_replicate, sl_len, be_len, sha_len, hmac_len, ex1_len, ex2_len, stretch_len, zer8_len, tC_len, tag1_len, bnN_len, xkp_len]; omega)) (fun Mc7 hI => ?_) l.length 0 M_2 (Nat.zero_add _) ⟨by rw [sl_zero]; exact (MS.ia p_6 (p := 387) (n := 400) (by decide)), Kp.rf⟩
  obtain ⟨hd7, hK7⟩ := hI
  have ms7 := MS.wi p_6 hK7 hd7.iq (by decide) (by decide) (by decide)
  have p_8 : IA Mc7 387 400 l := (by have g := hd7; rw [sl_all] at g; exact g)
  refine T_aload_n (v := .ref 373) d_Mo_expand_40 rfl (Or.inr ⟨_, rfl⟩) ?_
  refine T_iconst (v := nI 0) d_Mo_expand_41 (by decide) ?_
  have p_9 := (BF.kp (p_5) hK7 (by decide) (by decide))
  obtain ⟨v_10, hov_10, hwv_10, hsv_10, hiv_10⟩ := id p_9
  refine N_put (e := (moO (upd v_10 67 (nI 0)))) d_Mo_expand_42 (fp_Mo_7 _) hov_10 (Nat.le_of_ble_eq_true rfl) ⟨rfl, rfl⟩ rfl (fun M_11 h_12 s_13 => ?_)
  have p_14 := BF.sz hwv_10 hiv_10 h_12 (Ex.kp s_13)
  refine T_iconst (v := nI 0) d_Mo_expand_45 (by decide) ?_
  refine T_istore (L' := [(4, .int (nI 0)), (0, .ref 373), (1, .ref p), (2, .int (nI at0)), (3, .int (nI 128))]) d_Mo_expand_46 (by decide) rfl ?_
  refine T_bipush (v := nI 64) d_Mo_expand_48 (by decide) ?_
  refine T_iload d_Mo_expand_50 rfl ?_
  refine N_imul (a := 0) (b := 64) (c := 0) d_Mo_expand_52 rfl ?_
  refine T_iload_n d_Mo_expand_53 rfl ?_
  refine N_icmp_ge_f (a := 128) (b := 0) d_Mo_expand_54 (tgt := 151) rfl (by omega) (by omega) (by omega) ?_
  refine T_iload d_Mo_expand_57 rfl ?_
  refine N_if_le_t (b := 0) d_Mo_expand_59 (tgt := 80) rfl (by omega) (by omega) ?_
  refine T_aload_n (v := .ref 373) d_Mo_expand_80 rfl (Or.inr ⟨_, rfl⟩) ?_
  refine T_aload_n (v := .ref 373) d_Mo_expand_81 rfl (Or.inr ⟨_, rfl⟩) ?_
  obtain ⟨v_15, hov_15, hwv_15, hsv_15, hiv_15⟩ := id p_14
  refine T_getfield (v := .ref 387) d_Mo_expand_82 fg_Mo_96 hov_15 rfl ?_
  refine T_iconst (v := nI 0) d_Mo_expand_85 (by decide) ?_
  refine T_aload_n (v := .ref 373) d_Mo_expand_86 rfl (Or.inr ⟨_, rfl⟩) ?_
  refine N_getI (x := (v_15 69)) (y := (nI ((l.length)))) d_Mo_expand_87 fg_Mo_93 hov_15 rfl ((hwv_15 69 (by decide)).trans (show (upd w' 69 (nI (l.length))) 69 = (nI ((l.length))) from rfl)) ?_
  have p_16 := (IA.kp (p_8) (Ex.kp s_13) (by decide))
  refine T_virtual (as := [.ref 387, .int (nI 0), .int (nI ((l.length)))]) (rest := []) (b := 373) d_Mo_expand_90 rfl (jw_Mo_bytes.jo (by decide)) lm_Mo_76 ji_Mo_bytes js_Mo_bytes hov_15 rfl rfl rfl (Nat.le_of_ble_eq_true rfl) (by decide) (by decide) (y_Mo_bytes (at0 := 0) (n := (l.length)) p_14 p_16 (by first | omega | (simp only [List.length_append, List.length_cons, List.length_nil, List.length_replicate, sl_len, be_len, sha_len, hmac_len, ex1_len, ex2_len, stretch_len, zer8_len, tC_len, tag1_len, bnN_len, xkp_len]; done) | (simp only [List.length_append, List.length_cons, List.length_nil, List.length_replicate, sl_len, be_len, sha_len, hmac_len, ex1_len, ex2_len, stretch_len, zer8_len, tC_len, tag1_len, bnN_len, xkp_len]; omega)) (by decide) (by first | omega | (simp only [List.length_append, List.length_cons, List.length_nil, List.length_replicate, sl_len, be_len, sha_len, hmac_len, ex1_len, ex2_len, stretch_len, zer8_len, tC_len, tag1_len, bnN_len, xkp_len]; done) | (simp only [List.length_append, List.length_cons, List.length_nil, List.length_replicate, sl_len, be_len, sha_len, hmac_len, ex1_len, ex2_len, stretch_len, zer8_len, tC_len, tag1_len, bnN_len, xkp_len]; omega)) (by decide) (by decide)) (fun r M_17 hq => ?_)
  obtain ⟨rfl, p_17_0, kp_17⟩ := hq
  refine T_eq (pc' := 93) (L' := [(4, .int (nI 0)), (0, .ref 373), (1, .ref p), (2, .int (nI at0)), (3, .int (nI 128))]) (st' := []) (M' := M_17) rfl rfl rfl rfl ?_
  refine T_aload_n (v := .ref 373) d_Mo_expand_93 rfl (Or.inr ⟨_, rfl⟩) ?_
  refine T_iload d_Mo_expand_94 rfl ?_
  refine T_iconst (v := nI 1) d_Mo_expand_96 (by decide) ?_
  refine N_iadd (a := 1) (b := 0) (c := 1) d_Mo_expand_97 rfl ?_
  obtain ⟨v_19, hov_19, hwv_19, hsv_19, hiv_19⟩ := id p_17_0
  refine T_virtual (as := [.int (nI 1)]) (rest := []) (b := 373) d_Mo_expand_98 rfl (jw_Mo_one.jo (by decide)) lm_Mo_11 ji_Mo_one js_Mo_one hov_19 rfl rfl rfl (Nat.le_of_ble_eq_true rfl) (by decide) (by decide) (y_Mo_one (x := (nI 1)) p_17_0 (by first | omega | (simp only [List.length_append, List.length_cons, List.length_nil, List.length_replicate, sl_len, be_len, sha_len, hmac_len, ex1_len, ex2_len, stretch_len, zer8_len, tC_len, tag1_len, bnN_len, xkp_len]; done) | (simp only [List.length_append, List.length_cons, List.length_nil, List.length_replicate, sl_len, be_len, sha_len, hmac_len, ex1_len, ex2_len, stretch_len, zer8_len, tC_len, tag1_len, bnN_len, xkp_len]; omega))) (fun r M_18 hq => ?_)
  obtain ⟨rfl, p_18_0, kp_18⟩ := hq
  refine T_eq (pc' := 101) (L' := [(4, .int (nI 0)), (0, .ref 373), (1, .ref p), (2, .int (nI at0)), (3, .int (nI 128))]) (st' := []) (M' := M_18) rfl rfl rfl rfl ?_
  refine T_aload_n (v := .ref 373) d_Mo_expand_101 rfl (Or.inr ⟨_, rfl⟩) ?_
  refine T_aload_n (v := .ref p) d_Mo_expand_102 rfl (Or.inr ⟨_, rfl⟩) ?_
  refine T_iload_n d_Mo_expand_103 rfl ?_
  refine T_bipush (v := nI 64) d_Mo_expand_104 (by decide) ?_
  have p_20 := (MS.kp ((MS.kp ((MS.kp (ms7) (Ex.kp s_13) (by decide))) kp_17 (by decide))) kp_18 (by decide))
  have p_21 := (IA.kp ((IA.kp ((IA.kp ((IA.kp ((IA.kp (hk) (Ex.kp s_4) (nm hp (by decide)))) hK7 (nm hp (by decide)))) (Ex.kp s_13) (nm hp (by decide)))) kp_17 (nm hp (by decide)))) kp_18 (nm hp (by decide)))
  obtain ⟨v_23, hov_23, hwv_23, hsv_23, hiv_23⟩ := id p_18_0
  refine T_virtual (as := [.ref p, .int (nI at0), .int (nI 64)]) (rest := []) (b := 373) d_Mo_expand_106 rfl (jw_Mo_mac.jo (by decide)) lm_Mo_90 ji_Mo_mac js_Mo_mac hov_23 rfl rfl rfl (Nat.le_of_ble_eq_true rfl) (by decide) (by decide) (g_Mo_mac (at0 := at0) p_20 p_18_0 p_21 (by first | omega | (simp only [List.length_append, List.length_cons, List.length_nil, List.length_replicate, sl_len, be_len, sha_len, hmac_len, ex1_len, ex2_len, stretch_len, zer8_len, tC_len, tag1_len, bnN_len, xkp_len]; done) | (simp only [List.length_append, List.length_cons, List.length_nil, List.length_replicate, sl_len, be_len, sha_len, hmac_len, ex1_len, ex2_len, stretch_len, zer8_len, tC_len, tag1_len, bnN_len, xkp_len]; omega)) (by omega) (by first | omega | (simp only [List.length_append, List.length_cons, List.length_nil, List.length_replicate, sl_len, be_len, sha_len, hmac_len, ex1_len, ex2_len, stretch_len, zer8_len, tC_len, tag1_len, bnN_len, xkp_len]; done) | (simp only [List.length_append, List.length_cons, List.length_nil, List.length_replicate, sl_len, be_len, sha_len, hmac_len, ex1_len, ex2_len, stretch_len, zer8_len, tC_len, tag1_len, bnN_len, xkp_len]; omega)) (nm hp (by decide))) (fun r M_22 hq => ?_)
  obtain ⟨rfl, p_22_0, p_22_1, p_22_2, kp_22⟩ := hq
  refine T_eq (pc' := 109) (L' := [(4, .int (nI 0)), (0, .ref 373), (1, .ref p), (2, .int (nI at0)), (3, .int (nI 128))]) (st' := []) (M' := M_22) rfl rfl rfl rfl ?_
  refine T_iconst (v := nI 0) d_Mo_expand_109 (by decide) ?_
  refine T_istore (L' := [(5, .int (nI 0)), (4, .int (nI 0)), (0, .ref 373), (1, .ref p), (2, .int (nI at0)), (3, .int (nI 128))]) d_Mo_expand_110 (by decide) rfl ?_
  refine xp_a2 G p_22_1 p_22_2 (by decide) (by first | omega | (simp only [List.length_append, List.length_cons, List.length_nil, List.length_replicate, sl_len, be_len, sha_len, hmac_len, ex1_len, ex2_len, stretch_len, zer8_len, tC_len, tag1_len, bnN_len, xkp_len]; done) | (simp only [List.length_append, List.length_cons, List.length_nil, List.length_replicate, sl_len, be_len, sha_len, hmac_len, ex1_len, ex2_len, stretch_len, zer8_len, tC_len, tag1_len, bnN_len, xkp_len]; omega)) (by decide) (fun Mc24 hI => ?_) 64 0 M_22 (Nat.zero_add _) ⟨by rw [sl_zero]; exact (MS.ia p_22_0 (p := 388) (n := 192) (by decide)), Kp.rf⟩
  obtain ⟨hd24, hK24⟩ := hI
  have ms24 := MS.wi p_22_0 hK24 hd24.iq (by decide) (by decide) (by decide)
  have p_25 : IA Mc24 388 192 (ex1 (sl s at0 64) l) := (by have g := hd24; rw [sl64 (hmac_len _ _), sl_all, u8_1] at g; exact g)
  refine N_iinc (k := 0) (m := 1) (c := 1) (L' := [(4, .int (nI 1)), (0, .ref 373), (1, .ref p), (2, .int (nI at0)), (3, .int (nI 128))]) d_Mo_expand_145 (by decide) rfl (by decide) rfl rfl ?_
  refine T_goto (tgt := 48) d_Mo_expand_148 rfl ?_
  refine T_bipush (v := nI 64) d_Mo_expand_48 (by decide) ?_
  refine T_iload d_Mo_expand_50 rfl ?_
  refine N_imul (a := 1) (b := 64) (c := 64) d_Mo_expand_52 rfl ?_
  refine T_iload_n d_Mo_expand_53 rfl ?_
  refine N_icmp_ge_f (a := 128) (b := 64) d_Mo_expand_54 (tgt := 151) rfl (by omega) (by omega) (by omega) ?_
  refine T_iload d_Mo_expand_57 rfl ?_
  refine N_if_le_f (b := 1) d_Mo_expand_59 (tgt := 80) rfl (by omega) (by omega) ?_
  refine T_aload_n (v := .ref 373) d_Mo_expand_62 rfl (Or.inr ⟨_, rfl⟩) ?_
  refine T_aload_n (v := .ref 373) d_Mo_expand_63 rfl (Or.inr ⟨_, rfl⟩) ?_
  have p_26 := (BF.kp (p_22_1) hK24 (by decide) (by decide))
  obtain ⟨v_27, hov_27, hwv_27, hsv_27, hiv_27⟩ := id p_26
  refine T_getfield (v := .ref 388) d_Mo_expand_64 fg_Mo_99 hov_27 rfl ?_
  refine T_bipush (v := nI 64) d_Mo_expand_67 (by decide) ?_
  refine T_iload d_Mo_expand_69 rfl ?_
  refine N_imul (a := 1) (b := 64) (c := 64) d_Mo_expand_71 rfl ?_
  refine T_bipush (v := nI 64) d_Mo_expand_72 (by decide) ?_
  refine N_isub (a := 64) (b := 64) (c := 0) d_Mo_expand_74 (by omega) rfl ?_
  refine T_bipush (v := nI 64) d_Mo_expand_75 (by decide) ?_
  refine T_virtual (as := [.ref 388, .int (nI 0), .int (nI 64)]) (rest := []) (b := 373) d_Mo_expand_77 rfl (jw_Mo_bytes.jo (by decide)) lm_Mo_76 ji_Mo_bytes js_Mo_bytes hov_27 rfl rfl rfl (Nat.le_of_ble_eq_true rfl) (by decide) (by decide) (y_Mo_bytes (at0 := 0) (n := 64) p_26 p_25 (by first | omega | (simp only [List.length_append, List.length_cons, List.length_nil, List.length_replicate, sl_len, be_len, sha_len, hmac_len, ex1_len, ex2_len, stretch_len, zer8_len, tC_len, tag1_len, bnN_len, xkp_len]; done) | (simp only [List.length_append, List.length_cons, List.length_nil, List.length_replicate, sl_len, be_len, sha_len, hmac_len, ex1_len, ex2_len, stretch_len, zer8_len, tC_len, tag1_len, bnN_len, xkp_len]; omega)) (by decide) (by first | omega | (simp only [List.length_append, List.length_cons, List.length_nil, List.length_replicate, sl_len, be_len, sha_len, hmac_len, ex1_len, ex2_len, stretch_len, zer8_len, tC_len, tag1_len, bnN_len, xkp_len]; done) | (simp only [List.length_append, List.length_cons, List.length_nil, List.length_replicate, sl_len, be_len, sha_len, hmac_len, ex1_len, ex2_len, stretch_len, zer8_len, tC_len, tag1_len, bnN_len, xkp_len]; omega)) (by decide) (by decide)) (fun r M_28 hq => ?_)
  obtain ⟨rfl, p_28_0, kp_28⟩ := hq
  refine T_eq (pc' := 80) (L' := [(4, .int (nI 1)), (0, .ref 373), (1, .ref p), (2, .int (nI at0)), (3, .int (nI 128))]) (st' := []) (M' := M_28) rfl rfl rfl rfl ?_
  refine T_aload_n (v := .ref 373) d_Mo_expand_80 rfl (Or.inr ⟨_, rfl⟩) ?_
  refine T_aload_n (v := .ref 373) d_Mo_expand_81 rfl (Or.inr ⟨_, rfl⟩) ?_
  obtain ⟨v_29, hov_29, hwv_29, hsv_29, hiv_29⟩ := id p_28_0
  refine T_getfield (v := .ref 387) d_Mo_expand_82 fg_Mo_96 hov_29 rfl ?_
  refine T_iconst (v := nI 0) d_Mo_expand_85 (by decide) ?_
  refine T_aload_n (v := .ref 373) d_Mo_expand_86 rfl (Or.inr ⟨_, rfl⟩) ?_
  refine N_getI (x := (v_29 69)) (y := (nI ((l.length)))) d_Mo_expand_87 fg_Mo_93 hov_29 rfl ((hwv_29 69 (by decide)).trans (show (upd (upd w' 69 (nI (l.length))) 68 (nI ((([]) ++ sl l 0 (l.length)) ++ [u8 (nI 1)]).length)) 69 = (nI ((l.length))) from rfl)) ?_
  have p_30 := (IA.kp ((IA.kp ((IA.kp ((IA.kp ((IA.kp (p_16) kp_17 (by decide))) kp_18 (by decide))) kp_22 (by decide))) hK24 (by decide))) kp_28 (by decide))
  refine T_virtual (as := [.ref 387, .int (nI 0), .int (nI ((l.length)))]) (rest := []) (b := 373) d_Mo_expand_90 rfl (jw_Mo_bytes.jo (by decide)) lm_Mo_76 ji_Mo_bytes js_Mo_bytes hov_29 rfl rfl rfl (Nat.le_of_ble_eq_true rfl) (by decide) (by decide) (y_Mo_bytes (at0 := 0) (n := (l.length)) p_28_0 p_30 (by first | omega | (simp only [List.length_append, List.length_cons, List.length_nil, List.length_replicate, sl_len, be_len, sha_len, hmac_len, ex1_len, ex2_len, stretch_len, zer8_len, tC_len, tag1_len, bnN_len, xkp_len]; done) | (simp only [List.length_append, List.length_cons, List.length_nil, List.length_replicate, sl_len, be_len, sha_len, hmac_len, ex1_len, ex2_len, stretch_len, zer8_len, tC_len, tag1_len, bnN_len, xkp_len]; omega)) (by decide) (by first | omega | (simp only [List.length_append, List.length_cons, List.length_nil, List.length_replicate, sl_len, be_len, sha_len, hmac_len, ex1_len, ex2_len, stretch_len, zer8_len, tC_len, tag1_len, bnN_len, xkp_len]; done) | (simp only [List.length_append, List.length_cons, List.length_nil, List.length_replicate, sl_len, be_len, sha_len, hmac_len, ex1_len, ex2_len, stretch_len, zer8_len, tC_len, tag1_len, bnN_len, xkp_len]; omega)) (by decide) (by decide)) (fun r M_31 hq => ?_)
  obtain ⟨rfl, p_31_0, kp_31⟩ := hq
  refine T_eq (pc' := 93) (L' := [(4, .int (nI 1)), (0, .ref 373), (1, .ref p), (2, .int (nI at0)), (3, .int (nI 128))]) (st' := []) (M' := M_31) rfl rfl rfl rfl ?_
  refine T_aload_n (v := .ref 373) d_Mo_expand_93 rfl (Or.inr ⟨_, rfl⟩) ?_
  refine T_iload d_Mo_expand_94 rfl ?_
  refine T_iconst (v := nI 1) d_Mo_expand_96 (by decide) ?_
  refine N_iadd (a := 1) (b := 1) (c := 2) d_Mo_expand_97 rfl ?_
  obtain ⟨v_33, hov_33, hwv_33, hsv_33, hiv_33⟩ := id p_31_0
  refine T_virtual (as := [.int (nI 2)]) (rest := []) (b := 373) d_Mo_expand_98 rfl (jw_Mo_one.jo (by decide)) lm_Mo_11 ji_Mo_one js_Mo_one hov_33 rfl rfl rfl (Nat.le_of_ble_eq_true rfl) (by decide) (by decide) (y_Mo_one (x := (nI 2)) p_31_0 (by first | omega | (simp only [List.length_append, List.length_cons, List.length_nil, List.length_replicate, sl_len, be_len, sha_len, hmac_len, ex1_len, ex2_len, stretch_len, zer8_len, tC_len, tag1_len, bnN_len, xkp_len]; done) | (simp only [List.length_append, List.length_cons, List.length_nil, List.length_replicate, sl_len, be_len, sha_len, hmac_len, ex1_len, ex2_len, stretch_len, zer8_len, tC_len, tag1_len, bnN_len, xkp_len]; omega))) (fun r M_32 hq => ?_)
  obtain ⟨rfl, p_32_0, kp_32⟩ := hq
  refine T_eq (pc' := 101) (L' := [(4, .int (nI 1)), (0, .ref 373), (1, .ref p), (2, .int (nI at0)), (3, .int (nI 128))]) (st' := []) (M' := M_32) rfl rfl rfl rfl ?_
  refine T_aload_n (v := .ref 373) d_Mo_expand_101 rfl (Or.inr ⟨_, rfl⟩) ?_
  refine T_aload_n (v := .ref p) d_Mo_expand_102 rfl (Or.inr ⟨_, rfl⟩) ?_
  refine T_iload_n d_Mo_expand_103 rfl ?_
  refine T_bipush (v := nI 64) d_Mo_expand_104 (by decide) ?_
  have p_34 := (MS.kp ((MS.kp ((MS.kp (ms24) kp_28 (by decide))) kp_31 (by decide))) kp_32 (by decide))
  have p_35 := (IA.kp ((IA.kp ((IA.kp ((IA.kp ((IA.kp (p_21) kp_22 (nm hp (by decide)))) hK24 (nm hp (by decide)))) kp_28 (nm hp (by decide)))) kp_31 (nm hp (by decide)))) kp_32 (nm hp (by decide)))
  obtain ⟨v_37, hov_37, hwv_37, hsv_37, hiv_37⟩ := id p_32_0
  refine T_virtual (as := [.ref p, .int (nI at0), .int (nI 64)]) (rest := []) (b := 373) d_Mo_expand_106 rfl (jw_Mo_mac.jo (by decide)) lm_Mo_90 ji_Mo_mac js_Mo_mac hov_37 rfl rfl rfl (Nat.le_of_ble_eq_true rfl) (by decide) (by decide) (g_Mo_mac (at0 := at0) p_34 p_32_0 p_35 (by first | omega | (simp only [List.length_append, List.length_cons, List.length_nil, List.length_replicate, sl_len, be_len, sha_len, hmac_len, ex1_len, ex2_len, stretch_len, zer8_len, tC_len, tag1_len, bnN_len, xkp_len]; done) | (simp only [List.length_append, List.length_cons, List.length_nil, List.length_replicate, sl_len, be_len, sha_len, hmac_len, ex1_len, ex2_len, stretch_len, zer8_len, tC_len, tag1_len, bnN_len, xkp_len]; omega)) (by omega) (by first | omega | (simp only [List.length_append, List.length_cons, List.length_nil, List.length_replicate, sl_len, be_len, sha_len, hmac_len, ex1_len, ex2_len, stretch_len, zer8_len, tC_len, tag1_len, bnN_len, xkp_len]; done) | (simp only [List.length_append, List.length_cons, List.length_nil, List.length_replicate, sl_len, be_len, sha_len, hmac_len, ex1_len, ex2_len, stretch_len, zer8_len, tC_len, tag1_len, bnN_len, xkp_len]; omega)) (nm hp (by decide))) (fun r M_36 hq => ?_)
  obtain ⟨rfl, p_36_0, p_36_1, p_36_2, kp_36⟩ := hq
  refine T_eq (pc' := 109) (L' := [(4, .int (nI 1)), (0, .ref 373), (1, .ref p), (2, .int (nI at0)), (3, .int (nI 128))]) (st' := []) (M' := M_36) rfl rfl rfl rfl ?_
  refine T_iconst (v := nI 0) d_Mo_expand_109 (by decide) ?_
  refine T_istore (L' := [(5, .int (nI 0)), (4, .int (nI 1)), (0, .ref 373), (1, .ref p), (2, .int (nI at0)), (3, .int (nI 128))]) d_Mo_expand_110 (by decide) rfl ?_
  have p_38 := (IA.kp ((IA.kp ((IA.kp ((IA.kp (p_25) kp_28 (by decide))) kp_31 (by decide))) kp_32 (by decide))) kp_36 (by decide))
  refine xp_b2 G (l0 := (ex1 (sl s at0 64) l)) p_36_1 p_36_2 (by decide) (by first | omega | (simp only [List.length_append, List.length_cons, List.length_nil, List.length_replicate, sl_len, be_len, sha_len, hmac_len, ex1_len, ex2_len, stretch_len, zer8_len, tC_len, tag1_len, bnN_len, xkp_len]; done) | (simp only [List.length_append, List.length_cons, List.length_nil, List.length_replicate, sl_len, be_len, sha_len, hmac_len, ex1_len, ex2_len, stretch_len, zer8_len, tC_len, tag1_len, bnN_len, xkp_len]; omega)) (by decide) (by first | omega | (simp only [List.length_append, List.length_cons, List.length_nil, List.length_replicate, sl_len, be_len, sha_len, hmac_len, ex1_len, ex2_len, stretch_len, zer8_len, tC_len, tag1_len, bnN_len, xkp_len]; done) | (simp only [List.length_append, List.length_cons, List.length_nil, List.length_replicate, sl_len, be_len, sha_len, hmac_len, ex1_len, ex2_len, stretch_len, zer8_len, tC_len, tag1_len, bnN_len, xkp_len]; omega)) (fun Mc39 hI => ?_) 64 0 M_36 (Nat.zero_add _) ⟨by rw [sl_zero, List.append_nil]; exact p_38, Kp.rf⟩
  obtain ⟨hd39, hK39⟩ := hI
  have ms39 := MS.wi p_36_0 hK39 hd39.iq (by decide) (by decide) (by decide)
  have p_40 : IA Mc39 388 192 (ex1 (sl s at0 64) l ++ ex2 (sl s at0 64) l) := (by have g := hd39; rw [sl64 (hmac_len _ _), sl_all, sl64 (ex1_len _ _), u8_2] at g; exact g)
  refine N_iinc (k := 1) (m := 1) (c := 2) (L' := [(4, .int (nI 2)), (0, .ref 373), (1, .ref p), (2, .int (nI at0)), (3, .int (nI 128))]) d_Mo_expand_145 (by decide) rfl (by decide) rfl rfl ?_
  refine T_goto (tgt := 48) d_Mo_expand_148 rfl ?_
  refine T_bipush (v := nI 64) d_Mo_expand_48 (by decide) ?_
  refine T_iload d_Mo_expand_50 rfl ?_
  refine N_imul (a := 2) (b := 64) (c := 128) d_Mo_expand_52 rfl ?_
  refine T_iload_n d_Mo_expand_53 rfl ?_
  refine N_icmp_ge_t (a := 128) (b := 128) d_Mo_expand_54 (tgt := 151) rfl (by omega) (by omega) (by omega) ?_
  have p_41 := (BF.kp (p_36_1) hK39 (by decide) (by decide))
  exact T_vret d_Mo_expand_151 rfl (by decide) (by decide) ⟨rfl, ms39, BF.bg p_41 (fun j hj => by unfold upd; rw [if_neg (by omega), if_neg (by omega), if_neg (by omega)]; exact e j hj), p_40, (Kp.tr (Kp.tr (Kp.tr (Kp.tr (Kp.tr (Kp.tr (Kp.tr (Kp.tr (Kp.tr (Kp.ex (Kp.tr (Kp.ex (Kp.rf : Kp [373, 374, 380, 382, 381, 383, 384, 385, 387, 388] M M) s_4 (by decide)) (Kp.mono hK7 (by decide))) s_13 (by decide)) (Kp.mono kp_17 (by decide))) (Kp.mono kp_18 (by decide))) (Kp.mono kp_22 (by decide))) (Kp.mono hK24 (by decide))) (Kp.mono kp_28 (by decide))) (Kp.mono kp_31 (by decide))) (Kp.mono kp_32 (by decide))) (Kp.mono kp_36 (by decide))) (Kp.mono hK39 (by decide)))⟩
set_option maxHeartbeats 8000000 in
theorem b_Mo_letterC {G : GX} {M : List va_E} {w : Nat → Int32} {l : List UInt8} (h : BG M w l) (hl : l.length ≤ 3000) : CT G mi_Mo_letterC [.ref 373] M (fun r M' => r = none ∧ BG M' w (tC l) ∧ Kp [373, 374] M M') := by
  refine CT.of (by decide) (Nat.le_of_ble_eq_true rfl) ?_
  show TT G mi_Mo_letterC 0 [(0, .ref 373)] [] M 0 0 _
  refine T_aload_n (v := .ref 373) d_Mo_letterC_0 rfl (Or.inr ⟨_, rfl⟩) ?_
  refine T_ldc2 d_Mo_letterC_1 kJ_Mo_102 ?_
  obtain ⟨v_2, hov_2, hwv_2, hsv_2, hiv_2⟩ := id h
  refine T_virtual (as := [.long 22324837457735981]) (rest := []) (b := 373) d_Mo_letterC_4 rfl (jw_Mo_letters.jo (by decide)) lm_Mo_104 ji_Mo_letters js_Mo_letters hov_2 rfl rfl rfl (Nat.le_of_ble_eq_true rfl) (by decide) (by decide) (b_Mo_letters h (by first | omega | (simp only [List.length_append, List.length_cons, List.length_nil, List.length_replicate, sl_len, be_len, sha_len, hmac_len, ex1_len, ex2_len, stretch_len, zer8_len, tC_len, tag1_len, bnN_len, xkp_len]; done) | (simp only [List.length_append, List.length_cons, List.length_nil, List.length_replicate, sl_len, be_len, sha_len, hmac_len, ex1_len, ex2_len, stretch_len, zer8_len, tC_len, tag1_len, bnN_len, xkp_len]; omega))) (fun r M_1 hq => ?_)
  obtain ⟨rfl, p_1_0, kp_1⟩ := hq
  refine T_eq (pc' := 7) (L' := [(0, .ref 373)]) (st' := []) (M' := M_1) rfl rfl rfl rfl ?_
  have p_3 : BG M_1 w (l ++ [79, 80, 82, 70, 86, 49, 45]) := (by have g := p_1_0; rw [show lts 22324837457735981 = [79, 80, 82, 70, 86, 49, 45] from by decide +kernel] at g; exact g)
  refine T_aload_n (v := .ref 373) d_Mo_letterC_7 rfl (Or.inr ⟨_, rfl⟩) ?_
  refine T_iconst (v := nI 0) d_Mo_letterC_8 (by decide) ?_
  obtain ⟨v_5, hov_5, hwv_5, hsv_5, hiv_5⟩ := id p_3
  refine T_virtual (as := [.int (nI 0)]) (rest := []) (b := 373) d_Mo_letterC_9 rfl (jw_Mo_one.jo (by decide)) lm_Mo_11 ji_Mo_one js_Mo_one hov_5 rfl rfl rfl (Nat.le_of_ble_eq_true rfl) (by decide) (by decide) (b_Mo_one (x := (nI 0)) p_3 (by first | omega | (simp only [List.length_append, List.length_cons, List.length_nil, List.length_replicate, sl_len, be_len, sha_len, hmac_len, ex1_len, ex2_len, stretch_len, zer8_len, tC_len, tag1_len, bnN_len, xkp_len]; done) | (simp only [List.length_append, List.length_cons, List.length_nil, List.length_replicate, sl_len, be_len, sha_len, hmac_len, ex1_len, ex2_len, stretch_len, zer8_len, tC_len, tag1_len, bnN_len, xkp_len]; omega))) (fun r M_4 hq => ?_)
  obtain ⟨rfl, p_4_0, kp_4⟩ := hq
  refine T_eq (pc' := 12) (L' := [(0, .ref 373)]) (st' := []) (M' := M_4) rfl rfl rfl rfl ?_
  refine T_aload_n (v := .ref 373) d_Mo_letterC_12 rfl (Or.inr ⟨_, rfl⟩) ?_
  refine T_ldc2 d_Mo_letterC_13 kJ_Mo_108 ?_
  obtain ⟨v_7, hov_7, hwv_7, hsv_7, hiv_7⟩ := id p_4_0
  refine T_virtual (as := [.long 3274795823647581556]) (rest := []) (b := 373) d_Mo_letterC_16 rfl (jw_Mo_letters.jo (by decide)) lm_Mo_104 ji_Mo_letters js_Mo_letters hov_7 rfl rfl rfl (Nat.le_of_ble_eq_true rfl) (by decide) (by decide) (b_Mo_letters p_4_0 (by first | omega | (simp only [List.length_append, List.length_cons, List.length_nil, List.length_replicate, sl_len, be_len, sha_len, hmac_len, ex1_len, ex2_len, stretch_len, zer8_len, tC_len, tag1_len, bnN_len, xkp_len]; done) | (simp only [List.length_append, List.length_cons, List.length_nil, List.length_replicate, sl_len, be_len, sha_len, hmac_len, ex1_len, ex2_len, stretch_len, zer8_len, tC_len, tag1_len, bnN_len, xkp_len]; omega))) (fun r M_6 hq => ?_)
  obtain ⟨rfl, p_6_0, kp_6⟩ := hq
  refine T_eq (pc' := 19) (L' := [(0, .ref 373)]) (st' := []) (M' := M_6) rfl rfl rfl rfl ?_
  have p_8 : BG M_6 w (((l ++ [79, 80, 82, 70, 86, 49, 45]) ++ [u8 (nI 0)]) ++ [45, 114, 105, 115, 116, 114, 101, 116]) := (by have g := p_6_0; rw [show lts 3274795823647581556 = [45, 114, 105, 115, 116, 114, 101, 116] from by decide +kernel] at g; exact g)
  refine T_aload_n (v := .ref 373) d_Mo_letterC_19 rfl (Or.inr ⟨_, rfl⟩) ?_
  refine T_ldc2 d_Mo_letterC_20 kJ_Mo_110 ?_
  obtain ⟨v_10, hov_10, hwv_10, hsv_10, hiv_10⟩ := id p_8
  refine T_virtual (as := [.long 8389979834921341768]) (rest := []) (b := 373) d_Mo_letterC_23 rfl (jw_Mo_letters.jo (by decide)) lm_Mo_104 ji_Mo_letters js_Mo_letters hov_10 rfl rfl rfl (Nat.le_of_ble_eq_true rfl) (by decide) (by decide) (b_Mo_letters p_8 (by first | omega | (simp only [List.length_append, List.length_cons, List.length_nil, List.length_replicate, sl_len, be_len, sha_len, hmac_len, ex1_len, ex2_len, stretch_len, zer8_len, tC_len, tag1_len, bnN_len, xkp_len]; done) | (simp only [List.length_append, List.length_cons, List.length_nil, List.length_replicate, sl_len, be_len, sha_len, hmac_len, ex1_len, ex2_len, stretch_len, zer8_len, tC_len, tag1_len, bnN_len, xkp_len]; omega))) (fun r M_9 hq => ?_)
  obtain ⟨rfl, p_9_0, kp_9⟩ := hq
  refine T_eq (pc' := 26) (L' := [(0, .ref 373)]) (st' := []) (M' := M_9) rfl rfl rfl rfl ?_
  have p_11 : BG M_9 w ((((l ++ [79, 80, 82, 70, 86, 49, 45]) ++ [u8 (nI 0)]) ++ [45, 114, 105, 115, 116, 114, 101, 116]) ++ [116, 111, 50, 53, 53, 45, 83, 72]) := (by have g := p_9_0; rw [show lts 8389979834921341768 = [116, 111, 50, 53, 53, 45, 83, 72] from by decide +kernel] at g; exact g)
  refine T_aload_n (v := .ref 373) d_Mo_letterC_26 rfl (Or.inr ⟨_, rfl⟩) ?_
  refine T_ldc2 d_Mo_letterC_27 kJ_Mo_112 ?_
  obtain ⟨v_13, hov_13, hwv_13, hsv_13, hiv_13⟩ := id p_11
  refine T_virtual (as := [.long 1094005042]) (rest := []) (b := 373) d_Mo_letterC_30 rfl (jw_Mo_letters.jo (by decide)) lm_Mo_104 ji_Mo_letters js_Mo_letters hov_13 rfl rfl rfl (Nat.le_of_ble_eq_true rfl) (by decide) (by decide) (b_Mo_letters p_11 (by first | omega | (simp only [List.length_append, List.length_cons, List.length_nil, List.length_replicate, sl_len, be_len, sha_len, hmac_len, ex1_len, ex2_len, stretch_len, zer8_len, tC_len, tag1_len, bnN_len, xkp_len]; done) | (simp only [List.length_append, List.length_cons, List.length_nil, List.length_replicate, sl_len, be_len, sha_len, hmac_len, ex1_len, ex2_len, stretch_len, zer8_len, tC_len, tag1_len, bnN_len, xkp_len]; omega))) (fun r M_12 hq => ?_)
  obtain ⟨rfl, p_12_0, kp_12⟩ := hq
  refine T_eq (pc' := 33) (L' := [(0, .ref 373)]) (st' := []) (M' := M_12) rfl rfl rfl rfl ?_
  have p_14 : BG M_12 w (((((l ++ [79, 80, 82, 70, 86, 49, 45]) ++ [u8 (nI 0)]) ++ [45, 114, 105, 115, 116, 114, 101, 116]) ++ [116, 111, 50, 53, 53, 45, 83, 72]) ++ [65, 53, 49, 50]) := (by have g := p_12_0; rw [show lts 1094005042 = [65, 53, 49, 50] from by decide +kernel] at g; exact g)
  have p_15 : BG M_12 w (tC l) := (by have g := p_14; rw [u8_0] at g; unfold tC; simp only [List.append_assoc, List.cons_append, List.nil_append] at g ⊢; exact g)
  exact T_vret d_Mo_letterC_33 rfl (by decide) (by decide) ⟨rfl, p_15, (Kp.tr (Kp.tr (Kp.tr (Kp.tr (Kp.tr (Kp.rf : Kp [373, 374] M M) (Kp.mono kp_1 (by decide))) (Kp.mono kp_4 (by decide))) (Kp.mono kp_6 (by decide))) (Kp.mono kp_9 (by decide))) (Kp.mono kp_12 (by decide)))⟩
abbrev strW : List Nat := [373, 374, 380, 382, 381, 383, 389]
set_option maxHeartbeats 8000000 in
theorem st_t (G : GX) {M0 : List va_E} {w : Nat → Int32} {l : List UInt8} {p n : Nat} (hb : BF M0 w l) (ha : 0 + l.length ≤ l.length) (hd : 0 + l.length ≤ 100)  {Q : Option Value → List va_E → Prop} (kk : ∀ M, IA M 389 100 (sl l 0 l.length) ∧ Kp [389] M0 M → TT G mi_Mo_stretch 44 [(0, .ref 373), (1, .ref p), (2, .int (nI n))] [] M 0 0 Q) : ∀ j k M, k + j = l.length → IA M 389 100 (sl l 0 k) ∧ Kp [389] M0 M → TT G mi_Mo_stretch 18 [(3, .int (nI k)), (0, .ref 373), (1, .ref p), (2, .int (nI n))] [] M 0 0 Q := by
  intro j
  induction j with
  | zero =>
    intro k M hk hI
    obtain rfl : l.length = k := by omega
    obtain ⟨hda, hK⟩ := id hI
    refine T_iload_n d_Mo_stretch_18 rfl ?_
    refine T_aload_n (v := .ref 373) d_Mo_stretch_19 rfl (Or.inr ⟨_, rfl⟩) ?_
    have p_1 := (BF.kp (hb) hK (by decide) (by decide))
    obtain ⟨v_2, hov_2, hwv_2, hsv_2, hiv_2⟩ := id p_1
    refine N_getI (x := (v_2 67)) (y := (nI (l.length))) d_Mo_stretch_20 fg_Mo_7 hov_2 rfl hsv_2 ?_
    refine N_icmp_ge_t (a := l.length) (b := l.length) d_Mo_stretch_23 (tgt := 44) rfl (by omega) (by omega) (by omega) ?_
    exact T_sub (fun q hq => List.mem_cons_of_mem _ hq) (kk M hI)
  | succ j ih =>
    intro k M hk hI
    obtain ⟨hda, hK⟩ := hI
    obtain ⟨vb, hob, hwb, hsb, hib⟩ := id hb
    have hsl := IA.le hib
    refine T_iload_n d_Mo_stretch_18 rfl ?_
    refine T_aload_n (v := .ref 373) d_Mo_stretch_19 rfl (Or.inr ⟨_, rfl⟩) ?_
    have p_1 := (BF.kp (hb) hK (by decide) (by decide))
    obtain ⟨v_2, hov_2, hwv_2, hsv_2, hiv_2⟩ := id p_1
    refine N_getI (x := (v_2 67)) (y := (nI (l.length))) d_Mo_stretch_20 fg_Mo_7 hov_2 rfl hsv_2 ?_
    refine N_icmp_ge_f (a := l.length) (b := k) d_Mo_stretch_23 (tgt := 44) rfl (by omega) (by omega) (by omega) ?_
    refine T_aload_n (v := .ref 373) d_Mo_stretch_26 rfl (Or.inr ⟨_, rfl⟩) ?_
    refine T_getfield (v := .ref 389) d_Mo_stretch_27 fg_Mo_117 hov_2 rfl ?_
    refine T_iload_n d_Mo_stretch_30 rfl ?_
    refine T_aload_n (v := .ref 373) d_Mo_stretch_31 rfl (Or.inr ⟨_, rfl⟩) ?_
    refine T_getfield (v := .ref 374) d_Mo_stretch_32 fg_Mo_1 hov_2 rfl ?_
    refine T_iload_n d_Mo_stretch_35 rfl ?_
    have p_3 := (IA.kp (hib) hK (by decide))
    obtain ⟨f_4, hf_5, hl_6, hv_7⟩ := id p_3
    refine N_iaload (k := k) (x := (bR (gd l k))) d_Mo_stretch_36 hf_5 (by omega) (by decide) (hv_7 k (by first | omega | (simp only [List.length_append, List.length_cons, List.length_nil, List.length_replicate, sl_len, be_len, sha_len, hmac_len, ex1_len, ex2_len, stretch_len, zer8_len, tC_len, tag1_len, bnN_len, xkp_len]; omega))) ?_
    obtain ⟨f_8, hf_9, hl_10, hv_11⟩ := id hda
    refine N_iastore (k := k) d_Mo_stretch_37 (by decide) hf_9 (by omega) (by decide) rfl (fun M_12 h_13 s_14 => ?_)
    refine N_iinc (k := k) (m := 1) (c := (k + 1)) (L' := [(3, .int (nI ((k + 1)))), (0, .ref 373), (1, .ref p), (2, .int (nI n))]) d_Mo_stretch_38 (by decide) rfl (by decide) rfl rfl ?_
    refine T_goto (tgt := 18) d_Mo_stretch_41 rfl ?_
    exact ih (k + 1) M_12 (by omega) ⟨ia_c0 h_13 (gd_c (by omega)) (by omega) (by omega) hv_11, (Kp.ex (Kp.tr (Kp.rf : Kp [389] M0 M0) (Kp.mono hK (by decide))) s_14 (by decide))⟩
theorem zer8_s (k : Nat) : zer8 (k + 1) = zer8 k ++ [0] := List.replicate_succ'
set_option maxHeartbeats 8000000 in
theorem st_z (G : GX) {M0 : List va_E} {w : Nat → Int32} {p n : Nat}  {Q : Option Value → List va_E → Prop} (kk : ∀ M, BF M w (zer8 128) ∧ Kp [373, 374] M0 M → TT G mi_Mo_stretch 69 [(0, .ref 373), (1, .ref p), (2, .int (nI n))] [] M 0 0 Q) : ∀ j k M, k + j = 128 → BF M w (zer8 k) ∧ Kp [373, 374] M0 M → TT G mi_Mo_stretch 51 [(3, .int (nI k)), (0, .ref 373), (1, .ref p), (2, .int (nI n))] [] M 0 0 Q := by
  intro j
  induction j with
  | zero =>
    intro k M hk hI
    obtain rfl : 128 = k := by omega
    refine T_iload_n d_Mo_stretch_51 rfl ?_
    refine T_sipush (v := nI 128) d_Mo_stretch_52 (by decide) ?_
    refine N_icmp_ge_t (a := 128) (b := 128) d_Mo_stretch_55 (tgt := 69) rfl (by omega) (by omega) (by omega) ?_
    exact T_sub (fun q hq => List.mem_cons_of_mem _ hq) (kk M hI)
  | succ j ih =>
    intro k M hk hI
    obtain ⟨hb, hK⟩ := hI
    refine T_iload_n d_Mo_stretch_51 rfl ?_
    refine T_sipush (v := nI 128) d_Mo_stretch_52 (by decide) ?_
    refine N_icmp_ge_f (a := 128) (b := k) d_Mo_stretch_55 (tgt := 69) rfl (by omega) (by omega) (by omega) ?_
    refine T_aload_n (v := .ref 373) d_Mo_stretch_58 rfl (Or.inr ⟨_, rfl⟩) ?_
    refine T_iconst (v := nI 0) d_Mo_stretch_59 (by decide) ?_
    obtain ⟨v_2, hov_2, hwv_2, hsv_2, hiv_2⟩ := id hb
    refine T_virtual (as := [.int (nI 0)]) (rest := []) (b := 373) d_Mo_stretch_60 rfl (jw_Mo_one.jo (by decide)) lm_Mo_11 ji_Mo_one js_Mo_one hov_2 rfl rfl rfl (Nat.le_of_ble_eq_true rfl) (by decide) (by decide) (y_Mo_one (x := (nI 0)) hb (by rw [zer8_len]; omega)) (fun r M_1 hq => ?_)
    obtain ⟨rfl, p_1_0, kp_1⟩ := hq
    refine T_eq (pc' := 63) (L' := [(3, .int (nI k)), (0, .ref 373), (1, .ref p), (2, .int (nI n))]) (st' := []) (M' := M_1) rfl rfl rfl rfl ?_
    refine N_iinc (k := k) (m := 1) (c := (k + 1)) (L' := [(3, .int (nI ((k + 1)))), (0, .ref 373), (1, .ref p), (2, .int (nI n))]) d_Mo_stretch_63 (by decide) rfl (by decide) rfl rfl ?_
    refine T_goto (tgt := 51) d_Mo_stretch_66 rfl ?_
    exact ih (k + 1) M_1 (by omega) ⟨by rw [zer8_s, ← u8_0]; exact p_1_0, (Kp.tr (Kp.tr (Kp.rf : Kp [373, 374] M0 M0) (Kp.mono hK (by decide))) (Kp.mono kp_1 (by decide)))⟩
set_option maxHeartbeats 8000000 in
theorem b_Mo_stretch {G : GX} {M : List va_E} {w : Nat → Int32} {p m n : Nat} {l s : List UInt8} (hms : MS M) (h : BG M w l) (hk : IA M p m s) (ha : n ≤ s.length) (hm2 : m < 2 ^ 30) (hl : l.length ≤ 99) (hn : n ≤ 1000) (hp : p ∉ strW) : CT G mi_Mo_stretch [.ref 373, .ref p, .int (nI n)] M (fun r M' => r = none ∧ MS M' ∧ BG M' w [] ∧ IA M' 383 64 (str2 (sl s 0 n) (l ++ [u8 (nI l.length)])) ∧ Kp strW M M') := by
  obtain ⟨w', h, e⟩ := h.bf
  refine CT.of (by decide) (Nat.le_of_ble_eq_true rfl) ?_
  show TT G mi_Mo_stretch 0 [(0, .ref 373), (1, .ref p), (2, .int (nI n))] [] M 0 0 _
  refine T_aload_n (v := .ref 373) d_Mo_stretch_0 rfl (Or.inr ⟨_, rfl⟩) ?_
  refine T_aload_n (v := .ref 373) d_Mo_stretch_1 rfl (Or.inr ⟨_, rfl⟩) ?_
  obtain ⟨v_1, hov_1, hwv_1, hsv_1, hiv_1⟩ := id h
  refine N_getI (x := (v_1 67)) (y := (nI (l.length))) d_Mo_stretch_2 fg_Mo_7 hov_1 rfl hsv_1 ?_
  refine T_virtual (as := [.int (nI (l.length))]) (rest := []) (b := 373) d_Mo_stretch_5 rfl (jw_Mo_one.jo (by decide)) lm_Mo_11 ji_Mo_one js_Mo_one hov_1 rfl rfl rfl (Nat.le_of_ble_eq_true rfl) (by decide) (by decide) (y_Mo_one (x := (nI (l.length))) h (by first | omega | (simp only [List.length_append, List.length_cons, List.length_nil, List.length_replicate, sl_len, be_len, sha_len, hmac_len, ex1_len, ex2_len, stretch_len, zer8_len, tC_len, tag1_len, bnN_len, xkp_len]; done) | (simp only [List.length_append, List.length_cons, List.length_nil, List.length_replicate, sl_len, be_len, sha_len, hmac_len, ex1_len, ex2_len, stretch_len, zer8_len, tC_len, tag1_len, bnN_len, xkp_len]; omega))) (fun r M_2 hq => ?_)
  obtain ⟨rfl, p_2_0, kp_2⟩ := hq
  refine T_eq (pc' := 8) (L' := [(0, .ref 373), (1, .ref p), (2, .int (nI n))]) (st' := []) (M' := M_2) rfl rfl rfl rfl ?_
  refine T_aload_n (v := .ref 373) d_Mo_stretch_8 rfl (Or.inr ⟨_, rfl⟩) ?_
  refine T_aload_n (v := .ref 373) d_Mo_stretch_9 rfl (Or.inr ⟨_, rfl⟩) ?_
  obtain ⟨v_3, hov_3, hwv_3, hsv_3, hiv_3⟩ := id p_2_0
  refine N_getI (x := (v_3 67)) (y := (nI ((l ++ [u8 (nI (l.length))]).length))) d_Mo_stretch_10 fg_Mo_7 hov_3 rfl hsv_3 ?_
  refine N_put (e := (moO (upd v_3 70 (nI ((l ++ [u8 (nI (l.length))]).length))))) d_Mo_stretch_13 (fp_Mo_114 _) hov_3 (Nat.le_of_ble_eq_true rfl) ⟨rfl, rfl⟩ rfl (fun M_4 h_5 s_6 => ?_)
  have p_7 := BF.st (j := 70) (by decide) hwv_3 hsv_3 hiv_3 h_5 (Ex.kp s_6)
  refine T_iconst (v := nI 0) d_Mo_stretch_16 (by decide) ?_
  refine T_istore_n (L' := [(3, .int (nI 0)), (0, .ref 373), (1, .ref p), (2, .int (nI n))]) d_Mo_stretch_17 (by decide) rfl ?_
  have p_8 := (MS.kp ((MS.kp (hms) kp_2 (by decide))) (Ex.kp s_6) (by decide))
  refine st_t G p_7 (by first | omega | (simp only [List.length_append, List.length_cons, List.length_nil, List.length_replicate, sl_len, be_len, sha_len, hmac_len, ex1_len, ex2_len, stretch_len, zer8_len, tC_len, tag1_len, bnN_len, xkp_len]; done) | (simp only [List.length_append, List.length_cons, List.length_nil, List.length_replicate, sl_len, be_len, sha_len, hmac_len, ex1_len, ex2_len, stretch_len, zer8_len, tC_len, tag1_len, bnN_len, xkp_len]; omega)) (by first | omega | (simp only [List.length_append, List.length_cons, List.length_nil, List.length_replicate, sl_len, be_len, sha_len, hmac_len, ex1_len, ex2_len, stretch_len, zer8_len, tC_len, tag1_len, bnN_len, xkp_len]; done) | (simp only [List.length_append, List.length_cons, List.length_nil, List.length_replicate, sl_len, be_len, sha_len, hmac_len, ex1_len, ex2_len, stretch_len, zer8_len, tC_len, tag1_len, bnN_len, xkp_len]; omega)) (fun Mc9 hI => ?_) (l ++ [u8 (nI (l.length))]).length 0 M_4 (Nat.zero_add _) ⟨by rw [sl_zero]; exact (MS.ia p_8 (p := 389) (n := 100) (by decide)), Kp.rf⟩
  obtain ⟨hd9, hK9⟩ := hI
  have ms9 := MS.wi p_8 hK9 hd9.iq (by decide) (by decide) (by decide)
  have p_10 : IA Mc9 389 100 (l ++ [u8 (nI l.length)]) := (by have g := hd9; rw [sl_all] at g; exact g)
  refine T_aload_n (v := .ref 373) d_Mo_stretch_44 rfl (Or.inr ⟨_, rfl⟩) ?_
  refine T_iconst (v := nI 0) d_Mo_stretch_45 (by decide) ?_
  have p_11 := (BF.kp (p_7) hK9 (by decide) (by decide))
  obtain ⟨v_12, hov_12, hwv_12, hsv_12, hiv_12⟩ := id p_11
  refine N_put (e := (moO (upd v_12 67 (nI 0)))) d_Mo_stretch_46 (fp_Mo_7 _) hov_12 (Nat.le_of_ble_eq_true rfl) ⟨rfl, rfl⟩ rfl (fun M_13 h_14 s_15 => ?_)
  have p_16 := BF.sz hwv_12 hiv_12 h_14 (Ex.kp s_15)
  refine T_iconst (v := nI 0) d_Mo_stretch_49 (by decide) ?_
  refine T_istore_n (L' := [(3, .int (nI 0)), (0, .ref 373), (1, .ref p), (2, .int (nI n))]) d_Mo_stretch_50 (by decide) rfl ?_
  refine st_z G (fun Mz hI => ?_) 128 0 M_13 (Nat.zero_add _) ⟨p_16, Kp.rf⟩
  obtain ⟨hbz, hKz⟩ := hI
  refine T_aload_n (v := .ref 373) d_Mo_stretch_69 rfl (Or.inr ⟨_, rfl⟩) ?_
  refine T_aload_n (v := .ref p) d_Mo_stretch_70 rfl (Or.inr ⟨_, rfl⟩) ?_
  refine T_iconst (v := nI 0) d_Mo_stretch_71 (by decide) ?_
  refine T_iload_n d_Mo_stretch_72 rfl ?_
  have p_17 := (IA.kp ((IA.kp ((IA.kp ((IA.kp ((IA.kp (hk) kp_2 (nm hp (by decide)))) (Ex.kp s_6) (nm hp (by decide)))) hK9 (nm hp (by decide)))) (Ex.kp s_15) (nm hp (by decide)))) hKz (nm hp (by decide)))
  obtain ⟨v_19, hov_19, hwv_19, hsv_19, hiv_19⟩ := id hbz
  refine T_virtual (as := [.ref p, .int (nI 0), .int (nI n)]) (rest := []) (b := 373) d_Mo_stretch_73 rfl (jw_Mo_bytes.jo (by decide)) lm_Mo_76 ji_Mo_bytes js_Mo_bytes hov_19 rfl rfl rfl (Nat.le_of_ble_eq_true rfl) (by decide) (by decide) (y_Mo_bytes (at0 := 0) (n := n) hbz p_17 (by first | omega | (simp only [List.length_append, List.length_cons, List.length_nil, List.length_replicate, sl_len, be_len, sha_len, hmac_len, ex1_len, ex2_len, stretch_len, zer8_len, tC_len, tag1_len, bnN_len, xkp_len]; done) | (simp only [List.length_append, List.length_cons, List.length_nil, List.length_replicate, sl_len, be_len, sha_len, hmac_len, ex1_len, ex2_len, stretch_len, zer8_len, tC_len, tag1_len, bnN_len, xkp_len]; omega)) (by omega) (by first | omega | (simp only [List.length_append, List.length_cons, List.length_nil, List.length_replicate, sl_len, be_len, sha_len, hmac_len, ex1_len, ex2_len, stretch_len, zer8_len, tC_len, tag1_len, bnN_len, xkp_len]; done) | (simp only [List.length_append, List.length_cons, List.length_nil, List.length_replicate, sl_len, be_len, sha_len, hmac_len, ex1_len, ex2_len, stretch_len, zer8_len, tC_len, tag1_len, bnN_len, xkp_len]; omega)) (nmne hp (by decide)) (nmne hp (by decide))) (fun r M_18 hq => ?_)
  obtain ⟨rfl, p_18_0, kp_18⟩ := hq
  refine T_eq (pc' := 76) (L' := [(0, .ref 373), (1, .ref p), (2, .int (nI n))]) (st' := []) (M' := M_18) rfl rfl rfl rfl ?_
  refine T_aload_n (v := .ref 373) d_Mo_stretch_76 rfl (Or.inr ⟨_, rfl⟩) ?_
  refine T_bipush (v := nI 64) d_Mo_stretch_77 (by decide) ?_
  refine T_iconst (v := nI 2) d_Mo_stretch_79 (by decide) ?_
  obtain ⟨v_21, hov_21, hwv_21, hsv_21, hiv_21⟩ := id p_18_0
  refine T_virtual (as := [.int (nI 64), .int (nI 2)]) (rest := []) (b := 373) d_Mo_stretch_80 rfl (jw_Mo_number.jo (by decide)) lm_Mo_120 ji_Mo_number js_Mo_number hov_21 rfl rfl rfl (Nat.le_of_ble_eq_true rfl) (by decide) (by decide) (y_Mo_number (v := (nI 64)) (c := 2) p_18_0 (by decide) (by first | omega | (simp only [List.length_append, List.length_cons, List.length_nil, List.length_replicate, sl_len, be_len, sha_len, hmac_len, ex1_len, ex2_len, stretch_len, zer8_len, tC_len, tag1_len, bnN_len, xkp_len]; done) | (simp only [List.length_append, List.length_cons, List.length_nil, List.length_replicate, sl_len, be_len, sha_len, hmac_len, ex1_len, ex2_len, stretch_len, zer8_len, tC_len, tag1_len, bnN_len, xkp_len]; omega))) (fun r M_20 hq => ?_)
  obtain ⟨rfl, p_20_0, kp_20⟩ := hq
  refine T_eq (pc' := 83) (L' := [(0, .ref 373), (1, .ref p), (2, .int (nI n))]) (st' := []) (M' := M_20) rfl rfl rfl rfl ?_
  have p_22 : BF M_20 (upd (w') 70 (nI ((l ++ [u8 (nI (l.length))]).length))) (((zer8 128) ++ sl s 0 n) ++ [0, 64]) := (by have g := p_20_0; rw [show bnN (nI 64) 2 = [0, 64] from by decide] at g; exact g)
  refine T_aload_n (v := .ref 373) d_Mo_stretch_83 rfl (Or.inr ⟨_, rfl⟩) ?_
  refine T_iconst (v := nI 0) d_Mo_stretch_84 (by decide) ?_
  obtain ⟨v_24, hov_24, hwv_24, hsv_24, hiv_24⟩ := id p_22
  refine T_virtual (as := [.int (nI 0)]) (rest := []) (b := 373) d_Mo_stretch_85 rfl (jw_Mo_one.jo (by decide)) lm_Mo_11 ji_Mo_one js_Mo_one hov_24 rfl rfl rfl (Nat.le_of_ble_eq_true rfl) (by decide) (by decide) (y_Mo_one (x := (nI 0)) p_22 (by first | omega | (simp only [List.length_append, List.length_cons, List.length_nil, List.length_replicate, sl_len, be_len, sha_len, hmac_len, ex1_len, ex2_len, stretch_len, zer8_len, tC_len, tag1_len, bnN_len, xkp_len]; done) | (simp only [List.length_append, List.length_cons, List.length_nil, List.length_replicate, sl_len, be_len, sha_len, hmac_len, ex1_len, ex2_len, stretch_len, zer8_len, tC_len, tag1_len, bnN_len, xkp_len]; omega))) (fun r M_23 hq => ?_)
  obtain ⟨rfl, p_23_0, kp_23⟩ := hq
  refine T_eq (pc' := 88) (L' := [(0, .ref 373), (1, .ref p), (2, .int (nI n))]) (st' := []) (M' := M_23) rfl rfl rfl rfl ?_
  refine T_aload_n (v := .ref 373) d_Mo_stretch_88 rfl (Or.inr ⟨_, rfl⟩) ?_
  refine T_aload_n (v := .ref 373) d_Mo_stretch_89 rfl (Or.inr ⟨_, rfl⟩) ?_
  obtain ⟨v_25, hov_25, hwv_25, hsv_25, hiv_25⟩ := id p_23_0
  refine T_getfield (v := .ref 389) d_Mo_stretch_90 fg_Mo_117 hov_25 rfl ?_
  refine T_iconst (v := nI 0) d_Mo_stretch_93 (by decide) ?_
  refine T_aload_n (v := .ref 373) d_Mo_stretch_94 rfl (Or.inr ⟨_, rfl⟩) ?_
  refine N_getI (x := (v_25 70)) (y := (nI (((l ++ [u8 (nI (l.length))]).length)))) d_Mo_stretch_95 fg_Mo_114 hov_25 rfl ((hwv_25 70 (by decide)).trans (show (upd (w') 70 (nI ((l ++ [u8 (nI (l.length))]).length))) 70 = (nI (((l ++ [u8 (nI (l.length))]).length))) from rfl)) ?_
  have p_26 := (IA.kp ((IA.kp ((IA.kp ((IA.kp ((IA.kp (p_10) (Ex.kp s_15) (by decide))) hKz (by decide))) kp_18 (by decide))) kp_20 (by decide))) kp_23 (by decide))
  refine T_virtual (as := [.ref 389, .int (nI 0), .int (nI (((l ++ [u8 (nI (l.length))]).length)))]) (rest := []) (b := 373) d_Mo_stretch_98 rfl (jw_Mo_bytes.jo (by decide)) lm_Mo_76 ji_Mo_bytes js_Mo_bytes hov_25 rfl rfl rfl (Nat.le_of_ble_eq_true rfl) (by decide) (by decide) (y_Mo_bytes (at0 := 0) (n := ((l ++ [u8 (nI (l.length))]).length)) p_23_0 p_26 (by first | omega | (simp only [List.length_append, List.length_cons, List.length_nil, List.length_replicate, sl_len, be_len, sha_len, hmac_len, ex1_len, ex2_len, stretch_len, zer8_len, tC_len, tag1_len, bnN_len, xkp_len]; done) | (simp only [List.length_append, List.length_cons, List.length_nil, List.length_replicate, sl_len, be_len, sha_len, hmac_len, ex1_len, ex2_len, stretch_len, zer8_len, tC_len, tag1_len, bnN_len, xkp_len]; omega)) (by decide) (by first | omega | (simp only [List.length_append, List.length_cons, List.length_nil, List.length_replicate, sl_len, be_len, sha_len, hmac_len, ex1_len, ex2_len, stretch_len, zer8_len, tC_len, tag1_len, bnN_len, xkp_len]; done) | (simp only [List.length_append, List.length_cons, List.length_nil, List.length_replicate, sl_len, be_len, sha_len, hmac_len, ex1_len, ex2_len, stretch_len, zer8_len, tC_len, tag1_len, bnN_len, xkp_len]; omega)) (by decide) (by decide)) (fun r M_27 hq => ?_)
  obtain ⟨rfl, p_27_0, kp_27⟩ := hq
  refine T_eq (pc' := 101) (L' := [(0, .ref 373), (1, .ref p), (2, .int (nI n))]) (st' := []) (M' := M_27) rfl rfl rfl rfl ?_
  refine T_aload_n (v := .ref 373) d_Mo_stretch_101 rfl (Or.inr ⟨_, rfl⟩) ?_
  have p_28 := (MS.kp ((MS.kp ((MS.kp ((MS.kp ((MS.kp ((MS.kp (ms9) (Ex.kp s_15) (by decide))) hKz (by decide))) kp_18 (by decide))) kp_20 (by decide))) kp_23 (by decide))) kp_27 (by decide))
  obtain ⟨v_30, hov_30, hwv_30, hsv_30, hiv_30⟩ := id p_27_0
  refine T_virtual (as := []) (rest := []) (b := 373) d_Mo_stretch_102 rfl (jw_Mo_hash0.jo (by decide)) lm_Mo_80 ji_Mo_hash0 js_Mo_hash0 hov_30 rfl rfl rfl (Nat.le_of_ble_eq_true rfl) (by decide) (by decide) (g_Mo_hash0 p_28 p_27_0 (by first | omega | (simp only [List.length_append, List.length_cons, List.length_nil, List.length_replicate, sl_len, be_len, sha_len, hmac_len, ex1_len, ex2_len, stretch_len, zer8_len, tC_len, tag1_len, bnN_len, xkp_len]; done) | (simp only [List.length_append, List.length_cons, List.length_nil, List.length_replicate, sl_len, be_len, sha_len, hmac_len, ex1_len, ex2_len, stretch_len, zer8_len, tC_len, tag1_len, bnN_len, xkp_len]; omega))) (fun r M_29 hq => ?_)
  obtain ⟨rfl, p_29_0, p_29_1, p_29_2, kp_29⟩ := hq
  refine T_eq (pc' := 105) (L' := [(0, .ref 373), (1, .ref p), (2, .int (nI n))]) (st' := []) (M' := M_29) rfl rfl rfl rfl ?_
  refine T_aload_n (v := .ref 373) d_Mo_stretch_105 rfl (Or.inr ⟨_, rfl⟩) ?_
  refine T_aload_n (v := .ref 373) d_Mo_stretch_106 rfl (Or.inr ⟨_, rfl⟩) ?_
  obtain ⟨v_31, hov_31, hwv_31, hsv_31, hiv_31⟩ := id p_29_1
  refine T_getfield (v := .ref 383) d_Mo_stretch_107 fg_Mo_55 hov_31 rfl ?_
  refine T_iconst (v := nI 0) d_Mo_stretch_110 (by decide) ?_
  refine T_bipush (v := nI 64) d_Mo_stretch_111 (by decide) ?_
  refine T_virtual (as := [.ref 383, .int (nI 0), .int (nI 64)]) (rest := []) (b := 373) d_Mo_stretch_113 rfl (jw_Mo_bytes.jo (by decide)) lm_Mo_76 ji_Mo_bytes js_Mo_bytes hov_31 rfl rfl rfl (Nat.le_of_ble_eq_true rfl) (by decide) (by decide) (y_Mo_bytes (at0 := 0) (n := 64) p_29_1 p_29_2 (by first | omega | (simp only [List.length_append, List.length_cons, List.length_nil, List.length_replicate, sl_len, be_len, sha_len, hmac_len, ex1_len, ex2_len, stretch_len, zer8_len, tC_len, tag1_len, bnN_len, xkp_len]; done) | (simp only [List.length_append, List.length_cons, List.length_nil, List.length_replicate, sl_len, be_len, sha_len, hmac_len, ex1_len, ex2_len, stretch_len, zer8_len, tC_len, tag1_len, bnN_len, xkp_len]; omega)) (by decide) (by first | omega | (simp only [List.length_append, List.length_cons, List.length_nil, List.length_replicate, sl_len, be_len, sha_len, hmac_len, ex1_len, ex2_len, stretch_len, zer8_len, tC_len, tag1_len, bnN_len, xkp_len]; done) | (simp only [List.length_append, List.length_cons, List.length_nil, List.length_replicate, sl_len, be_len, sha_len, hmac_len, ex1_len, ex2_len, stretch_len, zer8_len, tC_len, tag1_len, bnN_len, xkp_len]; omega)) (by decide) (by decide)) (fun r M_32 hq => ?_)
  obtain ⟨rfl, p_32_0, kp_32⟩ := hq
  refine T_eq (pc' := 116) (L' := [(0, .ref 373), (1, .ref p), (2, .int (nI n))]) (st' := []) (M' := M_32) rfl rfl rfl rfl ?_
  refine T_aload_n (v := .ref 373) d_Mo_stretch_116 rfl (Or.inr ⟨_, rfl⟩) ?_
  refine T_iconst (v := nI 1) d_Mo_stretch_117 (by decide) ?_
  obtain ⟨v_34, hov_34, hwv_34, hsv_34, hiv_34⟩ := id p_32_0
  refine T_virtual (as := [.int (nI 1)]) (rest := []) (b := 373) d_Mo_stretch_118 rfl (jw_Mo_one.jo (by decide)) lm_Mo_11 ji_Mo_one js_Mo_one hov_34 rfl rfl rfl (Nat.le_of_ble_eq_true rfl) (by decide) (by decide) (y_Mo_one (x := (nI 1)) p_32_0 (by first | omega | (simp only [List.length_append, List.length_cons, List.length_nil, List.length_replicate, sl_len, be_len, sha_len, hmac_len, ex1_len, ex2_len, stretch_len, zer8_len, tC_len, tag1_len, bnN_len, xkp_len]; done) | (simp only [List.length_append, List.length_cons, List.length_nil, List.length_replicate, sl_len, be_len, sha_len, hmac_len, ex1_len, ex2_len, stretch_len, zer8_len, tC_len, tag1_len, bnN_len, xkp_len]; omega))) (fun r M_33 hq => ?_)
  obtain ⟨rfl, p_33_0, kp_33⟩ := hq
  refine T_eq (pc' := 121) (L' := [(0, .ref 373), (1, .ref p), (2, .int (nI n))]) (st' := []) (M' := M_33) rfl rfl rfl rfl ?_
  refine T_aload_n (v := .ref 373) d_Mo_stretch_121 rfl (Or.inr ⟨_, rfl⟩) ?_
  refine T_aload_n (v := .ref 373) d_Mo_stretch_122 rfl (Or.inr ⟨_, rfl⟩) ?_
  obtain ⟨v_35, hov_35, hwv_35, hsv_35, hiv_35⟩ := id p_33_0
  refine T_getfield (v := .ref 389) d_Mo_stretch_123 fg_Mo_117 hov_35 rfl ?_
  refine T_iconst (v := nI 0) d_Mo_stretch_126 (by decide) ?_
  refine T_aload_n (v := .ref 373) d_Mo_stretch_127 rfl (Or.inr ⟨_, rfl⟩) ?_
  refine N_getI (x := (v_35 70)) (y := (nI (((l ++ [u8 (nI (l.length))]).length)))) d_Mo_stretch_128 fg_Mo_114 hov_35 rfl ((hwv_35 70 (by decide)).trans (show (upd (w') 70 (nI ((l ++ [u8 (nI (l.length))]).length))) 70 = (nI (((l ++ [u8 (nI (l.length))]).length))) from rfl)) ?_
  have p_36 := (IA.kp ((IA.kp ((IA.kp ((IA.kp (p_26) kp_27 (by decide))) kp_29 (by decide))) kp_32 (by decide))) kp_33 (by decide))
  refine T_virtual (as := [.ref 389, .int (nI 0), .int (nI (((l ++ [u8 (nI (l.length))]).length)))]) (rest := []) (b := 373) d_Mo_stretch_131 rfl (jw_Mo_bytes.jo (by decide)) lm_Mo_76 ji_Mo_bytes js_Mo_bytes hov_35 rfl rfl rfl (Nat.le_of_ble_eq_true rfl) (by decide) (by decide) (y_Mo_bytes (at0 := 0) (n := ((l ++ [u8 (nI (l.length))]).length)) p_33_0 p_36 (by first | omega | (simp only [List.length_append, List.length_cons, List.length_nil, List.length_replicate, sl_len, be_len, sha_len, hmac_len, ex1_len, ex2_len, stretch_len, zer8_len, tC_len, tag1_len, bnN_len, xkp_len]; done) | (simp only [List.length_append, List.length_cons, List.length_nil, List.length_replicate, sl_len, be_len, sha_len, hmac_len, ex1_len, ex2_len, stretch_len, zer8_len, tC_len, tag1_len, bnN_len, xkp_len]; omega)) (by decide) (by first | omega | (simp only [List.length_append, List.length_cons, List.length_nil, List.length_replicate, sl_len, be_len, sha_len, hmac_len, ex1_len, ex2_len, stretch_len, zer8_len, tC_len, tag1_len, bnN_len, xkp_len]; done) | (simp only [List.length_append, List.length_cons, List.length_nil, List.length_replicate, sl_len, be_len, sha_len, hmac_len, ex1_len, ex2_len, stretch_len, zer8_len, tC_len, tag1_len, bnN_len, xkp_len]; omega)) (by decide) (by decide)) (fun r M_37 hq => ?_)
  obtain ⟨rfl, p_37_0, kp_37⟩ := hq
  refine T_eq (pc' := 134) (L' := [(0, .ref 373), (1, .ref p), (2, .int (nI n))]) (st' := []) (M' := M_37) rfl rfl rfl rfl ?_
  refine T_aload_n (v := .ref 373) d_Mo_stretch_134 rfl (Or.inr ⟨_, rfl⟩) ?_
  have p_38 := (MS.kp ((MS.kp ((MS.kp (p_29_0) kp_32 (by decide))) kp_33 (by decide))) kp_37 (by decide))
  obtain ⟨v_40, hov_40, hwv_40, hsv_40, hiv_40⟩ := id p_37_0
  refine T_virtual (as := []) (rest := []) (b := 373) d_Mo_stretch_135 rfl (jw_Mo_hash0.jo (by decide)) lm_Mo_80 ji_Mo_hash0 js_Mo_hash0 hov_40 rfl rfl rfl (Nat.le_of_ble_eq_true rfl) (by decide) (by decide) (g_Mo_hash0 p_38 p_37_0 (by first | omega | (simp only [List.length_append, List.length_cons, List.length_nil, List.length_replicate, sl_len, be_len, sha_len, hmac_len, ex1_len, ex2_len, stretch_len, zer8_len, tC_len, tag1_len, bnN_len, xkp_len]; done) | (simp only [List.length_append, List.length_cons, List.length_nil, List.length_replicate, sl_len, be_len, sha_len, hmac_len, ex1_len, ex2_len, stretch_len, zer8_len, tC_len, tag1_len, bnN_len, xkp_len]; omega))) (fun r M_39 hq => ?_)
  obtain ⟨rfl, p_39_0, p_39_1, p_39_2, kp_39⟩ := hq
  refine T_eq (pc' := 138) (L' := [(0, .ref 373), (1, .ref p), (2, .int (nI n))]) (st' := []) (M' := M_39) rfl rfl rfl rfl ?_
  have p_41 : IA M_39 383 64 (str2 (sl s 0 n) (l ++ [u8 (nI l.length)])) := (by have g := p_39_2; rw [sl64 (sha_len _), sl_all, u8_0, u8_1] at g; exact g)
  exact T_vret d_Mo_stretch_138 rfl (by decide) (by decide) ⟨rfl, p_39_0, BF.bg p_39_1 (fun j hj => by unfold upd; rw [if_neg (by omega)]; exact e j hj), p_41, (Kp.tr (Kp.tr (Kp.tr (Kp.tr (Kp.tr (Kp.tr (Kp.tr (Kp.tr (Kp.tr (Kp.tr (Kp.ex (Kp.tr (Kp.ex (Kp.tr (Kp.rf : Kp [373, 374, 380, 382, 381, 383, 389] M M) (Kp.mono kp_2 (by decide))) s_6 (by decide)) (Kp.mono hK9 (by decide))) s_15 (by decide)) (Kp.mono hKz (by decide))) (Kp.mono kp_18 (by decide))) (Kp.mono kp_20 (by decide))) (Kp.mono kp_23 (by decide))) (Kp.mono kp_27 (by decide))) (Kp.mono kp_29 (by decide))) (Kp.mono kp_32 (by decide))) (Kp.mono kp_33 (by decide))) (Kp.mono kp_37 (by decide))) (Kp.mono kp_39 (by decide)))⟩
theorem tC_1 (tag : List UInt8) (h : tag.length ≤ 200) : tC tag ++ [u8 (nI (tC tag).length)] = tag1 tag := by
  unfold tag1; rw [tC_len, u8_nI (by omega)]
theorem str2_1 (a tag : List UInt8) (h : tag.length ≤ 200) : str2 a (tC tag ++ [u8 (nI (tC tag).length)]) = stretch a tag := by rw [tC_1 tag h]; rfl
set_option maxHeartbeats 8000000 in
theorem b_Mo_label {G : GX} {M : List va_E} {w : Nat → Int32} {n : Nat} {l : List UInt8} (h : BG M w l) (hl : l.length ≤ 3000) : CT G mi_Mo_label [.ref 373, .int (nI n)] M (fun r M' => r = none ∧ BG M' w (l ++ ([0, 64] ++ ([u8 (nI (7 + n))] ++ [79, 80, 65, 81, 85, 69, 45]))) ∧ Kp [373, 374] M M') := by
  refine CT.of (by decide) (Nat.le_of_ble_eq_true rfl) ?_
  show TT G mi_Mo_label 0 [(0, .ref 373), (1, .int (nI n))] [] M 0 0 _
  refine T_aload_n (v := .ref 373) d_Mo_label_0 rfl (Or.inr ⟨_, rfl⟩) ?_
  refine T_bipush (v := nI 64) d_Mo_label_1 (by decide) ?_
  refine T_iconst (v := nI 2) d_Mo_label_3 (by decide) ?_
  obtain ⟨v_2, hov_2, hwv_2, hsv_2, hiv_2⟩ := id h
  refine T_virtual (as := [.int (nI 64), .int (nI 2)]) (rest := []) (b := 373) d_Mo_label_4 rfl (jw_Mo_number.jo (by decide)) lm_Mo_120 ji_Mo_number js_Mo_number hov_2 rfl rfl rfl (Nat.le_of_ble_eq_true rfl) (by decide) (by decide) (b_Mo_number (v := (nI 64)) (c := 2) h (by decide) (by first | omega | (simp only [List.length_append, List.length_cons, List.length_nil, List.length_replicate, sl_len, be_len, sha_len, hmac_len, ex1_len, ex2_len, stretch_len, zer8_len, tC_len, tag1_len, bnN_len, xkp_len]; done) | (simp only [List.length_append, List.length_cons, List.length_nil, List.length_replicate, sl_len, be_len, sha_len, hmac_len, ex1_len, ex2_len, stretch_len, zer8_len, tC_len, tag1_len, bnN_len, xkp_len]; omega))) (fun r M_1 hq => ?_)
  obtain ⟨rfl, p_1_0, kp_1⟩ := hq
  refine T_eq (pc' := 7) (L' := [(0, .ref 373), (1, .int (nI n))]) (st' := []) (M' := M_1) rfl rfl rfl rfl ?_
  have p_3 : BG M_1 w (l ++ [0, 64]) := (by have g := p_1_0; rw [show bnN (nI 64) 2 = [0, 64] from by decide] at g; exact g)
  refine T_aload_n (v := .ref 373) d_Mo_label_7 rfl (Or.inr ⟨_, rfl⟩) ?_
  refine T_bipush (v := nI 7) d_Mo_label_8 (by decide) ?_
  refine T_iload_n d_Mo_label_10 rfl ?_
  refine N_iadd (a := n) (b := 7) (c := (7 + n)) d_Mo_label_11 rfl ?_
  obtain ⟨v_5, hov_5, hwv_5, hsv_5, hiv_5⟩ := id p_3
  refine T_virtual (as := [.int (nI ((7 + n)))]) (rest := []) (b := 373) d_Mo_label_12 rfl (jw_Mo_one.jo (by decide)) lm_Mo_11 ji_Mo_one js_Mo_one hov_5 rfl rfl rfl (Nat.le_of_ble_eq_true rfl) (by decide) (by decide) (b_Mo_one (x := (nI ((7 + n)))) p_3 (by first | omega | (simp only [List.length_append, List.length_cons, List.length_nil, List.length_replicate, sl_len, be_len, sha_len, hmac_len, ex1_len, ex2_len, stretch_len, zer8_len, tC_len, tag1_len, bnN_len, xkp_len]; done) | (simp only [List.length_append, List.length_cons, List.length_nil, List.length_replicate, sl_len, be_len, sha_len, hmac_len, ex1_len, ex2_len, stretch_len, zer8_len, tC_len, tag1_len, bnN_len, xkp_len]; omega))) (fun r M_4 hq => ?_)
  obtain ⟨rfl, p_4_0, kp_4⟩ := hq
  refine T_eq (pc' := 15) (L' := [(0, .ref 373), (1, .int (nI n))]) (st' := []) (M' := M_4) rfl rfl rfl rfl ?_
  refine T_aload_n (v := .ref 373) d_Mo_label_15 rfl (Or.inr ⟨_, rfl⟩) ?_
  refine T_ldc2 d_Mo_label_16 kJ_Mo_555 ?_
  obtain ⟨v_7, hov_7, hwv_7, hsv_7, hiv_7⟩ := id p_4_0
  refine T_virtual (as := [.long 22324764627780909]) (rest := []) (b := 373) d_Mo_label_19 rfl (jw_Mo_letters.jo (by decide)) lm_Mo_104 ji_Mo_letters js_Mo_letters hov_7 rfl rfl rfl (Nat.le_of_ble_eq_true rfl) (by decide) (by decide) (b_Mo_letters p_4_0 (by first | omega | (simp only [List.length_append, List.length_cons, List.length_nil, List.length_replicate, sl_len, be_len, sha_len, hmac_len, ex1_len, ex2_len, stretch_len, zer8_len, tC_len, tag1_len, bnN_len, xkp_len]; done) | (simp only [List.length_append, List.length_cons, List.length_nil, List.length_replicate, sl_len, be_len, sha_len, hmac_len, ex1_len, ex2_len, stretch_len, zer8_len, tC_len, tag1_len, bnN_len, xkp_len]; omega))) (fun r M_6 hq => ?_)
  obtain ⟨rfl, p_6_0, kp_6⟩ := hq
  refine T_eq (pc' := 22) (L' := [(0, .ref 373), (1, .int (nI n))]) (st' := []) (M' := M_6) rfl rfl rfl rfl ?_
  have p_8 : BG M_6 w (((l ++ [0, 64]) ++ [u8 (nI ((7 + n)))]) ++ [79, 80, 65, 81, 85, 69, 45]) := (by have g := p_6_0; rw [show lts 22324764627780909 = [79, 80, 65, 81, 85, 69, 45] from by decide +kernel] at g; exact g)
  have p_9 : BG M_6 w (l ++ ([0, 64] ++ ([u8 (nI (7 + n))] ++ [79, 80, 65, 81, 85, 69, 45]))) := (by have g := p_8; simp only [List.append_assoc] at g; exact g)
  exact T_vret d_Mo_label_22 rfl (by decide) (by decide) ⟨rfl, p_9, (Kp.tr (Kp.tr (Kp.tr (Kp.rf : Kp [373, 374] M M) (Kp.mono kp_1 (by decide))) (Kp.mono kp_4 (by decide))) (Kp.mono kp_6 (by decide)))⟩
def dg (x k : Nat) : Nat := x / 65536 ^ k % 65536
theorem dg_lt (x k : Nat) : dg x k < 65536 := Nat.mod_lt _ (by decide)
theorem pw_pos (k : Nat) : 0 < 65536 ^ k := Nat.pow_pos (by decide)
theorem dv_s (x k : Nat) : x / 65536 ^ (k + 1) = x / 65536 ^ k / 65536 := by rw [Nat.pow_succ, Nat.div_div_eq_div_mul]
theorem md_s (x k : Nat) : x % 65536 ^ (k + 1) = x % 65536 ^ k + 65536 ^ k * dg x k := by rw [Nat.pow_succ, Nat.mod_mul]; rfl
def cin (R b k : Nat) : Nat := (2 * (R % 65536 ^ k) + b) / 65536 ^ k
theorem cin_0 (R b : Nat) : cin R b 0 = b := by unfold cin; rw [Nat.pow_zero, Nat.mod_one, Nat.div_one]; omega
theorem cin_lt {R b k : Nat} (hb : b < 2) : cin R b k < 2 := by
  unfold cin
  have h := Nat.mod_lt R (pw_pos k)
  rw [Nat.div_lt_iff_lt_mul (pw_pos k)]
  omega
theorem dv_sh (R b k : Nat) : (2 * R + b) / 65536 ^ k = 2 * (R / 65536 ^ k) + cin R b k := by
  unfold cin
  have e : 2 * R + b = 65536 ^ k * (2 * (R / 65536 ^ k)) + (2 * (R % 65536 ^ k) + b) := by
    have := Nat.div_add_mod R (65536 ^ k)
    rw [Nat.mul_left_comm]; omega
  conv => lhs; rw [e]
  rw [Nat.mul_add_div (pw_pos k)]
theorem dg_sh (R b k : Nat) : dg (2 * R + b) k = (2 * dg R k + cin R b k) % 65536 := by
  unfold dg; rw [dv_sh]; omega
theorem cin_s (R b k : Nat) : cin R b (k + 1) = (2 * dg R k + cin R b k) / 65536 := by
  have h : (2 * (R % 65536 ^ (k + 1)) + b) / 65536 ^ (k + 1) = ((2 * (R % 65536 ^ k) + b) + 65536 ^ k * (2 * dg R k)) / 65536 ^ k / 65536 := by
    rw [dv_s, md_s]
    congr 2
    rw [Nat.mul_left_comm (65536 ^ k)]; omega
  unfold cin
  rw [h, Nat.add_mul_div_left _ _ (pw_pos k), Nat.add_comm]
def bor (R q k : Nat) : Nat := if R % 65536 ^ k < q % 65536 ^ k then 1 else 0
theorem bor_0 (R q : Nat) : bor R q 0 = 0 := by unfold bor; rw [Nat.pow_zero, Nat.mod_one, Nat.mod_one]; rfl
theorem bor_s (R q k : Nat) : bor R q (k + 1) = if (dg R k : Int) - (dg q k : Int) - (bor R q k : Int) < 0 then 1 else 0 := by
  unfold bor
  rw [md_s, md_s]
  have h1 := Nat.mod_lt R (pw_pos k)
  have h2 := Nat.mod_lt q (pw_pos k)
  generalize R % 65536 ^ k = L at *
  generalize q % 65536 ^ k = L' at *
  generalize 65536 ^ k = P at *
  generalize dg R k = d at *
  generalize dg q k = d' at *
  rcases Nat.lt_trichotomy d d' with h | h | h
  · have := Nat.mul_le_mul_left P (show d + 1 ≤ d' from h)
    rw [Nat.mul_add] at this
    rw [if_pos (by omega), if_pos (by split <;> omega)]
  · subst h
    by_cases c : L < L'
    · rw [if_pos (by omega), if_pos c, if_pos (by omega)]
    · rw [if_neg (by omega), if_neg c, if_neg (by omega)]
  · have := Nat.mul_le_mul_left P (show d' + 1 ≤ d from h)
    rw [Nat.mul_add] at this
    rw [if_neg (by omega), if_neg (by split <;> omega)]
set_option maxHeartbeats 8000000 in
theorem dg_sub {R q : Nat} (h : q ≤ R) (k : Nat) : ((dg (R - q) k : Nat) : Int) = ((dg R k : Int) - (dg q k : Int) - (bor R q k : Int)) % 65536 := by
  have e1 := Nat.div_add_mod R (65536 ^ k)
  have e2 := Nat.div_add_mod q (65536 ^ k)
  have h1 := Nat.mod_lt R (pw_pos k)
  have h2 := Nat.mod_lt q (pw_pos k)
  unfold bor dg
  generalize R % 65536 ^ k = L at *
  generalize q % 65536 ^ k = L' at *
  have key : (R - q) / 65536 ^ k = R / 65536 ^ k - q / 65536 ^ k - (if L < L' then 1 else 0) ∧ q / 65536 ^ k + (if L < L' then 1 else 0) ≤ R / 65536 ^ k := by
    generalize hQ : R / 65536 ^ k = Q at *
    generalize hQ' : q / 65536 ^ k = Q' at *
    generalize hP : 65536 ^ k = P at *
    have hP0 : 0 < P := hP ▸ pw_pos k
    by_cases c : L < L'
    · rw [if_pos c]
      have hlt : Q' + 1 ≤ Q := by
        apply Classical.byContradiction; intro n
        have := Nat.mul_le_mul_left P (show Q ≤ Q' by omega)
        omega
      refine ⟨?_, hlt⟩
      obtain ⟨d, rfl⟩ : ∃ d, Q = Q' + 1 + d := ⟨Q - (Q' + 1), by omega⟩
      have : R - q = P * d + (L + P - L') := by
        rw [Nat.mul_add, Nat.mul_add] at e1; omega
      rw [this, Nat.mul_add_div hP0, Nat.div_eq_of_lt (by omega)]; omega
    · rw [if_neg c]
      have hle : Q' ≤ Q := by
        apply Classical.byContradiction; intro n
        have := Nat.mul_le_mul_left P (show Q + 1 ≤ Q' by omega)
        rw [Nat.mul_add] at this
        omega
      refine ⟨?_, hle⟩
      obtain ⟨d, rfl⟩ : ∃ d, Q = Q' + d := ⟨Q - Q', by omega⟩
      have : R - q = P * d + (L - L') := by
        rw [Nat.mul_add] at e1; omega
      rw [this, Nat.mul_add_div hP0, Nat.div_eq_of_lt (by omega)]; omega
  obtain ⟨k1, k2⟩ := key
  rw [k1]
  split at k2 <;> rename_i c
  · rw [if_pos c]; omega
  · rw [if_neg c]; omega
theorem cmq_lt {R q k : Nat} (h : R / 65536 ^ (k + 1) = q / 65536 ^ (k + 1)) (d : dg R k < dg q k) : R < q := by
  rw [dv_s, dv_s] at h
  unfold dg at d
  exact Nat.lt_of_div_lt_div (c := 65536 ^ k) (by omega)
theorem cmq_ge {R q k : Nat} (h : R / 65536 ^ (k + 1) = q / 65536 ^ (k + 1)) (c : R < q) (n : ¬ dg R k = dg q k) : dg R k < dg q k := by
  apply Classical.byContradiction; intro e
  exact absurd (cmq_lt h.symm (show dg q k < dg R k by omega)) (by omega)
theorem cmq_eq {R q k : Nat} (h : R / 65536 ^ (k + 1) = q / 65536 ^ (k + 1)) (d : dg R k = dg q k) : R / 65536 ^ k = q / 65536 ^ k := by
  rw [dv_s, dv_s] at h
  unfold dg at d
  omega
theorem cmq_0 {R q : Nat} (h : R / 65536 ^ 0 = q / 65536 ^ 0) : ¬ R < q := by
  rw [Nat.pow_zero, Nat.div_one, Nat.div_one] at h; omega
theorem rdv_s (V q b : Nat) (hq : 0 < q) : V / 2 ^ b % q = if 2 * (V / 2 ^ (b + 1) % q) + V / 2 ^ b % 2 < q then 2 * (V / 2 ^ (b + 1) % q) + V / 2 ^ b % 2 else 2 * (V / 2 ^ (b + 1) % q) + V / 2 ^ b % 2 - q := by
  have e : V / 2 ^ (b + 1) = V / 2 ^ b / 2 := by rw [Nat.pow_succ, Nat.div_div_eq_div_mul]
  rw [e]
  generalize V / 2 ^ b = X
  have h1 : X = 2 * (X / 2) + X % 2 := (Nat.div_add_mod X 2).symm
  have h2 := Nat.mod_lt (X / 2) hq
  have h3 : X % q = (2 * (X / 2 % q) + X % 2) % q := by
    generalize hY : X / 2 = Y at *
    have e2 : X = q * (2 * (Y / q)) + (2 * (Y % q) + X % 2) := by
      have := Nat.div_add_mod Y q
      rw [Nat.mul_left_comm]; omega
    conv => lhs; rw [e2]
    rw [Nat.mul_add_mod]
  rw [h3]
  split
  · rename_i c; exact Nat.mod_eq_of_lt c
  · rename_i c; rw [Nat.mod_eq_sub_mod (by omega)]; exact Nat.mod_eq_of_lt (by omega)
theorem dg_hi {x k : Nat} (h : x < 65536 ^ k) : dg x k = 0 := by unfold dg; rw [Nat.div_eq_of_lt h]
theorem dg_lo {x y k j : Nat} (h : j < k) : dg (x + y * 65536 ^ k) j = dg x j := by
  unfold dg
  obtain ⟨d, rfl⟩ : ∃ d, k = j + (d + 1) := ⟨k - j - 1, by omega⟩
  rw [Nat.pow_add, Nat.pow_succ 65536 d, show y * (65536 ^ j * (65536 ^ d * 65536)) = 65536 ^ j * (65536 * (y * 65536 ^ d)) by
    rw [Nat.mul_left_comm y, Nat.mul_comm (65536 ^ d), Nat.mul_left_comm y], Nat.add_mul_div_left _ _ (pw_pos j), Nat.add_mul_mod_self_left]
theorem p256 (k : Nat) : 256 ^ k = 256 ^ (k % 2) * 65536 ^ (k / 2) := by
  conv => lhs; rw [← Nat.mod_add_div k 2, Nat.pow_add, Nat.pow_mul]
theorem by_o {x b k j : Nat} (hx : x < 256 ^ k) (hb : b < 256) (hj : j ≠ k / 2) : dg (x + b * 256 ^ k) j = dg x j := by
  rcases Nat.lt_or_gt_of_ne hj with h | h
  · rw [p256, ← Nat.mul_assoc]; exact dg_lo h
  · have hp : 256 ^ (k + 1) ≤ 65536 ^ j := by
      rw [show (65536 : Nat) = 256 ^ 2 from rfl, ← Nat.pow_mul]; exact Nat.pow_le_pow_right (by decide) (by omega)
    have h1 : x + b * 256 ^ k < 256 ^ (k + 1) := by
      have := Nat.mul_le_mul_right (256 ^ k) (show b ≤ 255 by omega)
      rw [Nat.pow_succ]; omega
    rw [dg_hi (Nat.lt_of_lt_of_le h1 hp), dg_hi (Nat.lt_of_lt_of_le (Nat.lt_of_le_of_lt (Nat.le_add_right _ _) h1) hp)]
theorem by_m {x b k : Nat} (hx : x < 256 ^ k) (hb : b < 256) : dg (x + b * 256 ^ k) (k / 2) = dg x (k / 2) + b * 256 ^ (k % 2) := by
  have h1 : x / 65536 ^ (k / 2) < 256 ^ (k % 2) := by rw [Nat.div_lt_iff_lt_mul (pw_pos _), ← p256]; exact hx
  unfold dg
  have e : x + b * 256 ^ k = x + 65536 ^ (k / 2) * (b * 256 ^ (k % 2)) := by rw [p256 k, Nat.mul_comm (65536 ^ (k / 2)), Nat.mul_assoc]
  rw [e, Nat.add_mul_div_left _ _ (pw_pos _)]
  generalize x / 65536 ^ (k / 2) = y at *
  have : k % 2 = 0 ∨ k % 2 = 1 := by omega
  rcases this with c | c <;> rw [c] at h1 ⊢ <;> omega
def sN (u : Nat → Nat) : Nat → Nat
  | 0 => 0
  | n + 1 => sN u n + u n * 65536 ^ n
def uN (u : Nat → Nat) (k d : Nat) : Nat → Nat := fun i => if i = k then d else u i
theorem uN_s (u : Nat → Nat) (k d : Nat) : uN u k d k = d := if_pos rfl
theorem uN_n {u : Nat → Nat} {k d i : Nat} (h : i ≠ k) : uN u k d i = u i := if_neg h
theorem sN_lo {u : Nat → Nat} {k d : Nat} : ∀ n, n ≤ k → sN (uN u k d) n = sN u n
  | 0, _ => rfl
  | n + 1, h => by
    show sN (uN u k d) n + uN u k d n * 65536 ^ n = _
    rw [sN_lo n (by omega), uN_n (by omega)]; rfl
theorem sN_up {u : Nat → Nat} {k d : Nat} : ∀ n, k < n → sN (uN u k d) n + u k * 65536 ^ k = sN u n + d * 65536 ^ k
  | 0, h => absurd h (Nat.not_lt_zero _)
  | n + 1, h => by
    show sN (uN u k d) n + uN u k d n * 65536 ^ n + _ = sN u n + u n * 65536 ^ n + _
    by_cases c : k = n
    · subst c; rw [sN_lo k (Nat.le_refl k), uN_s]; omega
    · have := sN_up (u := u) (k := k) (d := d) n (by omega)
      rw [uN_n (Ne.symm c)]; omega
theorem sN_dg (x : Nat) : ∀ n, sN (dg x) n = x % 65536 ^ n
  | 0 => by rw [Nat.pow_zero, Nat.mod_one]; rfl
  | n + 1 => by
    show sN (dg x) n + dg x n * 65536 ^ n = _
    rw [sN_dg x n, md_s, Nat.mul_comm]
theorem sN_lt {u : Nat → Nat} : ∀ n, (∀ i, i < n → u i < 65536) → sN u n < 65536 ^ n
  | 0, _ => Nat.one_pos
  | n + 1, h => by
    have h1 := sN_lt n (fun i hi => h i (by omega))
    have h2 := Nat.mul_le_mul_right (65536 ^ n) (show u n ≤ 65535 from by have := h n (by omega); omega)
    show sN u n + u n * 65536 ^ n < _
    rw [Nat.pow_succ]; omega
theorem sN_un {u : Nat → Nat} : ∀ n, (∀ i, i < n → u i < 65536) → ∀ i, i < n → u i = dg (sN u n) i
  | 0, _, i, hi => absurd hi (Nat.not_lt_zero i)
  | n + 1, h, i, hi => by
    show u i = dg (sN u n + u n * 65536 ^ n) i
    have h1 := sN_lt n (fun i hi => h i (by omega))
    by_cases c : i = n
    · subst c
      unfold dg
      rw [Nat.add_mul_div_right _ _ (pw_pos i), Nat.div_eq_of_lt h1, Nat.zero_add, Nat.mod_eq_of_lt (h i (by omega))]
    · rw [dg_lo (by omega)]; exact sN_un n (fun i hi => h i (by omega)) i (by omega)
theorem sN_top {u : Nat → Nat} {n V : Nat} (h : sN u (n + 1) = V) (hV : V < 65536 ^ (n + 1)) : u n < 65536 := by
  apply Classical.byContradiction; intro c
  have := Nat.mul_le_mul_right (65536 ^ n) (show 65536 ≤ u n by omega)
  have h2 : sN u n + u n * 65536 ^ n = V := h
  rw [Nat.pow_succ] at hV; omega
theorem on64 {n : Nat} (h : n < 2 ^ 63) : (Int64.ofNat n).toInt = (n : Int) := by
  apply i64_of _ h
  show (BitVec.ofNat 64 n).toNat = n
  rw [BitVec.toNat_ofNat]; omega
theorem on_eq {z : Int64} {n : Nat} (h : z.toInt = (n : Int)) (hn : n < 2 ^ 63) : z = Int64.ofNat n := Int64.toInt_inj.mp (h.trans (on64 hn).symm)
theorem sh1_or {u c : Int64} {d e : Nat} (hu : u.toInt = (d : Int)) (hc : c.toInt = (e : Int)) (hd : d < 65536) (he : e < 2) : ((u <<< ((nI 1).toInt64 &&& 63)) ||| c).toInt = ((2 * d + e : Nat) : Int) := by
  have h1 : u.toBitVec.toNat = d := by have := i64_nn (z := u) (by omega); omega
  have h2 : c.toBitVec.toNat = e := by have := i64_nn (z := c) (by omega); omega
  apply i64_of _ (by omega)
  have e1 : ((u <<< ((nI 1).toInt64 &&& 63)) ||| c).toBitVec = (u.toBitVec <<< 1) ||| c.toBitVec := rfl
  rw [e1, BitVec.toNat_or, BitVec.toNat_shiftLeft, h1, h2, Nat.mod_eq_of_lt (by rw [Nat.shiftLeft_eq]; omega), ← Nat.shiftLeft_add_eq_or_of_lt (by omega), Nat.shiftLeft_eq]
  omega
theorem n16 : (((nI 16).toInt64 &&& 63).toBitVec.smod 64).toNat = 16 := by decide
theorem lcq_e {a b : Int64} (h : a = b) : lg_cmp a b = 0 := by
  subst h; unfold lg_cmp; rw [if_neg (by rw [gt_iff_lt, Int64.lt_iff_toInt_lt]; omega), if_pos rfl]
theorem lcq_n {a b : Int64} (h : ¬ a = b) : ¬ lg_cmp a b = 0 := by
  unfold lg_cmp
  split
  · decide
  · first | decide | (rw [if_neg h]; decide)
theorem lcq_lt {a b : Int64} (h : a < b) : ¬ 0 ≤ lg_cmp a b := by
  rw [Int64.lt_iff_toInt_lt] at h
  unfold lg_cmp
  rw [if_neg (by rw [gt_iff_lt, Int64.lt_iff_toInt_lt]; omega), if_neg (by intro c; rw [c] at h; omega)]; decide
theorem lcq_ge {a b : Int64} (h : ¬ a < b) : 0 ≤ lg_cmp a b := by
  unfold lg_cmp
  split
  · decide
  · rename_i c
    rw [if_pos (by rw [gt_iff_lt, Int64.lt_iff_toInt_lt] at c; rw [Int64.lt_iff_toInt_lt] at h; exact Int64.toInt_inj.mp (by omega))]; decide
theorem lzq_lt {a : Int64} (h : a.toInt < 0) : ¬ 0 ≤ lg_cmp a 0 := lcq_lt (by rw [Int64.lt_iff_toInt_lt]; exact h)
theorem lzq_ge {a : Int64} (h : ¬ a.toInt < 0) : 0 ≤ lg_cmp a 0 := lcq_ge (by rw [Int64.lt_iff_toInt_lt]; exact h)
def DL (f : Nat → Int64) (n x : Nat) : Prop := ∀ k, k < n → (f k).toInt = ((dg x k : Nat) : Int)
def DS (f : Nat → Int64) (R b k : Nat) : Prop := ∀ i, i < 17 → (f i).toInt = ((if i < k then dg (2 * R + b) i else dg R i : Nat) : Int)
theorem DS_0 {f : Nat → Int64} {R b : Nat} (h : DL f 17 R) : DS f R b 0 := fun i hi => by rw [if_neg (by omega)]; exact h i hi
theorem DS_e {f : Nat → Int64} {R b : Nat} (h : DS f R b 17) : DL f 17 (2 * R + b) := fun i hi => by rw [h i hi, if_pos hi]
theorem DS_v {f : Nat → Int64} {R b k : Nat} (h : DS f R b k) (hk : k < 17) (hb : b < 2) : ((f k <<< ((nI 1).toInt64 &&& 63)) ||| Int64.ofNat (cin R b k)).toInt = ((2 * dg R k + cin R b k : Nat) : Int) := by
  have c := cin_lt (R := R) (k := k) hb
  have d := dg_lt R k
  exact sh1_or (by rw [h k hk, if_neg (by omega)]) (on64 (by omega)) d c
theorem DS_s {f : Nat → Int64} {R b k : Nat} (h : DS f R b k) (hk : k < 17) (hb : b < 2) : DS (vp_updL f k (((f k <<< ((nI 1).toInt64 &&& 63)) ||| Int64.ofNat (cin R b k)) &&& 65535)) R b (k + 1) := fun i hi => by
  by_cases c : i = k
  · subst c
    rw [uL_s, if_pos (by omega), dg_sh, nn_and _ 16 65535 (by decide) (by decide), DS_v h hk hb]; omega
  · rw [uL_n c, h i hi]
    by_cases d : i < k
    · rw [if_pos d, if_pos (by omega)]
    · rw [if_neg d, if_neg (by omega)]
theorem DS_c {f : Nat → Int64} {R b k : Nat} (h : DS f R b k) (hk : k < 17) (hb : b < 2) : ((f k <<< ((nI 1).toInt64 &&& 63)) ||| Int64.ofNat (cin R b k)) >>> ((nI 16).toInt64 &&& 63) = Int64.ofNat (cin R b (k + 1)) := by
  have c := cin_lt (R := R) (k := k) hb
  have d := dg_lt R k
  have v := DS_v h hk hb
  apply on_eq _ (by rw [cin_s]; omega)
  rw [nn_shr n16 (n := 18) (by rw [v]; omega) (by decide), v, cin_s]
  omega
def DT (f : Nat → Int64) (R q k : Nat) : Prop := ∀ i, i < 17 → (f i).toInt = ((if i < k then dg (R - q) i else dg R i : Nat) : Int)
theorem DT_0 {f : Nat → Int64} {R q : Nat} (h : DL f 17 R) : DT f R q 0 := fun i hi => by rw [if_neg (by omega)]; exact h i hi
theorem DT_e {f : Nat → Int64} {R q : Nat} (h : DT f R q 17) : DL f 17 (R - q) := fun i hi => by rw [h i hi, if_pos hi]
theorem bor_lt (R q k : Nat) : bor R q k < 2 := by unfold bor; split <;> omega
theorem DT_v {f g : Nat → Int64} {R q k : Nat} (h : DT f R q k) (hg : DL g 17 q) (hk : k < 17) : ((f k - g k) - Int64.ofNat (bor R q k)).toInt = (dg R k : Int) - (dg q k : Int) - (bor R q k : Int) := by
  have c := bor_lt R q k
  have d := dg_lt R k
  have e := dg_lt q k
  have h1 : (f k).toInt = (dg R k : Int) := by rw [h k hk, if_neg (by omega)]
  have h2 := hg k hk
  have h3 := on64 (n := bor R q k) (by omega)
  have h4 : (f k - g k).toInt = (dg R k : Int) - (dg q k : Int) := by rw [i64_sub (by omega) (by omega)]; omega
  rw [i64_sub (by omega) (by omega)]; omega
theorem DT_s {f g : Nat → Int64} {R q k : Nat} (h : DT f R q k) (hg : DL g 17 q) (hk : k < 17) (hq : q ≤ R) : DT (vp_updL f k (((f k - g k) - Int64.ofNat (bor R q k)) &&& 65535)) R q (k + 1) := fun i hi => by
  by_cases c : i = k
  · subst c
    rw [uL_s, if_pos (by omega), dg_sub hq, nn_and _ 16 65535 (by decide) (by decide), DT_v h hg hk]
    rfl
  · rw [uL_n c, h i hi]
    by_cases d : i < k
    · rw [if_pos d, if_pos (by omega)]
    · rw [if_neg d, if_neg (by omega)]
theorem DT_b {v : Int64} {R q k : Nat} (h : v.toInt = (dg R k : Int) - (dg q k : Int) - (bor R q k : Int)) : Int64.ofNat (bor R q (k + 1)) = if v.toInt < 0 then 1 else 0 := by
  rw [bor_s, ← h]
  split <;> rfl
theorem DL_in {f g : Nat → Int64} {x y k n m : Nat} (h : DL f n x) (h' : DL g m y) (hk : k < n) (hk' : k < m) : f k = g k ↔ dg x k = dg y k := by
  rw [← Int64.toInt_inj, h k hk, h' k hk']; omega
theorem DL_lt {f g : Nat → Int64} {x y k n m : Nat} (h : DL f n x) (h' : DL g m y) (hk : k < n) (hk' : k < m) : f k < g k ↔ dg x k < dg y k := by
  rw [Int64.lt_iff_toInt_lt, h k hk, h' k hk']; omega
theorem DL_by {f : Nat → Int64} {x k : Nat} {b : UInt8} (h : DL f 32 x) (hx : x < 256 ^ k) (hk : k < 64) : DL (vp_updL f (k / 2) (f (k / 2) + ((nI b.toNat).toInt64 <<< ((nI (8 * (k % 2))).toInt64 &&& 63)))) 32 (x + b.toNat * 256 ^ k) := fun i hi => by
  have hb := b.toNat_lt
  by_cases c : i = k / 2
  · subst c
    rw [uL_s, by_m hx hb]
    have e : ((nI b.toNat).toInt64 <<< ((nI (8 * (k % 2))).toInt64 &&& 63)).toInt = ((b.toNat * 256 ^ (k % 2) : Nat) : Int) := by
      have : ∀ r, r < 2 → ∀ b, b < 256 → ((nI b).toInt64 <<< ((nI (8 * r)).toInt64 &&& 63)).toInt = ((b * 256 ^ r : Nat) : Int) := by decide +kernel
      exact this _ (by omega) _ hb
    have d := dg_lt x (k / 2)
    have h1 := h (k / 2) (by omega)
    have h3 : b.toNat * 256 ^ (k % 2) < 65536 := by
      have : k % 2 = 0 ∨ k % 2 = 1 := by omega
      rcases this with c | c <;> rw [c] <;> omega
    rw [i64_add (by omega) (by omega), e, h1, Int.natCast_add]
  · rw [uL_n c, by_o hx hb c]; exact h i hi
def LZs (f : Nat → Int64) (V b : Nat) : Prop := ∃ u : Nat → Nat, (∀ i, i < 32 → (f i).toInt = (u i : Int) ∧ u i ≤ b) ∧ sN u 32 = V
theorem LZs_add {f : Nat → Int64} {V b k : Nat} {z : Int64} {d : Nat} (h : LZs f V b) (hk : k < 32) (hz : z.toInt = (d : Int)) (hb : b + d < 2 ^ 62) : LZs (vp_updL f k (f k + z)) (V + d * 65536 ^ k) (b + d) := by
  obtain ⟨u, h1, h2⟩ := h
  refine ⟨uN u k (u k + d), fun i hi => ?_, ?_⟩
  · by_cases c : i = k
    · subst c
      have := h1 i hk
      rw [uL_s, uN_s, i64_add (by omega) (by omega)]
      omega
    · have := h1 i hi
      rw [uL_n c, uN_n c]; omega
  · have := sN_up (u := u) (k := k) (d := u k + d) 32 hk
    rw [Nat.add_mul] at this
    omega
def LZc (f : Nat → Int64) (V k : Nat) : Prop := ∃ u : Nat → Nat, (∀ i, i < 32 → (f i).toInt = (u i : Int) ∧ u i ≤ 2 ^ 50 + (if i ≤ k then 2 ^ 50 else 0)) ∧ (∀ i, i < k → u i < 65536) ∧ sN u 32 = V
theorem LZc_0 {f : Nat → Int64} {V b : Nat} (h : LZs f V b) (hb : b ≤ 2 ^ 50) : LZc f V 0 := by
  obtain ⟨u, h1, h2⟩ := h
  exact ⟨u, fun i hi => ⟨(h1 i hi).1, by have := (h1 i hi).2; split <;> omega⟩, fun i hi => absurd hi (Nat.not_lt_zero i), h2⟩
set_option maxHeartbeats 8000000 in
theorem LZc_s {f : Nat → Int64} {V k : Nat} (h : LZc f V k) (hk : k < 31) : LZc (vp_updL (vp_updL f (k + 1) (f (k + 1) + (f k >>> ((nI 16).toInt64 &&& 63)))) k ((vp_updL f (k + 1) (f (k + 1) + (f k >>> ((nI 16).toInt64 &&& 63)))) k &&& 65535)) V (k + 1) := by
  obtain ⟨u, h1, h3, h2⟩ := h
  have a := h1 k (by omega)
  have b := h1 (k + 1) (by omega)
  rw [if_pos (Nat.le_refl k)] at a
  rw [if_neg (by omega)] at b
  have s1 : (f k >>> ((nI 16).toInt64 &&& 63)).toInt = ((u k / 65536 : Nat) : Int) := by rw [nn_shr n16 (n := 52) (by omega) (by decide), a.1]; omega
  refine ⟨uN (uN u (k + 1) (u (k + 1) + u k / 65536)) k (u k % 65536), fun i hi => ?_, fun i hi => ?_, ?_⟩
  · by_cases c : i = k
    · subst c
      rw [uL_s, uN_s, uL_n (by omega), nn_and _ 16 65535 (by decide) (by decide), a.1]
      exact ⟨by omega, by split <;> omega⟩
    · rw [uL_n c, uN_n c]
      by_cases d : i = k + 1
      · subst d
        rw [uL_s, uN_s, i64_add (by omega) (by omega), s1, b.1, if_pos (Nat.le_refl _)]
        omega
      · rw [uL_n d, uN_n d]
        have := h1 i hi
        refine ⟨this.1, ?_⟩
        have t := this.2
        split at t <;> split <;> omega
  · by_cases c : i = k
    · subst c; rw [uN_s]; omega
    · rw [uN_n c, uN_n (by omega)]; exact h3 i (by omega)
  · have e1 := sN_up (u := uN u (k + 1) (u (k + 1) + u k / 65536)) (k := k) (d := u k % 65536) 32 (by omega)
    have e2 := sN_up (u := u) (k := k + 1) (d := u (k + 1) + u k / 65536) 32 (by omega)
    rw [uN_n (show k ≠ k + 1 by omega)] at e1
    have e3 : u k * 65536 ^ k = u k % 65536 * 65536 ^ k + u k / 65536 * 65536 ^ (k + 1) := by
      rw [Nat.pow_succ, Nat.mul_comm (65536 ^ k), ← Nat.mul_assoc, ← Nat.add_mul]
      congr 1; omega
    rw [Nat.add_mul] at e2
    omega
theorem LZc_e {f : Nat → Int64} {V : Nat} (h : LZc f V 31) (hV : V < 65536 ^ 32) : DL f 32 V := by
  obtain ⟨u, h1, h3, h2⟩ := h
  have t := sN_top h2 hV
  intro i hi
  rw [(h1 i hi).1, ← h2, ← sN_un 32 (fun i hi => by by_cases c : i = 31; subst c; exact t; exact h3 i (by omega)) i hi]
theorem qOr_pos : 0 < qN := by decide
theorem qOr_lt : qN < 65536 ^ 16 := by decide
theorem qL_d : ∀ t, t < 17 → (qL t).toInt = ((dg qN t : Nat) : Int) := by decide +kernel
set_option maxHeartbeats 8000000 in
theorem bitv {f : Nat → Int64} {V j R : Nat} (h : DL f 32 V) (hj : j < 512) : (f (j / 16) >>> ((nI (j % 16)).toInt64 &&& 63)) &&& 1 = Int64.ofNat (cin R (V / 2 ^ j % 2) 0) := by
  have hs : (((nI (j % 16)).toInt64 &&& 63).toBitVec.smod 64).toNat = j % 16 := by
    have : ∀ m, m < 16 → (((nI m).toInt64 &&& 63).toBitVec.smod 64).toNat = m := by decide
    exact this _ (by omega)
  have hw := h (j / 16) (by omega)
  have d := dg_lt V (j / 16)
  rw [cin_0]
  apply on_eq _ (by omega)
  rw [nn_and _ 1 1 (by decide) (by decide), nn_shr hs (n := 16) (by omega) (by decide), hw]
  have e : V / 2 ^ j = V / 65536 ^ (j / 16) / 2 ^ (j % 16) := by
    rw [Nat.div_div_eq_div_mul, show (65536 : Nat) = 2 ^ 16 from rfl, ← Nat.pow_mul, ← Nat.pow_add, Nat.div_add_mod]
  rw [e]
  unfold dg
  generalize V / 65536 ^ (j / 16) = y
  have hk : j % 16 < 16 := by omega
  generalize j % 16 = m at *
  have : m = 0 ∨ m = 1 ∨ m = 2 ∨ m = 3 ∨ m = 4 ∨ m = 5 ∨ m = 6 ∨ m = 7 ∨ m = 8 ∨ m = 9 ∨ m = 10 ∨ m = 11 ∨ m = 12 ∨ m = 13 ∨ m = 14 ∨ m = 15 := by omega
  rcases this with rfl | rfl | rfl | rfl | rfl | rfl | rfl | rfl | rfl | rfl | rfl | rfl | rfl | rfl | rfl | rfl <;> omega
theorem LZs_mo {f : Nat → Int64} {V b c : Nat} (h : LZs f V b) (hb : b ≤ c) : LZs f V c := by
  obtain ⟨u, h1, h2⟩ := h
  exact ⟨u, fun i hi => ⟨(h1 i hi).1, Nat.le_trans (h1 i hi).2 hb⟩, h2⟩
theorem LZs_0 {f : Nat → Int64} (h : ∀ i, i < 32 → f i = 0) : LZs f 0 0 := by
  refine ⟨fun _ => 0, fun i hi => by rw [h i hi]; exact ⟨rfl, Nat.le_refl 0⟩, ?_⟩
  decide
theorem dl_mul {a b : Int64} {x y : Nat} (ha : a.toInt = (x : Int)) (hb : b.toInt = (y : Int)) (hx : x < 65536) (hy : y < 65536) : (a * b).toInt = ((x * y : Nat) : Int) ∧ x * y ≤ 4294836225 := by
  have h1 : x * y ≤ 65535 * 65535 := Nat.mul_le_mul (by omega) (by omega)
  have h2 : ((x : Int) * (y : Int)) = ((x * y : Nat) : Int) := by rw [Int.natCast_mul]
  refine ⟨?_, h1⟩
  rw [i64_mul (by rw [ha, hb, h2]; omega) (by rw [ha, hb, h2]; omega), ha, hb, h2]
def LZm (f : Nat → Int64) (x y a k : Nat) : Prop := LZs f (sN (dg x) a * sN (dg y) 16 + dg x a * 65536 ^ a * sN (dg y) k) ((16 * a + k) * 4294967296)
theorem LZm_s {f S Y : Nat → Int64} {x y a k : Nat} (h : LZm f x y a k) (hS : DL S 16 x) (hY : DL Y 16 y) (ha : a < 16) (hk : k < 16) : LZm (vp_updL f (a + k) (f (a + k) + S a * Y k)) x y a (k + 1) := by
  have m := dl_mul (hS a ha) (hY k hk) (dg_lt x a) (dg_lt y k)
  have g := LZs_add h (k := a + k) (by omega) m.1 (by omega)
  have e : sN (dg x) a * sN (dg y) 16 + dg x a * 65536 ^ a * sN (dg y) (k + 1) = sN (dg x) a * sN (dg y) 16 + dg x a * 65536 ^ a * sN (dg y) k + dg x a * dg y k * 65536 ^ (a + k) := by
    show _ + dg x a * 65536 ^ a * (sN (dg y) k + dg y k * 65536 ^ k) = _
    rw [Nat.mul_add, Nat.add_assoc, Nat.pow_add]
    congr 2
    rw [Nat.mul_assoc, Nat.mul_assoc, Nat.mul_left_comm (65536 ^ a)]
  unfold LZm
  rw [e]
  exact LZs_mo g (by omega)
theorem LZm_0 {f : Nat → Int64} {x y a : Nat} (h : LZs f (sN (dg x) a * sN (dg y) 16) (16 * a * 4294967296)) : LZm f x y a 0 := by
  unfold LZm
  have e : sN (dg y) 0 = 0 := rfl
  rw [e, Nat.mul_zero, Nat.add_zero, Nat.add_zero]; exact h
theorem LZm_e {f : Nat → Int64} {x y a : Nat} (h : LZm f x y a 16) : LZs f (sN (dg x) (a + 1) * sN (dg y) 16) (16 * (a + 1) * 4294967296) := by
  unfold LZm at h
  have e : sN (dg x) (a + 1) * sN (dg y) 16 = sN (dg x) a * sN (dg y) 16 + dg x a * 65536 ^ a * sN (dg y) 16 := by
    show (sN (dg x) a + dg x a * 65536 ^ a) * _ = _
    rw [Nat.add_mul]
  rw [e]
  exact LZs_mo h (by omega)
theorem LZm_f {x y : Nat} (hx : x < 65536 ^ 16) (hy : y < 65536 ^ 16) : sN (dg x) 16 * sN (dg y) 16 = x * y := by rw [sN_dg, sN_dg, Nat.mod_eq_of_lt hx, Nat.mod_eq_of_lt hy]
theorem xy_lt {x y : Nat} (hx : x < 65536 ^ 16) (hy : y < 65536 ^ 16) : x * y < 65536 ^ 32 := Nat.lt_of_lt_of_eq (Nat.mul_lt_mul'' hx hy) (by decide +kernel)
theorem dg_z {x : Nat} (hx : x < 65536 ^ 16) (h : ∀ i, i < 16 → dg x i = 0) : x = 0 := by
  have e := sN_dg x 16
  rw [Nat.mod_eq_of_lt hx] at e
  have g : ∀ n, n ≤ 16 → sN (dg x) n = 0 := by
    intro n
    induction n with
    | zero => intro _; rfl
    | succ n ih => intro hn; show sN (dg x) n + dg x n * 65536 ^ n = 0; rw [ih (by omega), h n (by omega), Nat.zero_mul]
  rw [← e]; exact g 16 (Nat.le_refl _)
def ivR (j : Nat) : Int64 := if j < 16 then qL (j / 16) - 2 else qL (j / 16)
theorem ivR_bit : ∀ j, j < 253 → lg_cmp ((ivR j >>> ((nI (j % 16)).toInt64 &&& 63)) &&& 1) 1 = if (qN - 2) / 2 ^ j % 2 = 1 then 0 else -1 := by decide +kernel
theorem ivR_e (e j : Nat) : e / 2 ^ j = e / 2 ^ (j + 1) + e / 2 ^ (j + 1) + e / 2 ^ j % 2 := by
  have : e / 2 ^ (j + 1) = e / 2 ^ j / 2 := by rw [Nat.pow_succ, Nat.div_div_eq_div_mul]
  omega
theorem ivR_sq (a e : Nat) : (a ^ e % qN) * (a ^ e % qN) % qN = a ^ (e + e) % qN := by rw [Nat.pow_add, Nat.mul_mod (a ^ e) (a ^ e)]
theorem ivR_mu (a e : Nat) : (a ^ e % qN) * a % qN = a ^ (e + 1) % qN := by rw [Nat.pow_succ, Nat.mod_mul_mod]
