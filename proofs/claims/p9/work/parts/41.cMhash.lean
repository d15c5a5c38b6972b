set_option maxRecDepth 100000 in
set_option maxHeartbeats 4000000 in
theorem c_Mo_one (G : GX) (v : Nat → Int32) (x : Int32) (s : Nat) (es : v 67 = nI s) (hs : s < 4000) (hv : okv v) : CS G mi_Mo_one [.ref 373, .int x] v (fun r v' => r = none ∧ v' = va_up v 67 (nI (s + 1))) := by
  refine CS.of (by decide) (Nat.le_of_ble_eq_true rfl) ?_
  generalize hQe : (fun (r : Option Value) (v' : Nat → Int32) => r = none ∧ v' = va_up v 67 (nI (s + 1))) = Q
  have hQ : Q none (va_up v 67 (nI (s + 1))) := by rw [← hQe]; exact ⟨rfl, rfl⟩
  clear hQe
  have hm : mdf [67] v v := mdf.rf
  show ST G mi_Mo_one 0 [(0, .ref 373), (1, .int x)] [] v 0 0 Q
  refine ST.lift (fun _ _ k => T_aload_n (v := .ref 373) d_Mo_one_0 rfl (Or.inr ⟨_, rfl⟩) k) ?_
  refine S_getfield d_Mo_one_1 fg_Mo_1 (w373 _) rfl ?_
  refine ST.lift (fun _ _ k => T_aload_n (v := .ref 373) d_Mo_one_4 rfl (Or.inr ⟨_, rfl⟩) k) ?_
  refine S_getfield d_Mo_one_5 fg_Mo_7 (w373 _) rfl ?_
  refine S_topi (y := nI s) (es) ?_
  refine ST.lift (fun _ _ k => T_iload_n d_Mo_one_8 rfl k) ?_
  refine ST.lift (fun _ _ k => T_sipush (v := nI 255) d_Mo_one_9 (by decide) k) ?_
  refine S_iandM 8 d_Mo_one_12 (by decide) (by decide) (fun j1 hj1 => ?_)
  simp only [Nat.reducePow] at hj1
  refine S_iastore d_Mo_one_13 (by decide) a374 (vp_in_nI (by omega) (by omega)) ?_
  refine ST.lift (fun _ _ k => T_aload_n (v := .ref 373) d_Mo_one_14 rfl (Or.inr ⟨_, rfl⟩) k) ?_
  refine ST.lift (fun _ _ k => T_dup d_Mo_one_15 rfl k) ?_
  refine S_getfield d_Mo_one_16 fg_Mo_7 (w373 _) rfl ?_
  refine S_topi (y := nI s) (es) ?_
  refine ST.lift (fun _ _ k => T_iconst (v := nI 1) d_Mo_one_19 (by decide) k) ?_
  refine S_iaddN d_Mo_one_20 ?_
  refine S_putfield (v' := va_up v 67 (nI (s + 1))) d_Mo_one_21 (fp_Mo_7 _) (w373 _) (Nat.le_of_ble_eq_true rfl) ⟨rfl, rfl⟩ (u373_2 _ _) ?_
  have hv3 := hv.up (j := 67) (c := 4000) (k := (s + 1)) (by decide) (by omega)
  have hm4 := hm.go (mdf.up (v := v) (j := 67) (x := (nI (s + 1)))) (by intro i hi; simp only [List.mem_cons, List.not_mem_nil, or_false] at hi ⊢ <;> omega)
  have e_u2 : (va_up v 67 (nI (s + 1))) 67 = (nI (s + 1)) := by simp [va_up]
  generalize hup : va_up v 67 (nI (s + 1)) = u2 at hv3 hm4 e_u2 ⊢
  first | exact S_vret d_Mo_one_24 rfl (by decide) (by decide) (hup ▸ hQ) | (exfalso; omega)
set_option maxRecDepth 100000 in
set_option maxHeartbeats 4000000 in
theorem c_Mo_letters (G : GX) (v : Nat → Int32) (x : Int64) (s : Nat) (es : v 67 = nI s) (hs : s ≤ 3990) (hv : okv v) : CS G mi_Mo_letters [.ref 373, .long x] v (fun r v' => r = none ∧ okv v' ∧ mdf [67] v v' ∧ ∃ s', s' ≤ s + 8 ∧ v' 67 = nI s') := by
  refine CS.of (by decide) (Nat.le_of_ble_eq_true rfl) ?_
  generalize hQe : (fun (r : Option Value) (v' : Nat → Int32) => r = none ∧ okv v' ∧ mdf [67] v v' ∧ ∃ s', s' ≤ s + 8 ∧ v' 67 = nI s') = Q
  have hQ : ∀ (u : Nat → Int32) (s' : Nat) , okv u → mdf [67] v u → s' ≤ s + 8 → u 67 = nI s' → Q none u := by rw [← hQe]; exact fun u s' h1 h2 h3 h4 => ⟨rfl, h1, h2, s', h3, h4⟩
  clear hQe
  have hm : mdf [67] v v := mdf.rf
  show ST G mi_Mo_letters 0 [(0, .ref 373), (1, .long x)] [] v 0 0 Q
  refine ST.lift (fun _ _ k => T_bipush (v := nI 56) d_Mo_letters_0 (by decide) k) ?_
  refine ST.lift (fun _ _ k => T_istore_n (L' := [(3, .int (nI 56)), (0, .ref 373), (1, .long x)]) d_Mo_letters_2 (by decide) rfl k) ?_
  refine ST.lift (fun _ _ k => T_iload_n d_Mo_letters_3 rfl k) ?_
  refine S_if_ltN d_Mo_letters_4 rfl (by omega) (fun c => by first | exact absurd c (by omega) | exact c.elim | exact absurd c (by decide) | exact absurd (by assumption) c | exact absurd c (by assumption)) (fun _ => ?_)
  refine ST.lift (fun _ _ k => T_lload_n d_Mo_letters_7 rfl k) ?_
  refine ST.lift (fun _ _ k => T_iload_n d_Mo_letters_8 rfl k) ?_
  refine ST.lift (fun _ _ k => T_lshr d_Mo_letters_9 k) (S_anyl fun z1 => ?_)
  refine ST.lift (fun _ _ k => T_l2i d_Mo_letters_10 k) (S_anyi fun z2 => ?_)
  refine ST.lift (fun _ _ k => T_sipush (v := nI 255) d_Mo_letters_11 (by decide) k) ?_
  refine S_iandM 8 d_Mo_letters_14 (by decide) (by decide) (fun j3 hj3 => ?_)
  simp only [Nat.reducePow] at hj3
  refine ST.lift (fun _ _ k => T_istore (L' := [(4, .int (nI j3)), (3, .int (nI 56)), (0, .ref 373), (1, .long x)]) d_Mo_letters_15 (by decide) rfl k) ?_
  refine ST.lift (fun _ _ k => T_iload d_Mo_letters_17 rfl k) ?_
  have J28_8 : ∀ (u9 : Nat → Int32) (hv_u9 : okv u9) (hm_u9 : mdf [67] v u9) (s10 : Nat) (hb_s10 : s10 ≤ s + 1) (es_u9 : u9 67 = nI s10) , ST G mi_Mo_letters 28 [(4, .int (nI j3)), (3, .int (nI 56)), (0, .ref 373), (1, .long x)] [] u9 0 0 Q := by
    intro u9 hv_u9 hm_u9 s10 hb_s10 es_u9 
    refine ST.lift (fun _ _ k => T_iinc (x := nI 56) (L' := [(3, .int (nI 48)), (4, .int (nI j3)), (0, .ref 373), (1, .long x)]) d_Mo_letters_28 (by decide) rfl (by rw [show nI 56 + Int32.ofInt (-8) = nI 48 by decide]; rfl) k) ?_
    refine ST.lift (fun _ _ k => T_goto (tgt := 3) d_Mo_letters_31 rfl k) ?_
    refine ST.lift (fun _ _ k => T_iload_n d_Mo_letters_3 rfl k) ?_
    refine S_if_ltN d_Mo_letters_4 rfl (by omega) (fun c => by first | exact absurd c (by omega) | exact c.elim | exact absurd c (by decide) | exact absurd (by assumption) c | exact absurd c (by assumption)) (fun _ => ?_)
    refine ST.lift (fun _ _ k => T_lload_n d_Mo_letters_7 rfl k) ?_
    refine ST.lift (fun _ _ k => T_iload_n d_Mo_letters_8 rfl k) ?_
    refine ST.lift (fun _ _ k => T_lshr d_Mo_letters_9 k) (S_anyl fun z11 => ?_)
    refine ST.lift (fun _ _ k => T_l2i d_Mo_letters_10 k) (S_anyi fun z12 => ?_)
    refine ST.lift (fun _ _ k => T_sipush (v := nI 255) d_Mo_letters_11 (by decide) k) ?_
    refine S_iandM 8 d_Mo_letters_14 (by decide) (by decide) (fun j13 hj13 => ?_)
    simp only [Nat.reducePow] at hj13
    refine ST.lift (fun _ _ k => T_istore (L' := [(4, .int (nI j13)), (3, .int (nI 48)), (0, .ref 373), (1, .long x)]) d_Mo_letters_15 (by decide) rfl k) ?_
    refine ST.lift (fun _ _ k => T_iload d_Mo_letters_17 rfl k) ?_
    have J28_18 : ∀ (u19 : Nat → Int32) (hv_u19 : okv u19) (hm_u19 : mdf [67] v u19) (s20 : Nat) (hb_s20 : s20 ≤ s10 + 1) (es_u19 : u19 67 = nI s20) , ST G mi_Mo_letters 28 [(4, .int (nI j13)), (3, .int (nI 48)), (0, .ref 373), (1, .long x)] [] u19 0 0 Q := by
      intro u19 hv_u19 hm_u19 s20 hb_s20 es_u19 
      refine ST.lift (fun _ _ k => T_iinc (x := nI 48) (L' := [(3, .int (nI 40)), (4, .int (nI j13)), (0, .ref 373), (1, .long x)]) d_Mo_letters_28 (by decide) rfl (by rw [show nI 48 + Int32.ofInt (-8) = nI 40 by decide]; rfl) k) ?_
      refine ST.lift (fun _ _ k => T_goto (tgt := 3) d_Mo_letters_31 rfl k) ?_
      refine ST.lift (fun _ _ k => T_iload_n d_Mo_letters_3 rfl k) ?_
      refine S_if_ltN d_Mo_letters_4 rfl (by omega) (fun c => by first | exact absurd c (by omega) | exact c.elim | exact absurd c (by decide) | exact absurd (by assumption) c | exact absurd c (by assumption)) (fun _ => ?_)
      refine ST.lift (fun _ _ k => T_lload_n d_Mo_letters_7 rfl k) ?_
      refine ST.lift (fun _ _ k => T_iload_n d_Mo_letters_8 rfl k) ?_
      refine ST.lift (fun _ _ k => T_lshr d_Mo_letters_9 k) (S_anyl fun z21 => ?_)
      refine ST.lift (fun _ _ k => T_l2i d_Mo_letters_10 k) (S_anyi fun z22 => ?_)
      refine ST.lift (fun _ _ k => T_sipush (v := nI 255) d_Mo_letters_11 (by decide) k) ?_
      refine S_iandM 8 d_Mo_letters_14 (by decide) (by decide) (fun j23 hj23 => ?_)
      simp only [Nat.reducePow] at hj23
      refine ST.lift (fun _ _ k => T_istore (L' := [(4, .int (nI j23)), (3, .int (nI 40)), (0, .ref 373), (1, .long x)]) d_Mo_letters_15 (by decide) rfl k) ?_
      refine ST.lift (fun _ _ k => T_iload d_Mo_letters_17 rfl k) ?_
      have J28_28 : ∀ (u29 : Nat → Int32) (hv_u29 : okv u29) (hm_u29 : mdf [67] v u29) (s30 : Nat) (hb_s30 : s30 ≤ s20 + 1) (es_u29 : u29 67 = nI s30) , ST G mi_Mo_letters 28 [(4, .int (nI j23)), (3, .int (nI 40)), (0, .ref 373), (1, .long x)] [] u29 0 0 Q := by
        intro u29 hv_u29 hm_u29 s30 hb_s30 es_u29 
        refine ST.lift (fun _ _ k => T_iinc (x := nI 40) (L' := [(3, .int (nI 32)), (4, .int (nI j23)), (0, .ref 373), (1, .long x)]) d_Mo_letters_28 (by decide) rfl (by rw [show nI 40 + Int32.ofInt (-8) = nI 32 by decide]; rfl) k) ?_
        refine ST.lift (fun _ _ k => T_goto (tgt := 3) d_Mo_letters_31 rfl k) ?_
        refine ST.lift (fun _ _ k => T_iload_n d_Mo_letters_3 rfl k) ?_
        refine S_if_ltN d_Mo_letters_4 rfl (by omega) (fun c => by first | exact absurd c (by omega) | exact c.elim | exact absurd c (by decide) | exact absurd (by assumption) c | exact absurd c (by assumption)) (fun _ => ?_)
        refine ST.lift (fun _ _ k => T_lload_n d_Mo_letters_7 rfl k) ?_
        refine ST.lift (fun _ _ k => T_iload_n d_Mo_letters_8 rfl k) ?_
        refine ST.lift (fun _ _ k => T_lshr d_Mo_letters_9 k) (S_anyl fun z31 => ?_)
        refine ST.lift (fun _ _ k => T_l2i d_Mo_letters_10 k) (S_anyi fun z32 => ?_)
        refine ST.lift (fun _ _ k => T_sipush (v := nI 255) d_Mo_letters_11 (by decide) k) ?_
        refine S_iandM 8 d_Mo_letters_14 (by decide) (by decide) (fun j33 hj33 => ?_)
        simp only [Nat.reducePow] at hj33
        refine ST.lift (fun _ _ k => T_istore (L' := [(4, .int (nI j33)), (3, .int (nI 32)), (0, .ref 373), (1, .long x)]) d_Mo_letters_15 (by decide) rfl k) ?_
        refine ST.lift (fun _ _ k => T_iload d_Mo_letters_17 rfl k) ?_
        have J28_38 : ∀ (u39 : Nat → Int32) (hv_u39 : okv u39) (hm_u39 : mdf [67] v u39) (s40 : Nat) (hb_s40 : s40 ≤ s30 + 1) (es_u39 : u39 67 = nI s40) , ST G mi_Mo_letters 28 [(4, .int (nI j33)), (3, .int (nI 32)), (0, .ref 373), (1, .long x)] [] u39 0 0 Q := by
          intro u39 hv_u39 hm_u39 s40 hb_s40 es_u39 
          refine ST.lift (fun _ _ k => T_iinc (x := nI 32) (L' := [(3, .int (nI 24)), (4, .int (nI j33)), (0, .ref 373), (1, .long x)]) d_Mo_letters_28 (by decide) rfl (by rw [show nI 32 + Int32.ofInt (-8) = nI 24 by decide]; rfl) k) ?_
          refine ST.lift (fun _ _ k => T_goto (tgt := 3) d_Mo_letters_31 rfl k) ?_
          refine ST.lift (fun _ _ k => T_iload_n d_Mo_letters_3 rfl k) ?_
          refine S_if_ltN d_Mo_letters_4 rfl (by omega) (fun c => by first | exact absurd c (by omega) | exact c.elim | exact absurd c (by decide) | exact absurd (by assumption) c | exact absurd c (by assumption)) (fun _ => ?_)
          refine ST.lift (fun _ _ k => T_lload_n d_Mo_letters_7 rfl k) ?_
          refine ST.lift (fun _ _ k => T_iload_n d_Mo_letters_8 rfl k) ?_
          refine ST.lift (fun _ _ k => T_lshr d_Mo_letters_9 k) (S_anyl fun z41 => ?_)
          refine ST.lift (fun _ _ k => T_l2i d_Mo_letters_10 k) (S_anyi fun z42 => ?_)
          refine ST.lift (fun _ _ k => T_sipush (v := nI 255) d_Mo_letters_11 (by decide) k) ?_
          refine S_iandM 8 d_Mo_letters_14 (by decide) (by decide) (fun j43 hj43 => ?_)
          simp only [Nat.reducePow] at hj43
          refine ST.lift (fun _ _ k => T_istore (L' := [(4, .int (nI j43)), (3, .int (nI 24)), (0, .ref 373), (1, .long x)]) d_Mo_letters_15 (by decide) rfl k) ?_
          refine ST.lift (fun _ _ k => T_iload d_Mo_letters_17 rfl k) ?_
          have J28_48 : ∀ (u49 : Nat → Int32) (hv_u49 : okv u49) (hm_u49 : mdf [67] v u49) (s50 : Nat) (hb_s50 : s50 ≤ s40 + 1) (es_u49 : u49 67 = nI s50) , ST G mi_Mo_letters 28 [(4, .int (nI j43)), (3, .int (nI 24)), (0, .ref 373), (1, .long x)] [] u49 0 0 Q := by
            intro u49 hv_u49 hm_u49 s50 hb_s50 es_u49 
            refine ST.lift (fun _ _ k => T_iinc (x := nI 24) (L' := [(3, .int (nI 16)), (4, .int (nI j43)), (0, .ref 373), (1, .long x)]) d_Mo_letters_28 (by decide) rfl (by rw [show nI 24 + Int32.ofInt (-8) = nI 16 by decide]; rfl) k) ?_
            refine ST.lift (fun _ _ k => T_goto (tgt := 3) d_Mo_letters_31 rfl k) ?_
            refine ST.lift (fun _ _ k => T_iload_n d_Mo_letters_3 rfl k) ?_
            refine S_if_ltN d_Mo_letters_4 rfl (by omega) (fun c => by first | exact absurd c (by omega) | exact c.elim | exact absurd c (by decide) | exact absurd (by assumption) c | exact absurd c (by assumption)) (fun _ => ?_)
            refine ST.lift (fun _ _ k => T_lload_n d_Mo_letters_7 rfl k) ?_
            refine ST.lift (fun _ _ k => T_iload_n d_Mo_letters_8 rfl k) ?_
            refine ST.lift (fun _ _ k => T_lshr d_Mo_letters_9 k) (S_anyl fun z51 => ?_)
            refine ST.lift (fun _ _ k => T_l2i d_Mo_letters_10 k) (S_anyi fun z52 => ?_)
            refine ST.lift (fun _ _ k => T_sipush (v := nI 255) d_Mo_letters_11 (by decide) k) ?_
            refine S_iandM 8 d_Mo_letters_14 (by decide) (by decide) (fun j53 hj53 => ?_)
            simp only [Nat.reducePow] at hj53
            refine ST.lift (fun _ _ k => T_istore (L' := [(4, .int (nI j53)), (3, .int (nI 16)), (0, .ref 373), (1, .long x)]) d_Mo_letters_15 (by decide) rfl k) ?_
            refine ST.lift (fun _ _ k => T_iload d_Mo_letters_17 rfl k) ?_
            have J28_58 : ∀ (u59 : Nat → Int32) (hv_u59 : okv u59) (hm_u59 : mdf [67] v u59) (s60 : Nat) (hb_s60 : s60 ≤ s50 + 1) (es_u59 : u59 67 = nI s60) , ST G mi_Mo_letters 28 [(4, .int (nI j53)), (3, .int (nI 16)), (0, .ref 373), (1, .long x)] [] u59 0 0 Q := by
              intro u59 hv_u59 hm_u59 s60 hb_s60 es_u59 
              refine ST.lift (fun _ _ k => T_iinc (x := nI 16) (L' := [(3, .int (nI 8)), (4, .int (nI j53)), (0, .ref 373), (1, .long x)]) d_Mo_letters_28 (by decide) rfl (by rw [show nI 16 + Int32.ofInt (-8) = nI 8 by decide]; rfl) k) ?_
              refine ST.lift (fun _ _ k => T_goto (tgt := 3) d_Mo_letters_31 rfl k) ?_
              refine ST.lift (fun _ _ k => T_iload_n d_Mo_letters_3 rfl k) ?_
              refine S_if_ltN d_Mo_letters_4 rfl (by omega) (fun c => by first | exact absurd c (by omega) | exact c.elim | exact absurd c (by decide) | exact absurd (by assumption) c | exact absurd c (by assumption)) (fun _ => ?_)
              refine ST.lift (fun _ _ k => T_lload_n d_Mo_letters_7 rfl k) ?_
              refine ST.lift (fun _ _ k => T_iload_n d_Mo_letters_8 rfl k) ?_
              refine ST.lift (fun _ _ k => T_lshr d_Mo_letters_9 k) (S_anyl fun z61 => ?_)
              refine ST.lift (fun _ _ k => T_l2i d_Mo_letters_10 k) (S_anyi fun z62 => ?_)
              refine ST.lift (fun _ _ k => T_sipush (v := nI 255) d_Mo_letters_11 (by decide) k) ?_
              refine S_iandM 8 d_Mo_letters_14 (by decide) (by decide) (fun j63 hj63 => ?_)
              simp only [Nat.reducePow] at hj63
              refine ST.lift (fun _ _ k => T_istore (L' := [(4, .int (nI j63)), (3, .int (nI 8)), (0, .ref 373), (1, .long x)]) d_Mo_letters_15 (by decide) rfl k) ?_
              refine ST.lift (fun _ _ k => T_iload d_Mo_letters_17 rfl k) ?_
              have J28_68 : ∀ (u69 : Nat → Int32) (hv_u69 : okv u69) (hm_u69 : mdf [67] v u69) (s70 : Nat) (hb_s70 : s70 ≤ s60 + 1) (es_u69 : u69 67 = nI s70) , ST G mi_Mo_letters 28 [(4, .int (nI j63)), (3, .int (nI 8)), (0, .ref 373), (1, .long x)] [] u69 0 0 Q := by
                intro u69 hv_u69 hm_u69 s70 hb_s70 es_u69 
                refine ST.lift (fun _ _ k => T_iinc (x := nI 8) (L' := [(3, .int (nI 0)), (4, .int (nI j63)), (0, .ref 373), (1, .long x)]) d_Mo_letters_28 (by decide) rfl (by rw [show nI 8 + Int32.ofInt (-8) = nI 0 by decide]; rfl) k) ?_
                refine ST.lift (fun _ _ k => T_goto (tgt := 3) d_Mo_letters_31 rfl k) ?_
                refine ST.lift (fun _ _ k => T_iload_n d_Mo_letters_3 rfl k) ?_
                refine S_if_ltN d_Mo_letters_4 rfl (by omega) (fun c => by first | exact absurd c (by omega) | exact c.elim | exact absurd c (by decide) | exact absurd (by assumption) c | exact absurd c (by assumption)) (fun _ => ?_)
                refine ST.lift (fun _ _ k => T_lload_n d_Mo_letters_7 rfl k) ?_
                refine ST.lift (fun _ _ k => T_iload_n d_Mo_letters_8 rfl k) ?_
                refine ST.lift (fun _ _ k => T_lshr d_Mo_letters_9 k) (S_anyl fun z71 => ?_)
                refine ST.lift (fun _ _ k => T_l2i d_Mo_letters_10 k) (S_anyi fun z72 => ?_)
                refine ST.lift (fun _ _ k => T_sipush (v := nI 255) d_Mo_letters_11 (by decide) k) ?_
                refine S_iandM 8 d_Mo_letters_14 (by decide) (by decide) (fun j73 hj73 => ?_)
                simp only [Nat.reducePow] at hj73
                refine ST.lift (fun _ _ k => T_istore (L' := [(4, .int (nI j73)), (3, .int (nI 0)), (0, .ref 373), (1, .long x)]) d_Mo_letters_15 (by decide) rfl k) ?_
                refine ST.lift (fun _ _ k => T_iload d_Mo_letters_17 rfl k) ?_
                have J28_78 : ∀ (u79 : Nat → Int32) (hv_u79 : okv u79) (hm_u79 : mdf [67] v u79) (s80 : Nat) (hb_s80 : s80 ≤ s70 + 1) (es_u79 : u79 67 = nI s80) , ST G mi_Mo_letters 28 [(4, .int (nI j73)), (3, .int (nI 0)), (0, .ref 373), (1, .long x)] [] u79 0 0 Q := by
                  intro u79 hv_u79 hm_u79 s80 hb_s80 es_u79 
                  refine ST.lift (fun _ _ k => T_iinc (x := nI 0) (L' := [(3, .int (-8)), (4, .int (nI j73)), (0, .ref 373), (1, .long x)]) d_Mo_letters_28 (by decide) rfl (by rw [show nI 0 + Int32.ofInt (-8) = (-8) by decide]; rfl) k) ?_
                  refine ST.lift (fun _ _ k => T_goto (tgt := 3) d_Mo_letters_31 rfl k) ?_
                  refine ST.lift (fun _ _ k => T_iload_n d_Mo_letters_3 rfl k) ?_
                  refine S_if_lt d_Mo_letters_4 rfl (fun _ => ?_) (fun c => by first | exact absurd c (by omega) | exact c.elim | exact absurd c (by decide) | exact absurd (by assumption) c | exact absurd c (by assumption))
                  exact S_vret d_Mo_letters_34 rfl (by decide) (by decide) (hQ _ s80 hv_u79 hm_u79 (by omega) es_u79)
                refine S_if_leN d_Mo_letters_19 rfl (by omega) (fun c74 => ?_) (fun c74 => ?_)
                · exact J28_78 u69 hv_u69 hm_u69 s70 (by omega) es_u69
                · refine ST.lift (fun _ _ k => T_aload_n (v := .ref 373) d_Mo_letters_22 rfl (Or.inr ⟨_, rfl⟩) k) ?_
                  refine ST.lift (fun _ _ k => T_iload d_Mo_letters_23 rfl k) ?_
                  refine S_virtual (as := [.int (nI j73)]) (rest := []) (b := 373) d_Mo_letters_25 rfl (jw_Mo_one.jo (by decide)) lm_Mo_11 ji_Mo_one js_Mo_one (w373 _) rfl rfl rfl (Nat.le_of_ble_eq_true rfl) (by decide) (by decide) (c_Mo_one G u69 (nI j73) s70 es_u69 (by omega) hv_u69) (fun r v' hq => ?_)
                  rw [hq.1, hq.2]
                  clear hq r v'
                  show ST G mi_Mo_letters 28 [(4, .int (nI j73)), (3, .int (nI 0)), (0, .ref 373), (1, .long x)] [] (va_up u69 67 (nI (s70 + 1))) 0 0 _
                  have hv82 := hv_u69.up (j := 67) (c := 4000) (k := (s70 + 1)) (by decide) (by omega)
                  have hm83 := hm_u69.go (mdf.up (v := u69) (j := 67) (x := (nI (s70 + 1)))) (by intro i hi; simp only [List.mem_cons, List.not_mem_nil, or_false] at hi ⊢ <;> omega)
                  have e_u81 : (va_up u69 67 (nI (s70 + 1))) 67 = (nI (s70 + 1)) := by simp [va_up]
                  generalize va_up u69 67 (nI (s70 + 1)) = u81 at hv82 hm83 e_u81 ⊢
                  exact J28_78 u81 hv82 hm83 (s70 + 1) (by omega) e_u81
              refine S_if_leN d_Mo_letters_19 rfl (by omega) (fun c64 => ?_) (fun c64 => ?_)
              · exact J28_68 u59 hv_u59 hm_u59 s60 (by omega) es_u59
              · refine ST.lift (fun _ _ k => T_aload_n (v := .ref 373) d_Mo_letters_22 rfl (Or.inr ⟨_, rfl⟩) k) ?_
                refine ST.lift (fun _ _ k => T_iload d_Mo_letters_23 rfl k) ?_
                refine S_virtual (as := [.int (nI j63)]) (rest := []) (b := 373) d_Mo_letters_25 rfl (jw_Mo_one.jo (by decide)) lm_Mo_11 ji_Mo_one js_Mo_one (w373 _) rfl rfl rfl (Nat.le_of_ble_eq_true rfl) (by decide) (by decide) (c_Mo_one G u59 (nI j63) s60 es_u59 (by omega) hv_u59) (fun r v' hq => ?_)
                rw [hq.1, hq.2]
                clear hq r v'
                show ST G mi_Mo_letters 28 [(4, .int (nI j63)), (3, .int (nI 8)), (0, .ref 373), (1, .long x)] [] (va_up u59 67 (nI (s60 + 1))) 0 0 _
                have hv85 := hv_u59.up (j := 67) (c := 4000) (k := (s60 + 1)) (by decide) (by omega)
                have hm86 := hm_u59.go (mdf.up (v := u59) (j := 67) (x := (nI (s60 + 1)))) (by intro i hi; simp only [List.mem_cons, List.not_mem_nil, or_false] at hi ⊢ <;> omega)
                have e_u84 : (va_up u59 67 (nI (s60 + 1))) 67 = (nI (s60 + 1)) := by simp [va_up]
                generalize va_up u59 67 (nI (s60 + 1)) = u84 at hv85 hm86 e_u84 ⊢
                exact J28_68 u84 hv85 hm86 (s60 + 1) (by omega) e_u84
            refine S_if_leN d_Mo_letters_19 rfl (by omega) (fun c54 => ?_) (fun c54 => ?_)
            · exact J28_58 u49 hv_u49 hm_u49 s50 (by omega) es_u49
            · refine ST.lift (fun _ _ k => T_aload_n (v := .ref 373) d_Mo_letters_22 rfl (Or.inr ⟨_, rfl⟩) k) ?_
              refine ST.lift (fun _ _ k => T_iload d_Mo_letters_23 rfl k) ?_
              refine S_virtual (as := [.int (nI j53)]) (rest := []) (b := 373) d_Mo_letters_25 rfl (jw_Mo_one.jo (by decide)) lm_Mo_11 ji_Mo_one js_Mo_one (w373 _) rfl rfl rfl (Nat.le_of_ble_eq_true rfl) (by decide) (by decide) (c_Mo_one G u49 (nI j53) s50 es_u49 (by omega) hv_u49) (fun r v' hq => ?_)
              rw [hq.1, hq.2]
              clear hq r v'
              show ST G mi_Mo_letters 28 [(4, .int (nI j53)), (3, .int (nI 16)), (0, .ref 373), (1, .long x)] [] (va_up u49 67 (nI (s50 + 1))) 0 0 _
              have hv88 := hv_u49.up (j := 67) (c := 4000) (k := (s50 + 1)) (by decide) (by omega)
              have hm89 := hm_u49.go (mdf.up (v := u49) (j := 67) (x := (nI (s50 + 1)))) (by intro i hi; simp only [List.mem_cons, List.not_mem_nil, or_false] at hi ⊢ <;> omega)
              have e_u87 : (va_up u49 67 (nI (s50 + 1))) 67 = (nI (s50 + 1)) := by simp [va_up]
              generalize va_up u49 67 (nI (s50 + 1)) = u87 at hv88 hm89 e_u87 ⊢
              exact J28_58 u87 hv88 hm89 (s50 + 1) (by omega) e_u87
          refine S_if_leN d_Mo_letters_19 rfl (by omega) (fun c44 => ?_) (fun c44 => ?_)
          · exact J28_48 u39 hv_u39 hm_u39 s40 (by omega) es_u39
          · refine ST.lift (fun _ _ k => T_aload_n (v := .ref 373) d_Mo_letters_22 rfl (Or.inr ⟨_, rfl⟩) k) ?_
            refine ST.lift (fun _ _ k => T_iload d_Mo_letters_23 rfl k) ?_
            refine S_virtual (as := [.int (nI j43)]) (rest := []) (b := 373) d_Mo_letters_25 rfl (jw_Mo_one.jo (by decide)) lm_Mo_11 ji_Mo_one js_Mo_one (w373 _) rfl rfl rfl (Nat.le_of_ble_eq_true rfl) (by decide) (by decide) (c_Mo_one G u39 (nI j43) s40 es_u39 (by omega) hv_u39) (fun r v' hq => ?_)
            rw [hq.1, hq.2]
            clear hq r v'
            show ST G mi_Mo_letters 28 [(4, .int (nI j43)), (3, .int (nI 24)), (0, .ref 373), (1, .long x)] [] (va_up u39 67 (nI (s40 + 1))) 0 0 _
            have hv91 := hv_u39.up (j := 67) (c := 4000) (k := (s40 + 1)) (by decide) (by omega)
            have hm92 := hm_u39.go (mdf.up (v := u39) (j := 67) (x := (nI (s40 + 1)))) (by intro i hi; simp only [List.mem_cons, List.not_mem_nil, or_false] at hi ⊢ <;> omega)
            have e_u90 : (va_up u39 67 (nI (s40 + 1))) 67 = (nI (s40 + 1)) := by simp [va_up]
            generalize va_up u39 67 (nI (s40 + 1)) = u90 at hv91 hm92 e_u90 ⊢
            exact J28_48 u90 hv91 hm92 (s40 + 1) (by omega) e_u90
        refine S_if_leN d_Mo_letters_19 rfl (by omega) (fun c34 => ?_) (fun c34 => ?_)
        · exact J28_38 u29 hv_u29 hm_u29 s30 (by omega) es_u29
        · refine ST.lift (fun _ _ k => T_aload_n (v := .ref 373) d_Mo_letters_22 rfl (Or.inr ⟨_, rfl⟩) k) ?_
          refine ST.lift (fun _ _ k => T_iload d_Mo_letters_23 rfl k) ?_
          refine S_virtual (as := [.int (nI j33)]) (rest := []) (b := 373) d_Mo_letters_25 rfl (jw_Mo_one.jo (by decide)) lm_Mo_11 ji_Mo_one js_Mo_one (w373 _) rfl rfl rfl (Nat.le_of_ble_eq_true rfl) (by decide) (by decide) (c_Mo_one G u29 (nI j33) s30 es_u29 (by omega) hv_u29) (fun r v' hq => ?_)
          rw [hq.1, hq.2]
          clear hq r v'
          show ST G mi_Mo_letters 28 [(4, .int (nI j33)), (3, .int (nI 32)), (0, .ref 373), (1, .long x)] [] (va_up u29 67 (nI (s30 + 1))) 0 0 _
          have hv94 := hv_u29.up (j := 67) (c := 4000) (k := (s30 + 1)) (by decide) (by omega)
          have hm95 := hm_u29.go (mdf.up (v := u29) (j := 67) (x := (nI (s30 + 1)))) (by intro i hi; simp only [List.mem_cons, List.not_mem_nil, or_false] at hi ⊢ <;> omega)
          have e_u93 : (va_up u29 67 (nI (s30 + 1))) 67 = (nI (s30 + 1)) := by simp [va_up]
          generalize va_up u29 67 (nI (s30 + 1)) = u93 at hv94 hm95 e_u93 ⊢
          exact J28_38 u93 hv94 hm95 (s30 + 1) (by omega) e_u93
      refine S_if_leN d_Mo_letters_19 rfl (by omega) (fun c24 => ?_) (fun c24 => ?_)
      · exact J28_28 u19 hv_u19 hm_u19 s20 (by omega) es_u19
      · refine ST.lift (fun _ _ k => T_aload_n (v := .ref 373) d_Mo_letters_22 rfl (Or.inr ⟨_, rfl⟩) k) ?_
        refine ST.lift (fun _ _ k => T_iload d_Mo_letters_23 rfl k) ?_
        refine S_virtual (as := [.int (nI j23)]) (rest := []) (b := 373) d_Mo_letters_25 rfl (jw_Mo_one.jo (by decide)) lm_Mo_11 ji_Mo_one js_Mo_one (w373 _) rfl rfl rfl (Nat.le_of_ble_eq_true rfl) (by decide) (by decide) (c_Mo_one G u19 (nI j23) s20 es_u19 (by omega) hv_u19) (fun r v' hq => ?_)
        rw [hq.1, hq.2]
        clear hq r v'
        show ST G mi_Mo_letters 28 [(4, .int (nI j23)), (3, .int (nI 40)), (0, .ref 373), (1, .long x)] [] (va_up u19 67 (nI (s20 + 1))) 0 0 _
        have hv97 := hv_u19.up (j := 67) (c := 4000) (k := (s20 + 1)) (by decide) (by omega)
        have hm98 := hm_u19.go (mdf.up (v := u19) (j := 67) (x := (nI (s20 + 1)))) (by intro i hi; simp only [List.mem_cons, List.not_mem_nil, or_false] at hi ⊢ <;> omega)
        have e_u96 : (va_up u19 67 (nI (s20 + 1))) 67 = (nI (s20 + 1)) := by simp [va_up]
        generalize va_up u19 67 (nI (s20 + 1)) = u96 at hv97 hm98 e_u96 ⊢
        exact J28_28 u96 hv97 hm98 (s20 + 1) (by omega) e_u96
    refine S_if_leN d_Mo_letters_19 rfl (by omega) (fun c14 => ?_) (fun c14 => ?_)
    · exact J28_18 u9 hv_u9 hm_u9 s10 (by omega) es_u9
    · refine ST.lift (fun _ _ k => T_aload_n (v := .ref 373) d_Mo_letters_22 rfl (Or.inr ⟨_, rfl⟩) k) ?_
      refine ST.lift (fun _ _ k => T_iload d_Mo_letters_23 rfl k) ?_
      refine S_virtual (as := [.int (nI j13)]) (rest := []) (b := 373) d_Mo_letters_25 rfl (jw_Mo_one.jo (by decide)) lm_Mo_11 ji_Mo_one js_Mo_one (w373 _) rfl rfl rfl (Nat.le_of_ble_eq_true rfl) (by decide) (by decide) (c_Mo_one G u9 (nI j13) s10 es_u9 (by omega) hv_u9) (fun r v' hq => ?_)
      rw [hq.1, hq.2]
      clear hq r v'
      show ST G mi_Mo_letters 28 [(4, .int (nI j13)), (3, .int (nI 48)), (0, .ref 373), (1, .long x)] [] (va_up u9 67 (nI (s10 + 1))) 0 0 _
      have hv100 := hv_u9.up (j := 67) (c := 4000) (k := (s10 + 1)) (by decide) (by omega)
      have hm101 := hm_u9.go (mdf.up (v := u9) (j := 67) (x := (nI (s10 + 1)))) (by intro i hi; simp only [List.mem_cons, List.not_mem_nil, or_false] at hi ⊢ <;> omega)
      have e_u99 : (va_up u9 67 (nI (s10 + 1))) 67 = (nI (s10 + 1)) := by simp [va_up]
      generalize va_up u9 67 (nI (s10 + 1)) = u99 at hv100 hm101 e_u99 ⊢
      exact J28_18 u99 hv100 hm101 (s10 + 1) (by omega) e_u99
  refine S_if_leN d_Mo_letters_19 rfl (by omega) (fun c4 => ?_) (fun c4 => ?_)
  · exact J28_8 v hv hm s (by omega) es
  · refine ST.lift (fun _ _ k => T_aload_n (v := .ref 373) d_Mo_letters_22 rfl (Or.inr ⟨_, rfl⟩) k) ?_
    refine ST.lift (fun _ _ k => T_iload d_Mo_letters_23 rfl k) ?_
    refine S_virtual (as := [.int (nI j3)]) (rest := []) (b := 373) d_Mo_letters_25 rfl (jw_Mo_one.jo (by decide)) lm_Mo_11 ji_Mo_one js_Mo_one (w373 _) rfl rfl rfl (Nat.le_of_ble_eq_true rfl) (by decide) (by decide) (c_Mo_one G v (nI j3) s es (by omega) hv) (fun r v' hq => ?_)
    rw [hq.1, hq.2]
    clear hq r v'
    show ST G mi_Mo_letters 28 [(4, .int (nI j3)), (3, .int (nI 56)), (0, .ref 373), (1, .long x)] [] (va_up v 67 (nI (s + 1))) 0 0 _
    have hv103 := hv.up (j := 67) (c := 4000) (k := (s + 1)) (by decide) (by omega)
    have hm104 := hm.go (mdf.up (v := v) (j := 67) (x := (nI (s + 1)))) (by intro i hi; simp only [List.mem_cons, List.not_mem_nil, or_false] at hi ⊢ <;> omega)
    have e_u102 : (va_up v 67 (nI (s + 1))) 67 = (nI (s + 1)) := by simp [va_up]
    generalize va_up v 67 (nI (s + 1)) = u102 at hv103 hm104 e_u102 ⊢
    exact J28_8 u102 hv103 hm104 (s + 1) (by omega) e_u102
set_option maxRecDepth 100000 in
set_option maxHeartbeats 4000000 in
theorem c_Mo_number_2 (G : GX) (v : Nat → Int32) (x : Int32) (s : Nat) (es : v 67 = nI s) (hs : s ≤ 3990) (hv : okv v) : CS G mi_Mo_number [.ref 373, .int x, .int (nI 2)] v (fun r v' => r = none ∧ okv v' ∧ mdf [67] v v' ∧ ∃ s', s' ≤ s + 2 ∧ v' 67 = nI s') := by
  refine CS.of (by decide) (Nat.le_of_ble_eq_true rfl) ?_
  generalize hQe : (fun (r : Option Value) (v' : Nat → Int32) => r = none ∧ okv v' ∧ mdf [67] v v' ∧ ∃ s', s' ≤ s + 2 ∧ v' 67 = nI s') = Q
  have hQ : ∀ (u : Nat → Int32) (s' : Nat) , okv u → mdf [67] v u → s' ≤ s + 2 → u 67 = nI s' → Q none u := by rw [← hQe]; exact fun u s' h1 h2 h3 h4 => ⟨rfl, h1, h2, s', h3, h4⟩
  clear hQe
  have hm : mdf [67] v v := mdf.rf
  show ST G mi_Mo_number 0 [(0, .ref 373), (1, .int x), (2, .int (nI 2))] [] v 0 0 Q
  refine ST.lift (fun _ _ k => T_iload_n d_Mo_number_0 rfl k) ?_
  refine ST.lift (fun _ _ k => T_iconst (v := nI 1) d_Mo_number_1 (by decide) k) ?_
  refine S_isubN d_Mo_number_2 (by omega) ?_
  refine S_topi (y := nI 1) (by decide) ?_
  refine ST.lift (fun _ _ k => T_istore_n (L' := [(3, .int (nI 1)), (0, .ref 373), (1, .int x), (2, .int (nI 2))]) d_Mo_number_3 (by decide) rfl k) ?_
  refine ST.lift (fun _ _ k => T_iload_n d_Mo_number_4 rfl k) ?_
  refine S_if_ltN d_Mo_number_5 rfl (by omega) (fun c => by first | exact absurd c (by omega) | exact c.elim | exact absurd c (by decide) | exact absurd (by assumption) c | exact absurd c (by assumption)) (fun _ => ?_)
  refine ST.lift (fun _ _ k => T_aload_n (v := .ref 373) d_Mo_number_8 rfl (Or.inr ⟨_, rfl⟩) k) ?_
  refine ST.lift (fun _ _ k => T_iload_n d_Mo_number_9 rfl k) ?_
  refine ST.lift (fun _ _ k => T_iconst (v := nI 3) d_Mo_number_10 (by decide) k) ?_
  refine S_icmp_leN d_Mo_number_11 rfl (by omega) (by omega) (fun _ => ?_) (fun c => by first | exact absurd c (by omega) | exact c.elim | exact absurd c (by decide) | exact absurd (by assumption) c | exact absurd c (by assumption))
  refine ST.lift (fun _ _ k => T_iload_n d_Mo_number_18 rfl k) ?_
  refine ST.lift (fun _ _ k => T_bipush (v := nI 8) d_Mo_number_19 (by decide) k) ?_
  refine ST.lift (fun _ _ k => T_iload_n d_Mo_number_21 rfl k) ?_
  refine S_imulN d_Mo_number_22 ?_
  refine S_topi (y := nI 8) (by decide) ?_
  refine ST.lift (fun _ _ k => T_ishr d_Mo_number_23 k) (S_anyi fun z1 => ?_)
  refine S_virtual (as := [.int z1]) (rest := []) (b := 373) d_Mo_number_24 rfl (jw_Mo_one.jo (by decide)) lm_Mo_11 ji_Mo_one js_Mo_one (w373 _) rfl rfl rfl (Nat.le_of_ble_eq_true rfl) (by decide) (by decide) (c_Mo_one G v z1 s es (by omega) hv) (fun r v' hq => ?_)
  rw [hq.1, hq.2]
  clear hq r v'
  show ST G mi_Mo_number 27 [(3, .int (nI 1)), (0, .ref 373), (1, .int x), (2, .int (nI 2))] [] (va_up v 67 (nI (s + 1))) 0 0 _
  have hv3 := hv.up (j := 67) (c := 4000) (k := (s + 1)) (by decide) (by omega)
  have hm4 := hm.go (mdf.up (v := v) (j := 67) (x := (nI (s + 1)))) (by intro i hi; simp only [List.mem_cons, List.not_mem_nil, or_false] at hi ⊢ <;> omega)
  have e_u2 : (va_up v 67 (nI (s + 1))) 67 = (nI (s + 1)) := by simp [va_up]
  generalize va_up v 67 (nI (s + 1)) = u2 at hv3 hm4 e_u2 ⊢
  refine ST.lift (fun _ _ k => T_iinc (x := nI 1) (L' := [(3, .int (nI 0)), (0, .ref 373), (1, .int x), (2, .int (nI 2))]) d_Mo_number_27 (by decide) rfl (by rw [show nI 1 + Int32.ofInt (-1) = nI 0 by decide]; rfl) k) ?_
  refine ST.lift (fun _ _ k => T_goto (tgt := 4) d_Mo_number_30 rfl k) ?_
  refine ST.lift (fun _ _ k => T_iload_n d_Mo_number_4 rfl k) ?_
  refine S_if_ltN d_Mo_number_5 rfl (by omega) (fun c => by first | exact absurd c (by omega) | exact c.elim | exact absurd c (by decide) | exact absurd (by assumption) c | exact absurd c (by assumption)) (fun _ => ?_)
  refine ST.lift (fun _ _ k => T_aload_n (v := .ref 373) d_Mo_number_8 rfl (Or.inr ⟨_, rfl⟩) k) ?_
  refine ST.lift (fun _ _ k => T_iload_n d_Mo_number_9 rfl k) ?_
  refine ST.lift (fun _ _ k => T_iconst (v := nI 3) d_Mo_number_10 (by decide) k) ?_
  refine S_icmp_leN d_Mo_number_11 rfl (by omega) (by omega) (fun _ => ?_) (fun c => by first | exact absurd c (by omega) | exact c.elim | exact absurd c (by decide) | exact absurd (by assumption) c | exact absurd c (by assumption))
  refine ST.lift (fun _ _ k => T_iload_n d_Mo_number_18 rfl k) ?_
  refine ST.lift (fun _ _ k => T_bipush (v := nI 8) d_Mo_number_19 (by decide) k) ?_
  refine ST.lift (fun _ _ k => T_iload_n d_Mo_number_21 rfl k) ?_
  refine S_imulN d_Mo_number_22 ?_
  refine S_topi (y := nI 0) (by decide) ?_
  refine ST.lift (fun _ _ k => T_ishr d_Mo_number_23 k) (S_anyi fun z5 => ?_)
  refine S_virtual (as := [.int z5]) (rest := []) (b := 373) d_Mo_number_24 rfl (jw_Mo_one.jo (by decide)) lm_Mo_11 ji_Mo_one js_Mo_one (w373 _) rfl rfl rfl (Nat.le_of_ble_eq_true rfl) (by decide) (by decide) (c_Mo_one G u2 z5 (s + 1) e_u2 (by omega) hv3) (fun r v' hq => ?_)
  rw [hq.1, hq.2]
  clear hq r v'
  show ST G mi_Mo_number 27 [(3, .int (nI 0)), (0, .ref 373), (1, .int x), (2, .int (nI 2))] [] (va_up u2 67 (nI ((s + 1) + 1))) 0 0 _
  have hv7 := hv3.up (j := 67) (c := 4000) (k := ((s + 1) + 1)) (by decide) (by omega)
  have hm8 := hm4.go (mdf.up (v := u2) (j := 67) (x := (nI ((s + 1) + 1)))) (by intro i hi; simp only [List.mem_cons, List.not_mem_nil, or_false] at hi ⊢ <;> omega)
  have e_u6 : (va_up u2 67 (nI ((s + 1) + 1))) 67 = (nI ((s + 1) + 1)) := by simp [va_up]
  generalize va_up u2 67 (nI ((s + 1) + 1)) = u6 at hv7 hm8 e_u6 ⊢
  refine S_iincD (a := 0) (L' := [(3, .int (nI 0 - 1)), (0, .ref 373), (1, .int x), (2, .int (nI 2))]) d_Mo_number_27 (by decide) rfl rfl ?_
  refine ST.lift (fun _ _ k => T_goto (tgt := 4) d_Mo_number_30 rfl k) ?_
  refine ST.lift (fun _ _ k => T_iload_n d_Mo_number_4 rfl k) ?_
  refine S_if_ltD d_Mo_number_5 rfl (by omega) (fun _ => ?_) (fun _ h => by omega)
  exact S_vret d_Mo_number_33 rfl (by decide) (by decide) (hQ _ ((s + 1) + 1) hv7 hm8 (by omega) e_u6)
set_option maxRecDepth 100000 in
set_option maxHeartbeats 4000000 in
theorem c_Mo_number_4 (G : GX) (v : Nat → Int32) (x : Int32) (s : Nat) (es : v 67 = nI s) (hs : s ≤ 3990) (hv : okv v) : CS G mi_Mo_number [.ref 373, .int x, .int (nI 4)] v (fun r v' => r = none ∧ okv v' ∧ mdf [67] v v' ∧ ∃ s', s' ≤ s + 4 ∧ v' 67 = nI s') := by
  refine CS.of (by decide) (Nat.le_of_ble_eq_true rfl) ?_
  generalize hQe : (fun (r : Option Value) (v' : Nat → Int32) => r = none ∧ okv v' ∧ mdf [67] v v' ∧ ∃ s', s' ≤ s + 4 ∧ v' 67 = nI s') = Q
  have hQ : ∀ (u : Nat → Int32) (s' : Nat) , okv u → mdf [67] v u → s' ≤ s + 4 → u 67 = nI s' → Q none u := by rw [← hQe]; exact fun u s' h1 h2 h3 h4 => ⟨rfl, h1, h2, s', h3, h4⟩
  clear hQe
  have hm : mdf [67] v v := mdf.rf
  show ST G mi_Mo_number 0 [(0, .ref 373), (1, .int x), (2, .int (nI 4))] [] v 0 0 Q
  refine ST.lift (fun _ _ k => T_iload_n d_Mo_number_0 rfl k) ?_
  refine ST.lift (fun _ _ k => T_iconst (v := nI 1) d_Mo_number_1 (by decide) k) ?_
  refine S_isubN d_Mo_number_2 (by omega) ?_
  refine S_topi (y := nI 3) (by decide) ?_
  refine ST.lift (fun _ _ k => T_istore_n (L' := [(3, .int (nI 3)), (0, .ref 373), (1, .int x), (2, .int (nI 4))]) d_Mo_number_3 (by decide) rfl k) ?_
  refine ST.lift (fun _ _ k => T_iload_n d_Mo_number_4 rfl k) ?_
  refine S_if_ltN d_Mo_number_5 rfl (by omega) (fun c => by first | exact absurd c (by omega) | exact c.elim | exact absurd c (by decide) | exact absurd (by assumption) c | exact absurd c (by assumption)) (fun _ => ?_)
  refine ST.lift (fun _ _ k => T_aload_n (v := .ref 373) d_Mo_number_8 rfl (Or.inr ⟨_, rfl⟩) k) ?_
  refine ST.lift (fun _ _ k => T_iload_n d_Mo_number_9 rfl k) ?_
  refine ST.lift (fun _ _ k => T_iconst (v := nI 3) d_Mo_number_10 (by decide) k) ?_
  refine S_icmp_leN d_Mo_number_11 rfl (by omega) (by omega) (fun _ => ?_) (fun c => by first | exact absurd c (by omega) | exact c.elim | exact absurd c (by decide) | exact absurd (by assumption) c | exact absurd c (by assumption))
  refine ST.lift (fun _ _ k => T_iload_n d_Mo_number_18 rfl k) ?_
  refine ST.lift (fun _ _ k => T_bipush (v := nI 8) d_Mo_number_19 (by decide) k) ?_
  refine ST.lift (fun _ _ k => T_iload_n d_Mo_number_21 rfl k) ?_
  refine S_imulN d_Mo_number_22 ?_
  refine S_topi (y := nI 24) (by decide) ?_
  refine ST.lift (fun _ _ k => T_ishr d_Mo_number_23 k) (S_anyi fun z1 => ?_)
  refine S_virtual (as := [.int z1]) (rest := []) (b := 373) d_Mo_number_24 rfl (jw_Mo_one.jo (by decide)) lm_Mo_11 ji_Mo_one js_Mo_one (w373 _) rfl rfl rfl (Nat.le_of_ble_eq_true rfl) (by decide) (by decide) (c_Mo_one G v z1 s es (by omega) hv) (fun r v' hq => ?_)
  rw [hq.1, hq.2]
  clear hq r v'
  show ST G mi_Mo_number 27 [(3, .int (nI 3)), (0, .ref 373), (1, .int x), (2, .int (nI 4))] [] (va_up v 67 (nI (s + 1))) 0 0 _
  have hv3 := hv.up (j := 67) (c := 4000) (k := (s + 1)) (by decide) (by omega)
  have hm4 := hm.go (mdf.up (v := v) (j := 67) (x := (nI (s + 1)))) (by intro i hi; simp only [List.mem_cons, List.not_mem_nil, or_false] at hi ⊢ <;> omega)
  have e_u2 : (va_up v 67 (nI (s + 1))) 67 = (nI (s + 1)) := by simp [va_up]
  generalize va_up v 67 (nI (s + 1)) = u2 at hv3 hm4 e_u2 ⊢
  refine ST.lift (fun _ _ k => T_iinc (x := nI 3) (L' := [(3, .int (nI 2)), (0, .ref 373), (1, .int x), (2, .int (nI 4))]) d_Mo_number_27 (by decide) rfl (by rw [show nI 3 + Int32.ofInt (-1) = nI 2 by decide]; rfl) k) ?_
  refine ST.lift (fun _ _ k => T_goto (tgt := 4) d_Mo_number_30 rfl k) ?_
  refine ST.lift (fun _ _ k => T_iload_n d_Mo_number_4 rfl k) ?_
  refine S_if_ltN d_Mo_number_5 rfl (by omega) (fun c => by first | exact absurd c (by omega) | exact c.elim | exact absurd c (by decide) | exact absurd (by assumption) c | exact absurd c (by assumption)) (fun _ => ?_)
  refine ST.lift (fun _ _ k => T_aload_n (v := .ref 373) d_Mo_number_8 rfl (Or.inr ⟨_, rfl⟩) k) ?_
  refine ST.lift (fun _ _ k => T_iload_n d_Mo_number_9 rfl k) ?_
  refine ST.lift (fun _ _ k => T_iconst (v := nI 3) d_Mo_number_10 (by decide) k) ?_
  refine S_icmp_leN d_Mo_number_11 rfl (by omega) (by omega) (fun _ => ?_) (fun c => by first | exact absurd c (by omega) | exact c.elim | exact absurd c (by decide) | exact absurd (by assumption) c | exact absurd c (by assumption))
  refine ST.lift (fun _ _ k => T_iload_n d_Mo_number_18 rfl k) ?_
  refine ST.lift (fun _ _ k => T_bipush (v := nI 8) d_Mo_number_19 (by decide) k) ?_
  refine ST.lift (fun _ _ k => T_iload_n d_Mo_number_21 rfl k) ?_
  refine S_imulN d_Mo_number_22 ?_
  refine S_topi (y := nI 16) (by decide) ?_
  refine ST.lift (fun _ _ k => T_ishr d_Mo_number_23 k) (S_anyi fun z5 => ?_)
  refine S_virtual (as := [.int z5]) (rest := []) (b := 373) d_Mo_number_24 rfl (jw_Mo_one.jo (by decide)) lm_Mo_11 ji_Mo_one js_Mo_one (w373 _) rfl rfl rfl (Nat.le_of_ble_eq_true rfl) (by decide) (by decide) (c_Mo_one G u2 z5 (s + 1) e_u2 (by omega) hv3) (fun r v' hq => ?_)
  rw [hq.1, hq.2]
  clear hq r v'
  show ST G mi_Mo_number 27 [(3, .int (nI 2)), (0, .ref 373), (1, .int x), (2, .int (nI 4))] [] (va_up u2 67 (nI ((s + 1) + 1))) 0 0 _
  have hv7 := hv3.up (j := 67) (c := 4000) (k := ((s + 1) + 1)) (by decide) (by omega)
  have hm8 := hm4.go (mdf.up (v := u2) (j := 67) (x := (nI ((s + 1) + 1)))) (by intro i hi; simp only [List.mem_cons, List.not_mem_nil, or_false] at hi ⊢ <;> omega)
  have e_u6 : (va_up u2 67 (nI ((s + 1) + 1))) 67 = (nI ((s + 1) + 1)) := by simp [va_up]
  generalize va_up u2 67 (nI ((s + 1) + 1)) = u6 at hv7 hm8 e_u6 ⊢
  refine ST.lift (fun _ _ k => T_iinc (x := nI 2) (L' := [(3, .int (nI 1)), (0, .ref 373), (1, .int x), (2, .int (nI 4))]) d_Mo_number_27 (by decide) rfl (by rw [show nI 2 + Int32.ofInt (-1) = nI 1 by decide]; rfl) k) ?_
  refine ST.lift (fun _ _ k => T_goto (tgt := 4) d_Mo_number_30 rfl k) ?_
  refine ST.lift (fun _ _ k => T_iload_n d_Mo_number_4 rfl k) ?_
  refine S_if_ltN d_Mo_number_5 rfl (by omega) (fun c => by first | exact absurd c (by omega) | exact c.elim | exact absurd c (by decide) | exact absurd (by assumption) c | exact absurd c (by assumption)) (fun _ => ?_)
  refine ST.lift (fun _ _ k => T_aload_n (v := .ref 373) d_Mo_number_8 rfl (Or.inr ⟨_, rfl⟩) k) ?_
  refine ST.lift (fun _ _ k => T_iload_n d_Mo_number_9 rfl k) ?_
  refine ST.lift (fun _ _ k => T_iconst (v := nI 3) d_Mo_number_10 (by decide) k) ?_
  refine S_icmp_leN d_Mo_number_11 rfl (by omega) (by omega) (fun _ => ?_) (fun c => by first | exact absurd c (by omega) | exact c.elim | exact absurd c (by decide) | exact absurd (by assumption) c | exact absurd c (by assumption))
  refine ST.lift (fun _ _ k => T_iload_n d_Mo_number_18 rfl k) ?_
  refine ST.lift (fun _ _ k => T_bipush (v := nI 8) d_Mo_number_19 (by decide) k) ?_
  refine ST.lift (fun _ _ k => T_iload_n d_Mo_number_21 rfl k) ?_
  refine S_imulN d_Mo_number_22 ?_
  refine S_topi (y := nI 8) (by decide) ?_
  refine ST.lift (fun _ _ k => T_ishr d_Mo_number_23 k) (S_anyi fun z9 => ?_)
  refine S_virtual (as := [.int z9]) (rest := []) (b := 373) d_Mo_number_24 rfl (jw_Mo_one.jo (by decide)) lm_Mo_11 ji_Mo_one js_Mo_one (w373 _) rfl rfl rfl (Nat.le_of_ble_eq_true rfl) (by decide) (by decide) (c_Mo_one G u6 z9 ((s + 1) + 1) e_u6 (by omega) hv7) (fun r v' hq => ?_)
  rw [hq.1, hq.2]
  clear hq r v'
  show ST G mi_Mo_number 27 [(3, .int (nI 1)), (0, .ref 373), (1, .int x), (2, .int (nI 4))] [] (va_up u6 67 (nI (((s + 1) + 1) + 1))) 0 0 _
  have hv11 := hv7.up (j := 67) (c := 4000) (k := (((s + 1) + 1) + 1)) (by decide) (by omega)
  have hm12 := hm8.go (mdf.up (v := u6) (j := 67) (x := (nI (((s + 1) + 1) + 1)))) (by intro i hi; simp only [List.mem_cons, List.not_mem_nil, or_false] at hi ⊢ <;> omega)
  have e_u10 : (va_up u6 67 (nI (((s + 1) + 1) + 1))) 67 = (nI (((s + 1) + 1) + 1)) := by simp [va_up]
  generalize va_up u6 67 (nI (((s + 1) + 1) + 1)) = u10 at hv11 hm12 e_u10 ⊢
  refine ST.lift (fun _ _ k => T_iinc (x := nI 1) (L' := [(3, .int (nI 0)), (0, .ref 373), (1, .int x), (2, .int (nI 4))]) d_Mo_number_27 (by decide) rfl (by rw [show nI 1 + Int32.ofInt (-1) = nI 0 by decide]; rfl) k) ?_
  refine ST.lift (fun _ _ k => T_goto (tgt := 4) d_Mo_number_30 rfl k) ?_
  refine ST.lift (fun _ _ k => T_iload_n d_Mo_number_4 rfl k) ?_
  refine S_if_ltN d_Mo_number_5 rfl (by omega) (fun c => by first | exact absurd c (by omega) | exact c.elim | exact absurd c (by decide) | exact absurd (by assumption) c | exact absurd c (by assumption)) (fun _ => ?_)
  refine ST.lift (fun _ _ k => T_aload_n (v := .ref 373) d_Mo_number_8 rfl (Or.inr ⟨_, rfl⟩) k) ?_
  refine ST.lift (fun _ _ k => T_iload_n d_Mo_number_9 rfl k) ?_
  refine ST.lift (fun _ _ k => T_iconst (v := nI 3) d_Mo_number_10 (by decide) k) ?_
  refine S_icmp_leN d_Mo_number_11 rfl (by omega) (by omega) (fun _ => ?_) (fun c => by first | exact absurd c (by omega) | exact c.elim | exact absurd c (by decide) | exact absurd (by assumption) c | exact absurd c (by assumption))
  refine ST.lift (fun _ _ k => T_iload_n d_Mo_number_18 rfl k) ?_
  refine ST.lift (fun _ _ k => T_bipush (v := nI 8) d_Mo_number_19 (by decide) k) ?_
  refine ST.lift (fun _ _ k => T_iload_n d_Mo_number_21 rfl k) ?_
  refine S_imulN d_Mo_number_22 ?_
  refine S_topi (y := nI 0) (by decide) ?_
  refine ST.lift (fun _ _ k => T_ishr d_Mo_number_23 k) (S_anyi fun z13 => ?_)
  refine S_virtual (as := [.int z13]) (rest := []) (b := 373) d_Mo_number_24 rfl (jw_Mo_one.jo (by decide)) lm_Mo_11 ji_Mo_one js_Mo_one (w373 _) rfl rfl rfl (Nat.le_of_ble_eq_true rfl) (by decide) (by decide) (c_Mo_one G u10 z13 (((s + 1) + 1) + 1) e_u10 (by omega) hv11) (fun r v' hq => ?_)
  rw [hq.1, hq.2]
  clear hq r v'
  show ST G mi_Mo_number 27 [(3, .int (nI 0)), (0, .ref 373), (1, .int x), (2, .int (nI 4))] [] (va_up u10 67 (nI ((((s + 1) + 1) + 1) + 1))) 0 0 _
  have hv15 := hv11.up (j := 67) (c := 4000) (k := ((((s + 1) + 1) + 1) + 1)) (by decide) (by omega)
  have hm16 := hm12.go (mdf.up (v := u10) (j := 67) (x := (nI ((((s + 1) + 1) + 1) + 1)))) (by intro i hi; simp only [List.mem_cons, List.not_mem_nil, or_false] at hi ⊢ <;> omega)
  have e_u14 : (va_up u10 67 (nI ((((s + 1) + 1) + 1) + 1))) 67 = (nI ((((s + 1) + 1) + 1) + 1)) := by simp [va_up]
  generalize va_up u10 67 (nI ((((s + 1) + 1) + 1) + 1)) = u14 at hv15 hm16 e_u14 ⊢
  refine S_iincD (a := 0) (L' := [(3, .int (nI 0 - 1)), (0, .ref 373), (1, .int x), (2, .int (nI 4))]) d_Mo_number_27 (by decide) rfl rfl ?_
  refine ST.lift (fun _ _ k => T_goto (tgt := 4) d_Mo_number_30 rfl k) ?_
  refine ST.lift (fun _ _ k => T_iload_n d_Mo_number_4 rfl k) ?_
  refine S_if_ltD d_Mo_number_5 rfl (by omega) (fun _ => ?_) (fun _ h => by omega)
  exact S_vret d_Mo_number_33 rfl (by decide) (by decide) (hQ _ ((((s + 1) + 1) + 1) + 1) hv15 hm16 (by omega) e_u14)
set_option maxRecDepth 100000 in
set_option maxHeartbeats 4000000 in
theorem c_Mo_bytes (G : GX) (v : Nat → Int32) (src m : Nat) (w_src : K0 ≤ src) (a_src : aI src m) (l_src : m ≤ 4000) (pos : Nat) (b_pos : pos ≤ 4000) (n : Nat) (b_n : pos + n ≤ m) (s : Nat) (es : v 67 = nI s) (hs : s + n ≤ 4000) (hv : okv v) : CS G mi_Mo_bytes [.ref 373, .ref src, .int (nI pos), .int (nI n)] v (fun r v' => r = none ∧ okv v' ∧ mdf [67] v v' ∧ ∃ s', s' ≤ s + n ∧ v' 67 = nI s') := by
  refine CS.of (by decide) (Nat.le_of_ble_eq_true rfl) ?_
  generalize hQe : (fun (r : Option Value) (v' : Nat → Int32) => r = none ∧ okv v' ∧ mdf [67] v v' ∧ ∃ s', s' ≤ s + n ∧ v' 67 = nI s') = Q
  have hQ : ∀ (u : Nat → Int32) (s' : Nat) , okv u → mdf [67] v u → s' ≤ s + n → u 67 = nI s' → Q none u := by rw [← hQe]; exact fun u s' h1 h2 h3 h4 => ⟨rfl, h1, h2, s', h3, h4⟩
  clear hQe
  have hm : mdf [67] v v := mdf.rf
  show ST G mi_Mo_bytes 0 [(0, .ref 373), (1, .ref src), (2, .int (nI pos)), (3, .int (nI n))] [] v 0 0 Q
  refine ST.lift (fun _ _ k => T_iconst (v := nI 0) d_Mo_bytes_0 (by decide) k) ?_
  refine ST.lift (fun _ _ k => T_istore (L' := [(4, .int (nI 0)), (0, .ref 373), (1, .ref src), (2, .int (nI pos)), (3, .int (nI n))]) d_Mo_bytes_1 (by decide) rfl k) ?_
  have lp5 : ∀ (n3 k1 : Nat) (u2 : Nat → Int32) (hv_u2 : okv u2) (hm_u2 : mdf [67] v u2) (es_u2 : u2 67 = nI (s + k1)), n - k1 = n3 → 0 ≤ k1 ∧ k1 ≤ 0 + n → ST G mi_Mo_bytes 3 [(4, .int (nI k1)), (0, .ref 373), (1, .ref src), (2, .int (nI pos)), (3, .int (nI n))] [] u2 0 0 Q := by
    intro n3
    induction n3 using Nat.strongRecOn with
    | _ n3 ih4 =>
      intro k1 u2 hv_u2 hm_u2 es_u2 h6 h7
      refine ST.lift (fun _ _ k => T_iload d_Mo_bytes_3 rfl k) ?_
      refine ST.lift (fun _ _ k => T_iload_n d_Mo_bytes_5 rfl k) ?_
      refine S_icmp_geN d_Mo_bytes_6 rfl (by omega) (by omega) (fun c8 => ?_) (fun c8 => ?_)
      · exact S_vret d_Mo_bytes_25 rfl (by decide) (by decide) (hQ _ (s + k1) hv_u2 hm_u2 (by omega) es_u2)
      · refine ST.lift (fun _ _ k => T_aload_n (v := .ref 373) d_Mo_bytes_9 rfl (Or.inr ⟨_, rfl⟩) k) ?_
        refine ST.lift (fun _ _ k => T_aload_n (v := .ref src) d_Mo_bytes_10 rfl (Or.inr ⟨_, rfl⟩) k) ?_
        refine ST.lift (fun _ _ k => T_iload_n d_Mo_bytes_11 rfl k) ?_
        refine ST.lift (fun _ _ k => T_iload d_Mo_bytes_12 rfl k) ?_
        refine S_iaddN d_Mo_bytes_14 ?_
        refine S_iaload d_Mo_bytes_15 a_src (vp_in_nI (by omega) (by omega)) (fun z9 => ?_)
        refine S_virtual (as := [.int z9]) (rest := []) (b := 373) d_Mo_bytes_16 rfl (jw_Mo_one.jo (by decide)) lm_Mo_11 ji_Mo_one js_Mo_one (w373 _) rfl rfl rfl (Nat.le_of_ble_eq_true rfl) (by decide) (by decide) (c_Mo_one G u2 z9 (s + k1) es_u2 (by omega) hv_u2) (fun r v' hq => ?_)
        rw [hq.1, hq.2]
        clear hq r v'
        show ST G mi_Mo_bytes 19 [(4, .int (nI k1)), (0, .ref 373), (1, .ref src), (2, .int (nI pos)), (3, .int (nI n))] [] (va_up u2 67 (nI ((s + k1) + 1))) 0 0 _
        have hv11 := hv_u2.up (j := 67) (c := 4000) (k := ((s + k1) + 1)) (by decide) (by omega)
        have hm12 := hm_u2.go (mdf.up (v := u2) (j := 67) (x := (nI ((s + k1) + 1)))) (by intro i hi; simp only [List.mem_cons, List.not_mem_nil, or_false] at hi ⊢ <;> omega)
        have e_u10 : (va_up u2 67 (nI ((s + k1) + 1))) 67 = (nI ((s + k1) + 1)) := by simp [va_up]
        generalize va_up u2 67 (nI ((s + k1) + 1)) = u10 at hv11 hm12 e_u10 ⊢
        refine S_iincN (a := k1) (b := 1) (L' := [(4, .int (nI (k1 + 1))), (0, .ref 373), (1, .ref src), (2, .int (nI pos)), (3, .int (nI n))]) d_Mo_bytes_19 (by decide) rfl rfl rfl ?_
        refine ST.lift (fun _ _ k => T_goto (tgt := 3) d_Mo_bytes_22 rfl k) ?_
        exact ih4 (n - (k1 + 1)) (by omega) (k1 + 1)  u10 hv11 hm12 (e_u10.trans (congrArg nI (by omega))) rfl (by omega)
  exact lp5 _ 0  v hv hm (es.trans (congrArg nI (by omega))) rfl (by omega)
set_option maxRecDepth 100000 in
set_option maxHeartbeats 4000000 in
theorem c_Mo_hash0 (G : GX) (v : Nat → Int32) (s : Nat) (es : v 67 = nI s) (hs : s ≤ 3800) (hv : okv v) : CS G mi_Mo_hash0 [.ref 373] v (fun r v' => r = none ∧ okv v' ∧ mdf [67] v v' ∧ v' 67 = nI 0) := by
  refine CS.of (by decide) (Nat.le_of_ble_eq_true rfl) ?_
  generalize hQe : (fun (r : Option Value) (v' : Nat → Int32) => r = none ∧ okv v' ∧ mdf [67] v v' ∧ v' 67 = nI 0) = Q
  have hQ : ∀ (u : Nat → Int32) , okv u → mdf [67] v u → u 67 = nI 0 → Q none u := by rw [← hQe]; exact fun u h1 h2 h3 => ⟨rfl, h1, h2, h3⟩
  clear hQe
  have hm : mdf [67] v v := mdf.rf
  show ST G mi_Mo_hash0 0 [(0, .ref 373)] [] v 0 0 Q
  refine ST.lift (fun _ _ k => T_ldc2 d_Mo_hash0_0 kJ_Mo_45 k) ?_
  refine ST.lift (fun _ _ k => T_aload_n (v := .ref 373) d_Mo_hash0_3 rfl (Or.inr ⟨_, rfl⟩) k) ?_
  refine S_getfield d_Mo_hash0_4 fg_Mo_7 (w373 _) rfl ?_
  refine S_topi (y := nI s) (es) ?_
  refine ST.lift (fun _ _ k => T_i2l d_Mo_hash0_7 k) (S_anyl fun z1 => ?_)
  refine ST.lift (fun _ _ k => T_lmul d_Mo_hash0_8 k) (S_anyl fun z2 => ?_)
  refine ST.lift (fun _ _ k => T_lstore_n (L' := [(1, .long z2), (0, .ref 373)]) d_Mo_hash0_9 (by decide) rfl k) ?_
  refine ST.lift (fun _ _ k => T_aload_n (v := .ref 373) d_Mo_hash0_10 rfl (Or.inr ⟨_, rfl⟩) k) ?_
  refine ST.lift (fun _ _ k => T_sipush (v := nI 128) d_Mo_hash0_11 (by decide) k) ?_
  refine S_virtual (as := [.int (nI 128)]) (rest := []) (b := 373) d_Mo_hash0_14 rfl (jw_Mo_one.jo (by decide)) lm_Mo_11 ji_Mo_one js_Mo_one (w373 _) rfl rfl rfl (Nat.le_of_ble_eq_true rfl) (by decide) (by decide) (c_Mo_one G v (nI 128) s es (by omega) hv) (fun r v' hq => ?_)
  rw [hq.1, hq.2]
  clear hq r v'
  show ST G mi_Mo_hash0 17 [(1, .long z2), (0, .ref 373)] [] (va_up v 67 (nI (s + 1))) 0 0 _
  have hv4 := hv.up (j := 67) (c := 4000) (k := (s + 1)) (by decide) (by omega)
  have hm5 := hm.go (mdf.up (v := v) (j := 67) (x := (nI (s + 1)))) (by intro i hi; simp only [List.mem_cons, List.not_mem_nil, or_false] at hi ⊢ <;> omega)
  have e_u3 : (va_up v 67 (nI (s + 1))) 67 = (nI (s + 1)) := by simp [va_up]
  generalize va_up v 67 (nI (s + 1)) = u3 at hv4 hm5 e_u3 ⊢
  obtain ⟨T6, hT1, hT2, hT3⟩ : ∃ T, (s + 1) ≤ T ∧ T % 128 = 112 ∧ T < (s + 1) + 128 := ⟨(s + 1) + (240 - (s + 1) % 128) % 128, by omega, by omega, by omega⟩
  have lp10 : ∀ (n7 k8 : Nat) (u11 : Nat → Int32) (hv_u11 : okv u11) (hm_u11 : mdf [67] v u11) (es_u11 : u11 67 = nI k8), T6 - k8 = n7 → (s + 1) ≤ k8 ∧ k8 ≤ T6 → ST G mi_Mo_hash0 17 [(1, .long z2), (0, .ref 373)] [] u11 0 0 Q := by
    intro n7
    induction n7 using Nat.strongRecOn with
    | _ n7 ih9 =>
      intro k8 u11 hv_u11 hm_u11 es_u11 hn_k8 hk_k8
      refine ST.lift (fun _ _ k => T_aload_n (v := .ref 373) d_Mo_hash0_17 rfl (Or.inr ⟨_, rfl⟩) k) ?_
      refine S_getfield d_Mo_hash0_18 fg_Mo_7 (w373 _) rfl ?_
      refine S_topi (y := nI k8) (es_u11) ?_
      refine ST.lift (fun _ _ k => T_sipush (v := nI 128) d_Mo_hash0_21 (by decide) k) ?_
      refine S_iremN d_Mo_hash0_24 (by omega) (by omega) (by omega) ?_
      refine ST.lift (fun _ _ k => T_bipush (v := nI 112) d_Mo_hash0_25 (by decide) k) ?_
      refine S_icmp_eqN d_Mo_hash0_27 rfl (by omega) (by omega) (fun c12 => ?_) (fun c12 => ?_)
      · refine ST.lift (fun _ _ k => T_iconst (v := nI 0) d_Mo_hash0_38 (by decide) k) ?_
        refine ST.lift (fun _ _ k => T_istore_n (L' := [(3, .int (nI 0)), (1, .long z2), (0, .ref 373)]) d_Mo_hash0_39 (by decide) rfl k) ?_
        refine ST.lift (fun _ _ k => T_iload_n d_Mo_hash0_40 rfl k) ?_
        refine ST.lift (fun _ _ k => T_bipush (v := nI 8) d_Mo_hash0_41 (by decide) k) ?_
        refine S_icmp_geN d_Mo_hash0_43 rfl (by omega) (by omega) (fun c => by first | exact absurd c (by omega) | exact c.elim | exact absurd c (by decide) | exact absurd (by assumption) c | exact absurd c (by assumption)) (fun _ => ?_)
        refine ST.lift (fun _ _ k => T_aload_n (v := .ref 373) d_Mo_hash0_46 rfl (Or.inr ⟨_, rfl⟩) k) ?_
        refine ST.lift (fun _ _ k => T_iconst (v := nI 0) d_Mo_hash0_47 (by decide) k) ?_
        refine S_virtual (as := [.int (nI 0)]) (rest := []) (b := 373) d_Mo_hash0_48 rfl (jw_Mo_one.jo (by decide)) lm_Mo_11 ji_Mo_one js_Mo_one (w373 _) rfl rfl rfl (Nat.le_of_ble_eq_true rfl) (by decide) (by decide) (c_Mo_one G u11 (nI 0) k8 es_u11 (by omega) hv_u11) (fun r v' hq => ?_)
        rw [hq.1, hq.2]
        clear hq r v'
        show ST G mi_Mo_hash0 51 [(3, .int (nI 0)), (1, .long z2), (0, .ref 373)] [] (va_up u11 67 (nI (k8 + 1))) 0 0 _
        have hv17 := hv_u11.up (j := 67) (c := 4000) (k := (k8 + 1)) (by decide) (by omega)
        have hm18 := hm_u11.go (mdf.up (v := u11) (j := 67) (x := (nI (k8 + 1)))) (by intro i hi; simp only [List.mem_cons, List.not_mem_nil, or_false] at hi ⊢ <;> omega)
        have e_u16 : (va_up u11 67 (nI (k8 + 1))) 67 = (nI (k8 + 1)) := by simp [va_up]
        generalize va_up u11 67 (nI (k8 + 1)) = u16 at hv17 hm18 e_u16 ⊢
        refine S_iincN (a := 0) (b := 1) (L' := [(3, .int (nI 1)), (1, .long z2), (0, .ref 373)]) d_Mo_hash0_51 (by decide) rfl rfl rfl ?_
        refine ST.lift (fun _ _ k => T_goto (tgt := 40) d_Mo_hash0_54 rfl k) ?_
        refine ST.lift (fun _ _ k => T_iload_n d_Mo_hash0_40 rfl k) ?_
        refine ST.lift (fun _ _ k => T_bipush (v := nI 8) d_Mo_hash0_41 (by decide) k) ?_
        refine S_icmp_geN d_Mo_hash0_43 rfl (by omega) (by omega) (fun c => by first | exact absurd c (by omega) | exact c.elim | exact absurd c (by decide) | exact absurd (by assumption) c | exact absurd c (by assumption)) (fun _ => ?_)
        refine ST.lift (fun _ _ k => T_aload_n (v := .ref 373) d_Mo_hash0_46 rfl (Or.inr ⟨_, rfl⟩) k) ?_
        refine ST.lift (fun _ _ k => T_iconst (v := nI 0) d_Mo_hash0_47 (by decide) k) ?_
        refine S_virtual (as := [.int (nI 0)]) (rest := []) (b := 373) d_Mo_hash0_48 rfl (jw_Mo_one.jo (by decide)) lm_Mo_11 ji_Mo_one js_Mo_one (w373 _) rfl rfl rfl (Nat.le_of_ble_eq_true rfl) (by decide) (by decide) (c_Mo_one G u16 (nI 0) (k8 + 1) e_u16 (by omega) hv17) (fun r v' hq => ?_)
        rw [hq.1, hq.2]
        clear hq r v'
        show ST G mi_Mo_hash0 51 [(3, .int (nI 1)), (1, .long z2), (0, .ref 373)] [] (va_up u16 67 (nI ((k8 + 1) + 1))) 0 0 _
        have hv20 := hv17.up (j := 67) (c := 4000) (k := ((k8 + 1) + 1)) (by decide) (by omega)
        have hm21 := hm18.go (mdf.up (v := u16) (j := 67) (x := (nI ((k8 + 1) + 1)))) (by intro i hi; simp only [List.mem_cons, List.not_mem_nil, or_false] at hi ⊢ <;> omega)
        have e_u19 : (va_up u16 67 (nI ((k8 + 1) + 1))) 67 = (nI ((k8 + 1) + 1)) := by simp [va_up]
        generalize va_up u16 67 (nI ((k8 + 1) + 1)) = u19 at hv20 hm21 e_u19 ⊢
        refine S_iincN (a := 1) (b := 1) (L' := [(3, .int (nI 2)), (1, .long z2), (0, .ref 373)]) d_Mo_hash0_51 (by decide) rfl rfl rfl ?_
        refine ST.lift (fun _ _ k => T_goto (tgt := 40) d_Mo_hash0_54 rfl k) ?_
        refine ST.lift (fun _ _ k => T_iload_n d_Mo_hash0_40 rfl k) ?_
        refine ST.lift (fun _ _ k => T_bipush (v := nI 8) d_Mo_hash0_41 (by decide) k) ?_
        refine S_icmp_geN d_Mo_hash0_43 rfl (by omega) (by omega) (fun c => by first | exact absurd c (by omega) | exact c.elim | exact absurd c (by decide) | exact absurd (by assumption) c | exact absurd c (by assumption)) (fun _ => ?_)
        refine ST.lift (fun _ _ k => T_aload_n (v := .ref 373) d_Mo_hash0_46 rfl (Or.inr ⟨_, rfl⟩) k) ?_
        refine ST.lift (fun _ _ k => T_iconst (v := nI 0) d_Mo_hash0_47 (by decide) k) ?_
        refine S_virtual (as := [.int (nI 0)]) (rest := []) (b := 373) d_Mo_hash0_48 rfl (jw_Mo_one.jo (by decide)) lm_Mo_11 ji_Mo_one js_Mo_one (w373 _) rfl rfl rfl (Nat.le_of_ble_eq_true rfl) (by decide) (by decide) (c_Mo_one G u19 (nI 0) ((k8 + 1) + 1) e_u19 (by omega) hv20) (fun r v' hq => ?_)
        rw [hq.1, hq.2]
        clear hq r v'
        show ST G mi_Mo_hash0 51 [(3, .int (nI 2)), (1, .long z2), (0, .ref 373)] [] (va_up u19 67 (nI (((k8 + 1) + 1) + 1))) 0 0 _
        have hv23 := hv20.up (j := 67) (c := 4000) (k := (((k8 + 1) + 1) + 1)) (by decide) (by omega)
        have hm24 := hm21.go (mdf.up (v := u19) (j := 67) (x := (nI (((k8 + 1) + 1) + 1)))) (by intro i hi; simp only [List.mem_cons, List.not_mem_nil, or_false] at hi ⊢ <;> omega)
        have e_u22 : (va_up u19 67 (nI (((k8 + 1) + 1) + 1))) 67 = (nI (((k8 + 1) + 1) + 1)) := by simp [va_up]
        generalize va_up u19 67 (nI (((k8 + 1) + 1) + 1)) = u22 at hv23 hm24 e_u22 ⊢
        refine S_iincN (a := 2) (b := 1) (L' := [(3, .int (nI 3)), (1, .long z2), (0, .ref 373)]) d_Mo_hash0_51 (by decide) rfl rfl rfl ?_
        refine ST.lift (fun _ _ k => T_goto (tgt := 40) d_Mo_hash0_54 rfl k) ?_
        refine ST.lift (fun _ _ k => T_iload_n d_Mo_hash0_40 rfl k) ?_
        refine ST.lift (fun _ _ k => T_bipush (v := nI 8) d_Mo_hash0_41 (by decide) k) ?_
        refine S_icmp_geN d_Mo_hash0_43 rfl (by omega) (by omega) (fun c => by first | exact absurd c (by omega) | exact c.elim | exact absurd c (by decide) | exact absurd (by assumption) c | exact absurd c (by assumption)) (fun _ => ?_)
        refine ST.lift (fun _ _ k => T_aload_n (v := .ref 373) d_Mo_hash0_46 rfl (Or.inr ⟨_, rfl⟩) k) ?_
        refine ST.lift (fun _ _ k => T_iconst (v := nI 0) d_Mo_hash0_47 (by decide) k) ?_
        refine S_virtual (as := [.int (nI 0)]) (rest := []) (b := 373) d_Mo_hash0_48 rfl (jw_Mo_one.jo (by decide)) lm_Mo_11 ji_Mo_one js_Mo_one (w373 _) rfl rfl rfl (Nat.le_of_ble_eq_true rfl) (by decide) (by decide) (c_Mo_one G u22 (nI 0) (((k8 + 1) + 1) + 1) e_u22 (by omega) hv23) (fun r v' hq => ?_)
        rw [hq.1, hq.2]
        clear hq r v'
        show ST G mi_Mo_hash0 51 [(3, .int (nI 3)), (1, .long z2), (0, .ref 373)] [] (va_up u22 67 (nI ((((k8 + 1) + 1) + 1) + 1))) 0 0 _
        have hv26 := hv23.up (j := 67) (c := 4000) (k := ((((k8 + 1) + 1) + 1) + 1)) (by decide) (by omega)
        have hm27 := hm24.go (mdf.up (v := u22) (j := 67) (x := (nI ((((k8 + 1) + 1) + 1) + 1)))) (by intro i hi; simp only [List.mem_cons, List.not_mem_nil, or_false] at hi ⊢ <;> omega)
        have e_u25 : (va_up u22 67 (nI ((((k8 + 1) + 1) + 1) + 1))) 67 = (nI ((((k8 + 1) + 1) + 1) + 1)) := by simp [va_up]
        generalize va_up u22 67 (nI ((((k8 + 1) + 1) + 1) + 1)) = u25 at hv26 hm27 e_u25 ⊢
        refine S_iincN (a := 3) (b := 1) (L' := [(3, .int (nI 4)), (1, .long z2), (0, .ref 373)]) d_Mo_hash0_51 (by decide) rfl rfl rfl ?_
        refine ST.lift (fun _ _ k => T_goto (tgt := 40) d_Mo_hash0_54 rfl k) ?_
        refine ST.lift (fun _ _ k => T_iload_n d_Mo_hash0_40 rfl k) ?_
        refine ST.lift (fun _ _ k => T_bipush (v := nI 8) d_Mo_hash0_41 (by decide) k) ?_
        refine S_icmp_geN d_Mo_hash0_43 rfl (by omega) (by omega) (fun c => by first | exact absurd c (by omega) | exact c.elim | exact absurd c (by decide) | exact absurd (by assumption) c | exact absurd c (by assumption)) (fun _ => ?_)
        refine ST.lift (fun _ _ k => T_aload_n (v := .ref 373) d_Mo_hash0_46 rfl (Or.inr ⟨_, rfl⟩) k) ?_
        refine ST.lift (fun _ _ k => T_iconst (v := nI 0) d_Mo_hash0_47 (by decide) k) ?_
        refine S_virtual (as := [.int (nI 0)]) (rest := []) (b := 373) d_Mo_hash0_48 rfl (jw_Mo_one.jo (by decide)) lm_Mo_11 ji_Mo_one js_Mo_one (w373 _) rfl rfl rfl (Nat.le_of_ble_eq_true rfl) (by decide) (by decide) (c_Mo_one G u25 (nI 0) ((((k8 + 1) + 1) + 1) + 1) e_u25 (by omega) hv26) (fun r v' hq => ?_)
        rw [hq.1, hq.2]
        clear hq r v'
        show ST G mi_Mo_hash0 51 [(3, .int (nI 4)), (1, .long z2), (0, .ref 373)] [] (va_up u25 67 (nI (((((k8 + 1) + 1) + 1) + 1) + 1))) 0 0 _
        have hv29 := hv26.up (j := 67) (c := 4000) (k := (((((k8 + 1) + 1) + 1) + 1) + 1)) (by decide) (by omega)
        have hm30 := hm27.go (mdf.up (v := u25) (j := 67) (x := (nI (((((k8 + 1) + 1) + 1) + 1) + 1)))) (by intro i hi; simp only [List.mem_cons, List.not_mem_nil, or_false] at hi ⊢ <;> omega)
        have e_u28 : (va_up u25 67 (nI (((((k8 + 1) + 1) + 1) + 1) + 1))) 67 = (nI (((((k8 + 1) + 1) + 1) + 1) + 1)) := by simp [va_up]
        generalize va_up u25 67 (nI (((((k8 + 1) + 1) + 1) + 1) + 1)) = u28 at hv29 hm30 e_u28 ⊢
        refine S_iincN (a := 4) (b := 1) (L' := [(3, .int (nI 5)), (1, .long z2), (0, .ref 373)]) d_Mo_hash0_51 (by decide) rfl rfl rfl ?_
        refine ST.lift (fun _ _ k => T_goto (tgt := 40) d_Mo_hash0_54 rfl k) ?_
        refine ST.lift (fun _ _ k => T_iload_n d_Mo_hash0_40 rfl k) ?_
        refine ST.lift (fun _ _ k => T_bipush (v := nI 8) d_Mo_hash0_41 (by decide) k) ?_
        refine S_icmp_geN d_Mo_hash0_43 rfl (by omega) (by omega) (fun c => by first | exact absurd c (by omega) | exact c.elim | exact absurd c (by decide) | exact absurd (by assumption) c | exact absurd c (by assumption)) (fun _ => ?_)
        refine ST.lift (fun _ _ k => T_aload_n (v := .ref 373) d_Mo_hash0_46 rfl (Or.inr ⟨_, rfl⟩) k) ?_
        refine ST.lift (fun _ _ k => T_iconst (v := nI 0) d_Mo_hash0_47 (by decide) k) ?_
        refine S_virtual (as := [.int (nI 0)]) (rest := []) (b := 373) d_Mo_hash0_48 rfl (jw_Mo_one.jo (by decide)) lm_Mo_11 ji_Mo_one js_Mo_one (w373 _) rfl rfl rfl (Nat.le_of_ble_eq_true rfl) (by decide) (by decide) (c_Mo_one G u28 (nI 0) (((((k8 + 1) + 1) + 1) + 1) + 1) e_u28 (by omega) hv29) (fun r v' hq => ?_)
        rw [hq.1, hq.2]
        clear hq r v'
        show ST G mi_Mo_hash0 51 [(3, .int (nI 5)), (1, .long z2), (0, .ref 373)] [] (va_up u28 67 (nI ((((((k8 + 1) + 1) + 1) + 1) + 1) + 1))) 0 0 _
        have hv32 := hv29.up (j := 67) (c := 4000) (k := ((((((k8 + 1) + 1) + 1) + 1) + 1) + 1)) (by decide) (by omega)
        have hm33 := hm30.go (mdf.up (v := u28) (j := 67) (x := (nI ((((((k8 + 1) + 1) + 1) + 1) + 1) + 1)))) (by intro i hi; simp only [List.mem_cons, List.not_mem_nil, or_false] at hi ⊢ <;> omega)
        have e_u31 : (va_up u28 67 (nI ((((((k8 + 1) + 1) + 1) + 1) + 1) + 1))) 67 = (nI ((((((k8 + 1) + 1) + 1) + 1) + 1) + 1)) := by simp [va_up]
        generalize va_up u28 67 (nI ((((((k8 + 1) + 1) + 1) + 1) + 1) + 1)) = u31 at hv32 hm33 e_u31 ⊢
        refine S_iincN (a := 5) (b := 1) (L' := [(3, .int (nI 6)), (1, .long z2), (0, .ref 373)]) d_Mo_hash0_51 (by decide) rfl rfl rfl ?_
        refine ST.lift (fun _ _ k => T_goto (tgt := 40) d_Mo_hash0_54 rfl k) ?_
        refine ST.lift (fun _ _ k => T_iload_n d_Mo_hash0_40 rfl k) ?_
        refine ST.lift (fun _ _ k => T_bipush (v := nI 8) d_Mo_hash0_41 (by decide) k) ?_
        refine S_icmp_geN d_Mo_hash0_43 rfl (by omega) (by omega) (fun c => by first | exact absurd c (by omega) | exact c.elim | exact absurd c (by decide) | exact absurd (by assumption) c | exact absurd c (by assumption)) (fun _ => ?_)
        refine ST.lift (fun _ _ k => T_aload_n (v := .ref 373) d_Mo_hash0_46 rfl (Or.inr ⟨_, rfl⟩) k) ?_
        refine ST.lift (fun _ _ k => T_iconst (v := nI 0) d_Mo_hash0_47 (by decide) k) ?_
        refine S_virtual (as := [.int (nI 0)]) (rest := []) (b := 373) d_Mo_hash0_48 rfl (jw_Mo_one.jo (by decide)) lm_Mo_11 ji_Mo_one js_Mo_one (w373 _) rfl rfl rfl (Nat.le_of_ble_eq_true rfl) (by decide) (by decide) (c_Mo_one G u31 (nI 0) ((((((k8 + 1) + 1) + 1) + 1) + 1) + 1) e_u31 (by omega) hv32) (fun r v' hq => ?_)
        rw [hq.1, hq.2]
        clear hq r v'
        show ST G mi_Mo_hash0 51 [(3, .int (nI 6)), (1, .long z2), (0, .ref 373)] [] (va_up u31 67 (nI (((((((k8 + 1) + 1) + 1) + 1) + 1) + 1) + 1))) 0 0 _
        have hv35 := hv32.up (j := 67) (c := 4000) (k := (((((((k8 + 1) + 1) + 1) + 1) + 1) + 1) + 1)) (by decide) (by omega)
        have hm36 := hm33.go (mdf.up (v := u31) (j := 67) (x := (nI (((((((k8 + 1) + 1) + 1) + 1) + 1) + 1) + 1)))) (by intro i hi; simp only [List.mem_cons, List.not_mem_nil, or_false] at hi ⊢ <;> omega)
        have e_u34 : (va_up u31 67 (nI (((((((k8 + 1) + 1) + 1) + 1) + 1) + 1) + 1))) 67 = (nI (((((((k8 + 1) + 1) + 1) + 1) + 1) + 1) + 1)) := by simp [va_up]
        generalize va_up u31 67 (nI (((((((k8 + 1) + 1) + 1) + 1) + 1) + 1) + 1)) = u34 at hv35 hm36 e_u34 ⊢
        refine S_iincN (a := 6) (b := 1) (L' := [(3, .int (nI 7)), (1, .long z2), (0, .ref 373)]) d_Mo_hash0_51 (by decide) rfl rfl rfl ?_
        refine ST.lift (fun _ _ k => T_goto (tgt := 40) d_Mo_hash0_54 rfl k) ?_
        refine ST.lift (fun _ _ k => T_iload_n d_Mo_hash0_40 rfl k) ?_
        refine ST.lift (fun _ _ k => T_bipush (v := nI 8) d_Mo_hash0_41 (by decide) k) ?_
        refine S_icmp_geN d_Mo_hash0_43 rfl (by omega) (by omega) (fun c => by first | exact absurd c (by omega) | exact c.elim | exact absurd c (by decide) | exact absurd (by assumption) c | exact absurd c (by assumption)) (fun _ => ?_)
        refine ST.lift (fun _ _ k => T_aload_n (v := .ref 373) d_Mo_hash0_46 rfl (Or.inr ⟨_, rfl⟩) k) ?_
        refine ST.lift (fun _ _ k => T_iconst (v := nI 0) d_Mo_hash0_47 (by decide) k) ?_
        refine S_virtual (as := [.int (nI 0)]) (rest := []) (b := 373) d_Mo_hash0_48 rfl (jw_Mo_one.jo (by decide)) lm_Mo_11 ji_Mo_one js_Mo_one (w373 _) rfl rfl rfl (Nat.le_of_ble_eq_true rfl) (by decide) (by decide) (c_Mo_one G u34 (nI 0) (((((((k8 + 1) + 1) + 1) + 1) + 1) + 1) + 1) e_u34 (by omega) hv35) (fun r v' hq => ?_)
        rw [hq.1, hq.2]
        clear hq r v'
        show ST G mi_Mo_hash0 51 [(3, .int (nI 7)), (1, .long z2), (0, .ref 373)] [] (va_up u34 67 (nI ((((((((k8 + 1) + 1) + 1) + 1) + 1) + 1) + 1) + 1))) 0 0 _
        have hv38 := hv35.up (j := 67) (c := 4000) (k := ((((((((k8 + 1) + 1) + 1) + 1) + 1) + 1) + 1) + 1)) (by decide) (by omega)
        have hm39 := hm36.go (mdf.up (v := u34) (j := 67) (x := (nI ((((((((k8 + 1) + 1) + 1) + 1) + 1) + 1) + 1) + 1)))) (by intro i hi; simp only [List.mem_cons, List.not_mem_nil, or_false] at hi ⊢ <;> omega)
        have e_u37 : (va_up u34 67 (nI ((((((((k8 + 1) + 1) + 1) + 1) + 1) + 1) + 1) + 1))) 67 = (nI ((((((((k8 + 1) + 1) + 1) + 1) + 1) + 1) + 1) + 1)) := by simp [va_up]
        generalize va_up u34 67 (nI ((((((((k8 + 1) + 1) + 1) + 1) + 1) + 1) + 1) + 1)) = u37 at hv38 hm39 e_u37 ⊢
        refine S_iincN (a := 7) (b := 1) (L' := [(3, .int (nI 8)), (1, .long z2), (0, .ref 373)]) d_Mo_hash0_51 (by decide) rfl rfl rfl ?_
        refine ST.lift (fun _ _ k => T_goto (tgt := 40) d_Mo_hash0_54 rfl k) ?_
        refine ST.lift (fun _ _ k => T_iload_n d_Mo_hash0_40 rfl k) ?_
        refine ST.lift (fun _ _ k => T_bipush (v := nI 8) d_Mo_hash0_41 (by decide) k) ?_
        refine S_icmp_geN d_Mo_hash0_43 rfl (by omega) (by omega) (fun _ => ?_) (fun c => by first | exact absurd c (by omega) | exact c.elim | exact absurd c (by decide) | exact absurd (by assumption) c | exact absurd c (by assumption))
        refine ST.lift (fun _ _ k => T_bipush (v := nI 56) d_Mo_hash0_57 (by decide) k) ?_
        refine ST.lift (fun _ _ k => T_istore_n (L' := [(3, .int (nI 56)), (1, .long z2), (0, .ref 373)]) d_Mo_hash0_59 (by decide) rfl k) ?_
        refine ST.lift (fun _ _ k => T_iload_n d_Mo_hash0_60 rfl k) ?_
        refine S_if_ltN d_Mo_hash0_61 rfl (by omega) (fun c => by first | exact absurd c (by omega) | exact c.elim | exact absurd c (by decide) | exact absurd (by assumption) c | exact absurd c (by assumption)) (fun _ => ?_)
        refine ST.lift (fun _ _ k => T_aload_n (v := .ref 373) d_Mo_hash0_64 rfl (Or.inr ⟨_, rfl⟩) k) ?_
        refine ST.lift (fun _ _ k => T_lload_n d_Mo_hash0_65 rfl k) ?_
        refine ST.lift (fun _ _ k => T_iload_n d_Mo_hash0_66 rfl k) ?_
        refine ST.lift (fun _ _ k => T_lshr d_Mo_hash0_67 k) (S_anyl fun z40 => ?_)
        refine ST.lift (fun _ _ k => T_ldc2 d_Mo_hash0_68 kJ_Mo_47 k) ?_
        refine ST.lift (fun _ _ k => T_land d_Mo_hash0_71 k) (S_anyl fun z41 => ?_)
        refine ST.lift (fun _ _ k => T_l2i d_Mo_hash0_72 k) (S_anyi fun z42 => ?_)
        refine S_virtual (as := [.int z42]) (rest := []) (b := 373) d_Mo_hash0_73 rfl (jw_Mo_one.jo (by decide)) lm_Mo_11 ji_Mo_one js_Mo_one (w373 _) rfl rfl rfl (Nat.le_of_ble_eq_true rfl) (by decide) (by decide) (c_Mo_one G u37 z42 ((((((((k8 + 1) + 1) + 1) + 1) + 1) + 1) + 1) + 1) e_u37 (by omega) hv38) (fun r v' hq => ?_)
        rw [hq.1, hq.2]
        clear hq r v'
        show ST G mi_Mo_hash0 76 [(3, .int (nI 56)), (1, .long z2), (0, .ref 373)] [] (va_up u37 67 (nI (((((((((k8 + 1) + 1) + 1) + 1) + 1) + 1) + 1) + 1) + 1))) 0 0 _
        have hv44 := hv38.up (j := 67) (c := 4000) (k := (((((((((k8 + 1) + 1) + 1) + 1) + 1) + 1) + 1) + 1) + 1)) (by decide) (by omega)
        have hm45 := hm39.go (mdf.up (v := u37) (j := 67) (x := (nI (((((((((k8 + 1) + 1) + 1) + 1) + 1) + 1) + 1) + 1) + 1)))) (by intro i hi; simp only [List.mem_cons, List.not_mem_nil, or_false] at hi ⊢ <;> omega)
        have e_u43 : (va_up u37 67 (nI (((((((((k8 + 1) + 1) + 1) + 1) + 1) + 1) + 1) + 1) + 1))) 67 = (nI (((((((((k8 + 1) + 1) + 1) + 1) + 1) + 1) + 1) + 1) + 1)) := by simp [va_up]
        generalize va_up u37 67 (nI (((((((((k8 + 1) + 1) + 1) + 1) + 1) + 1) + 1) + 1) + 1)) = u43 at hv44 hm45 e_u43 ⊢
        refine ST.lift (fun _ _ k => T_iinc (x := nI 56) (L' := [(3, .int (nI 48)), (1, .long z2), (0, .ref 373)]) d_Mo_hash0_76 (by decide) rfl (by rw [show nI 56 + Int32.ofInt (-8) = nI 48 by decide]; rfl) k) ?_
        refine ST.lift (fun _ _ k => T_goto (tgt := 60) d_Mo_hash0_79 rfl k) ?_
        refine ST.lift (fun _ _ k => T_iload_n d_Mo_hash0_60 rfl k) ?_
        refine S_if_ltN d_Mo_hash0_61 rfl (by omega) (fun c => by first | exact absurd c (by omega) | exact c.elim | exact absurd c (by decide) | exact absurd (by assumption) c | exact absurd c (by assumption)) (fun _ => ?_)
        refine ST.lift (fun _ _ k => T_aload_n (v := .ref 373) d_Mo_hash0_64 rfl (Or.inr ⟨_, rfl⟩) k) ?_
        refine ST.lift (fun _ _ k => T_lload_n d_Mo_hash0_65 rfl k) ?_
        refine ST.lift (fun _ _ k => T_iload_n d_Mo_hash0_66 rfl k) ?_
        refine ST.lift (fun _ _ k => T_lshr d_Mo_hash0_67 k) (S_anyl fun z46 => ?_)
        refine ST.lift (fun _ _ k => T_ldc2 d_Mo_hash0_68 kJ_Mo_47 k) ?_
        refine ST.lift (fun _ _ k => T_land d_Mo_hash0_71 k) (S_anyl fun z47 => ?_)
        refine ST.lift (fun _ _ k => T_l2i d_Mo_hash0_72 k) (S_anyi fun z48 => ?_)
        refine S_virtual (as := [.int z48]) (rest := []) (b := 373) d_Mo_hash0_73 rfl (jw_Mo_one.jo (by decide)) lm_Mo_11 ji_Mo_one js_Mo_one (w373 _) rfl rfl rfl (Nat.le_of_ble_eq_true rfl) (by decide) (by decide) (c_Mo_one G u43 z48 (((((((((k8 + 1) + 1) + 1) + 1) + 1) + 1) + 1) + 1) + 1) e_u43 (by omega) hv44) (fun r v' hq => ?_)
        rw [hq.1, hq.2]
        clear hq r v'
        show ST G mi_Mo_hash0 76 [(3, .int (nI 48)), (1, .long z2), (0, .ref 373)] [] (va_up u43 67 (nI ((((((((((k8 + 1) + 1) + 1) + 1) + 1) + 1) + 1) + 1) + 1) + 1))) 0 0 _
        have hv50 := hv44.up (j := 67) (c := 4000) (k := ((((((((((k8 + 1) + 1) + 1) + 1) + 1) + 1) + 1) + 1) + 1) + 1)) (by decide) (by omega)
        have hm51 := hm45.go (mdf.up (v := u43) (j := 67) (x := (nI ((((((((((k8 + 1) + 1) + 1) + 1) + 1) + 1) + 1) + 1) + 1) + 1)))) (by intro i hi; simp only [List.mem_cons, List.not_mem_nil, or_false] at hi ⊢ <;> omega)
        have e_u49 : (va_up u43 67 (nI ((((((((((k8 + 1) + 1) + 1) + 1) + 1) + 1) + 1) + 1) + 1) + 1))) 67 = (nI ((((((((((k8 + 1) + 1) + 1) + 1) + 1) + 1) + 1) + 1) + 1) + 1)) := by simp [va_up]
        generalize va_up u43 67 (nI ((((((((((k8 + 1) + 1) + 1) + 1) + 1) + 1) + 1) + 1) + 1) + 1)) = u49 at hv50 hm51 e_u49 ⊢
        refine ST.lift (fun _ _ k => T_iinc (x := nI 48) (L' := [(3, .int (nI 40)), (1, .long z2), (0, .ref 373)]) d_Mo_hash0_76 (by decide) rfl (by rw [show nI 48 + Int32.ofInt (-8) = nI 40 by decide]; rfl) k) ?_
        refine ST.lift (fun _ _ k => T_goto (tgt := 60) d_Mo_hash0_79 rfl k) ?_
        refine ST.lift (fun _ _ k => T_iload_n d_Mo_hash0_60 rfl k) ?_
        refine S_if_ltN d_Mo_hash0_61 rfl (by omega) (fun c => by first | exact absurd c (by omega) | exact c.elim | exact absurd c (by decide) | exact absurd (by assumption) c | exact absurd c (by assumption)) (fun _ => ?_)
        refine ST.lift (fun _ _ k => T_aload_n (v := .ref 373) d_Mo_hash0_64 rfl (Or.inr ⟨_, rfl⟩) k) ?_
        refine ST.lift (fun _ _ k => T_lload_n d_Mo_hash0_65 rfl k) ?_
        refine ST.lift (fun _ _ k => T_iload_n d_Mo_hash0_66 rfl k) ?_
        refine ST.lift (fun _ _ k => T_lshr d_Mo_hash0_67 k) (S_anyl fun z52 => ?_)
        refine ST.lift (fun _ _ k => T_ldc2 d_Mo_hash0_68 kJ_Mo_47 k) ?_
        refine ST.lift (fun _ _ k => T_land d_Mo_hash0_71 k) (S_anyl fun z53 => ?_)
        refine ST.lift (fun _ _ k => T_l2i d_Mo_hash0_72 k) (S_anyi fun z54 => ?_)
        refine S_virtual (as := [.int z54]) (rest := []) (b := 373) d_Mo_hash0_73 rfl (jw_Mo_one.jo (by decide)) lm_Mo_11 ji_Mo_one js_Mo_one (w373 _) rfl rfl rfl (Nat.le_of_ble_eq_true rfl) (by decide) (by decide) (c_Mo_one G u49 z54 ((((((((((k8 + 1) + 1) + 1) + 1) + 1) + 1) + 1) + 1) + 1) + 1) e_u49 (by omega) hv50) (fun r v' hq => ?_)
        rw [hq.1, hq.2]
        clear hq r v'
        show ST G mi_Mo_hash0 76 [(3, .int (nI 40)), (1, .long z2), (0, .ref 373)] [] (va_up u49 67 (nI (((((((((((k8 + 1) + 1) + 1) + 1) + 1) + 1) + 1) + 1) + 1) + 1) + 1))) 0 0 _
        have hv56 := hv50.up (j := 67) (c := 4000) (k := (((((((((((k8 + 1) + 1) + 1) + 1) + 1) + 1) + 1) + 1) + 1) + 1) + 1)) (by decide) (by omega)
        have hm57 := hm51.go (mdf.up (v := u49) (j := 67) (x := (nI (((((((((((k8 + 1) + 1) + 1) + 1) + 1) + 1) + 1) + 1) + 1) + 1) + 1)))) (by intro i hi; simp only [List.mem_cons, List.not_mem_nil, or_false] at hi ⊢ <;> omega)
        have e_u55 : (va_up u49 67 (nI (((((((((((k8 + 1) + 1) + 1) + 1) + 1) + 1) + 1) + 1) + 1) + 1) + 1))) 67 = (nI (((((((((((k8 + 1) + 1) + 1) + 1) + 1) + 1) + 1) + 1) + 1) + 1) + 1)) := by simp [va_up]
        generalize va_up u49 67 (nI (((((((((((k8 + 1) + 1) + 1) + 1) + 1) + 1) + 1) + 1) + 1) + 1) + 1)) = u55 at hv56 hm57 e_u55 ⊢
        refine ST.lift (fun _ _ k => T_iinc (x := nI 40) (L' := [(3, .int (nI 32)), (1, .long z2), (0, .ref 373)]) d_Mo_hash0_76 (by decide) rfl (by rw [show nI 40 + Int32.ofInt (-8) = nI 32 by decide]; rfl) k) ?_
        refine ST.lift (fun _ _ k => T_goto (tgt := 60) d_Mo_hash0_79 rfl k) ?_
        refine ST.lift (fun _ _ k => T_iload_n d_Mo_hash0_60 rfl k) ?_
        refine S_if_ltN d_Mo_hash0_61 rfl (by omega) (fun c => by first | exact absurd c (by omega) | exact c.elim | exact absurd c (by decide) | exact absurd (by assumption) c | exact absurd c (by assumption)) (fun _ => ?_)
        refine ST.lift (fun _ _ k => T_aload_n (v := .ref 373) d_Mo_hash0_64 rfl (Or.inr ⟨_, rfl⟩) k) ?_
        refine ST.lift (fun _ _ k => T_lload_n d_Mo_hash0_65 rfl k) ?_
        refine ST.lift (fun _ _ k => T_iload_n d_Mo_hash0_66 rfl k) ?_
        refine ST.lift (fun _ _ k => T_lshr d_Mo_hash0_67 k) (S_anyl fun z58 => ?_)
        refine ST.lift (fun _ _ k => T_ldc2 d_Mo_hash0_68 kJ_Mo_47 k) ?_
        refine ST.lift (fun _ _ k => T_land d_Mo_hash0_71 k) (S_anyl fun z59 => ?_)
        refine ST.lift (fun _ _ k => T_l2i d_Mo_hash0_72 k) (S_anyi fun z60 => ?_)
        refine S_virtual (as := [.int z60]) (rest := []) (b := 373) d_Mo_hash0_73 rfl (jw_Mo_one.jo (by decide)) lm_Mo_11 ji_Mo_one js_Mo_one (w373 _) rfl rfl rfl (Nat.le_of_ble_eq_true rfl) (by decide) (by decide) (c_Mo_one G u55 z60 (((((((((((k8 + 1) + 1) + 1) + 1) + 1) + 1) + 1) + 1) + 1) + 1) + 1) e_u55 (by omega) hv56) (fun r v' hq => ?_)
        rw [hq.1, hq.2]
        clear hq r v'
        show ST G mi_Mo_hash0 76 [(3, .int (nI 32)), (1, .long z2), (0, .ref 373)] [] (va_up u55 67 (nI ((((((((((((k8 + 1) + 1) + 1) + 1) + 1) + 1) + 1) + 1) + 1) + 1) + 1) + 1))) 0 0 _
        have hv62 := hv56.up (j := 67) (c := 4000) (k := ((((((((((((k8 + 1) + 1) + 1) + 1) + 1) + 1) + 1) + 1) + 1) + 1) + 1) + 1)) (by decide) (by omega)
        have hm63 := hm57.go (mdf.up (v := u55) (j := 67) (x := (nI ((((((((((((k8 + 1) + 1) + 1) + 1) + 1) + 1) + 1) + 1) + 1) + 1) + 1) + 1)))) (by intro i hi; simp only [List.mem_cons, List.not_mem_nil, or_false] at hi ⊢ <;> omega)
        have e_u61 : (va_up u55 67 (nI ((((((((((((k8 + 1) + 1) + 1) + 1) + 1) + 1) + 1) + 1) + 1) + 1) + 1) + 1))) 67 = (nI ((((((((((((k8 + 1) + 1) + 1) + 1) + 1) + 1) + 1) + 1) + 1) + 1) + 1) + 1)) := by simp [va_up]
        generalize va_up u55 67 (nI ((((((((((((k8 + 1) + 1) + 1) + 1) + 1) + 1) + 1) + 1) + 1) + 1) + 1) + 1)) = u61 at hv62 hm63 e_u61 ⊢
        refine ST.lift (fun _ _ k => T_iinc (x := nI 32) (L' := [(3, .int (nI 24)), (1, .long z2), (0, .ref 373)]) d_Mo_hash0_76 (by decide) rfl (by rw [show nI 32 + Int32.ofInt (-8) = nI 24 by decide]; rfl) k) ?_
        refine ST.lift (fun _ _ k => T_goto (tgt := 60) d_Mo_hash0_79 rfl k) ?_
        refine ST.lift (fun _ _ k => T_iload_n d_Mo_hash0_60 rfl k) ?_
        refine S_if_ltN d_Mo_hash0_61 rfl (by omega) (fun c => by first | exact absurd c (by omega) | exact c.elim | exact absurd c (by decide) | exact absurd (by assumption) c | exact absurd c (by assumption)) (fun _ => ?_)
        refine ST.lift (fun _ _ k => T_aload_n (v := .ref 373) d_Mo_hash0_64 rfl (Or.inr ⟨_, rfl⟩) k) ?_
        refine ST.lift (fun _ _ k => T_lload_n d_Mo_hash0_65 rfl k) ?_
        refine ST.lift (fun _ _ k => T_iload_n d_Mo_hash0_66 rfl k) ?_
        refine ST.lift (fun _ _ k => T_lshr d_Mo_hash0_67 k) (S_anyl fun z64 => ?_)
        refine ST.lift (fun _ _ k => T_ldc2 d_Mo_hash0_68 kJ_Mo_47 k) ?_
        refine ST.lift (fun _ _ k => T_land d_Mo_hash0_71 k) (S_anyl fun z65 => ?_)
        refine ST.lift (fun _ _ k => T_l2i d_Mo_hash0_72 k) (S_anyi fun z66 => ?_)
        refine S_virtual (as := [.int z66]) (rest := []) (b := 373) d_Mo_hash0_73 rfl (jw_Mo_one.jo (by decide)) lm_Mo_11 ji_Mo_one js_Mo_one (w373 _) rfl rfl rfl (Nat.le_of_ble_eq_true rfl) (by decide) (by decide) (c_Mo_one G u61 z66 ((((((((((((k8 + 1) + 1) + 1) + 1) + 1) + 1) + 1) + 1) + 1) + 1) + 1) + 1) e_u61 (by omega) hv62) (fun r v' hq => ?_)
        rw [hq.1, hq.2]
        clear hq r v'
        show ST G mi_Mo_hash0 76 [(3, .int (nI 24)), (1, .long z2), (0, .ref 373)] [] (va_up u61 67 (nI (((((((((((((k8 + 1) + 1) + 1) + 1) + 1) + 1) + 1) + 1) + 1) + 1) + 1) + 1) + 1))) 0 0 _
        have hv68 := hv62.up (j := 67) (c := 4000) (k := (((((((((((((k8 + 1) + 1) + 1) + 1) + 1) + 1) + 1) + 1) + 1) + 1) + 1) + 1) + 1)) (by decide) (by omega)
        have hm69 := hm63.go (mdf.up (v := u61) (j := 67) (x := (nI (((((((((((((k8 + 1) + 1) + 1) + 1) + 1) + 1) + 1) + 1) + 1) + 1) + 1) + 1) + 1)))) (by intro i hi; simp only [List.mem_cons, List.not_mem_nil, or_false] at hi ⊢ <;> omega)
        have e_u67 : (va_up u61 67 (nI (((((((((((((k8 + 1) + 1) + 1) + 1) + 1) + 1) + 1) + 1) + 1) + 1) + 1) + 1) + 1))) 67 = (nI (((((((((((((k8 + 1) + 1) + 1) + 1) + 1) + 1) + 1) + 1) + 1) + 1) + 1) + 1) + 1)) := by simp [va_up]
        generalize va_up u61 67 (nI (((((((((((((k8 + 1) + 1) + 1) + 1) + 1) + 1) + 1) + 1) + 1) + 1) + 1) + 1) + 1)) = u67 at hv68 hm69 e_u67 ⊢
        refine ST.lift (fun _ _ k => T_iinc (x := nI 24) (L' := [(3, .int (nI 16)), (1, .long z2), (0, .ref 373)]) d_Mo_hash0_76 (by decide) rfl (by rw [show nI 24 + Int32.ofInt (-8) = nI 16 by decide]; rfl) k) ?_
        refine ST.lift (fun _ _ k => T_goto (tgt := 60) d_Mo_hash0_79 rfl k) ?_
        refine ST.lift (fun _ _ k => T_iload_n d_Mo_hash0_60 rfl k) ?_
        refine S_if_ltN d_Mo_hash0_61 rfl (by omega) (fun c => by first | exact absurd c (by omega) | exact c.elim | exact absurd c (by decide) | exact absurd (by assumption) c | exact absurd c (by assumption)) (fun _ => ?_)
        refine ST.lift (fun _ _ k => T_aload_n (v := .ref 373) d_Mo_hash0_64 rfl (Or.inr ⟨_, rfl⟩) k) ?_
        refine ST.lift (fun _ _ k => T_lload_n d_Mo_hash0_65 rfl k) ?_
        refine ST.lift (fun _ _ k => T_iload_n d_Mo_hash0_66 rfl k) ?_
        refine ST.lift (fun _ _ k => T_lshr d_Mo_hash0_67 k) (S_anyl fun z70 => ?_)
        refine ST.lift (fun _ _ k => T_ldc2 d_Mo_hash0_68 kJ_Mo_47 k) ?_
        refine ST.lift (fun _ _ k => T_land d_Mo_hash0_71 k) (S_anyl fun z71 => ?_)
        refine ST.lift (fun _ _ k => T_l2i d_Mo_hash0_72 k) (S_anyi fun z72 => ?_)
        refine S_virtual (as := [.int z72]) (rest := []) (b := 373) d_Mo_hash0_73 rfl (jw_Mo_one.jo (by decide)) lm_Mo_11 ji_Mo_one js_Mo_one (w373 _) rfl rfl rfl (Nat.le_of_ble_eq_true rfl) (by decide) (by decide) (c_Mo_one G u67 z72 (((((((((((((k8 + 1) + 1) + 1) + 1) + 1) + 1) + 1) + 1) + 1) + 1) + 1) + 1) + 1) e_u67 (by omega) hv68) (fun r v' hq => ?_)
        rw [hq.1, hq.2]
        clear hq r v'
        show ST G mi_Mo_hash0 76 [(3, .int (nI 16)), (1, .long z2), (0, .ref 373)] [] (va_up u67 67 (nI ((((((((((((((k8 + 1) + 1) + 1) + 1) + 1) + 1) + 1) + 1) + 1) + 1) + 1) + 1) + 1) + 1))) 0 0 _
        have hv74 := hv68.up (j := 67) (c := 4000) (k := ((((((((((((((k8 + 1) + 1) + 1) + 1) + 1) + 1) + 1) + 1) + 1) + 1) + 1) + 1) + 1) + 1)) (by decide) (by omega)
        have hm75 := hm69.go (mdf.up (v := u67) (j := 67) (x := (nI ((((((((((((((k8 + 1) + 1) + 1) + 1) + 1) + 1) + 1) + 1) + 1) + 1) + 1) + 1) + 1) + 1)))) (by intro i hi; simp only [List.mem_cons, List.not_mem_nil, or_false] at hi ⊢ <;> omega)
        have e_u73 : (va_up u67 67 (nI ((((((((((((((k8 + 1) + 1) + 1) + 1) + 1) + 1) + 1) + 1) + 1) + 1) + 1) + 1) + 1) + 1))) 67 = (nI ((((((((((((((k8 + 1) + 1) + 1) + 1) + 1) + 1) + 1) + 1) + 1) + 1) + 1) + 1) + 1) + 1)) := by simp [va_up]
        generalize va_up u67 67 (nI ((((((((((((((k8 + 1) + 1) + 1) + 1) + 1) + 1) + 1) + 1) + 1) + 1) + 1) + 1) + 1) + 1)) = u73 at hv74 hm75 e_u73 ⊢
        refine ST.lift (fun _ _ k => T_iinc (x := nI 16) (L' := [(3, .int (nI 8)), (1, .long z2), (0, .ref 373)]) d_Mo_hash0_76 (by decide) rfl (by rw [show nI 16 + Int32.ofInt (-8) = nI 8 by decide]; rfl) k) ?_
        refine ST.lift (fun _ _ k => T_goto (tgt := 60) d_Mo_hash0_79 rfl k) ?_
        refine ST.lift (fun _ _ k => T_iload_n d_Mo_hash0_60 rfl k) ?_
        refine S_if_ltN d_Mo_hash0_61 rfl (by omega) (fun c => by first | exact absurd c (by omega) | exact c.elim | exact absurd c (by decide) | exact absurd (by assumption) c | exact absurd c (by assumption)) (fun _ => ?_)
        refine ST.lift (fun _ _ k => T_aload_n (v := .ref 373) d_Mo_hash0_64 rfl (Or.inr ⟨_, rfl⟩) k) ?_
        refine ST.lift (fun _ _ k => T_lload_n d_Mo_hash0_65 rfl k) ?_
        refine ST.lift (fun _ _ k => T_iload_n d_Mo_hash0_66 rfl k) ?_
        refine ST.lift (fun _ _ k => T_lshr d_Mo_hash0_67 k) (S_anyl fun z76 => ?_)
        refine ST.lift (fun _ _ k => T_ldc2 d_Mo_hash0_68 kJ_Mo_47 k) ?_
        refine ST.lift (fun _ _ k => T_land d_Mo_hash0_71 k) (S_anyl fun z77 => ?_)
        refine ST.lift (fun _ _ k => T_l2i d_Mo_hash0_72 k) (S_anyi fun z78 => ?_)
        refine S_virtual (as := [.int z78]) (rest := []) (b := 373) d_Mo_hash0_73 rfl (jw_Mo_one.jo (by decide)) lm_Mo_11 ji_Mo_one js_Mo_one (w373 _) rfl rfl rfl (Nat.le_of_ble_eq_true rfl) (by decide) (by decide) (c_Mo_one G u73 z78 ((((((((((((((k8 + 1) + 1) + 1) + 1) + 1) + 1) + 1) + 1) + 1) + 1) + 1) + 1) + 1) + 1) e_u73 (by omega) hv74) (fun r v' hq => ?_)
        rw [hq.1, hq.2]
        clear hq r v'
        show ST G mi_Mo_hash0 76 [(3, .int (nI 8)), (1, .long z2), (0, .ref 373)] [] (va_up u73 67 (nI (((((((((((((((k8 + 1) + 1) + 1) + 1) + 1) + 1) + 1) + 1) + 1) + 1) + 1) + 1) + 1) + 1) + 1))) 0 0 _
        have hv80 := hv74.up (j := 67) (c := 4000) (k := (((((((((((((((k8 + 1) + 1) + 1) + 1) + 1) + 1) + 1) + 1) + 1) + 1) + 1) + 1) + 1) + 1) + 1)) (by decide) (by omega)
        have hm81 := hm75.go (mdf.up (v := u73) (j := 67) (x := (nI (((((((((((((((k8 + 1) + 1) + 1) + 1) + 1) + 1) + 1) + 1) + 1) + 1) + 1) + 1) + 1) + 1) + 1)))) (by intro i hi; simp only [List.mem_cons, List.not_mem_nil, or_false] at hi ⊢ <;> omega)
        have e_u79 : (va_up u73 67 (nI (((((((((((((((k8 + 1) + 1) + 1) + 1) + 1) + 1) + 1) + 1) + 1) + 1) + 1) + 1) + 1) + 1) + 1))) 67 = (nI (((((((((((((((k8 + 1) + 1) + 1) + 1) + 1) + 1) + 1) + 1) + 1) + 1) + 1) + 1) + 1) + 1) + 1)) := by simp [va_up]
        generalize va_up u73 67 (nI (((((((((((((((k8 + 1) + 1) + 1) + 1) + 1) + 1) + 1) + 1) + 1) + 1) + 1) + 1) + 1) + 1) + 1)) = u79 at hv80 hm81 e_u79 ⊢
        refine ST.lift (fun _ _ k => T_iinc (x := nI 8) (L' := [(3, .int (nI 0)), (1, .long z2), (0, .ref 373)]) d_Mo_hash0_76 (by decide) rfl (by rw [show nI 8 + Int32.ofInt (-8) = nI 0 by decide]; rfl) k) ?_
        refine ST.lift (fun _ _ k => T_goto (tgt := 60) d_Mo_hash0_79 rfl k) ?_
        refine ST.lift (fun _ _ k => T_iload_n d_Mo_hash0_60 rfl k) ?_
        refine S_if_ltN d_Mo_hash0_61 rfl (by omega) (fun c => by first | exact absurd c (by omega) | exact c.elim | exact absurd c (by decide) | exact absurd (by assumption) c | exact absurd c (by assumption)) (fun _ => ?_)
        refine ST.lift (fun _ _ k => T_aload_n (v := .ref 373) d_Mo_hash0_64 rfl (Or.inr ⟨_, rfl⟩) k) ?_
        refine ST.lift (fun _ _ k => T_lload_n d_Mo_hash0_65 rfl k) ?_
        refine ST.lift (fun _ _ k => T_iload_n d_Mo_hash0_66 rfl k) ?_
        refine ST.lift (fun _ _ k => T_lshr d_Mo_hash0_67 k) (S_anyl fun z82 => ?_)
        refine ST.lift (fun _ _ k => T_ldc2 d_Mo_hash0_68 kJ_Mo_47 k) ?_
        refine ST.lift (fun _ _ k => T_land d_Mo_hash0_71 k) (S_anyl fun z83 => ?_)
        refine ST.lift (fun _ _ k => T_l2i d_Mo_hash0_72 k) (S_anyi fun z84 => ?_)
        refine S_virtual (as := [.int z84]) (rest := []) (b := 373) d_Mo_hash0_73 rfl (jw_Mo_one.jo (by decide)) lm_Mo_11 ji_Mo_one js_Mo_one (w373 _) rfl rfl rfl (Nat.le_of_ble_eq_true rfl) (by decide) (by decide) (c_Mo_one G u79 z84 (((((((((((((((k8 + 1) + 1) + 1) + 1) + 1) + 1) + 1) + 1) + 1) + 1) + 1) + 1) + 1) + 1) + 1) e_u79 (by omega) hv80) (fun r v' hq => ?_)
        rw [hq.1, hq.2]
        clear hq r v'
        show ST G mi_Mo_hash0 76 [(3, .int (nI 0)), (1, .long z2), (0, .ref 373)] [] (va_up u79 67 (nI ((((((((((((((((k8 + 1) + 1) + 1) + 1) + 1) + 1) + 1) + 1) + 1) + 1) + 1) + 1) + 1) + 1) + 1) + 1))) 0 0 _
        have hv86 := hv80.up (j := 67) (c := 4000) (k := ((((((((((((((((k8 + 1) + 1) + 1) + 1) + 1) + 1) + 1) + 1) + 1) + 1) + 1) + 1) + 1) + 1) + 1) + 1)) (by decide) (by omega)
        have hm87 := hm81.go (mdf.up (v := u79) (j := 67) (x := (nI ((((((((((((((((k8 + 1) + 1) + 1) + 1) + 1) + 1) + 1) + 1) + 1) + 1) + 1) + 1) + 1) + 1) + 1) + 1)))) (by intro i hi; simp only [List.mem_cons, List.not_mem_nil, or_false] at hi ⊢ <;> omega)
        have e_u85 : (va_up u79 67 (nI ((((((((((((((((k8 + 1) + 1) + 1) + 1) + 1) + 1) + 1) + 1) + 1) + 1) + 1) + 1) + 1) + 1) + 1) + 1))) 67 = (nI ((((((((((((((((k8 + 1) + 1) + 1) + 1) + 1) + 1) + 1) + 1) + 1) + 1) + 1) + 1) + 1) + 1) + 1) + 1)) := by simp [va_up]
        generalize va_up u79 67 (nI ((((((((((((((((k8 + 1) + 1) + 1) + 1) + 1) + 1) + 1) + 1) + 1) + 1) + 1) + 1) + 1) + 1) + 1) + 1)) = u85 at hv86 hm87 e_u85 ⊢
        refine ST.lift (fun _ _ k => T_iinc (x := nI 0) (L' := [(3, .int (-8)), (1, .long z2), (0, .ref 373)]) d_Mo_hash0_76 (by decide) rfl (by rw [show nI 0 + Int32.ofInt (-8) = (-8) by decide]; rfl) k) ?_
        refine ST.lift (fun _ _ k => T_goto (tgt := 60) d_Mo_hash0_79 rfl k) ?_
        refine ST.lift (fun _ _ k => T_iload_n d_Mo_hash0_60 rfl k) ?_
        refine S_if_lt d_Mo_hash0_61 rfl (fun _ => ?_) (fun c => by first | exact absurd c (by omega) | exact c.elim | exact absurd c (by decide) | exact absurd (by assumption) c | exact absurd c (by assumption))
        refine ST.lift (fun _ _ k => T_iconst (v := nI 0) d_Mo_hash0_82 (by decide) k) ?_
        refine ST.lift (fun _ _ k => T_istore_n (L' := [(3, .int (nI 0)), (1, .long z2), (0, .ref 373)]) d_Mo_hash0_83 (by decide) rfl k) ?_
        refine ST.lift (fun _ _ k => T_iload_n d_Mo_hash0_84 rfl k) ?_
        refine ST.lift (fun _ _ k => T_bipush (v := nI 8) d_Mo_hash0_85 (by decide) k) ?_
        refine S_icmp_geN d_Mo_hash0_87 rfl (by omega) (by omega) (fun c => by first | exact absurd c (by omega) | exact c.elim | exact absurd c (by decide) | exact absurd (by assumption) c | exact absurd c (by assumption)) (fun _ => ?_)
        refine ST.lift (fun _ _ k => T_aload_n (v := .ref 373) d_Mo_hash0_90 rfl (Or.inr ⟨_, rfl⟩) k) ?_
        refine S_getfield d_Mo_hash0_91 fg_Mo_49 (w373 _) rfl ?_
        refine ST.lift (fun _ _ k => T_iload_n d_Mo_hash0_94 rfl k) ?_
        refine ST.lift (fun _ _ k => T_aload_n (v := .ref 373) d_Mo_hash0_95 rfl (Or.inr ⟨_, rfl⟩) k) ?_
        refine S_getfield d_Mo_hash0_96 fg_Mo_42 (w373 _) rfl ?_
        refine ST.lift (fun _ _ k => T_iload_n d_Mo_hash0_99 rfl k) ?_
        refine S_laload d_Mo_hash0_100 a376 (vp_in_nI (by omega) (by omega)) (fun z88 => ?_)
        refine S_lastore d_Mo_hash0_101 (by decide) a381 (vp_in_nI (by omega) (by omega)) ?_
        refine S_iincN (a := 0) (b := 1) (L' := [(3, .int (nI 1)), (1, .long z2), (0, .ref 373)]) d_Mo_hash0_102 (by decide) rfl rfl rfl ?_
        refine ST.lift (fun _ _ k => T_goto (tgt := 84) d_Mo_hash0_105 rfl k) ?_
        refine ST.lift (fun _ _ k => T_iload_n d_Mo_hash0_84 rfl k) ?_
        refine ST.lift (fun _ _ k => T_bipush (v := nI 8) d_Mo_hash0_85 (by decide) k) ?_
        refine S_icmp_geN d_Mo_hash0_87 rfl (by omega) (by omega) (fun c => by first | exact absurd c (by omega) | exact c.elim | exact absurd c (by decide) | exact absurd (by assumption) c | exact absurd c (by assumption)) (fun _ => ?_)
        refine ST.lift (fun _ _ k => T_aload_n (v := .ref 373) d_Mo_hash0_90 rfl (Or.inr ⟨_, rfl⟩) k) ?_
        refine S_getfield d_Mo_hash0_91 fg_Mo_49 (w373 _) rfl ?_
        refine ST.lift (fun _ _ k => T_iload_n d_Mo_hash0_94 rfl k) ?_
        refine ST.lift (fun _ _ k => T_aload_n (v := .ref 373) d_Mo_hash0_95 rfl (Or.inr ⟨_, rfl⟩) k) ?_
        refine S_getfield d_Mo_hash0_96 fg_Mo_42 (w373 _) rfl ?_
        refine ST.lift (fun _ _ k => T_iload_n d_Mo_hash0_99 rfl k) ?_
        refine S_laload d_Mo_hash0_100 a376 (vp_in_nI (by omega) (by omega)) (fun z89 => ?_)
        refine S_lastore d_Mo_hash0_101 (by decide) a381 (vp_in_nI (by omega) (by omega)) ?_
        refine S_iincN (a := 1) (b := 1) (L' := [(3, .int (nI 2)), (1, .long z2), (0, .ref 373)]) d_Mo_hash0_102 (by decide) rfl rfl rfl ?_
        refine ST.lift (fun _ _ k => T_goto (tgt := 84) d_Mo_hash0_105 rfl k) ?_
        refine ST.lift (fun _ _ k => T_iload_n d_Mo_hash0_84 rfl k) ?_
        refine ST.lift (fun _ _ k => T_bipush (v := nI 8) d_Mo_hash0_85 (by decide) k) ?_
        refine S_icmp_geN d_Mo_hash0_87 rfl (by omega) (by omega) (fun c => by first | exact absurd c (by omega) | exact c.elim | exact absurd c (by decide) | exact absurd (by assumption) c | exact absurd c (by assumption)) (fun _ => ?_)
        refine ST.lift (fun _ _ k => T_aload_n (v := .ref 373) d_Mo_hash0_90 rfl (Or.inr ⟨_, rfl⟩) k) ?_
        refine S_getfield d_Mo_hash0_91 fg_Mo_49 (w373 _) rfl ?_
        refine ST.lift (fun _ _ k => T_iload_n d_Mo_hash0_94 rfl k) ?_
        refine ST.lift (fun _ _ k => T_aload_n (v := .ref 373) d_Mo_hash0_95 rfl (Or.inr ⟨_, rfl⟩) k) ?_
        refine S_getfield d_Mo_hash0_96 fg_Mo_42 (w373 _) rfl ?_
        refine ST.lift (fun _ _ k => T_iload_n d_Mo_hash0_99 rfl k) ?_
        refine S_laload d_Mo_hash0_100 a376 (vp_in_nI (by omega) (by omega)) (fun z90 => ?_)
        refine S_lastore d_Mo_hash0_101 (by decide) a381 (vp_in_nI (by omega) (by omega)) ?_
        refine S_iincN (a := 2) (b := 1) (L' := [(3, .int (nI 3)), (1, .long z2), (0, .ref 373)]) d_Mo_hash0_102 (by decide) rfl rfl rfl ?_
        refine ST.lift (fun _ _ k => T_goto (tgt := 84) d_Mo_hash0_105 rfl k) ?_
        refine ST.lift (fun _ _ k => T_iload_n d_Mo_hash0_84 rfl k) ?_
        refine ST.lift (fun _ _ k => T_bipush (v := nI 8) d_Mo_hash0_85 (by decide) k) ?_
        refine S_icmp_geN d_Mo_hash0_87 rfl (by omega) (by omega) (fun c => by first | exact absurd c (by omega) | exact c.elim | exact absurd c (by decide) | exact absurd (by assumption) c | exact absurd c (by assumption)) (fun _ => ?_)
        refine ST.lift (fun _ _ k => T_aload_n (v := .ref 373) d_Mo_hash0_90 rfl (Or.inr ⟨_, rfl⟩) k) ?_
        refine S_getfield d_Mo_hash0_91 fg_Mo_49 (w373 _) rfl ?_
        refine ST.lift (fun _ _ k => T_iload_n d_Mo_hash0_94 rfl k) ?_
        refine ST.lift (fun _ _ k => T_aload_n (v := .ref 373) d_Mo_hash0_95 rfl (Or.inr ⟨_, rfl⟩) k) ?_
        refine S_getfield d_Mo_hash0_96 fg_Mo_42 (w373 _) rfl ?_
        refine ST.lift (fun _ _ k => T_iload_n d_Mo_hash0_99 rfl k) ?_
        refine S_laload d_Mo_hash0_100 a376 (vp_in_nI (by omega) (by omega)) (fun z91 => ?_)
        refine S_lastore d_Mo_hash0_101 (by decide) a381 (vp_in_nI (by omega) (by omega)) ?_
        refine S_iincN (a := 3) (b := 1) (L' := [(3, .int (nI 4)), (1, .long z2), (0, .ref 373)]) d_Mo_hash0_102 (by decide) rfl rfl rfl ?_
        refine ST.lift (fun _ _ k => T_goto (tgt := 84) d_Mo_hash0_105 rfl k) ?_
        refine ST.lift (fun _ _ k => T_iload_n d_Mo_hash0_84 rfl k) ?_
        refine ST.lift (fun _ _ k => T_bipush (v := nI 8) d_Mo_hash0_85 (by decide) k) ?_
        refine S_icmp_geN d_Mo_hash0_87 rfl (by omega) (by omega) (fun c => by first | exact absurd c (by omega) | exact c.elim | exact absurd c (by decide) | exact absurd (by assumption) c | exact absurd c (by assumption)) (fun _ => ?_)
        refine ST.lift (fun _ _ k => T_aload_n (v := .ref 373) d_Mo_hash0_90 rfl (Or.inr ⟨_, rfl⟩) k) ?_
        refine S_getfield d_Mo_hash0_91 fg_Mo_49 (w373 _) rfl ?_
        refine ST.lift (fun _ _ k => T_iload_n d_Mo_hash0_94 rfl k) ?_
        refine ST.lift (fun _ _ k => T_aload_n (v := .ref 373) d_Mo_hash0_95 rfl (Or.inr ⟨_, rfl⟩) k) ?_
        refine S_getfield d_Mo_hash0_96 fg_Mo_42 (w373 _) rfl ?_
        refine ST.lift (fun _ _ k => T_iload_n d_Mo_hash0_99 rfl k) ?_
        refine S_laload d_Mo_hash0_100 a376 (vp_in_nI (by omega) (by omega)) (fun z92 => ?_)
        refine S_lastore d_Mo_hash0_101 (by decide) a381 (vp_in_nI (by omega) (by omega)) ?_
        refine S_iincN (a := 4) (b := 1) (L' := [(3, .int (nI 5)), (1, .long z2), (0, .ref 373)]) d_Mo_hash0_102 (by decide) rfl rfl rfl ?_
        refine ST.lift (fun _ _ k => T_goto (tgt := 84) d_Mo_hash0_105 rfl k) ?_
        refine ST.lift (fun _ _ k => T_iload_n d_Mo_hash0_84 rfl k) ?_
        refine ST.lift (fun _ _ k => T_bipush (v := nI 8) d_Mo_hash0_85 (by decide) k) ?_
        refine S_icmp_geN d_Mo_hash0_87 rfl (by omega) (by omega) (fun c => by first | exact absurd c (by omega) | exact c.elim | exact absurd c (by decide) | exact absurd (by assumption) c | exact absurd c (by assumption)) (fun _ => ?_)
        refine ST.lift (fun _ _ k => T_aload_n (v := .ref 373) d_Mo_hash0_90 rfl (Or.inr ⟨_, rfl⟩) k) ?_
        refine S_getfield d_Mo_hash0_91 fg_Mo_49 (w373 _) rfl ?_
        refine ST.lift (fun _ _ k => T_iload_n d_Mo_hash0_94 rfl k) ?_
        refine ST.lift (fun _ _ k => T_aload_n (v := .ref 373) d_Mo_hash0_95 rfl (Or.inr ⟨_, rfl⟩) k) ?_
        refine S_getfield d_Mo_hash0_96 fg_Mo_42 (w373 _) rfl ?_
        refine ST.lift (fun _ _ k => T_iload_n d_Mo_hash0_99 rfl k) ?_
        refine S_laload d_Mo_hash0_100 a376 (vp_in_nI (by omega) (by omega)) (fun z93 => ?_)
        refine S_lastore d_Mo_hash0_101 (by decide) a381 (vp_in_nI (by omega) (by omega)) ?_
        refine S_iincN (a := 5) (b := 1) (L' := [(3, .int (nI 6)), (1, .long z2), (0, .ref 373)]) d_Mo_hash0_102 (by decide) rfl rfl rfl ?_
        refine ST.lift (fun _ _ k => T_goto (tgt := 84) d_Mo_hash0_105 rfl k) ?_
        refine ST.lift (fun _ _ k => T_iload_n d_Mo_hash0_84 rfl k) ?_
        refine ST.lift (fun _ _ k => T_bipush (v := nI 8) d_Mo_hash0_85 (by decide) k) ?_
        refine S_icmp_geN d_Mo_hash0_87 rfl (by omega) (by omega) (fun c => by first | exact absurd c (by omega) | exact c.elim | exact absurd c (by decide) | exact absurd (by assumption) c | exact absurd c (by assumption)) (fun _ => ?_)
        refine ST.lift (fun _ _ k => T_aload_n (v := .ref 373) d_Mo_hash0_90 rfl (Or.inr ⟨_, rfl⟩) k) ?_
        refine S_getfield d_Mo_hash0_91 fg_Mo_49 (w373 _) rfl ?_
        refine ST.lift (fun _ _ k => T_iload_n d_Mo_hash0_94 rfl k) ?_
        refine ST.lift (fun _ _ k => T_aload_n (v := .ref 373) d_Mo_hash0_95 rfl (Or.inr ⟨_, rfl⟩) k) ?_
        refine S_getfield d_Mo_hash0_96 fg_Mo_42 (w373 _) rfl ?_
        refine ST.lift (fun _ _ k => T_iload_n d_Mo_hash0_99 rfl k) ?_
        refine S_laload d_Mo_hash0_100 a376 (vp_in_nI (by omega) (by omega)) (fun z94 => ?_)
        refine S_lastore d_Mo_hash0_101 (by decide) a381 (vp_in_nI (by omega) (by omega)) ?_
        refine S_iincN (a := 6) (b := 1) (L' := [(3, .int (nI 7)), (1, .long z2), (0, .ref 373)]) d_Mo_hash0_102 (by decide) rfl rfl rfl ?_
        refine ST.lift (fun _ _ k => T_goto (tgt := 84) d_Mo_hash0_105 rfl k) ?_
        refine ST.lift (fun _ _ k => T_iload_n d_Mo_hash0_84 rfl k) ?_
        refine ST.lift (fun _ _ k => T_bipush (v := nI 8) d_Mo_hash0_85 (by decide) k) ?_
        refine S_icmp_geN d_Mo_hash0_87 rfl (by omega) (by omega) (fun c => by first | exact absurd c (by omega) | exact c.elim | exact absurd c (by decide) | exact absurd (by assumption) c | exact absurd c (by assumption)) (fun _ => ?_)
        refine ST.lift (fun _ _ k => T_aload_n (v := .ref 373) d_Mo_hash0_90 rfl (Or.inr ⟨_, rfl⟩) k) ?_
        refine S_getfield d_Mo_hash0_91 fg_Mo_49 (w373 _) rfl ?_
        refine ST.lift (fun _ _ k => T_iload_n d_Mo_hash0_94 rfl k) ?_
        refine ST.lift (fun _ _ k => T_aload_n (v := .ref 373) d_Mo_hash0_95 rfl (Or.inr ⟨_, rfl⟩) k) ?_
        refine S_getfield d_Mo_hash0_96 fg_Mo_42 (w373 _) rfl ?_
        refine ST.lift (fun _ _ k => T_iload_n d_Mo_hash0_99 rfl k) ?_
        refine S_laload d_Mo_hash0_100 a376 (vp_in_nI (by omega) (by omega)) (fun z95 => ?_)
        refine S_lastore d_Mo_hash0_101 (by decide) a381 (vp_in_nI (by omega) (by omega)) ?_
        refine S_iincN (a := 7) (b := 1) (L' := [(3, .int (nI 8)), (1, .long z2), (0, .ref 373)]) d_Mo_hash0_102 (by decide) rfl rfl rfl ?_
        refine ST.lift (fun _ _ k => T_goto (tgt := 84) d_Mo_hash0_105 rfl k) ?_
        refine ST.lift (fun _ _ k => T_iload_n d_Mo_hash0_84 rfl k) ?_
        refine ST.lift (fun _ _ k => T_bipush (v := nI 8) d_Mo_hash0_85 (by decide) k) ?_
        refine S_icmp_geN d_Mo_hash0_87 rfl (by omega) (by omega) (fun _ => ?_) (fun c => by first | exact absurd c (by omega) | exact c.elim | exact absurd c (by decide) | exact absurd (by assumption) c | exact absurd c (by assumption))
        refine ST.lift (fun _ _ k => T_iconst (v := nI 0) d_Mo_hash0_108 (by decide) k) ?_
        refine ST.lift (fun _ _ k => T_istore_n (L' := [(3, .int (nI 0)), (1, .long z2), (0, .ref 373)]) d_Mo_hash0_109 (by decide) rfl k) ?_
        have lp99 : ∀ (n97 k96 : Nat), ((((((((((((((((k8 + 1) + 1) + 1) + 1) + 1) + 1) + 1) + 1) + 1) + 1) + 1) + 1) + 1) + 1) + 1) + 1) - 128 * k96 = n97 → 128 * k96 ≤ ((((((((((((((((k8 + 1) + 1) + 1) + 1) + 1) + 1) + 1) + 1) + 1) + 1) + 1) + 1) + 1) + 1) + 1) + 1) + 128 → ST G mi_Mo_hash0 110 [(3, .int (nI (128 * k96))), (1, .long z2), (0, .ref 373)] [] u85 0 0 Q := by
          intro n97
          induction n97 using Nat.strongRecOn with
          | _ n97 ih98 =>
            intro k96 h100 h101
            refine ST.lift (fun _ _ k => T_iload_n d_Mo_hash0_110 rfl k) ?_
            refine ST.lift (fun _ _ k => T_aload_n (v := .ref 373) d_Mo_hash0_111 rfl (Or.inr ⟨_, rfl⟩) k) ?_
            refine S_getfield d_Mo_hash0_112 fg_Mo_7 (w373 _) rfl ?_
            refine S_topi (y := nI ((((((((((((((((k8 + 1) + 1) + 1) + 1) + 1) + 1) + 1) + 1) + 1) + 1) + 1) + 1) + 1) + 1) + 1) + 1)) (e_u85) ?_
            refine S_icmp_geN d_Mo_hash0_115 rfl (by omega) (by omega) (fun c102 => ?_) (fun c102 => ?_)
            · refine ST.lift (fun _ _ k => T_iconst (v := nI 0) d_Mo_hash0_132 (by decide) k) ?_
              refine ST.lift (fun _ _ k => T_istore_n (L' := [(3, .int (nI 0)), (1, .long z2), (0, .ref 373)]) d_Mo_hash0_133 (by decide) rfl k) ?_
              have lp106 : ∀ (n104 k103 : Nat), 64 - k103 = n104 → 0 ≤ k103 ∧ k103 ≤ 0 + 64 → ST G mi_Mo_hash0 134 [(3, .int (nI k103)), (1, .long z2), (0, .ref 373)] [] u85 0 0 Q := by
                intro n104
                induction n104 using Nat.strongRecOn with
                | _ n104 ih105 =>
                  intro k103 h107 h108
                  refine ST.lift (fun _ _ k => T_iload_n d_Mo_hash0_134 rfl k) ?_
                  refine ST.lift (fun _ _ k => T_bipush (v := nI 64) d_Mo_hash0_135 (by decide) k) ?_
                  refine S_icmp_geN d_Mo_hash0_137 rfl (by omega) (by omega) (fun c109 => ?_) (fun c109 => ?_)
                  · refine ST.lift (fun _ _ k => T_aload_n (v := .ref 373) d_Mo_hash0_177 rfl (Or.inr ⟨_, rfl⟩) k) ?_
                    refine ST.lift (fun _ _ k => T_iconst (v := nI 0) d_Mo_hash0_178 (by decide) k) ?_
                    refine S_putfield (v' := va_up u85 67 (nI 0)) d_Mo_hash0_179 (fp_Mo_7 _) (w373 _) (Nat.le_of_ble_eq_true rfl) ⟨rfl, rfl⟩ (u373_2 _ _) ?_
                    have hv115 := hv86.up (j := 67) (c := 4000) (k := 0) (by decide) (by omega)
                    have hm116 := hm87.go (mdf.up (v := u85) (j := 67) (x := (nI 0))) (by intro i hi; simp only [List.mem_cons, List.not_mem_nil, or_false] at hi ⊢ <;> omega)
                    have e_u114 : (va_up u85 67 (nI 0)) 67 = (nI 0) := by simp [va_up]
                    generalize va_up u85 67 (nI 0) = u114 at hv115 hm116 e_u114 ⊢
                    exact S_vret d_Mo_hash0_182 rfl (by decide) (by decide) (hQ _ hv115 hm116 (e_u114.trans (congrArg nI (by omega))))
                  · refine ST.lift (fun _ _ k => T_aload_n (v := .ref 373) d_Mo_hash0_140 rfl (Or.inr ⟨_, rfl⟩) k) ?_
                    refine S_getfield d_Mo_hash0_141 fg_Mo_55 (w373 _) rfl ?_
                    refine ST.lift (fun _ _ k => T_iload_n d_Mo_hash0_144 rfl k) ?_
                    refine ST.lift (fun _ _ k => T_aload_n (v := .ref 373) d_Mo_hash0_145 rfl (Or.inr ⟨_, rfl⟩) k) ?_
                    refine S_getfield d_Mo_hash0_146 fg_Mo_49 (w373 _) rfl ?_
                    refine ST.lift (fun _ _ k => T_iload_n d_Mo_hash0_149 rfl k) ?_
                    refine ST.lift (fun _ _ k => T_bipush (v := nI 8) d_Mo_hash0_150 (by decide) k) ?_
                    refine S_idivN d_Mo_hash0_152 (by omega) (by omega) (by omega) ?_
                    refine S_laload d_Mo_hash0_153 a381 (vp_in_nI (by omega) (by omega)) (fun z117 => ?_)
                    refine ST.lift (fun _ _ k => T_bipush (v := nI 56) d_Mo_hash0_154 (by decide) k) ?_
                    refine ST.lift (fun _ _ k => T_bipush (v := nI 8) d_Mo_hash0_156 (by decide) k) ?_
                    refine ST.lift (fun _ _ k => T_iload_n d_Mo_hash0_158 rfl k) ?_
                    refine ST.lift (fun _ _ k => T_bipush (v := nI 8) d_Mo_hash0_159 (by decide) k) ?_
                    refine S_iremN d_Mo_hash0_161 (by omega) (by omega) (by omega) ?_
                    refine S_imulN d_Mo_hash0_162 ?_
                    refine S_isubN d_Mo_hash0_163 (by omega) ?_
                    refine ST.lift (fun _ _ k => T_lshr d_Mo_hash0_164 k) (S_anyl fun z118 => ?_)
                    refine ST.lift (fun _ _ k => T_ldc2 d_Mo_hash0_165 kJ_Mo_47 k) ?_
                    refine ST.lift (fun _ _ k => T_land d_Mo_hash0_168 k) (S_anyl fun z119 => ?_)
                    refine ST.lift (fun _ _ k => T_l2i d_Mo_hash0_169 k) (S_anyi fun z120 => ?_)
                    refine S_iastore d_Mo_hash0_170 (by decide) a383 (vp_in_nI (by omega) (by omega)) ?_
                    refine S_iincN (a := k103) (b := 1) (L' := [(3, .int (nI (k103 + 1))), (1, .long z2), (0, .ref 373)]) d_Mo_hash0_171 (by decide) rfl rfl rfl ?_
                    refine ST.lift (fun _ _ k => T_goto (tgt := 134) d_Mo_hash0_174 rfl k) ?_
                    exact ih105 (64 - (k103 + 1)) (by omega) (k103 + 1)  rfl (by omega)
              exact lp106 _ 0  rfl (by omega)
            · refine ST.lift (fun _ _ k => T_aload_n (v := .ref 373) d_Mo_hash0_118 rfl (Or.inr ⟨_, rfl⟩) k) ?_
              refine ST.lift (fun _ _ k => T_iload_n d_Mo_hash0_119 rfl k) ?_
              refine S_virtual (as := [.int (nI (128 * k96))]) (rest := []) (b := 373) d_Mo_hash0_120 rfl (jw_Mo_block.jo (by decide)) lm_Mo_52 ji_Mo_block js_Mo_block (w373 _) rfl rfl rfl (Nat.le_of_ble_eq_true rfl) (by decide) (by decide) (c_Mo_block G u85 (128 * k96) (by omega)) (fun r v' hq => ?_)
              rw [hq.1, hq.2]
              clear hq r v'
              show ST G mi_Mo_hash0 123 [(3, .int (nI (128 * k96))), (1, .long z2), (0, .ref 373)] [] u85 0 0 _
              refine S_iincW (a := (128 * k96)) (b := 128) (L' := [(3, .int (nI (128 * k96 + 128))), (1, .long z2), (0, .ref 373)]) d_Mo_hash0_123 (by decide) rfl rfl rfl ?_
              refine ST.lift (fun _ _ k => T_goto (tgt := 110) d_Mo_hash0_129 rfl k) ?_
              refine S_loc (L' := [(3, .int (nI (128 * (k96 + 1)))), (1, .long z2), (0, .ref 373)]) (by rw [Nat.mul_add]) ?_
              exact ih98 (((((((((((((((((k8 + 1) + 1) + 1) + 1) + 1) + 1) + 1) + 1) + 1) + 1) + 1) + 1) + 1) + 1) + 1) + 1) - 128 * (k96 + 1)) (by omega) (k96 + 1)  rfl (by omega)
        exact lp99 _ 0  rfl (by omega)
      · refine ST.lift (fun _ _ k => T_aload_n (v := .ref 373) d_Mo_hash0_30 rfl (Or.inr ⟨_, rfl⟩) k) ?_
        refine ST.lift (fun _ _ k => T_iconst (v := nI 0) d_Mo_hash0_31 (by decide) k) ?_
        refine S_virtual (as := [.int (nI 0)]) (rest := []) (b := 373) d_Mo_hash0_32 rfl (jw_Mo_one.jo (by decide)) lm_Mo_11 ji_Mo_one js_Mo_one (w373 _) rfl rfl rfl (Nat.le_of_ble_eq_true rfl) (by decide) (by decide) (c_Mo_one G u11 (nI 0) k8 es_u11 (by omega) hv_u11) (fun r v' hq => ?_)
        rw [hq.1, hq.2]
        clear hq r v'
        show ST G mi_Mo_hash0 35 [(1, .long z2), (0, .ref 373)] [] (va_up u11 67 (nI (k8 + 1))) 0 0 _
        have hv122 := hv_u11.up (j := 67) (c := 4000) (k := (k8 + 1)) (by decide) (by omega)
        have hm123 := hm_u11.go (mdf.up (v := u11) (j := 67) (x := (nI (k8 + 1)))) (by intro i hi; simp only [List.mem_cons, List.not_mem_nil, or_false] at hi ⊢ <;> omega)
        have e_u121 : (va_up u11 67 (nI (k8 + 1))) 67 = (nI (k8 + 1)) := by simp [va_up]
        generalize va_up u11 67 (nI (k8 + 1)) = u121 at hv122 hm123 e_u121 ⊢
        refine ST.lift (fun _ _ k => T_goto (tgt := 17) d_Mo_hash0_35 rfl k) ?_
        exact ih9 (T6 - (k8 + 1)) (by omega) (k8 + 1) u121 hv122 hm123 e_u121 rfl (by omega)
  exact lp10 _ (s + 1) u3 hv4 hm5 e_u3 rfl (by omega)
