abbrev lr (n : Nat) (f : Nat → Int64) : va_E := .inl (0, n, .inr (.inl f))
theorem X_last {G : GX} {mi : MI} {pc : Nat} {L : List (Nat × Value)} {st : List Value} {M : List va_E} {kc ks : Nat} {Q : Option Value → List va_E → Prop} {a n k : Nat} {f : Nat → Int64} {x : Int64} (hd : decode (mC mi) pc = .ok (.lastore, 1)) (ha : K0 ≤ a) (hk : k < n) (hn : n < 2 ^ 31) (hl : a < M.length) (kk : TT G mi (pc + 1) L st (M.set a (lr n (vp_updL f k x))) kc ks Q) : TT G mi pc L (.long x :: .int (nI k) :: .ref a :: st) (M.set a (lr n f)) kc ks Q := by
  refine T_lastore hd ha (List.getElem?_set_self hl) (vp_in_nI hk hn) ?_ kk
  rw [List.set_set, nI_clamp (by omega)]
theorem X_same {M : List va_E} {a : Nat} {e : va_E} (h : M[a]? = some e) : M = M.set a e := by
  obtain ⟨h1, h2⟩ := List.getElem?_eq_some_iff.mp h
  rw [← h2, List.set_getElem_self]
theorem X_len {M : List va_E} {a : Nat} {e : va_E} (h : M[a]? = some e) : a < M.length := (List.getElem?_eq_some_iff.mp h).1
set_option maxRecDepth 100000 in
set_option maxHeartbeats 4000000 in
theorem x_Fi_multiply (G : GX) {M : List va_E} {to f g : Nat} {H F E : Nat → Int64} (kto : K0 ≤ to) (hto : M[to]? = some (lr 10 H)) (hf : M[f]? = some (lr 10 F)) (hg : M[g]? = some (lr 10 E)) : CT G mi_Fi_multiply [.ref to, .ref f, .ref g] M (fun r M' => r = none ∧ ∃ F', M' = M.set to (lr 10 F') ∧ ∀ i, i < 10 → F' i = mulW F E i) := by
  refine CT.of (by decide) (Nat.le_of_ble_eq_true rfl) ?_
  have hlto := X_len hto
  show TT G mi_Fi_multiply 0 [(0, .ref to), (1, .ref f), (2, .ref g)] [] M 0 0 _
  refine T_aload_n (v := .ref f) d_Fi_multiply_0 rfl (Or.inr ⟨_, rfl⟩) ?_
  refine T_iconst (v := (nI 0)) d_Fi_multiply_1 (by decide) ?_
  refine T_laload d_Fi_multiply_2 hf (vp_in_nI (by decide) (by decide)) ?_
  refine T_eq (pc' := 3) (st' := [.long (F 0)]) rfl rfl rfl rfl ?_
  refine T_topl (fun w0 ew0 => ?_)
  refine T_lstore_n (L' := [(3, .long w0), (0, .ref to), (1, .ref f), (2, .ref g)]) d_Fi_multiply_3 (by decide) rfl ?_
  refine T_aload_n (v := .ref f) d_Fi_multiply_4 rfl (Or.inr ⟨_, rfl⟩) ?_
  refine T_iconst (v := (nI 1)) d_Fi_multiply_5 (by decide) ?_
  refine T_laload d_Fi_multiply_6 hf (vp_in_nI (by decide) (by decide)) ?_
  refine T_eq (pc' := 7) (st' := [.long (F 1)]) rfl rfl rfl rfl ?_
  refine T_topl (fun w1 ew1 => ?_)
  refine T_lstore (L' := [(5, .long w1), (3, .long w0), (0, .ref to), (1, .ref f), (2, .ref g)]) d_Fi_multiply_7 (by decide) rfl ?_
  refine T_aload_n (v := .ref f) d_Fi_multiply_9 rfl (Or.inr ⟨_, rfl⟩) ?_
  refine T_iconst (v := (nI 2)) d_Fi_multiply_10 (by decide) ?_
  refine T_laload d_Fi_multiply_11 hf (vp_in_nI (by decide) (by decide)) ?_
  refine T_eq (pc' := 12) (st' := [.long (F 2)]) rfl rfl rfl rfl ?_
  refine T_topl (fun w2 ew2 => ?_)
  refine T_lstore (L' := [(7, .long w2), (5, .long w1), (3, .long w0), (0, .ref to), (1, .ref f), (2, .ref g)]) d_Fi_multiply_12 (by decide) rfl ?_
  refine T_aload_n (v := .ref f) d_Fi_multiply_14 rfl (Or.inr ⟨_, rfl⟩) ?_
  refine T_iconst (v := (nI 3)) d_Fi_multiply_15 (by decide) ?_
  refine T_laload d_Fi_multiply_16 hf (vp_in_nI (by decide) (by decide)) ?_
  refine T_eq (pc' := 17) (st' := [.long (F 3)]) rfl rfl rfl rfl ?_
  refine T_topl (fun w3 ew3 => ?_)
  refine T_lstore (L' := [(9, .long w3), (7, .long w2), (5, .long w1), (3, .long w0), (0, .ref to), (1, .ref f), (2, .ref g)]) d_Fi_multiply_17 (by decide) rfl ?_
  refine T_aload_n (v := .ref f) d_Fi_multiply_19 rfl (Or.inr ⟨_, rfl⟩) ?_
  refine T_iconst (v := (nI 4)) d_Fi_multiply_20 (by decide) ?_
  refine T_laload d_Fi_multiply_21 hf (vp_in_nI (by decide) (by decide)) ?_
  refine T_eq (pc' := 22) (st' := [.long (F 4)]) rfl rfl rfl rfl ?_
  refine T_topl (fun w4 ew4 => ?_)
  refine T_lstore (L' := [(11, .long w4), (9, .long w3), (7, .long w2), (5, .long w1), (3, .long w0), (0, .ref to), (1, .ref f), (2, .ref g)]) d_Fi_multiply_22 (by decide) rfl ?_
  refine T_aload_n (v := .ref f) d_Fi_multiply_24 rfl (Or.inr ⟨_, rfl⟩) ?_
  refine T_iconst (v := (nI 5)) d_Fi_multiply_25 (by decide) ?_
  refine T_laload d_Fi_multiply_26 hf (vp_in_nI (by decide) (by decide)) ?_
  refine T_eq (pc' := 27) (st' := [.long (F 5)]) rfl rfl rfl rfl ?_
  refine T_topl (fun w5 ew5 => ?_)
  refine T_lstore (L' := [(13, .long w5), (11, .long w4), (9, .long w3), (7, .long w2), (5, .long w1), (3, .long w0), (0, .ref to), (1, .ref f), (2, .ref g)]) d_Fi_multiply_27 (by decide) rfl ?_
  refine T_aload_n (v := .ref f) d_Fi_multiply_29 rfl (Or.inr ⟨_, rfl⟩) ?_
  refine T_bipush (v := (nI 6)) d_Fi_multiply_30 (by decide) ?_
  refine T_laload d_Fi_multiply_32 hf (vp_in_nI (by decide) (by decide)) ?_
  refine T_eq (pc' := 33) (st' := [.long (F 6)]) rfl rfl rfl rfl ?_
  refine T_topl (fun w6 ew6 => ?_)
  refine T_lstore (L' := [(15, .long w6), (13, .long w5), (11, .long w4), (9, .long w3), (7, .long w2), (5, .long w1), (3, .long w0), (0, .ref to), (1, .ref f), (2, .ref g)]) d_Fi_multiply_33 (by decide) rfl ?_
  refine T_aload_n (v := .ref f) d_Fi_multiply_35 rfl (Or.inr ⟨_, rfl⟩) ?_
  refine T_bipush (v := (nI 7)) d_Fi_multiply_36 (by decide) ?_
  refine T_laload d_Fi_multiply_38 hf (vp_in_nI (by decide) (by decide)) ?_
  refine T_eq (pc' := 39) (st' := [.long (F 7)]) rfl rfl rfl rfl ?_
  refine T_topl (fun w7 ew7 => ?_)
  refine T_lstore (L' := [(17, .long w7), (15, .long w6), (13, .long w5), (11, .long w4), (9, .long w3), (7, .long w2), (5, .long w1), (3, .long w0), (0, .ref to), (1, .ref f), (2, .ref g)]) d_Fi_multiply_39 (by decide) rfl ?_
  refine T_aload_n (v := .ref f) d_Fi_multiply_41 rfl (Or.inr ⟨_, rfl⟩) ?_
  refine T_bipush (v := (nI 8)) d_Fi_multiply_42 (by decide) ?_
  refine T_laload d_Fi_multiply_44 hf (vp_in_nI (by decide) (by decide)) ?_
  refine T_eq (pc' := 45) (st' := [.long (F 8)]) rfl rfl rfl rfl ?_
  refine T_topl (fun w8 ew8 => ?_)
  refine T_lstore (L' := [(19, .long w8), (17, .long w7), (15, .long w6), (13, .long w5), (11, .long w4), (9, .long w3), (7, .long w2), (5, .long w1), (3, .long w0), (0, .ref to), (1, .ref f), (2, .ref g)]) d_Fi_multiply_45 (by decide) rfl ?_
  refine T_aload_n (v := .ref f) d_Fi_multiply_47 rfl (Or.inr ⟨_, rfl⟩) ?_
  refine T_bipush (v := (nI 9)) d_Fi_multiply_48 (by decide) ?_
  refine T_laload d_Fi_multiply_50 hf (vp_in_nI (by decide) (by decide)) ?_
  refine T_eq (pc' := 51) (st' := [.long (F 9)]) rfl rfl rfl rfl ?_
  refine T_topl (fun w9 ew9 => ?_)
  refine T_lstore (L' := [(21, .long w9), (19, .long w8), (17, .long w7), (15, .long w6), (13, .long w5), (11, .long w4), (9, .long w3), (7, .long w2), (5, .long w1), (3, .long w0), (0, .ref to), (1, .ref f), (2, .ref g)]) d_Fi_multiply_51 (by decide) rfl ?_
  refine T_aload_n (v := .ref g) d_Fi_multiply_53 rfl (Or.inr ⟨_, rfl⟩) ?_
  refine T_iconst (v := (nI 0)) d_Fi_multiply_54 (by decide) ?_
  refine T_laload d_Fi_multiply_55 hg (vp_in_nI (by decide) (by decide)) ?_
  refine T_eq (pc' := 56) (st' := [.long (E 0)]) rfl rfl rfl rfl ?_
  refine T_topl (fun w10 ew10 => ?_)
  refine T_lstore (L' := [(23, .long w10), (21, .long w9), (19, .long w8), (17, .long w7), (15, .long w6), (13, .long w5), (11, .long w4), (9, .long w3), (7, .long w2), (5, .long w1), (3, .long w0), (0, .ref to), (1, .ref f), (2, .ref g)]) d_Fi_multiply_56 (by decide) rfl ?_
  refine T_aload_n (v := .ref g) d_Fi_multiply_58 rfl (Or.inr ⟨_, rfl⟩) ?_
  refine T_iconst (v := (nI 1)) d_Fi_multiply_59 (by decide) ?_
  refine T_laload d_Fi_multiply_60 hg (vp_in_nI (by decide) (by decide)) ?_
  refine T_eq (pc' := 61) (st' := [.long (E 1)]) rfl rfl rfl rfl ?_
  refine T_topl (fun w11 ew11 => ?_)
  refine T_lstore (L' := [(25, .long w11), (23, .long w10), (21, .long w9), (19, .long w8), (17, .long w7), (15, .long w6), (13, .long w5), (11, .long w4), (9, .long w3), (7, .long w2), (5, .long w1), (3, .long w0), (0, .ref to), (1, .ref f), (2, .ref g)]) d_Fi_multiply_61 (by decide) rfl ?_
  refine T_aload_n (v := .ref g) d_Fi_multiply_63 rfl (Or.inr ⟨_, rfl⟩) ?_
  refine T_iconst (v := (nI 2)) d_Fi_multiply_64 (by decide) ?_
  refine T_laload d_Fi_multiply_65 hg (vp_in_nI (by decide) (by decide)) ?_
  refine T_eq (pc' := 66) (st' := [.long (E 2)]) rfl rfl rfl rfl ?_
  refine T_topl (fun w12 ew12 => ?_)
  refine T_lstore (L' := [(27, .long w12), (25, .long w11), (23, .long w10), (21, .long w9), (19, .long w8), (17, .long w7), (15, .long w6), (13, .long w5), (11, .long w4), (9, .long w3), (7, .long w2), (5, .long w1), (3, .long w0), (0, .ref to), (1, .ref f), (2, .ref g)]) d_Fi_multiply_66 (by decide) rfl ?_
  refine T_aload_n (v := .ref g) d_Fi_multiply_68 rfl (Or.inr ⟨_, rfl⟩) ?_
  refine T_iconst (v := (nI 3)) d_Fi_multiply_69 (by decide) ?_
  refine T_laload d_Fi_multiply_70 hg (vp_in_nI (by decide) (by decide)) ?_
  refine T_eq (pc' := 71) (st' := [.long (E 3)]) rfl rfl rfl rfl ?_
  refine T_topl (fun w13 ew13 => ?_)
  refine T_lstore (L' := [(29, .long w13), (27, .long w12), (25, .long w11), (23, .long w10), (21, .long w9), (19, .long w8), (17, .long w7), (15, .long w6), (13, .long w5), (11, .long w4), (9, .long w3), (7, .long w2), (5, .long w1), (3, .long w0), (0, .ref to), (1, .ref f), (2, .ref g)]) d_Fi_multiply_71 (by decide) rfl ?_
  refine T_aload_n (v := .ref g) d_Fi_multiply_73 rfl (Or.inr ⟨_, rfl⟩) ?_
  refine T_iconst (v := (nI 4)) d_Fi_multiply_74 (by decide) ?_
  refine T_laload d_Fi_multiply_75 hg (vp_in_nI (by decide) (by decide)) ?_
  refine T_eq (pc' := 76) (st' := [.long (E 4)]) rfl rfl rfl rfl ?_
  refine T_topl (fun w14 ew14 => ?_)
  refine T_lstore (L' := [(31, .long w14), (29, .long w13), (27, .long w12), (25, .long w11), (23, .long w10), (21, .long w9), (19, .long w8), (17, .long w7), (15, .long w6), (13, .long w5), (11, .long w4), (9, .long w3), (7, .long w2), (5, .long w1), (3, .long w0), (0, .ref to), (1, .ref f), (2, .ref g)]) d_Fi_multiply_76 (by decide) rfl ?_
  refine T_aload_n (v := .ref g) d_Fi_multiply_78 rfl (Or.inr ⟨_, rfl⟩) ?_
  refine T_iconst (v := (nI 5)) d_Fi_multiply_79 (by decide) ?_
  refine T_laload d_Fi_multiply_80 hg (vp_in_nI (by decide) (by decide)) ?_
  refine T_eq (pc' := 81) (st' := [.long (E 5)]) rfl rfl rfl rfl ?_
  refine T_topl (fun w15 ew15 => ?_)
  refine T_lstore (L' := [(33, .long w15), (31, .long w14), (29, .long w13), (27, .long w12), (25, .long w11), (23, .long w10), (21, .long w9), (19, .long w8), (17, .long w7), (15, .long w6), (13, .long w5), (11, .long w4), (9, .long w3), (7, .long w2), (5, .long w1), (3, .long w0), (0, .ref to), (1, .ref f), (2, .ref g)]) d_Fi_multiply_81 (by decide) rfl ?_
  refine T_aload_n (v := .ref g) d_Fi_multiply_83 rfl (Or.inr ⟨_, rfl⟩) ?_
  refine T_bipush (v := (nI 6)) d_Fi_multiply_84 (by decide) ?_
  refine T_laload d_Fi_multiply_86 hg (vp_in_nI (by decide) (by decide)) ?_
  refine T_eq (pc' := 87) (st' := [.long (E 6)]) rfl rfl rfl rfl ?_
  refine T_topl (fun w16 ew16 => ?_)
  refine T_lstore (L' := [(35, .long w16), (33, .long w15), (31, .long w14), (29, .long w13), (27, .long w12), (25, .long w11), (23, .long w10), (21, .long w9), (19, .long w8), (17, .long w7), (15, .long w6), (13, .long w5), (11, .long w4), (9, .long w3), (7, .long w2), (5, .long w1), (3, .long w0), (0, .ref to), (1, .ref f), (2, .ref g)]) d_Fi_multiply_87 (by decide) rfl ?_
  refine T_aload_n (v := .ref g) d_Fi_multiply_89 rfl (Or.inr ⟨_, rfl⟩) ?_
  refine T_bipush (v := (nI 7)) d_Fi_multiply_90 (by decide) ?_
  refine T_laload d_Fi_multiply_92 hg (vp_in_nI (by decide) (by decide)) ?_
  refine T_eq (pc' := 93) (st' := [.long (E 7)]) rfl rfl rfl rfl ?_
  refine T_topl (fun w17 ew17 => ?_)
  refine T_lstore (L' := [(37, .long w17), (35, .long w16), (33, .long w15), (31, .long w14), (29, .long w13), (27, .long w12), (25, .long w11), (23, .long w10), (21, .long w9), (19, .long w8), (17, .long w7), (15, .long w6), (13, .long w5), (11, .long w4), (9, .long w3), (7, .long w2), (5, .long w1), (3, .long w0), (0, .ref to), (1, .ref f), (2, .ref g)]) d_Fi_multiply_93 (by decide) rfl ?_
  refine T_aload_n (v := .ref g) d_Fi_multiply_95 rfl (Or.inr ⟨_, rfl⟩) ?_
  refine T_bipush (v := (nI 8)) d_Fi_multiply_96 (by decide) ?_
  refine T_laload d_Fi_multiply_98 hg (vp_in_nI (by decide) (by decide)) ?_
  refine T_eq (pc' := 99) (st' := [.long (E 8)]) rfl rfl rfl rfl ?_
  refine T_topl (fun w18 ew18 => ?_)
  refine T_lstore (L' := [(39, .long w18), (37, .long w17), (35, .long w16), (33, .long w15), (31, .long w14), (29, .long w13), (27, .long w12), (25, .long w11), (23, .long w10), (21, .long w9), (19, .long w8), (17, .long w7), (15, .long w6), (13, .long w5), (11, .long w4), (9, .long w3), (7, .long w2), (5, .long w1), (3, .long w0), (0, .ref to), (1, .ref f), (2, .ref g)]) d_Fi_multiply_99 (by decide) rfl ?_
  refine T_aload_n (v := .ref g) d_Fi_multiply_101 rfl (Or.inr ⟨_, rfl⟩) ?_
  refine T_bipush (v := (nI 9)) d_Fi_multiply_102 (by decide) ?_
  refine T_laload d_Fi_multiply_104 hg (vp_in_nI (by decide) (by decide)) ?_
  refine T_eq (pc' := 105) (st' := [.long (E 9)]) rfl rfl rfl rfl ?_
  refine T_topl (fun w19 ew19 => ?_)
  refine T_lstore (L' := [(41, .long w19), (39, .long w18), (37, .long w17), (35, .long w16), (33, .long w15), (31, .long w14), (29, .long w13), (27, .long w12), (25, .long w11), (23, .long w10), (21, .long w9), (19, .long w8), (17, .long w7), (15, .long w6), (13, .long w5), (11, .long w4), (9, .long w3), (7, .long w2), (5, .long w1), (3, .long w0), (0, .ref to), (1, .ref f), (2, .ref g)]) d_Fi_multiply_105 (by decide) rfl ?_
  refine T_ldc2 d_Fi_multiply_107 kJ_Fi_31 ?_
  refine T_lload d_Fi_multiply_110 rfl ?_
  refine T_lmul d_Fi_multiply_112 ?_
  refine T_topl (fun w20 ew20 => ?_)
  refine T_lstore (L' := [(43, .long w20), (41, .long w19), (39, .long w18), (37, .long w17), (35, .long w16), (33, .long w15), (31, .long w14), (29, .long w13), (27, .long w12), (25, .long w11), (23, .long w10), (21, .long w9), (19, .long w8), (17, .long w7), (15, .long w6), (13, .long w5), (11, .long w4), (9, .long w3), (7, .long w2), (5, .long w1), (3, .long w0), (0, .ref to), (1, .ref f), (2, .ref g)]) d_Fi_multiply_113 (by decide) rfl ?_
  refine T_ldc2 d_Fi_multiply_115 kJ_Fi_31 ?_
  refine T_lload d_Fi_multiply_118 rfl ?_
  refine T_lmul d_Fi_multiply_120 ?_
  refine T_topl (fun w21 ew21 => ?_)
  refine T_lstore (L' := [(45, .long w21), (43, .long w20), (41, .long w19), (39, .long w18), (37, .long w17), (35, .long w16), (33, .long w15), (31, .long w14), (29, .long w13), (27, .long w12), (25, .long w11), (23, .long w10), (21, .long w9), (19, .long w8), (17, .long w7), (15, .long w6), (13, .long w5), (11, .long w4), (9, .long w3), (7, .long w2), (5, .long w1), (3, .long w0), (0, .ref to), (1, .ref f), (2, .ref g)]) d_Fi_multiply_121 (by decide) rfl ?_
  refine T_ldc2 d_Fi_multiply_123 kJ_Fi_31 ?_
  refine T_lload d_Fi_multiply_126 rfl ?_
  refine T_lmul d_Fi_multiply_128 ?_
  refine T_topl (fun w22 ew22 => ?_)
  refine T_lstore (L' := [(47, .long w22), (45, .long w21), (43, .long w20), (41, .long w19), (39, .long w18), (37, .long w17), (35, .long w16), (33, .long w15), (31, .long w14), (29, .long w13), (27, .long w12), (25, .long w11), (23, .long w10), (21, .long w9), (19, .long w8), (17, .long w7), (15, .long w6), (13, .long w5), (11, .long w4), (9, .long w3), (7, .long w2), (5, .long w1), (3, .long w0), (0, .ref to), (1, .ref f), (2, .ref g)]) d_Fi_multiply_129 (by decide) rfl ?_
  refine T_ldc2 d_Fi_multiply_131 kJ_Fi_31 ?_
  refine T_lload d_Fi_multiply_134 rfl ?_
  refine T_lmul d_Fi_multiply_136 ?_
  refine T_topl (fun w23 ew23 => ?_)
  refine T_lstore (L' := [(49, .long w23), (47, .long w22), (45, .long w21), (43, .long w20), (41, .long w19), (39, .long w18), (37, .long w17), (35, .long w16), (33, .long w15), (31, .long w14), (29, .long w13), (27, .long w12), (25, .long w11), (23, .long w10), (21, .long w9), (19, .long w8), (17, .long w7), (15, .long w6), (13, .long w5), (11, .long w4), (9, .long w3), (7, .long w2), (5, .long w1), (3, .long w0), (0, .ref to), (1, .ref f), (2, .ref g)]) d_Fi_multiply_137 (by decide) rfl ?_
  refine T_ldc2 d_Fi_multiply_139 kJ_Fi_31 ?_
  refine T_lload d_Fi_multiply_142 rfl ?_
  refine T_lmul d_Fi_multiply_144 ?_
  refine T_topl (fun w24 ew24 => ?_)
  refine T_lstore (L' := [(51, .long w24), (49, .long w23), (47, .long w22), (45, .long w21), (43, .long w20), (41, .long w19), (39, .long w18), (37, .long w17), (35, .long w16), (33, .long w15), (31, .long w14), (29, .long w13), (27, .long w12), (25, .long w11), (23, .long w10), (21, .long w9), (19, .long w8), (17, .long w7), (15, .long w6), (13, .long w5), (11, .long w4), (9, .long w3), (7, .long w2), (5, .long w1), (3, .long w0), (0, .ref to), (1, .ref f), (2, .ref g)]) d_Fi_multiply_145 (by decide) rfl ?_
  refine T_ldc2 d_Fi_multiply_147 kJ_Fi_31 ?_
  refine T_lload d_Fi_multiply_150 rfl ?_
  refine T_lmul d_Fi_multiply_152 ?_
  refine T_topl (fun w25 ew25 => ?_)
  refine T_lstore (L' := [(53, .long w25), (51, .long w24), (49, .long w23), (47, .long w22), (45, .long w21), (43, .long w20), (41, .long w19), (39, .long w18), (37, .long w17), (35, .long w16), (33, .long w15), (31, .long w14), (29, .long w13), (27, .long w12), (25, .long w11), (23, .long w10), (21, .long w9), (19, .long w8), (17, .long w7), (15, .long w6), (13, .long w5), (11, .long w4), (9, .long w3), (7, .long w2), (5, .long w1), (3, .long w0), (0, .ref to), (1, .ref f), (2, .ref g)]) d_Fi_multiply_153 (by decide) rfl ?_
  refine T_ldc2 d_Fi_multiply_155 kJ_Fi_31 ?_
  refine T_lload d_Fi_multiply_158 rfl ?_
  refine T_lmul d_Fi_multiply_160 ?_
  refine T_topl (fun w26 ew26 => ?_)
  refine T_lstore (L' := [(55, .long w26), (53, .long w25), (51, .long w24), (49, .long w23), (47, .long w22), (45, .long w21), (43, .long w20), (41, .long w19), (39, .long w18), (37, .long w17), (35, .long w16), (33, .long w15), (31, .long w14), (29, .long w13), (27, .long w12), (25, .long w11), (23, .long w10), (21, .long w9), (19, .long w8), (17, .long w7), (15, .long w6), (13, .long w5), (11, .long w4), (9, .long w3), (7, .long w2), (5, .long w1), (3, .long w0), (0, .ref to), (1, .ref f), (2, .ref g)]) d_Fi_multiply_161 (by decide) rfl ?_
  refine T_ldc2 d_Fi_multiply_163 kJ_Fi_31 ?_
  refine T_lload d_Fi_multiply_166 rfl ?_
  refine T_lmul d_Fi_multiply_168 ?_
  refine T_topl (fun w27 ew27 => ?_)
  refine T_lstore (L' := [(57, .long w27), (55, .long w26), (53, .long w25), (51, .long w24), (49, .long w23), (47, .long w22), (45, .long w21), (43, .long w20), (41, .long w19), (39, .long w18), (37, .long w17), (35, .long w16), (33, .long w15), (31, .long w14), (29, .long w13), (27, .long w12), (25, .long w11), (23, .long w10), (21, .long w9), (19, .long w8), (17, .long w7), (15, .long w6), (13, .long w5), (11, .long w4), (9, .long w3), (7, .long w2), (5, .long w1), (3, .long w0), (0, .ref to), (1, .ref f), (2, .ref g)]) d_Fi_multiply_169 (by decide) rfl ?_
  refine T_ldc2 d_Fi_multiply_171 kJ_Fi_31 ?_
  refine T_lload d_Fi_multiply_174 rfl ?_
  refine T_lmul d_Fi_multiply_176 ?_
  refine T_topl (fun w28 ew28 => ?_)
  refine T_lstore (L' := [(59, .long w28), (57, .long w27), (55, .long w26), (53, .long w25), (51, .long w24), (49, .long w23), (47, .long w22), (45, .long w21), (43, .long w20), (41, .long w19), (39, .long w18), (37, .long w17), (35, .long w16), (33, .long w15), (31, .long w14), (29, .long w13), (27, .long w12), (25, .long w11), (23, .long w10), (21, .long w9), (19, .long w8), (17, .long w7), (15, .long w6), (13, .long w5), (11, .long w4), (9, .long w3), (7, .long w2), (5, .long w1), (3, .long w0), (0, .ref to), (1, .ref f), (2, .ref g)]) d_Fi_multiply_177 (by decide) rfl ?_
  refine T_ldc2 d_Fi_multiply_179 kJ_Fi_33 ?_
  refine T_lload d_Fi_multiply_182 rfl ?_
  refine T_lmul d_Fi_multiply_184 ?_
  refine T_topl (fun w29 ew29 => ?_)
  refine T_lstore (L' := [(61, .long w29), (59, .long w28), (57, .long w27), (55, .long w26), (53, .long w25), (51, .long w24), (49, .long w23), (47, .long w22), (45, .long w21), (43, .long w20), (41, .long w19), (39, .long w18), (37, .long w17), (35, .long w16), (33, .long w15), (31, .long w14), (29, .long w13), (27, .long w12), (25, .long w11), (23, .long w10), (21, .long w9), (19, .long w8), (17, .long w7), (15, .long w6), (13, .long w5), (11, .long w4), (9, .long w3), (7, .long w2), (5, .long w1), (3, .long w0), (0, .ref to), (1, .ref f), (2, .ref g)]) d_Fi_multiply_185 (by decide) rfl ?_
  refine T_ldc2 d_Fi_multiply_187 kJ_Fi_33 ?_
  refine T_lload d_Fi_multiply_190 rfl ?_
  refine T_lmul d_Fi_multiply_192 ?_
  refine T_topl (fun w30 ew30 => ?_)
  refine T_lstore (L' := [(63, .long w30), (61, .long w29), (59, .long w28), (57, .long w27), (55, .long w26), (53, .long w25), (51, .long w24), (49, .long w23), (47, .long w22), (45, .long w21), (43, .long w20), (41, .long w19), (39, .long w18), (37, .long w17), (35, .long w16), (33, .long w15), (31, .long w14), (29, .long w13), (27, .long w12), (25, .long w11), (23, .long w10), (21, .long w9), (19, .long w8), (17, .long w7), (15, .long w6), (13, .long w5), (11, .long w4), (9, .long w3), (7, .long w2), (5, .long w1), (3, .long w0), (0, .ref to), (1, .ref f), (2, .ref g)]) d_Fi_multiply_193 (by decide) rfl ?_
  refine T_ldc2 d_Fi_multiply_195 kJ_Fi_33 ?_
  refine T_lload d_Fi_multiply_198 rfl ?_
  refine T_lmul d_Fi_multiply_200 ?_
  refine T_topl (fun w31 ew31 => ?_)
  refine T_lstore (L' := [(65, .long w31), (63, .long w30), (61, .long w29), (59, .long w28), (57, .long w27), (55, .long w26), (53, .long w25), (51, .long w24), (49, .long w23), (47, .long w22), (45, .long w21), (43, .long w20), (41, .long w19), (39, .long w18), (37, .long w17), (35, .long w16), (33, .long w15), (31, .long w14), (29, .long w13), (27, .long w12), (25, .long w11), (23, .long w10), (21, .long w9), (19, .long w8), (17, .long w7), (15, .long w6), (13, .long w5), (11, .long w4), (9, .long w3), (7, .long w2), (5, .long w1), (3, .long w0), (0, .ref to), (1, .ref f), (2, .ref g)]) d_Fi_multiply_201 (by decide) rfl ?_
  refine T_ldc2 d_Fi_multiply_203 kJ_Fi_33 ?_
  refine T_lload d_Fi_multiply_206 rfl ?_
  refine T_lmul d_Fi_multiply_208 ?_
  refine T_topl (fun w32 ew32 => ?_)
  refine T_lstore (L' := [(67, .long w32), (65, .long w31), (63, .long w30), (61, .long w29), (59, .long w28), (57, .long w27), (55, .long w26), (53, .long w25), (51, .long w24), (49, .long w23), (47, .long w22), (45, .long w21), (43, .long w20), (41, .long w19), (39, .long w18), (37, .long w17), (35, .long w16), (33, .long w15), (31, .long w14), (29, .long w13), (27, .long w12), (25, .long w11), (23, .long w10), (21, .long w9), (19, .long w8), (17, .long w7), (15, .long w6), (13, .long w5), (11, .long w4), (9, .long w3), (7, .long w2), (5, .long w1), (3, .long w0), (0, .ref to), (1, .ref f), (2, .ref g)]) d_Fi_multiply_209 (by decide) rfl ?_
  refine T_ldc2 d_Fi_multiply_211 kJ_Fi_33 ?_
  refine T_lload d_Fi_multiply_214 rfl ?_
  refine T_lmul d_Fi_multiply_216 ?_
  refine T_topl (fun w33 ew33 => ?_)
  refine T_lstore (L' := [(69, .long w33), (67, .long w32), (65, .long w31), (63, .long w30), (61, .long w29), (59, .long w28), (57, .long w27), (55, .long w26), (53, .long w25), (51, .long w24), (49, .long w23), (47, .long w22), (45, .long w21), (43, .long w20), (41, .long w19), (39, .long w18), (37, .long w17), (35, .long w16), (33, .long w15), (31, .long w14), (29, .long w13), (27, .long w12), (25, .long w11), (23, .long w10), (21, .long w9), (19, .long w8), (17, .long w7), (15, .long w6), (13, .long w5), (11, .long w4), (9, .long w3), (7, .long w2), (5, .long w1), (3, .long w0), (0, .ref to), (1, .ref f), (2, .ref g)]) d_Fi_multiply_217 (by decide) rfl ?_
  refine T_lload_n d_Fi_multiply_219 rfl ?_
  refine T_lload d_Fi_multiply_220 rfl ?_
  refine T_lmul d_Fi_multiply_222 ?_
  refine T_lload d_Fi_multiply_223 rfl ?_
  refine T_lload d_Fi_multiply_225 rfl ?_
  refine T_lmul d_Fi_multiply_227 ?_
  refine T_ladd d_Fi_multiply_228 ?_
  refine T_lload d_Fi_multiply_229 rfl ?_
  refine T_lload d_Fi_multiply_231 rfl ?_
  refine T_lmul d_Fi_multiply_233 ?_
  refine T_ladd d_Fi_multiply_234 ?_
  refine T_lload d_Fi_multiply_235 rfl ?_
  refine T_lload d_Fi_multiply_237 rfl ?_
  refine T_lmul d_Fi_multiply_239 ?_
  refine T_ladd d_Fi_multiply_240 ?_
  refine T_lload d_Fi_multiply_241 rfl ?_
  refine T_lload d_Fi_multiply_243 rfl ?_
  refine T_lmul d_Fi_multiply_245 ?_
  refine T_ladd d_Fi_multiply_246 ?_
  refine T_lload d_Fi_multiply_247 rfl ?_
  refine T_lload d_Fi_multiply_249 rfl ?_
  refine T_lmul d_Fi_multiply_251 ?_
  refine T_ladd d_Fi_multiply_252 ?_
  refine T_lload d_Fi_multiply_253 rfl ?_
  refine T_lload d_Fi_multiply_255 rfl ?_
  refine T_lmul d_Fi_multiply_257 ?_
  refine T_ladd d_Fi_multiply_258 ?_
  refine T_lload d_Fi_multiply_259 rfl ?_
  refine T_lload d_Fi_multiply_261 rfl ?_
  refine T_lmul d_Fi_multiply_263 ?_
  refine T_ladd d_Fi_multiply_264 ?_
  refine T_lload d_Fi_multiply_265 rfl ?_
  refine T_lload d_Fi_multiply_267 rfl ?_
  refine T_lmul d_Fi_multiply_269 ?_
  refine T_ladd d_Fi_multiply_270 ?_
  refine T_lload d_Fi_multiply_271 rfl ?_
  refine T_lload d_Fi_multiply_273 rfl ?_
  refine T_lmul d_Fi_multiply_275 ?_
  refine T_ladd d_Fi_multiply_276 ?_
  refine T_topl (fun w34 ew34 => ?_)
  refine T_lstore (L' := [(71, .long w34), (69, .long w33), (67, .long w32), (65, .long w31), (63, .long w30), (61, .long w29), (59, .long w28), (57, .long w27), (55, .long w26), (53, .long w25), (51, .long w24), (49, .long w23), (47, .long w22), (45, .long w21), (43, .long w20), (41, .long w19), (39, .long w18), (37, .long w17), (35, .long w16), (33, .long w15), (31, .long w14), (29, .long w13), (27, .long w12), (25, .long w11), (23, .long w10), (21, .long w9), (19, .long w8), (17, .long w7), (15, .long w6), (13, .long w5), (11, .long w4), (9, .long w3), (7, .long w2), (5, .long w1), (3, .long w0), (0, .ref to), (1, .ref f), (2, .ref g)]) d_Fi_multiply_277 (by decide) rfl ?_
  refine T_lload d_Fi_multiply_279 rfl ?_
  refine T_ldc2 d_Fi_multiply_281 kJ_Fi_35 ?_
  refine T_land d_Fi_multiply_284 ?_
  refine T_topl (fun w35 ew35 => ?_)
  refine T_lstore (L' := [(73, .long w35), (71, .long w34), (69, .long w33), (67, .long w32), (65, .long w31), (63, .long w30), (61, .long w29), (59, .long w28), (57, .long w27), (55, .long w26), (53, .long w25), (51, .long w24), (49, .long w23), (47, .long w22), (45, .long w21), (43, .long w20), (41, .long w19), (39, .long w18), (37, .long w17), (35, .long w16), (33, .long w15), (31, .long w14), (29, .long w13), (27, .long w12), (25, .long w11), (23, .long w10), (21, .long w9), (19, .long w8), (17, .long w7), (15, .long w6), (13, .long w5), (11, .long w4), (9, .long w3), (7, .long w2), (5, .long w1), (3, .long w0), (0, .ref to), (1, .ref f), (2, .ref g)]) d_Fi_multiply_285 (by decide) rfl ?_
  refine T_lload d_Fi_multiply_287 rfl ?_
  refine T_bipush (v := (nI 26)) d_Fi_multiply_289 (by decide) ?_
  refine T_lshr d_Fi_multiply_291 ?_
  refine T_lload_n d_Fi_multiply_292 rfl ?_
  refine T_lload d_Fi_multiply_293 rfl ?_
  refine T_lmul d_Fi_multiply_295 ?_
  refine T_ladd d_Fi_multiply_296 ?_
  refine T_lload d_Fi_multiply_297 rfl ?_
  refine T_lload d_Fi_multiply_299 rfl ?_
  refine T_lmul d_Fi_multiply_301 ?_
  refine T_ladd d_Fi_multiply_302 ?_
  refine T_lload d_Fi_multiply_303 rfl ?_
  refine T_lload d_Fi_multiply_305 rfl ?_
  refine T_lmul d_Fi_multiply_307 ?_
  refine T_ladd d_Fi_multiply_308 ?_
  refine T_lload d_Fi_multiply_309 rfl ?_
  refine T_lload d_Fi_multiply_311 rfl ?_
  refine T_lmul d_Fi_multiply_313 ?_
  refine T_ladd d_Fi_multiply_314 ?_
  refine T_lload d_Fi_multiply_315 rfl ?_
  refine T_lload d_Fi_multiply_317 rfl ?_
  refine T_lmul d_Fi_multiply_319 ?_
  refine T_ladd d_Fi_multiply_320 ?_
  refine T_lload d_Fi_multiply_321 rfl ?_
  refine T_lload d_Fi_multiply_323 rfl ?_
  refine T_lmul d_Fi_multiply_325 ?_
  refine T_ladd d_Fi_multiply_326 ?_
  refine T_lload d_Fi_multiply_327 rfl ?_
  refine T_lload d_Fi_multiply_329 rfl ?_
  refine T_lmul d_Fi_multiply_331 ?_
  refine T_ladd d_Fi_multiply_332 ?_
  refine T_lload d_Fi_multiply_333 rfl ?_
  refine T_lload d_Fi_multiply_335 rfl ?_
  refine T_lmul d_Fi_multiply_337 ?_
  refine T_ladd d_Fi_multiply_338 ?_
  refine T_lload d_Fi_multiply_339 rfl ?_
  refine T_lload d_Fi_multiply_341 rfl ?_
  refine T_lmul d_Fi_multiply_343 ?_
  refine T_ladd d_Fi_multiply_344 ?_
  refine T_lload d_Fi_multiply_345 rfl ?_
  refine T_lload d_Fi_multiply_347 rfl ?_
  refine T_lmul d_Fi_multiply_349 ?_
  refine T_ladd d_Fi_multiply_350 ?_
  refine T_topl (fun w36 ew36 => ?_)
  refine T_lstore (L' := [(71, .long w36), (73, .long w35), (69, .long w33), (67, .long w32), (65, .long w31), (63, .long w30), (61, .long w29), (59, .long w28), (57, .long w27), (55, .long w26), (53, .long w25), (51, .long w24), (49, .long w23), (47, .long w22), (45, .long w21), (43, .long w20), (41, .long w19), (39, .long w18), (37, .long w17), (35, .long w16), (33, .long w15), (31, .long w14), (29, .long w13), (27, .long w12), (25, .long w11), (23, .long w10), (21, .long w9), (19, .long w8), (17, .long w7), (15, .long w6), (13, .long w5), (11, .long w4), (9, .long w3), (7, .long w2), (5, .long w1), (3, .long w0), (0, .ref to), (1, .ref f), (2, .ref g)]) d_Fi_multiply_351 (by decide) rfl ?_
  refine T_lload d_Fi_multiply_353 rfl ?_
  refine T_ldc2 d_Fi_multiply_355 kJ_Fi_37 ?_
  refine T_land d_Fi_multiply_358 ?_
  refine T_topl (fun w37 ew37 => ?_)
  refine T_lstore (L' := [(75, .long w37), (71, .long w36), (73, .long w35), (69, .long w33), (67, .long w32), (65, .long w31), (63, .long w30), (61, .long w29), (59, .long w28), (57, .long w27), (55, .long w26), (53, .long w25), (51, .long w24), (49, .long w23), (47, .long w22), (45, .long w21), (43, .long w20), (41, .long w19), (39, .long w18), (37, .long w17), (35, .long w16), (33, .long w15), (31, .long w14), (29, .long w13), (27, .long w12), (25, .long w11), (23, .long w10), (21, .long w9), (19, .long w8), (17, .long w7), (15, .long w6), (13, .long w5), (11, .long w4), (9, .long w3), (7, .long w2), (5, .long w1), (3, .long w0), (0, .ref to), (1, .ref f), (2, .ref g)]) d_Fi_multiply_359 (by decide) rfl ?_
  refine T_lload d_Fi_multiply_361 rfl ?_
  refine T_bipush (v := (nI 25)) d_Fi_multiply_363 (by decide) ?_
  refine T_lshr d_Fi_multiply_365 ?_
  refine T_lload_n d_Fi_multiply_366 rfl ?_
  refine T_lload d_Fi_multiply_367 rfl ?_
  refine T_lmul d_Fi_multiply_369 ?_
  refine T_ladd d_Fi_multiply_370 ?_
  refine T_lload d_Fi_multiply_371 rfl ?_
  refine T_lload d_Fi_multiply_373 rfl ?_
  refine T_lmul d_Fi_multiply_375 ?_
  refine T_ladd d_Fi_multiply_376 ?_
  refine T_lload d_Fi_multiply_377 rfl ?_
  refine T_lload d_Fi_multiply_379 rfl ?_
  refine T_lmul d_Fi_multiply_381 ?_
  refine T_ladd d_Fi_multiply_382 ?_
  refine T_lload d_Fi_multiply_383 rfl ?_
  refine T_lload d_Fi_multiply_385 rfl ?_
  refine T_lmul d_Fi_multiply_387 ?_
  refine T_ladd d_Fi_multiply_388 ?_
  refine T_lload d_Fi_multiply_389 rfl ?_
  refine T_lload d_Fi_multiply_391 rfl ?_
  refine T_lmul d_Fi_multiply_393 ?_
  refine T_ladd d_Fi_multiply_394 ?_
  refine T_lload d_Fi_multiply_395 rfl ?_
  refine T_lload d_Fi_multiply_397 rfl ?_
  refine T_lmul d_Fi_multiply_399 ?_
  refine T_ladd d_Fi_multiply_400 ?_
  refine T_lload d_Fi_multiply_401 rfl ?_
  refine T_lload d_Fi_multiply_403 rfl ?_
  refine T_lmul d_Fi_multiply_405 ?_
  refine T_ladd d_Fi_multiply_406 ?_
  refine T_lload d_Fi_multiply_407 rfl ?_
  refine T_lload d_Fi_multiply_409 rfl ?_
  refine T_lmul d_Fi_multiply_411 ?_
  refine T_ladd d_Fi_multiply_412 ?_
  refine T_lload d_Fi_multiply_413 rfl ?_
  refine T_lload d_Fi_multiply_415 rfl ?_
  refine T_lmul d_Fi_multiply_417 ?_
  refine T_ladd d_Fi_multiply_418 ?_
  refine T_lload d_Fi_multiply_419 rfl ?_
  refine T_lload d_Fi_multiply_421 rfl ?_
  refine T_lmul d_Fi_multiply_423 ?_
  refine T_ladd d_Fi_multiply_424 ?_
  refine T_topl (fun w38 ew38 => ?_)
  refine T_lstore (L' := [(71, .long w38), (75, .long w37), (73, .long w35), (69, .long w33), (67, .long w32), (65, .long w31), (63, .long w30), (61, .long w29), (59, .long w28), (57, .long w27), (55, .long w26), (53, .long w25), (51, .long w24), (49, .long w23), (47, .long w22), (45, .long w21), (43, .long w20), (41, .long w19), (39, .long w18), (37, .long w17), (35, .long w16), (33, .long w15), (31, .long w14), (29, .long w13), (27, .long w12), (25, .long w11), (23, .long w10), (21, .long w9), (19, .long w8), (17, .long w7), (15, .long w6), (13, .long w5), (11, .long w4), (9, .long w3), (7, .long w2), (5, .long w1), (3, .long w0), (0, .ref to), (1, .ref f), (2, .ref g)]) d_Fi_multiply_425 (by decide) rfl ?_
  refine T_eq (M' := M.set to (lr 10 H)) rfl rfl rfl (X_same hto) ?_
  refine T_aload_n (v := .ref to) d_Fi_multiply_427 rfl (Or.inr ⟨_, rfl⟩) ?_
  refine T_iconst (v := (nI 2)) d_Fi_multiply_428 (by decide) ?_
  refine T_lload d_Fi_multiply_429 rfl ?_
  refine T_ldc2 d_Fi_multiply_431 kJ_Fi_35 ?_
  refine T_land d_Fi_multiply_434 ?_
  refine T_topl (fun w39 ew39 => ?_)
  refine X_last (n := 10) (k := 2) d_Fi_multiply_435 kto (by decide) (by decide) hlto ?_
  refine T_lload d_Fi_multiply_436 rfl ?_
  refine T_bipush (v := (nI 26)) d_Fi_multiply_438 (by decide) ?_
  refine T_lshr d_Fi_multiply_440 ?_
  refine T_lload_n d_Fi_multiply_441 rfl ?_
  refine T_lload d_Fi_multiply_442 rfl ?_
  refine T_lmul d_Fi_multiply_444 ?_
  refine T_ladd d_Fi_multiply_445 ?_
  refine T_lload d_Fi_multiply_446 rfl ?_
  refine T_lload d_Fi_multiply_448 rfl ?_
  refine T_lmul d_Fi_multiply_450 ?_
  refine T_ladd d_Fi_multiply_451 ?_
  refine T_lload d_Fi_multiply_452 rfl ?_
  refine T_lload d_Fi_multiply_454 rfl ?_
  refine T_lmul d_Fi_multiply_456 ?_
  refine T_ladd d_Fi_multiply_457 ?_
  refine T_lload d_Fi_multiply_458 rfl ?_
  refine T_lload d_Fi_multiply_460 rfl ?_
  refine T_lmul d_Fi_multiply_462 ?_
  refine T_ladd d_Fi_multiply_463 ?_
  refine T_lload d_Fi_multiply_464 rfl ?_
  refine T_lload d_Fi_multiply_466 rfl ?_
  refine T_lmul d_Fi_multiply_468 ?_
  refine T_ladd d_Fi_multiply_469 ?_
  refine T_lload d_Fi_multiply_470 rfl ?_
  refine T_lload d_Fi_multiply_472 rfl ?_
  refine T_lmul d_Fi_multiply_474 ?_
  refine T_ladd d_Fi_multiply_475 ?_
  refine T_lload d_Fi_multiply_476 rfl ?_
  refine T_lload d_Fi_multiply_478 rfl ?_
  refine T_lmul d_Fi_multiply_480 ?_
  refine T_ladd d_Fi_multiply_481 ?_
  refine T_lload d_Fi_multiply_482 rfl ?_
  refine T_lload d_Fi_multiply_484 rfl ?_
  refine T_lmul d_Fi_multiply_486 ?_
  refine T_ladd d_Fi_multiply_487 ?_
  refine T_lload d_Fi_multiply_488 rfl ?_
  refine T_lload d_Fi_multiply_490 rfl ?_
  refine T_lmul d_Fi_multiply_492 ?_
  refine T_ladd d_Fi_multiply_493 ?_
  refine T_lload d_Fi_multiply_494 rfl ?_
  refine T_lload d_Fi_multiply_496 rfl ?_
  refine T_lmul d_Fi_multiply_498 ?_
  refine T_ladd d_Fi_multiply_499 ?_
  refine T_topl (fun w40 ew40 => ?_)
  refine T_lstore (L' := [(71, .long w40), (75, .long w37), (73, .long w35), (69, .long w33), (67, .long w32), (65, .long w31), (63, .long w30), (61, .long w29), (59, .long w28), (57, .long w27), (55, .long w26), (53, .long w25), (51, .long w24), (49, .long w23), (47, .long w22), (45, .long w21), (43, .long w20), (41, .long w19), (39, .long w18), (37, .long w17), (35, .long w16), (33, .long w15), (31, .long w14), (29, .long w13), (27, .long w12), (25, .long w11), (23, .long w10), (21, .long w9), (19, .long w8), (17, .long w7), (15, .long w6), (13, .long w5), (11, .long w4), (9, .long w3), (7, .long w2), (5, .long w1), (3, .long w0), (0, .ref to), (1, .ref f), (2, .ref g)]) d_Fi_multiply_500 (by decide) rfl ?_
  refine T_aload_n (v := .ref to) d_Fi_multiply_502 rfl (Or.inr ⟨_, rfl⟩) ?_
  refine T_iconst (v := (nI 3)) d_Fi_multiply_503 (by decide) ?_
  refine T_lload d_Fi_multiply_504 rfl ?_
  refine T_ldc2 d_Fi_multiply_506 kJ_Fi_37 ?_
  refine T_land d_Fi_multiply_509 ?_
  refine T_topl (fun w41 ew41 => ?_)
  refine X_last (n := 10) (k := 3) d_Fi_multiply_510 kto (by decide) (by decide) hlto ?_
  refine T_lload d_Fi_multiply_511 rfl ?_
  refine T_bipush (v := (nI 25)) d_Fi_multiply_513 (by decide) ?_
  refine T_lshr d_Fi_multiply_515 ?_
  refine T_lload_n d_Fi_multiply_516 rfl ?_
  refine T_lload d_Fi_multiply_517 rfl ?_
  refine T_lmul d_Fi_multiply_519 ?_
  refine T_ladd d_Fi_multiply_520 ?_
  refine T_lload d_Fi_multiply_521 rfl ?_
  refine T_lload d_Fi_multiply_523 rfl ?_
  refine T_lmul d_Fi_multiply_525 ?_
  refine T_ladd d_Fi_multiply_526 ?_
  refine T_lload d_Fi_multiply_527 rfl ?_
  refine T_lload d_Fi_multiply_529 rfl ?_
  refine T_lmul d_Fi_multiply_531 ?_
  refine T_ladd d_Fi_multiply_532 ?_
  refine T_lload d_Fi_multiply_533 rfl ?_
  refine T_lload d_Fi_multiply_535 rfl ?_
  refine T_lmul d_Fi_multiply_537 ?_
  refine T_ladd d_Fi_multiply_538 ?_
  refine T_lload d_Fi_multiply_539 rfl ?_
  refine T_lload d_Fi_multiply_541 rfl ?_
  refine T_lmul d_Fi_multiply_543 ?_
  refine T_ladd d_Fi_multiply_544 ?_
  refine T_lload d_Fi_multiply_545 rfl ?_
  refine T_lload d_Fi_multiply_547 rfl ?_
  refine T_lmul d_Fi_multiply_549 ?_
  refine T_ladd d_Fi_multiply_550 ?_
  refine T_lload d_Fi_multiply_551 rfl ?_
  refine T_lload d_Fi_multiply_553 rfl ?_
  refine T_lmul d_Fi_multiply_555 ?_
  refine T_ladd d_Fi_multiply_556 ?_
  refine T_lload d_Fi_multiply_557 rfl ?_
  refine T_lload d_Fi_multiply_559 rfl ?_
  refine T_lmul d_Fi_multiply_561 ?_
  refine T_ladd d_Fi_multiply_562 ?_
  refine T_lload d_Fi_multiply_563 rfl ?_
  refine T_lload d_Fi_multiply_565 rfl ?_
  refine T_lmul d_Fi_multiply_567 ?_
  refine T_ladd d_Fi_multiply_568 ?_
  refine T_lload d_Fi_multiply_569 rfl ?_
  refine T_lload d_Fi_multiply_571 rfl ?_
  refine T_lmul d_Fi_multiply_573 ?_
  refine T_ladd d_Fi_multiply_574 ?_
  refine T_topl (fun w42 ew42 => ?_)
  refine T_lstore (L' := [(71, .long w42), (75, .long w37), (73, .long w35), (69, .long w33), (67, .long w32), (65, .long w31), (63, .long w30), (61, .long w29), (59, .long w28), (57, .long w27), (55, .long w26), (53, .long w25), (51, .long w24), (49, .long w23), (47, .long w22), (45, .long w21), (43, .long w20), (41, .long w19), (39, .long w18), (37, .long w17), (35, .long w16), (33, .long w15), (31, .long w14), (29, .long w13), (27, .long w12), (25, .long w11), (23, .long w10), (21, .long w9), (19, .long w8), (17, .long w7), (15, .long w6), (13, .long w5), (11, .long w4), (9, .long w3), (7, .long w2), (5, .long w1), (3, .long w0), (0, .ref to), (1, .ref f), (2, .ref g)]) d_Fi_multiply_575 (by decide) rfl ?_
  refine T_aload_n (v := .ref to) d_Fi_multiply_577 rfl (Or.inr ⟨_, rfl⟩) ?_
  refine T_iconst (v := (nI 4)) d_Fi_multiply_578 (by decide) ?_
  refine T_lload d_Fi_multiply_579 rfl ?_
  refine T_ldc2 d_Fi_multiply_581 kJ_Fi_35 ?_
  refine T_land d_Fi_multiply_584 ?_
  refine T_topl (fun w43 ew43 => ?_)
  refine X_last (n := 10) (k := 4) d_Fi_multiply_585 kto (by decide) (by decide) hlto ?_
  refine T_lload d_Fi_multiply_586 rfl ?_
  refine T_bipush (v := (nI 26)) d_Fi_multiply_588 (by decide) ?_
  refine T_lshr d_Fi_multiply_590 ?_
  refine T_lload_n d_Fi_multiply_591 rfl ?_
  refine T_lload d_Fi_multiply_592 rfl ?_
  refine T_lmul d_Fi_multiply_594 ?_
  refine T_ladd d_Fi_multiply_595 ?_
  refine T_lload d_Fi_multiply_596 rfl ?_
  refine T_lload d_Fi_multiply_598 rfl ?_
  refine T_lmul d_Fi_multiply_600 ?_
  refine T_ladd d_Fi_multiply_601 ?_
  refine T_lload d_Fi_multiply_602 rfl ?_
  refine T_lload d_Fi_multiply_604 rfl ?_
  refine T_lmul d_Fi_multiply_606 ?_
  refine T_ladd d_Fi_multiply_607 ?_
  refine T_lload d_Fi_multiply_608 rfl ?_
  refine T_lload d_Fi_multiply_610 rfl ?_
  refine T_lmul d_Fi_multiply_612 ?_
  refine T_ladd d_Fi_multiply_613 ?_
  refine T_lload d_Fi_multiply_614 rfl ?_
  refine T_lload d_Fi_multiply_616 rfl ?_
  refine T_lmul d_Fi_multiply_618 ?_
  refine T_ladd d_Fi_multiply_619 ?_
  refine T_lload d_Fi_multiply_620 rfl ?_
  refine T_lload d_Fi_multiply_622 rfl ?_
  refine T_lmul d_Fi_multiply_624 ?_
  refine T_ladd d_Fi_multiply_625 ?_
  refine T_lload d_Fi_multiply_626 rfl ?_
  refine T_lload d_Fi_multiply_628 rfl ?_
  refine T_lmul d_Fi_multiply_630 ?_
  refine T_ladd d_Fi_multiply_631 ?_
  refine T_lload d_Fi_multiply_632 rfl ?_
  refine T_lload d_Fi_multiply_634 rfl ?_
  refine T_lmul d_Fi_multiply_636 ?_
  refine T_ladd d_Fi_multiply_637 ?_
  refine T_lload d_Fi_multiply_638 rfl ?_
  refine T_lload d_Fi_multiply_640 rfl ?_
  refine T_lmul d_Fi_multiply_642 ?_
  refine T_ladd d_Fi_multiply_643 ?_
  refine T_lload d_Fi_multiply_644 rfl ?_
  refine T_lload d_Fi_multiply_646 rfl ?_
  refine T_lmul d_Fi_multiply_648 ?_
  refine T_ladd d_Fi_multiply_649 ?_
  refine T_topl (fun w44 ew44 => ?_)
  refine T_lstore (L' := [(71, .long w44), (75, .long w37), (73, .long w35), (69, .long w33), (67, .long w32), (65, .long w31), (63, .long w30), (61, .long w29), (59, .long w28), (57, .long w27), (55, .long w26), (53, .long w25), (51, .long w24), (49, .long w23), (47, .long w22), (45, .long w21), (43, .long w20), (41, .long w19), (39, .long w18), (37, .long w17), (35, .long w16), (33, .long w15), (31, .long w14), (29, .long w13), (27, .long w12), (25, .long w11), (23, .long w10), (21, .long w9), (19, .long w8), (17, .long w7), (15, .long w6), (13, .long w5), (11, .long w4), (9, .long w3), (7, .long w2), (5, .long w1), (3, .long w0), (0, .ref to), (1, .ref f), (2, .ref g)]) d_Fi_multiply_650 (by decide) rfl ?_
  refine T_aload_n (v := .ref to) d_Fi_multiply_652 rfl (Or.inr ⟨_, rfl⟩) ?_
  refine T_iconst (v := (nI 5)) d_Fi_multiply_653 (by decide) ?_
  refine T_lload d_Fi_multiply_654 rfl ?_
  refine T_ldc2 d_Fi_multiply_656 kJ_Fi_37 ?_
  refine T_land d_Fi_multiply_659 ?_
  refine T_topl (fun w45 ew45 => ?_)
  refine X_last (n := 10) (k := 5) d_Fi_multiply_660 kto (by decide) (by decide) hlto ?_
  refine T_lload d_Fi_multiply_661 rfl ?_
  refine T_bipush (v := (nI 25)) d_Fi_multiply_663 (by decide) ?_
  refine T_lshr d_Fi_multiply_665 ?_
  refine T_lload_n d_Fi_multiply_666 rfl ?_
  refine T_lload d_Fi_multiply_667 rfl ?_
  refine T_lmul d_Fi_multiply_669 ?_
  refine T_ladd d_Fi_multiply_670 ?_
  refine T_lload d_Fi_multiply_671 rfl ?_
  refine T_lload d_Fi_multiply_673 rfl ?_
  refine T_lmul d_Fi_multiply_675 ?_
  refine T_ladd d_Fi_multiply_676 ?_
  refine T_lload d_Fi_multiply_677 rfl ?_
  refine T_lload d_Fi_multiply_679 rfl ?_
  refine T_lmul d_Fi_multiply_681 ?_
  refine T_ladd d_Fi_multiply_682 ?_
  refine T_lload d_Fi_multiply_683 rfl ?_
  refine T_lload d_Fi_multiply_685 rfl ?_
  refine T_lmul d_Fi_multiply_687 ?_
  refine T_ladd d_Fi_multiply_688 ?_
  refine T_lload d_Fi_multiply_689 rfl ?_
  refine T_lload d_Fi_multiply_691 rfl ?_
  refine T_lmul d_Fi_multiply_693 ?_
  refine T_ladd d_Fi_multiply_694 ?_
  refine T_lload d_Fi_multiply_695 rfl ?_
  refine T_lload d_Fi_multiply_697 rfl ?_
  refine T_lmul d_Fi_multiply_699 ?_
  refine T_ladd d_Fi_multiply_700 ?_
  refine T_lload d_Fi_multiply_701 rfl ?_
  refine T_lload d_Fi_multiply_703 rfl ?_
  refine T_lmul d_Fi_multiply_705 ?_
  refine T_ladd d_Fi_multiply_706 ?_
  refine T_lload d_Fi_multiply_707 rfl ?_
  refine T_lload d_Fi_multiply_709 rfl ?_
  refine T_lmul d_Fi_multiply_711 ?_
  refine T_ladd d_Fi_multiply_712 ?_
  refine T_lload d_Fi_multiply_713 rfl ?_
  refine T_lload d_Fi_multiply_715 rfl ?_
  refine T_lmul d_Fi_multiply_717 ?_
  refine T_ladd d_Fi_multiply_718 ?_
  refine T_lload d_Fi_multiply_719 rfl ?_
  refine T_lload d_Fi_multiply_721 rfl ?_
  refine T_lmul d_Fi_multiply_723 ?_
  refine T_ladd d_Fi_multiply_724 ?_
  refine T_topl (fun w46 ew46 => ?_)
  refine T_lstore (L' := [(71, .long w46), (75, .long w37), (73, .long w35), (69, .long w33), (67, .long w32), (65, .long w31), (63, .long w30), (61, .long w29), (59, .long w28), (57, .long w27), (55, .long w26), (53, .long w25), (51, .long w24), (49, .long w23), (47, .long w22), (45, .long w21), (43, .long w20), (41, .long w19), (39, .long w18), (37, .long w17), (35, .long w16), (33, .long w15), (31, .long w14), (29, .long w13), (27, .long w12), (25, .long w11), (23, .long w10), (21, .long w9), (19, .long w8), (17, .long w7), (15, .long w6), (13, .long w5), (11, .long w4), (9, .long w3), (7, .long w2), (5, .long w1), (3, .long w0), (0, .ref to), (1, .ref f), (2, .ref g)]) d_Fi_multiply_725 (by decide) rfl ?_
  refine T_aload_n (v := .ref to) d_Fi_multiply_727 rfl (Or.inr ⟨_, rfl⟩) ?_
  refine T_bipush (v := (nI 6)) d_Fi_multiply_728 (by decide) ?_
  refine T_lload d_Fi_multiply_730 rfl ?_
  refine T_ldc2 d_Fi_multiply_732 kJ_Fi_35 ?_
  refine T_land d_Fi_multiply_735 ?_
  refine T_topl (fun w47 ew47 => ?_)
  refine X_last (n := 10) (k := 6) d_Fi_multiply_736 kto (by decide) (by decide) hlto ?_
  refine T_lload d_Fi_multiply_737 rfl ?_
  refine T_bipush (v := (nI 26)) d_Fi_multiply_739 (by decide) ?_
  refine T_lshr d_Fi_multiply_741 ?_
  refine T_lload_n d_Fi_multiply_742 rfl ?_
  refine T_lload d_Fi_multiply_743 rfl ?_
  refine T_lmul d_Fi_multiply_745 ?_
  refine T_ladd d_Fi_multiply_746 ?_
  refine T_lload d_Fi_multiply_747 rfl ?_
  refine T_lload d_Fi_multiply_749 rfl ?_
  refine T_lmul d_Fi_multiply_751 ?_
  refine T_ladd d_Fi_multiply_752 ?_
  refine T_lload d_Fi_multiply_753 rfl ?_
  refine T_lload d_Fi_multiply_755 rfl ?_
  refine T_lmul d_Fi_multiply_757 ?_
  refine T_ladd d_Fi_multiply_758 ?_
  refine T_lload d_Fi_multiply_759 rfl ?_
  refine T_lload d_Fi_multiply_761 rfl ?_
  refine T_lmul d_Fi_multiply_763 ?_
  refine T_ladd d_Fi_multiply_764 ?_
  refine T_lload d_Fi_multiply_765 rfl ?_
  refine T_lload d_Fi_multiply_767 rfl ?_
  refine T_lmul d_Fi_multiply_769 ?_
  refine T_ladd d_Fi_multiply_770 ?_
  refine T_lload d_Fi_multiply_771 rfl ?_
  refine T_lload d_Fi_multiply_773 rfl ?_
  refine T_lmul d_Fi_multiply_775 ?_
  refine T_ladd d_Fi_multiply_776 ?_
  refine T_lload d_Fi_multiply_777 rfl ?_
  refine T_lload d_Fi_multiply_779 rfl ?_
  refine T_lmul d_Fi_multiply_781 ?_
  refine T_ladd d_Fi_multiply_782 ?_
  refine T_lload d_Fi_multiply_783 rfl ?_
  refine T_lload d_Fi_multiply_785 rfl ?_
  refine T_lmul d_Fi_multiply_787 ?_
  refine T_ladd d_Fi_multiply_788 ?_
  refine T_lload d_Fi_multiply_789 rfl ?_
  refine T_lload d_Fi_multiply_791 rfl ?_
  refine T_lmul d_Fi_multiply_793 ?_
  refine T_ladd d_Fi_multiply_794 ?_
  refine T_lload d_Fi_multiply_795 rfl ?_
  refine T_lload d_Fi_multiply_797 rfl ?_
  refine T_lmul d_Fi_multiply_799 ?_
  refine T_ladd d_Fi_multiply_800 ?_
  refine T_topl (fun w48 ew48 => ?_)
  refine T_lstore (L' := [(71, .long w48), (75, .long w37), (73, .long w35), (69, .long w33), (67, .long w32), (65, .long w31), (63, .long w30), (61, .long w29), (59, .long w28), (57, .long w27), (55, .long w26), (53, .long w25), (51, .long w24), (49, .long w23), (47, .long w22), (45, .long w21), (43, .long w20), (41, .long w19), (39, .long w18), (37, .long w17), (35, .long w16), (33, .long w15), (31, .long w14), (29, .long w13), (27, .long w12), (25, .long w11), (23, .long w10), (21, .long w9), (19, .long w8), (17, .long w7), (15, .long w6), (13, .long w5), (11, .long w4), (9, .long w3), (7, .long w2), (5, .long w1), (3, .long w0), (0, .ref to), (1, .ref f), (2, .ref g)]) d_Fi_multiply_801 (by decide) rfl ?_
  refine T_aload_n (v := .ref to) d_Fi_multiply_803 rfl (Or.inr ⟨_, rfl⟩) ?_
  refine T_bipush (v := (nI 7)) d_Fi_multiply_804 (by decide) ?_
  refine T_lload d_Fi_multiply_806 rfl ?_
  refine T_ldc2 d_Fi_multiply_808 kJ_Fi_37 ?_
  refine T_land d_Fi_multiply_811 ?_
  refine T_topl (fun w49 ew49 => ?_)
  refine X_last (n := 10) (k := 7) d_Fi_multiply_812 kto (by decide) (by decide) hlto ?_
  refine T_lload d_Fi_multiply_813 rfl ?_
  refine T_bipush (v := (nI 25)) d_Fi_multiply_815 (by decide) ?_
  refine T_lshr d_Fi_multiply_817 ?_
  refine T_lload_n d_Fi_multiply_818 rfl ?_
  refine T_lload d_Fi_multiply_819 rfl ?_
  refine T_lmul d_Fi_multiply_821 ?_
  refine T_ladd d_Fi_multiply_822 ?_
  refine T_lload d_Fi_multiply_823 rfl ?_
  refine T_lload d_Fi_multiply_825 rfl ?_
  refine T_lmul d_Fi_multiply_827 ?_
  refine T_ladd d_Fi_multiply_828 ?_
  refine T_lload d_Fi_multiply_829 rfl ?_
  refine T_lload d_Fi_multiply_831 rfl ?_
  refine T_lmul d_Fi_multiply_833 ?_
  refine T_ladd d_Fi_multiply_834 ?_
  refine T_lload d_Fi_multiply_835 rfl ?_
  refine T_lload d_Fi_multiply_837 rfl ?_
  refine T_lmul d_Fi_multiply_839 ?_
  refine T_ladd d_Fi_multiply_840 ?_
  refine T_lload d_Fi_multiply_841 rfl ?_
  refine T_lload d_Fi_multiply_843 rfl ?_
  refine T_lmul d_Fi_multiply_845 ?_
  refine T_ladd d_Fi_multiply_846 ?_
  refine T_lload d_Fi_multiply_847 rfl ?_
  refine T_lload d_Fi_multiply_849 rfl ?_
  refine T_lmul d_Fi_multiply_851 ?_
  refine T_ladd d_Fi_multiply_852 ?_
  refine T_lload d_Fi_multiply_853 rfl ?_
  refine T_lload d_Fi_multiply_855 rfl ?_
  refine T_lmul d_Fi_multiply_857 ?_
  refine T_ladd d_Fi_multiply_858 ?_
  refine T_lload d_Fi_multiply_859 rfl ?_
  refine T_lload d_Fi_multiply_861 rfl ?_
  refine T_lmul d_Fi_multiply_863 ?_
  refine T_ladd d_Fi_multiply_864 ?_
  refine T_lload d_Fi_multiply_865 rfl ?_
  refine T_lload d_Fi_multiply_867 rfl ?_
  refine T_lmul d_Fi_multiply_869 ?_
  refine T_ladd d_Fi_multiply_870 ?_
  refine T_lload d_Fi_multiply_871 rfl ?_
  refine T_lload d_Fi_multiply_873 rfl ?_
  refine T_lmul d_Fi_multiply_875 ?_
  refine T_ladd d_Fi_multiply_876 ?_
  refine T_topl (fun w50 ew50 => ?_)
  refine T_lstore (L' := [(71, .long w50), (75, .long w37), (73, .long w35), (69, .long w33), (67, .long w32), (65, .long w31), (63, .long w30), (61, .long w29), (59, .long w28), (57, .long w27), (55, .long w26), (53, .long w25), (51, .long w24), (49, .long w23), (47, .long w22), (45, .long w21), (43, .long w20), (41, .long w19), (39, .long w18), (37, .long w17), (35, .long w16), (33, .long w15), (31, .long w14), (29, .long w13), (27, .long w12), (25, .long w11), (23, .long w10), (21, .long w9), (19, .long w8), (17, .long w7), (15, .long w6), (13, .long w5), (11, .long w4), (9, .long w3), (7, .long w2), (5, .long w1), (3, .long w0), (0, .ref to), (1, .ref f), (2, .ref g)]) d_Fi_multiply_877 (by decide) rfl ?_
  refine T_aload_n (v := .ref to) d_Fi_multiply_879 rfl (Or.inr ⟨_, rfl⟩) ?_
  refine T_bipush (v := (nI 8)) d_Fi_multiply_880 (by decide) ?_
  refine T_lload d_Fi_multiply_882 rfl ?_
  refine T_ldc2 d_Fi_multiply_884 kJ_Fi_35 ?_
  refine T_land d_Fi_multiply_887 ?_
  refine T_topl (fun w51 ew51 => ?_)
  refine X_last (n := 10) (k := 8) d_Fi_multiply_888 kto (by decide) (by decide) hlto ?_
  refine T_lload d_Fi_multiply_889 rfl ?_
  refine T_bipush (v := (nI 26)) d_Fi_multiply_891 (by decide) ?_
  refine T_lshr d_Fi_multiply_893 ?_
  refine T_lload_n d_Fi_multiply_894 rfl ?_
  refine T_lload d_Fi_multiply_895 rfl ?_
  refine T_lmul d_Fi_multiply_897 ?_
  refine T_ladd d_Fi_multiply_898 ?_
  refine T_lload d_Fi_multiply_899 rfl ?_
  refine T_lload d_Fi_multiply_901 rfl ?_
  refine T_lmul d_Fi_multiply_903 ?_
  refine T_ladd d_Fi_multiply_904 ?_
  refine T_lload d_Fi_multiply_905 rfl ?_
  refine T_lload d_Fi_multiply_907 rfl ?_
  refine T_lmul d_Fi_multiply_909 ?_
  refine T_ladd d_Fi_multiply_910 ?_
  refine T_lload d_Fi_multiply_911 rfl ?_
  refine T_lload d_Fi_multiply_913 rfl ?_
  refine T_lmul d_Fi_multiply_915 ?_
  refine T_ladd d_Fi_multiply_916 ?_
  refine T_lload d_Fi_multiply_917 rfl ?_
  refine T_lload d_Fi_multiply_919 rfl ?_
  refine T_lmul d_Fi_multiply_921 ?_
  refine T_ladd d_Fi_multiply_922 ?_
  refine T_lload d_Fi_multiply_923 rfl ?_
  refine T_lload d_Fi_multiply_925 rfl ?_
  refine T_lmul d_Fi_multiply_927 ?_
  refine T_ladd d_Fi_multiply_928 ?_
  refine T_lload d_Fi_multiply_929 rfl ?_
  refine T_lload d_Fi_multiply_931 rfl ?_
  refine T_lmul d_Fi_multiply_933 ?_
  refine T_ladd d_Fi_multiply_934 ?_
  refine T_lload d_Fi_multiply_935 rfl ?_
  refine T_lload d_Fi_multiply_937 rfl ?_
  refine T_lmul d_Fi_multiply_939 ?_
  refine T_ladd d_Fi_multiply_940 ?_
  refine T_lload d_Fi_multiply_941 rfl ?_
  refine T_lload d_Fi_multiply_943 rfl ?_
  refine T_lmul d_Fi_multiply_945 ?_
  refine T_ladd d_Fi_multiply_946 ?_
  refine T_lload d_Fi_multiply_947 rfl ?_
  refine T_lload d_Fi_multiply_949 rfl ?_
  refine T_lmul d_Fi_multiply_951 ?_
  refine T_ladd d_Fi_multiply_952 ?_
  refine T_topl (fun w52 ew52 => ?_)
  refine T_lstore (L' := [(71, .long w52), (75, .long w37), (73, .long w35), (69, .long w33), (67, .long w32), (65, .long w31), (63, .long w30), (61, .long w29), (59, .long w28), (57, .long w27), (55, .long w26), (53, .long w25), (51, .long w24), (49, .long w23), (47, .long w22), (45, .long w21), (43, .long w20), (41, .long w19), (39, .long w18), (37, .long w17), (35, .long w16), (33, .long w15), (31, .long w14), (29, .long w13), (27, .long w12), (25, .long w11), (23, .long w10), (21, .long w9), (19, .long w8), (17, .long w7), (15, .long w6), (13, .long w5), (11, .long w4), (9, .long w3), (7, .long w2), (5, .long w1), (3, .long w0), (0, .ref to), (1, .ref f), (2, .ref g)]) d_Fi_multiply_953 (by decide) rfl ?_
  refine T_aload_n (v := .ref to) d_Fi_multiply_955 rfl (Or.inr ⟨_, rfl⟩) ?_
  refine T_bipush (v := (nI 9)) d_Fi_multiply_956 (by decide) ?_
  refine T_lload d_Fi_multiply_958 rfl ?_
  refine T_ldc2 d_Fi_multiply_960 kJ_Fi_37 ?_
  refine T_land d_Fi_multiply_963 ?_
  refine T_topl (fun w53 ew53 => ?_)
  refine X_last (n := 10) (k := 9) d_Fi_multiply_964 kto (by decide) (by decide) hlto ?_
  refine T_lload d_Fi_multiply_965 rfl ?_
  refine T_bipush (v := (nI 25)) d_Fi_multiply_967 (by decide) ?_
  refine T_lshr d_Fi_multiply_969 ?_
  refine T_ldc2 d_Fi_multiply_970 kJ_Fi_31 ?_
  refine T_lmul d_Fi_multiply_973 ?_
  refine T_lload d_Fi_multiply_974 rfl ?_
  refine T_ladd d_Fi_multiply_976 ?_
  refine T_topl (fun w54 ew54 => ?_)
  refine T_lstore (L' := [(71, .long w54), (75, .long w37), (73, .long w35), (69, .long w33), (67, .long w32), (65, .long w31), (63, .long w30), (61, .long w29), (59, .long w28), (57, .long w27), (55, .long w26), (53, .long w25), (51, .long w24), (49, .long w23), (47, .long w22), (45, .long w21), (43, .long w20), (41, .long w19), (39, .long w18), (37, .long w17), (35, .long w16), (33, .long w15), (31, .long w14), (29, .long w13), (27, .long w12), (25, .long w11), (23, .long w10), (21, .long w9), (19, .long w8), (17, .long w7), (15, .long w6), (13, .long w5), (11, .long w4), (9, .long w3), (7, .long w2), (5, .long w1), (3, .long w0), (0, .ref to), (1, .ref f), (2, .ref g)]) d_Fi_multiply_977 (by decide) rfl ?_
  refine T_aload_n (v := .ref to) d_Fi_multiply_979 rfl (Or.inr ⟨_, rfl⟩) ?_
  refine T_iconst (v := (nI 0)) d_Fi_multiply_980 (by decide) ?_
  refine T_lload d_Fi_multiply_981 rfl ?_
  refine T_ldc2 d_Fi_multiply_983 kJ_Fi_35 ?_
  refine T_land d_Fi_multiply_986 ?_
  refine T_topl (fun w55 ew55 => ?_)
  refine X_last (n := 10) (k := 0) d_Fi_multiply_987 kto (by decide) (by decide) hlto ?_
  refine T_aload_n (v := .ref to) d_Fi_multiply_988 rfl (Or.inr ⟨_, rfl⟩) ?_
  refine T_iconst (v := (nI 1)) d_Fi_multiply_989 (by decide) ?_
  refine T_lload d_Fi_multiply_990 rfl ?_
  refine T_lload d_Fi_multiply_992 rfl ?_
  refine T_bipush (v := (nI 26)) d_Fi_multiply_994 (by decide) ?_
  refine T_lshr d_Fi_multiply_996 ?_
  refine T_ladd d_Fi_multiply_997 ?_
  refine T_topl (fun w56 ew56 => ?_)
  refine X_last (n := 10) (k := 1) d_Fi_multiply_998 kto (by decide) (by decide) hlto ?_
  refine T_vret d_Fi_multiply_999 rfl (by decide) (by decide) ⟨rfl, _, rfl, fun i hi => ?_⟩
  subst ew0 ew1 ew2 ew3 ew4 ew5 ew6 ew7 ew8 ew9 ew10 ew11 ew12 ew13 ew14 ew15 ew16 ew17 ew18 ew19 ew20 ew21 ew22 ew23 ew24 ew25 ew26 ew27 ew28 ew29 ew30 ew31 ew32 ew33 ew34 ew35 ew36 ew37 ew38 ew39 ew40 ew41 ew42 ew43 ew44 ew45 ew46 ew47 ew48 ew49 ew50 ew51 ew52 ew53 ew54 ew55 ew56
  have h10 : i = 0 ∨ i = 1 ∨ i = 2 ∨ i = 3 ∨ i = 4 ∨ i = 5 ∨ i = 6 ∨ i = 7 ∨ i = 8 ∨ i = 9 := by omega
  rcases h10 with rfl | rfl | rfl | rfl | rfl | rfl | rfl | rfl | rfl | rfl <;> rfl
theorem X_rd {M : List va_E} {to f k : Nat} {H F Hk : Nat → Int64} (hto : M[to]? = some (lr 10 H)) (hf : M[f]? = some (lr 10 F)) (hk : Hk k = H k) : ∃ F1, (M.set to (lr 10 Hk))[f]? = some (lr 10 F1) ∧ F1 k = F k := by
  by_cases h : to = f
  · subst h
    refine ⟨Hk, List.getElem?_set_self (X_len hto), ?_⟩
    have e := hto.symm.trans hf
    injection e with e; injection e with e; injection e with _ e; injection e with _ e; injection e with e; injection e with e
    rw [hk, e]
  · exact ⟨F, by rw [List.getElem?_set_ne h]; exact hf, rfl⟩
def lp (k : Nat) (N H : Nat → Int64) : Nat → Int64 := fun i => if i < k then N i else H i
theorem lp_at (k : Nat) (N H : Nat → Int64) : lp k N H k = H k := if_neg (Nat.lt_irrefl k)
theorem lp_up (k : Nat) (N H : Nat → Int64) : vp_updL (lp k N H) k (N k) = lp (k + 1) N H := by
  funext i
  unfold vp_updL lp
  by_cases h : i = k
  · subst h; simp
  · by_cases h2 : i < k
    · simp [h, h2, Nat.lt_succ_of_lt h2]
    · have : ¬ i < k + 1 := by omega
      simp [h, h2, this]
theorem lp_0 (N H : Nat → Int64) : lp 0 N H = H := by funext i; simp [lp]
theorem xl_Fi_add (G : GX) {M : List va_E} {to f g : Nat} {H F E : Nat → Int64} (kto : K0 ≤ to) (hto : M[to]? = some (lr 10 H)) (hf : M[f]? = some (lr 10 F)) (hg : M[g]? = some (lr 10 E)) : ∀ j k, k + j = 10 → TT G mi_Fi_add 2 [(3, .int (nI k)), (0, .ref to), (1, .ref f), (2, .ref g)] [] (M.set to (lr 10 (lp k (fun i => F i + E i) H))) 0 0 (fun r M' => r = none ∧ ∃ F', M' = M.set to (lr 10 F') ∧ ∀ i, i < 10 → F' i = F i + E i) := by
  have hl := X_len hto
  intro j
  induction j with
  | zero =>
    intro k hk
    have : k = 10 := by omega
    subst this
    refine T_iload_n d_Fi_add_2 rfl ?_
    refine T_bipush (v := nI 10) d_Fi_add_3 (by decide) ?_
    refine T_icmp_ge d_Fi_add_5 (tgt := 24) rfl (fun _ => ?_) (fun c => absurd (by decide) c)
    refine T_vret d_Fi_add_24 rfl (by decide) (by decide) ⟨rfl, _, rfl, fun i hi => ?_⟩
    simp [lp, hi]
  | succ j ih =>
    intro k hk
    refine T_iload_n d_Fi_add_2 rfl ?_
    refine T_bipush (v := nI 10) d_Fi_add_3 (by decide) ?_
    refine T_icmp_ge d_Fi_add_5 (tgt := 24) rfl (fun c => absurd ((nI_leI (by decide) (by omega)).mp c) (by omega)) (fun _ => ?_)
    refine T_aload_n (v := .ref to) d_Fi_add_8 rfl (Or.inr ⟨_, rfl⟩) ?_
    refine T_iload_n d_Fi_add_9 rfl ?_
    obtain ⟨F1, qf, rf⟩ := X_rd (k := k) (Hk := lp k (fun i => F i + E i) H) hto hf (lp_at k _ H)
    refine T_aload_n (v := .ref f) d_Fi_add_10 rfl (Or.inr ⟨_, rfl⟩) ?_
    refine T_iload_n d_Fi_add_11 rfl ?_
    refine T_laload d_Fi_add_12 qf (vp_in_nI (by omega) (by decide)) ?_
    rw [nI_clamp (by omega), rf]
    obtain ⟨E1, qg, rg⟩ := X_rd (k := k) (Hk := lp k (fun i => F i + E i) H) hto hg (lp_at k _ H)
    refine T_aload_n (v := .ref g) d_Fi_add_13 rfl (Or.inr ⟨_, rfl⟩) ?_
    refine T_iload_n d_Fi_add_14 rfl ?_
    refine T_laload d_Fi_add_15 qg (vp_in_nI (by omega) (by decide)) ?_
    rw [nI_clamp (by omega), rg]
    refine T_ladd d_Fi_add_16 ?_
    refine X_last (n := 10) (k := k) d_Fi_add_17 kto (by omega) (by decide) hl ?_
    rw [show vp_updL (lp k (fun i => F i + E i) H) k (F k + E k) = lp (k + 1) (fun i => F i + E i) H from lp_up k (fun i => F i + E i) H]
    refine T_iinc (x := nI k) (L' := [(3, .int (nI (k + 1))), (0, .ref to), (1, .ref f), (2, .ref g)]) d_Fi_add_18 (by decide) rfl (by rw [show Int32.ofInt 1 = nI 1 from rfl, nI_add]; rfl) ?_
    refine T_goto (tgt := 2) d_Fi_add_21 rfl ?_
    exact ih (k + 1) (by omega)
theorem x_Fi_add (G : GX) {M : List va_E} {to f g : Nat} {H F E : Nat → Int64} (kto : K0 ≤ to) (hto : M[to]? = some (lr 10 H)) (hf : M[f]? = some (lr 10 F)) (hg : M[g]? = some (lr 10 E)) : CT G mi_Fi_add [.ref to, .ref f, .ref g] M (fun r M' => r = none ∧ ∃ F', M' = M.set to (lr 10 F') ∧ ∀ i, i < 10 → F' i = F i + E i) := by
  refine CT.of (by decide) (Nat.le_of_ble_eq_true rfl) ?_
  show TT G mi_Fi_add 0 [(0, .ref to), (1, .ref f), (2, .ref g)] [] M 0 0 _
  refine T_iconst (v := nI 0) d_Fi_add_0 (by decide) ?_
  refine T_istore_n (L' := [(3, .int (nI 0)), (0, .ref to), (1, .ref f), (2, .ref g)]) d_Fi_add_1 (by decide) rfl ?_
  refine T_eq (M' := M.set to (lr 10 (lp 0 (fun i => F i + E i) H))) rfl rfl rfl (by rw [lp_0]; exact X_same hto) ?_
  exact xl_Fi_add G kto hto hf hg 10 0 rfl
theorem xl_Fi_subtract (G : GX) {M : List va_E} {to f g : Nat} {H F E : Nat → Int64} (kto : K0 ≤ to) (hto : M[to]? = some (lr 10 H)) (hf : M[f]? = some (lr 10 F)) (hg : M[g]? = some (lr 10 E)) : ∀ j k, k + j = 10 → TT G mi_Fi_subtract 2 [(3, .int (nI k)), (0, .ref to), (1, .ref f), (2, .ref g)] [] (M.set to (lr 10 (lp k (fun i => F i - E i) H))) 0 0 (fun r M' => r = none ∧ ∃ F', M' = M.set to (lr 10 F') ∧ ∀ i, i < 10 → F' i = F i - E i) := by
  have hl := X_len hto
  intro j
  induction j with
  | zero =>
    intro k hk
    have : k = 10 := by omega
    subst this
    refine T_iload_n d_Fi_subtract_2 rfl ?_
    refine T_bipush (v := nI 10) d_Fi_subtract_3 (by decide) ?_
    refine T_icmp_ge d_Fi_subtract_5 (tgt := 24) rfl (fun _ => ?_) (fun c => absurd (by decide) c)
    refine T_vret d_Fi_subtract_24 rfl (by decide) (by decide) ⟨rfl, _, rfl, fun i hi => ?_⟩
    simp [lp, hi]
  | succ j ih =>
    intro k hk
    refine T_iload_n d_Fi_subtract_2 rfl ?_
    refine T_bipush (v := nI 10) d_Fi_subtract_3 (by decide) ?_
    refine T_icmp_ge d_Fi_subtract_5 (tgt := 24) rfl (fun c => absurd ((nI_leI (by decide) (by omega)).mp c) (by omega)) (fun _ => ?_)
    refine T_aload_n (v := .ref to) d_Fi_subtract_8 rfl (Or.inr ⟨_, rfl⟩) ?_
    refine T_iload_n d_Fi_subtract_9 rfl ?_
    obtain ⟨F1, qf, rf⟩ := X_rd (k := k) (Hk := lp k (fun i => F i - E i) H) hto hf (lp_at k _ H)
    refine T_aload_n (v := .ref f) d_Fi_subtract_10 rfl (Or.inr ⟨_, rfl⟩) ?_
    refine T_iload_n d_Fi_subtract_11 rfl ?_
    refine T_laload d_Fi_subtract_12 qf (vp_in_nI (by omega) (by decide)) ?_
    rw [nI_clamp (by omega), rf]
    obtain ⟨E1, qg, rg⟩ := X_rd (k := k) (Hk := lp k (fun i => F i - E i) H) hto hg (lp_at k _ H)
    refine T_aload_n (v := .ref g) d_Fi_subtract_13 rfl (Or.inr ⟨_, rfl⟩) ?_
    refine T_iload_n d_Fi_subtract_14 rfl ?_
    refine T_laload d_Fi_subtract_15 qg (vp_in_nI (by omega) (by decide)) ?_
    rw [nI_clamp (by omega), rg]
    refine T_lsub d_Fi_subtract_16 ?_
    refine X_last (n := 10) (k := k) d_Fi_subtract_17 kto (by omega) (by decide) hl ?_
    rw [show vp_updL (lp k (fun i => F i - E i) H) k (F k - E k) = lp (k + 1) (fun i => F i - E i) H from lp_up k (fun i => F i - E i) H]
    refine T_iinc (x := nI k) (L' := [(3, .int (nI (k + 1))), (0, .ref to), (1, .ref f), (2, .ref g)]) d_Fi_subtract_18 (by decide) rfl (by rw [show Int32.ofInt 1 = nI 1 from rfl, nI_add]; rfl) ?_
    refine T_goto (tgt := 2) d_Fi_subtract_21 rfl ?_
    exact ih (k + 1) (by omega)
theorem x_Fi_subtract (G : GX) {M : List va_E} {to f g : Nat} {H F E : Nat → Int64} (kto : K0 ≤ to) (hto : M[to]? = some (lr 10 H)) (hf : M[f]? = some (lr 10 F)) (hg : M[g]? = some (lr 10 E)) : CT G mi_Fi_subtract [.ref to, .ref f, .ref g] M (fun r M' => r = none ∧ ∃ F', M' = M.set to (lr 10 F') ∧ ∀ i, i < 10 → F' i = F i - E i) := by
  refine CT.of (by decide) (Nat.le_of_ble_eq_true rfl) ?_
  show TT G mi_Fi_subtract 0 [(0, .ref to), (1, .ref f), (2, .ref g)] [] M 0 0 _
  refine T_iconst (v := nI 0) d_Fi_subtract_0 (by decide) ?_
  refine T_istore_n (L' := [(3, .int (nI 0)), (0, .ref to), (1, .ref f), (2, .ref g)]) d_Fi_subtract_1 (by decide) rfl ?_
  refine T_eq (M' := M.set to (lr 10 (lp 0 (fun i => F i - E i) H))) rfl rfl rfl (by rw [lp_0]; exact X_same hto) ?_
  exact xl_Fi_subtract G kto hto hf hg 10 0 rfl
theorem xl_Fi_negate (G : GX) {M : List va_E} {to f : Nat} {H F : Nat → Int64} (kto : K0 ≤ to) (hto : M[to]? = some (lr 10 H)) (hf : M[f]? = some (lr 10 F)) : ∀ j k, k + j = 10 → TT G mi_Fi_negate 2 [(2, .int (nI k)), (0, .ref to), (1, .ref f)] [] (M.set to (lr 10 (lp k (fun i => -F i) H))) 0 0 (fun r M' => r = none ∧ ∃ F', M' = M.set to (lr 10 F') ∧ ∀ i, i < 10 → F' i = -F i) := by
  have hl := X_len hto
  intro j
  induction j with
  | zero =>
    intro k hk
    have : k = 10 := by omega
    subst this
    refine T_iload_n d_Fi_negate_2 rfl ?_
    refine T_bipush (v := nI 10) d_Fi_negate_3 (by decide) ?_
    refine T_icmp_ge d_Fi_negate_5 (tgt := 21) rfl (fun _ => ?_) (fun c => absurd (by decide) c)
    refine T_vret d_Fi_negate_21 rfl (by decide) (by decide) ⟨rfl, _, rfl, fun i hi => ?_⟩
    simp [lp, hi]
  | succ j ih =>
    intro k hk
    refine T_iload_n d_Fi_negate_2 rfl ?_
    refine T_bipush (v := nI 10) d_Fi_negate_3 (by decide) ?_
    refine T_icmp_ge d_Fi_negate_5 (tgt := 21) rfl (fun c => absurd ((nI_leI (by decide) (by omega)).mp c) (by omega)) (fun _ => ?_)
    refine T_aload_n (v := .ref to) d_Fi_negate_8 rfl (Or.inr ⟨_, rfl⟩) ?_
    refine T_iload_n d_Fi_negate_9 rfl ?_
    obtain ⟨F1, qf, rf⟩ := X_rd (k := k) (Hk := lp k (fun i => -F i) H) hto hf (lp_at k _ H)
    refine T_aload_n (v := .ref f) d_Fi_negate_10 rfl (Or.inr ⟨_, rfl⟩) ?_
    refine T_iload_n d_Fi_negate_11 rfl ?_
    refine T_laload d_Fi_negate_12 qf (vp_in_nI (by omega) (by decide)) ?_
    rw [nI_clamp (by omega), rf]
    refine T_lneg d_Fi_negate_13 ?_
    refine X_last (n := 10) (k := k) d_Fi_negate_14 kto (by omega) (by decide) hl ?_
    rw [show vp_updL (lp k (fun i => -F i) H) k (-F k) = lp (k + 1) (fun i => -F i) H from lp_up k (fun i => -F i) H]
    refine T_iinc (x := nI k) (L' := [(2, .int (nI (k + 1))), (0, .ref to), (1, .ref f)]) d_Fi_negate_15 (by decide) rfl (by rw [show Int32.ofInt 1 = nI 1 from rfl, nI_add]; rfl) ?_
    refine T_goto (tgt := 2) d_Fi_negate_18 rfl ?_
    exact ih (k + 1) (by omega)
theorem x_Fi_negate (G : GX) {M : List va_E} {to f : Nat} {H F : Nat → Int64} (kto : K0 ≤ to) (hto : M[to]? = some (lr 10 H)) (hf : M[f]? = some (lr 10 F)) : CT G mi_Fi_negate [.ref to, .ref f] M (fun r M' => r = none ∧ ∃ F', M' = M.set to (lr 10 F') ∧ ∀ i, i < 10 → F' i = -F i) := by
  refine CT.of (by decide) (Nat.le_of_ble_eq_true rfl) ?_
  show TT G mi_Fi_negate 0 [(0, .ref to), (1, .ref f)] [] M 0 0 _
  refine T_iconst (v := nI 0) d_Fi_negate_0 (by decide) ?_
  refine T_istore_n (L' := [(2, .int (nI 0)), (0, .ref to), (1, .ref f)]) d_Fi_negate_1 (by decide) rfl ?_
  refine T_eq (M' := M.set to (lr 10 (lp 0 (fun i => -F i) H))) rfl rfl rfl (by rw [lp_0]; exact X_same hto) ?_
  exact xl_Fi_negate G kto hto hf 10 0 rfl
theorem xl_Fi_copy (G : GX) {M : List va_E} {to f : Nat} {H F : Nat → Int64} (kto : K0 ≤ to) (hto : M[to]? = some (lr 10 H)) (hf : M[f]? = some (lr 10 F)) : ∀ j k, k + j = 10 → TT G mi_Fi_copy 2 [(2, .int (nI k)), (0, .ref to), (1, .ref f)] [] (M.set to (lr 10 (lp k (fun i => F i) H))) 0 0 (fun r M' => r = none ∧ ∃ F', M' = M.set to (lr 10 F') ∧ ∀ i, i < 10 → F' i = F i) := by
  have hl := X_len hto
  intro j
  induction j with
  | zero =>
    intro k hk
    have : k = 10 := by omega
    subst this
    refine T_iload_n d_Fi_copy_2 rfl ?_
    refine T_bipush (v := nI 10) d_Fi_copy_3 (by decide) ?_
    refine T_icmp_ge d_Fi_copy_5 (tgt := 20) rfl (fun _ => ?_) (fun c => absurd (by decide) c)
    refine T_vret d_Fi_copy_20 rfl (by decide) (by decide) ⟨rfl, _, rfl, fun i hi => ?_⟩
    simp [lp, hi]
  | succ j ih =>
    intro k hk
    refine T_iload_n d_Fi_copy_2 rfl ?_
    refine T_bipush (v := nI 10) d_Fi_copy_3 (by decide) ?_
    refine T_icmp_ge d_Fi_copy_5 (tgt := 20) rfl (fun c => absurd ((nI_leI (by decide) (by omega)).mp c) (by omega)) (fun _ => ?_)
    refine T_aload_n (v := .ref to) d_Fi_copy_8 rfl (Or.inr ⟨_, rfl⟩) ?_
    refine T_iload_n d_Fi_copy_9 rfl ?_
    obtain ⟨F1, qf, rf⟩ := X_rd (k := k) (Hk := lp k (fun i => F i) H) hto hf (lp_at k _ H)
    refine T_aload_n (v := .ref f) d_Fi_copy_10 rfl (Or.inr ⟨_, rfl⟩) ?_
    refine T_iload_n d_Fi_copy_11 rfl ?_
    refine T_laload d_Fi_copy_12 qf (vp_in_nI (by omega) (by decide)) ?_
    rw [nI_clamp (by omega), rf]
    refine X_last (n := 10) (k := k) d_Fi_copy_13 kto (by omega) (by decide) hl ?_
    rw [show vp_updL (lp k (fun i => F i) H) k (F k) = lp (k + 1) (fun i => F i) H from lp_up k (fun i => F i) H]
    refine T_iinc (x := nI k) (L' := [(2, .int (nI (k + 1))), (0, .ref to), (1, .ref f)]) d_Fi_copy_14 (by decide) rfl (by rw [show Int32.ofInt 1 = nI 1 from rfl, nI_add]; rfl) ?_
    refine T_goto (tgt := 2) d_Fi_copy_17 rfl ?_
    exact ih (k + 1) (by omega)
theorem x_Fi_copy (G : GX) {M : List va_E} {to f : Nat} {H F : Nat → Int64} (kto : K0 ≤ to) (hto : M[to]? = some (lr 10 H)) (hf : M[f]? = some (lr 10 F)) : CT G mi_Fi_copy [.ref to, .ref f] M (fun r M' => r = none ∧ ∃ F', M' = M.set to (lr 10 F') ∧ ∀ i, i < 10 → F' i = F i) := by
  refine CT.of (by decide) (Nat.le_of_ble_eq_true rfl) ?_
  show TT G mi_Fi_copy 0 [(0, .ref to), (1, .ref f)] [] M 0 0 _
  refine T_iconst (v := nI 0) d_Fi_copy_0 (by decide) ?_
  refine T_istore_n (L' := [(2, .int (nI 0)), (0, .ref to), (1, .ref f)]) d_Fi_copy_1 (by decide) rfl ?_
  refine T_eq (M' := M.set to (lr 10 (lp 0 (fun i => F i) H))) rfl rfl rfl (by rw [lp_0]; exact X_same hto) ?_
  exact xl_Fi_copy G kto hto hf 10 0 rfl
theorem T_sub {G : GX} {mi : MI} {pc : Nat} {L L' : List (Nat × Value)} {st : List Value} {M : List va_E} {kc ks : Nat} {Q : Option Value → List va_E → Prop} (h : ∀ q ∈ L', q ∈ L) (k : TT G mi pc L' st M kc ks Q) : TT G mi pc L st M kc ks Q := by
  intro p e R s m args below meth c H locs ls ad ad0 n0 C D
  obtain ⟨d1, d2, d3, d4, d5, d6, d7⟩ := D
  refine k p e R s m args below meth c H locs ls ad ad0 n0 C ⟨d1, ⟨d2.1, d2.2.1, fun q hq => d2.2.2 q ?_⟩, d3, d4, d5, fun q hq => d6 q (h q hq), d7⟩
  obtain ⟨q', hq', rfl⟩ := List.mem_map.mp hq
  exact List.mem_map.mpr ⟨q', h q' hq', rfl⟩
set_option maxRecDepth 100000 in
set_option maxHeartbeats 4000000 in
theorem xl_Fi_square (G : GX) {M : List va_E} {to f n : Nat} {H F : Nat → Int64} (hn : n < 2 ^ 31) (kto : K0 ≤ to) (hto : M[to]? = some (lr 10 H)) : ∀ j k, k + j = n → TT G mi_Fi_square 56 [(23, .int (nI k)), (3, .long (sqI k F 0)), (5, .long (sqI k F 1)), (7, .long (sqI k F 2)), (9, .long (sqI k F 3)), (11, .long (sqI k F 4)), (13, .long (sqI k F 5)), (15, .long (sqI k F 6)), (17, .long (sqI k F 7)), (19, .long (sqI k F 8)), (21, .long (sqI k F 9)), (0, .ref to), (1, .ref f), (2, .int (nI n))] [] M 0 0 (fun r M' => r = none ∧ ∃ F', M' = M.set to (lr 10 F') ∧ ∀ i, i < 10 → F' i = sqI n F i) := by
  have hlto := X_len hto
  intro j
  induction j with
  | zero =>
    intro k hk
    have : k = n := by omega
    subst this
    refine T_iload d_Fi_square_56 rfl ?_
    refine T_iload_n d_Fi_square_58 rfl ?_
    refine T_icmp_ge d_Fi_square_59 (tgt := 702) rfl (fun _ => ?_) (fun c => absurd (Int32.le_refl _) c)
    refine T_eq (M' := M.set to (lr 10 H)) rfl rfl rfl (X_same hto) ?_
    refine T_aload_n (v := .ref to) d_Fi_square_702 rfl (Or.inr ⟨_, rfl⟩) ?_
    refine T_iconst (v := (nI 0)) d_Fi_square_703 (by decide) ?_
    refine T_lload_n d_Fi_square_704 rfl ?_
    refine T_topl (fun w0 ew0 => ?_)
    refine X_last (n := 10) (k := 0) d_Fi_square_705 kto (by decide) (by decide) hlto ?_
    refine T_aload_n (v := .ref to) d_Fi_square_706 rfl (Or.inr ⟨_, rfl⟩) ?_
    refine T_iconst (v := (nI 1)) d_Fi_square_707 (by decide) ?_
    refine T_lload d_Fi_square_708 rfl ?_
    refine T_topl (fun w1 ew1 => ?_)
    refine X_last (n := 10) (k := 1) d_Fi_square_710 kto (by decide) (by decide) hlto ?_
    refine T_aload_n (v := .ref to) d_Fi_square_711 rfl (Or.inr ⟨_, rfl⟩) ?_
    refine T_iconst (v := (nI 2)) d_Fi_square_712 (by decide) ?_
    refine T_lload d_Fi_square_713 rfl ?_
    refine T_topl (fun w2 ew2 => ?_)
    refine X_last (n := 10) (k := 2) d_Fi_square_715 kto (by decide) (by decide) hlto ?_
    refine T_aload_n (v := .ref to) d_Fi_square_716 rfl (Or.inr ⟨_, rfl⟩) ?_
    refine T_iconst (v := (nI 3)) d_Fi_square_717 (by decide) ?_
    refine T_lload d_Fi_square_718 rfl ?_
    refine T_topl (fun w3 ew3 => ?_)
    refine X_last (n := 10) (k := 3) d_Fi_square_720 kto (by decide) (by decide) hlto ?_
    refine T_aload_n (v := .ref to) d_Fi_square_721 rfl (Or.inr ⟨_, rfl⟩) ?_
    refine T_iconst (v := (nI 4)) d_Fi_square_722 (by decide) ?_
    refine T_lload d_Fi_square_723 rfl ?_
    refine T_topl (fun w4 ew4 => ?_)
    refine X_last (n := 10) (k := 4) d_Fi_square_725 kto (by decide) (by decide) hlto ?_
    refine T_aload_n (v := .ref to) d_Fi_square_726 rfl (Or.inr ⟨_, rfl⟩) ?_
    refine T_iconst (v := (nI 5)) d_Fi_square_727 (by decide) ?_
    refine T_lload d_Fi_square_728 rfl ?_
    refine T_topl (fun w5 ew5 => ?_)
    refine X_last (n := 10) (k := 5) d_Fi_square_730 kto (by decide) (by decide) hlto ?_
    refine T_aload_n (v := .ref to) d_Fi_square_731 rfl (Or.inr ⟨_, rfl⟩) ?_
    refine T_bipush (v := (nI 6)) d_Fi_square_732 (by decide) ?_
    refine T_lload d_Fi_square_734 rfl ?_
    refine T_topl (fun w6 ew6 => ?_)
    refine X_last (n := 10) (k := 6) d_Fi_square_736 kto (by decide) (by decide) hlto ?_
    refine T_aload_n (v := .ref to) d_Fi_square_737 rfl (Or.inr ⟨_, rfl⟩) ?_
    refine T_bipush (v := (nI 7)) d_Fi_square_738 (by decide) ?_
    refine T_lload d_Fi_square_740 rfl ?_
    refine T_topl (fun w7 ew7 => ?_)
    refine X_last (n := 10) (k := 7) d_Fi_square_742 kto (by decide) (by decide) hlto ?_
    refine T_aload_n (v := .ref to) d_Fi_square_743 rfl (Or.inr ⟨_, rfl⟩) ?_
    refine T_bipush (v := (nI 8)) d_Fi_square_744 (by decide) ?_
    refine T_lload d_Fi_square_746 rfl ?_
    refine T_topl (fun w8 ew8 => ?_)
    refine X_last (n := 10) (k := 8) d_Fi_square_748 kto (by decide) (by decide) hlto ?_
    refine T_aload_n (v := .ref to) d_Fi_square_749 rfl (Or.inr ⟨_, rfl⟩) ?_
    refine T_bipush (v := (nI 9)) d_Fi_square_750 (by decide) ?_
    refine T_lload d_Fi_square_752 rfl ?_
    refine T_topl (fun w9 ew9 => ?_)
    refine X_last (n := 10) (k := 9) d_Fi_square_754 kto (by decide) (by decide) hlto ?_
    refine T_vret d_Fi_square_755 rfl (by decide) (by decide) ⟨rfl, _, rfl, fun i hi => ?_⟩
    subst ew0 ew1 ew2 ew3 ew4 ew5 ew6 ew7 ew8 ew9
    have h10 : i = 0 ∨ i = 1 ∨ i = 2 ∨ i = 3 ∨ i = 4 ∨ i = 5 ∨ i = 6 ∨ i = 7 ∨ i = 8 ∨ i = 9 := by omega
    rcases h10 with rfl | rfl | rfl | rfl | rfl | rfl | rfl | rfl | rfl | rfl <;> rfl
  | succ j ih =>
    intro k hk
    refine T_iload d_Fi_square_56 rfl ?_
    refine T_iload_n d_Fi_square_58 rfl ?_
    refine T_icmp_ge d_Fi_square_59 (tgt := 702) rfl (fun c => absurd ((nI_leI hn (by omega)).mp c) (by omega)) (fun _ => ?_)
    refine T_ldc2 d_Fi_square_62 kJ_Fi_33 ?_
    refine T_lload_n d_Fi_square_65 rfl ?_
    refine T_lmul d_Fi_square_66 ?_
    refine T_topl (fun w10 ew10 => ?_)
    refine T_lstore (L' := [(24, .long w10), (23, .int (nI k)), (3, .long (sqI k F 0)), (5, .long (sqI k F 1)), (7, .long (sqI k F 2)), (9, .long (sqI k F 3)), (11, .long (sqI k F 4)), (13, .long (sqI k F 5)), (15, .long (sqI k F 6)), (17, .long (sqI k F 7)), (19, .long (sqI k F 8)), (21, .long (sqI k F 9)), (0, .ref to), (1, .ref f), (2, .int (nI n))]) d_Fi_square_67 (by decide) rfl ?_
    refine T_ldc2 d_Fi_square_69 kJ_Fi_33 ?_
    refine T_lload d_Fi_square_72 rfl ?_
    refine T_lmul d_Fi_square_74 ?_
    refine T_topl (fun w11 ew11 => ?_)
    refine T_lstore (L' := [(26, .long w11), (24, .long w10), (23, .int (nI k)), (3, .long (sqI k F 0)), (5, .long (sqI k F 1)), (7, .long (sqI k F 2)), (9, .long (sqI k F 3)), (11, .long (sqI k F 4)), (13, .long (sqI k F 5)), (15, .long (sqI k F 6)), (17, .long (sqI k F 7)), (19, .long (sqI k F 8)), (21, .long (sqI k F 9)), (0, .ref to), (1, .ref f), (2, .int (nI n))]) d_Fi_square_75 (by decide) rfl ?_
    refine T_ldc2 d_Fi_square_77 kJ_Fi_33 ?_
    refine T_lload d_Fi_square_80 rfl ?_
    refine T_lmul d_Fi_square_82 ?_
    refine T_topl (fun w12 ew12 => ?_)
    refine T_lstore (L' := [(28, .long w12), (26, .long w11), (24, .long w10), (23, .int (nI k)), (3, .long (sqI k F 0)), (5, .long (sqI k F 1)), (7, .long (sqI k F 2)), (9, .long (sqI k F 3)), (11, .long (sqI k F 4)), (13, .long (sqI k F 5)), (15, .long (sqI k F 6)), (17, .long (sqI k F 7)), (19, .long (sqI k F 8)), (21, .long (sqI k F 9)), (0, .ref to), (1, .ref f), (2, .int (nI n))]) d_Fi_square_83 (by decide) rfl ?_
    refine T_ldc2 d_Fi_square_85 kJ_Fi_33 ?_
    refine T_lload d_Fi_square_88 rfl ?_
    refine T_lmul d_Fi_square_90 ?_
    refine T_topl (fun w13 ew13 => ?_)
    refine T_lstore (L' := [(30, .long w13), (28, .long w12), (26, .long w11), (24, .long w10), (23, .int (nI k)), (3, .long (sqI k F 0)), (5, .long (sqI k F 1)), (7, .long (sqI k F 2)), (9, .long (sqI k F 3)), (11, .long (sqI k F 4)), (13, .long (sqI k F 5)), (15, .long (sqI k F 6)), (17, .long (sqI k F 7)), (19, .long (sqI k F 8)), (21, .long (sqI k F 9)), (0, .ref to), (1, .ref f), (2, .int (nI n))]) d_Fi_square_91 (by decide) rfl ?_
    refine T_ldc2 d_Fi_square_93 kJ_Fi_33 ?_
    refine T_lload d_Fi_square_96 rfl ?_
    refine T_lmul d_Fi_square_98 ?_
    refine T_topl (fun w14 ew14 => ?_)
    refine T_lstore (L' := [(32, .long w14), (30, .long w13), (28, .long w12), (26, .long w11), (24, .long w10), (23, .int (nI k)), (3, .long (sqI k F 0)), (5, .long (sqI k F 1)), (7, .long (sqI k F 2)), (9, .long (sqI k F 3)), (11, .long (sqI k F 4)), (13, .long (sqI k F 5)), (15, .long (sqI k F 6)), (17, .long (sqI k F 7)), (19, .long (sqI k F 8)), (21, .long (sqI k F 9)), (0, .ref to), (1, .ref f), (2, .int (nI n))]) d_Fi_square_99 (by decide) rfl ?_
    refine T_ldc2 d_Fi_square_101 kJ_Fi_33 ?_
    refine T_lload d_Fi_square_104 rfl ?_
    refine T_lmul d_Fi_square_106 ?_
    refine T_topl (fun w15 ew15 => ?_)
    refine T_lstore (L' := [(34, .long w15), (32, .long w14), (30, .long w13), (28, .long w12), (26, .long w11), (24, .long w10), (23, .int (nI k)), (3, .long (sqI k F 0)), (5, .long (sqI k F 1)), (7, .long (sqI k F 2)), (9, .long (sqI k F 3)), (11, .long (sqI k F 4)), (13, .long (sqI k F 5)), (15, .long (sqI k F 6)), (17, .long (sqI k F 7)), (19, .long (sqI k F 8)), (21, .long (sqI k F 9)), (0, .ref to), (1, .ref f), (2, .int (nI n))]) d_Fi_square_107 (by decide) rfl ?_
    refine T_ldc2 d_Fi_square_109 kJ_Fi_33 ?_
    refine T_lload d_Fi_square_112 rfl ?_
    refine T_lmul d_Fi_square_114 ?_
    refine T_topl (fun w16 ew16 => ?_)
    refine T_lstore (L' := [(36, .long w16), (34, .long w15), (32, .long w14), (30, .long w13), (28, .long w12), (26, .long w11), (24, .long w10), (23, .int (nI k)), (3, .long (sqI k F 0)), (5, .long (sqI k F 1)), (7, .long (sqI k F 2)), (9, .long (sqI k F 3)), (11, .long (sqI k F 4)), (13, .long (sqI k F 5)), (15, .long (sqI k F 6)), (17, .long (sqI k F 7)), (19, .long (sqI k F 8)), (21, .long (sqI k F 9)), (0, .ref to), (1, .ref f), (2, .int (nI n))]) d_Fi_square_115 (by decide) rfl ?_
    refine T_ldc2 d_Fi_square_117 kJ_Fi_33 ?_
    refine T_lload d_Fi_square_120 rfl ?_
    refine T_lmul d_Fi_square_122 ?_
    refine T_topl (fun w17 ew17 => ?_)
    refine T_lstore (L' := [(38, .long w17), (36, .long w16), (34, .long w15), (32, .long w14), (30, .long w13), (28, .long w12), (26, .long w11), (24, .long w10), (23, .int (nI k)), (3, .long (sqI k F 0)), (5, .long (sqI k F 1)), (7, .long (sqI k F 2)), (9, .long (sqI k F 3)), (11, .long (sqI k F 4)), (13, .long (sqI k F 5)), (15, .long (sqI k F 6)), (17, .long (sqI k F 7)), (19, .long (sqI k F 8)), (21, .long (sqI k F 9)), (0, .ref to), (1, .ref f), (2, .int (nI n))]) d_Fi_square_123 (by decide) rfl ?_
    refine T_ldc2 d_Fi_square_125 kJ_Fi_39 ?_
    refine T_lload d_Fi_square_128 rfl ?_
    refine T_lmul d_Fi_square_130 ?_
    refine T_topl (fun w18 ew18 => ?_)
    refine T_lstore (L' := [(40, .long w18), (38, .long w17), (36, .long w16), (34, .long w15), (32, .long w14), (30, .long w13), (28, .long w12), (26, .long w11), (24, .long w10), (23, .int (nI k)), (3, .long (sqI k F 0)), (5, .long (sqI k F 1)), (7, .long (sqI k F 2)), (9, .long (sqI k F 3)), (11, .long (sqI k F 4)), (13, .long (sqI k F 5)), (15, .long (sqI k F 6)), (17, .long (sqI k F 7)), (19, .long (sqI k F 8)), (21, .long (sqI k F 9)), (0, .ref to), (1, .ref f), (2, .int (nI n))]) d_Fi_square_131 (by decide) rfl ?_
    refine T_ldc2 d_Fi_square_133 kJ_Fi_31 ?_
    refine T_lload d_Fi_square_136 rfl ?_
    refine T_lmul d_Fi_square_138 ?_
    refine T_topl (fun w19 ew19 => ?_)
    refine T_lstore (L' := [(42, .long w19), (40, .long w18), (38, .long w17), (36, .long w16), (34, .long w15), (32, .long w14), (30, .long w13), (28, .long w12), (26, .long w11), (24, .long w10), (23, .int (nI k)), (3, .long (sqI k F 0)), (5, .long (sqI k F 1)), (7, .long (sqI k F 2)), (9, .long (sqI k F 3)), (11, .long (sqI k F 4)), (13, .long (sqI k F 5)), (15, .long (sqI k F 6)), (17, .long (sqI k F 7)), (19, .long (sqI k F 8)), (21, .long (sqI k F 9)), (0, .ref to), (1, .ref f), (2, .int (nI n))]) d_Fi_square_139 (by decide) rfl ?_
    refine T_ldc2 d_Fi_square_141 kJ_Fi_39 ?_
    refine T_lload d_Fi_square_144 rfl ?_
    refine T_lmul d_Fi_square_146 ?_
    refine T_topl (fun w20 ew20 => ?_)
    refine T_lstore (L' := [(44, .long w20), (42, .long w19), (40, .long w18), (38, .long w17), (36, .long w16), (34, .long w15), (32, .long w14), (30, .long w13), (28, .long w12), (26, .long w11), (24, .long w10), (23, .int (nI k)), (3, .long (sqI k F 0)), (5, .long (sqI k F 1)), (7, .long (sqI k F 2)), (9, .long (sqI k F 3)), (11, .long (sqI k F 4)), (13, .long (sqI k F 5)), (15, .long (sqI k F 6)), (17, .long (sqI k F 7)), (19, .long (sqI k F 8)), (21, .long (sqI k F 9)), (0, .ref to), (1, .ref f), (2, .int (nI n))]) d_Fi_square_147 (by decide) rfl ?_
    refine T_ldc2 d_Fi_square_149 kJ_Fi_31 ?_
    refine T_lload d_Fi_square_152 rfl ?_
    refine T_lmul d_Fi_square_154 ?_
    refine T_topl (fun w21 ew21 => ?_)
    refine T_lstore (L' := [(46, .long w21), (44, .long w20), (42, .long w19), (40, .long w18), (38, .long w17), (36, .long w16), (34, .long w15), (32, .long w14), (30, .long w13), (28, .long w12), (26, .long w11), (24, .long w10), (23, .int (nI k)), (3, .long (sqI k F 0)), (5, .long (sqI k F 1)), (7, .long (sqI k F 2)), (9, .long (sqI k F 3)), (11, .long (sqI k F 4)), (13, .long (sqI k F 5)), (15, .long (sqI k F 6)), (17, .long (sqI k F 7)), (19, .long (sqI k F 8)), (21, .long (sqI k F 9)), (0, .ref to), (1, .ref f), (2, .int (nI n))]) d_Fi_square_155 (by decide) rfl ?_
    refine T_ldc2 d_Fi_square_157 kJ_Fi_39 ?_
    refine T_lload d_Fi_square_160 rfl ?_
    refine T_lmul d_Fi_square_162 ?_
    refine T_topl (fun w22 ew22 => ?_)
    refine T_lstore (L' := [(48, .long w22), (46, .long w21), (44, .long w20), (42, .long w19), (40, .long w18), (38, .long w17), (36, .long w16), (34, .long w15), (32, .long w14), (30, .long w13), (28, .long w12), (26, .long w11), (24, .long w10), (23, .int (nI k)), (3, .long (sqI k F 0)), (5, .long (sqI k F 1)), (7, .long (sqI k F 2)), (9, .long (sqI k F 3)), (11, .long (sqI k F 4)), (13, .long (sqI k F 5)), (15, .long (sqI k F 6)), (17, .long (sqI k F 7)), (19, .long (sqI k F 8)), (21, .long (sqI k F 9)), (0, .ref to), (1, .ref f), (2, .int (nI n))]) d_Fi_square_163 (by decide) rfl ?_
    refine T_lload_n d_Fi_square_165 rfl ?_
    refine T_lload_n d_Fi_square_166 rfl ?_
    refine T_lmul d_Fi_square_167 ?_
    refine T_lload d_Fi_square_168 rfl ?_
    refine T_lload d_Fi_square_170 rfl ?_
    refine T_lmul d_Fi_square_172 ?_
    refine T_ladd d_Fi_square_173 ?_
    refine T_lload d_Fi_square_174 rfl ?_
    refine T_lload d_Fi_square_176 rfl ?_
    refine T_lmul d_Fi_square_178 ?_
    refine T_ladd d_Fi_square_179 ?_
    refine T_lload d_Fi_square_180 rfl ?_
    refine T_lload d_Fi_square_182 rfl ?_
    refine T_lmul d_Fi_square_184 ?_
    refine T_ladd d_Fi_square_185 ?_
    refine T_lload d_Fi_square_186 rfl ?_
    refine T_lload d_Fi_square_188 rfl ?_
    refine T_lmul d_Fi_square_190 ?_
    refine T_ladd d_Fi_square_191 ?_
    refine T_lload d_Fi_square_192 rfl ?_
    refine T_lload d_Fi_square_194 rfl ?_
    refine T_lmul d_Fi_square_196 ?_
    refine T_ladd d_Fi_square_197 ?_
    refine T_topl (fun w23 ew23 => ?_)
    refine T_lstore (L' := [(50, .long w23), (48, .long w22), (46, .long w21), (44, .long w20), (42, .long w19), (40, .long w18), (38, .long w17), (36, .long w16), (34, .long w15), (32, .long w14), (30, .long w13), (28, .long w12), (26, .long w11), (24, .long w10), (23, .int (nI k)), (3, .long (sqI k F 0)), (5, .long (sqI k F 1)), (7, .long (sqI k F 2)), (9, .long (sqI k F 3)), (11, .long (sqI k F 4)), (13, .long (sqI k F 5)), (15, .long (sqI k F 6)), (17, .long (sqI k F 7)), (19, .long (sqI k F 8)), (21, .long (sqI k F 9)), (0, .ref to), (1, .ref f), (2, .int (nI n))]) d_Fi_square_198 (by decide) rfl ?_
    refine T_lload d_Fi_square_200 rfl ?_
    refine T_ldc2 d_Fi_square_202 kJ_Fi_35 ?_
    refine T_land d_Fi_square_205 ?_
    refine T_topl (fun w24 ew24 => ?_)
    refine T_lstore (L' := [(52, .long w24), (50, .long w23), (48, .long w22), (46, .long w21), (44, .long w20), (42, .long w19), (40, .long w18), (38, .long w17), (36, .long w16), (34, .long w15), (32, .long w14), (30, .long w13), (28, .long w12), (26, .long w11), (24, .long w10), (23, .int (nI k)), (3, .long (sqI k F 0)), (5, .long (sqI k F 1)), (7, .long (sqI k F 2)), (9, .long (sqI k F 3)), (11, .long (sqI k F 4)), (13, .long (sqI k F 5)), (15, .long (sqI k F 6)), (17, .long (sqI k F 7)), (19, .long (sqI k F 8)), (21, .long (sqI k F 9)), (0, .ref to), (1, .ref f), (2, .int (nI n))]) d_Fi_square_206 (by decide) rfl ?_
    refine T_lload d_Fi_square_208 rfl ?_
    refine T_bipush (v := (nI 26)) d_Fi_square_210 (by decide) ?_
    refine T_lshr d_Fi_square_212 ?_
    refine T_lload d_Fi_square_213 rfl ?_
    refine T_lload d_Fi_square_215 rfl ?_
    refine T_lmul d_Fi_square_217 ?_
    refine T_ladd d_Fi_square_218 ?_
    refine T_lload d_Fi_square_219 rfl ?_
    refine T_lload d_Fi_square_221 rfl ?_
    refine T_lmul d_Fi_square_223 ?_
    refine T_ladd d_Fi_square_224 ?_
    refine T_lload d_Fi_square_225 rfl ?_
    refine T_lload d_Fi_square_227 rfl ?_
    refine T_lmul d_Fi_square_229 ?_
    refine T_ladd d_Fi_square_230 ?_
    refine T_lload d_Fi_square_231 rfl ?_
    refine T_lload d_Fi_square_233 rfl ?_
    refine T_lmul d_Fi_square_235 ?_
    refine T_ladd d_Fi_square_236 ?_
    refine T_lload d_Fi_square_237 rfl ?_
    refine T_lload d_Fi_square_239 rfl ?_
    refine T_lmul d_Fi_square_241 ?_
    refine T_ladd d_Fi_square_242 ?_
    refine T_topl (fun w25 ew25 => ?_)
    refine T_lstore (L' := [(50, .long w25), (52, .long w24), (48, .long w22), (46, .long w21), (44, .long w20), (42, .long w19), (40, .long w18), (38, .long w17), (36, .long w16), (34, .long w15), (32, .long w14), (30, .long w13), (28, .long w12), (26, .long w11), (24, .long w10), (23, .int (nI k)), (3, .long (sqI k F 0)), (5, .long (sqI k F 1)), (7, .long (sqI k F 2)), (9, .long (sqI k F 3)), (11, .long (sqI k F 4)), (13, .long (sqI k F 5)), (15, .long (sqI k F 6)), (17, .long (sqI k F 7)), (19, .long (sqI k F 8)), (21, .long (sqI k F 9)), (0, .ref to), (1, .ref f), (2, .int (nI n))]) d_Fi_square_243 (by decide) rfl ?_
    refine T_lload d_Fi_square_245 rfl ?_
    refine T_ldc2 d_Fi_square_247 kJ_Fi_37 ?_
    refine T_land d_Fi_square_250 ?_
    refine T_topl (fun w26 ew26 => ?_)
    refine T_lstore (L' := [(54, .long w26), (50, .long w25), (52, .long w24), (48, .long w22), (46, .long w21), (44, .long w20), (42, .long w19), (40, .long w18), (38, .long w17), (36, .long w16), (34, .long w15), (32, .long w14), (30, .long w13), (28, .long w12), (26, .long w11), (24, .long w10), (23, .int (nI k)), (3, .long (sqI k F 0)), (5, .long (sqI k F 1)), (7, .long (sqI k F 2)), (9, .long (sqI k F 3)), (11, .long (sqI k F 4)), (13, .long (sqI k F 5)), (15, .long (sqI k F 6)), (17, .long (sqI k F 7)), (19, .long (sqI k F 8)), (21, .long (sqI k F 9)), (0, .ref to), (1, .ref f), (2, .int (nI n))]) d_Fi_square_251 (by decide) rfl ?_
    refine T_lload d_Fi_square_253 rfl ?_
    refine T_bipush (v := (nI 25)) d_Fi_square_255 (by decide) ?_
    refine T_lshr d_Fi_square_257 ?_
    refine T_lload d_Fi_square_258 rfl ?_
    refine T_lload d_Fi_square_260 rfl ?_
    refine T_lmul d_Fi_square_262 ?_
    refine T_ladd d_Fi_square_263 ?_
    refine T_lload d_Fi_square_264 rfl ?_
    refine T_lload d_Fi_square_266 rfl ?_
    refine T_lmul d_Fi_square_268 ?_
    refine T_ladd d_Fi_square_269 ?_
    refine T_lload d_Fi_square_270 rfl ?_
    refine T_lload d_Fi_square_272 rfl ?_
    refine T_lmul d_Fi_square_274 ?_
    refine T_ladd d_Fi_square_275 ?_
    refine T_lload d_Fi_square_276 rfl ?_
    refine T_lload d_Fi_square_278 rfl ?_
    refine T_lmul d_Fi_square_280 ?_
    refine T_ladd d_Fi_square_281 ?_
    refine T_lload d_Fi_square_282 rfl ?_
    refine T_lload d_Fi_square_284 rfl ?_
    refine T_lmul d_Fi_square_286 ?_
    refine T_ladd d_Fi_square_287 ?_
    refine T_lload d_Fi_square_288 rfl ?_
    refine T_lload d_Fi_square_290 rfl ?_
    refine T_lmul d_Fi_square_292 ?_
    refine T_ladd d_Fi_square_293 ?_
    refine T_topl (fun w27 ew27 => ?_)
    refine T_lstore (L' := [(50, .long w27), (54, .long w26), (52, .long w24), (48, .long w22), (46, .long w21), (44, .long w20), (42, .long w19), (40, .long w18), (38, .long w17), (36, .long w16), (34, .long w15), (32, .long w14), (30, .long w13), (28, .long w12), (26, .long w11), (24, .long w10), (23, .int (nI k)), (3, .long (sqI k F 0)), (5, .long (sqI k F 1)), (7, .long (sqI k F 2)), (9, .long (sqI k F 3)), (11, .long (sqI k F 4)), (13, .long (sqI k F 5)), (15, .long (sqI k F 6)), (17, .long (sqI k F 7)), (19, .long (sqI k F 8)), (21, .long (sqI k F 9)), (0, .ref to), (1, .ref f), (2, .int (nI n))]) d_Fi_square_294 (by decide) rfl ?_
    refine T_lload d_Fi_square_296 rfl ?_
    refine T_ldc2 d_Fi_square_298 kJ_Fi_35 ?_
    refine T_land d_Fi_square_301 ?_
    refine T_topl (fun w28 ew28 => ?_)
    refine T_lstore (L' := [(56, .long w28), (50, .long w27), (54, .long w26), (52, .long w24), (48, .long w22), (46, .long w21), (44, .long w20), (42, .long w19), (40, .long w18), (38, .long w17), (36, .long w16), (34, .long w15), (32, .long w14), (30, .long w13), (28, .long w12), (26, .long w11), (24, .long w10), (23, .int (nI k)), (3, .long (sqI k F 0)), (5, .long (sqI k F 1)), (7, .long (sqI k F 2)), (9, .long (sqI k F 3)), (11, .long (sqI k F 4)), (13, .long (sqI k F 5)), (15, .long (sqI k F 6)), (17, .long (sqI k F 7)), (19, .long (sqI k F 8)), (21, .long (sqI k F 9)), (0, .ref to), (1, .ref f), (2, .int (nI n))]) d_Fi_square_302 (by decide) rfl ?_
    refine T_lload d_Fi_square_304 rfl ?_
    refine T_bipush (v := (nI 26)) d_Fi_square_306 (by decide) ?_
    refine T_lshr d_Fi_square_308 ?_
    refine T_lload d_Fi_square_309 rfl ?_
    refine T_lload d_Fi_square_311 rfl ?_
    refine T_lmul d_Fi_square_313 ?_
    refine T_ladd d_Fi_square_314 ?_
    refine T_lload d_Fi_square_315 rfl ?_
    refine T_lload d_Fi_square_317 rfl ?_
    refine T_lmul d_Fi_square_319 ?_
    refine T_ladd d_Fi_square_320 ?_
    refine T_lload d_Fi_square_321 rfl ?_
    refine T_lload d_Fi_square_323 rfl ?_
    refine T_lmul d_Fi_square_325 ?_
    refine T_ladd d_Fi_square_326 ?_
    refine T_lload d_Fi_square_327 rfl ?_
    refine T_lload d_Fi_square_329 rfl ?_
    refine T_lmul d_Fi_square_331 ?_
    refine T_ladd d_Fi_square_332 ?_
    refine T_lload d_Fi_square_333 rfl ?_
    refine T_lload d_Fi_square_335 rfl ?_
    refine T_lmul d_Fi_square_337 ?_
    refine T_ladd d_Fi_square_338 ?_
    refine T_topl (fun w29 ew29 => ?_)
    refine T_lstore (L' := [(50, .long w29), (56, .long w28), (54, .long w26), (52, .long w24), (48, .long w22), (46, .long w21), (44, .long w20), (42, .long w19), (40, .long w18), (38, .long w17), (36, .long w16), (34, .long w15), (32, .long w14), (30, .long w13), (28, .long w12), (26, .long w11), (24, .long w10), (23, .int (nI k)), (3, .long (sqI k F 0)), (5, .long (sqI k F 1)), (7, .long (sqI k F 2)), (9, .long (sqI k F 3)), (11, .long (sqI k F 4)), (13, .long (sqI k F 5)), (15, .long (sqI k F 6)), (17, .long (sqI k F 7)), (19, .long (sqI k F 8)), (21, .long (sqI k F 9)), (0, .ref to), (1, .ref f), (2, .int (nI n))]) d_Fi_square_339 (by decide) rfl ?_
    refine T_lload d_Fi_square_341 rfl ?_
    refine T_ldc2 d_Fi_square_343 kJ_Fi_37 ?_
    refine T_land d_Fi_square_346 ?_
    refine T_topl (fun w30 ew30 => ?_)
    refine T_lstore (L' := [(58, .long w30), (50, .long w29), (56, .long w28), (54, .long w26), (52, .long w24), (48, .long w22), (46, .long w21), (44, .long w20), (42, .long w19), (40, .long w18), (38, .long w17), (36, .long w16), (34, .long w15), (32, .long w14), (30, .long w13), (28, .long w12), (26, .long w11), (24, .long w10), (23, .int (nI k)), (3, .long (sqI k F 0)), (5, .long (sqI k F 1)), (7, .long (sqI k F 2)), (9, .long (sqI k F 3)), (11, .long (sqI k F 4)), (13, .long (sqI k F 5)), (15, .long (sqI k F 6)), (17, .long (sqI k F 7)), (19, .long (sqI k F 8)), (21, .long (sqI k F 9)), (0, .ref to), (1, .ref f), (2, .int (nI n))]) d_Fi_square_347 (by decide) rfl ?_
    refine T_lload d_Fi_square_349 rfl ?_
    refine T_bipush (v := (nI 25)) d_Fi_square_351 (by decide) ?_
    refine T_lshr d_Fi_square_353 ?_
    refine T_lload d_Fi_square_354 rfl ?_
    refine T_lload d_Fi_square_356 rfl ?_
    refine T_lmul d_Fi_square_358 ?_
    refine T_ladd d_Fi_square_359 ?_
    refine T_lload d_Fi_square_360 rfl ?_
    refine T_lload d_Fi_square_362 rfl ?_
    refine T_lmul d_Fi_square_364 ?_
    refine T_ladd d_Fi_square_365 ?_
    refine T_lload d_Fi_square_366 rfl ?_
    refine T_lload d_Fi_square_368 rfl ?_
    refine T_lmul d_Fi_square_370 ?_
    refine T_ladd d_Fi_square_371 ?_
    refine T_lload d_Fi_square_372 rfl ?_
    refine T_lload d_Fi_square_374 rfl ?_
    refine T_lmul d_Fi_square_376 ?_
    refine T_ladd d_Fi_square_377 ?_
    refine T_lload d_Fi_square_378 rfl ?_
    refine T_lload d_Fi_square_380 rfl ?_
    refine T_lmul d_Fi_square_382 ?_
    refine T_ladd d_Fi_square_383 ?_
    refine T_lload d_Fi_square_384 rfl ?_
    refine T_lload d_Fi_square_386 rfl ?_
    refine T_lmul d_Fi_square_388 ?_
    refine T_ladd d_Fi_square_389 ?_
    refine T_topl (fun w31 ew31 => ?_)
    refine T_lstore (L' := [(50, .long w31), (58, .long w30), (56, .long w28), (54, .long w26), (52, .long w24), (48, .long w22), (46, .long w21), (44, .long w20), (42, .long w19), (40, .long w18), (38, .long w17), (36, .long w16), (34, .long w15), (32, .long w14), (30, .long w13), (28, .long w12), (26, .long w11), (24, .long w10), (23, .int (nI k)), (3, .long (sqI k F 0)), (5, .long (sqI k F 1)), (7, .long (sqI k F 2)), (9, .long (sqI k F 3)), (11, .long (sqI k F 4)), (13, .long (sqI k F 5)), (15, .long (sqI k F 6)), (17, .long (sqI k F 7)), (19, .long (sqI k F 8)), (21, .long (sqI k F 9)), (0, .ref to), (1, .ref f), (2, .int (nI n))]) d_Fi_square_390 (by decide) rfl ?_
    refine T_lload d_Fi_square_392 rfl ?_
    refine T_ldc2 d_Fi_square_394 kJ_Fi_35 ?_
    refine T_land d_Fi_square_397 ?_
    refine T_topl (fun w32 ew32 => ?_)
    refine T_lstore (L' := [(60, .long w32), (50, .long w31), (58, .long w30), (56, .long w28), (54, .long w26), (52, .long w24), (48, .long w22), (46, .long w21), (44, .long w20), (42, .long w19), (40, .long w18), (38, .long w17), (36, .long w16), (34, .long w15), (32, .long w14), (30, .long w13), (28, .long w12), (26, .long w11), (24, .long w10), (23, .int (nI k)), (3, .long (sqI k F 0)), (5, .long (sqI k F 1)), (7, .long (sqI k F 2)), (9, .long (sqI k F 3)), (11, .long (sqI k F 4)), (13, .long (sqI k F 5)), (15, .long (sqI k F 6)), (17, .long (sqI k F 7)), (19, .long (sqI k F 8)), (21, .long (sqI k F 9)), (0, .ref to), (1, .ref f), (2, .int (nI n))]) d_Fi_square_398 (by decide) rfl ?_
    refine T_lload d_Fi_square_400 rfl ?_
    refine T_bipush (v := (nI 26)) d_Fi_square_402 (by decide) ?_
    refine T_lshr d_Fi_square_404 ?_
    refine T_lload d_Fi_square_405 rfl ?_
    refine T_lload d_Fi_square_407 rfl ?_
    refine T_lmul d_Fi_square_409 ?_
    refine T_ladd d_Fi_square_410 ?_
    refine T_lload d_Fi_square_411 rfl ?_
    refine T_lload d_Fi_square_413 rfl ?_
    refine T_lmul d_Fi_square_415 ?_
    refine T_ladd d_Fi_square_416 ?_
    refine T_lload d_Fi_square_417 rfl ?_
    refine T_lload d_Fi_square_419 rfl ?_
    refine T_lmul d_Fi_square_421 ?_
    refine T_ladd d_Fi_square_422 ?_
    refine T_lload d_Fi_square_423 rfl ?_
    refine T_lload d_Fi_square_425 rfl ?_
    refine T_lmul d_Fi_square_427 ?_
    refine T_ladd d_Fi_square_428 ?_
    refine T_lload d_Fi_square_429 rfl ?_
    refine T_lload d_Fi_square_431 rfl ?_
    refine T_lmul d_Fi_square_433 ?_
    refine T_ladd d_Fi_square_434 ?_
    refine T_topl (fun w33 ew33 => ?_)
    refine T_lstore (L' := [(50, .long w33), (60, .long w32), (58, .long w30), (56, .long w28), (54, .long w26), (52, .long w24), (48, .long w22), (46, .long w21), (44, .long w20), (42, .long w19), (40, .long w18), (38, .long w17), (36, .long w16), (34, .long w15), (32, .long w14), (30, .long w13), (28, .long w12), (26, .long w11), (24, .long w10), (23, .int (nI k)), (3, .long (sqI k F 0)), (5, .long (sqI k F 1)), (7, .long (sqI k F 2)), (9, .long (sqI k F 3)), (11, .long (sqI k F 4)), (13, .long (sqI k F 5)), (15, .long (sqI k F 6)), (17, .long (sqI k F 7)), (19, .long (sqI k F 8)), (21, .long (sqI k F 9)), (0, .ref to), (1, .ref f), (2, .int (nI n))]) d_Fi_square_435 (by decide) rfl ?_
    refine T_lload d_Fi_square_437 rfl ?_
    refine T_ldc2 d_Fi_square_439 kJ_Fi_37 ?_
    refine T_land d_Fi_square_442 ?_
    refine T_topl (fun w34 ew34 => ?_)
    refine T_lstore (L' := [(62, .long w34), (50, .long w33), (60, .long w32), (58, .long w30), (56, .long w28), (54, .long w26), (52, .long w24), (48, .long w22), (46, .long w21), (44, .long w20), (42, .long w19), (40, .long w18), (38, .long w17), (36, .long w16), (34, .long w15), (32, .long w14), (30, .long w13), (28, .long w12), (26, .long w11), (24, .long w10), (23, .int (nI k)), (3, .long (sqI k F 0)), (5, .long (sqI k F 1)), (7, .long (sqI k F 2)), (9, .long (sqI k F 3)), (11, .long (sqI k F 4)), (13, .long (sqI k F 5)), (15, .long (sqI k F 6)), (17, .long (sqI k F 7)), (19, .long (sqI k F 8)), (21, .long (sqI k F 9)), (0, .ref to), (1, .ref f), (2, .int (nI n))]) d_Fi_square_443 (by decide) rfl ?_
    refine T_lload d_Fi_square_445 rfl ?_
    refine T_bipush (v := (nI 25)) d_Fi_square_447 (by decide) ?_
    refine T_lshr d_Fi_square_449 ?_
    refine T_lload d_Fi_square_450 rfl ?_
    refine T_lload d_Fi_square_452 rfl ?_
    refine T_lmul d_Fi_square_454 ?_
    refine T_ladd d_Fi_square_455 ?_
    refine T_lload d_Fi_square_456 rfl ?_
    refine T_lload d_Fi_square_458 rfl ?_
    refine T_lmul d_Fi_square_460 ?_
    refine T_ladd d_Fi_square_461 ?_
    refine T_lload d_Fi_square_462 rfl ?_
    refine T_lload d_Fi_square_464 rfl ?_
    refine T_lmul d_Fi_square_466 ?_
    refine T_ladd d_Fi_square_467 ?_
    refine T_lload d_Fi_square_468 rfl ?_
    refine T_lload d_Fi_square_470 rfl ?_
    refine T_lmul d_Fi_square_472 ?_
    refine T_ladd d_Fi_square_473 ?_
    refine T_lload d_Fi_square_474 rfl ?_
    refine T_lload d_Fi_square_476 rfl ?_
    refine T_lmul d_Fi_square_478 ?_
    refine T_ladd d_Fi_square_479 ?_
    refine T_lload d_Fi_square_480 rfl ?_
    refine T_lload d_Fi_square_482 rfl ?_
    refine T_lmul d_Fi_square_484 ?_
    refine T_ladd d_Fi_square_485 ?_
    refine T_topl (fun w35 ew35 => ?_)
    refine T_lstore (L' := [(50, .long w35), (62, .long w34), (60, .long w32), (58, .long w30), (56, .long w28), (54, .long w26), (52, .long w24), (48, .long w22), (46, .long w21), (44, .long w20), (42, .long w19), (40, .long w18), (38, .long w17), (36, .long w16), (34, .long w15), (32, .long w14), (30, .long w13), (28, .long w12), (26, .long w11), (24, .long w10), (23, .int (nI k)), (3, .long (sqI k F 0)), (5, .long (sqI k F 1)), (7, .long (sqI k F 2)), (9, .long (sqI k F 3)), (11, .long (sqI k F 4)), (13, .long (sqI k F 5)), (15, .long (sqI k F 6)), (17, .long (sqI k F 7)), (19, .long (sqI k F 8)), (21, .long (sqI k F 9)), (0, .ref to), (1, .ref f), (2, .int (nI n))]) d_Fi_square_486 (by decide) rfl ?_
    refine T_lload d_Fi_square_488 rfl ?_
    refine T_ldc2 d_Fi_square_490 kJ_Fi_35 ?_
    refine T_land d_Fi_square_493 ?_
    refine T_topl (fun w36 ew36 => ?_)
    refine T_lstore (L' := [(64, .long w36), (50, .long w35), (62, .long w34), (60, .long w32), (58, .long w30), (56, .long w28), (54, .long w26), (52, .long w24), (48, .long w22), (46, .long w21), (44, .long w20), (42, .long w19), (40, .long w18), (38, .long w17), (36, .long w16), (34, .long w15), (32, .long w14), (30, .long w13), (28, .long w12), (26, .long w11), (24, .long w10), (23, .int (nI k)), (3, .long (sqI k F 0)), (5, .long (sqI k F 1)), (7, .long (sqI k F 2)), (9, .long (sqI k F 3)), (11, .long (sqI k F 4)), (13, .long (sqI k F 5)), (15, .long (sqI k F 6)), (17, .long (sqI k F 7)), (19, .long (sqI k F 8)), (21, .long (sqI k F 9)), (0, .ref to), (1, .ref f), (2, .int (nI n))]) d_Fi_square_494 (by decide) rfl ?_
    refine T_lload d_Fi_square_496 rfl ?_
    refine T_bipush (v := (nI 26)) d_Fi_square_498 (by decide) ?_
    refine T_lshr d_Fi_square_500 ?_
    refine T_lload d_Fi_square_501 rfl ?_
    refine T_lload d_Fi_square_503 rfl ?_
    refine T_lmul d_Fi_square_505 ?_
    refine T_ladd d_Fi_square_506 ?_
    refine T_lload d_Fi_square_507 rfl ?_
    refine T_lload d_Fi_square_509 rfl ?_
    refine T_lmul d_Fi_square_511 ?_
    refine T_ladd d_Fi_square_512 ?_
    refine T_lload d_Fi_square_513 rfl ?_
    refine T_lload d_Fi_square_515 rfl ?_
    refine T_lmul d_Fi_square_517 ?_
    refine T_ladd d_Fi_square_518 ?_
    refine T_lload d_Fi_square_519 rfl ?_
    refine T_lload d_Fi_square_521 rfl ?_
    refine T_lmul d_Fi_square_523 ?_
    refine T_ladd d_Fi_square_524 ?_
    refine T_lload d_Fi_square_525 rfl ?_
    refine T_lload d_Fi_square_527 rfl ?_
    refine T_lmul d_Fi_square_529 ?_
    refine T_ladd d_Fi_square_530 ?_
    refine T_topl (fun w37 ew37 => ?_)
    refine T_lstore (L' := [(50, .long w37), (64, .long w36), (62, .long w34), (60, .long w32), (58, .long w30), (56, .long w28), (54, .long w26), (52, .long w24), (48, .long w22), (46, .long w21), (44, .long w20), (42, .long w19), (40, .long w18), (38, .long w17), (36, .long w16), (34, .long w15), (32, .long w14), (30, .long w13), (28, .long w12), (26, .long w11), (24, .long w10), (23, .int (nI k)), (3, .long (sqI k F 0)), (5, .long (sqI k F 1)), (7, .long (sqI k F 2)), (9, .long (sqI k F 3)), (11, .long (sqI k F 4)), (13, .long (sqI k F 5)), (15, .long (sqI k F 6)), (17, .long (sqI k F 7)), (19, .long (sqI k F 8)), (21, .long (sqI k F 9)), (0, .ref to), (1, .ref f), (2, .int (nI n))]) d_Fi_square_531 (by decide) rfl ?_
    refine T_lload d_Fi_square_533 rfl ?_
    refine T_ldc2 d_Fi_square_535 kJ_Fi_37 ?_
    refine T_land d_Fi_square_538 ?_
    refine T_topl (fun w38 ew38 => ?_)
    refine T_lstore (L' := [(66, .long w38), (50, .long w37), (64, .long w36), (62, .long w34), (60, .long w32), (58, .long w30), (56, .long w28), (54, .long w26), (52, .long w24), (48, .long w22), (46, .long w21), (44, .long w20), (42, .long w19), (40, .long w18), (38, .long w17), (36, .long w16), (34, .long w15), (32, .long w14), (30, .long w13), (28, .long w12), (26, .long w11), (24, .long w10), (23, .int (nI k)), (3, .long (sqI k F 0)), (5, .long (sqI k F 1)), (7, .long (sqI k F 2)), (9, .long (sqI k F 3)), (11, .long (sqI k F 4)), (13, .long (sqI k F 5)), (15, .long (sqI k F 6)), (17, .long (sqI k F 7)), (19, .long (sqI k F 8)), (21, .long (sqI k F 9)), (0, .ref to), (1, .ref f), (2, .int (nI n))]) d_Fi_square_539 (by decide) rfl ?_
    refine T_lload d_Fi_square_541 rfl ?_
    refine T_bipush (v := (nI 25)) d_Fi_square_543 (by decide) ?_
    refine T_lshr d_Fi_square_545 ?_
    refine T_lload d_Fi_square_546 rfl ?_
    refine T_lload d_Fi_square_548 rfl ?_
    refine T_lmul d_Fi_square_550 ?_
    refine T_ladd d_Fi_square_551 ?_
    refine T_lload d_Fi_square_552 rfl ?_
    refine T_lload d_Fi_square_554 rfl ?_
    refine T_lmul d_Fi_square_556 ?_
    refine T_ladd d_Fi_square_557 ?_
    refine T_lload d_Fi_square_558 rfl ?_
    refine T_lload d_Fi_square_560 rfl ?_
    refine T_lmul d_Fi_square_562 ?_
    refine T_ladd d_Fi_square_563 ?_
    refine T_lload d_Fi_square_564 rfl ?_
    refine T_lload d_Fi_square_566 rfl ?_
    refine T_lmul d_Fi_square_568 ?_
    refine T_ladd d_Fi_square_569 ?_
    refine T_lload d_Fi_square_570 rfl ?_
    refine T_lload d_Fi_square_572 rfl ?_
    refine T_lmul d_Fi_square_574 ?_
    refine T_ladd d_Fi_square_575 ?_
    refine T_lload d_Fi_square_576 rfl ?_
    refine T_lload d_Fi_square_578 rfl ?_
    refine T_lmul d_Fi_square_580 ?_
    refine T_ladd d_Fi_square_581 ?_
    refine T_topl (fun w39 ew39 => ?_)
    refine T_lstore (L' := [(50, .long w39), (66, .long w38), (64, .long w36), (62, .long w34), (60, .long w32), (58, .long w30), (56, .long w28), (54, .long w26), (52, .long w24), (48, .long w22), (46, .long w21), (44, .long w20), (42, .long w19), (40, .long w18), (38, .long w17), (36, .long w16), (34, .long w15), (32, .long w14), (30, .long w13), (28, .long w12), (26, .long w11), (24, .long w10), (23, .int (nI k)), (3, .long (sqI k F 0)), (5, .long (sqI k F 1)), (7, .long (sqI k F 2)), (9, .long (sqI k F 3)), (11, .long (sqI k F 4)), (13, .long (sqI k F 5)), (15, .long (sqI k F 6)), (17, .long (sqI k F 7)), (19, .long (sqI k F 8)), (21, .long (sqI k F 9)), (0, .ref to), (1, .ref f), (2, .int (nI n))]) d_Fi_square_582 (by decide) rfl ?_
    refine T_lload d_Fi_square_584 rfl ?_
    refine T_ldc2 d_Fi_square_586 kJ_Fi_35 ?_
    refine T_land d_Fi_square_589 ?_
    refine T_topl (fun w40 ew40 => ?_)
    refine T_lstore (L' := [(68, .long w40), (50, .long w39), (66, .long w38), (64, .long w36), (62, .long w34), (60, .long w32), (58, .long w30), (56, .long w28), (54, .long w26), (52, .long w24), (48, .long w22), (46, .long w21), (44, .long w20), (42, .long w19), (40, .long w18), (38, .long w17), (36, .long w16), (34, .long w15), (32, .long w14), (30, .long w13), (28, .long w12), (26, .long w11), (24, .long w10), (23, .int (nI k)), (3, .long (sqI k F 0)), (5, .long (sqI k F 1)), (7, .long (sqI k F 2)), (9, .long (sqI k F 3)), (11, .long (sqI k F 4)), (13, .long (sqI k F 5)), (15, .long (sqI k F 6)), (17, .long (sqI k F 7)), (19, .long (sqI k F 8)), (21, .long (sqI k F 9)), (0, .ref to), (1, .ref f), (2, .int (nI n))]) d_Fi_square_590 (by decide) rfl ?_
    refine T_lload d_Fi_square_592 rfl ?_
    refine T_bipush (v := (nI 26)) d_Fi_square_594 (by decide) ?_
    refine T_lshr d_Fi_square_596 ?_
    refine T_lload d_Fi_square_597 rfl ?_
    refine T_lload d_Fi_square_599 rfl ?_
    refine T_lmul d_Fi_square_601 ?_
    refine T_ladd d_Fi_square_602 ?_
    refine T_lload d_Fi_square_603 rfl ?_
    refine T_lload d_Fi_square_605 rfl ?_
    refine T_lmul d_Fi_square_607 ?_
    refine T_ladd d_Fi_square_608 ?_
    refine T_lload d_Fi_square_609 rfl ?_
    refine T_lload d_Fi_square_611 rfl ?_
    refine T_lmul d_Fi_square_613 ?_
    refine T_ladd d_Fi_square_614 ?_
    refine T_lload d_Fi_square_615 rfl ?_
    refine T_lload d_Fi_square_617 rfl ?_
    refine T_lmul d_Fi_square_619 ?_
    refine T_ladd d_Fi_square_620 ?_
    refine T_lload d_Fi_square_621 rfl ?_
    refine T_lload d_Fi_square_623 rfl ?_
    refine T_lmul d_Fi_square_625 ?_
    refine T_ladd d_Fi_square_626 ?_
    refine T_topl (fun w41 ew41 => ?_)
    refine T_lstore (L' := [(50, .long w41), (68, .long w40), (66, .long w38), (64, .long w36), (62, .long w34), (60, .long w32), (58, .long w30), (56, .long w28), (54, .long w26), (52, .long w24), (48, .long w22), (46, .long w21), (44, .long w20), (42, .long w19), (40, .long w18), (38, .long w17), (36, .long w16), (34, .long w15), (32, .long w14), (30, .long w13), (28, .long w12), (26, .long w11), (24, .long w10), (23, .int (nI k)), (3, .long (sqI k F 0)), (5, .long (sqI k F 1)), (7, .long (sqI k F 2)), (9, .long (sqI k F 3)), (11, .long (sqI k F 4)), (13, .long (sqI k F 5)), (15, .long (sqI k F 6)), (17, .long (sqI k F 7)), (19, .long (sqI k F 8)), (21, .long (sqI k F 9)), (0, .ref to), (1, .ref f), (2, .int (nI n))]) d_Fi_square_627 (by decide) rfl ?_
    refine T_lload d_Fi_square_629 rfl ?_
    refine T_ldc2 d_Fi_square_631 kJ_Fi_37 ?_
    refine T_land d_Fi_square_634 ?_
    refine T_topl (fun w42 ew42 => ?_)
    refine T_lstore (L' := [(21, .long w42), (50, .long w41), (68, .long w40), (66, .long w38), (64, .long w36), (62, .long w34), (60, .long w32), (58, .long w30), (56, .long w28), (54, .long w26), (52, .long w24), (48, .long w22), (46, .long w21), (44, .long w20), (42, .long w19), (40, .long w18), (38, .long w17), (36, .long w16), (34, .long w15), (32, .long w14), (30, .long w13), (28, .long w12), (26, .long w11), (24, .long w10), (23, .int (nI k)), (3, .long (sqI k F 0)), (5, .long (sqI k F 1)), (7, .long (sqI k F 2)), (9, .long (sqI k F 3)), (11, .long (sqI k F 4)), (13, .long (sqI k F 5)), (15, .long (sqI k F 6)), (17, .long (sqI k F 7)), (19, .long (sqI k F 8)), (0, .ref to), (1, .ref f), (2, .int (nI n))]) d_Fi_square_635 (by decide) rfl ?_
    refine T_lload d_Fi_square_637 rfl ?_
    refine T_bipush (v := (nI 25)) d_Fi_square_639 (by decide) ?_
    refine T_lshr d_Fi_square_641 ?_
    refine T_ldc2 d_Fi_square_642 kJ_Fi_31 ?_
    refine T_lmul d_Fi_square_645 ?_
    refine T_lload d_Fi_square_646 rfl ?_
    refine T_ladd d_Fi_square_648 ?_
    refine T_topl (fun w43 ew43 => ?_)
    refine T_lstore (L' := [(50, .long w43), (21, .long w42), (68, .long w40), (66, .long w38), (64, .long w36), (62, .long w34), (60, .long w32), (58, .long w30), (56, .long w28), (54, .long w26), (52, .long w24), (48, .long w22), (46, .long w21), (44, .long w20), (42, .long w19), (40, .long w18), (38, .long w17), (36, .long w16), (34, .long w15), (32, .long w14), (30, .long w13), (28, .long w12), (26, .long w11), (24, .long w10), (23, .int (nI k)), (3, .long (sqI k F 0)), (5, .long (sqI k F 1)), (7, .long (sqI k F 2)), (9, .long (sqI k F 3)), (11, .long (sqI k F 4)), (13, .long (sqI k F 5)), (15, .long (sqI k F 6)), (17, .long (sqI k F 7)), (19, .long (sqI k F 8)), (0, .ref to), (1, .ref f), (2, .int (nI n))]) d_Fi_square_649 (by decide) rfl ?_
    refine T_lload d_Fi_square_651 rfl ?_
    refine T_ldc2 d_Fi_square_653 kJ_Fi_35 ?_
    refine T_land d_Fi_square_656 ?_
    refine T_topl (fun w44 ew44 => ?_)
    refine T_lstore_n (L' := [(3, .long w44), (50, .long w43), (21, .long w42), (68, .long w40), (66, .long w38), (64, .long w36), (62, .long w34), (60, .long w32), (58, .long w30), (56, .long w28), (54, .long w26), (52, .long w24), (48, .long w22), (46, .long w21), (44, .long w20), (42, .long w19), (40, .long w18), (38, .long w17), (36, .long w16), (34, .long w15), (32, .long w14), (30, .long w13), (28, .long w12), (26, .long w11), (24, .long w10), (23, .int (nI k)), (5, .long (sqI k F 1)), (7, .long (sqI k F 2)), (9, .long (sqI k F 3)), (11, .long (sqI k F 4)), (13, .long (sqI k F 5)), (15, .long (sqI k F 6)), (17, .long (sqI k F 7)), (19, .long (sqI k F 8)), (0, .ref to), (1, .ref f), (2, .int (nI n))]) d_Fi_square_657 (by decide) rfl ?_
    refine T_lload d_Fi_square_658 rfl ?_
    refine T_lload d_Fi_square_660 rfl ?_
    refine T_bipush (v := (nI 26)) d_Fi_square_662 (by decide) ?_
    refine T_lshr d_Fi_square_664 ?_
    refine T_ladd d_Fi_square_665 ?_
    refine T_topl (fun w45 ew45 => ?_)
    refine T_lstore (L' := [(5, .long w45), (3, .long w44), (50, .long w43), (21, .long w42), (68, .long w40), (66, .long w38), (64, .long w36), (62, .long w34), (60, .long w32), (58, .long w30), (56, .long w28), (54, .long w26), (52, .long w24), (48, .long w22), (46, .long w21), (44, .long w20), (42, .long w19), (40, .long w18), (38, .long w17), (36, .long w16), (34, .long w15), (32, .long w14), (30, .long w13), (28, .long w12), (26, .long w11), (24, .long w10), (23, .int (nI k)), (7, .long (sqI k F 2)), (9, .long (sqI k F 3)), (11, .long (sqI k F 4)), (13, .long (sqI k F 5)), (15, .long (sqI k F 6)), (17, .long (sqI k F 7)), (19, .long (sqI k F 8)), (0, .ref to), (1, .ref f), (2, .int (nI n))]) d_Fi_square_666 (by decide) rfl ?_
    refine T_lload d_Fi_square_668 rfl ?_
    refine T_topl (fun w46 ew46 => ?_)
    refine T_lstore (L' := [(7, .long w46), (5, .long w45), (3, .long w44), (50, .long w43), (21, .long w42), (68, .long w40), (66, .long w38), (64, .long w36), (62, .long w34), (60, .long w32), (58, .long w30), (56, .long w28), (54, .long w26), (52, .long w24), (48, .long w22), (46, .long w21), (44, .long w20), (42, .long w19), (40, .long w18), (38, .long w17), (36, .long w16), (34, .long w15), (32, .long w14), (30, .long w13), (28, .long w12), (26, .long w11), (24, .long w10), (23, .int (nI k)), (9, .long (sqI k F 3)), (11, .long (sqI k F 4)), (13, .long (sqI k F 5)), (15, .long (sqI k F 6)), (17, .long (sqI k F 7)), (19, .long (sqI k F 8)), (0, .ref to), (1, .ref f), (2, .int (nI n))]) d_Fi_square_670 (by decide) rfl ?_
    refine T_lload d_Fi_square_672 rfl ?_
    refine T_topl (fun w47 ew47 => ?_)
    refine T_lstore (L' := [(9, .long w47), (7, .long w46), (5, .long w45), (3, .long w44), (50, .long w43), (21, .long w42), (68, .long w40), (66, .long w38), (64, .long w36), (62, .long w34), (60, .long w32), (58, .long w30), (56, .long w28), (54, .long w26), (52, .long w24), (48, .long w22), (46, .long w21), (44, .long w20), (42, .long w19), (40, .long w18), (38, .long w17), (36, .long w16), (34, .long w15), (32, .long w14), (30, .long w13), (28, .long w12), (26, .long w11), (24, .long w10), (23, .int (nI k)), (11, .long (sqI k F 4)), (13, .long (sqI k F 5)), (15, .long (sqI k F 6)), (17, .long (sqI k F 7)), (19, .long (sqI k F 8)), (0, .ref to), (1, .ref f), (2, .int (nI n))]) d_Fi_square_674 (by decide) rfl ?_
    refine T_lload d_Fi_square_676 rfl ?_
    refine T_topl (fun w48 ew48 => ?_)
    refine T_lstore (L' := [(11, .long w48), (9, .long w47), (7, .long w46), (5, .long w45), (3, .long w44), (50, .long w43), (21, .long w42), (68, .long w40), (66, .long w38), (64, .long w36), (62, .long w34), (60, .long w32), (58, .long w30), (56, .long w28), (54, .long w26), (52, .long w24), (48, .long w22), (46, .long w21), (44, .long w20), (42, .long w19), (40, .long w18), (38, .long w17), (36, .long w16), (34, .long w15), (32, .long w14), (30, .long w13), (28, .long w12), (26, .long w11), (24, .long w10), (23, .int (nI k)), (13, .long (sqI k F 5)), (15, .long (sqI k F 6)), (17, .long (sqI k F 7)), (19, .long (sqI k F 8)), (0, .ref to), (1, .ref f), (2, .int (nI n))]) d_Fi_square_678 (by decide) rfl ?_
    refine T_lload d_Fi_square_680 rfl ?_
    refine T_topl (fun w49 ew49 => ?_)
    refine T_lstore (L' := [(13, .long w49), (11, .long w48), (9, .long w47), (7, .long w46), (5, .long w45), (3, .long w44), (50, .long w43), (21, .long w42), (68, .long w40), (66, .long w38), (64, .long w36), (62, .long w34), (60, .long w32), (58, .long w30), (56, .long w28), (54, .long w26), (52, .long w24), (48, .long w22), (46, .long w21), (44, .long w20), (42, .long w19), (40, .long w18), (38, .long w17), (36, .long w16), (34, .long w15), (32, .long w14), (30, .long w13), (28, .long w12), (26, .long w11), (24, .long w10), (23, .int (nI k)), (15, .long (sqI k F 6)), (17, .long (sqI k F 7)), (19, .long (sqI k F 8)), (0, .ref to), (1, .ref f), (2, .int (nI n))]) d_Fi_square_682 (by decide) rfl ?_
    refine T_lload d_Fi_square_684 rfl ?_
    refine T_topl (fun w50 ew50 => ?_)
    refine T_lstore (L' := [(15, .long w50), (13, .long w49), (11, .long w48), (9, .long w47), (7, .long w46), (5, .long w45), (3, .long w44), (50, .long w43), (21, .long w42), (68, .long w40), (66, .long w38), (64, .long w36), (62, .long w34), (60, .long w32), (58, .long w30), (56, .long w28), (54, .long w26), (52, .long w24), (48, .long w22), (46, .long w21), (44, .long w20), (42, .long w19), (40, .long w18), (38, .long w17), (36, .long w16), (34, .long w15), (32, .long w14), (30, .long w13), (28, .long w12), (26, .long w11), (24, .long w10), (23, .int (nI k)), (17, .long (sqI k F 7)), (19, .long (sqI k F 8)), (0, .ref to), (1, .ref f), (2, .int (nI n))]) d_Fi_square_686 (by decide) rfl ?_
    refine T_lload d_Fi_square_688 rfl ?_
    refine T_topl (fun w51 ew51 => ?_)
    refine T_lstore (L' := [(17, .long w51), (15, .long w50), (13, .long w49), (11, .long w48), (9, .long w47), (7, .long w46), (5, .long w45), (3, .long w44), (50, .long w43), (21, .long w42), (68, .long w40), (66, .long w38), (64, .long w36), (62, .long w34), (60, .long w32), (58, .long w30), (56, .long w28), (54, .long w26), (52, .long w24), (48, .long w22), (46, .long w21), (44, .long w20), (42, .long w19), (40, .long w18), (38, .long w17), (36, .long w16), (34, .long w15), (32, .long w14), (30, .long w13), (28, .long w12), (26, .long w11), (24, .long w10), (23, .int (nI k)), (19, .long (sqI k F 8)), (0, .ref to), (1, .ref f), (2, .int (nI n))]) d_Fi_square_690 (by decide) rfl ?_
    refine T_lload d_Fi_square_692 rfl ?_
    refine T_topl (fun w52 ew52 => ?_)
    refine T_lstore (L' := [(19, .long w52), (17, .long w51), (15, .long w50), (13, .long w49), (11, .long w48), (9, .long w47), (7, .long w46), (5, .long w45), (3, .long w44), (50, .long w43), (21, .long w42), (68, .long w40), (66, .long w38), (64, .long w36), (62, .long w34), (60, .long w32), (58, .long w30), (56, .long w28), (54, .long w26), (52, .long w24), (48, .long w22), (46, .long w21), (44, .long w20), (42, .long w19), (40, .long w18), (38, .long w17), (36, .long w16), (34, .long w15), (32, .long w14), (30, .long w13), (28, .long w12), (26, .long w11), (24, .long w10), (23, .int (nI k)), (0, .ref to), (1, .ref f), (2, .int (nI n))]) d_Fi_square_694 (by decide) rfl ?_
    refine T_iinc (x := nI k) (L' := [(23, .int (nI (k + 1))), (19, .long w52), (17, .long w51), (15, .long w50), (13, .long w49), (11, .long w48), (9, .long w47), (7, .long w46), (5, .long w45), (3, .long w44), (50, .long w43), (21, .long w42), (68, .long w40), (66, .long w38), (64, .long w36), (62, .long w34), (60, .long w32), (58, .long w30), (56, .long w28), (54, .long w26), (52, .long w24), (48, .long w22), (46, .long w21), (44, .long w20), (42, .long w19), (40, .long w18), (38, .long w17), (36, .long w16), (34, .long w15), (32, .long w14), (30, .long w13), (28, .long w12), (26, .long w11), (24, .long w10), (0, .ref to), (1, .ref f), (2, .int (nI n))]) d_Fi_square_696 (by decide) rfl (by rw [show Int32.ofInt 1 = nI 1 from rfl, nI_add]; rfl) ?_
    refine T_goto (tgt := 56) d_Fi_square_699 rfl ?_
    refine T_sub (L' := [(23, .int (nI (k + 1))), (3, .long w44), (5, .long w45), (7, .long w46), (9, .long w47), (11, .long w48), (13, .long w49), (15, .long w50), (17, .long w51), (19, .long w52), (21, .long w42), (0, .ref to), (1, .ref f), (2, .int (nI n))]) (fun q hq => ?_) ?_
    · simp only [List.mem_cons, List.not_mem_nil, or_false] at hq ⊢
      rcases hq with rfl | rfl | rfl | rfl | rfl | rfl | rfl | rfl | rfl | rfl | rfl | rfl | rfl | rfl <;> simp
    subst ew10 ew11 ew12 ew13 ew14 ew15 ew16 ew17 ew18 ew19 ew20 ew21 ew22 ew23 ew24 ew25 ew26 ew27 ew28 ew29 ew30 ew31 ew32 ew33 ew34 ew35 ew36 ew37 ew38 ew39 ew40 ew41 ew42 ew43 ew44 ew45 ew46 ew47 ew48 ew49 ew50 ew51 ew52
    exact ih (k + 1) (by omega)
set_option maxRecDepth 100000 in
set_option maxHeartbeats 4000000 in
theorem x_Fi_square (G : GX) {M : List va_E} {to f n : Nat} {H F : Nat → Int64} (hn : n < 2 ^ 31) (kto : K0 ≤ to) (hto : M[to]? = some (lr 10 H)) (hf : M[f]? = some (lr 10 F)) : CT G mi_Fi_square [.ref to, .ref f, .int (nI n)] M (fun r M' => r = none ∧ ∃ F', M' = M.set to (lr 10 F') ∧ ∀ i, i < 10 → F' i = sqI n F i) := by
  refine CT.of (by decide) (Nat.le_of_ble_eq_true rfl) ?_
  show TT G mi_Fi_square 0 [(0, .ref to), (1, .ref f), (2, .int (nI n))] [] M 0 0 _
  refine T_aload_n (v := .ref f) d_Fi_square_0 rfl (Or.inr ⟨_, rfl⟩) ?_
  refine T_iconst (v := (nI 0)) d_Fi_square_1 (by decide) ?_
  refine T_laload d_Fi_square_2 hf (vp_in_nI (by decide) (by decide)) ?_
  refine T_eq (pc' := 3) (st' := [.long (F 0)]) rfl rfl rfl rfl ?_
  refine T_topl (fun w0 ew0 => ?_)
  refine T_lstore_n (L' := [(3, .long w0), (0, .ref to), (1, .ref f), (2, .int (nI n))]) d_Fi_square_3 (by decide) rfl ?_
  refine T_aload_n (v := .ref f) d_Fi_square_4 rfl (Or.inr ⟨_, rfl⟩) ?_
  refine T_iconst (v := (nI 1)) d_Fi_square_5 (by decide) ?_
  refine T_laload d_Fi_square_6 hf (vp_in_nI (by decide) (by decide)) ?_
  refine T_eq (pc' := 7) (st' := [.long (F 1)]) rfl rfl rfl rfl ?_
  refine T_topl (fun w1 ew1 => ?_)
  refine T_lstore (L' := [(5, .long w1), (3, .long w0), (0, .ref to), (1, .ref f), (2, .int (nI n))]) d_Fi_square_7 (by decide) rfl ?_
  refine T_aload_n (v := .ref f) d_Fi_square_9 rfl (Or.inr ⟨_, rfl⟩) ?_
  refine T_iconst (v := (nI 2)) d_Fi_square_10 (by decide) ?_
  refine T_laload d_Fi_square_11 hf (vp_in_nI (by decide) (by decide)) ?_
  refine T_eq (pc' := 12) (st' := [.long (F 2)]) rfl rfl rfl rfl ?_
  refine T_topl (fun w2 ew2 => ?_)
  refine T_lstore (L' := [(7, .long w2), (5, .long w1), (3, .long w0), (0, .ref to), (1, .ref f), (2, .int (nI n))]) d_Fi_square_12 (by decide) rfl ?_
  refine T_aload_n (v := .ref f) d_Fi_square_14 rfl (Or.inr ⟨_, rfl⟩) ?_
  refine T_iconst (v := (nI 3)) d_Fi_square_15 (by decide) ?_
  refine T_laload d_Fi_square_16 hf (vp_in_nI (by decide) (by decide)) ?_
  refine T_eq (pc' := 17) (st' := [.long (F 3)]) rfl rfl rfl rfl ?_
  refine T_topl (fun w3 ew3 => ?_)
  refine T_lstore (L' := [(9, .long w3), (7, .long w2), (5, .long w1), (3, .long w0), (0, .ref to), (1, .ref f), (2, .int (nI n))]) d_Fi_square_17 (by decide) rfl ?_
  refine T_aload_n (v := .ref f) d_Fi_square_19 rfl (Or.inr ⟨_, rfl⟩) ?_
  refine T_iconst (v := (nI 4)) d_Fi_square_20 (by decide) ?_
  refine T_laload d_Fi_square_21 hf (vp_in_nI (by decide) (by decide)) ?_
  refine T_eq (pc' := 22) (st' := [.long (F 4)]) rfl rfl rfl rfl ?_
  refine T_topl (fun w4 ew4 => ?_)
  refine T_lstore (L' := [(11, .long w4), (9, .long w3), (7, .long w2), (5, .long w1), (3, .long w0), (0, .ref to), (1, .ref f), (2, .int (nI n))]) d_Fi_square_22 (by decide) rfl ?_
  refine T_aload_n (v := .ref f) d_Fi_square_24 rfl (Or.inr ⟨_, rfl⟩) ?_
  refine T_iconst (v := (nI 5)) d_Fi_square_25 (by decide) ?_
  refine T_laload d_Fi_square_26 hf (vp_in_nI (by decide) (by decide)) ?_
  refine T_eq (pc' := 27) (st' := [.long (F 5)]) rfl rfl rfl rfl ?_
  refine T_topl (fun w5 ew5 => ?_)
  refine T_lstore (L' := [(13, .long w5), (11, .long w4), (9, .long w3), (7, .long w2), (5, .long w1), (3, .long w0), (0, .ref to), (1, .ref f), (2, .int (nI n))]) d_Fi_square_27 (by decide) rfl ?_
  refine T_aload_n (v := .ref f) d_Fi_square_29 rfl (Or.inr ⟨_, rfl⟩) ?_
  refine T_bipush (v := (nI 6)) d_Fi_square_30 (by decide) ?_
  refine T_laload d_Fi_square_32 hf (vp_in_nI (by decide) (by decide)) ?_
  refine T_eq (pc' := 33) (st' := [.long (F 6)]) rfl rfl rfl rfl ?_
  refine T_topl (fun w6 ew6 => ?_)
  refine T_lstore (L' := [(15, .long w6), (13, .long w5), (11, .long w4), (9, .long w3), (7, .long w2), (5, .long w1), (3, .long w0), (0, .ref to), (1, .ref f), (2, .int (nI n))]) d_Fi_square_33 (by decide) rfl ?_
  refine T_aload_n (v := .ref f) d_Fi_square_35 rfl (Or.inr ⟨_, rfl⟩) ?_
  refine T_bipush (v := (nI 7)) d_Fi_square_36 (by decide) ?_
  refine T_laload d_Fi_square_38 hf (vp_in_nI (by decide) (by decide)) ?_
  refine T_eq (pc' := 39) (st' := [.long (F 7)]) rfl rfl rfl rfl ?_
  refine T_topl (fun w7 ew7 => ?_)
  refine T_lstore (L' := [(17, .long w7), (15, .long w6), (13, .long w5), (11, .long w4), (9, .long w3), (7, .long w2), (5, .long w1), (3, .long w0), (0, .ref to), (1, .ref f), (2, .int (nI n))]) d_Fi_square_39 (by decide) rfl ?_
  refine T_aload_n (v := .ref f) d_Fi_square_41 rfl (Or.inr ⟨_, rfl⟩) ?_
  refine T_bipush (v := (nI 8)) d_Fi_square_42 (by decide) ?_
  refine T_laload d_Fi_square_44 hf (vp_in_nI (by decide) (by decide)) ?_
  refine T_eq (pc' := 45) (st' := [.long (F 8)]) rfl rfl rfl rfl ?_
  refine T_topl (fun w8 ew8 => ?_)
  refine T_lstore (L' := [(19, .long w8), (17, .long w7), (15, .long w6), (13, .long w5), (11, .long w4), (9, .long w3), (7, .long w2), (5, .long w1), (3, .long w0), (0, .ref to), (1, .ref f), (2, .int (nI n))]) d_Fi_square_45 (by decide) rfl ?_
  refine T_aload_n (v := .ref f) d_Fi_square_47 rfl (Or.inr ⟨_, rfl⟩) ?_
  refine T_bipush (v := (nI 9)) d_Fi_square_48 (by decide) ?_
  refine T_laload d_Fi_square_50 hf (vp_in_nI (by decide) (by decide)) ?_
  refine T_eq (pc' := 51) (st' := [.long (F 9)]) rfl rfl rfl rfl ?_
  refine T_topl (fun w9 ew9 => ?_)
  refine T_lstore (L' := [(21, .long w9), (19, .long w8), (17, .long w7), (15, .long w6), (13, .long w5), (11, .long w4), (9, .long w3), (7, .long w2), (5, .long w1), (3, .long w0), (0, .ref to), (1, .ref f), (2, .int (nI n))]) d_Fi_square_51 (by decide) rfl ?_
  refine T_iconst (v := nI 0) d_Fi_square_53 (by decide) ?_
  refine T_istore (L' := [(23, .int (nI 0)), (21, .long w9), (19, .long w8), (17, .long w7), (15, .long w6), (13, .long w5), (11, .long w4), (9, .long w3), (7, .long w2), (5, .long w1), (3, .long w0), (0, .ref to), (1, .ref f), (2, .int (nI n))]) d_Fi_square_54 (by decide) rfl ?_
  refine T_sub (L' := [(23, .int (nI 0)), (3, .long w0), (5, .long w1), (7, .long w2), (9, .long w3), (11, .long w4), (13, .long w5), (15, .long w6), (17, .long w7), (19, .long w8), (21, .long w9), (0, .ref to), (1, .ref f), (2, .int (nI n))]) (fun q hq => ?_) ?_
  · simp only [List.mem_cons, List.not_mem_nil, or_false] at hq ⊢
    rcases hq with rfl | rfl | rfl | rfl | rfl | rfl | rfl | rfl | rfl | rfl | rfl | rfl | rfl | rfl <;> simp
  subst ew0 ew1 ew2 ew3 ew4 ew5 ew6 ew7 ew8 ew9
  exact xl_Fi_square G (F := F) hn kto hto n 0 (by omega)
