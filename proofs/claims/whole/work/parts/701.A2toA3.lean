abbrev lr (n : Nat) (f : Nat → Int64) : va_E := .inl (0, n, .inr (.inl f))
theorem X_last {G : GX} {mi : MI} {pc : Nat} {L : List (Nat × Value)} {st : List Value} {M : List va_E} {kc ks : Nat} {Q : Option Value → List va_E → Prop} {a n k : Nat} {f : Nat → Int64} {x : Int64} (hd : decode (mC mi) pc = .ok (.lastore, 1)) (ha : K0 ≤ a) (hk : k < n) (hn : n < 2 ^ 31) (hl : a < M.length) (kk : TT G mi (pc + 1) L st (M.set a (lr n (vp_updL f k x))) kc ks Q) : TT G mi pc L (.long x :: .int (nI k) :: .ref a :: st) (M.set a (lr n f)) kc ks Q := by
  refine T_lastore hd ha (List.getElem?_set_self hl) (vp_in_nI hk hn) ?_ kk
  rw [List.set_set, nI_clamp (by omega)]
theorem X_same {M : List va_E} {a : Nat} {e : va_E} (h : M[a]? = some e) : M = M.set a e := by
  obtain ⟨h1, h2⟩ := List.getElem?_eq_some_iff.mp h
  rw [← h2, List.set_getElem_self]
theorem X_len {M : List va_E} {a : Nat} {e : va_E} (h : M[a]? = some e) : a < M.length := (List.getElem?_eq_some_iff.mp h).1
set_option maxRecDepth 100000 in
set_option maxHeartbeats 4000000 in
theorem x_Fi_multiply (G : GX) {M : List va_E} {to f g : Nat} {H F E : Nat → Int64} (kto : K0 ≤ to) (hto : M[to]? = some (lr 10 H)) (hf : M[f]? = some (lr 10 F)) (hg : M[g]? = some (lr 10 E)) : CT G mi_Fi_multiply [.ref to, .ref f, .ref g] M (fun r M' => r = none ∧ ∃ F', M' = M.set to (lr 10 F') ∧ ∀ i, i < 10 → F' i = mulW F E i) := by
  refine CT.of (by decide) (Nat.le_of_ble_eq_true rfl) ?_
  have hlto := X_len hto
  show TT G mi_Fi_multiply 0 [(0, .ref to), (1, .ref f), (2, .ref g)] [] M 0 0 _
  refine T_aload_n (v := .ref f) d_Fi_multiply_0 rfl (Or.inr ⟨_, rfl⟩) ?_
  refine T_iconst (v := (nI 0)) d_Fi_multiply_1 (by decide) ?_
  refine T_laload d_Fi_multiply_2 hf (vp_in_nI (by decide) (by decide)) ?_
  refine T_eq (pc' := 3) (st' := [.long (F 0)]) rfl rfl rfl rfl ?_
  refine T_topl (fun w0 ew0 => ?_)
  refine T_lstore_n (L' := [(3, .long w0), (0, .ref to), (1, .ref f), (2, .ref g)]) d_Fi_multiply_3 (by decide) rfl ?_
  refine T_aload_n (v := .ref f) d_Fi_multiply_4 rfl (Or.inr ⟨_, rfl⟩) ?_
  refine T_iconst (v := (nI 1)) d_Fi_multiply_5 (by decide) ?_
  refine T_laload d_Fi_multiply_6 hf (vp_in_nI (by decide) (by decide)) ?_
  refine T_eq (pc' := 7) (st' := [.long (F 1)]) rfl rfl rfl rfl ?_
  refine T_topl (fun w1 ew1 => ?_)
  refine T_lstore (L' := [(5, .long w1), (3, .long w0), (0, .ref to), (1, .ref f), (2, .ref g)]) d_Fi_multiply_7 (by decide) rfl ?_
  refine T_aload_n (v := .ref f) d_Fi_multiply_9 rfl (Or.inr ⟨_, rfl⟩) ?_
  refine T_iconst (v := (nI 2)) d_Fi_multiply_10 (by decide) ?_
  refine T_laload d_Fi_multiply_11 hf (vp_in_nI (by decide) (by decide)) ?_
  refine T_eq (pc' := 12) (st' := [.long (F 2)]) rfl rfl rfl rfl ?_
  refine T_topl (fun w2 ew2 => ?_)
  refine T_lstore (L' := [(7, .long w2), (5, .long w1), (3, .long w0), (0, .ref to), (1, .ref f), (2, .ref g)]) d_Fi_multiply_12 (by decide) rfl ?_
  refine T_aload_n (v := .ref f) d_Fi_multiply_14 rfl (Or.inr ⟨_, rfl⟩) ?_
  refine T_iconst (v := (nI 3)) d_Fi_multiply_15 (by decide) ?_
  refine T_laload d_Fi_multiply_16 hf (vp_in_nI (by decide) (by decide)) ?_
  refine T_eq (pc' := 17) (st' := [.long (F 3)]) rfl rfl rfl rfl ?_
  refine T_topl (fun w3 ew3 => ?_)
  refine T_lstore (L' := [(9, .long w3), (7, .long w2), (5, .long w1), (3, .long w0), (0, .ref to), (1, .ref f), (2, .ref g)]) d_Fi_multiply_17 (by decide) rfl ?_
  refine T_aload_n (v := .ref f) d_Fi_multiply_19 rfl (Or.inr ⟨_, rfl⟩) ?_
  refine T_iconst (v := (nI 4)) d_Fi_multiply_20 (by decide) ?_
  refine T_laload d_Fi_multiply_21 hf (vp_in_nI (by decide) (by decide)) ?_
  refine T_eq (pc' := 22) (st' := [.long (F 4)]) rfl rfl rfl rfl ?_
  refine T_topl (fun w4 ew4 => ?_)
  refine T_lstore (L' := [(11, .long w4), (9, .long w3), (7, .long w2), (5, .long w1), (3, .long w0), (0, .ref to), (1, .ref f), (2, .ref g)]) d_Fi_multiply_22 (by decide) rfl ?_
  refine T_aload_n (v := .ref f) d_Fi_multiply_24 rfl (Or.inr ⟨_, rfl⟩) ?_
  refine T_iconst (v := (nI 5)) d_Fi_multiply_25 (by decide) ?_
  refine T_laload d_Fi_multiply_26 hf (vp_in_nI (by decide) (by decide)) ?_
  refine T_eq (pc' := 27) (st' := [.long (F 5)]) rfl rfl rfl rfl ?_
  refine T_topl (fun w5 ew5 => ?_)
  refine T_lstore (L' := [(13, .long w5), (11, .long w4), (9, .long w3), (7, .long w2), (5, .long w1), (3, .long w0), (0, .ref to), (1, .ref f), (2, .ref g)]) d_Fi_multiply_27 (by decide) rfl ?_
  refine T_aload_n (v := .ref f) d_Fi_multiply_29 rfl (Or.inr ⟨_, rfl⟩) ?_
  refine T_bipush (v := (nI 6)) d_Fi_multiply_30 (by decide) ?_
  refine T_laload d_Fi_multiply_32 hf (vp_in_nI (by decide) (by decide)) ?_
  refine T_eq (pc' := 33) (st' := [.long (F 6)]) rfl rfl rfl rfl ?_
  refine T_topl (fun w6 ew6 => ?_)
  refine T_lstore (L' := [(15, .long w6), (13, .long w5), (11, .long w4), (9, .long w3), (7, .long w2), (5, .long w1), (3, .long w0), (0, .ref to), (1, .ref f), (2, .ref g)]) d_Fi_multiply_33 (by decide) rfl ?_
  refine T_aload_n (v := .ref f) d_Fi_multiply_35 rfl (Or.inr ⟨_, rfl⟩) ?_
  refine T_bipush (v := (nI 7)) d_Fi_multiply_36 (by decide) ?_
  refine T_laload d_Fi_multiply_38 hf (vp_in_nI (by decide) (by decide)) ?_
  refine T_eq (pc' := 39) (st' := [.long (F 7)]) rfl rfl rfl rfl ?_
  refine T_topl (fun w7 ew7 => ?_)
  refine T_lstore (L' := [(17, .long w7), (15, .long w6), (13, .long w5), (11, .long w4), (9, .long w3), (7, .long w2), (5, .long w1), (3, .long w0), (0, .ref to), (1, .ref f), (2, .ref g)]) d_Fi_multiply_39 (by decide) rfl ?_
  refine T_aload_n (v := .ref f) d_Fi_multiply_41 rfl (Or.inr ⟨_, rfl⟩) ?_
  refine T_bipush (v := (nI 8)) d_Fi_multiply_42 (by decide) ?_
  refine T_laload d_Fi_multiply_44 hf (vp_in_nI (by decide) (by decide)) ?_
  refine T_eq (pc' := 45) (st' := [.long (F 8)]) rfl rfl rfl rfl ?_
  refine T_topl (fun w8 ew8 => ?_)
  refine T_lstore (L' := [(19, .long w8), (17, .long w7), (15, .long w6), (13, .long w5), (11, .long w4), (9, .long w3), (7, .long w2), (5, .long w1), (3, .long w0), (0, .ref to), (1, .ref f), (2, .ref g)]) d_Fi_multiply_45 (by decide) rfl ?_
  refine T_aload_n (v := .ref f) d_Fi_multiply_47 rfl (Or.inr ⟨_, rfl⟩) ?_
  refine T_bipush (v := (nI 9)) d_Fi_multiply_48 (by decide) ?_
  refine T_laload d_Fi_multiply_50 hf (vp_in_nI (by decide) (by decide)) ?_
  refine T_eq (pc' := 51) (st' := [.long (F 9)]) rfl rfl rfl rfl ?_
  refine T_topl (fun w9 ew9 => ?_)
  refine T_lstore (L' := [(21, .long w9), (19, .long w8), (17, .long w7), (15, .long w6), (13, .long w5), (11, .long w4), (9, .long w3), (7, .long w2), (5, .long w1), (3, .long w0), (0, .ref to), (1, .ref f), (2, .ref g)]) d_Fi_multiply_51 (by decide) rfl ?_
  refine T_aload_n (v := .ref g) d_Fi_multiply_53 rfl (Or.inr ⟨_, rfl⟩) ?_
  refine T_iconst (v := (nI 0)) d_Fi_multiply_54 (by decide) ?_
  refine T_laload d_Fi_multiply_55 hg (vp_in_nI (by decide) (by decide)) ?_
  refine T_eq (pc' := 56) (st' := [.long (E 0)]) rfl rfl rfl rfl ?_
  refine T_topl (fun w10 ew10 => ?_)
  refine T_lstore (L' := [(23, .long w10), (21, .long w9), (19, .long w8), (17, .long w7), (15, .long w6), (13, .long w5), (11, .long w4), (9, .long w3), (7, .long w2), (5, .long w1), (3, .long w0), (0, .ref to), (1, .ref f), (2, .ref g)]) d_Fi_multiply_56 (by decide) rfl ?_
  refine T_aload_n (v := .ref g) d_Fi_multiply_58 rfl (Or.inr ⟨_, rfl⟩) ?_
  refine T_iconst (v := (nI 1)) d_Fi_multiply_59 (by decide) ?_
  refine T_laload d_Fi_multiply_60 hg (vp_in_nI (by decide) (by decide)) ?_
  refine T_eq (pc' := 61) (st' := [.long (E 1)]) rfl rfl rfl rfl ?_
  refine T_topl (fun w11 ew11 => ?_)
  refine T_lstore (L' := [(25, .long w11), (23, .long w10), (21, .long w9), (19, .long w8), (17, .long w7), (15, .long w6), (13, .long w5), (11, .long w4), (9, .long w3), (7, .long w2), (5, .long w1), (3, .long w0), (0, .ref to), (1, .ref f), (2, .ref g)]) d_Fi_multiply_61 (by decide) rfl ?_
  refine T_aload_n (v := .ref g) d_Fi_multiply_63 rfl (Or.inr ⟨_, rfl⟩) ?_
  refine T_iconst (v := (nI 2)) d_Fi_multiply_64 (by decide) ?_
  refine T_laload d_Fi_multiply_65 hg (vp_in_nI (by decide) (by decide)) ?_
  refine T_eq (pc' := 66) (st' := [.long (E 2)]) rfl rfl rfl rfl ?_
  refine T_topl (fun w12 ew12 => ?_)
  refine T_lstore (L' := [(27, .long w12), (25, .long w11), (23, .long w10), (21, .long w9), (19, .long w8), (17, .long w7), (15, .long w6), (13, .long w5), (11, .long w4), (9, .long w3), (7, .long w2), (5, .long w1), (3, .long w0), (0, .ref to), (1, .ref f), (2, .ref g)]) d_Fi_multiply_66 (by decide) rfl ?_
  refine T_aload_n (v := .ref g) d_Fi_multiply_68 rfl (Or.inr ⟨_, rfl⟩) ?_
  refine T_iconst (v := (nI 3)) d_Fi_multiply_69 (by decide) ?_
  refine T_laload d_Fi_multiply_70 hg (vp_in_nI (by decide) (by decide)) ?_
  refine T_eq (pc' := 71) (st' := [.long (E 3)]) rfl rfl rfl rfl ?_
  refine T_topl (fun w13 ew13 => ?_)
  refine T_lstore (L' := [(29, .long w13), (27, .long w12), (25, .long w11), (23, .long w10), (21, .long w9), (19, .long w8), (17, .long w7), (15, .long w6), (13, .long w5), (11, .long w4), (9, .long w3), (7, .long w2), (5, .long w1), (3, .long w0), (0, .ref to), (1, .ref f), (2, .ref g)]) d_Fi_multiply_71 (by decide) rfl ?_
  refine T_aload_n (v := .ref g) d_Fi_multiply_73 rfl (Or.inr ⟨_, rfl⟩) ?_
  refine T_iconst (v := (nI 4)) d_Fi_multiply_74 (by decide) ?_
  refine T_laload d_Fi_multiply_75 hg (vp_in_nI (by decide) (by decide)) ?_
  refine T_eq (pc' := 76) (st' := [.long (E 4)]) rfl rfl rfl rfl ?_
  refine T_topl (fun w14 ew14 => ?_)
  refine T_lstore (L' := [(31, .long w14), (29, .long w13), (27, .long w12), (25, .long w11), (23, .long w10), (21, .long w9), (19, .long w8), (17, .long w7), (15, .long w6), (13, .long w5), (11, .long w4), (9, .long w3), (7, .long w2), (5, .long w1), (3, .long w0), (0, .ref to), (1, .ref f), (2, .ref g)]) d_Fi_multiply_76 (by decide) rfl ?_
  refine T_aload_n (v := .ref g) d_Fi_multiply_78 rfl (Or.inr ⟨_, rfl⟩) ?_
  refine T_iconst (v := (nI 5)) d_Fi_multiply_79 (by decide) ?_
  refine T_laload d_Fi_multiply_80 hg (vp_in_nI (by decide) (by decide)) ?_
  refine T_eq (pc' := 81) (st' := [.long (E 5)]) rfl rfl rfl rfl ?_
  refine T_topl (fun w15 ew15 => ?_)
  refine T_lstore (L' := [(33, .long w15), (31, .long w14), (29, .long w13), (27, .long w12), (25, .long w11), (23, .long w10), (21, .long w9), (19, .long w8), (17, .long w7), (15, .long w6), (13, .long w5), (11, .long w4), (9, .long w3), (7, .long w2), (5, .long w1), (3, .long w0), (0, .ref to), (1, .ref f), (2, .ref g)]) d_Fi_multiply_81 (by decide) rfl ?_
  refine T_aload_n (v := .ref g) d_Fi_multiply_83 rfl (Or.inr ⟨_, rfl⟩) ?_
  refine T_bipush (v := (nI 6)) d_Fi_multiply_84 (by decide) ?_
  refine T_laload d_Fi_multiply_86 hg (vp_in_nI (by decide) (by decide)) ?_
  refine T_eq (pc' := 87) (st' := [.long (E 6)]) rfl rfl rfl rfl ?_
  refine T_topl (fun w16 ew16 => ?_)
  refine T_lstore (L' := [(35, .long w16), (33, .long w15), (31, .long w14), (29, .long w13), (27, .long w12), (25, .long w11), (23, .long w10), (21, .long w9), (19, .long w8), (17, .long w7), (15, .long w6), (13, .long w5), (11, .long w4), (9, .long w3), (7, .long w2), (5, .long w1), (3, .long w0), (0, .ref to), (1, .ref f), (2, .ref g)]) d_Fi_multiply_87 (by decide) rfl ?_
  refine T_aload_n (v := .ref g) d_Fi_multiply_89 rfl (Or.inr ⟨_, rfl⟩) ?_
  refine T_bipush (v := (nI 7)) d_Fi_multiply_90 (by decide) ?_
  refine T_laload d_Fi_multiply_92 hg (vp_in_nI (by decide) (by decide)) ?_
  refine T_eq (pc' := 93) (st' := [.long (E 7)]) rfl rfl rfl rfl ?_
  refine T_topl (fun w17 ew17 => ?_)
  refine T_lstore (L' := [(37, .long w17), (35, .long w16), (33, .long w15), (31, .long w14), (29, .long w13), (27, .long w12), (25, .long w11), (23, .long w10), (21, .long w9), (19, .long w8), (17, .long w7), (15, .long w6), (13, .long w5), (11, .long w4), (9, .long w3), (7, .long w2), (5, .long w1), (3, .long w0), (0, .ref to), (1, .ref f), (2, .ref g)]) d_Fi_multiply_93 (by decide) rfl ?_
  refine T_aload_n (v := .ref g) d_Fi_multiply_95 rfl (Or.inr ⟨_, rfl⟩) ?_
  refine T_bipush (v := (nI 8)) d_Fi_multiply_96 (by decide) ?_
  refine T_laload d_Fi_multiply_98 hg (vp_in_nI (by decide) (by decide)) ?_
  refine T_eq (pc' := 99) (st' := [.long (E 8)]) rfl rfl rfl rfl ?_
  refine T_topl (fun w18 ew18 => ?_)
  refine T_lstore (L' := [(39, .long w18), (37, .long w17), (35, .long w16), (33, .long w15), (31, .long w14), (29, .long w13), (27, .long w12), (25, .long w11), (23, .long w10), (21, .long w9), (19, .long w8), (17, .long w7), (15, .long w6), (13, .long w5), (11, .long w4), (9, .long w3), (7, .long w2), (5, .long w1), (3, .long w0), (0, .ref to), (1, .ref f), (2, .ref g)]) d_Fi_multiply_99 (by decide) rfl ?_
  refine T_aload_n (v := .ref g) d_Fi_multiply_101 rfl (Or.inr ⟨_, rfl⟩) ?_
  refine T_bipush (v := (nI 9)) d_Fi_multiply_102 (by decide) ?_
  refine T_laload d_Fi_multiply_104 hg (vp_in_nI (by decide) (by decide)) ?_
  refine T_eq (pc' := 105) (st' := [.long (E 9)]) rfl rfl rfl rfl ?_
  refine T_topl (fun w19 ew19 => ?_)
  refine T_lstore (L' := [(41, .long w19), (39, .long w18), (37, .long w17), (35, .long w16), (33, .long w15), (31, .long w14), (29, .long w13), (27, .long w12), (25, .long w11), (23, .long w10), (21, .long w9), (19, .long w8), (17, .long w7), (15, .long w6), (13, .long w5), (11, .long w4), (9, .long w3), (7, .long w2), (5, .long w1), (3, .long w0), (0, .ref to), (1, .ref f), (2, .ref g)]) d_Fi_multiply_105 (by decide) rfl ?_
  refine T_ldc2 d_Fi_multiply_107 kJ_Fi_31 ?_
  refine T_lload d_Fi_multiply_110 rfl ?_
  refine T_lmul d_Fi_multiply_112 ?_
  refine T_topl (fun w20 ew20 => ?_)
  refine T_lstore (L' := [(43, .long w20), (41, .long w19), (39, .long w18), (37, .long w17), (35, .long w16), (33, .long w15), (31, .long w14), (29, .long w13), (27, .long w12), (25, .long w11), (23, .long w10), (21, .long w9), (19, .long w8), (17, .long w7), (15, .long w6), (13, .long w5), (11, .long w4), (9, .long w3), (7, .long w2), (5, .long w1), (3, .long w0), (0, .ref to), (1, .ref f), (2, .ref g)]) d_Fi_multiply_113 (by decide) rfl ?_
  refine T_ldc2 d_Fi_multiply_115 kJ_Fi_31 ?_
  refine T_lload d_Fi_multiply_118 rfl ?_
  refine T_lmul d_Fi_multiply_120 ?_
  refine T_topl (fun w21 ew21 => ?_)
  refine T_lstore (L' := [(45, .long w21), (43, .long w20), (41, .long w19), (39, .long w18), (37, .long w17), (35, .long w16), (33, .long w15), (31, .long w14), (29, .long w13), (27, .long w12), (25, .long w11), (23, .long w10), (21, .long w9), (19, .long w8), (17, .long w7), (15, .long w6), (13, .long w5), (11, .long w4), (9, .long w3), (7, .long w2), (5, .long w1), (3, .long w0), (0, .ref to), (1, .ref f), (2, .ref g)]) d_Fi_multiply_121 (by decide) rfl ?_
  refine T_ldc2 d_Fi_multiply_123 kJ_Fi_31 ?_
  refine T_lload d_Fi_multiply_126 rfl ?_
  refine T_lmul d_Fi_multiply_128 ?_
  refine T_topl (fun w22 ew22 => ?_)
  refine T_lstore (L' := [(47, .long w22), (45, .long w21), (43, .long w20), (41, .long w19), (39, .long w18), (37, .long w17), (35, .long w16), (33, .long w15), (31, .long w14), (29, .long w13), (27, .long w12), (25, .long w11), (23, .long w10), (21, .long w9), (19, .long w8), (17, .long w7), (15, .long w6), (13, .long w5), (11, .long w4), (9, .long w3), (7, .long w2), (5, .long w1), (3, .long w0), (0, .ref to), (1, .ref f), (2, .ref g)]) d_Fi_multiply_129 (by decide) rfl ?_
  refine T_ldc2 d_Fi_multiply_131 kJ_Fi_31 ?_
  refine T_lload d_Fi_multiply_134 rfl ?_
  refine T_lmul d_Fi_multiply_136 ?_
  refine T_topl (fun w23 ew23 => ?_)
  refine T_lstore (L' := [(49, .long w23), (47, .long w22), (45, .long w21), (43, .long w20), (41, .long w19), (39, .long w18), (37, .long w17), (35, .long w16), (33, .long w15), (31, .long w14), (29, .long w13), (27, .long w12), (25, .long w11), (23, .long w10), (21, .long w9), (19, .long w8), (17, .long w7), (15, .long w6), (13, .long w5), (11, .long w4), (9, .long w3), (7, .long w2), (5, .long w1), (3, .long w0), (0, .ref to), (1, .ref f), (2, .ref g)]) d_Fi_multiply_137 (by decide) rfl ?_
  refine T_ldc2 d_Fi_multiply_139 kJ_Fi_31 ?_
  refine T_lload d_Fi_multiply_142 rfl ?_
  refine T_lmul d_Fi_multiply_144 ?_
  refine T_topl (fun w24 ew24 => ?_)
  refine T_lstore (L' := [(51, .long w24), (49, .long w23), (47, .long w22), (45, .long w21), (43, .long w20), (41, .long w19), (39, .long w18), (37, .long w17), (35, .long w16), (33, .long w15), (31, .long w14), (29, .long w13), (27, .long w12), (25, .long w11), (23, .long w10), (21, .long w9), (19, .long w8), (17, .long w7), (15, .long w6), (13, .long w5), (11, .long w4), (9, .long w3), (7, .long w2), (5, .long w1), (3, .long w0), (0, .ref to), (1, .ref f), (2, .ref g)]) d_Fi_multiply_145 (by decide) rfl ?_
  refine T_ldc2 d_Fi_multiply_147 kJ_Fi_31 ?_
  refine T_lload d_Fi_multiply_150 rfl ?_
  refine T_lmul d_Fi_multiply_152 ?_
  refine T_topl (fun w25 ew25 => ?_)
  refine T_lstore (L' := [(53, .long w25), (51, .long w24), (49, .long w23), (47, .long w22), (45, .long w21), (43, .long w20), (41, .long w19), (39, .long w18), (37, .long w17), (35, .long w16), (33, .long w15), (31, .long w14), (29, .long w13), (27, .long w12), (25, .long w11), (23, .long w10), (21, .long w9), (19, .long w8), (17, .long w7), (15, .long w6), (13, .long w5), (11, .long w4), (9, .long w3), (7, .long w2), (5, .long w1), (3, .long w0), (0, .ref to), (1, .ref f), (2, .ref g)]) d_Fi_multiply_153 (by decide) rfl ?_
  refine T_ldc2 d_Fi_multiply_155 kJ_Fi_31 ?_
  refine T_lload d_Fi_multiply_158 rfl ?_
  refine T_lmul d_Fi_multiply_160 ?_
  refine T_topl (fun w26 ew26 => ?_)
  refine T_lstore (L' := [(55, .long w26), (53, .long w25), (51, .long w24), (49, .long w23), (47, .long w22), (45, .long w21), (43, .long w20), (41, .long w19), (39, .long w18), (37, .long w17), (35, .long w16), (33, .long w15), (31, .long w14), (29, .long w13), (27, .long w12), (25, .long w11), (23, .long w10), (21, .long w9), (19, .long w8), (17, .long w7), (15, .long w6), (13, .long w5), (11, .long w4), (9, .long w3), (7, .long w2), (5, .long w1), (3, .long w0), (0, .ref to), (1, .ref f), (2, .ref g)]) d_Fi_multiply_161 (by decide) rfl ?_
  refine T_ldc2 d_Fi_multiply_163 kJ_Fi_31 ?_
  refine T_lload d_Fi_multiply_166 rfl ?_
  refine T_lmul d_Fi_multiply_168 ?_
  refine T_topl (fun w27 ew27 => ?_)
  refine T_lstore (L' := [(57, .long w27), (55, .long w26), (53, .long w25), (51, .long w24), (49, .long w23), (47, .long w22), (45, .long w21), (43, .long w20), (41, .long w19), (39, .long w18), (37, .long w17), (35, .long w16), (33, .long w15), (31, .long w14), (29, .long w13), (27, .long w12), (25, .long w11), (23, .long w10), (21, .long w9), (19, .long w8), (17, .long w7), (15, .long w6), (13, .long w5), (11, .long w4), (9, .long w3), (7, .long w2), (5, .long w1), (3, .long w0), (0, .ref to), (1, .ref f), (2, .ref g)]) d_Fi_multiply_169 (by decide) rfl ?_
  refine T_ldc2 d_Fi_multiply_171 kJ_Fi_31 ?_
  refine T_lload d_Fi_multiply_174 rfl ?_
  refine T_lmul d_Fi_multiply_176 ?_
  refine T_topl (fun w28 ew28 => ?_)
  refine T_lstore (L' := [(59, .long w28), (57, .long w27), (55, .long w26), (53, .long w25), (51, .long w24), (49, .long w23), (47, .long w22), (45, .long w21), (43, .long w20), (41, .long w19), (39, .long w18), (37, .long w17), (35, .long w16), (33, .long w15), (31, .long w14), (29, .long w13), (27, .long w12), (25, .long w11), (23, .long w10), (21, .long w9), (19, .long w8), (17, .long w7), (15, .long w6), (13, .long w5), (11, .long w4), (9, .long w3), (7, .long w2), (5, .long w1), (3, .long w0), (0, .ref to), (1, .ref f), (2, .ref g)]) d_Fi_multiply_177 (by decide) rfl ?_
  refine T_ldc2 d_Fi_multiply_179 kJ_Fi_33 ?_
  refine T_lload d_Fi_multiply_182 rfl ?_
  refine T_lmul d_Fi_multiply_184 ?_
  refine T_topl (fun w29 ew29 => ?_)
  refine T_lstore (L' := [(61, .long w29), (59, .long w28), (57, .long w27), (55, .long w26), (53, .long w25), (51, .long w24), (49, .long w23), (47, .long w22), (45, .long w21), (43, .long w20), (41, .long w19), (39, .long w18), (37, .long w17), (35, .long w16), (33, .long w15), (31, .long w14), (29, .long w13), (27, .long w12), (25, .long w11), (23, .long w10), (21, .long w9), (19, .long w8), (17, .long w7), (15, .long w6), (13, .long w5), (11, .long w4), (9, .long w3), (7, .long w2), (5, .long w1), (3, .long w0), (0, .ref to), (1, .ref f), (2, .ref g)]) d_Fi_multiply_185 (by decide) rfl ?_
  refine T_ldc2 d_Fi_multiply_187 kJ_Fi_33 ?_
  refine T_lload d_Fi_multiply_190 rfl ?_
  refine T_lmul d_Fi_multiply_192 ?_
  refine T_topl (fun w30 ew30 => ?_)
  refine T_lstore (L' := [(63, .long w30), (61, .long w29), (59, .long w28), (57, .long w27), (55, .long w26), (53, .long w25), (51, .long w24), (49, .long w23), (47, .long w22), (45, .long w21), (43, .long w20), (41, .long w19), (39, .long w18), (37, .long w17), (35, .long w16), (33, .long w15), (31, .long w14), (29, .long w13), (27, .long w12), (25, .long w11), (23, .long w10), (21, .long w9), (19, .long w8), (17, .long w7), (15, .long w6), (13, .long w5), (11, .long w4), (9, .long w3), (7, .long w2), (5, .long w1), (3, .long w0), (0, .ref to), (1, .ref f), (2, .ref g)]) d_Fi_multiply_193 (by decide) rfl ?_
  refine T_ldc2 d_Fi_multiply_195 kJ_Fi_33 ?_
  refine T_lload d_Fi_multiply_198 rfl ?_
  refine T_lmul d_Fi_multiply_200 ?_
  refine T_topl (fun w31 ew31 => ?_)
  refine T_lstore (L' := [(65, .long w31), (63, .long w30), (61, .long w29), (59, .long w28), (57, .long w27), (55, .long w26), (53, .long w25), (51, .long w24), (49, .long w23), (47, .long w22), (45, .long w21), (43, .long w20), (41, .long w19), (39, .long w18), (37, .long w17), (35, .long w16), (33, .long w15), (31, .long w14), (29, .long w13), (27, .long w12), (25, .long w11), (23, .long w10), (21, .long w9), (19, .long w8), (17, .long w7), (15, .long w6), (13, .long w5), (11, .long w4), (9, .long w3), (7, .long w2), (5, .long w1), (3, .long w0), (0, .ref to), (1, .ref f), (2, .ref g)]) d_Fi_multiply_201 (by decide) rfl ?_
  refine T_ldc2 d_Fi_multiply_203 kJ_Fi_33 ?_
  refine T_lload d_Fi_multiply_206 rfl ?_
  refine T_lmul d_Fi_multiply_208 ?_
  refine T_topl (fun w32 ew32 => ?_)
  refine T_lstore (L' := [(67, .long w32), (65, .long w31), (63, .long w30), (61, .long w29), (59, .long w28), (57, .long w27), (55, .long w26), (53, .long w25), (51, .long w24), (49, .long w23), (47, .long w22), (45, .long w21), (43, .long w20), (41, .long w19), (39, .long w18), (37, .long w17), (35, .long w16), (33, .long w15), (31, .long w14), (29, .long w13), (27, .long w12), (25, .long w11), (23, .long w10), (21, .long w9), (19, .long w8), (17, .long w7), (15, .long w6), (13, .long w5), (11, .long w4), (9, .long w3), (7, .long w2), (5, .long w1), (3, .long w0), (0, .ref to), (1, .ref f), (2, .ref g)]) d_Fi_multiply_209 (by decide) rfl ?_
  refine T_ldc2 d_Fi_multiply_211 kJ_Fi_33 ?_
  refine T_lload d_Fi_multiply_214 rfl ?_
  refine T_lmul d_Fi_multiply_216 ?_
  refine T_topl (fun w33 ew33 => ?_)
  refine T_lstore (L' := [(69, .long w33), (67, .long w32), (65, .long w31), (63, .long w30), (61, .long w29), (59, .long w28), (57, .long w27), (55, .long w26), (53, .long w25), (51, .long w24), (49, .long w23), (47, .long w22), (45, .long w21), (43, .long w20), (41, .long w19), (39, .long w18), (37, .long w17), (35, .long w16), (33, .long w15), (31, .long w14), (29, .long w13), (27, .long w12), (25, .long w11), (23, .long w10), (21, .long w9), (19, .long w8), (17, .long w7), (15, .long w6), (13, .long w5), (11, .long w4), (9, .long w3), (7, .long w2), (5, .long w1), (3, .long w0), (0, .ref to), (1, .ref f), (2, .ref g)]) d_Fi_multiply_217 (by decide) rfl ?_
  refine T_lload_n d_Fi_multiply_219 rfl ?_
  refine T_lload d_Fi_multiply_220 rfl ?_
  refine T_lmul d_Fi_multiply_222 ?_
  refine T_lload d_Fi_multiply_223 rfl ?_
  refine T_lload d_Fi_multiply_225 rfl ?_
  refine T_lmul d_Fi_multiply_227 ?_
  refine T_ladd d_Fi_multiply_228 ?_
  refine T_lload d_Fi_multiply_229 rfl ?_
  refine T_lload d_Fi_multiply_231 rfl ?_
  refine T_lmul d_Fi_multiply_233 ?_
  refine T_ladd d_Fi_multiply_234 ?_
  refine T_lload d_Fi_multiply_235 rfl ?_
  refine T_lload d_Fi_multiply_237 rfl ?_
  refine T_lmul d_Fi_multiply_239 ?_
  refine T_ladd d_Fi_multiply_240 ?_
  refine T_lload d_Fi_multiply_241 rfl ?_
  refine T_lload d_Fi_multiply_243 rfl ?_
  refine T_lmul d_Fi_multiply_245 ?_
  refine T_ladd d_Fi_multiply_246 ?_
  refine T_lload d_Fi_multiply_247 rfl ?_
  refine T_lload d_Fi_multiply_249 rfl ?_
  refine T_lmul d_Fi_multiply_251 ?_
  refine T_ladd d_Fi_multiply_252 ?_
  refine T_lload d_Fi_multiply_253 rfl ?_
  refine T_lload d_Fi_multiply_255 rfl ?_
  refine T_lmul d_Fi_multiply_257 ?_
  refine T_ladd d_Fi_multiply_258 ?_
  refine T_lload d_Fi_multiply_259 rfl ?_
  refine T_lload d_Fi_multiply_261 rfl ?_
  refine T_lmul d_Fi_multiply_263 ?_
  refine T_ladd d_Fi_multiply_264 ?_
  refine T_lload d_Fi_multiply_265 rfl ?_
  refine T_lload d_Fi_multiply_267 rfl ?_
  refine T_lmul d_Fi_multiply_269 ?_
  refine T_ladd d_Fi_multiply_270 ?_
  refine T_lload d_Fi_multiply_271 rfl ?_
  refine T_lload d_Fi_multiply_273 rfl ?_
  refine T_lmul d_Fi_multiply_275 ?_
  refine T_ladd d_Fi_multiply_276 ?_
  refine T_topl (fun w34 ew34 => ?_)
  refine T_lstore (L' := [(71, .long w34), (69, .long w33), (67, .long w32), (65, .long w31), (63, .long w30), (61, .long w29), (59, .long w28), (57, .long w27), (55, .long w26), (53, .long w25), (51, .long w24), (49, .long w23), (47, .long w22), (45, .long w21), (43, .long w20), (41, .long w19), (39, .long w18), (37, .long w17), (35, .long w16), (33, .long w15), (31, .long w14), (29, .long w13), (27, .long w12), (25, .long w11), (23, .long w10), (21, .long w9), (19, .long w8), (17, .long w7), (15, .long w6), (13, .long w5), (11, .long w4), (9, .long w3), (7, .long w2), (5, .long w1), (3, .long w0), (0, .ref to), (1, .ref f), (2, .ref g)]) d_Fi_multiply_277 (by decide) rfl ?_
  refine T_lload d_Fi_multiply_279 rfl ?_
  refine T_ldc2 d_Fi_multiply_281 kJ_Fi_35 ?_
  refine T_land d_Fi_multiply_284 ?_
  refine T_topl (fun w35 ew35 => ?_)
  refine T_lstore (L' := [(73, .long w35), (71, .long w34), (69, .long w33), (67, .long w32), (65, .long w31), (63, .long w30), (61, .long w29), (59, .long w28), (57, .long w27), (55, .long w26), (53, .long w25), (51, .long w24), (49, .long w23), (47, .long w22), (45, .long w21), (43, .long w20), (41, .long w19), (39, .long w18), (37, .long w17), (35, .long w16), (33, .long w15), (31, .long w14), (29, .long w13), (27, .long w12), (25, .long w11), (23, .long w10), (21, .long w9), (19, .long w8), (17, .long w7), (15, .long w6), (13, .long w5), (11, .long w4), (9, .long w3), (7, .long w2), (5, .long w1), (3, .long w0), (0, .ref to), (1, .ref f), (2, .ref g)]) d_Fi_multiply_285 (by decide) rfl ?_
  refine T_lload d_Fi_multiply_287 rfl ?_
  refine T_bipush (v := (nI 26)) d_Fi_multiply_289 (by decide) ?_
  refine T_lshr d_Fi_multiply_291 ?_
  refine T_lload_n d_Fi_multiply_292 rfl ?_
  refine T_lload d_Fi_multiply_293 rfl ?_
  refine T_lmul d_Fi_multiply_295 ?_
  refine T_ladd d_Fi_multiply_296 ?_
  refine T_lload d_Fi_multiply_297 rfl ?_
  refine T_lload d_Fi_multiply_299 rfl ?_
  refine T_lmul d_Fi_multiply_301 ?_
  refine T_ladd d_Fi_multiply_302 ?_
  refine T_lload d_Fi_multiply_303 rfl ?_
  refine T_lload d_Fi_multiply_305 rfl ?_
  refine T_lmul d_Fi_multiply_307 ?_
  refine T_ladd d_Fi_multiply_308 ?_
  refine T_lload d_Fi_multiply_309 rfl ?_
  refine T_lload d_Fi_multiply_311 rfl ?_
  refine T_lmul d_Fi_multiply_313 ?_
  refine T_ladd d_Fi_multiply_314 ?_
  refine T_lload d_Fi_multiply_315 rfl ?_
  refine T_lload d_Fi_multiply_317 rfl ?_
  refine T_lmul d_Fi_multiply_319 ?_
  refine T_ladd d_Fi_multiply_320 ?_
  refine T_lload d_Fi_multiply_321 rfl ?_
  refine T_lload d_Fi_multiply_323 rfl ?_
  refine T_lmul d_Fi_multiply_325 ?_
  refine T_ladd d_Fi_multiply_326 ?_
  refine T_lload d_Fi_multiply_327 rfl ?_
  refine T_lload d_Fi_multiply_329 rfl ?_
  refine T_lmul d_Fi_multiply_331 ?_
  refine T_ladd d_Fi_multiply_332 ?_
  refine T_lload d_Fi_multiply_333 rfl ?_
  refine T_lload d_Fi_multiply_335 rfl ?_
  refine T_lmul d_Fi_multiply_337 ?_
  refine T_ladd d_Fi_multiply_338 ?_
  refine T_lload d_Fi_multiply_339 rfl ?_
  refine T_lload d_Fi_multiply_341 rfl ?_
  refine T_lmul d_Fi_multiply_343 ?_
  refine T_ladd d_Fi_multiply_344 ?_
  refine T_lload d_Fi_multiply_345 rfl ?_
  refine T_lload d_Fi_multiply_347 rfl ?_
  refine T_lmul d_Fi_multiply_349 ?_
  refine T_ladd d_Fi_multiply_350 ?_
  refine T_topl (fun w36 ew36 => ?_)
  refine T_lstore (L' := [(71, .long w36), (73, .long w35), (69, .long w33), (67, .long w32), (65, .long w31), (63, .long w30), (61, .long w29), (59, .long w28), (57, .long w27), (55, .long w26), (53, .long w25), (51, .long w24), (49, .long w23), (47, .long w22), (45, .long w21), (43, .long w20), (41, .long w19), (39, .long w18), (37, .long w17), (35, .long w16), (33, .long w15), (31, .long w14), (29, .long w13), (27, .long w12), (25, .long w11), (23, .long w10), (21, .long w9), (19, .long w8), (17, .long w7), (15, .long w6), (13, .long w5), (11, .long w4), (9, .long w3), (7, .long w2), (5, .long w1), (3, .long w0), (0, .ref to), (1, .ref f), (2, .ref g)]) d_Fi_multiply_351 (by decide) rfl ?_
  refine T_lload d_Fi_multiply_353 rfl ?_
  refine T_ldc2 d_Fi_multiply_355 kJ_Fi_37 ?_
  refine T_land d_Fi_multiply_358 ?_
  refine T_topl (fun w37 ew37 => ?_)
  refine T_lstore (L' := [(75, .long w37), (71, .long w36), (73, .long w35), (69, .long w33), (67, .long w32), (65, .long w31), (63, .long w30), (61, .long w29), (59, .long w28), (57, .long w27), (55, .long w26), (53, .long w25), (51, .long w24), (49, .long w23), (47, .long w22), (45, .long w21), (43, .long w20), (41, .long w19), (39, .long w18), (37, .long w17), (35, .long w16), (33, .long w15), (31, .long w14), (29, .long w13), (27, .long w12), (25, .long w11), (23, .long w10), (21, .long w9), (19, .long w8), (17, .long w7), (15, .long w6), (13, .long w5), (11, .long w4), (9, .long w3), (7, .long w2), (5, .long w1), (3, .long w0), (0, .ref to), (1, .ref f), (2, .ref g)]) d_Fi_multiply_359 (by decide) rfl ?_
  refine T_lload d_Fi_multiply_361 rfl ?_
  refine T_bipush (v := (nI 25)) d_Fi_multiply_363 (by decide) ?_
  refine T_lshr d_Fi_multiply_365 ?_
  refine T_lload_n d_Fi_multiply_366 rfl ?_
  refine T_lload d_Fi_multiply_367 rfl ?_
  refine T_lmul d_Fi_multiply_369 ?_
  refine T_ladd d_Fi_multiply_370 ?_
  refine T_lload d_Fi_multiply_371 rfl ?_
  refine T_lload d_Fi_multiply_373 rfl ?_
  refine T_lmul d_Fi_multiply_375 ?_
  refine T_ladd d_Fi_multiply_376 ?_
  refine T_lload d_Fi_multiply_377 rfl ?_
  refine T_lload d_Fi_multiply_379 rfl ?_
  refine T_lmul d_Fi_multiply_381 ?_
  refine T_ladd d_Fi_multiply_382 ?_
  refine T_lload d_Fi_multiply_383 rfl ?_
  refine T_lload d_Fi_multiply_385 rfl ?_
  refine T_lmul d_Fi_multiply_387 ?_
  refine T_ladd d_Fi_multiply_388 ?_
  refine T_lload d_Fi_multiply_389 rfl ?_
  refine T_lload d_Fi_multiply_391 rfl ?_
  refine T_lmul d_Fi_multiply_393 ?_
  refine T_ladd d_Fi_multiply_394 ?_
  refine T_lload d_Fi_multiply_395 rfl ?_
  refine T_lload d_Fi_multiply_397 rfl ?_
  refine T_lmul d_Fi_multiply_399 ?_
  refine T_ladd d_Fi_multiply_400 ?_
  refine T_lload d_Fi_multiply_401 rfl ?_
  refine T_lload d_Fi_multiply_403 rfl ?_
  refine T_lmul d_Fi_multiply_405 ?_
  refine T_ladd d_Fi_multiply_406 ?_
  refine T_lload d_Fi_multiply_407 rfl ?_
  refine T_lload d_Fi_multiply_409 rfl ?_
  refine T_lmul d_Fi_multiply_411 ?_
  refine T_ladd d_Fi_multiply_412 ?_
  refine T_lload d_Fi_multiply_413 rfl ?_
  refine T_lload d_Fi_multiply_415 rfl ?_
  refine T_lmul d_Fi_multiply_417 ?_
  refine T_ladd d_Fi_multiply_418 ?_
  refine T_lload d_Fi_multiply_419 rfl ?_
  refine T_lload d_Fi_multiply_421 rfl ?_
  refine T_lmul d_Fi_multiply_423 ?_
  refine T_ladd d_Fi_multiply_424 ?_
  refine T_topl (fun w38 ew38 => ?_)
  refine T_lstore (L' := [(71, .long w38), (75, .long w37), (73, .long w35), (69, .long w33), (67, .long w32), (65, .long w31), (63, .long w30), (61, .long w29), (59, .long w28), (57, .long w27), (55, .long w26), (53, .long w25), (51, .long w24), (49, .long w23), (47, .long w22), (45, .long w21), (43, .long w20), (41, .long w19), (39, .long w18), (37, .long w17), (35, .long w16), (33, .long w15), (31, .long w14), (29, .long w13), (27, .long w12), (25, .long w11), (23, .long w10), (21, .long w9), (19, .long w8), (17, .long w7), (15, .long w6), (13, .long w5), (11, .long w4), (9, .long w3), (7, .long w2), (5, .long w1), (3, .long w0), (0, .ref to), (1, .ref f), (2, .ref g)]) d_Fi_multiply_425 (by decide) rfl ?_
  refine T_eq (M' := M.set to (lr 10 H)) rfl rfl rfl (X_same hto) ?_
  refine T_aload_n (v := .ref to) d_Fi_multiply_427 rfl (Or.inr ⟨_, rfl⟩) ?_
  refine T_iconst (v := (nI 2)) d_Fi_multiply_428 (by decide) ?_
  refine T_lload d_Fi_multiply_429 rfl ?_
  refine T_ldc2 d_Fi_multiply_431 kJ_Fi_35 ?_
  refine T_land d_Fi_multiply_434 ?_
  refine T_topl (fun w39 ew39 => ?_)
  refine X_last (n := 10) (k := 2) d_Fi_multiply_435 kto (by decide) (by decide) hlto ?_
  refine T_lload d_Fi_multiply_436 rfl ?_
  refine T_bipush (v := (nI 26)) d_Fi_multiply_438 (by decide) ?_
  refine T_lshr d_Fi_multiply_440 ?_
  refine T_lload_n d_Fi_multiply_441 rfl ?_
  refine T_lload d_Fi_multiply_442 rfl ?_
  refine T_lmul d_Fi_multiply_444 ?_
  refine T_ladd d_Fi_multiply_445 ?_
  refine T_lload d_Fi_multiply_446 rfl ?_
  refine T_lload d_Fi_multiply_448 rfl ?_
  refine T_lmul d_Fi_multiply_450 ?_
  refine T_ladd d_Fi_multiply_451 ?_
  refine T_lload d_Fi_multiply_452 rfl ?_
  refine T_lload d_Fi_multiply_454 rfl ?_
  refine T_lmul d_Fi_multiply_456 ?_
  refine T_ladd d_Fi_multiply_457 ?_
  refine T_lload d_Fi_multiply_458 rfl ?_
  refine T_lload d_Fi_multiply_460 rfl ?_
  refine T_lmul d_Fi_multiply_462 ?_
  refine T_ladd d_Fi_multiply_463 ?_
  refine T_lload d_Fi_multiply_464 rfl ?_
  refine T_lload d_Fi_multiply_466 rfl ?_
  refine T_lmul d_Fi_multiply_468 ?_
  refine T_ladd d_Fi_multiply_469 ?_
  refine T_lload d_Fi_multiply_470 rfl ?_
  refine T_lload d_Fi_multiply_472 rfl ?_
  refine T_lmul d_Fi_multiply_474 ?_
  refine T_ladd d_Fi_multiply_475 ?_
  refine T_lload d_Fi_multiply_476 rfl ?_
  refine T_lload d_Fi_multiply_478 rfl ?_
  refine T_lmul d_Fi_multiply_480 ?_
  refine T_ladd d_Fi_multiply_481 ?_
  refine T_lload d_Fi_multiply_482 rfl ?_
  refine T_lload d_Fi_multiply_484 rfl ?_
  refine T_lmul d_Fi_multiply_486 ?_
  refine T_ladd d_Fi_multiply_487 ?_
  refine T_lload d_Fi_multiply_488 rfl ?_
  refine T_lload d_Fi_multiply_490 rfl ?_
  refine T_lmul d_Fi_multiply_492 ?_
  refine T_ladd d_Fi_multiply_493 ?_
  refine T_lload d_Fi_multiply_494 rfl ?_
  refine T_lload d_Fi_multiply_496 rfl ?_
  refine T_lmul d_Fi_multiply_498 ?_
  refine T_ladd d_Fi_multiply_499 ?_
  refine T_topl (fun w40 ew40 => ?_)
  refine T_lstore (L' := [(71, .long w40), (75, .long w37), (73, .long w35), (69, .long w33), (67, .long w32), (65, .long w31), (63, .long w30), (61, .long w29), (59, .long w28), (57, .long w27), (55, .long w26), (53, .long w25), (51, .long w24), (49, .long w23), (47, .long w22), (45, .long w21), (43, .long w20), (41, .long w19), (39, .long w18), (37, .long w17), (35, .long w16), (33, .long w15), (31, .long w14), (29, .long w13), (27, .long w12), (25, .long w11), (23, .long w10), (21, .long w9), (19, .long w8), (17, .long w7), (15, .long w6), (13, .long w5), (11, .long w4), (9, .long w3), (7, .long w2), (5, .long w1), (3, .long w0), (0, .ref to), (1, .ref f), (2, .ref g)]) d_Fi_multiply_500 (by decide) rfl ?_
  refine T_aload_n (v := .ref to) d_Fi_multiply_502 rfl (Or.inr ⟨_, rfl⟩) ?_
  refine T_iconst (v := (nI 3)) d_Fi_multiply_503 (by decide) ?_
  refine T_lload d_Fi_multiply_504 rfl ?_
  refine T_ldc2 d_Fi_multiply_506 kJ_Fi_37 ?_
  refine T_land d_Fi_multiply_509 ?_
  refine T_topl (fun w41 ew41 => ?_)
  refine X_last (n := 10) (k := 3) d_Fi_multiply_510 kto (by decide) (by decide) hlto ?_
  refine T_lload d_Fi_multiply_511 rfl ?_
  refine T_bipush (v := (nI 25)) d_Fi_multiply_513 (by decide) ?_
  refine T_lshr d_Fi_multiply_515 ?_
  refine T_lload_n d_Fi_multiply_516 rfl ?_
  refine T_lload d_Fi_multiply_517 rfl ?_
  refine T_lmul d_Fi_multiply_519 ?_
  refine T_ladd d_Fi_multiply_520 ?_
  refine T_lload d_Fi_multiply_521 rfl ?_
  refine T_lload d_Fi_multiply_523 rfl ?_
  refine T_lmul d_Fi_multiply_525 ?_
  refine T_ladd d_Fi_multiply_526 ?_
  refine T_lload d_Fi_multiply_527 rfl ?_
  refine T_lload d_Fi_multiply_529 rfl ?_
  refine T_lmul d_Fi_multiply_531 ?_
  refine T_ladd d_Fi_multiply_532 ?_
  refine T_lload d_Fi_multiply_533 rfl ?_
  refine T_lload d_Fi_multiply_535 rfl ?_
  refine T_lmul d_Fi_multiply_537 ?_
  refine T_ladd d_Fi_multiply_538 ?_
  refine T_lload d_Fi_multiply_539 rfl ?_
  refine T_lload d_Fi_multiply_541 rfl ?_
  refine T_lmul d_Fi_multiply_543 ?_
  refine T_ladd d_Fi_multiply_544 ?_
  refine T_lload d_Fi_multiply_545 rfl ?_
  refine T_lload d_Fi_multiply_547 rfl ?_
  refine T_lmul d_Fi_multiply_549 ?_
  refine T_ladd d_Fi_multiply_550 ?_
  refine T_lload d_Fi_multiply_551 rfl ?_
  refine T_lload d_Fi_multiply_553 rfl ?_
  refine T_lmul d_Fi_multiply_555 ?_
  refine T_ladd d_Fi_multiply_556 ?_
  refine T_lload d_Fi_multiply_557 rfl ?_
  refine T_lload d_Fi_multiply_559 rfl ?_
  refine T_lmul d_Fi_multiply_561 ?_
  refine T_ladd d_Fi_multiply_562 ?_
  refine T_lload d_Fi_multiply_563 rfl ?_
  refine T_lload d_Fi_multiply_565 rfl ?_
  refine T_lmul d_Fi_multiply_567 ?_
  refine T_ladd d_Fi_multiply_568 ?_
  refine T_lload d_Fi_multiply_569 rfl ?_
  refine T_lload d_Fi_multiply_571 rfl ?_
  refine T_lmul d_Fi_multiply_573 ?_
  refine T_ladd d_Fi_multiply_574 ?_
  refine T_topl (fun w42 ew42 => ?_)
  refine T_lstore (L' := [(71, .long w42), (75, .long w37), (73, .long w35), (69, .long w33), (67, .long w32), (65, .long w31), (63, .long w30), (61, .long w29), (59, .long w28), (57, .long w27), (55, .long w26), (53, .long w25), (51, .long w24), (49, .long w23), (47, .long w22), (45, .long w21), (43, .long w20), (41, .long w19), (39, .long w18), (37, .long w17), (35, .long w16), (33, .long w15), (31, .long w14), (29, .long w13), (27, .long w12), (25, .long w11), (23, .long w10), (21, .long w9), (19, .long w8), (17, .long w7), (15, .long w6), (13, .long w5), (11, .long w4), (9, .long w3), (7, .long w2), (5, .long w1), (3, .long w0), (0, .ref to), (1, .ref f), (2, .ref g)]) d_Fi_multiply_575 (by decide) rfl ?_
  refine T_aload_n (v := .ref to) d_Fi_multiply_577 rfl (Or.inr ⟨_, rfl⟩) ?_
  refine T_iconst (v := (nI 4)) d_Fi_multiply_578 (by decide) ?_
  refine T_lload d_Fi_multiply_579 rfl ?_
  refine T_ldc2 d_Fi_multiply_581 kJ_Fi_35 ?_
  refine T_land d_Fi_multiply_584 ?_
  refine T_topl (fun w43 ew43 => ?_)
  refine X_last (n := 10) (k := 4) d_Fi_multiply_585 kto (by decide) (by decide) hlto ?_
  refine T_lload d_Fi_multiply_586 rfl ?_
  refine T_bipush (v := (nI 26)) d_Fi_multiply_588 (by decide) ?_
  refine T_lshr d_Fi_multiply_590 ?_
  refine T_lload_n d_Fi_multiply_591 rfl ?_
  refine T_lload d_Fi_multiply_592 rfl ?_
  refine T_lmul d_Fi_multiply_594 ?_
  refine T_ladd d_Fi_multiply_595 ?_
  refine T_lload d_Fi_multiply_596 rfl ?_
  refine T_lload d_Fi_multiply_598 rfl ?_
  refine T_lmul d_Fi_multiply_600 ?_
  refine T_ladd d_Fi_multiply_601 ?_
  refine T_lload d_Fi_multiply_602 rfl ?_
  refine T_lload d_Fi_multiply_604 rfl ?_
  refine T_lmul d_Fi_multiply_606 ?_
  refine T_ladd d_Fi_multiply_607 ?_
  refine T_lload d_Fi_multiply_608 rfl ?_
  refine T_lload d_Fi_multiply_610 rfl ?_
  refine T_lmul d_Fi_multiply_612 ?_
  refine T_ladd d_Fi_multiply_613 ?_
  refine T_lload d_Fi_multiply_614 rfl ?_
  refine T_lload d_Fi_multiply_616 rfl ?_
  refine T_lmul d_Fi_multiply_618 ?_
  refine T_ladd d_Fi_multiply_619 ?_
  refine T_lload d_Fi_multiply_620 rfl ?_
  refine T_lload d_Fi_multiply_622 rfl ?_
  refine T_lmul d_Fi_multiply_624 ?_
  refine T_ladd d_Fi_multiply_625 ?_
  refine T_lload d_Fi_multiply_626 rfl ?_
  refine T_lload d_Fi_multiply_628 rfl ?_
  refine T_lmul d_Fi_multiply_630 ?_
  refine T_ladd d_Fi_multiply_631 ?_
  refine T_lload d_Fi_multiply_632 rfl ?_
  refine T_lload d_Fi_multiply_634 rfl ?_
  refine T_lmul d_Fi_multiply_636 ?_
  refine T_ladd d_Fi_multiply_637 ?_
  refine T_lload d_Fi_multiply_638 rfl ?_
  refine T_lload d_Fi_multiply_640 rfl ?_
  refine T_lmul d_Fi_multiply_642 ?_
  refine T_ladd d_Fi_multiply_643 ?_
  refine T_lload d_Fi_multiply_644 rfl ?_
  refine T_lload d_Fi_multiply_646 rfl ?_
  refine T_lmul d_Fi_multiply_648 ?_
  refine T_ladd d_Fi_multiply_649 ?_
  refine T_topl (fun w44 ew44 => ?_)
  refine T_lstore (L' := [(71, .long w44), (75, .long w37), (73, .long w35), (69, .long w33), (67, .long w32), (65, .long w31), (63, .long w30), (61, .long w29), (59, .long w28), (57, .long w27), (55, .long w26), (53, .long w25), (51, .long w24), (49, .long w23), (47, .long w22), (45, .long w21), (43, .long w20), (41, .long w19), (39, .long w18), (37, .long w17), (35, .long w16), (33, .long w15), (31, .long w14), (29, .long w13), (27, .long w12), (25, .long w11), (23, .long w10), (21, .long w9), (19, .long w8), (17, .long w7), (15, .long w6), (13, .long w5), (11, .long w4), (9, .long w3), (7, .long w2), (5, .long w1), (3, .long w0), (0, .ref to), (1, .ref f), (2, .ref g)]) d_Fi_multiply_650 (by decide) rfl ?_
  refine T_aload_n (v := .ref to) d_Fi_multiply_652 rfl (Or.inr ⟨_, rfl⟩) ?_
  refine T_iconst (v := (nI 5)) d_Fi_multiply_653 (by decide) ?_
  refine T_lload d_Fi_multiply_654 rfl ?_
  refine T_ldc2 d_Fi_multiply_656 kJ_Fi_37 ?_
  refine T_land d_Fi_multiply_659 ?_
  refine T_topl (fun w45 ew45 => ?_)
  refine X_last (n := 10) (k := 5) d_Fi_multiply_660 kto (by decide) (by decide) hlto ?_
  refine T_lload d_Fi_multiply_661 rfl ?_
  refine T_bipush (v := (nI 25)) d_Fi_multiply_663 (by decide) ?_
  refine T_lshr d_Fi_multiply_665 ?_
  refine T_lload_n d_Fi_multiply_666 rfl ?_
  refine T_lload d_Fi_multiply_667 rfl ?_
  refine T_lmul d_Fi_multiply_669 ?_
  refine T_ladd d_Fi_multiply_670 ?_
  refine T_lload d_Fi_multiply_671 rfl ?_
  refine T_lload d_Fi_multiply_673 rfl ?_
  refine T_lmul d_Fi_multiply_675 ?_
  refine T_ladd d_Fi_multiply_676 ?_
  refine T_lload d_Fi_multiply_677 rfl ?_
  refine T_lload d_Fi_multiply_679 rfl ?_
  refine T_lmul d_Fi_multiply_681 ?_
  refine T_ladd d_Fi_multiply_682 ?_
  refine T_lload d_Fi_multiply_683 rfl ?_
  refine T_lload d_Fi_multiply_685 rfl ?_
  refine T_lmul d_Fi_multiply_687 ?_
  refine T_ladd d_Fi_multiply_688 ?_
  refine T_lload d_Fi_multiply_689 rfl ?_
  refine T_lload d_Fi_multiply_691 rfl ?_
  refine T_lmul d_Fi_multiply_693 ?_
  refine T_ladd d_Fi_multiply_694 ?_
  refine T_lload d_Fi_multiply_695 rfl ?_
  refine T_lload d_Fi_multiply_697 rfl ?_
  refine T_lmul d_Fi_multiply_699 ?_
  refine T_ladd d_Fi_multiply_700 ?_
  refine T_lload d_Fi_multiply_701 rfl ?_
  refine T_lload d_Fi_multiply_703 rfl ?_
  refine T_lmul d_Fi_multiply_705 ?_
  refine T_ladd d_Fi_multiply_706 ?_
  refine T_lload d_Fi_multiply_707 rfl ?_
  refine T_lload d_Fi_multiply_709 rfl ?_
  refine T_lmul d_Fi_multiply_711 ?_
  refine T_ladd d_Fi_multiply_712 ?_
  refine T_lload d_Fi_multiply_713 rfl ?_
  refine T_lload d_Fi_multiply_715 rfl ?_
  refine T_lmul d_Fi_multiply_717 ?_
  refine T_ladd d_Fi_multiply_718 ?_
  refine T_lload d_Fi_multiply_719 rfl ?_
  refine T_lload d_Fi_multiply_721 rfl ?_
  refine T_lmul d_Fi_multiply_723 ?_
  refine T_ladd d_Fi_multiply_724 ?_
  refine T_topl (fun w46 ew46 => ?_)
  refine T_lstore (L' := [(71, .long w46), (75, .long w37), (73, .long w35), (69, .long w33), (67, .long w32), (65, .long w31), (63, .long w30), (61, .long w29), (59, .long w28), (57, .long w27), (55, .long w26), (53, .long w25), (51, .long w24), (49, .long w23), (47, .long w22), (45, .long w21), (43, .long w20), (41, .long w19), (39, .long w18), (37, .long w17), (35, .long w16), (33, .long w15), (31, .long w14), (29, .long w13), (27, .long w12), (25, .long w11), (23, .long w10), (21, .long w9), (19, .long w8), (17, .long w7), (15, .long w6), (13, .long w5), (11, .long w4), (9, .long w3), (7, .long w2), (5, .long w1), (3, .long w0), (0, .ref to), (1, .ref f), (2, .ref g)]) d_Fi_multiply_725 (by decide) rfl ?_
  refine T_aload_n (v := .ref to) d_Fi_multiply_727 rfl (Or.inr ⟨_, rfl⟩) ?_
  refine T_bipush (v := (nI 6)) d_Fi_multiply_728 (by decide) ?_
  refine T_lload d_Fi_multiply_730 rfl ?_
  refine T_ldc2 d_Fi_multiply_732 kJ_Fi_35 ?_
  refine T_land d_Fi_multiply_735 ?_
  refine T_topl (fun w47 ew47 => ?_)
  refine X_last (n := 10) (k := 6) d_Fi_multiply_736 kto (by decide) (by decide) hlto ?_
  refine T_lload d_Fi_multiply_737 rfl ?_
  refine T_bipush (v := (nI 26)) d_Fi_multiply_739 (by decide) ?_
  refine T_lshr d_Fi_multiply_741 ?_
  refine T_lload_n d_Fi_multiply_742 rfl ?_
  refine T_lload d_Fi_multiply_743 rfl ?_
  refine T_lmul d_Fi_multiply_745 ?_
  refine T_ladd d_Fi_multiply_746 ?_
  refine T_lload d_Fi_multiply_747 rfl ?_
  refine T_lload d_Fi_multiply_749 rfl ?_
  refine T_lmul d_Fi_multiply_751 ?_
  refine T_ladd d_Fi_multiply_752 ?_
  refine T_lload d_Fi_multiply_753 rfl ?_
  refine T_lload d_Fi_multiply_755 rfl ?_
  refine T_lmul d_Fi_multiply_757 ?_
  refine T_ladd d_Fi_multiply_758 ?_
  refine T_lload d_Fi_multiply_759 rfl ?_
  refine T_lload d_Fi_multiply_761 rfl ?_
  refine T_lmul d_Fi_multiply_763 ?_
  refine T_ladd d_Fi_multiply_764 ?_
  refine T_lload d_Fi_multiply_765 rfl ?_
  refine T_lload d_Fi_multiply_767 rfl ?_
  refine T_lmul d_Fi_multiply_769 ?_
  refine T_ladd d_Fi_multiply_770 ?_
  refine T_lload d_Fi_multiply_771 rfl ?_
  refine T_lload d_Fi_multiply_773 rfl ?_
  refine T_lmul d_Fi_multiply_775 ?_
  refine T_ladd d_Fi_multiply_776 ?_
  refine T_lload d_Fi_multiply_777 rfl ?_
  refine T_lload d_Fi_multiply_779 rfl ?_
  refine T_lmul d_Fi_multiply_781 ?_
  refine T_ladd d_Fi_multiply_782 ?_
  refine T_lload d_Fi_multiply_783 rfl ?_
  refine T_lload d_Fi_multiply_785 rfl ?_
  refine T_lmul d_Fi_multiply_787 ?_
  refine T_ladd d_Fi_multiply_788 ?_
  refine T_lload d_Fi_multiply_789 rfl ?_
  refine T_lload d_Fi_multiply_791 rfl ?_
  refine T_lmul d_Fi_multiply_793 ?_
  refine T_ladd d_Fi_multiply_794 ?_
  refine T_lload d_Fi_multiply_795 rfl ?_
  refine T_lload d_Fi_multiply_797 rfl ?_
  refine T_lmul d_Fi_multiply_799 ?_
  refine T_ladd d_Fi_multiply_800 ?_
  refine T_topl (fun w48 ew48 => ?_)
  refine T_lstore (L' := [(71, .long w48), (75, .long w37), (73, .long w35), (69, .long w33), (67, .long w32), (65, .long w31), (63, .long w30), (61, .long w29), (59, .long w28), (57, .long w27), (55, .long w26), (53, .long w25), (51, .long w24), (49, .long w23), (47, .long w22), (45, .long w21), (43, .long w20), (41, .long w19), (39, .long w18), (37, .long w17), (35, .long w16), (33, .long w15), (31, .long w14), (29, .long w13), (27, .long w12), (25, .long w11), (23, .long w10), (21, .long w9), (19, .long w8), (17, .long w7), (15, .long w6), (13, .long w5), (11, .long w4), (9, .long w3), (7, .long w2), (5, .long w1), (3, .long w0), (0, .ref to), (1, .ref f), (2, .ref g)]) d_Fi_multiply_801 (by decide) rfl ?_
  refine T_aload_n (v := .ref to) d_Fi_multiply_803 rfl (Or.inr ⟨_, rfl⟩) ?_
  refine T_bipush (v := (nI 7)) d_Fi_multiply_804 (by decide) ?_
  refine T_lload d_Fi_multiply_806 rfl ?_
  refine T_ldc2 d_Fi_multiply_808 kJ_Fi_37 ?_
  refine T_land d_Fi_multiply_811 ?_
  refine T_topl (fun w49 ew49 => ?_)
  refine X_last (n := 10) (k := 7) d_Fi_multiply_812 kto (by decide) (by decide) hlto ?_
  refine T_lload d_Fi_multiply_813 rfl ?_
  refine T_bipush (v := (nI 25)) d_Fi_multiply_815 (by decide) ?_
  refine T_lshr d_Fi_multiply_817 ?_
  refine T_lload_n d_Fi_multiply_818 rfl ?_
  refine T_lload d_Fi_multiply_819 rfl ?_
  refine T_lmul d_Fi_multiply_821 ?_
  refine T_ladd d_Fi_multiply_822 ?_
  refine T_lload d_Fi_multiply_823 rfl ?_
  refine T_lload d_Fi_multiply_825 rfl ?_
  refine T_lmul d_Fi_multiply_827 ?_
  refine T_ladd d_Fi_multiply_828 ?_
  refine T_lload d_Fi_multiply_829 rfl ?_
  refine T_lload d_Fi_multiply_831 rfl ?_
  refine T_lmul d_Fi_multiply_833 ?_
  refine T_ladd d_Fi_multiply_834 ?_
  refine T_lload d_Fi_multiply_835 rfl ?_
  refine T_lload d_Fi_multiply_837 rfl ?_
  refine T_lmul d_Fi_multiply_839 ?_
  refine T_ladd d_Fi_multiply_840 ?_
  refine T_lload d_Fi_multiply_841 rfl ?_
  refine T_lload d_Fi_multiply_843 rfl ?_
  refine T_lmul d_Fi_multiply_845 ?_
  refine T_ladd d_Fi_multiply_846 ?_
  refine T_lload d_Fi_multiply_847 rfl ?_
  refine T_lload d_Fi_multiply_849 rfl ?_
  refine T_lmul d_Fi_multiply_851 ?_
  refine T_ladd d_Fi_multiply_852 ?_
  refine T_lload d_Fi_multiply_853 rfl ?_
  refine T_lload d_Fi_multiply_855 rfl ?_
  refine T_lmul d_Fi_multiply_857 ?_
  refine T_ladd d_Fi_multiply_858 ?_
  refine T_lload d_Fi_multiply_859 rfl ?_
  refine T_lload d_Fi_multiply_861 rfl ?_
  refine T_lmul d_Fi_multiply_863 ?_
  refine T_ladd d_Fi_multiply_864 ?_
  refine T_lload d_Fi_multiply_865 rfl ?_
  refine T_lload d_Fi_multiply_867 rfl ?_
  refine T_lmul d_Fi_multiply_869 ?_
  refine T_ladd d_Fi_multiply_870 ?_
  refine T_lload d_Fi_multiply_871 rfl ?_
  refine T_lload d_Fi_multiply_873 rfl ?_
  refine T_lmul d_Fi_multiply_875 ?_
  refine T_ladd d_Fi_multiply_876 ?_
  refine T_topl (fun w50 ew50 => ?_)
  refine T_lstore (L' := [(71, .long w50), (75, .long w37), (73, .long w35), (69, .long w33), (67, .long w32), (65, .long w31), (63, .long w30), (61, .long w29), (59, .long w28), (57, .long w27), (55, .long w26), (53, .long w25), (51, .long w24), (49, .long w23), (47, .long w22), (45, .long w21), (43, .long w20), (41, .long w19), (39, .long w18), (37, .long w17), (35, .long w16), (33, .long w15), (31, .long w14), (29, .long w13), (27, .long w12), (25, .long w11), (23, .long w10), (21, .long w9), (19, .long w8), (17, .long w7), (15, .long w6), (13, .long w5), (11, .long w4), (9, .long w3), (7, .long w2), (5, .long w1), (3, .long w0), (0, .ref to), (1, .ref f), (2, .ref g)]) d_Fi_multiply_877 (by decide) rfl ?_
  refine T_aload_n (v := .ref to) d_Fi_multiply_879 rfl (Or.inr ⟨_, rfl⟩) ?_
  refine T_bipush (v := (nI 8)) d_Fi_multiply_880 (by decide) ?_
  refine T_lload d_Fi_multiply_882 rfl ?_
  refine T_ldc2 d_Fi_multiply_884 kJ_Fi_35 ?_
  refine T_land d_Fi_multiply_887 ?_
  refine T_topl (fun w51 ew51 => ?_)
  refine X_last (n := 10) (k := 8) d_Fi_multiply_888 kto (by decide) (by decide) hlto ?_
  refine T_lload d_Fi_multiply_889 rfl ?_
  refine T_bipush (v := (nI 26)) d_Fi_multiply_891 (by decide) ?_
  refine T_lshr d_Fi_multiply_893 ?_
  refine T_lload_n d_Fi_multiply_894 rfl ?_
  refine T_lload d_Fi_multiply_895 rfl ?_
  refine T_lmul d_Fi_multiply_897 ?_
  refine T_ladd d_Fi_multiply_898 ?_
  refine T_lload d_Fi_multiply_899 rfl ?_
  refine T_lload d_Fi_multiply_901 rfl ?_
  refine T_lmul d_Fi_multiply_903 ?_
  refine T_ladd d_Fi_multiply_904 ?_
  refine T_lload d_Fi_multiply_905 rfl ?_
  refine T_lload d_Fi_multiply_907 rfl ?_
  refine T_lmul d_Fi_multiply_909 ?_
  refine T_ladd d_Fi_multiply_910 ?_
  refine T_lload d_Fi_multiply_911 rfl ?_
  refine T_lload d_Fi_multiply_913 rfl ?_
  refine T_lmul d_Fi_multiply_915 ?_
  refine T_ladd d_Fi_multiply_916 ?_
  refine T_lload d_Fi_multiply_917 rfl ?_
  refine T_lload d_Fi_multiply_919 rfl ?_
  refine T_lmul d_Fi_multiply_921 ?_
  refine T_ladd d_Fi_multiply_922 ?_
  refine T_lload d_Fi_multiply_923 rfl ?_
  refine T_lload d_Fi_multiply_925 rfl ?_
  refine T_lmul d_Fi_multiply_927 ?_
  refine T_ladd d_Fi_multiply_928 ?_
  refine T_lload d_Fi_multiply_929 rfl ?_
  refine T_lload d_Fi_multiply_931 rfl ?_
  refine T_lmul d_Fi_multiply_933 ?_
  refine T_ladd d_Fi_multiply_934 ?_
  refine T_lload d_Fi_multiply_935 rfl ?_
  refine T_lload d_Fi_multiply_937 rfl ?_
  refine T_lmul d_Fi_multiply_939 ?_
  refine T_ladd d_Fi_multiply_940 ?_
  refine T_lload d_Fi_multiply_941 rfl ?_
  refine T_lload d_Fi_multiply_943 rfl ?_
  refine T_lmul d_Fi_multiply_945 ?_
  refine T_ladd d_Fi_multiply_946 ?_
  refine T_lload d_Fi_multiply_947 rfl ?_
  refine T_lload d_Fi_multiply_949 rfl ?_
  refine T_lmul d_Fi_multiply_951 ?_
  refine T_ladd d_Fi_multiply_952 ?_
  refine T_topl (fun w52 ew52 => ?_)
  refine T_lstore (L' := [(71, .long w52), (75, .long w37), (73, .long w35), (69, .long w33), (67, .long w32), (65, .long w31), (63, .long w30), (61, .long w29), (59, .long w28), (57, .long w27), (55, .long w26), (53, .long w25), (51, .long w24), (49, .long w23), (47, .long w22), (45, .long w21), (43, .long w20), (41, .long w19), (39, .long w18), (37, .long w17), (35, .long w16), (33, .long w15), (31, .long w14), (29, .long w13), (27, .long w12), (25, .long w11), (23, .long w10), (21, .long w9), (19, .long w8), (17, .long w7), (15, .long w6), (13, .long w5), (11, .long w4), (9, .long w3), (7, .long w2), (5, .long w1), (3, .long w0), (0, .ref to), (1, .ref f), (2, .ref g)]) d_Fi_multiply_953 (by decide) rfl ?_
  refine T_aload_n (v := .ref to) d_Fi_multiply_955 rfl (Or.inr ⟨_, rfl⟩) ?_
  refine T_bipush (v := (nI 9)) d_Fi_multiply_956 (by decide) ?_
  refine T_lload d_Fi_multiply_958 rfl ?_
  refine T_ldc2 d_Fi_multiply_960 kJ_Fi_37 ?_
  refine T_land d_Fi_multiply_963 ?_
  refine T_topl (fun w53 ew53 => ?_)
  refine X_last (n := 10) (k := 9) d_Fi_multiply_964 kto (by decide) (by decide) hlto ?_
  refine T_lload d_Fi_multiply_965 rfl ?_
  refine T_bipush (v := (nI 25)) d_Fi_multiply_967 (by decide) ?_
  refine T_lshr d_Fi_multiply_969 ?_
  refine T_ldc2 d_Fi_multiply_970 kJ_Fi_31 ?_
  refine T_lmul d_Fi_multiply_973 ?_
  refine T_lload d_Fi_multiply_974 rfl ?_
  refine T_ladd d_Fi_multiply_976 ?_
  refine T_topl (fun w54 ew54 => ?_)
  refine T_lstore (L' := [(71, .long w54), (75, .long w37), (73, .long w35), (69, .long w33), (67, .long w32), (65, .long w31), (63, .long w30), (61, .long w29), (59, .long w28), (57, .long w27), (55, .long w26), (53, .long w25), (51, .long w24), (49, .long w23), (47, .long w22), (45, .long w21), (43, .long w20), (41, .long w19), (39, .long w18), (37, .long w17), (35, .long w16), (33, .long w15), (31, .long w14), (29, .long w13), (27, .long w12), (25, .long w11), (23, .long w10), (21, .long w9), (19, .long w8), (17, .long w7), (15, .long w6), (13, .long w5), (11, .long w4), (9, .long w3), (7, .long w2), (5, .long w1), (3, .long w0), (0, .ref to), (1, .ref f), (2, .ref g)]) d_Fi_multiply_977 (by decide) rfl ?_
  refine T_aload_n (v := .ref to) d_Fi_multiply_979 rfl (Or.inr ⟨_, rfl⟩) ?_
  refine T_iconst (v := (nI 0)) d_Fi_multiply_980 (by decide) ?_
  refine T_lload d_Fi_multiply_981 rfl ?_
  refine T_ldc2 d_Fi_multiply_983 kJ_Fi_35 ?_
  refine T_land d_Fi_multiply_986 ?_
  refine T_topl (fun w55 ew55 => ?_)
  refine X_last (n := 10) (k := 0) d_Fi_multiply_987 kto (by decide) (by decide) hlto ?_
  refine T_aload_n (v := .ref to) d_Fi_multiply_988 rfl (Or.inr ⟨_, rfl⟩) ?_
  refine T_iconst (v := (nI 1)) d_Fi_multiply_989 (by decide) ?_
  refine T_lload d_Fi_multiply_990 rfl ?_
  refine T_lload d_Fi_multiply_992 rfl ?_
  refine T_bipush (v := (nI 26)) d_Fi_multiply_994 (by decide) ?_
  refine T_lshr d_Fi_multiply_996 ?_
  refine T_ladd d_Fi_multiply_997 ?_
  refine T_topl (fun w56 ew56 => ?_)
  refine X_last (n := 10) (k := 1) d_Fi_multiply_998 kto (by decide) (by decide) hlto ?_
  refine T_vret d_Fi_multiply_999 rfl (by decide) (by decide) ⟨rfl, _, rfl, fun i hi => ?_⟩
  subst ew0 ew1 ew2 ew3 ew4 ew5 ew6 ew7 ew8 ew9 ew10 ew11 ew12 ew13 ew14 ew15 ew16 ew17 ew18 ew19 ew20 ew21 ew22 ew23 ew24 ew25 ew26 ew27 ew28 ew29 ew30 ew31 ew32 ew33 ew34 ew35 ew36 ew37 ew38 ew39 ew40 ew41 ew42 ew43 ew44 ew45 ew46 ew47 ew48 ew49 ew50 ew51 ew52 ew53 ew54 ew55 ew56
  have h10 : i = 0 ∨ i = 1 ∨ i = 2 ∨ i = 3 ∨ i = 4 ∨ i = 5 ∨ i = 6 ∨ i = 7 ∨ i = 8 ∨ i = 9 := by omega
  rcases h10 with rfl | rfl | rfl | rfl | rfl | rfl | rfl | rfl | rfl | rfl <;> rfl
theorem X_rd {M : List va_E} {to f k : Nat} {H F Hk : Nat → Int64} (hto : M[to]? = some (lr 10 H)) (hf : M[f]? = some (lr 10 F)) (hk : Hk k = H k) : ∃ F1, (M.set to (lr 10 Hk))[f]? = some (lr 10 F1) ∧ F1 k = F k := by
  by_cases h : to = f
  · subst h
    refine ⟨Hk, List.getElem?_set_self (X_len hto), ?_⟩
    have e := hto.symm.trans hf
    injection e with e; injection e with e; injection e with _ e; injection e with _ e; injection e with e; injection e with e
    rw [hk, e]
  · exact ⟨F, by rw [List.getElem?_set_ne h]; exact hf, rfl⟩
def lp (k : Nat) (N H : Nat → Int64) : Nat → Int64 := fun i => if i < k then N i else H i
theorem lp_at (k : Nat) (N H : Nat → Int64) : lp k N H k = H k := if_neg (Nat.lt_irrefl k)
theorem lp_up (k : Nat) (N H : Nat → Int64) : vp_updL (lp k N H) k (N k) = lp (k + 1) N H := by
  funext i
  unfold vp_updL lp
  by_cases h : i = k
  · subst h; simp
  · by_cases h2 : i < k
    · simp [h, h2, Nat.lt_succ_of_lt h2]
    · have : ¬ i < k + 1 := by omega
      simp [h, h2, this]
theorem lp_0 (N H : Nat → Int64) : lp 0 N H = H := by funext i; simp [lp]
set_option maxHeartbeats 8000000 in
theorem xl_Fi_add (G : GX) {M : List va_E} {to f g : Nat} {H F E : Nat → Int64} (kto : K0 ≤ to) (hto : M[to]? = some (lr 10 H)) (hf : M[f]? = some (lr 10 F)) (hg : M[g]? = some (lr 10 E)) : ∀ j k, k + j = 10 → TT G mi_Fi_add 2 [(3, .int (nI k)), (0, .ref to), (1, .ref f), (2, .ref g)] [] (M.set to (lr 10 (lp k (fun i => F i + E i) H))) 0 0 (fun r M' => r = none ∧ ∃ F', M' = M.set to (lr 10 F') ∧ ∀ i, i < 10 → F' i = F i + E i) := by
  have hl := X_len hto
  intro j
  induction j with
  | zero =>
    intro k hk
    have : k = 10 := by omega
    subst this
    refine T_iload_n d_Fi_add_2 rfl ?_
    refine T_bipush (v := nI 10) d_Fi_add_3 (by decide) ?_
    refine T_icmp_ge d_Fi_add_5 (tgt := 24) rfl (fun _ => ?_) (fun c => absurd (by decide) c)
    refine T_vret d_Fi_add_24 rfl (by decide) (by decide) ⟨rfl, _, rfl, fun i hi => ?_⟩
    simp [lp, hi]
  | succ j ih =>
    intro k hk
    refine T_iload_n d_Fi_add_2 rfl ?_
    refine T_bipush (v := nI 10) d_Fi_add_3 (by decide) ?_
    refine T_icmp_ge d_Fi_add_5 (tgt := 24) rfl (fun c => absurd ((nI_leI (by decide) (by omega)).mp c) (by omega)) (fun _ => ?_)
    refine T_aload_n (v := .ref to) d_Fi_add_8 rfl (Or.inr ⟨_, rfl⟩) ?_
    refine T_iload_n d_Fi_add_9 rfl ?_
    obtain ⟨F1, qf, rf⟩ := X_rd (k := k) (Hk := lp k (fun i => F i + E i) H) hto hf (lp_at k _ H)
    refine T_aload_n (v := .ref f) d_Fi_add_10 rfl (Or.inr ⟨_, rfl⟩) ?_
    refine T_iload_n d_Fi_add_11 rfl ?_
    refine T_laload d_Fi_add_12 qf (vp_in_nI (by omega) (by decide)) ?_
    rw [nI_clamp (by omega), rf]
    obtain ⟨E1, qg, rg⟩ := X_rd (k := k) (Hk := lp k (fun i => F i + E i) H) hto hg (lp_at k _ H)
    refine T_aload_n (v := .ref g) d_Fi_add_13 rfl (Or.inr ⟨_, rfl⟩) ?_
    refine T_iload_n d_Fi_add_14 rfl ?_
    refine T_laload d_Fi_add_15 qg (vp_in_nI (by omega) (by decide)) ?_
    rw [nI_clamp (by omega), rg]
    refine T_ladd d_Fi_add_16 ?_
    refine X_last (n := 10) (k := k) d_Fi_add_17 kto (by omega) (by decide) hl ?_
    rw [show vp_updL (lp k (fun i => F i + E i) H) k (F k + E k) = lp (k + 1) (fun i => F i + E i) H from lp_up k (fun i => F i + E i) H]
    refine T_iinc (x := nI k) (L' := [(3, .int (nI (k + 1))), (0, .ref to), (1, .ref f), (2, .ref g)]) d_Fi_add_18 (by decide) rfl (by rw [show Int32.ofInt 1 = nI 1 from rfl, nI_add]; rfl) ?_
    refine T_goto (tgt := 2) d_Fi_add_21 rfl ?_
    exact ih (k + 1) (by omega)
theorem x_Fi_add (G : GX) {M : List va_E} {to f g : Nat} {H F E : Nat → Int64} (kto : K0 ≤ to) (hto : M[to]? = some (lr 10 H)) (hf : M[f]? = some (lr 10 F)) (hg : M[g]? = some (lr 10 E)) : CT G mi_Fi_add [.ref to, .ref f, .ref g] M (fun r M' => r = none ∧ ∃ F', M' = M.set to (lr 10 F') ∧ ∀ i, i < 10 → F' i = F i + E i) := by
  refine CT.of (by decide) (Nat.le_of_ble_eq_true rfl) ?_
  show TT G mi_Fi_add 0 [(0, .ref to), (1, .ref f), (2, .ref g)] [] M 0 0 _
  refine T_iconst (v := nI 0) d_Fi_add_0 (by decide) ?_
  refine T_istore_n (L' := [(3, .int (nI 0)), (0, .ref to), (1, .ref f), (2, .ref g)]) d_Fi_add_1 (by decide) rfl ?_
  refine T_eq (M' := M.set to (lr 10 (lp 0 (fun i => F i + E i) H))) rfl rfl rfl (by rw [lp_0]; exact X_same hto) ?_
  exact xl_Fi_add G kto hto hf hg 10 0 rfl
set_option maxHeartbeats 8000000 in
theorem xl_Fi_subtract (G : GX) {M : List va_E} {to f g : Nat} {H F E : Nat → Int64} (kto : K0 ≤ to) (hto : M[to]? = some (lr 10 H)) (hf : M[f]? = some (lr 10 F)) (hg : M[g]? = some (lr 10 E)) : ∀ j k, k + j = 10 → TT G mi_Fi_subtract 2 [(3, .int (nI k)), (0, .ref to), (1, .ref f), (2, .ref g)] [] (M.set to (lr 10 (lp k (fun i => F i - E i) H))) 0 0 (fun r M' => r = none ∧ ∃ F', M' = M.set to (lr 10 F') ∧ ∀ i, i < 10 → F' i = F i - E i) := by
  have hl := X_len hto
  intro j
  induction j with
  | zero =>
    intro k hk
    have : k = 10 := by omega
    subst this
    refine T_iload_n d_Fi_subtract_2 rfl ?_
    refine T_bipush (v := nI 10) d_Fi_subtract_3 (by decide) ?_
    refine T_icmp_ge d_Fi_subtract_5 (tgt := 24) rfl (fun _ => ?_) (fun c => absurd (by decide) c)
    refine T_vret d_Fi_subtract_24 rfl (by decide) (by decide) ⟨rfl, _, rfl, fun i hi => ?_⟩
    simp [lp, hi]
  | succ j ih =>
    intro k hk
    refine T_iload_n d_Fi_subtract_2 rfl ?_
    refine T_bipush (v := nI 10) d_Fi_subtract_3 (by decide) ?_
    refine T_icmp_ge d_Fi_subtract_5 (tgt := 24) rfl (fun c => absurd ((nI_leI (by decide) (by omega)).mp c) (by omega)) (fun _ => ?_)
    refine T_aload_n (v := .ref to) d_Fi_subtract_8 rfl (Or.inr ⟨_, rfl⟩) ?_
    refine T_iload_n d_Fi_subtract_9 rfl ?_
    obtain ⟨F1, qf, rf⟩ := X_rd (k := k) (Hk := lp k (fun i => F i - E i) H) hto hf (lp_at k _ H)
    refine T_aload_n (v := .ref f) d_Fi_subtract_10 rfl (Or.inr ⟨_, rfl⟩) ?_
    refine T_iload_n d_Fi_subtract_11 rfl ?_
    refine T_laload d_Fi_subtract_12 qf (vp_in_nI (by omega) (by decide)) ?_
    rw [nI_clamp (by omega), rf]
    obtain ⟨E1, qg, rg⟩ := X_rd (k := k) (Hk := lp k (fun i => F i - E i) H) hto hg (lp_at k _ H)
    refine T_aload_n (v := .ref g) d_Fi_subtract_13 rfl (Or.inr ⟨_, rfl⟩) ?_
    refine T_iload_n d_Fi_subtract_14 rfl ?_
    refine T_laload d_Fi_subtract_15 qg (vp_in_nI (by omega) (by decide)) ?_
    rw [nI_clamp (by omega), rg]
    refine T_lsub d_Fi_subtract_16 ?_
    refine X_last (n := 10) (k := k) d_Fi_subtract_17 kto (by omega) (by decide) hl ?_
    rw [show vp_updL (lp k (fun i => F i - E i) H) k (F k - E k) = lp (k + 1) (fun i => F i - E i) H from lp_up k (fun i => F i - E i) H]
    refine T_iinc (x := nI k) (L' := [(3, .int (nI (k + 1))), (0, .ref to), (1, .ref f), (2, .ref g)]) d_Fi_subtract_18 (by decide) rfl (by rw [show Int32.ofInt 1 = nI 1 from rfl, nI_add]; rfl) ?_
    refine T_goto (tgt := 2) d_Fi_subtract_21 rfl ?_
    exact ih (k + 1) (by omega)
theorem x_Fi_subtract (G : GX) {M : List va_E} {to f g : Nat} {H F E : Nat → Int64} (kto : K0 ≤ to) (hto : M[to]? = some (lr 10 H)) (hf : M[f]? = some (lr 10 F)) (hg : M[g]? = some (lr 10 E)) : CT G mi_Fi_subtract [.ref to, .ref f, .ref g] M (fun r M' => r = none ∧ ∃ F', M' = M.set to (lr 10 F') ∧ ∀ i, i < 10 → F' i = F i - E i) := by
  refine CT.of (by decide) (Nat.le_of_ble_eq_true rfl) ?_
  show TT G mi_Fi_subtract 0 [(0, .ref to), (1, .ref f), (2, .ref g)] [] M 0 0 _
  refine T_iconst (v := nI 0) d_Fi_subtract_0 (by decide) ?_
  refine T_istore_n (L' := [(3, .int (nI 0)), (0, .ref to), (1, .ref f), (2, .ref g)]) d_Fi_subtract_1 (by decide) rfl ?_
  refine T_eq (M' := M.set to (lr 10 (lp 0 (fun i => F i - E i) H))) rfl rfl rfl (by rw [lp_0]; exact X_same hto) ?_
  exact xl_Fi_subtract G kto hto hf hg 10 0 rfl
set_option maxHeartbeats 8000000 in
theorem xl_Fi_negate (G : GX) {M : List va_E} {to f : Nat} {H F : Nat → Int64} (kto : K0 ≤ to) (hto : M[to]? = some (lr 10 H)) (hf : M[f]? = some (lr 10 F)) : ∀ j k, k + j = 10 → TT G mi_Fi_negate 2 [(2, .int (nI k)), (0, .ref to), (1, .ref f)] [] (M.set to (lr 10 (lp k (fun i => -F i) H))) 0 0 (fun r M' => r = none ∧ ∃ F', M' = M.set to (lr 10 F') ∧ ∀ i, i < 10 → F' i = -F i) := by
  have hl := X_len hto
  intro j
  induction j with
  | zero =>
    intro k hk
    have : k = 10 := by omega
    subst this
    refine T_iload_n d_Fi_negate_2 rfl ?_
    refine T_bipush (v := nI 10) d_Fi_negate_3 (by decide) ?_
    refine T_icmp_ge d_Fi_negate_5 (tgt := 21) rfl (fun _ => ?_) (fun c => absurd (by decide) c)
    refine T_vret d_Fi_negate_21 rfl (by decide) (by decide) ⟨rfl, _, rfl, fun i hi => ?_⟩
    simp [lp, hi]
  | succ j ih =>
    intro k hk
    refine T_iload_n d_Fi_negate_2 rfl ?_
    refine T_bipush (v := nI 10) d_Fi_negate_3 (by decide) ?_
    refine T_icmp_ge d_Fi_negate_5 (tgt := 21) rfl (fun c => absurd ((nI_leI (by decide) (by omega)).mp c) (by omega)) (fun _ => ?_)
    refine T_aload_n (v := .ref to) d_Fi_negate_8 rfl (Or.inr ⟨_, rfl⟩) ?_
    refine T_iload_n d_Fi_negate_9 rfl ?_
    obtain ⟨F1, qf, rf⟩ := X_rd (k := k) (Hk := lp k (fun i => -F i) H) hto hf (lp_at k _ H)
    refine T_aload_n (v := .ref f) d_Fi_negate_10 rfl (Or.inr ⟨_, rfl⟩) ?_
    refine T_iload_n d_Fi_negate_11 rfl ?_
    refine T_laload d_Fi_negate_12 qf (vp_in_nI (by omega) (by decide)) ?_
    rw [nI_clamp (by omega), rf]
    refine T_lneg d_Fi_negate_13 ?_
    refine X_last (n := 10) (k := k) d_Fi_negate_14 kto (by omega) (by decide) hl ?_
    rw [show vp_updL (lp k (fun i => -F i) H) k (-F k) = lp (k + 1) (fun i => -F i) H from lp_up k (fun i => -F i) H]
    refine T_iinc (x := nI k) (L' := [(2, .int (nI (k + 1))), (0, .ref to), (1, .ref f)]) d_Fi_negate_15 (by decide) rfl (by rw [show Int32.ofInt 1 = nI 1 from rfl, nI_add]; rfl) ?_
    refine T_goto (tgt := 2) d_Fi_negate_18 rfl ?_
    exact ih (k + 1) (by omega)
theorem x_Fi_negate (G : GX) {M : List va_E} {to f : Nat} {H F : Nat → Int64} (kto : K0 ≤ to) (hto : M[to]? = some (lr 10 H)) (hf : M[f]? = some (lr 10 F)) : CT G mi_Fi_negate [.ref to, .ref f] M (fun r M' => r = none ∧ ∃ F', M' = M.set to (lr 10 F') ∧ ∀ i, i < 10 → F' i = -F i) := by
  refine CT.of (by decide) (Nat.le_of_ble_eq_true rfl) ?_
  show TT G mi_Fi_negate 0 [(0, .ref to), (1, .ref f)] [] M 0 0 _
  refine T_iconst (v := nI 0) d_Fi_negate_0 (by decide) ?_
  refine T_istore_n (L' := [(2, .int (nI 0)), (0, .ref to), (1, .ref f)]) d_Fi_negate_1 (by decide) rfl ?_
  refine T_eq (M' := M.set to (lr 10 (lp 0 (fun i => -F i) H))) rfl rfl rfl (by rw [lp_0]; exact X_same hto) ?_
  exact xl_Fi_negate G kto hto hf 10 0 rfl
set_option maxHeartbeats 8000000 in
theorem xl_Fi_copy (G : GX) {M : List va_E} {to f : Nat} {H F : Nat → Int64} (kto : K0 ≤ to) (hto : M[to]? = some (lr 10 H)) (hf : M[f]? = some (lr 10 F)) : ∀ j k, k + j = 10 → TT G mi_Fi_copy 2 [(2, .int (nI k)), (0, .ref to), (1, .ref f)] [] (M.set to (lr 10 (lp k (fun i => F i) H))) 0 0 (fun r M' => r = none ∧ ∃ F', M' = M.set to (lr 10 F') ∧ ∀ i, i < 10 → F' i = F i) := by
  have hl := X_len hto
  intro j
  induction j with
  | zero =>
    intro k hk
    have : k = 10 := by omega
    subst this
    refine T_iload_n d_Fi_copy_2 rfl ?_
    refine T_bipush (v := nI 10) d_Fi_copy_3 (by decide) ?_
    refine T_icmp_ge d_Fi_copy_5 (tgt := 20) rfl (fun _ => ?_) (fun c => absurd (by decide) c)
    refine T_vret d_Fi_copy_20 rfl (by decide) (by decide) ⟨rfl, _, rfl, fun i hi => ?_⟩
    simp [lp, hi]
  | succ j ih =>
    intro k hk
    refine T_iload_n d_Fi_copy_2 rfl ?_
    refine T_bipush (v := nI 10) d_Fi_copy_3 (by decide) ?_
    refine T_icmp_ge d_Fi_copy_5 (tgt := 20) rfl (fun c => absurd ((nI_leI (by decide) (by omega)).mp c) (by omega)) (fun _ => ?_)
    refine T_aload_n (v := .ref to) d_Fi_copy_8 rfl (Or.inr ⟨_, rfl⟩) ?_
    refine T_iload_n d_Fi_copy_9 rfl ?_
    obtain ⟨F1, qf, rf⟩ := X_rd (k := k) (Hk := lp k (fun i => F i) H) hto hf (lp_at k _ H)
    refine T_aload_n (v := .ref f) d_Fi_copy_10 rfl (Or.inr ⟨_, rfl⟩) ?_
    refine T_iload_n d_Fi_copy_11 rfl ?_
    refine T_laload d_Fi_copy_12 qf (vp_in_nI (by omega) (by decide)) ?_
    rw [nI_clamp (by omega), rf]
    refine X_last (n := 10) (k := k) d_Fi_copy_13 kto (by omega) (by decide) hl ?_
    rw [show vp_updL (lp k (fun i => F i) H) k (F k) = lp (k + 1) (fun i => F i) H from lp_up k (fun i => F i) H]
    refine T_iinc (x := nI k) (L' := [(2, .int (nI (k + 1))), (0, .ref to), (1, .ref f)]) d_Fi_copy_14 (by decide) rfl (by rw [show Int32.ofInt 1 = nI 1 from rfl, nI_add]; rfl) ?_
    refine T_goto (tgt := 2) d_Fi_copy_17 rfl ?_
    exact ih (k + 1) (by omega)
theorem x_Fi_copy (G : GX) {M : List va_E} {to f : Nat} {H F : Nat → Int64} (kto : K0 ≤ to) (hto : M[to]? = some (lr 10 H)) (hf : M[f]? = some (lr 10 F)) : CT G mi_Fi_copy [.ref to, .ref f] M (fun r M' => r = none ∧ ∃ F', M' = M.set to (lr 10 F') ∧ ∀ i, i < 10 → F' i = F i) := by
  refine CT.of (by decide) (Nat.le_of_ble_eq_true rfl) ?_
  show TT G mi_Fi_copy 0 [(0, .ref to), (1, .ref f)] [] M 0 0 _
  refine T_iconst (v := nI 0) d_Fi_copy_0 (by decide) ?_
  refine T_istore_n (L' := [(2, .int (nI 0)), (0, .ref to), (1, .ref f)]) d_Fi_copy_1 (by decide) rfl ?_
  refine T_eq (M' := M.set to (lr 10 (lp 0 (fun i => F i) H))) rfl rfl rfl (by rw [lp_0]; exact X_same hto) ?_
  exact xl_Fi_copy G kto hto hf 10 0 rfl
theorem T_sub {G : GX} {mi : MI} {pc : Nat} {L L' : List (Nat × Value)} {st : List Value} {M : List va_E} {kc ks : Nat} {Q : Option Value → List va_E → Prop} (h : ∀ q ∈ L', q ∈ L) (k : TT G mi pc L' st M kc ks Q) : TT G mi pc L st M kc ks Q := by
  intro p e R s m args below meth c H locs ls ad ad0 n0 C D
  obtain ⟨d1, d2, d3, d4, d5, d6, d7⟩ := D
  refine k p e R s m args below meth c H locs ls ad ad0 n0 C ⟨d1, ⟨d2.1, d2.2.1, fun q hq => d2.2.2 q ?_⟩, d3, d4, d5, fun q hq => d6 q (h q hq), d7⟩
  obtain ⟨q', hq', rfl⟩ := List.mem_map.mp hq
  exact List.mem_map.mpr ⟨q', h q' hq', rfl⟩
set_option maxRecDepth 100000 in
set_option maxHeartbeats 4000000 in
theorem xl_Fi_square (G : GX) {M : List va_E} {to f n : Nat} {H F : Nat → Int64} (hn : n < 2 ^ 31) (kto : K0 ≤ to) (hto : M[to]? = some (lr 10 H)) : ∀ j k, k + j = n → TT G mi_Fi_square 56 [(23, .int (nI k)), (3, .long (sqI k F 0)), (5, .long (sqI k F 1)), (7, .long (sqI k F 2)), (9, .long (sqI k F 3)), (11, .long (sqI k F 4)), (13, .long (sqI k F 5)), (15, .long (sqI k F 6)), (17, .long (sqI k F 7)), (19, .long (sqI k F 8)), (21, .long (sqI k F 9)), (0, .ref to), (1, .ref f), (2, .int (nI n))] [] M 0 0 (fun r M' => r = none ∧ ∃ F', M' = M.set to (lr 10 F') ∧ ∀ i, i < 10 → F' i = sqI n F i) := by
  have hlto := X_len hto
  intro j
  induction j with
  | zero =>
    intro k hk
    have : k = n := by omega
    subst this
    refine T_iload d_Fi_square_56 rfl ?_
    refine T_iload_n d_Fi_square_58 rfl ?_
    refine T_icmp_ge d_Fi_square_59 (tgt := 702) rfl (fun _ => ?_) (fun c => absurd (Int32.le_refl _) c)
    refine T_eq (M' := M.set to (lr 10 H)) rfl rfl rfl (X_same hto) ?_
    refine T_aload_n (v := .ref to) d_Fi_square_702 rfl (Or.inr ⟨_, rfl⟩) ?_
    refine T_iconst (v := (nI 0)) d_Fi_square_703 (by decide) ?_
    refine T_lload_n d_Fi_square_704 rfl ?_
    refine T_topl (fun w0 ew0 => ?_)
    refine X_last (n := 10) (k := 0) d_Fi_square_705 kto (by decide) (by decide) hlto ?_
    refine T_aload_n (v := .ref to) d_Fi_square_706 rfl (Or.inr ⟨_, rfl⟩) ?_
    refine T_iconst (v := (nI 1)) d_Fi_square_707 (by decide) ?_
    refine T_lload d_Fi_square_708 rfl ?_
    refine T_topl (fun w1 ew1 => ?_)
    refine X_last (n := 10) (k := 1) d_Fi_square_710 kto (by decide) (by decide) hlto ?_
    refine T_aload_n (v := .ref to) d_Fi_square_711 rfl (Or.inr ⟨_, rfl⟩) ?_
    refine T_iconst (v := (nI 2)) d_Fi_square_712 (by decide) ?_
    refine T_lload d_Fi_square_713 rfl ?_
    refine T_topl (fun w2 ew2 => ?_)
    refine X_last (n := 10) (k := 2) d_Fi_square_715 kto (by decide) (by decide) hlto ?_
    refine T_aload_n (v := .ref to) d_Fi_square_716 rfl (Or.inr ⟨_, rfl⟩) ?_
    refine T_iconst (v := (nI 3)) d_Fi_square_717 (by decide) ?_
    refine T_lload d_Fi_square_718 rfl ?_
    refine T_topl (fun w3 ew3 => ?_)
    refine X_last (n := 10) (k := 3) d_Fi_square_720 kto (by decide) (by decide) hlto ?_
    refine T_aload_n (v := .ref to) d_Fi_square_721 rfl (Or.inr ⟨_, rfl⟩) ?_
    refine T_iconst (v := (nI 4)) d_Fi_square_722 (by decide) ?_
    refine T_lload d_Fi_square_723 rfl ?_
    refine T_topl (fun w4 ew4 => ?_)
    refine X_last (n := 10) (k := 4) d_Fi_square_725 kto (by decide) (by decide) hlto ?_
    refine T_aload_n (v := .ref to) d_Fi_square_726 rfl (Or.inr ⟨_, rfl⟩) ?_
    refine T_iconst (v := (nI 5)) d_Fi_square_727 (by decide) ?_
    refine T_lload d_Fi_square_728 rfl ?_
    refine T_topl (fun w5 ew5 => ?_)
    refine X_last (n := 10) (k := 5) d_Fi_square_730 kto (by decide) (by decide) hlto ?_
    refine T_aload_n (v := .ref to) d_Fi_square_731 rfl (Or.inr ⟨_, rfl⟩) ?_
    refine T_bipush (v := (nI 6)) d_Fi_square_732 (by decide) ?_
    refine T_lload d_Fi_square_734 rfl ?_
    refine T_topl (fun w6 ew6 => ?_)
    refine X_last (n := 10) (k := 6) d_Fi_square_736 kto (by decide) (by decide) hlto ?_
    refine T_aload_n (v := .ref to) d_Fi_square_737 rfl (Or.inr ⟨_, rfl⟩) ?_
    refine T_bipush (v := (nI 7)) d_Fi_square_738 (by decide) ?_
    refine T_lload d_Fi_square_740 rfl ?_
    refine T_topl (fun w7 ew7 => ?_)
    refine X_last (n := 10) (k := 7) d_Fi_square_742 kto (by decide) (by decide) hlto ?_
    refine T_aload_n (v := .ref to) d_Fi_square_743 rfl (Or.inr ⟨_, rfl⟩) ?_
    refine T_bipush (v := (nI 8)) d_Fi_square_744 (by decide) ?_
    refine T_lload d_Fi_square_746 rfl ?_
    refine T_topl (fun w8 ew8 => ?_)
    refine X_last (n := 10) (k := 8) d_Fi_square_748 kto (by decide) (by decide) hlto ?_
    refine T_aload_n (v := .ref to) d_Fi_square_749 rfl (Or.inr ⟨_, rfl⟩) ?_
    refine T_bipush (v := (nI 9)) d_Fi_square_750 (by decide) ?_
    refine T_lload d_Fi_square_752 rfl ?_
    refine T_topl (fun w9 ew9 => ?_)
    refine X_last (n := 10) (k := 9) d_Fi_square_754 kto (by decide) (by decide) hlto ?_
    refine T_vret d_Fi_square_755 rfl (by decide) (by decide) ⟨rfl, _, rfl, fun i hi => ?_⟩
    subst ew0 ew1 ew2 ew3 ew4 ew5 ew6 ew7 ew8 ew9
    have h10 : i = 0 ∨ i = 1 ∨ i = 2 ∨ i = 3 ∨ i = 4 ∨ i = 5 ∨ i = 6 ∨ i = 7 ∨ i = 8 ∨ i = 9 := by omega
    rcases h10 with rfl | rfl | rfl | rfl | rfl | rfl | rfl | rfl | rfl | rfl <;> rfl
  | succ j ih =>
    intro k hk
    refine T_iload d_Fi_square_56 rfl ?_
    refine T_iload_n d_Fi_square_58 rfl ?_
    refine T_icmp_ge d_Fi_square_59 (tgt := 702) rfl (fun c => absurd ((nI_leI hn (by omega)).mp c) (by omega)) (fun _ => ?_)
    refine T_ldc2 d_Fi_square_62 kJ_Fi_33 ?_
    refine T_lload_n d_Fi_square_65 rfl ?_
    refine T_lmul d_Fi_square_66 ?_
    refine T_topl (fun w10 ew10 => ?_)
    refine T_lstore (L' := [(24, .long w10), (23, .int (nI k)), (3, .long (sqI k F 0)), (5, .long (sqI k F 1)), (7, .long (sqI k F 2)), (9, .long (sqI k F 3)), (11, .long (sqI k F 4)), (13, .long (sqI k F 5)), (15, .long (sqI k F 6)), (17, .long (sqI k F 7)), (19, .long (sqI k F 8)), (21, .long (sqI k F 9)), (0, .ref to), (1, .ref f), (2, .int (nI n))]) d_Fi_square_67 (by decide) rfl ?_
    refine T_ldc2 d_Fi_square_69 kJ_Fi_33 ?_
    refine T_lload d_Fi_square_72 rfl ?_
    refine T_lmul d_Fi_square_74 ?_
    refine T_topl (fun w11 ew11 => ?_)
    refine T_lstore (L' := [(26, .long w11), (24, .long w10), (23, .int (nI k)), (3, .long (sqI k F 0)), (5, .long (sqI k F 1)), (7, .long (sqI k F 2)), (9, .long (sqI k F 3)), (11, .long (sqI k F 4)), (13, .long (sqI k F 5)), (15, .long (sqI k F 6)), (17, .long (sqI k F 7)), (19, .long (sqI k F 8)), (21, .long (sqI k F 9)), (0, .ref to), (1, .ref f), (2, .int (nI n))]) d_Fi_square_75 (by decide) rfl ?_
    refine T_ldc2 d_Fi_square_77 kJ_Fi_33 ?_
    refine T_lload d_Fi_square_80 rfl ?_
    refine T_lmul d_Fi_square_82 ?_
    refine T_topl (fun w12 ew12 => ?_)
    refine T_lstore (L' := [(28, .long w12), (26, .long w11), (24, .long w10), (23, .int (nI k)), (3, .long (sqI k F 0)), (5, .long (sqI k F 1)), (7, .long (sqI k F 2)), (9, .long (sqI k F 3)), (11, .long (sqI k F 4)), (13, .long (sqI k F 5)), (15, .long (sqI k F 6)), (17, .long (sqI k F 7)), (19, .long (sqI k F 8)), (21, .long (sqI k F 9)), (0, .ref to), (1, .ref f), (2, .int (nI n))]) d_Fi_square_83 (by decide) rfl ?_
    refine T_ldc2 d_Fi_square_85 kJ_Fi_33 ?_
    refine T_lload d_Fi_square_88 rfl ?_
    refine T_lmul d_Fi_square_90 ?_
    refine T_topl (fun w13 ew13 => ?_)
    refine T_lstore (L' := [(30, .long w13), (28, .long w12), (26, .long w11), (24, .long w10), (23, .int (nI k)), (3, .long (sqI k F 0)), (5, .long (sqI k F 1)), (7, .long (sqI k F 2)), (9, .long (sqI k F 3)), (11, .long (sqI k F 4)), (13, .long (sqI k F 5)), (15, .long (sqI k F 6)), (17, .long (sqI k F 7)), (19, .long (sqI k F 8)), (21, .long (sqI k F 9)), (0, .ref to), (1, .ref f), (2, .int (nI n))]) d_Fi_square_91 (by decide) rfl ?_
    refine T_ldc2 d_Fi_square_93 kJ_Fi_33 ?_
    refine T_lload d_Fi_square_96 rfl ?_
    refine T_lmul d_Fi_square_98 ?_
    refine T_topl (fun w14 ew14 => ?_)
    refine T_lstore (L' := [(32, .long w14), (30, .long w13), (28, .long w12), (26, .long w11), (24, .long w10), (23, .int (nI k)), (3, .long (sqI k F 0)), (5, .long (sqI k F 1)), (7, .long (sqI k F 2)), (9, .long (sqI k F 3)), (11, .long (sqI k F 4)), (13, .long (sqI k F 5)), (15, .long (sqI k F 6)), (17, .long (sqI k F 7)), (19, .long (sqI k F 8)), (21, .long (sqI k F 9)), (0, .ref to), (1, .ref f), (2, .int (nI n))]) d_Fi_square_99 (by decide) rfl ?_
    refine T_ldc2 d_Fi_square_101 kJ_Fi_33 ?_
    refine T_lload d_Fi_square_104 rfl ?_
    refine T_lmul d_Fi_square_106 ?_
    refine T_topl (fun w15 ew15 => ?_)
    refine T_lstore (L' := [(34, .long w15), (32, .long w14), (30, .long w13), (28, .long w12), (26, .long w11), (24, .long w10), (23, .int (nI k)), (3, .long (sqI k F 0)), (5, .long (sqI k F 1)), (7, .long (sqI k F 2)), (9, .long (sqI k F 3)), (11, .long (sqI k F 4)), (13, .long (sqI k F 5)), (15, .long (sqI k F 6)), (17, .long (sqI k F 7)), (19, .long (sqI k F 8)), (21, .long (sqI k F 9)), (0, .ref to), (1, .ref f), (2, .int (nI n))]) d_Fi_square_107 (by decide) rfl ?_
    refine T_ldc2 d_Fi_square_109 kJ_Fi_33 ?_
    refine T_lload d_Fi_square_112 rfl ?_
    refine T_lmul d_Fi_square_114 ?_
    refine T_topl (fun w16 ew16 => ?_)
    refine T_lstore (L' := [(36, .long w16), (34, .long w15), (32, .long w14), (30, .long w13), (28, .long w12), (26, .long w11), (24, .long w10), (23, .int (nI k)), (3, .long (sqI k F 0)), (5, .long (sqI k F 1)), (7, .long (sqI k F 2)), (9, .long (sqI k F 3)), (11, .long (sqI k F 4)), (13, .long (sqI k F 5)), (15, .long (sqI k F 6)), (17, .long (sqI k F 7)), (19, .long (sqI k F 8)), (21, .long (sqI k F 9)), (0, .ref to), (1, .ref f), (2, .int (nI n))]) d_Fi_square_115 (by decide) rfl ?_
    refine T_ldc2 d_Fi_square_117 kJ_Fi_33 ?_
    refine T_lload d_Fi_square_120 rfl ?_
    refine T_lmul d_Fi_square_122 ?_
    refine T_topl (fun w17 ew17 => ?_)
    refine T_lstore (L' := [(38, .long w17), (36, .long w16), (34, .long w15), (32, .long w14), (30, .long w13), (28, .long w12), (26, .long w11), (24, .long w10), (23, .int (nI k)), (3, .long (sqI k F 0)), (5, .long (sqI k F 1)), (7, .long (sqI k F 2)), (9, .long (sqI k F 3)), (11, .long (sqI k F 4)), (13, .long (sqI k F 5)), (15, .long (sqI k F 6)), (17, .long (sqI k F 7)), (19, .long (sqI k F 8)), (21, .long (sqI k F 9)), (0, .ref to), (1, .ref f), (2, .int (nI n))]) d_Fi_square_123 (by decide) rfl ?_
    refine T_ldc2 d_Fi_square_125 kJ_Fi_39 ?_
    refine T_lload d_Fi_square_128 rfl ?_
    refine T_lmul d_Fi_square_130 ?_
    refine T_topl (fun w18 ew18 => ?_)
    refine T_lstore (L' := [(40, .long w18), (38, .long w17), (36, .long w16), (34, .long w15), (32, .long w14), (30, .long w13), (28, .long w12), (26, .long w11), (24, .long w10), (23, .int (nI k)), (3, .long (sqI k F 0)), (5, .long (sqI k F 1)), (7, .long (sqI k F 2)), (9, .long (sqI k F 3)), (11, .long (sqI k F 4)), (13, .long (sqI k F 5)), (15, .long (sqI k F 6)), (17, .long (sqI k F 7)), (19, .long (sqI k F 8)), (21, .long (sqI k F 9)), (0, .ref to), (1, .ref f), (2, .int (nI n))]) d_Fi_square_131 (by decide) rfl ?_
    refine T_ldc2 d_Fi_square_133 kJ_Fi_31 ?_
    refine T_lload d_Fi_square_136 rfl ?_
    refine T_lmul d_Fi_square_138 ?_
    refine T_topl (fun w19 ew19 => ?_)
    refine T_lstore (L' := [(42, .long w19), (40, .long w18), (38, .long w17), (36, .long w16), (34, .long w15), (32, .long w14), (30, .long w13), (28, .long w12), (26, .long w11), (24, .long w10), (23, .int (nI k)), (3, .long (sqI k F 0)), (5, .long (sqI k F 1)), (7, .long (sqI k F 2)), (9, .long (sqI k F 3)), (11, .long (sqI k F 4)), (13, .long (sqI k F 5)), (15, .long (sqI k F 6)), (17, .long (sqI k F 7)), (19, .long (sqI k F 8)), (21, .long (sqI k F 9)), (0, .ref to), (1, .ref f), (2, .int (nI n))]) d_Fi_square_139 (by decide) rfl ?_
    refine T_ldc2 d_Fi_square_141 kJ_Fi_39 ?_
    refine T_lload d_Fi_square_144 rfl ?_
    refine T_lmul d_Fi_square_146 ?_
    refine T_topl (fun w20 ew20 => ?_)
    refine T_lstore (L' := [(44, .long w20), (42, .long w19), (40, .long w18), (38, .long w17), (36, .long w16), (34, .long w15), (32, .long w14), (30, .long w13), (28, .long w12), (26, .long w11), (24, .long w10), (23, .int (nI k)), (3, .long (sqI k F 0)), (5, .long (sqI k F 1)), (7, .long (sqI k F 2)), (9, .long (sqI k F 3)), (11, .long (sqI k F 4)), (13, .long (sqI k F 5)), (15, .long (sqI k F 6)), (17, .long (sqI k F 7)), (19, .long (sqI k F 8)), (21, .long (sqI k F 9)), (0, .ref to), (1, .ref f), (2, .int (nI n))]) d_Fi_square_147 (by decide) rfl ?_
    refine T_ldc2 d_Fi_square_149 kJ_Fi_31 ?_
    refine T_lload d_Fi_square_152 rfl ?_
    refine T_lmul d_Fi_square_154 ?_
    refine T_topl (fun w21 ew21 => ?_)
    refine T_lstore (L' := [(46, .long w21), (44, .long w20), (42, .long w19), (40, .long w18), (38, .long w17), (36, .long w16), (34, .long w15), (32, .long w14), (30, .long w13), (28, .long w12), (26, .long w11), (24, .long w10), (23, .int (nI k)), (3, .long (sqI k F 0)), (5, .long (sqI k F 1)), (7, .long (sqI k F 2)), (9, .long (sqI k F 3)), (11, .long (sqI k F 4)), (13, .long (sqI k F 5)), (15, .long (sqI k F 6)), (17, .long (sqI k F 7)), (19, .long (sqI k F 8)), (21, .long (sqI k F 9)), (0, .ref to), (1, .ref f), (2, .int (nI n))]) d_Fi_square_155 (by decide) rfl ?_
    refine T_ldc2 d_Fi_square_157 kJ_Fi_39 ?_
    refine T_lload d_Fi_square_160 rfl ?_
    refine T_lmul d_Fi_square_162 ?_
    refine T_topl (fun w22 ew22 => ?_)
    refine T_lstore (L' := [(48, .long w22), (46, .long w21), (44, .long w20), (42, .long w19), (40, .long w18), (38, .long w17), (36, .long w16), (34, .long w15), (32, .long w14), (30, .long w13), (28, .long w12), (26, .long w11), (24, .long w10), (23, .int (nI k)), (3, .long (sqI k F 0)), (5, .long (sqI k F 1)), (7, .long (sqI k F 2)), (9, .long (sqI k F 3)), (11, .long (sqI k F 4)), (13, .long (sqI k F 5)), (15, .long (sqI k F 6)), (17, .long (sqI k F 7)), (19, .long (sqI k F 8)), (21, .long (sqI k F 9)), (0, .ref to), (1, .ref f), (2, .int (nI n))]) d_Fi_square_163 (by decide) rfl ?_
    refine T_lload_n d_Fi_square_165 rfl ?_
    refine T_lload_n d_Fi_square_166 rfl ?_
    refine T_lmul d_Fi_square_167 ?_
    refine T_lload d_Fi_square_168 rfl ?_
    refine T_lload d_Fi_square_170 rfl ?_
    refine T_lmul d_Fi_square_172 ?_
    refine T_ladd d_Fi_square_173 ?_
    refine T_lload d_Fi_square_174 rfl ?_
    refine T_lload d_Fi_square_176 rfl ?_
    refine T_lmul d_Fi_square_178 ?_
    refine T_ladd d_Fi_square_179 ?_
    refine T_lload d_Fi_square_180 rfl ?_
    refine T_lload d_Fi_square_182 rfl ?_
    refine T_lmul d_Fi_square_184 ?_
    refine T_ladd d_Fi_square_185 ?_
    refine T_lload d_Fi_square_186 rfl ?_
    refine T_lload d_Fi_square_188 rfl ?_
    refine T_lmul d_Fi_square_190 ?_
    refine T_ladd d_Fi_square_191 ?_
    refine T_lload d_Fi_square_192 rfl ?_
    refine T_lload d_Fi_square_194 rfl ?_
    refine T_lmul d_Fi_square_196 ?_
    refine T_ladd d_Fi_square_197 ?_
    refine T_topl (fun w23 ew23 => ?_)
    refine T_lstore (L' := [(50, .long w23), (48, .long w22), (46, .long w21), (44, .long w20), (42, .long w19), (40, .long w18), (38, .long w17), (36, .long w16), (34, .long w15), (32, .long w14), (30, .long w13), (28, .long w12), (26, .long w11), (24, .long w10), (23, .int (nI k)), (3, .long (sqI k F 0)), (5, .long (sqI k F 1)), (7, .long (sqI k F 2)), (9, .long (sqI k F 3)), (11, .long (sqI k F 4)), (13, .long (sqI k F 5)), (15, .long (sqI k F 6)), (17, .long (sqI k F 7)), (19, .long (sqI k F 8)), (21, .long (sqI k F 9)), (0, .ref to), (1, .ref f), (2, .int (nI n))]) d_Fi_square_198 (by decide) rfl ?_
    refine T_lload d_Fi_square_200 rfl ?_
    refine T_ldc2 d_Fi_square_202 kJ_Fi_35 ?_
    refine T_land d_Fi_square_205 ?_
    refine T_topl (fun w24 ew24 => ?_)
    refine T_lstore (L' := [(52, .long w24), (50, .long w23), (48, .long w22), (46, .long w21), (44, .long w20), (42, .long w19), (40, .long w18), (38, .long w17), (36, .long w16), (34, .long w15), (32, .long w14), (30, .long w13), (28, .long w12), (26, .long w11), (24, .long w10), (23, .int (nI k)), (3, .long (sqI k F 0)), (5, .long (sqI k F 1)), (7, .long (sqI k F 2)), (9, .long (sqI k F 3)), (11, .long (sqI k F 4)), (13, .long (sqI k F 5)), (15, .long (sqI k F 6)), (17, .long (sqI k F 7)), (19, .long (sqI k F 8)), (21, .long (sqI k F 9)), (0, .ref to), (1, .ref f), (2, .int (nI n))]) d_Fi_square_206 (by decide) rfl ?_
    refine T_lload d_Fi_square_208 rfl ?_
    refine T_bipush (v := (nI 26)) d_Fi_square_210 (by decide) ?_
    refine T_lshr d_Fi_square_212 ?_
    refine T_lload d_Fi_square_213 rfl ?_
    refine T_lload d_Fi_square_215 rfl ?_
    refine T_lmul d_Fi_square_217 ?_
    refine T_ladd d_Fi_square_218 ?_
    refine T_lload d_Fi_square_219 rfl ?_
    refine T_lload d_Fi_square_221 rfl ?_
    refine T_lmul d_Fi_square_223 ?_
    refine T_ladd d_Fi_square_224 ?_
    refine T_lload d_Fi_square_225 rfl ?_
    refine T_lload d_Fi_square_227 rfl ?_
    refine T_lmul d_Fi_square_229 ?_
    refine T_ladd d_Fi_square_230 ?_
    refine T_lload d_Fi_square_231 rfl ?_
    refine T_lload d_Fi_square_233 rfl ?_
    refine T_lmul d_Fi_square_235 ?_
    refine T_ladd d_Fi_square_236 ?_
    refine T_lload d_Fi_square_237 rfl ?_
    refine T_lload d_Fi_square_239 rfl ?_
    refine T_lmul d_Fi_square_241 ?_
    refine T_ladd d_Fi_square_242 ?_
    refine T_topl (fun w25 ew25 => ?_)
    refine T_lstore (L' := [(50, .long w25), (52, .long w24), (48, .long w22), (46, .long w21), (44, .long w20), (42, .long w19), (40, .long w18), (38, .long w17), (36, .long w16), (34, .long w15), (32, .long w14), (30, .long w13), (28, .long w12), (26, .long w11), (24, .long w10), (23, .int (nI k)), (3, .long (sqI k F 0)), (5, .long (sqI k F 1)), (7, .long (sqI k F 2)), (9, .long (sqI k F 3)), (11, .long (sqI k F 4)), (13, .long (sqI k F 5)), (15, .long (sqI k F 6)), (17, .long (sqI k F 7)), (19, .long (sqI k F 8)), (21, .long (sqI k F 9)), (0, .ref to), (1, .ref f), (2, .int (nI n))]) d_Fi_square_243 (by decide) rfl ?_
    refine T_lload d_Fi_square_245 rfl ?_
    refine T_ldc2 d_Fi_square_247 kJ_Fi_37 ?_
    refine T_land d_Fi_square_250 ?_
    refine T_topl (fun w26 ew26 => ?_)
    refine T_lstore (L' := [(54, .long w26), (50, .long w25), (52, .long w24), (48, .long w22), (46, .long w21), (44, .long w20), (42, .long w19), (40, .long w18), (38, .long w17), (36, .long w16), (34, .long w15), (32, .long w14), (30, .long w13), (28, .long w12), (26, .long w11), (24, .long w10), (23, .int (nI k)), (3, .long (sqI k F 0)), (5, .long (sqI k F 1)), (7, .long (sqI k F 2)), (9, .long (sqI k F 3)), (11, .long (sqI k F 4)), (13, .long (sqI k F 5)), (15, .long (sqI k F 6)), (17, .long (sqI k F 7)), (19, .long (sqI k F 8)), (21, .long (sqI k F 9)), (0, .ref to), (1, .ref f), (2, .int (nI n))]) d_Fi_square_251 (by decide) rfl ?_
    refine T_lload d_Fi_square_253 rfl ?_
    refine T_bipush (v := (nI 25)) d_Fi_square_255 (by decide) ?_
    refine T_lshr d_Fi_square_257 ?_
    refine T_lload d_Fi_square_258 rfl ?_
    refine T_lload d_Fi_square_260 rfl ?_
    refine T_lmul d_Fi_square_262 ?_
    refine T_ladd d_Fi_square_263 ?_
    refine T_lload d_Fi_square_264 rfl ?_
    refine T_lload d_Fi_square_266 rfl ?_
    refine T_lmul d_Fi_square_268 ?_
    refine T_ladd d_Fi_square_269 ?_
    refine T_lload d_Fi_square_270 rfl ?_
    refine T_lload d_Fi_square_272 rfl ?_
    refine T_lmul d_Fi_square_274 ?_
    refine T_ladd d_Fi_square_275 ?_
    refine T_lload d_Fi_square_276 rfl ?_
    refine T_lload d_Fi_square_278 rfl ?_
    refine T_lmul d_Fi_square_280 ?_
    refine T_ladd d_Fi_square_281 ?_
    refine T_lload d_Fi_square_282 rfl ?_
    refine T_lload d_Fi_square_284 rfl ?_
    refine T_lmul d_Fi_square_286 ?_
    refine T_ladd d_Fi_square_287 ?_
    refine T_lload d_Fi_square_288 rfl ?_
    refine T_lload d_Fi_square_290 rfl ?_
    refine T_lmul d_Fi_square_292 ?_
    refine T_ladd d_Fi_square_293 ?_
    refine T_topl (fun w27 ew27 => ?_)
    refine T_lstore (L' := [(50, .long w27), (54, .long w26), (52, .long w24), (48, .long w22), (46, .long w21), (44, .long w20), (42, .long w19), (40, .long w18), (38, .long w17), (36, .long w16), (34, .long w15), (32, .long w14), (30, .long w13), (28, .long w12), (26, .long w11), (24, .long w10), (23, .int (nI k)), (3, .long (sqI k F 0)), (5, .long (sqI k F 1)), (7, .long (sqI k F 2)), (9, .long (sqI k F 3)), (11, .long (sqI k F 4)), (13, .long (sqI k F 5)), (15, .long (sqI k F 6)), (17, .long (sqI k F 7)), (19, .long (sqI k F 8)), (21, .long (sqI k F 9)), (0, .ref to), (1, .ref f), (2, .int (nI n))]) d_Fi_square_294 (by decide) rfl ?_
    refine T_lload d_Fi_square_296 rfl ?_
    refine T_ldc2 d_Fi_square_298 kJ_Fi_35 ?_
    refine T_land d_Fi_square_301 ?_
    refine T_topl (fun w28 ew28 => ?_)
    refine T_lstore (L' := [(56, .long w28), (50, .long w27), (54, .long w26), (52, .long w24), (48, .long w22), (46, .long w21), (44, .long w20), (42, .long w19), (40, .long w18), (38, .long w17), (36, .long w16), (34, .long w15), (32, .long w14), (30, .long w13), (28, .long w12), (26, .long w11), (24, .long w10), (23, .int (nI k)), (3, .long (sqI k F 0)), (5, .long (sqI k F 1)), (7, .long (sqI k F 2)), (9, .long (sqI k F 3)), (11, .long (sqI k F 4)), (13, .long (sqI k F 5)), (15, .long (sqI k F 6)), (17, .long (sqI k F 7)), (19, .long (sqI k F 8)), (21, .long (sqI k F 9)), (0, .ref to), (1, .ref f), (2, .int (nI n))]) d_Fi_square_302 (by decide) rfl ?_
    refine T_lload d_Fi_square_304 rfl ?_
    refine T_bipush (v := (nI 26)) d_Fi_square_306 (by decide) ?_
    refine T_lshr d_Fi_square_308 ?_
    refine T_lload d_Fi_square_309 rfl ?_
    refine T_lload d_Fi_square_311 rfl ?_
    refine T_lmul d_Fi_square_313 ?_
    refine T_ladd d_Fi_square_314 ?_
    refine T_lload d_Fi_square_315 rfl ?_
    refine T_lload d_Fi_square_317 rfl ?_
    refine T_lmul d_Fi_square_319 ?_
    refine T_ladd d_Fi_square_320 ?_
    refine T_lload d_Fi_square_321 rfl ?_
    refine T_lload d_Fi_square_323 rfl ?_
    refine T_lmul d_Fi_square_325 ?_
    refine T_ladd d_Fi_square_326 ?_
    refine T_lload d_Fi_square_327 rfl ?_
    refine T_lload d_Fi_square_329 rfl ?_
    refine T_lmul d_Fi_square_331 ?_
    refine T_ladd d_Fi_square_332 ?_
    refine T_lload d_Fi_square_333 rfl ?_
    refine T_lload d_Fi_square_335 rfl ?_
    refine T_lmul d_Fi_square_337 ?_
    refine T_ladd d_Fi_square_338 ?_
    refine T_topl (fun w29 ew29 => ?_)
    refine T_lstore (L' := [(50, .long w29), (56, .long w28), (54, .long w26), (52, .long w24), (48, .long w22), (46, .long w21), (44, .long w20), (42, .long w19), (40, .long w18), (38, .long w17), (36, .long w16), (34, .long w15), (32, .long w14), (30, .long w13), (28, .long w12), (26, .long w11), (24, .long w10), (23, .int (nI k)), (3, .long (sqI k F 0)), (5, .long (sqI k F 1)), (7, .long (sqI k F 2)), (9, .long (sqI k F 3)), (11, .long (sqI k F 4)), (13, .long (sqI k F 5)), (15, .long (sqI k F 6)), (17, .long (sqI k F 7)), (19, .long (sqI k F 8)), (21, .long (sqI k F 9)), (0, .ref to), (1, .ref f), (2, .int (nI n))]) d_Fi_square_339 (by decide) rfl ?_
    refine T_lload d_Fi_square_341 rfl ?_
    refine T_ldc2 d_Fi_square_343 kJ_Fi_37 ?_
    refine T_land d_Fi_square_346 ?_
    refine T_topl (fun w30 ew30 => ?_)
    refine T_lstore (L' := [(58, .long w30), (50, .long w29), (56, .long w28), (54, .long w26), (52, .long w24), (48, .long w22), (46, .long w21), (44, .long w20), (42, .long w19), (40, .long w18), (38, .long w17), (36, .long w16), (34, .long w15), (32, .long w14), (30, .long w13), (28, .long w12), (26, .long w11), (24, .long w10), (23, .int (nI k)), (3, .long (sqI k F 0)), (5, .long (sqI k F 1)), (7, .long (sqI k F 2)), (9, .long (sqI k F 3)), (11, .long (sqI k F 4)), (13, .long (sqI k F 5)), (15, .long (sqI k F 6)), (17, .long (sqI k F 7)), (19, .long (sqI k F 8)), (21, .long (sqI k F 9)), (0, .ref to), (1, .ref f), (2, .int (nI n))]) d_Fi_square_347 (by decide) rfl ?_
    refine T_lload d_Fi_square_349 rfl ?_
    refine T_bipush (v := (nI 25)) d_Fi_square_351 (by decide) ?_
    refine T_lshr d_Fi_square_353 ?_
    refine T_lload d_Fi_square_354 rfl ?_
    refine T_lload d_Fi_square_356 rfl ?_
    refine T_lmul d_Fi_square_358 ?_
    refine T_ladd d_Fi_square_359 ?_
    refine T_lload d_Fi_square_360 rfl ?_
    refine T_lload d_Fi_square_362 rfl ?_
    refine T_lmul d_Fi_square_364 ?_
    refine T_ladd d_Fi_square_365 ?_
    refine T_lload d_Fi_square_366 rfl ?_
    refine T_lload d_Fi_square_368 rfl ?_
    refine T_lmul d_Fi_square_370 ?_
    refine T_ladd d_Fi_square_371 ?_
    refine T_lload d_Fi_square_372 rfl ?_
    refine T_lload d_Fi_square_374 rfl ?_
    refine T_lmul d_Fi_square_376 ?_
    refine T_ladd d_Fi_square_377 ?_
    refine T_lload d_Fi_square_378 rfl ?_
    refine T_lload d_Fi_square_380 rfl ?_
    refine T_lmul d_Fi_square_382 ?_
    refine T_ladd d_Fi_square_383 ?_
    refine T_lload d_Fi_square_384 rfl ?_
    refine T_lload d_Fi_square_386 rfl ?_
    refine T_lmul d_Fi_square_388 ?_
    refine T_ladd d_Fi_square_389 ?_
    refine T_topl (fun w31 ew31 => ?_)
    refine T_lstore (L' := [(50, .long w31), (58, .long w30), (56, .long w28), (54, .long w26), (52, .long w24), (48, .long w22), (46, .long w21), (44, .long w20), (42, .long w19), (40, .long w18), (38, .long w17), (36, .long w16), (34, .long w15), (32, .long w14), (30, .long w13), (28, .long w12), (26, .long w11), (24, .long w10), (23, .int (nI k)), (3, .long (sqI k F 0)), (5, .long (sqI k F 1)), (7, .long (sqI k F 2)), (9, .long (sqI k F 3)), (11, .long (sqI k F 4)), (13, .long (sqI k F 5)), (15, .long (sqI k F 6)), (17, .long (sqI k F 7)), (19, .long (sqI k F 8)), (21, .long (sqI k F 9)), (0, .ref to), (1, .ref f), (2, .int (nI n))]) d_Fi_square_390 (by decide) rfl ?_
    refine T_lload d_Fi_square_392 rfl ?_
    refine T_ldc2 d_Fi_square_394 kJ_Fi_35 ?_
    refine T_land d_Fi_square_397 ?_
    refine T_topl (fun w32 ew32 => ?_)
    refine T_lstore (L' := [(60, .long w32), (50, .long w31), (58, .long w30), (56, .long w28), (54, .long w26), (52, .long w24), (48, .long w22), (46, .long w21), (44, .long w20), (42, .long w19), (40, .long w18), (38, .long w17), (36, .long w16), (34, .long w15), (32, .long w14), (30, .long w13), (28, .long w12), (26, .long w11), (24, .long w10), (23, .int (nI k)), (3, .long (sqI k F 0)), (5, .long (sqI k F 1)), (7, .long (sqI k F 2)), (9, .long (sqI k F 3)), (11, .long (sqI k F 4)), (13, .long (sqI k F 5)), (15, .long (sqI k F 6)), (17, .long (sqI k F 7)), (19, .long (sqI k F 8)), (21, .long (sqI k F 9)), (0, .ref to), (1, .ref f), (2, .int (nI n))]) d_Fi_square_398 (by decide) rfl ?_
    refine T_lload d_Fi_square_400 rfl ?_
    refine T_bipush (v := (nI 26)) d_Fi_square_402 (by decide) ?_
    refine T_lshr d_Fi_square_404 ?_
    refine T_lload d_Fi_square_405 rfl ?_
    refine T_lload d_Fi_square_407 rfl ?_
    refine T_lmul d_Fi_square_409 ?_
    refine T_ladd d_Fi_square_410 ?_
    refine T_lload d_Fi_square_411 rfl ?_
    refine T_lload d_Fi_square_413 rfl ?_
    refine T_lmul d_Fi_square_415 ?_
    refine T_ladd d_Fi_square_416 ?_
    refine T_lload d_Fi_square_417 rfl ?_
    refine T_lload d_Fi_square_419 rfl ?_
    refine T_lmul d_Fi_square_421 ?_
    refine T_ladd d_Fi_square_422 ?_
    refine T_lload d_Fi_square_423 rfl ?_
    refine T_lload d_Fi_square_425 rfl ?_
    refine T_lmul d_Fi_square_427 ?_
    refine T_ladd d_Fi_square_428 ?_
    refine T_lload d_Fi_square_429 rfl ?_
    refine T_lload d_Fi_square_431 rfl ?_
    refine T_lmul d_Fi_square_433 ?_
    refine T_ladd d_Fi_square_434 ?_
    refine T_topl (fun w33 ew33 => ?_)
    refine T_lstore (L' := [(50, .long w33), (60, .long w32), (58, .long w30), (56, .long w28), (54, .long w26), (52, .long w24), (48, .long w22), (46, .long w21), (44, .long w20), (42, .long w19), (40, .long w18), (38, .long w17), (36, .long w16), (34, .long w15), (32, .long w14), (30, .long w13), (28, .long w12), (26, .long w11), (24, .long w10), (23, .int (nI k)), (3, .long (sqI k F 0)), (5, .long (sqI k F 1)), (7, .long (sqI k F 2)), (9, .long (sqI k F 3)), (11, .long (sqI k F 4)), (13, .long (sqI k F 5)), (15, .long (sqI k F 6)), (17, .long (sqI k F 7)), (19, .long (sqI k F 8)), (21, .long (sqI k F 9)), (0, .ref to), (1, .ref f), (2, .int (nI n))]) d_Fi_square_435 (by decide) rfl ?_
    refine T_lload d_Fi_square_437 rfl ?_
    refine T_ldc2 d_Fi_square_439 kJ_Fi_37 ?_
    refine T_land d_Fi_square_442 ?_
    refine T_topl (fun w34 ew34 => ?_)
    refine T_lstore (L' := [(62, .long w34), (50, .long w33), (60, .long w32), (58, .long w30), (56, .long w28), (54, .long w26), (52, .long w24), (48, .long w22), (46, .long w21), (44, .long w20), (42, .long w19), (40, .long w18), (38, .long w17), (36, .long w16), (34, .long w15), (32, .long w14), (30, .long w13), (28, .long w12), (26, .long w11), (24, .long w10), (23, .int (nI k)), (3, .long (sqI k F 0)), (5, .long (sqI k F 1)), (7, .long (sqI k F 2)), (9, .long (sqI k F 3)), (11, .long (sqI k F 4)), (13, .long (sqI k F 5)), (15, .long (sqI k F 6)), (17, .long (sqI k F 7)), (19, .long (sqI k F 8)), (21, .long (sqI k F 9)), (0, .ref to), (1, .ref f), (2, .int (nI n))]) d_Fi_square_443 (by decide) rfl ?_
    refine T_lload d_Fi_square_445 rfl ?_
    refine T_bipush (v := (nI 25)) d_Fi_square_447 (by decide) ?_
    refine T_lshr d_Fi_square_449 ?_
    refine T_lload d_Fi_square_450 rfl ?_
    refine T_lload d_Fi_square_452 rfl ?_
    refine T_lmul d_Fi_square_454 ?_
    refine T_ladd d_Fi_square_455 ?_
    refine T_lload d_Fi_square_456 rfl ?_
    refine T_lload d_Fi_square_458 rfl ?_
    refine T_lmul d_Fi_square_460 ?_
    refine T_ladd d_Fi_square_461 ?_
    refine T_lload d_Fi_square_462 rfl ?_
    refine T_lload d_Fi_square_464 rfl ?_
    refine T_lmul d_Fi_square_466 ?_
    refine T_ladd d_Fi_square_467 ?_
    refine T_lload d_Fi_square_468 rfl ?_
    refine T_lload d_Fi_square_470 rfl ?_
    refine T_lmul d_Fi_square_472 ?_
    refine T_ladd d_Fi_square_473 ?_
    refine T_lload d_Fi_square_474 rfl ?_
    refine T_lload d_Fi_square_476 rfl ?_
    refine T_lmul d_Fi_square_478 ?_
    refine T_ladd d_Fi_square_479 ?_
    refine T_lload d_Fi_square_480 rfl ?_
    refine T_lload d_Fi_square_482 rfl ?_
    refine T_lmul d_Fi_square_484 ?_
    refine T_ladd d_Fi_square_485 ?_
    refine T_topl (fun w35 ew35 => ?_)
    refine T_lstore (L' := [(50, .long w35), (62, .long w34), (60, .long w32), (58, .long w30), (56, .long w28), (54, .long w26), (52, .long w24), (48, .long w22), (46, .long w21), (44, .long w20), (42, .long w19), (40, .long w18), (38, .long w17), (36, .long w16), (34, .long w15), (32, .long w14), (30, .long w13), (28, .long w12), (26, .long w11), (24, .long w10), (23, .int (nI k)), (3, .long (sqI k F 0)), (5, .long (sqI k F 1)), (7, .long (sqI k F 2)), (9, .long (sqI k F 3)), (11, .long (sqI k F 4)), (13, .long (sqI k F 5)), (15, .long (sqI k F 6)), (17, .long (sqI k F 7)), (19, .long (sqI k F 8)), (21, .long (sqI k F 9)), (0, .ref to), (1, .ref f), (2, .int (nI n))]) d_Fi_square_486 (by decide) rfl ?_
    refine T_lload d_Fi_square_488 rfl ?_
    refine T_ldc2 d_Fi_square_490 kJ_Fi_35 ?_
    refine T_land d_Fi_square_493 ?_
    refine T_topl (fun w36 ew36 => ?_)
    refine T_lstore (L' := [(64, .long w36), (50, .long w35), (62, .long w34), (60, .long w32), (58, .long w30), (56, .long w28), (54, .long w26), (52, .long w24), (48, .long w22), (46, .long w21), (44, .long w20), (42, .long w19), (40, .long w18), (38, .long w17), (36, .long w16), (34, .long w15), (32, .long w14), (30, .long w13), (28, .long w12), (26, .long w11), (24, .long w10), (23, .int (nI k)), (3, .long (sqI k F 0)), (5, .long (sqI k F 1)), (7, .long (sqI k F 2)), (9, .long (sqI k F 3)), (11, .long (sqI k F 4)), (13, .long (sqI k F 5)), (15, .long (sqI k F 6)), (17, .long (sqI k F 7)), (19, .long (sqI k F 8)), (21, .long (sqI k F 9)), (0, .ref to), (1, .ref f), (2, .int (nI n))]) d_Fi_square_494 (by decide) rfl ?_
    refine T_lload d_Fi_square_496 rfl ?_
    refine T_bipush (v := (nI 26)) d_Fi_square_498 (by decide) ?_
    refine T_lshr d_Fi_square_500 ?_
    refine T_lload d_Fi_square_501 rfl ?_
    refine T_lload d_Fi_square_503 rfl ?_
    refine T_lmul d_Fi_square_505 ?_
    refine T_ladd d_Fi_square_506 ?_
    refine T_lload d_Fi_square_507 rfl ?_
    refine T_lload d_Fi_square_509 rfl ?_
    refine T_lmul d_Fi_square_511 ?_
    refine T_ladd d_Fi_square_512 ?_
    refine T_lload d_Fi_square_513 rfl ?_
    refine T_lload d_Fi_square_515 rfl ?_
    refine T_lmul d_Fi_square_517 ?_
    refine T_ladd d_Fi_square_518 ?_
    refine T_lload d_Fi_square_519 rfl ?_
    refine T_lload d_Fi_square_521 rfl ?_
    refine T_lmul d_Fi_square_523 ?_
    refine T_ladd d_Fi_square_524 ?_
    refine T_lload d_Fi_square_525 rfl ?_
    refine T_lload d_Fi_square_527 rfl ?_
    refine T_lmul d_Fi_square_529 ?_
    refine T_ladd d_Fi_square_530 ?_
    refine T_topl (fun w37 ew37 => ?_)
    refine T_lstore (L' := [(50, .long w37), (64, .long w36), (62, .long w34), (60, .long w32), (58, .long w30), (56, .long w28), (54, .long w26), (52, .long w24), (48, .long w22), (46, .long w21), (44, .long w20), (42, .long w19), (40, .long w18), (38, .long w17), (36, .long w16), (34, .long w15), (32, .long w14), (30, .long w13), (28, .long w12), (26, .long w11), (24, .long w10), (23, .int (nI k)), (3, .long (sqI k F 0)), (5, .long (sqI k F 1)), (7, .long (sqI k F 2)), (9, .long (sqI k F 3)), (11, .long (sqI k F 4)), (13, .long (sqI k F 5)), (15, .long (sqI k F 6)), (17, .long (sqI k F 7)), (19, .long (sqI k F 8)), (21, .long (sqI k F 9)), (0, .ref to), (1, .ref f), (2, .int (nI n))]) d_Fi_square_531 (by decide) rfl ?_
    refine T_lload d_Fi_square_533 rfl ?_
    refine T_ldc2 d_Fi_square_535 kJ_Fi_37 ?_
    refine T_land d_Fi_square_538 ?_
    refine T_topl (fun w38 ew38 => ?_)
    refine T_lstore (L' := [(66, .long w38), (50, .long w37), (64, .long w36), (62, .long w34), (60, .long w32), (58, .long w30), (56, .long w28), (54, .long w26), (52, .long w24), (48, .long w22), (46, .long w21), (44, .long w20), (42, .long w19), (40, .long w18), (38, .long w17), (36, .long w16), (34, .long w15), (32, .long w14), (30, .long w13), (28, .long w12), (26, .long w11), (24, .long w10), (23, .int (nI k)), (3, .long (sqI k F 0)), (5, .long (sqI k F 1)), (7, .long (sqI k F 2)), (9, .long (sqI k F 3)), (11, .long (sqI k F 4)), (13, .long (sqI k F 5)), (15, .long (sqI k F 6)), (17, .long (sqI k F 7)), (19, .long (sqI k F 8)), (21, .long (sqI k F 9)), (0, .ref to), (1, .ref f), (2, .int (nI n))]) d_Fi_square_539 (by decide) rfl ?_
    refine T_lload d_Fi_square_541 rfl ?_
    refine T_bipush (v := (nI 25)) d_Fi_square_543 (by decide) ?_
    refine T_lshr d_Fi_square_545 ?_
    refine T_lload d_Fi_square_546 rfl ?_
    refine T_lload d_Fi_square_548 rfl ?_
    refine T_lmul d_Fi_square_550 ?_
    refine T_ladd d_Fi_square_551 ?_
    refine T_lload d_Fi_square_552 rfl ?_
    refine T_lload d_Fi_square_554 rfl ?_
    refine T_lmul d_Fi_square_556 ?_
    refine T_ladd d_Fi_square_557 ?_
    refine T_lload d_Fi_square_558 rfl ?_
    refine T_lload d_Fi_square_560 rfl ?_
    refine T_lmul d_Fi_square_562 ?_
    refine T_ladd d_Fi_square_563 ?_
    refine T_lload d_Fi_square_564 rfl ?_
    refine T_lload d_Fi_square_566 rfl ?_
    refine T_lmul d_Fi_square_568 ?_
    refine T_ladd d_Fi_square_569 ?_
    refine T_lload d_Fi_square_570 rfl ?_
    refine T_lload d_Fi_square_572 rfl ?_
    refine T_lmul d_Fi_square_574 ?_
    refine T_ladd d_Fi_square_575 ?_
    refine T_lload d_Fi_square_576 rfl ?_
    refine T_lload d_Fi_square_578 rfl ?_
    refine T_lmul d_Fi_square_580 ?_
    refine T_ladd d_Fi_square_581 ?_
    refine T_topl (fun w39 ew39 => ?_)
    refine T_lstore (L' := [(50, .long w39), (66, .long w38), (64, .long w36), (62, .long w34), (60, .long w32), (58, .long w30), (56, .long w28), (54, .long w26), (52, .long w24), (48, .long w22), (46, .long w21), (44, .long w20), (42, .long w19), (40, .long w18), (38, .long w17), (36, .long w16), (34, .long w15), (32, .long w14), (30, .long w13), (28, .long w12), (26, .long w11), (24, .long w10), (23, .int (nI k)), (3, .long (sqI k F 0)), (5, .long (sqI k F 1)), (7, .long (sqI k F 2)), (9, .long (sqI k F 3)), (11, .long (sqI k F 4)), (13, .long (sqI k F 5)), (15, .long (sqI k F 6)), (17, .long (sqI k F 7)), (19, .long (sqI k F 8)), (21, .long (sqI k F 9)), (0, .ref to), (1, .ref f), (2, .int (nI n))]) d_Fi_square_582 (by decide) rfl ?_
    refine T_lload d_Fi_square_584 rfl ?_
    refine T_ldc2 d_Fi_square_586 kJ_Fi_35 ?_
    refine T_land d_Fi_square_589 ?_
    refine T_topl (fun w40 ew40 => ?_)
    refine T_lstore (L' := [(68, .long w40), (50, .long w39), (66, .long w38), (64, .long w36), (62, .long w34), (60, .long w32), (58, .long w30), (56, .long w28), (54, .long w26), (52, .long w24), (48, .long w22), (46, .long w21), (44, .long w20), (42, .long w19), (40, .long w18), (38, .long w17), (36, .long w16), (34, .long w15), (32, .long w14), (30, .long w13), (28, .long w12), (26, .long w11), (24, .long w10), (23, .int (nI k)), (3, .long (sqI k F 0)), (5, .long (sqI k F 1)), (7, .long (sqI k F 2)), (9, .long (sqI k F 3)), (11, .long (sqI k F 4)), (13, .long (sqI k F 5)), (15, .long (sqI k F 6)), (17, .long (sqI k F 7)), (19, .long (sqI k F 8)), (21, .long (sqI k F 9)), (0, .ref to), (1, .ref f), (2, .int (nI n))]) d_Fi_square_590 (by decide) rfl ?_
    refine T_lload d_Fi_square_592 rfl ?_
    refine T_bipush (v := (nI 26)) d_Fi_square_594 (by decide) ?_
    refine T_lshr d_Fi_square_596 ?_
    refine T_lload d_Fi_square_597 rfl ?_
    refine T_lload d_Fi_square_599 rfl ?_
    refine T_lmul d_Fi_square_601 ?_
    refine T_ladd d_Fi_square_602 ?_
    refine T_lload d_Fi_square_603 rfl ?_
    refine T_lload d_Fi_square_605 rfl ?_
    refine T_lmul d_Fi_square_607 ?_
    refine T_ladd d_Fi_square_608 ?_
    refine T_lload d_Fi_square_609 rfl ?_
    refine T_lload d_Fi_square_611 rfl ?_
    refine T_lmul d_Fi_square_613 ?_
    refine T_ladd d_Fi_square_614 ?_
    refine T_lload d_Fi_square_615 rfl ?_
    refine T_lload d_Fi_square_617 rfl ?_
    refine T_lmul d_Fi_square_619 ?_
    refine T_ladd d_Fi_square_620 ?_
    refine T_lload d_Fi_square_621 rfl ?_
    refine T_lload d_Fi_square_623 rfl ?_
    refine T_lmul d_Fi_square_625 ?_
    refine T_ladd d_Fi_square_626 ?_
    refine T_topl (fun w41 ew41 => ?_)
    refine T_lstore (L' := [(50, .long w41), (68, .long w40), (66, .long w38), (64, .long w36), (62, .long w34), (60, .long w32), (58, .long w30), (56, .long w28), (54, .long w26), (52, .long w24), (48, .long w22), (46, .long w21), (44, .long w20), (42, .long w19), (40, .long w18), (38, .long w17), (36, .long w16), (34, .long w15), (32, .long w14), (30, .long w13), (28, .long w12), (26, .long w11), (24, .long w10), (23, .int (nI k)), (3, .long (sqI k F 0)), (5, .long (sqI k F 1)), (7, .long (sqI k F 2)), (9, .long (sqI k F 3)), (11, .long (sqI k F 4)), (13, .long (sqI k F 5)), (15, .long (sqI k F 6)), (17, .long (sqI k F 7)), (19, .long (sqI k F 8)), (21, .long (sqI k F 9)), (0, .ref to), (1, .ref f), (2, .int (nI n))]) d_Fi_square_627 (by decide) rfl ?_
    refine T_lload d_Fi_square_629 rfl ?_
    refine T_ldc2 d_Fi_square_631 kJ_Fi_37 ?_
    refine T_land d_Fi_square_634 ?_
    refine T_topl (fun w42 ew42 => ?_)
    refine T_lstore (L' := [(21, .long w42), (50, .long w41), (68, .long w40), (66, .long w38), (64, .long w36), (62, .long w34), (60, .long w32), (58, .long w30), (56, .long w28), (54, .long w26), (52, .long w24), (48, .long w22), (46, .long w21), (44, .long w20), (42, .long w19), (40, .long w18), (38, .long w17), (36, .long w16), (34, .long w15), (32, .long w14), (30, .long w13), (28, .long w12), (26, .long w11), (24, .long w10), (23, .int (nI k)), (3, .long (sqI k F 0)), (5, .long (sqI k F 1)), (7, .long (sqI k F 2)), (9, .long (sqI k F 3)), (11, .long (sqI k F 4)), (13, .long (sqI k F 5)), (15, .long (sqI k F 6)), (17, .long (sqI k F 7)), (19, .long (sqI k F 8)), (0, .ref to), (1, .ref f), (2, .int (nI n))]) d_Fi_square_635 (by decide) rfl ?_
    refine T_lload d_Fi_square_637 rfl ?_
    refine T_bipush (v := (nI 25)) d_Fi_square_639 (by decide) ?_
    refine T_lshr d_Fi_square_641 ?_
    refine T_ldc2 d_Fi_square_642 kJ_Fi_31 ?_
    refine T_lmul d_Fi_square_645 ?_
    refine T_lload d_Fi_square_646 rfl ?_
    refine T_ladd d_Fi_square_648 ?_
    refine T_topl (fun w43 ew43 => ?_)
    refine T_lstore (L' := [(50, .long w43), (21, .long w42), (68, .long w40), (66, .long w38), (64, .long w36), (62, .long w34), (60, .long w32), (58, .long w30), (56, .long w28), (54, .long w26), (52, .long w24), (48, .long w22), (46, .long w21), (44, .long w20), (42, .long w19), (40, .long w18), (38, .long w17), (36, .long w16), (34, .long w15), (32, .long w14), (30, .long w13), (28, .long w12), (26, .long w11), (24, .long w10), (23, .int (nI k)), (3, .long (sqI k F 0)), (5, .long (sqI k F 1)), (7, .long (sqI k F 2)), (9, .long (sqI k F 3)), (11, .long (sqI k F 4)), (13, .long (sqI k F 5)), (15, .long (sqI k F 6)), (17, .long (sqI k F 7)), (19, .long (sqI k F 8)), (0, .ref to), (1, .ref f), (2, .int (nI n))]) d_Fi_square_649 (by decide) rfl ?_
    refine T_lload d_Fi_square_651 rfl ?_
    refine T_ldc2 d_Fi_square_653 kJ_Fi_35 ?_
    refine T_land d_Fi_square_656 ?_
    refine T_topl (fun w44 ew44 => ?_)
    refine T_lstore_n (L' := [(3, .long w44), (50, .long w43), (21, .long w42), (68, .long w40), (66, .long w38), (64, .long w36), (62, .long w34), (60, .long w32), (58, .long w30), (56, .long w28), (54, .long w26), (52, .long w24), (48, .long w22), (46, .long w21), (44, .long w20), (42, .long w19), (40, .long w18), (38, .long w17), (36, .long w16), (34, .long w15), (32, .long w14), (30, .long w13), (28, .long w12), (26, .long w11), (24, .long w10), (23, .int (nI k)), (5, .long (sqI k F 1)), (7, .long (sqI k F 2)), (9, .long (sqI k F 3)), (11, .long (sqI k F 4)), (13, .long (sqI k F 5)), (15, .long (sqI k F 6)), (17, .long (sqI k F 7)), (19, .long (sqI k F 8)), (0, .ref to), (1, .ref f), (2, .int (nI n))]) d_Fi_square_657 (by decide) rfl ?_
    refine T_lload d_Fi_square_658 rfl ?_
    refine T_lload d_Fi_square_660 rfl ?_
    refine T_bipush (v := (nI 26)) d_Fi_square_662 (by decide) ?_
    refine T_lshr d_Fi_square_664 ?_
    refine T_ladd d_Fi_square_665 ?_
    refine T_topl (fun w45 ew45 => ?_)
    refine T_lstore (L' := [(5, .long w45), (3, .long w44), (50, .long w43), (21, .long w42), (68, .long w40), (66, .long w38), (64, .long w36), (62, .long w34), (60, .long w32), (58, .long w30), (56, .long w28), (54, .long w26), (52, .long w24), (48, .long w22), (46, .long w21), (44, .long w20), (42, .long w19), (40, .long w18), (38, .long w17), (36, .long w16), (34, .long w15), (32, .long w14), (30, .long w13), (28, .long w12), (26, .long w11), (24, .long w10), (23, .int (nI k)), (7, .long (sqI k F 2)), (9, .long (sqI k F 3)), (11, .long (sqI k F 4)), (13, .long (sqI k F 5)), (15, .long (sqI k F 6)), (17, .long (sqI k F 7)), (19, .long (sqI k F 8)), (0, .ref to), (1, .ref f), (2, .int (nI n))]) d_Fi_square_666 (by decide) rfl ?_
    refine T_lload d_Fi_square_668 rfl ?_
    refine T_topl (fun w46 ew46 => ?_)
    refine T_lstore (L' := [(7, .long w46), (5, .long w45), (3, .long w44), (50, .long w43), (21, .long w42), (68, .long w40), (66, .long w38), (64, .long w36), (62, .long w34), (60, .long w32), (58, .long w30), (56, .long w28), (54, .long w26), (52, .long w24), (48, .long w22), (46, .long w21), (44, .long w20), (42, .long w19), (40, .long w18), (38, .long w17), (36, .long w16), (34, .long w15), (32, .long w14), (30, .long w13), (28, .long w12), (26, .long w11), (24, .long w10), (23, .int (nI k)), (9, .long (sqI k F 3)), (11, .long (sqI k F 4)), (13, .long (sqI k F 5)), (15, .long (sqI k F 6)), (17, .long (sqI k F 7)), (19, .long (sqI k F 8)), (0, .ref to), (1, .ref f), (2, .int (nI n))]) d_Fi_square_670 (by decide) rfl ?_
    refine T_lload d_Fi_square_672 rfl ?_
    refine T_topl (fun w47 ew47 => ?_)
    refine T_lstore (L' := [(9, .long w47), (7, .long w46), (5, .long w45), (3, .long w44), (50, .long w43), (21, .long w42), (68, .long w40), (66, .long w38), (64, .long w36), (62, .long w34), (60, .long w32), (58, .long w30), (56, .long w28), (54, .long w26), (52, .long w24), (48, .long w22), (46, .long w21), (44, .long w20), (42, .long w19), (40, .long w18), (38, .long w17), (36, .long w16), (34, .long w15), (32, .long w14), (30, .long w13), (28, .long w12), (26, .long w11), (24, .long w10), (23, .int (nI k)), (11, .long (sqI k F 4)), (13, .long (sqI k F 5)), (15, .long (sqI k F 6)), (17, .long (sqI k F 7)), (19, .long (sqI k F 8)), (0, .ref to), (1, .ref f), (2, .int (nI n))]) d_Fi_square_674 (by decide) rfl ?_
    refine T_lload d_Fi_square_676 rfl ?_
    refine T_topl (fun w48 ew48 => ?_)
    refine T_lstore (L' := [(11, .long w48), (9, .long w47), (7, .long w46), (5, .long w45), (3, .long w44), (50, .long w43), (21, .long w42), (68, .long w40), (66, .long w38), (64, .long w36), (62, .long w34), (60, .long w32), (58, .long w30), (56, .long w28), (54, .long w26), (52, .long w24), (48, .long w22), (46, .long w21), (44, .long w20), (42, .long w19), (40, .long w18), (38, .long w17), (36, .long w16), (34, .long w15), (32, .long w14), (30, .long w13), (28, .long w12), (26, .long w11), (24, .long w10), (23, .int (nI k)), (13, .long (sqI k F 5)), (15, .long (sqI k F 6)), (17, .long (sqI k F 7)), (19, .long (sqI k F 8)), (0, .ref to), (1, .ref f), (2, .int (nI n))]) d_Fi_square_678 (by decide) rfl ?_
    refine T_lload d_Fi_square_680 rfl ?_
    refine T_topl (fun w49 ew49 => ?_)
    refine T_lstore (L' := [(13, .long w49), (11, .long w48), (9, .long w47), (7, .long w46), (5, .long w45), (3, .long w44), (50, .long w43), (21, .long w42), (68, .long w40), (66, .long w38), (64, .long w36), (62, .long w34), (60, .long w32), (58, .long w30), (56, .long w28), (54, .long w26), (52, .long w24), (48, .long w22), (46, .long w21), (44, .long w20), (42, .long w19), (40, .long w18), (38, .long w17), (36, .long w16), (34, .long w15), (32, .long w14), (30, .long w13), (28, .long w12), (26, .long w11), (24, .long w10), (23, .int (nI k)), (15, .long (sqI k F 6)), (17, .long (sqI k F 7)), (19, .long (sqI k F 8)), (0, .ref to), (1, .ref f), (2, .int (nI n))]) d_Fi_square_682 (by decide) rfl ?_
    refine T_lload d_Fi_square_684 rfl ?_
    refine T_topl (fun w50 ew50 => ?_)
    refine T_lstore (L' := [(15, .long w50), (13, .long w49), (11, .long w48), (9, .long w47), (7, .long w46), (5, .long w45), (3, .long w44), (50, .long w43), (21, .long w42), (68, .long w40), (66, .long w38), (64, .long w36), (62, .long w34), (60, .long w32), (58, .long w30), (56, .long w28), (54, .long w26), (52, .long w24), (48, .long w22), (46, .long w21), (44, .long w20), (42, .long w19), (40, .long w18), (38, .long w17), (36, .long w16), (34, .long w15), (32, .long w14), (30, .long w13), (28, .long w12), (26, .long w11), (24, .long w10), (23, .int (nI k)), (17, .long (sqI k F 7)), (19, .long (sqI k F 8)), (0, .ref to), (1, .ref f), (2, .int (nI n))]) d_Fi_square_686 (by decide) rfl ?_
    refine T_lload d_Fi_square_688 rfl ?_
    refine T_topl (fun w51 ew51 => ?_)
    refine T_lstore (L' := [(17, .long w51), (15, .long w50), (13, .long w49), (11, .long w48), (9, .long w47), (7, .long w46), (5, .long w45), (3, .long w44), (50, .long w43), (21, .long w42), (68, .long w40), (66, .long w38), (64, .long w36), (62, .long w34), (60, .long w32), (58, .long w30), (56, .long w28), (54, .long w26), (52, .long w24), (48, .long w22), (46, .long w21), (44, .long w20), (42, .long w19), (40, .long w18), (38, .long w17), (36, .long w16), (34, .long w15), (32, .long w14), (30, .long w13), (28, .long w12), (26, .long w11), (24, .long w10), (23, .int (nI k)), (19, .long (sqI k F 8)), (0, .ref to), (1, .ref f), (2, .int (nI n))]) d_Fi_square_690 (by decide) rfl ?_
    refine T_lload d_Fi_square_692 rfl ?_
    refine T_topl (fun w52 ew52 => ?_)
    refine T_lstore (L' := [(19, .long w52), (17, .long w51), (15, .long w50), (13, .long w49), (11, .long w48), (9, .long w47), (7, .long w46), (5, .long w45), (3, .long w44), (50, .long w43), (21, .long w42), (68, .long w40), (66, .long w38), (64, .long w36), (62, .long w34), (60, .long w32), (58, .long w30), (56, .long w28), (54, .long w26), (52, .long w24), (48, .long w22), (46, .long w21), (44, .long w20), (42, .long w19), (40, .long w18), (38, .long w17), (36, .long w16), (34, .long w15), (32, .long w14), (30, .long w13), (28, .long w12), (26, .long w11), (24, .long w10), (23, .int (nI k)), (0, .ref to), (1, .ref f), (2, .int (nI n))]) d_Fi_square_694 (by decide) rfl ?_
    refine T_iinc (x := nI k) (L' := [(23, .int (nI (k + 1))), (19, .long w52), (17, .long w51), (15, .long w50), (13, .long w49), (11, .long w48), (9, .long w47), (7, .long w46), (5, .long w45), (3, .long w44), (50, .long w43), (21, .long w42), (68, .long w40), (66, .long w38), (64, .long w36), (62, .long w34), (60, .long w32), (58, .long w30), (56, .long w28), (54, .long w26), (52, .long w24), (48, .long w22), (46, .long w21), (44, .long w20), (42, .long w19), (40, .long w18), (38, .long w17), (36, .long w16), (34, .long w15), (32, .long w14), (30, .long w13), (28, .long w12), (26, .long w11), (24, .long w10), (0, .ref to), (1, .ref f), (2, .int (nI n))]) d_Fi_square_696 (by decide) rfl (by rw [show Int32.ofInt 1 = nI 1 from rfl, nI_add]; rfl) ?_
    refine T_goto (tgt := 56) d_Fi_square_699 rfl ?_
    refine T_sub (L' := [(23, .int (nI (k + 1))), (3, .long w44), (5, .long w45), (7, .long w46), (9, .long w47), (11, .long w48), (13, .long w49), (15, .long w50), (17, .long w51), (19, .long w52), (21, .long w42), (0, .ref to), (1, .ref f), (2, .int (nI n))]) (fun q hq => ?_) ?_
    · simp only [List.mem_cons, List.not_mem_nil, or_false] at hq ⊢
      rcases hq with rfl | rfl | rfl | rfl | rfl | rfl | rfl | rfl | rfl | rfl | rfl | rfl | rfl | rfl <;> simp
    subst ew10 ew11 ew12 ew13 ew14 ew15 ew16 ew17 ew18 ew19 ew20 ew21 ew22 ew23 ew24 ew25 ew26 ew27 ew28 ew29 ew30 ew31 ew32 ew33 ew34 ew35 ew36 ew37 ew38 ew39 ew40 ew41 ew42 ew43 ew44 ew45 ew46 ew47 ew48 ew49 ew50 ew51 ew52
    exact ih (k + 1) (by omega)
set_option maxRecDepth 100000 in
set_option maxHeartbeats 4000000 in
theorem x_Fi_square (G : GX) {M : List va_E} {to f n : Nat} {H F : Nat → Int64} (hn : n < 2 ^ 31) (kto : K0 ≤ to) (hto : M[to]? = some (lr 10 H)) (hf : M[f]? = some (lr 10 F)) : CT G mi_Fi_square [.ref to, .ref f, .int (nI n)] M (fun r M' => r = none ∧ ∃ F', M' = M.set to (lr 10 F') ∧ ∀ i, i < 10 → F' i = sqI n F i) := by
  refine CT.of (by decide) (Nat.le_of_ble_eq_true rfl) ?_
  show TT G mi_Fi_square 0 [(0, .ref to), (1, .ref f), (2, .int (nI n))] [] M 0 0 _
  refine T_aload_n (v := .ref f) d_Fi_square_0 rfl (Or.inr ⟨_, rfl⟩) ?_
  refine T_iconst (v := (nI 0)) d_Fi_square_1 (by decide) ?_
  refine T_laload d_Fi_square_2 hf (vp_in_nI (by decide) (by decide)) ?_
  refine T_eq (pc' := 3) (st' := [.long (F 0)]) rfl rfl rfl rfl ?_
  refine T_topl (fun w0 ew0 => ?_)
  refine T_lstore_n (L' := [(3, .long w0), (0, .ref to), (1, .ref f), (2, .int (nI n))]) d_Fi_square_3 (by decide) rfl ?_
  refine T_aload_n (v := .ref f) d_Fi_square_4 rfl (Or.inr ⟨_, rfl⟩) ?_
  refine T_iconst (v := (nI 1)) d_Fi_square_5 (by decide) ?_
  refine T_laload d_Fi_square_6 hf (vp_in_nI (by decide) (by decide)) ?_
  refine T_eq (pc' := 7) (st' := [.long (F 1)]) rfl rfl rfl rfl ?_
  refine T_topl (fun w1 ew1 => ?_)
  refine T_lstore (L' := [(5, .long w1), (3, .long w0), (0, .ref to), (1, .ref f), (2, .int (nI n))]) d_Fi_square_7 (by decide) rfl ?_
  refine T_aload_n (v := .ref f) d_Fi_square_9 rfl (Or.inr ⟨_, rfl⟩) ?_
  refine T_iconst (v := (nI 2)) d_Fi_square_10 (by decide) ?_
  refine T_laload d_Fi_square_11 hf (vp_in_nI (by decide) (by decide)) ?_
  refine T_eq (pc' := 12) (st' := [.long (F 2)]) rfl rfl rfl rfl ?_
  refine T_topl (fun w2 ew2 => ?_)
  refine T_lstore (L' := [(7, .long w2), (5, .long w1), (3, .long w0), (0, .ref to), (1, .ref f), (2, .int (nI n))]) d_Fi_square_12 (by decide) rfl ?_
  refine T_aload_n (v := .ref f) d_Fi_square_14 rfl (Or.inr ⟨_, rfl⟩) ?_
  refine T_iconst (v := (nI 3)) d_Fi_square_15 (by decide) ?_
  refine T_laload d_Fi_square_16 hf (vp_in_nI (by decide) (by decide)) ?_
  refine T_eq (pc' := 17) (st' := [.long (F 3)]) rfl rfl rfl rfl ?_
  refine T_topl (fun w3 ew3 => ?_)
  refine T_lstore (L' := [(9, .long w3), (7, .long w2), (5, .long w1), (3, .long w0), (0, .ref to), (1, .ref f), (2, .int (nI n))]) d_Fi_square_17 (by decide) rfl ?_
  refine T_aload_n (v := .ref f) d_Fi_square_19 rfl (Or.inr ⟨_, rfl⟩) ?_
  refine T_iconst (v := (nI 4)) d_Fi_square_20 (by decide) ?_
  refine T_laload d_Fi_square_21 hf (vp_in_nI (by decide) (by decide)) ?_
  refine T_eq (pc' := 22) (st' := [.long (F 4)]) rfl rfl rfl rfl ?_
  refine T_topl (fun w4 ew4 => ?_)
  refine T_lstore (L' := [(11, .long w4), (9, .long w3), (7, .long w2), (5, .long w1), (3, .long w0), (0, .ref to), (1, .ref f), (2, .int (nI n))]) d_Fi_square_22 (by decide) rfl ?_
  refine T_aload_n (v := .ref f) d_Fi_square_24 rfl (Or.inr ⟨_, rfl⟩) ?_
  refine T_iconst (v := (nI 5)) d_Fi_square_25 (by decide) ?_
  refine T_laload d_Fi_square_26 hf (vp_in_nI (by decide) (by decide)) ?_
  refine T_eq (pc' := 27) (st' := [.long (F 5)]) rfl rfl rfl rfl ?_
  refine T_topl (fun w5 ew5 => ?_)
  refine T_lstore (L' := [(13, .long w5), (11, .long w4), (9, .long w3), (7, .long w2), (5, .long w1), (3, .long w0), (0, .ref to), (1, .ref f), (2, .int (nI n))]) d_Fi_square_27 (by decide) rfl ?_
  refine T_aload_n (v := .ref f) d_Fi_square_29 rfl (Or.inr ⟨_, rfl⟩) ?_
  refine T_bipush (v := (nI 6)) d_Fi_square_30 (by decide) ?_
  refine T_laload d_Fi_square_32 hf (vp_in_nI (by decide) (by decide)) ?_
  refine T_eq (pc' := 33) (st' := [.long (F 6)]) rfl rfl rfl rfl ?_
  refine T_topl (fun w6 ew6 => ?_)
  refine T_lstore (L' := [(15, .long w6), (13, .long w5), (11, .long w4), (9, .long w3), (7, .long w2), (5, .long w1), (3, .long w0), (0, .ref to), (1, .ref f), (2, .int (nI n))]) d_Fi_square_33 (by decide) rfl ?_
  refine T_aload_n (v := .ref f) d_Fi_square_35 rfl (Or.inr ⟨_, rfl⟩) ?_
  refine T_bipush (v := (nI 7)) d_Fi_square_36 (by decide) ?_
  refine T_laload d_Fi_square_38 hf (vp_in_nI (by decide) (by decide)) ?_
  refine T_eq (pc' := 39) (st' := [.long (F 7)]) rfl rfl rfl rfl ?_
  refine T_topl (fun w7 ew7 => ?_)
  refine T_lstore (L' := [(17, .long w7), (15, .long w6), (13, .long w5), (11, .long w4), (9, .long w3), (7, .long w2), (5, .long w1), (3, .long w0), (0, .ref to), (1, .ref f), (2, .int (nI n))]) d_Fi_square_39 (by decide) rfl ?_
  refine T_aload_n (v := .ref f) d_Fi_square_41 rfl (Or.inr ⟨_, rfl⟩) ?_
  refine T_bipush (v := (nI 8)) d_Fi_square_42 (by decide) ?_
  refine T_laload d_Fi_square_44 hf (vp_in_nI (by decide) (by decide)) ?_
  refine T_eq (pc' := 45) (st' := [.long (F 8)]) rfl rfl rfl rfl ?_
  refine T_topl (fun w8 ew8 => ?_)
  refine T_lstore (L' := [(19, .long w8), (17, .long w7), (15, .long w6), (13, .long w5), (11, .long w4), (9, .long w3), (7, .long w2), (5, .long w1), (3, .long w0), (0, .ref to), (1, .ref f), (2, .int (nI n))]) d_Fi_square_45 (by decide) rfl ?_
  refine T_aload_n (v := .ref f) d_Fi_square_47 rfl (Or.inr ⟨_, rfl⟩) ?_
  refine T_bipush (v := (nI 9)) d_Fi_square_48 (by decide) ?_
  refine T_laload d_Fi_square_50 hf (vp_in_nI (by decide) (by decide)) ?_
  refine T_eq (pc' := 51) (st' := [.long (F 9)]) rfl rfl rfl rfl ?_
  refine T_topl (fun w9 ew9 => ?_)
  refine T_lstore (L' := [(21, .long w9), (19, .long w8), (17, .long w7), (15, .long w6), (13, .long w5), (11, .long w4), (9, .long w3), (7, .long w2), (5, .long w1), (3, .long w0), (0, .ref to), (1, .ref f), (2, .int (nI n))]) d_Fi_square_51 (by decide) rfl ?_
  refine T_iconst (v := nI 0) d_Fi_square_53 (by decide) ?_
  refine T_istore (L' := [(23, .int (nI 0)), (21, .long w9), (19, .long w8), (17, .long w7), (15, .long w6), (13, .long w5), (11, .long w4), (9, .long w3), (7, .long w2), (5, .long w1), (3, .long w0), (0, .ref to), (1, .ref f), (2, .int (nI n))]) d_Fi_square_54 (by decide) rfl ?_
  refine T_sub (L' := [(23, .int (nI 0)), (3, .long w0), (5, .long w1), (7, .long w2), (9, .long w3), (11, .long w4), (13, .long w5), (15, .long w6), (17, .long w7), (19, .long w8), (21, .long w9), (0, .ref to), (1, .ref f), (2, .int (nI n))]) (fun q hq => ?_) ?_
  · simp only [List.mem_cons, List.not_mem_nil, or_false] at hq ⊢
    rcases hq with rfl | rfl | rfl | rfl | rfl | rfl | rfl | rfl | rfl | rfl | rfl | rfl | rfl | rfl <;> simp
  subst ew0 ew1 ew2 ew3 ew4 ew5 ew6 ew7 ew8 ew9
  exact xl_Fi_square G (F := F) hn kto hto n 0 (by omega)
theorem X_ne {M : List va_E} {a b : Nat} {e x : va_E} (h : M[b]? = some x) (hn : a ≠ b) : (M.set a e)[b]? = some x := by rw [List.getElem?_set_ne hn]; exact h
def wd (k : Nat) : Nat := 26 - k % 2
def mk (k : Nat) : Int64 := if k % 2 = 0 then 67108863 else 33554431
def pwC (c : Int64) (a : Nat → Int64) : Nat → Int64
  | 0 => c
  | k + 1 => (pwC c a k + a k) >>> ((nI (wd k)).toInt64 &&& 63)
def pwW (c : Int64) (a : Nat → Int64) (k : Nat) : Int64 := (pwC c a k + a k) &&& mk k
def pwN (c : Int64) (a : Nat → Int64) : Nat → Int64 := lp 10 (pwW c a) a
set_option maxHeartbeats 8000000 in
theorem xl_mw_copy (G : GX) {M : List va_E} {f : Nat} {W F : Nat → Int64} (ho : M[78]? = some (.inr (6, [.ref 79, .ref 80, .ref 81, .ref 82, .ref 83, .ref 84, .ref 85]))) (hw : M[79]? = some (lr 10 W)) (hf : M[f]? = some (lr 10 F)) {Q : Option Value → List va_E → Prop} (kk : TT G mi_Fi_makeWhole 23 [(0, .ref 78), (1, .ref f)] [] (M.set 79 (lr 10 (lp 10 F W))) 0 0 Q) : ∀ j k, k + j = 10 → TT G mi_Fi_makeWhole 2 [(2, .int (nI k)), (0, .ref 78), (1, .ref f)] [] (M.set 79 (lr 10 (lp k F W))) 0 0 Q := by
  have hl := X_len hw
  intro j
  induction j with
  | zero =>
    intro k hk
    have : k = 10 := by omega
    subst this
    refine T_iload_n d_Fi_makeWhole_2 rfl ?_
    refine T_bipush (v := nI 10) d_Fi_makeWhole_3 (by decide) ?_
    refine T_icmp_ge d_Fi_makeWhole_5 (tgt := 23) rfl (fun _ => ?_) (fun c => absurd (by decide) c)
    exact T_sub (fun q hq => List.mem_cons_of_mem _ hq) kk
  | succ j ih =>
    intro k hk
    refine T_iload_n d_Fi_makeWhole_2 rfl ?_
    refine T_bipush (v := nI 10) d_Fi_makeWhole_3 (by decide) ?_
    refine T_icmp_ge d_Fi_makeWhole_5 (tgt := 23) rfl (fun c => absurd ((nI_leI (by decide) (by omega)).mp c) (by omega)) (fun _ => ?_)
    refine T_aload_n (v := .ref 78) d_Fi_makeWhole_8 rfl (Or.inr ⟨_, rfl⟩) ?_
    refine T_getfield d_Fi_makeWhole_9 fg_Fi_9 (X_ne ho (by decide)) rfl ?_
    refine T_iload_n d_Fi_makeWhole_12 rfl ?_
    obtain ⟨F1, qf, rf⟩ := X_rd (k := k) (Hk := lp k F W) hw hf (lp_at k F W)
    refine T_aload_n (v := .ref f) d_Fi_makeWhole_13 rfl (Or.inr ⟨_, rfl⟩) ?_
    refine T_iload_n d_Fi_makeWhole_14 rfl ?_
    refine T_laload d_Fi_makeWhole_15 qf (vp_in_nI (by omega) (by decide)) ?_
    rw [nI_clamp (by omega), rf]
    refine X_last (n := 10) (k := k) d_Fi_makeWhole_16 (by decide) (by omega) (by decide) hl ?_
    rw [lp_up k F W]
    refine T_iinc (x := nI k) (L' := [(2, .int (nI (k + 1))), (0, .ref 78), (1, .ref f)]) d_Fi_makeWhole_17 (by decide) rfl (by rw [show Int32.ofInt 1 = nI 1 from rfl, nI_add]; rfl) ?_
    refine T_goto (tgt := 2) d_Fi_makeWhole_20 rfl ?_
    exact ih (k + 1) (by omega)
set_option maxHeartbeats 8000000 in
theorem xl_mw_in (G : GX) {M : List va_E} {f : Nat} {W : Nat → Int64} (ho : M[78]? = some (.inr (6, [.ref 79, .ref 80, .ref 81, .ref 82, .ref 83, .ref 84, .ref 85]))) (hw : M[79]? = some (lr 10 W)) {c : Int64} {a : Nat → Int64} {p : Int32} {Q : Option Value → List va_E → Prop} (kk : TT G mi_Fi_makeWhole 120 [(2, .long (pwC c a 10)), (4, .int p), (0, .ref 78), (1, .ref f)] [] (M.set 79 (lr 10 (pwN c a))) 0 0 Q) : ∀ j k, k + j = 10 → TT G mi_Fi_makeWhole 68 [(5, .int (nI k)), (2, .long (pwC c a k)), (4, .int p), (0, .ref 78), (1, .ref f)] [] (M.set 79 (lr 10 (lp k (pwW c a) a))) 0 0 Q := by
  have hl := X_len hw
  intro j
  induction j with
  | zero =>
    intro k hk
    have : k = 10 := by omega
    subst this
    refine T_iload d_Fi_makeWhole_68 rfl ?_
    refine T_bipush (v := nI 10) d_Fi_makeWhole_70 (by decide) ?_
    refine T_icmp_ge d_Fi_makeWhole_72 (tgt := 120) rfl (fun _ => ?_) (fun c => absurd (by decide) c)
    exact T_sub (fun q hq => List.mem_cons_of_mem _ hq) kk
  | succ j ih =>
    intro k hk
    refine T_iload d_Fi_makeWhole_68 rfl ?_
    refine T_bipush (v := nI 10) d_Fi_makeWhole_70 (by decide) ?_
    refine T_icmp_ge d_Fi_makeWhole_72 (tgt := 120) rfl (fun c => absurd ((nI_leI (by decide) (by omega)).mp c) (by omega)) (fun _ => ?_)
    refine T_bipush (v := nI 26) d_Fi_makeWhole_75 (by decide) ?_
    refine T_iload d_Fi_makeWhole_77 rfl ?_
    refine T_iconst (v := nI 1) d_Fi_makeWhole_79 (by decide) ?_
    refine T_iand d_Fi_makeWhole_80 ?_
    rw [pk_andN (n := k) (by omega) 1 (m := nI 1) (by decide)]
    refine T_isub d_Fi_makeWhole_81 ?_
    have hwd : nI 26 - nI (k % 2 ^ 1) = nI (wd k) := by
      have h2 : k % 2 = 0 ∨ k % 2 = 1 := by omega
      unfold wd; rcases h2 with h | h <;> rw [show k % 2 ^ 1 = k % 2 from rfl, h] <;> rfl
    rw [hwd]
    refine T_istore (L' := [(6, .int (nI (wd k))), (5, .int (nI k)), (2, .long (pwC c a k)), (4, .int p), (0, .ref 78), (1, .ref f)]) d_Fi_makeWhole_82 (by decide) rfl ?_
    refine T_lload_n d_Fi_makeWhole_84 rfl ?_
    refine T_aload_n (v := .ref 78) d_Fi_makeWhole_85 rfl (Or.inr ⟨_, rfl⟩) ?_
    refine T_getfield d_Fi_makeWhole_86 fg_Fi_9 (X_ne ho (by decide)) rfl ?_
    refine T_iload d_Fi_makeWhole_89 rfl ?_
    refine T_laload d_Fi_makeWhole_91 (List.getElem?_set_self hl) (vp_in_nI (by omega) (by decide)) ?_
    rw [nI_clamp (by omega), lp_at]
    refine T_ladd d_Fi_makeWhole_92 ?_
    refine T_lstore_n (L' := [(2, .long (pwC c a k + a k)), (6, .int (nI (wd k))), (5, .int (nI k)), (4, .int p), (0, .ref 78), (1, .ref f)]) d_Fi_makeWhole_93 (by decide) rfl ?_
    refine T_aload_n (v := .ref 78) d_Fi_makeWhole_94 rfl (Or.inr ⟨_, rfl⟩) ?_
    refine T_getfield d_Fi_makeWhole_95 fg_Fi_9 (X_ne ho (by decide)) rfl ?_
    refine T_iload d_Fi_makeWhole_98 rfl ?_
    refine T_lload_n d_Fi_makeWhole_100 rfl ?_
    refine T_lconst (v := 1) d_Fi_makeWhole_101 (by decide) ?_
    refine T_iload d_Fi_makeWhole_102 rfl ?_
    refine T_lshl d_Fi_makeWhole_104 ?_
    refine T_lconst (v := 1) d_Fi_makeWhole_105 (by decide) ?_
    refine T_lsub d_Fi_makeWhole_106 ?_
    have hmk : (1 : Int64) <<< ((nI (wd k)).toInt64 &&& 63) - 1 = mk k := by
      have h2 : k % 2 = 0 ∨ k % 2 = 1 := by omega
      unfold wd mk; rcases h2 with h | h <;> rw [h] <;> rfl
    rw [hmk]
    refine T_land d_Fi_makeWhole_107 ?_
    refine X_last (n := 10) (k := k) d_Fi_makeWhole_108 (by decide) (by omega) (by decide) hl ?_
    rw [show vp_updL (lp k (pwW c a) a) k ((pwC c a k + a k) &&& mk k) = lp (k + 1) (pwW c a) a from lp_up k (pwW c a) a]
    refine T_lload_n d_Fi_makeWhole_109 rfl ?_
    refine T_iload d_Fi_makeWhole_110 rfl ?_
    refine T_lshr d_Fi_makeWhole_112 ?_
    refine T_lstore_n (L' := [(2, .long (pwC c a (k + 1))), (6, .int (nI (wd k))), (5, .int (nI k)), (4, .int p), (0, .ref 78), (1, .ref f)]) d_Fi_makeWhole_113 (by decide) rfl ?_
    refine T_iinc (x := nI k) (L' := [(5, .int (nI (k + 1))), (2, .long (pwC c a (k + 1))), (6, .int (nI (wd k))), (4, .int p), (0, .ref 78), (1, .ref f)]) d_Fi_makeWhole_114 (by decide) rfl (by rw [show Int32.ofInt 1 = nI 1 from rfl, nI_add]; rfl) ?_
    refine T_goto (tgt := 68) d_Fi_makeWhole_117 rfl ?_
    refine T_sub (L' := [(5, .int (nI (k + 1))), (2, .long (pwC c a (k + 1))), (4, .int p), (0, .ref 78), (1, .ref f)]) (fun q hq => ?_) (ih (k + 1) (by omega))
    simp only [List.mem_cons, List.not_mem_nil, or_false] at hq ⊢
    rcases hq with rfl | rfl | rfl | rfl | rfl <;> simp
def adjP (p : Nat) : Int64 := if p = 2 then 19 else if p = 3 then -19 else 0
def mkC (a : Nat → Int64) : Nat → Int64 × (Nat → Int64)
  | 0 => (0, a)
  | p + 1 => (pwC (19 * (mkC a p).1 + adjP p) (mkC a p).2 10, pwN (19 * (mkC a p).1 + adjP p) (mkC a p).2)
set_option maxHeartbeats 8000000 in
theorem xl_mw_p0 (G : GX) {M : List va_E} {f : Nat} {W : Nat → Int64} (ho : M[78]? = some (.inr (6, [.ref 79, .ref 80, .ref 81, .ref 82, .ref 83, .ref 84, .ref 85]))) (hw : M[79]? = some (lr 10 W)) {c : Int64} {a : Nat → Int64} {Q : Option Value → List va_E → Prop} (kk : TT G mi_Fi_makeWhole 28 [(4, .int (nI 1)), (2, .long (pwC (19 * c + adjP 0) a 10)), (0, .ref 78), (1, .ref f)] [] (M.set 79 (lr 10 (pwN (19 * c + adjP 0) a))) 0 0 Q) : TT G mi_Fi_makeWhole 28 [(4, .int (nI 0)), (2, .long (c)), (0, .ref 78), (1, .ref f)] [] (M.set 79 (lr 10 a)) 0 0 Q := by
  refine T_iload d_Fi_makeWhole_28 rfl ?_
  refine T_iconst (v := nI 4) d_Fi_makeWhole_30 (by decide) ?_
  refine T_icmp_ge d_Fi_makeWhole_31 (tgt := 126) rfl (fun c => absurd c (by decide)) (fun _ => ?_)
  refine T_ldc2 d_Fi_makeWhole_34 kJ_Fi_31 ?_
  refine T_lload_n d_Fi_makeWhole_37 rfl ?_
  refine T_lmul d_Fi_makeWhole_38 ?_
  refine T_iload d_Fi_makeWhole_39 rfl ?_
  refine T_iconst (v := nI 2) d_Fi_makeWhole_41 (by decide) ?_
  refine T_icmp_ne d_Fi_makeWhole_42 (tgt := 50) rfl (fun _ => ?_) (fun c => absurd c (by decide))
  refine T_iload d_Fi_makeWhole_50 rfl ?_
  refine T_iconst (v := nI 3) d_Fi_makeWhole_52 (by decide) ?_
  refine T_icmp_ne d_Fi_makeWhole_53 (tgt := 61) rfl (fun _ => ?_) (fun c => absurd c (by decide))
  refine T_iconst (v := nI 0) d_Fi_makeWhole_61 (by decide) ?_
  refine T_i2l d_Fi_makeWhole_62 ?_
  refine T_ladd d_Fi_makeWhole_63 ?_
  refine T_lstore_n (L' := [(2, .long (19 * c + adjP 0)), (4, .int (nI 0)), (0, .ref 78), (1, .ref f)]) d_Fi_makeWhole_64 (by decide) rfl ?_
  refine T_iconst (v := nI 0) d_Fi_makeWhole_65 (by decide) ?_
  refine T_istore (L' := [(5, .int (nI 0)), (2, .long (19 * c + adjP 0)), (4, .int (nI 0)), (0, .ref 78), (1, .ref f)]) d_Fi_makeWhole_66 (by decide) rfl ?_
  refine T_eq (M' := M.set 79 (lr 10 (lp 0 (pwW (19 * c + adjP 0) a) a))) rfl rfl rfl (by rw [lp_0]) ?_
  refine xl_mw_in G ho hw ?_ 10 0 rfl
  refine T_iinc (x := nI 0) (L' := [(4, .int (nI 1)), (2, .long (pwC (19 * c + adjP 0) a 10)), (0, .ref 78), (1, .ref f)]) d_Fi_makeWhole_120 (by decide) rfl rfl ?_
  exact T_goto (tgt := 28) d_Fi_makeWhole_123 rfl kk
set_option maxHeartbeats 8000000 in
theorem xl_mw_p1 (G : GX) {M : List va_E} {f : Nat} {W : Nat → Int64} (ho : M[78]? = some (.inr (6, [.ref 79, .ref 80, .ref 81, .ref 82, .ref 83, .ref 84, .ref 85]))) (hw : M[79]? = some (lr 10 W)) {c : Int64} {a : Nat → Int64} {Q : Option Value → List va_E → Prop} (kk : TT G mi_Fi_makeWhole 28 [(4, .int (nI 2)), (2, .long (pwC (19 * c + adjP 1) a 10)), (0, .ref 78), (1, .ref f)] [] (M.set 79 (lr 10 (pwN (19 * c + adjP 1) a))) 0 0 Q) : TT G mi_Fi_makeWhole 28 [(4, .int (nI 1)), (2, .long (c)), (0, .ref 78), (1, .ref f)] [] (M.set 79 (lr 10 a)) 0 0 Q := by
  refine T_iload d_Fi_makeWhole_28 rfl ?_
  refine T_iconst (v := nI 4) d_Fi_makeWhole_30 (by decide) ?_
  refine T_icmp_ge d_Fi_makeWhole_31 (tgt := 126) rfl (fun c => absurd c (by decide)) (fun _ => ?_)
  refine T_ldc2 d_Fi_makeWhole_34 kJ_Fi_31 ?_
  refine T_lload_n d_Fi_makeWhole_37 rfl ?_
  refine T_lmul d_Fi_makeWhole_38 ?_
  refine T_iload d_Fi_makeWhole_39 rfl ?_
  refine T_iconst (v := nI 2) d_Fi_makeWhole_41 (by decide) ?_
  refine T_icmp_ne d_Fi_makeWhole_42 (tgt := 50) rfl (fun _ => ?_) (fun c => absurd c (by decide))
  refine T_iload d_Fi_makeWhole_50 rfl ?_
  refine T_iconst (v := nI 3) d_Fi_makeWhole_52 (by decide) ?_
  refine T_icmp_ne d_Fi_makeWhole_53 (tgt := 61) rfl (fun _ => ?_) (fun c => absurd c (by decide))
  refine T_iconst (v := nI 0) d_Fi_makeWhole_61 (by decide) ?_
  refine T_i2l d_Fi_makeWhole_62 ?_
  refine T_ladd d_Fi_makeWhole_63 ?_
  refine T_lstore_n (L' := [(2, .long (19 * c + adjP 1)), (4, .int (nI 1)), (0, .ref 78), (1, .ref f)]) d_Fi_makeWhole_64 (by decide) rfl ?_
  refine T_iconst (v := nI 0) d_Fi_makeWhole_65 (by decide) ?_
  refine T_istore (L' := [(5, .int (nI 0)), (2, .long (19 * c + adjP 1)), (4, .int (nI 1)), (0, .ref 78), (1, .ref f)]) d_Fi_makeWhole_66 (by decide) rfl ?_
  refine T_eq (M' := M.set 79 (lr 10 (lp 0 (pwW (19 * c + adjP 1) a) a))) rfl rfl rfl (by rw [lp_0]) ?_
  refine xl_mw_in G ho hw ?_ 10 0 rfl
  refine T_iinc (x := nI 1) (L' := [(4, .int (nI 2)), (2, .long (pwC (19 * c + adjP 1) a 10)), (0, .ref 78), (1, .ref f)]) d_Fi_makeWhole_120 (by decide) rfl rfl ?_
  exact T_goto (tgt := 28) d_Fi_makeWhole_123 rfl kk
set_option maxHeartbeats 8000000 in
theorem xl_mw_p2 (G : GX) {M : List va_E} {f : Nat} {W : Nat → Int64} (ho : M[78]? = some (.inr (6, [.ref 79, .ref 80, .ref 81, .ref 82, .ref 83, .ref 84, .ref 85]))) (hw : M[79]? = some (lr 10 W)) {c : Int64} {a : Nat → Int64} {Q : Option Value → List va_E → Prop} (kk : TT G mi_Fi_makeWhole 28 [(4, .int (nI 3)), (2, .long (pwC (19 * c + adjP 2) a 10)), (0, .ref 78), (1, .ref f)] [] (M.set 79 (lr 10 (pwN (19 * c + adjP 2) a))) 0 0 Q) : TT G mi_Fi_makeWhole 28 [(4, .int (nI 2)), (2, .long (c)), (0, .ref 78), (1, .ref f)] [] (M.set 79 (lr 10 a)) 0 0 Q := by
  refine T_iload d_Fi_makeWhole_28 rfl ?_
  refine T_iconst (v := nI 4) d_Fi_makeWhole_30 (by decide) ?_
  refine T_icmp_ge d_Fi_makeWhole_31 (tgt := 126) rfl (fun c => absurd c (by decide)) (fun _ => ?_)
  refine T_ldc2 d_Fi_makeWhole_34 kJ_Fi_31 ?_
  refine T_lload_n d_Fi_makeWhole_37 rfl ?_
  refine T_lmul d_Fi_makeWhole_38 ?_
  refine T_iload d_Fi_makeWhole_39 rfl ?_
  refine T_iconst (v := nI 2) d_Fi_makeWhole_41 (by decide) ?_
  refine T_icmp_ne d_Fi_makeWhole_42 (tgt := 50) rfl (fun c => absurd rfl c) (fun _ => ?_)
  refine T_bipush (v := nI 19) d_Fi_makeWhole_45 (by decide) ?_
  refine T_goto (tgt := 62) d_Fi_makeWhole_47 rfl ?_
  refine T_i2l d_Fi_makeWhole_62 ?_
  refine T_ladd d_Fi_makeWhole_63 ?_
  refine T_lstore_n (L' := [(2, .long (19 * c + adjP 2)), (4, .int (nI 2)), (0, .ref 78), (1, .ref f)]) d_Fi_makeWhole_64 (by decide) rfl ?_
  refine T_iconst (v := nI 0) d_Fi_makeWhole_65 (by decide) ?_
  refine T_istore (L' := [(5, .int (nI 0)), (2, .long (19 * c + adjP 2)), (4, .int (nI 2)), (0, .ref 78), (1, .ref f)]) d_Fi_makeWhole_66 (by decide) rfl ?_
  refine T_eq (M' := M.set 79 (lr 10 (lp 0 (pwW (19 * c + adjP 2) a) a))) rfl rfl rfl (by rw [lp_0]) ?_
  refine xl_mw_in G ho hw ?_ 10 0 rfl
  refine T_iinc (x := nI 2) (L' := [(4, .int (nI 3)), (2, .long (pwC (19 * c + adjP 2) a 10)), (0, .ref 78), (1, .ref f)]) d_Fi_makeWhole_120 (by decide) rfl rfl ?_
  exact T_goto (tgt := 28) d_Fi_makeWhole_123 rfl kk
set_option maxHeartbeats 8000000 in
theorem xl_mw_p3 (G : GX) {M : List va_E} {f : Nat} {W : Nat → Int64} (ho : M[78]? = some (.inr (6, [.ref 79, .ref 80, .ref 81, .ref 82, .ref 83, .ref 84, .ref 85]))) (hw : M[79]? = some (lr 10 W)) {c : Int64} {a : Nat → Int64} {Q : Option Value → List va_E → Prop} (kk : TT G mi_Fi_makeWhole 28 [(4, .int (nI 4)), (2, .long (pwC (19 * c + adjP 3) a 10)), (0, .ref 78), (1, .ref f)] [] (M.set 79 (lr 10 (pwN (19 * c + adjP 3) a))) 0 0 Q) : TT G mi_Fi_makeWhole 28 [(4, .int (nI 3)), (2, .long (c)), (0, .ref 78), (1, .ref f)] [] (M.set 79 (lr 10 a)) 0 0 Q := by
  refine T_iload d_Fi_makeWhole_28 rfl ?_
  refine T_iconst (v := nI 4) d_Fi_makeWhole_30 (by decide) ?_
  refine T_icmp_ge d_Fi_makeWhole_31 (tgt := 126) rfl (fun c => absurd c (by decide)) (fun _ => ?_)
  refine T_ldc2 d_Fi_makeWhole_34 kJ_Fi_31 ?_
  refine T_lload_n d_Fi_makeWhole_37 rfl ?_
  refine T_lmul d_Fi_makeWhole_38 ?_
  refine T_iload d_Fi_makeWhole_39 rfl ?_
  refine T_iconst (v := nI 2) d_Fi_makeWhole_41 (by decide) ?_
  refine T_icmp_ne d_Fi_makeWhole_42 (tgt := 50) rfl (fun _ => ?_) (fun c => absurd c (by decide))
  refine T_iload d_Fi_makeWhole_50 rfl ?_
  refine T_iconst (v := nI 3) d_Fi_makeWhole_52 (by decide) ?_
  refine T_icmp_ne d_Fi_makeWhole_53 (tgt := 61) rfl (fun c => absurd rfl c) (fun _ => ?_)
  refine T_bipush (v := (-19)) d_Fi_makeWhole_56 (by decide) ?_
  refine T_goto (tgt := 62) d_Fi_makeWhole_58 rfl ?_
  refine T_i2l d_Fi_makeWhole_62 ?_
  refine T_ladd d_Fi_makeWhole_63 ?_
  refine T_lstore_n (L' := [(2, .long (19 * c + adjP 3)), (4, .int (nI 3)), (0, .ref 78), (1, .ref f)]) d_Fi_makeWhole_64 (by decide) rfl ?_
  refine T_iconst (v := nI 0) d_Fi_makeWhole_65 (by decide) ?_
  refine T_istore (L' := [(5, .int (nI 0)), (2, .long (19 * c + adjP 3)), (4, .int (nI 3)), (0, .ref 78), (1, .ref f)]) d_Fi_makeWhole_66 (by decide) rfl ?_
  refine T_eq (M' := M.set 79 (lr 10 (lp 0 (pwW (19 * c + adjP 3) a) a))) rfl rfl rfl (by rw [lp_0]) ?_
  refine xl_mw_in G ho hw ?_ 10 0 rfl
  refine T_iinc (x := nI 3) (L' := [(4, .int (nI 4)), (2, .long (pwC (19 * c + adjP 3) a 10)), (0, .ref 78), (1, .ref f)]) d_Fi_makeWhole_120 (by decide) rfl rfl ?_
  exact T_goto (tgt := 28) d_Fi_makeWhole_123 rfl kk
set_option maxHeartbeats 8000000 in
theorem x_Fi_makeWhole (G : GX) {M : List va_E} {f : Nat} {W F : Nat → Int64} (ho : M[78]? = some (.inr (6, [.ref 79, .ref 80, .ref 81, .ref 82, .ref 83, .ref 84, .ref 85]))) (hw : M[79]? = some (lr 10 W)) (hf : M[f]? = some (lr 10 F)) : CT G mi_Fi_makeWhole [.ref 78, .ref f] M (fun r M' => r = none ∧ M' = M.set 79 (lr 10 (mkC (lp 10 F W) 4).2)) := by
  refine CT.of (by decide) (Nat.le_of_ble_eq_true rfl) ?_
  show TT G mi_Fi_makeWhole 0 [(0, .ref 78), (1, .ref f)] [] M 0 0 _
  refine T_iconst (v := nI 0) d_Fi_makeWhole_0 (by decide) ?_
  refine T_istore_n (L' := [(2, .int (nI 0)), (0, .ref 78), (1, .ref f)]) d_Fi_makeWhole_1 (by decide) rfl ?_
  refine T_eq (M' := M.set 79 (lr 10 (lp 0 F W))) rfl rfl rfl (by rw [lp_0]; exact X_same hw) ?_
  refine xl_mw_copy G ho hw hf ?_ 10 0 rfl
  refine T_lconst (v := 0) d_Fi_makeWhole_23 (by decide) ?_
  refine T_lstore_n (L' := [(2, .long 0), (0, .ref 78), (1, .ref f)]) d_Fi_makeWhole_24 (by decide) rfl ?_
  refine T_iconst (v := nI 0) d_Fi_makeWhole_25 (by decide) ?_
  refine T_istore (L' := [(4, .int (nI 0)), (2, .long (0)), (0, .ref 78), (1, .ref f)]) d_Fi_makeWhole_26 (by decide) rfl ?_
  refine xl_mw_p0 G ho hw ?_
  refine xl_mw_p1 G ho hw ?_
  refine xl_mw_p2 G ho hw ?_
  refine xl_mw_p3 G ho hw ?_
  refine T_iload d_Fi_makeWhole_28 rfl ?_
  refine T_iconst (v := nI 4) d_Fi_makeWhole_30 (by decide) ?_
  refine T_icmp_ge d_Fi_makeWhole_31 (tgt := 126) rfl (fun _ => ?_) (fun c => absurd (by decide) c)
  exact T_vret d_Fi_makeWhole_126 rfl (by decide) (by decide) ⟨rfl, rfl⟩
set_option maxHeartbeats 8000000 in
theorem wm_c {c x : Int64} {k : Nat} (hk : k < 10) (h1 : -35184372088832 ≤ c.toInt ∧ c.toInt ≤ 35184372088832) (h2 : -35184372088832 ≤ x.toInt ∧ x.toInt ≤ 35184372088832) : ((c + x) >>> ((nI (wd k)).toInt64 &&& 63)).toInt = (c.toInt + x.toInt) / 2 ^ wd k ∧ ((c + x) &&& mk k).toInt = (c.toInt + x.toInt) % 2 ^ wd k := by
  have e : c + x = Int64.ofInt (c.toInt + x.toInt) := by rw [Int64.ofInt_add, Int64.ofInt_toInt, Int64.ofInt_toInt]
  have hw : wd k = 26 ∨ wd k = 25 := by unfold wd; omega
  have hs : (((nI (wd k)).toInt64 &&& 63 : Int64).toBitVec.smod 64).toNat = wd k := by rcases hw with h | h <;> rw [h] <;> decide
  have hm : (mk k).toBitVec.toNat = 2 ^ wd k - 1 := by
    have h2 : k % 2 = 0 ∨ k % 2 = 1 := by omega
    unfold mk wd; rcases h2 with h | h <;> rw [h] <;> decide
  generalize hz : c.toInt + x.toInt = z at *
  have hp : (0 : Int) < 2 ^ wd k := Int.pow_pos (by decide)
  rw [e]
  refine ⟨?_, ?_⟩
  · rw [oi_shr _ _ hs (by omega) (by omega)]
    rcases hw with h | h <;> rw [h] <;> exact oi_to (by omega) (by omega)
  · rw [oi_and _ _ _ hm (by rcases hw with h | h <;> omega)]
    exact oi_small (Int.emod_nonneg _ (by omega)) (Int.emod_lt_of_pos _ hp) (by rcases hw with h | h <;> omega)
set_option maxHeartbeats 8000000 in
theorem dig10 {c a0 a1 a2 a3 a4 a5 a6 a7 a8 a9 V c1 c2 c3 c4 c5 c6 c7 c8 c9 c10 : Int} (h1 : c1 = (c + a0) / 67108864) (h2 : c2 = (c1 + a1) / 33554432) (h3 : c3 = (c2 + a2) / 67108864) (h4 : c4 = (c3 + a3) / 33554432) (h5 : c5 = (c4 + a4) / 67108864) (h6 : c6 = (c5 + a5) / 33554432) (h7 : c7 = (c6 + a6) / 67108864) (h8 : c8 = (c7 + a7) / 33554432) (h9 : c9 = (c8 + a8) / 67108864) (h10 : c10 = (c9 + a9) / 33554432) (hV : V = c + (a0 + a1 * 67108864 + a2 * 2251799813685248 + a3 * 151115727451828646838272 + a4 * 5070602400912917605986812821504 + a5 * 340282366920938463463374607431768211456 + a6 * 11417981541647679048466287755595961091061972992 + a7 * 766247770432944429179173513575154591809369561091801088 + a8 * 25711008708143844408671393477458601640355247900524685364822016 + a9 * 1725436586697640946858688965569256363112777243042596638790631055949824)) : c10 = V / 57896044618658097711785492504343953926634992332820282019728792003956564819968 ∧ (c + a0) % 67108864 = V / 1 % 67108864 ∧ (c1 + a1) % 33554432 = V / 67108864 % 33554432 ∧ (c2 + a2) % 67108864 = V / 2251799813685248 % 67108864 ∧ (c3 + a3) % 33554432 = V / 151115727451828646838272 % 33554432 ∧ (c4 + a4) % 67108864 = V / 5070602400912917605986812821504 % 67108864 ∧ (c5 + a5) % 33554432 = V / 340282366920938463463374607431768211456 % 33554432 ∧ (c6 + a6) % 67108864 = V / 11417981541647679048466287755595961091061972992 % 67108864 ∧ (c7 + a7) % 33554432 = V / 766247770432944429179173513575154591809369561091801088 % 33554432 ∧ (c8 + a8) % 67108864 = V / 25711008708143844408671393477458601640355247900524685364822016 % 67108864 ∧ (c9 + a9) % 33554432 = V / 1725436586697640946858688965569256363112777243042596638790631055949824 % 33554432 := by
  have d0 : V / 1 = c + a0 + 67108864 * (a1 * 1 + a2 * 33554432 + a3 * 2251799813685248 + a4 * 75557863725914323419136 + a5 * 5070602400912917605986812821504 + a6 * 170141183460469231731687303715884105728 + a7 * 11417981541647679048466287755595961091061972992 + a8 * 383123885216472214589586756787577295904684780545900544 + a9 * 25711008708143844408671393477458601640355247900524685364822016) := by omega
  have d1 : V / 67108864 = c1 + a1 + 33554432 * (a2 * 1 + a3 * 67108864 + a4 * 2251799813685248 + a5 * 151115727451828646838272 + a6 * 5070602400912917605986812821504 + a7 * 340282366920938463463374607431768211456 + a8 * 11417981541647679048466287755595961091061972992 + a9 * 766247770432944429179173513575154591809369561091801088) := by omega
  have d2 : V / 2251799813685248 = c2 + a2 + 67108864 * (a3 * 1 + a4 * 33554432 + a5 * 2251799813685248 + a6 * 75557863725914323419136 + a7 * 5070602400912917605986812821504 + a8 * 170141183460469231731687303715884105728 + a9 * 11417981541647679048466287755595961091061972992) := by omega
  have d3 : V / 151115727451828646838272 = c3 + a3 + 33554432 * (a4 * 1 + a5 * 67108864 + a6 * 2251799813685248 + a7 * 151115727451828646838272 + a8 * 5070602400912917605986812821504 + a9 * 340282366920938463463374607431768211456) := by omega
  have d4 : V / 5070602400912917605986812821504 = c4 + a4 + 67108864 * (a5 * 1 + a6 * 33554432 + a7 * 2251799813685248 + a8 * 75557863725914323419136 + a9 * 5070602400912917605986812821504) := by omega
  have d5 : V / 340282366920938463463374607431768211456 = c5 + a5 + 33554432 * (a6 * 1 + a7 * 67108864 + a8 * 2251799813685248 + a9 * 151115727451828646838272) := by omega
  have d6 : V / 11417981541647679048466287755595961091061972992 = c6 + a6 + 67108864 * (a7 * 1 + a8 * 33554432 + a9 * 2251799813685248) := by omega
  have d7 : V / 766247770432944429179173513575154591809369561091801088 = c7 + a7 + 33554432 * (a8 * 1 + a9 * 67108864) := by omega
  have d8 : V / 25711008708143844408671393477458601640355247900524685364822016 = c8 + a8 + 67108864 * (a9 * 1) := by omega
  have d9 : V / 1725436586697640946858688965569256363112777243042596638790631055949824 = c9 + a9 + 33554432 * (0) := by omega
  refine ⟨by omega, by rw [d0]; omega, by rw [d1]; omega, by rw [d2]; omega, by rw [d3]; omega, by rw [d4]; omega, by rw [d5]; omega, by rw [d6]; omega, by rw [d7]; omega, by rw [d8]; omega, by rw [d9]; omega⟩
set_option maxHeartbeats 8000000 in
theorem dsum10 (V : Int) : (V / 1 % 67108864) + (V / 67108864 % 33554432) * 67108864 + (V / 2251799813685248 % 67108864) * 2251799813685248 + (V / 151115727451828646838272 % 33554432) * 151115727451828646838272 + (V / 5070602400912917605986812821504 % 67108864) * 5070602400912917605986812821504 + (V / 340282366920938463463374607431768211456 % 33554432) * 340282366920938463463374607431768211456 + (V / 11417981541647679048466287755595961091061972992 % 67108864) * 11417981541647679048466287755595961091061972992 + (V / 766247770432944429179173513575154591809369561091801088 % 33554432) * 766247770432944429179173513575154591809369561091801088 + (V / 25711008708143844408671393477458601640355247900524685364822016 % 67108864) * 25711008708143844408671393477458601640355247900524685364822016 + (V / 1725436586697640946858688965569256363112777243042596638790631055949824 % 33554432) * 1725436586697640946858688965569256363112777243042596638790631055949824 = V % 57896044618658097711785492504343953926634992332820282019728792003956564819968 := by omega
set_option maxHeartbeats 8000000 in
theorem pass10 {c : Int64} {a : Nat → Int64} (hc : -1099511627776 ≤ c.toInt ∧ c.toInt ≤ 1099511627776) (ha : ∀ i, i < 10 → -1099511627776 ≤ (a i).toInt ∧ (a i).toInt ≤ 1099511627776) : (pwC c a 10).toInt = (c.toInt + va10 a) / 57896044618658097711785492504343953926634992332820282019728792003956564819968 ∧ (pwN c a 0).toInt = (c.toInt + va10 a) / 1 % 67108864 ∧ (pwN c a 1).toInt = (c.toInt + va10 a) / 67108864 % 33554432 ∧ (pwN c a 2).toInt = (c.toInt + va10 a) / 2251799813685248 % 67108864 ∧ (pwN c a 3).toInt = (c.toInt + va10 a) / 151115727451828646838272 % 33554432 ∧ (pwN c a 4).toInt = (c.toInt + va10 a) / 5070602400912917605986812821504 % 67108864 ∧ (pwN c a 5).toInt = (c.toInt + va10 a) / 340282366920938463463374607431768211456 % 33554432 ∧ (pwN c a 6).toInt = (c.toInt + va10 a) / 11417981541647679048466287755595961091061972992 % 67108864 ∧ (pwN c a 7).toInt = (c.toInt + va10 a) / 766247770432944429179173513575154591809369561091801088 % 33554432 ∧ (pwN c a 8).toInt = (c.toInt + va10 a) / 25711008708143844408671393477458601640355247900524685364822016 % 67108864 ∧ (pwN c a 9).toInt = (c.toInt + va10 a) / 1725436586697640946858688965569256363112777243042596638790631055949824 % 33554432 := by
  have c0 : (pwC c a 0).toInt = c.toInt := rfl
  have A0 := ha 0 (by decide)
  have A1 := ha 1 (by decide)
  have A2 := ha 2 (by decide)
  have A3 := ha 3 (by decide)
  have A4 := ha 4 (by decide)
  have A5 := ha 5 (by decide)
  have A6 := ha 6 (by decide)
  have A7 := ha 7 (by decide)
  have A8 := ha 8 (by decide)
  have A9 := ha 9 (by decide)
  have r0 : -35184372088832 ≤ (pwC c a 0).toInt ∧ (pwC c a 0).toInt ≤ 35184372088832 := by rw [c0]; omega
  have s0 := wm_c (k := 0) (by decide) r0 (show -35184372088832 ≤ (a 0).toInt ∧ (a 0).toInt ≤ 35184372088832 by omega)
  have c1 : (pwC c a 1).toInt = ((pwC c a 0).toInt + (a 0).toInt) / 67108864 := s0.1
  have n0 : (pwN c a 0).toInt = ((pwC c a 0).toInt + (a 0).toInt) % 67108864 := s0.2
  have r1 : -35184372088832 ≤ (pwC c a 1).toInt ∧ (pwC c a 1).toInt ≤ 35184372088832 := by rw [c1]; omega
  have s1 := wm_c (k := 1) (by decide) r1 (show -35184372088832 ≤ (a 1).toInt ∧ (a 1).toInt ≤ 35184372088832 by omega)
  have c2 : (pwC c a 2).toInt = ((pwC c a 1).toInt + (a 1).toInt) / 33554432 := s1.1
  have n1 : (pwN c a 1).toInt = ((pwC c a 1).toInt + (a 1).toInt) % 33554432 := s1.2
  have r2 : -35184372088832 ≤ (pwC c a 2).toInt ∧ (pwC c a 2).toInt ≤ 35184372088832 := by rw [c2]; omega
  have s2 := wm_c (k := 2) (by decide) r2 (show -35184372088832 ≤ (a 2).toInt ∧ (a 2).toInt ≤ 35184372088832 by omega)
  have c3 : (pwC c a 3).toInt = ((pwC c a 2).toInt + (a 2).toInt) / 67108864 := s2.1
  have n2 : (pwN c a 2).toInt = ((pwC c a 2).toInt + (a 2).toInt) % 67108864 := s2.2
  have r3 : -35184372088832 ≤ (pwC c a 3).toInt ∧ (pwC c a 3).toInt ≤ 35184372088832 := by rw [c3]; omega
  have s3 := wm_c (k := 3) (by decide) r3 (show -35184372088832 ≤ (a 3).toInt ∧ (a 3).toInt ≤ 35184372088832 by omega)
  have c4 : (pwC c a 4).toInt = ((pwC c a 3).toInt + (a 3).toInt) / 33554432 := s3.1
  have n3 : (pwN c a 3).toInt = ((pwC c a 3).toInt + (a 3).toInt) % 33554432 := s3.2
  have r4 : -35184372088832 ≤ (pwC c a 4).toInt ∧ (pwC c a 4).toInt ≤ 35184372088832 := by rw [c4]; omega
  have s4 := wm_c (k := 4) (by decide) r4 (show -35184372088832 ≤ (a 4).toInt ∧ (a 4).toInt ≤ 35184372088832 by omega)
  have c5 : (pwC c a 5).toInt = ((pwC c a 4).toInt + (a 4).toInt) / 67108864 := s4.1
  have n4 : (pwN c a 4).toInt = ((pwC c a 4).toInt + (a 4).toInt) % 67108864 := s4.2
  have r5 : -35184372088832 ≤ (pwC c a 5).toInt ∧ (pwC c a 5).toInt ≤ 35184372088832 := by rw [c5]; omega
  have s5 := wm_c (k := 5) (by decide) r5 (show -35184372088832 ≤ (a 5).toInt ∧ (a 5).toInt ≤ 35184372088832 by omega)
  have c6 : (pwC c a 6).toInt = ((pwC c a 5).toInt + (a 5).toInt) / 33554432 := s5.1
  have n5 : (pwN c a 5).toInt = ((pwC c a 5).toInt + (a 5).toInt) % 33554432 := s5.2
  have r6 : -35184372088832 ≤ (pwC c a 6).toInt ∧ (pwC c a 6).toInt ≤ 35184372088832 := by rw [c6]; omega
  have s6 := wm_c (k := 6) (by decide) r6 (show -35184372088832 ≤ (a 6).toInt ∧ (a 6).toInt ≤ 35184372088832 by omega)
  have c7 : (pwC c a 7).toInt = ((pwC c a 6).toInt + (a 6).toInt) / 67108864 := s6.1
  have n6 : (pwN c a 6).toInt = ((pwC c a 6).toInt + (a 6).toInt) % 67108864 := s6.2
  have r7 : -35184372088832 ≤ (pwC c a 7).toInt ∧ (pwC c a 7).toInt ≤ 35184372088832 := by rw [c7]; omega
  have s7 := wm_c (k := 7) (by decide) r7 (show -35184372088832 ≤ (a 7).toInt ∧ (a 7).toInt ≤ 35184372088832 by omega)
  have c8 : (pwC c a 8).toInt = ((pwC c a 7).toInt + (a 7).toInt) / 33554432 := s7.1
  have n7 : (pwN c a 7).toInt = ((pwC c a 7).toInt + (a 7).toInt) % 33554432 := s7.2
  have r8 : -35184372088832 ≤ (pwC c a 8).toInt ∧ (pwC c a 8).toInt ≤ 35184372088832 := by rw [c8]; omega
  have s8 := wm_c (k := 8) (by decide) r8 (show -35184372088832 ≤ (a 8).toInt ∧ (a 8).toInt ≤ 35184372088832 by omega)
  have c9 : (pwC c a 9).toInt = ((pwC c a 8).toInt + (a 8).toInt) / 67108864 := s8.1
  have n8 : (pwN c a 8).toInt = ((pwC c a 8).toInt + (a 8).toInt) % 67108864 := s8.2
  have r9 : -35184372088832 ≤ (pwC c a 9).toInt ∧ (pwC c a 9).toInt ≤ 35184372088832 := by rw [c9]; omega
  have s9 := wm_c (k := 9) (by decide) r9 (show -35184372088832 ≤ (a 9).toInt ∧ (a 9).toInt ≤ 35184372088832 by omega)
  have c10 : (pwC c a 10).toInt = ((pwC c a 9).toInt + (a 9).toInt) / 33554432 := s9.1
  have n9 : (pwN c a 9).toInt = ((pwC c a 9).toInt + (a 9).toInt) % 33554432 := s9.2
  rw [c0] at c1 n0
  have K := dig10 c1 c2 c3 c4 c5 c6 c7 c8 c9 c10 (hV := rfl)
  unfold va10
  obtain ⟨k, k0, k1, k2, k3, k4, k5, k6, k7, k8, k9⟩ := K
  exact ⟨k, n0.trans k0, n1.trans k1, n2.trans k2, n3.trans k3, n4.trans k4, n5.trans k5, n6.trans k6, n7.trans k7, n8.trans k8, n9.trans k9⟩
set_option maxHeartbeats 8000000 in
theorem fin10 {V0 : Int} (h : -59285549689505892056868344324448208820874232148807968788202283012051522375647232 ≤ V0 ∧ V0 ≤ 59285549689505892056868344324448208820874232148807968788202283012051522375647232) {c1 V1 c2 V2 c3 V3 : Int} (h1 : c1 = V0 / 57896044618658097711785492504343953926634992332820282019728792003956564819968) (g1 : V1 = 19 * c1 + V0 % 57896044618658097711785492504343953926634992332820282019728792003956564819968) (h2 : c2 = V1 / 57896044618658097711785492504343953926634992332820282019728792003956564819968) (g2 : V2 = (19 * c2 + 19) + V1 % 57896044618658097711785492504343953926634992332820282019728792003956564819968) (h3 : c3 = V2 / 57896044618658097711785492504343953926634992332820282019728792003956564819968) (g3 : V3 = (19 * c3 + -19) + V2 % 57896044618658097711785492504343953926634992332820282019728792003956564819968) : V3 % 57896044618658097711785492504343953926634992332820282019728792003956564819968 = V0 % 57896044618658097711785492504343953926634992332820282019728792003956564819949 := by
  have b1 : -1024 ≤ c1 ∧ c1 ≤ 1024 := by clear g1 h2 g2 h3 g3; omega
  have b2 : V0 = 57896044618658097711785492504343953926634992332820282019728792003956564819949 * c1 + V1 ∧ -19456 ≤ V1 ∧ V1 < 57896044618658097711785492504343953926634992332820282019728792003956564819968 + 19456 := by clear h2 g2 h3 g3; omega
  have b3 : V0 % 57896044618658097711785492504343953926634992332820282019728792003956564819949 = V1 % 57896044618658097711785492504343953926634992332820282019728792003956564819949 := by rw [b2.1, Int.add_comm, Int.add_mul_emod_self_left]
  rw [b3]
  clear b3 h h1 g1 b1
  obtain ⟨-, b4, b5⟩ := b2
  by_cases hA : V1 < 0
  · have x1 : c2 = -1 := by clear g2 h3 g3; omega
    have x2 : V2 = V1 + 57896044618658097711785492504343953926634992332820282019728792003956564819968 := by clear h3 g3; omega
    have x3 : c3 = 0 := by clear g3 h2 g2; omega
    have x4 : V3 = V1 + 57896044618658097711785492504343953926634992332820282019728792003956564819949 := by clear h2 g2; omega
    omega
  · by_cases hB : V1 < 57896044618658097711785492504343953926634992332820282019728792003956564819949
    · have x1 : c2 = 0 := by clear g2 h3 g3; omega
      have x2 : V2 = V1 + 19 := by clear h3 g3; omega
      have x3 : c3 = 0 := by clear g3 h2 g2; omega
      have x4 : V3 = V1 := by clear h2 g2; omega
      omega
    · by_cases hC : V1 < 57896044618658097711785492504343953926634992332820282019728792003956564819968
      · have x1 : c2 = 0 := by clear g2 h3 g3; omega
        have x2 : V2 = V1 + 19 := by clear h3 g3; omega
        have x3 : c3 = 1 := by clear g3 h2 g2; omega
        have x4 : V3 = V1 - 57896044618658097711785492504343953926634992332820282019728792003956564819949 := by clear h2 g2; omega
        omega
      · have x1 : c2 = 1 := by clear g2 h3 g3; omega
        have x2 : V2 = V1 - 57896044618658097711785492504343953926634992332820282019728792003956564819968 + 38 := by clear h3 g3; omega
        have x3 : c3 = 0 := by clear g3 h2 g2; omega
        have x4 : V3 = V1 - 57896044618658097711785492504343953926634992332820282019728792003956564819949 := by clear h2 g2; omega
        omega
theorem dm_0 (V : Int) : V / 1 % 67108864 = V % 57896044618658097711785492504343953926634992332820282019728792003956564819968 / 1 % 67108864 := by omega
theorem db_0 (V : Int) : -1099511627776 ≤ V / 1 % 67108864 ∧ V / 1 % 67108864 ≤ 1099511627776 := by omega
theorem dm_1 (V : Int) : V / 67108864 % 33554432 = V % 57896044618658097711785492504343953926634992332820282019728792003956564819968 / 67108864 % 33554432 := by omega
theorem db_1 (V : Int) : -1099511627776 ≤ V / 67108864 % 33554432 ∧ V / 67108864 % 33554432 ≤ 1099511627776 := by omega
theorem dm_2 (V : Int) : V / 2251799813685248 % 67108864 = V % 57896044618658097711785492504343953926634992332820282019728792003956564819968 / 2251799813685248 % 67108864 := by omega
theorem db_2 (V : Int) : -1099511627776 ≤ V / 2251799813685248 % 67108864 ∧ V / 2251799813685248 % 67108864 ≤ 1099511627776 := by omega
theorem dm_3 (V : Int) : V / 151115727451828646838272 % 33554432 = V % 57896044618658097711785492504343953926634992332820282019728792003956564819968 / 151115727451828646838272 % 33554432 := by omega
theorem db_3 (V : Int) : -1099511627776 ≤ V / 151115727451828646838272 % 33554432 ∧ V / 151115727451828646838272 % 33554432 ≤ 1099511627776 := by omega
theorem dm_4 (V : Int) : V / 5070602400912917605986812821504 % 67108864 = V % 57896044618658097711785492504343953926634992332820282019728792003956564819968 / 5070602400912917605986812821504 % 67108864 := by omega
theorem db_4 (V : Int) : -1099511627776 ≤ V / 5070602400912917605986812821504 % 67108864 ∧ V / 5070602400912917605986812821504 % 67108864 ≤ 1099511627776 := by omega
theorem dm_5 (V : Int) : V / 340282366920938463463374607431768211456 % 33554432 = V % 57896044618658097711785492504343953926634992332820282019728792003956564819968 / 340282366920938463463374607431768211456 % 33554432 := by omega
theorem db_5 (V : Int) : -1099511627776 ≤ V / 340282366920938463463374607431768211456 % 33554432 ∧ V / 340282366920938463463374607431768211456 % 33554432 ≤ 1099511627776 := by omega
theorem dm_6 (V : Int) : V / 11417981541647679048466287755595961091061972992 % 67108864 = V % 57896044618658097711785492504343953926634992332820282019728792003956564819968 / 11417981541647679048466287755595961091061972992 % 67108864 := by omega
theorem db_6 (V : Int) : -1099511627776 ≤ V / 11417981541647679048466287755595961091061972992 % 67108864 ∧ V / 11417981541647679048466287755595961091061972992 % 67108864 ≤ 1099511627776 := by omega
theorem dm_7 (V : Int) : V / 766247770432944429179173513575154591809369561091801088 % 33554432 = V % 57896044618658097711785492504343953926634992332820282019728792003956564819968 / 766247770432944429179173513575154591809369561091801088 % 33554432 := by omega
theorem db_7 (V : Int) : -1099511627776 ≤ V / 766247770432944429179173513575154591809369561091801088 % 33554432 ∧ V / 766247770432944429179173513575154591809369561091801088 % 33554432 ≤ 1099511627776 := by omega
theorem dm_8 (V : Int) : V / 25711008708143844408671393477458601640355247900524685364822016 % 67108864 = V % 57896044618658097711785492504343953926634992332820282019728792003956564819968 / 25711008708143844408671393477458601640355247900524685364822016 % 67108864 := by omega
theorem db_8 (V : Int) : -1099511627776 ≤ V / 25711008708143844408671393477458601640355247900524685364822016 % 67108864 ∧ V / 25711008708143844408671393477458601640355247900524685364822016 % 67108864 ≤ 1099511627776 := by omega
theorem dm_9 (V : Int) : V / 1725436586697640946858688965569256363112777243042596638790631055949824 % 33554432 = V % 57896044618658097711785492504343953926634992332820282019728792003956564819968 / 1725436586697640946858688965569256363112777243042596638790631055949824 % 33554432 := by omega
theorem db_9 (V : Int) : -1099511627776 ≤ V / 1725436586697640946858688965569256363112777243042596638790631055949824 % 33554432 ∧ V / 1725436586697640946858688965569256363112777243042596638790631055949824 % 33554432 ≤ 1099511627776 := by omega
theorem cb_ {c V z : Int} (hc : -1000000 ≤ c ∧ c ≤ 1000000) (j : Int) (hj : -19 ≤ j ∧ j ≤ 19) (hz : z = ((19 * c + j) + V % 57896044618658097711785492504343953926634992332820282019728792003956564819968) / 57896044618658097711785492504343953926634992332820282019728792003956564819968) : -1000000 ≤ z ∧ z ≤ 1000000 := by omega
theorem cb0_ {V z : Int} (h : -59285549689505892056868344324448208820874232148807968788202283012051522375647232 ≤ V ∧ V ≤ 59285549689505892056868344324448208820874232148807968788202283012051522375647232) (hz : z = V / 57896044618658097711785492504343953926634992332820282019728792003956564819968) : -1000000 ≤ z ∧ z ≤ 1000000 := by omega
theorem cc_ {c : Int} (hc : -1000000 ≤ c ∧ c ≤ 1000000) (j : Int) (hj : -19 ≤ j ∧ j ≤ 19) : -9223372036854775808 ≤ 19 * c + j ∧ 19 * c + j < 9223372036854775808 ∧ -1099511627776 ≤ 19 * c + j ∧ 19 * c + j ≤ 1099511627776 := by omega
set_option maxHeartbeats 2000000 in
theorem mkC_V {a : Nat → Int64} {x : Int} {n : Nat} (hn : n ≤ 100) (h : V10 a x n) : ((mkC a 4).2 0).toInt = (x % pP) / 1 % 67108864 ∧ ((mkC a 4).2 1).toInt = (x % pP) / 67108864 % 33554432 ∧ ((mkC a 4).2 2).toInt = (x % pP) / 2251799813685248 % 67108864 ∧ ((mkC a 4).2 3).toInt = (x % pP) / 151115727451828646838272 % 33554432 ∧ ((mkC a 4).2 4).toInt = (x % pP) / 5070602400912917605986812821504 % 67108864 ∧ ((mkC a 4).2 5).toInt = (x % pP) / 340282366920938463463374607431768211456 % 33554432 ∧ ((mkC a 4).2 6).toInt = (x % pP) / 11417981541647679048466287755595961091061972992 % 67108864 ∧ ((mkC a 4).2 7).toInt = (x % pP) / 766247770432944429179173513575154591809369561091801088 % 33554432 ∧ ((mkC a 4).2 8).toInt = (x % pP) / 25711008708143844408671393477458601640355247900524685364822016 % 67108864 ∧ ((mkC a 4).2 9).toInt = (x % pP) / 1725436586697640946858688965569256363112777243042596638790631055949824 % 33554432 := by
  have hb : ∀ i, i < 10 → -6710886400 ≤ (a i).toInt ∧ (a i).toInt ≤ 6710886400 := fun i hi => by
    have := h.2 i hi
    have hbt : 0 ≤ bt i ∧ bt i ≤ 67108864 := by unfold bt; split <;> decide
    have hbig : (n : Int) * bt i ≤ 100 * 67108864 := Int.mul_le_mul (by omega) hbt.2 hbt.1 (by decide)
    omega
  have hV0 : -59285549689505892056868344324448208820874232148807968788202283012051522375647232 ≤ va10 a ∧ va10 a ≤ 59285549689505892056868344324448208820874232148807968788202283012051522375647232 := by
    have := hb 0 (by decide)
    have := hb 1 (by decide)
    have := hb 2 (by decide)
    have := hb 3 (by decide)
    have := hb 4 (by decide)
    have := hb 5 (by decide)
    have := hb 6 (by decide)
    have := hb 7 (by decide)
    have := hb 8 (by decide)
    have := hb 9 (by decide)
    unfold va10; omega
  obtain ⟨b, eb⟩ : ∃ b : Nat → Int64 × (Nat → Int64), b = mkC a := ⟨_, rfl⟩
  have z0 : (19 * (0 : Int64) + adjP 0).toInt = 0 := by decide
  have p0 := pass10 (c := 19 * (0 : Int64) + adjP 0) (a := a) (by rw [z0]; decide) (fun i hi => by have := hb i hi; omega)
  rw [z0, Int.zero_add] at p0
  obtain ⟨k1, u0, u1, u2, u3, u4, u5, u6, u7, u8, u9⟩ := p0
  have e1 : (mkC a 1).1 = pwC (19 * (0 : Int64) + adjP 0) a 10 := rfl
  have f1 : (mkC a 1).2 = pwN (19 * (0 : Int64) + adjP 0) a := rfl
  rw [← e1] at k1; rw [← f1] at u0 u1 u2 u3 u4 u5 u6 u7 u8 u9
  have s1 : va10 (mkC a 1).2 = va10 a % 57896044618658097711785492504343953926634992332820282019728792003956564819968 := by
    unfold va10
    rw [u0, u1, u2, u3, u4, u5, u6, u7, u8, u9]
    exact dsum10 _
  obtain ⟨V1, hV1⟩ : ∃ z : Int, z = (19 * (mkC a 1).1.toInt + 0) + va10 (mkC a 1).2 := ⟨_, rfl⟩
  have bc1 : -1000000 ≤ (mkC a 1).1.toInt ∧ (mkC a 1).1.toInt ≤ 1000000 := by exact cb0_ hV0 k1
  have z1 : (19 * (mkC a 1).1 + adjP 1).toInt = 19 * (mkC a 1).1.toInt + 0 := by
    have : 19 * (mkC a 1).1 + adjP 1 = Int64.ofInt (19 * (mkC a 1).1.toInt + 0) := by rw [Int64.ofInt_add, Int64.ofInt_mul, Int64.ofInt_toInt]; rfl
    have q := cc_ bc1 (0) (by decide)
    rw [this, oi_to q.1 q.2.1]
  have p1 := pass10 (c := 19 * (mkC a 1).1 + adjP 1) (a := (mkC a 1).2) (by rw [z1]; exact (cc_ bc1 (0) (by decide)).2.2) (fun i hi => by
    have h10 : i = 0 ∨ i = 1 ∨ i = 2 ∨ i = 3 ∨ i = 4 ∨ i = 5 ∨ i = 6 ∨ i = 7 ∨ i = 8 ∨ i = 9 := by omega
    rcases h10 with rfl | rfl | rfl | rfl | rfl | rfl | rfl | rfl | rfl | rfl
    · rw [u0]; exact db_0 _
    · rw [u1]; exact db_1 _
    · rw [u2]; exact db_2 _
    · rw [u3]; exact db_3 _
    · rw [u4]; exact db_4 _
    · rw [u5]; exact db_5 _
    · rw [u6]; exact db_6 _
    · rw [u7]; exact db_7 _
    · rw [u8]; exact db_8 _
    · rw [u9]; exact db_9 _
    )
  rw [z1, ← hV1] at p1
  clear u0 u1 u2 u3 u4 u5 u6 u7 u8 u9
  obtain ⟨k2, u0, u1, u2, u3, u4, u5, u6, u7, u8, u9⟩ := p1
  have e2 : (mkC a 2).1 = pwC (19 * (mkC a 1).1 + adjP 1) (mkC a 1).2 10 := rfl
  have f2 : (mkC a 2).2 = pwN (19 * (mkC a 1).1 + adjP 1) (mkC a 1).2 := rfl
  rw [← e2] at k2; rw [← f2] at u0 u1 u2 u3 u4 u5 u6 u7 u8 u9
  have s2 : va10 (mkC a 2).2 = V1 % 57896044618658097711785492504343953926634992332820282019728792003956564819968 := by
    unfold va10
    rw [u0, u1, u2, u3, u4, u5, u6, u7, u8, u9]
    exact dsum10 _
  obtain ⟨V2, hV2⟩ : ∃ z : Int, z = (19 * (mkC a 2).1.toInt + 19) + va10 (mkC a 2).2 := ⟨_, rfl⟩
  have bc2 : -1000000 ≤ (mkC a 2).1.toInt ∧ (mkC a 2).1.toInt ≤ 1000000 := by exact cb_ bc1 (0) (by decide) (k2.trans (by rw [hV1, s1]))
  have z2 : (19 * (mkC a 2).1 + adjP 2).toInt = 19 * (mkC a 2).1.toInt + 19 := by
    have : 19 * (mkC a 2).1 + adjP 2 = Int64.ofInt (19 * (mkC a 2).1.toInt + 19) := by rw [Int64.ofInt_add, Int64.ofInt_mul, Int64.ofInt_toInt]; rfl
    have q := cc_ bc2 (19) (by decide)
    rw [this, oi_to q.1 q.2.1]
  have p2 := pass10 (c := 19 * (mkC a 2).1 + adjP 2) (a := (mkC a 2).2) (by rw [z2]; exact (cc_ bc2 (19) (by decide)).2.2) (fun i hi => by
    have h10 : i = 0 ∨ i = 1 ∨ i = 2 ∨ i = 3 ∨ i = 4 ∨ i = 5 ∨ i = 6 ∨ i = 7 ∨ i = 8 ∨ i = 9 := by omega
    rcases h10 with rfl | rfl | rfl | rfl | rfl | rfl | rfl | rfl | rfl | rfl
    · rw [u0]; exact db_0 _
    · rw [u1]; exact db_1 _
    · rw [u2]; exact db_2 _
    · rw [u3]; exact db_3 _
    · rw [u4]; exact db_4 _
    · rw [u5]; exact db_5 _
    · rw [u6]; exact db_6 _
    · rw [u7]; exact db_7 _
    · rw [u8]; exact db_8 _
    · rw [u9]; exact db_9 _
    )
  rw [z2, ← hV2] at p2
  clear u0 u1 u2 u3 u4 u5 u6 u7 u8 u9
  obtain ⟨k3, u0, u1, u2, u3, u4, u5, u6, u7, u8, u9⟩ := p2
  have e3 : (mkC a 3).1 = pwC (19 * (mkC a 2).1 + adjP 2) (mkC a 2).2 10 := rfl
  have f3 : (mkC a 3).2 = pwN (19 * (mkC a 2).1 + adjP 2) (mkC a 2).2 := rfl
  rw [← e3] at k3; rw [← f3] at u0 u1 u2 u3 u4 u5 u6 u7 u8 u9
  have s3 : va10 (mkC a 3).2 = V2 % 57896044618658097711785492504343953926634992332820282019728792003956564819968 := by
    unfold va10
    rw [u0, u1, u2, u3, u4, u5, u6, u7, u8, u9]
    exact dsum10 _
  obtain ⟨V3, hV3⟩ : ∃ z : Int, z = (19 * (mkC a 3).1.toInt + -19) + va10 (mkC a 3).2 := ⟨_, rfl⟩
  have bc3 : -1000000 ≤ (mkC a 3).1.toInt ∧ (mkC a 3).1.toInt ≤ 1000000 := by exact cb_ bc2 (19) (by decide) (k3.trans (by rw [hV2, s2]))
  have z3 : (19 * (mkC a 3).1 + adjP 3).toInt = 19 * (mkC a 3).1.toInt + -19 := by
    have : 19 * (mkC a 3).1 + adjP 3 = Int64.ofInt (19 * (mkC a 3).1.toInt + -19) := by rw [Int64.ofInt_add, Int64.ofInt_mul, Int64.ofInt_toInt]; rfl
    have q := cc_ bc3 (-19) (by decide)
    rw [this, oi_to q.1 q.2.1]
  have p3 := pass10 (c := 19 * (mkC a 3).1 + adjP 3) (a := (mkC a 3).2) (by rw [z3]; exact (cc_ bc3 (-19) (by decide)).2.2) (fun i hi => by
    have h10 : i = 0 ∨ i = 1 ∨ i = 2 ∨ i = 3 ∨ i = 4 ∨ i = 5 ∨ i = 6 ∨ i = 7 ∨ i = 8 ∨ i = 9 := by omega
    rcases h10 with rfl | rfl | rfl | rfl | rfl | rfl | rfl | rfl | rfl | rfl
    · rw [u0]; exact db_0 _
    · rw [u1]; exact db_1 _
    · rw [u2]; exact db_2 _
    · rw [u3]; exact db_3 _
    · rw [u4]; exact db_4 _
    · rw [u5]; exact db_5 _
    · rw [u6]; exact db_6 _
    · rw [u7]; exact db_7 _
    · rw [u8]; exact db_8 _
    · rw [u9]; exact db_9 _
    )
  rw [z3, ← hV3] at p3
  clear u0 u1 u2 u3 u4 u5 u6 u7 u8 u9
  obtain ⟨k4, u0, u1, u2, u3, u4, u5, u6, u7, u8, u9⟩ := p3
  have e4 : (mkC a 4).1 = pwC (19 * (mkC a 3).1 + adjP 3) (mkC a 3).2 10 := rfl
  have f4 : (mkC a 4).2 = pwN (19 * (mkC a 3).1 + adjP 3) (mkC a 3).2 := rfl
  rw [← e4] at k4; rw [← f4] at u0 u1 u2 u3 u4 u5 u6 u7 u8 u9
  have hx : x % pP = va10 a % pP := (eqP.em.mp h.1).symm
  rw [s1] at hV1; rw [s2] at hV2; rw [s3] at hV3
  have F := fin10 hV0 k1 (hV1.trans (by rw [Int.add_zero])) k2 hV2 k3 hV3
  have hX : x % pP = V3 % 57896044618658097711785492504343953926634992332820282019728792003956564819968 := by rw [hx, show pP = 57896044618658097711785492504343953926634992332820282019728792003956564819949 from rfl, F]
  rw [hX]
  refine ⟨?_, ?_, ?_, ?_, ?_, ?_, ?_, ?_, ?_, ?_⟩
  · rw [u0]; exact dm_0 _
  · rw [u1]; exact dm_1 _
  · rw [u2]; exact dm_2 _
  · rw [u3]; exact dm_3 _
  · rw [u4]; exact dm_4 _
  · rw [u5]; exact dm_5 _
  · rw [u6]; exact dm_6 _
  · rw [u7]; exact dm_7 _
  · rw [u8]; exact dm_8 _
  · rw [u9]; exact dm_9 _
theorem pP_pos : (0 : Int) < pP := by decide
theorem V10.lp0 {F W : Nat → Int64} {x : Int} {n : Nat} (h : V10 F x n) : V10 (lp 10 F W) x n := h.ext fun i hi => by unfold lp; exact if_pos hi
theorem odd_l {z : Int64} {X : Int} (h : z.toInt = X / 1 % 67108864) : lg_cmp (z &&& 1) 1 = 0 ↔ X % 2 = 1 := by
  have e1 : z &&& 1 = Int64.ofInt (X % 2) := by
    have hz : z = Int64.ofInt z.toInt := (Int64.ofInt_toInt z).symm
    rw [hz, oi_and _ 1 _ (by decide) (by decide), h]
    congr 1
    omega
  have h2 : X % 2 = 0 ∨ X % 2 = 1 := by omega
  rw [e1]
  rcases h2 with h | h <;> rw [h] <;> decide
theorem or0 (a b : Int64) : a ||| b = 0 ↔ a = 0 ∧ b = 0 := by
  rw [← Int64.toBitVec_inj, ← Int64.toBitVec_inj, ← Int64.toBitVec_inj, Int64.toBitVec_or]
  exact BitVec.or_eq_zero_iff
theorem cmp0 (a : Int64) : lg_cmp a 0 = 0 ↔ a = 0 := by
  unfold lg_cmp
  by_cases h : a > 0
  · rw [if_pos h]; constructor
    · intro c; exact absurd c (by decide)
    · intro c; subst c; exact absurd h (by decide)
  · rw [if_neg h]
    by_cases h2 : a = 0
    · rw [if_pos h2]; simp [h2]
    · rw [if_neg h2]; constructor
      · intro c; exact absurd c (by decide)
      · intro c; exact absurd c h2
set_option maxHeartbeats 8000000 in
theorem x_Fi_isOdd (G : GX) {M : List va_E} {f : Nat} {W F : Nat → Int64} {x : Int} {n : Nat} (ho : M[78]? = some (.inr (6, [.ref 79, .ref 80, .ref 81, .ref 82, .ref 83, .ref 84, .ref 85]))) (hw : M[79]? = some (lr 10 W)) (hf : M[f]? = some (lr 10 F)) (hV : V10 F x n) (hn : n ≤ 100) : CT G mi_Fi_isOdd [.ref 78, .ref f] M (fun r M' => r = some (.int (nI (if (x % pP) % 2 = 1 then 1 else 0))) ∧ ∃ W', M' = M.set 79 (lr 10 W')) := by
  refine CT.of (by decide) (Nat.le_of_ble_eq_true rfl) ?_
  show TT G mi_Fi_isOdd 0 [(0, .ref 78), (1, .ref f)] [] M 0 0 _
  refine T_aload_n (v := .ref 78) d_Fi_isOdd_0 rfl (Or.inr ⟨_, rfl⟩) ?_
  refine T_aload_n (v := .ref f) d_Fi_isOdd_1 rfl (Or.inr ⟨_, rfl⟩) ?_
  refine T_virtual (as := [.ref f]) (rest := []) (b := 78) d_Fi_isOdd_2 rfl (jw_Fi_makeWhole.jo (by decide)) lm_Fi_43 ji_Fi_makeWhole js_Fi_makeWhole ho rfl rfl rfl (Nat.le_of_ble_eq_true rfl) (by decide) (by decide) (x_Fi_makeWhole G ho hw hf) (fun r M' hq => ?_)
  rw [hq.1, hq.2]
  clear hq r M'
  have K := (mkC_V hn (hV.lp0 (W := W))).1
  generalize (mkC (lp 10 F W) 4).2 = W1 at K ⊢
  show TT G mi_Fi_isOdd 5 [(0, .ref 78), (1, .ref f)] [] (M.set 79 (lr 10 W1)) 0 0 _
  refine T_aload_n (v := .ref 78) d_Fi_isOdd_5 rfl (Or.inr ⟨_, rfl⟩) ?_
  refine T_getfield d_Fi_isOdd_6 fg_Fi_9 (X_ne ho (by decide)) rfl ?_
  refine T_iconst (v := nI 0) d_Fi_isOdd_9 (by decide) ?_
  refine T_laload d_Fi_isOdd_10 (List.getElem?_set_self (X_len hw)) (vp_in_nI (by decide) (by decide)) ?_
  refine T_eq (st' := [.long (W1 0)]) rfl rfl rfl rfl ?_
  refine T_lconst (v := 1) d_Fi_isOdd_11 (by decide) ?_
  refine T_land d_Fi_isOdd_12 ?_
  refine T_lconst (v := 1) d_Fi_isOdd_13 (by decide) ?_
  refine T_lcmp d_Fi_isOdd_14 ?_
  refine T_if_ne d_Fi_isOdd_15 (tgt := 22) rfl (fun c => ?_) (fun c => ?_)
  · refine T_iconst (v := nI 0) d_Fi_isOdd_22 (by decide) ?_
    exact T_ret d_Fi_isOdd_23 rfl (by decide) (by decide) (by decide) ⟨by rw [if_neg (fun h => c ((odd_l K).mpr h))], _, rfl⟩
  · refine T_iconst (v := nI 1) d_Fi_isOdd_18 (by decide) ?_
    refine T_goto (tgt := 23) d_Fi_isOdd_19 rfl ?_
    exact T_ret d_Fi_isOdd_23 rfl (by decide) (by decide) (by decide) ⟨by rw [if_pos ((odd_l K).mp c)], _, rfl⟩
set_option maxHeartbeats 8000000 in
theorem xl_Fi_isZero (G : GX) {M : List va_E} {f : Nat} {W1 : Nat → Int64} (ho : M[78]? = some (.inr (6, [.ref 79, .ref 80, .ref 81, .ref 82, .ref 83, .ref 84, .ref 85]))) (hw : M[79]? = some (lr 10 W1)) {Q : Option Value → List va_E → Prop} (kk : ∀ z : Int64, (z = 0 ↔ ∀ i, i < 10 → W1 i = 0) → TT G mi_Fi_isZero 33 [(2, .long z), (0, .ref 78), (1, .ref f)] [] M 0 0 Q) : ∀ j k (z : Int64), k + j = 10 → (z = 0 ↔ ∀ i, i < k → W1 i = 0) → TT G mi_Fi_isZero 10 [(4, .int (nI k)), (2, .long z), (0, .ref 78), (1, .ref f)] [] M 0 0 Q := by
  intro j
  induction j with
  | zero =>
    intro k z hk hz
    have : k = 10 := by omega
    subst this
    refine T_iload d_Fi_isZero_10 rfl ?_
    refine T_bipush (v := nI 10) d_Fi_isZero_12 (by decide) ?_
    refine T_icmp_ge d_Fi_isZero_14 (tgt := 33) rfl (fun _ => ?_) (fun c => absurd (by decide) c)
    exact T_sub (fun q hq => List.mem_cons_of_mem _ hq) (kk z hz)
  | succ j ih =>
    intro k z hk hz
    refine T_iload d_Fi_isZero_10 rfl ?_
    refine T_bipush (v := nI 10) d_Fi_isZero_12 (by decide) ?_
    refine T_icmp_ge d_Fi_isZero_14 (tgt := 33) rfl (fun c => absurd ((nI_leI (by decide) (by omega)).mp c) (by omega)) (fun _ => ?_)
    refine T_lload_n d_Fi_isZero_17 rfl ?_
    refine T_aload_n (v := .ref 78) d_Fi_isZero_18 rfl (Or.inr ⟨_, rfl⟩) ?_
    refine T_getfield d_Fi_isZero_19 fg_Fi_9 ho rfl ?_
    refine T_iload d_Fi_isZero_22 rfl ?_
    refine T_laload d_Fi_isZero_24 hw (vp_in_nI (by omega) (by decide)) ?_
    rw [nI_clamp (by omega)]
    refine T_lor d_Fi_isZero_25 ?_
    refine T_lstore_n (L' := [(2, .long (z ||| W1 k)), (4, .int (nI k)), (0, .ref 78), (1, .ref f)]) d_Fi_isZero_26 (by decide) rfl ?_
    refine T_iinc (x := nI k) (L' := [(4, .int (nI (k + 1))), (2, .long (z ||| W1 k)), (0, .ref 78), (1, .ref f)]) d_Fi_isZero_27 (by decide) rfl (by rw [show Int32.ofInt 1 = nI 1 from rfl, nI_add]; rfl) ?_
    refine T_goto (tgt := 10) d_Fi_isZero_30 rfl ?_
    refine ih (k + 1) (z ||| W1 k) (by omega) ?_
    rw [or0, hz]
    constructor
    · intro ⟨h1, h2⟩ i hi
      rcases Nat.lt_or_ge i k with h | h
      · exact h1 i h
      · rw [show i = k by omega]; exact h2
    · intro h
      exact ⟨fun i hi => h i (by omega), h k (by omega)⟩
set_option maxHeartbeats 8000000 in
theorem dig0 {X : Int} {W1 : Nat → Int64} (h0 : 0 ≤ X) (h1 : X < pP) (K : (W1 0).toInt = X / 1 % 67108864 ∧ (W1 1).toInt = X / 67108864 % 33554432 ∧ (W1 2).toInt = X / 2251799813685248 % 67108864 ∧ (W1 3).toInt = X / 151115727451828646838272 % 33554432 ∧ (W1 4).toInt = X / 5070602400912917605986812821504 % 67108864 ∧ (W1 5).toInt = X / 340282366920938463463374607431768211456 % 33554432 ∧ (W1 6).toInt = X / 11417981541647679048466287755595961091061972992 % 67108864 ∧ (W1 7).toInt = X / 766247770432944429179173513575154591809369561091801088 % 33554432 ∧ (W1 8).toInt = X / 25711008708143844408671393477458601640355247900524685364822016 % 67108864 ∧ (W1 9).toInt = X / 1725436586697640946858688965569256363112777243042596638790631055949824 % 33554432) : (∀ i, i < 10 → W1 i = 0) ↔ X = 0 := by
  obtain ⟨k0, k1, k2, k3, k4, k5, k6, k7, k8, k9⟩ := K
  constructor
  · intro h
    have hs := dsum10 X
    rw [← k0, ← k1, ← k2, ← k3, ← k4, ← k5, ← k6, ← k7, ← k8, ← k9] at hs
    rw [h 0 (by decide), h 1 (by decide), h 2 (by decide), h 3 (by decide), h 4 (by decide), h 5 (by decide), h 6 (by decide), h 7 (by decide), h 8 (by decide), h 9 (by decide)] at hs
    have : (0 : Int64).toInt = 0 := rfl
    rw [this] at hs
    unfold pP at h1
    omega
  · intro h
    subst h
    intro i hi
    have h10 : i = 0 ∨ i = 1 ∨ i = 2 ∨ i = 3 ∨ i = 4 ∨ i = 5 ∨ i = 6 ∨ i = 7 ∨ i = 8 ∨ i = 9 := by omega
    apply Int64.toInt_inj.mp
    rcases h10 with rfl | rfl | rfl | rfl | rfl | rfl | rfl | rfl | rfl | rfl
    · rw [k0]; decide
    · rw [k1]; decide
    · rw [k2]; decide
    · rw [k3]; decide
    · rw [k4]; decide
    · rw [k5]; decide
    · rw [k6]; decide
    · rw [k7]; decide
    · rw [k8]; decide
    · rw [k9]; decide
set_option maxHeartbeats 8000000 in
theorem x_Fi_isZero (G : GX) {M : List va_E} {f : Nat} {W F : Nat → Int64} {x : Int} {n : Nat} (ho : M[78]? = some (.inr (6, [.ref 79, .ref 80, .ref 81, .ref 82, .ref 83, .ref 84, .ref 85]))) (hw : M[79]? = some (lr 10 W)) (hf : M[f]? = some (lr 10 F)) (hV : V10 F x n) (hn : n ≤ 100) : CT G mi_Fi_isZero [.ref 78, .ref f] M (fun r M' => r = some (.int (nI (if x % pP = 0 then 1 else 0))) ∧ ∃ W', M' = M.set 79 (lr 10 W')) := by
  refine CT.of (by decide) (Nat.le_of_ble_eq_true rfl) ?_
  show TT G mi_Fi_isZero 0 [(0, .ref 78), (1, .ref f)] [] M 0 0 _
  refine T_aload_n (v := .ref 78) d_Fi_isZero_0 rfl (Or.inr ⟨_, rfl⟩) ?_
  refine T_aload_n (v := .ref f) d_Fi_isZero_1 rfl (Or.inr ⟨_, rfl⟩) ?_
  refine T_virtual (as := [.ref f]) (rest := []) (b := 78) d_Fi_isZero_2 rfl (jw_Fi_makeWhole.jo (by decide)) lm_Fi_43 ji_Fi_makeWhole js_Fi_makeWhole ho rfl rfl rfl (Nat.le_of_ble_eq_true rfl) (by decide) (by decide) (x_Fi_makeWhole G ho hw hf) (fun r M' hq => ?_)
  rw [hq.1, hq.2]
  clear hq r M'
  have K := dig0 (Int.emod_nonneg x (by decide)) (Int.emod_lt_of_pos x pP_pos) (mkC_V hn (hV.lp0 (W := W)))
  generalize (mkC (lp 10 F W) 4).2 = W1 at K ⊢
  show TT G mi_Fi_isZero 5 [(0, .ref 78), (1, .ref f)] [] (M.set 79 (lr 10 W1)) 0 0 _
  refine T_lconst (v := 0) d_Fi_isZero_5 (by decide) ?_
  refine T_lstore_n (L' := [(2, .long 0), (0, .ref 78), (1, .ref f)]) d_Fi_isZero_6 (by decide) rfl ?_
  refine T_iconst (v := nI 0) d_Fi_isZero_7 (by decide) ?_
  refine T_istore (L' := [(4, .int (nI 0)), (2, .long 0), (0, .ref 78), (1, .ref f)]) d_Fi_isZero_8 (by decide) rfl ?_
  refine xl_Fi_isZero G (X_ne ho (by decide)) (List.getElem?_set_self (X_len hw)) (fun z hz => ?_) 10 0 0 rfl (by simp)
  refine T_lload_n d_Fi_isZero_33 rfl ?_
  refine T_lconst (v := 0) d_Fi_isZero_34 (by decide) ?_
  refine T_lcmp d_Fi_isZero_35 ?_
  refine T_if_ne d_Fi_isZero_36 (tgt := 43) rfl (fun c => ?_) (fun c => ?_)
  · refine T_iconst (v := nI 0) d_Fi_isZero_43 (by decide) ?_
    exact T_ret d_Fi_isZero_44 rfl (by decide) (by decide) (by decide) ⟨by rw [if_neg (fun h => c ((cmp0 z).mpr (hz.mpr (K.mpr h))))], _, rfl⟩
  · refine T_iconst (v := nI 1) d_Fi_isZero_39 (by decide) ?_
    refine T_goto (tgt := 44) d_Fi_isZero_40 rfl ?_
    exact T_ret d_Fi_isZero_44 rfl (by decide) (by decide) (by decide) ⟨by rw [if_pos (K.mp (hz.mp ((cmp0 z).mp c)))], _, rfl⟩
