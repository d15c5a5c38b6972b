theorem X_ne {M : List va_E} {a b : Nat} {e x : va_E} (h : M[b]? = some x) (hn : a ≠ b) : (M.set a e)[b]? = some x := by rw [List.getElem?_set_ne hn]; exact h
def wd (k : Nat) : Nat := 26 - k % 2
def mk (k : Nat) : Int64 := if k % 2 = 0 then 67108863 else 33554431
def pwC (c : Int64) (a : Nat → Int64) : Nat → Int64
  | 0 => c
  | k + 1 => (pwC c a k + a k) >>> ((nI (wd k)).toInt64 &&& 63)
def pwW (c : Int64) (a : Nat → Int64) (k : Nat) : Int64 := (pwC c a k + a k) &&& mk k
def pwN (c : Int64) (a : Nat → Int64) : Nat → Int64 := lp 10 (pwW c a) a
theorem xl_mw_copy (G : GX) {M : List va_E} {f : Nat} {W F : Nat → Int64} (ho : M[78]? = some (.inr (6, [.ref 79, .ref 80, .ref 81, .ref 82, .ref 83, .ref 84, .ref 85]))) (hw : M[79]? = some (lr 10 W)) (hf : M[f]? = some (lr 10 F)) {Q : Option Value → List va_E → Prop} (kk : TT G mi_Fi_makeWhole 23 [(0, .ref 78), (1, .ref f)] [] (M.set 79 (lr 10 (lp 10 F W))) 0 0 Q) : ∀ j k, k + j = 10 → TT G mi_Fi_makeWhole 2 [(2, .int (nI k)), (0, .ref 78), (1, .ref f)] [] (M.set 79 (lr 10 (lp k F W))) 0 0 Q := by
  have hl := X_len hw
  intro j
  induction j with
  | zero =>
    intro k hk
    have : k = 10 := by omega
    subst this
    refine T_iload_n d_Fi_makeWhole_2 rfl ?_
    refine T_bipush (v := nI 10) d_Fi_makeWhole_3 (by decide) ?_
    refine T_icmp_ge d_Fi_makeWhole_5 (tgt := 23) rfl (fun _ => ?_) (fun c => absurd (by decide) c)
    exact T_sub (fun q hq => List.mem_cons_of_mem _ hq) kk
  | succ j ih =>
    intro k hk
    refine T_iload_n d_Fi_makeWhole_2 rfl ?_
    refine T_bipush (v := nI 10) d_Fi_makeWhole_3 (by decide) ?_
    refine T_icmp_ge d_Fi_makeWhole_5 (tgt := 23) rfl (fun c => absurd ((nI_leI (by decide) (by omega)).mp c) (by omega)) (fun _ => ?_)
    refine T_aload_n (v := .ref 78) d_Fi_makeWhole_8 rfl (Or.inr ⟨_, rfl⟩) ?_
    refine T_getfield d_Fi_makeWhole_9 fg_Fi_9 (X_ne ho (by decide)) rfl ?_
    refine T_iload_n d_Fi_makeWhole_12 rfl ?_
    obtain ⟨F1, qf, rf⟩ := X_rd (k := k) (Hk := lp k F W) hw hf (lp_at k F W)
    refine T_aload_n (v := .ref f) d_Fi_makeWhole_13 rfl (Or.inr ⟨_, rfl⟩) ?_
    refine T_iload_n d_Fi_makeWhole_14 rfl ?_
    refine T_laload d_Fi_makeWhole_15 qf (vp_in_nI (by omega) (by decide)) ?_
    rw [nI_clamp (by omega), rf]
    refine X_last (n := 10) (k := k) d_Fi_makeWhole_16 (by decide) (by omega) (by decide) hl ?_
    rw [lp_up k F W]
    refine T_iinc (x := nI k) (L' := [(2, .int (nI (k + 1))), (0, .ref 78), (1, .ref f)]) d_Fi_makeWhole_17 (by decide) rfl (by rw [show Int32.ofInt 1 = nI 1 from rfl, nI_add]; rfl) ?_
    refine T_goto (tgt := 2) d_Fi_makeWhole_20 rfl ?_
    exact ih (k + 1) (by omega)
theorem xl_mw_in (G : GX) {M : List va_E} {f : Nat} {W : Nat → Int64} (ho : M[78]? = some (.inr (6, [.ref 79, .ref 80, .ref 81, .ref 82, .ref 83, .ref 84, .ref 85]))) (hw : M[79]? = some (lr 10 W)) {c : Int64} {a : Nat → Int64} {p : Int32} {Q : Option Value → List va_E → Prop} (kk : TT G mi_Fi_makeWhole 120 [(2, .long (pwC c a 10)), (4, .int p), (0, .ref 78), (1, .ref f)] [] (M.set 79 (lr 10 (pwN c a))) 0 0 Q) : ∀ j k, k + j = 10 → TT G mi_Fi_makeWhole 68 [(5, .int (nI k)), (2, .long (pwC c a k)), (4, .int p), (0, .ref 78), (1, .ref f)] [] (M.set 79 (lr 10 (lp k (pwW c a) a))) 0 0 Q := by
  have hl := X_len hw
  intro j
  induction j with
  | zero =>
    intro k hk
    have : k = 10 := by omega
    subst this
    refine T_iload d_Fi_makeWhole_68 rfl ?_
    refine T_bipush (v := nI 10) d_Fi_makeWhole_70 (by decide) ?_
    refine T_icmp_ge d_Fi_makeWhole_72 (tgt := 120) rfl (fun _ => ?_) (fun c => absurd (by decide) c)
    exact T_sub (fun q hq => List.mem_cons_of_mem _ hq) kk
  | succ j ih =>
    intro k hk
    refine T_iload d_Fi_makeWhole_68 rfl ?_
    refine T_bipush (v := nI 10) d_Fi_makeWhole_70 (by decide) ?_
    refine T_icmp_ge d_Fi_makeWhole_72 (tgt := 120) rfl (fun c => absurd ((nI_leI (by decide) (by omega)).mp c) (by omega)) (fun _ => ?_)
    refine T_bipush (v := nI 26) d_Fi_makeWhole_75 (by decide) ?_
    refine T_iload d_Fi_makeWhole_77 rfl ?_
    refine T_iconst (v := nI 1) d_Fi_makeWhole_79 (by decide) ?_
    refine T_iand d_Fi_makeWhole_80 ?_
    rw [pk_andN (n := k) (by omega) 1 (m := nI 1) (by decide)]
    refine T_isub d_Fi_makeWhole_81 ?_
    have hwd : nI 26 - nI (k % 2 ^ 1) = nI (wd k) := by
      have h2 : k % 2 = 0 ∨ k % 2 = 1 := by omega
      unfold wd; rcases h2 with h | h <;> rw [show k % 2 ^ 1 = k % 2 from rfl, h] <;> rfl
    rw [hwd]
    refine T_istore (L' := [(6, .int (nI (wd k))), (5, .int (nI k)), (2, .long (pwC c a k)), (4, .int p), (0, .ref 78), (1, .ref f)]) d_Fi_makeWhole_82 (by decide) rfl ?_
    refine T_lload_n d_Fi_makeWhole_84 rfl ?_
    refine T_aload_n (v := .ref 78) d_Fi_makeWhole_85 rfl (Or.inr ⟨_, rfl⟩) ?_
    refine T_getfield d_Fi_makeWhole_86 fg_Fi_9 (X_ne ho (by decide)) rfl ?_
    refine T_iload d_Fi_makeWhole_89 rfl ?_
    refine T_laload d_Fi_makeWhole_91 (List.getElem?_set_self hl) (vp_in_nI (by omega) (by decide)) ?_
    rw [nI_clamp (by omega), lp_at]
    refine T_ladd d_Fi_makeWhole_92 ?_
    refine T_lstore_n (L' := [(2, .long (pwC c a k + a k)), (6, .int (nI (wd k))), (5, .int (nI k)), (4, .int p), (0, .ref 78), (1, .ref f)]) d_Fi_makeWhole_93 (by decide) rfl ?_
    refine T_aload_n (v := .ref 78) d_Fi_makeWhole_94 rfl (Or.inr ⟨_, rfl⟩) ?_
    refine T_getfield d_Fi_makeWhole_95 fg_Fi_9 (X_ne ho (by decide)) rfl ?_
    refine T_iload d_Fi_makeWhole_98 rfl ?_
    refine T_lload_n d_Fi_makeWhole_100 rfl ?_
    refine T_lconst (v := 1) d_Fi_makeWhole_101 (by decide) ?_
    refine T_iload d_Fi_makeWhole_102 rfl ?_
    refine T_lshl d_Fi_makeWhole_104 ?_
    refine T_lconst (v := 1) d_Fi_makeWhole_105 (by decide) ?_
    refine T_lsub d_Fi_makeWhole_106 ?_
    have hmk : (1 : Int64) <<< ((nI (wd k)).toInt64 &&& 63) - 1 = mk k := by
      have h2 : k % 2 = 0 ∨ k % 2 = 1 := by omega
      unfold wd mk; rcases h2 with h | h <;> rw [h] <;> rfl
    rw [hmk]
    refine T_land d_Fi_makeWhole_107 ?_
    refine X_last (n := 10) (k := k) d_Fi_makeWhole_108 (by decide) (by omega) (by decide) hl ?_
    rw [show vp_updL (lp k (pwW c a) a) k ((pwC c a k + a k) &&& mk k) = lp (k + 1) (pwW c a) a from lp_up k (pwW c a) a]
    refine T_lload_n d_Fi_makeWhole_109 rfl ?_
    refine T_iload d_Fi_makeWhole_110 rfl ?_
    refine T_lshr d_Fi_makeWhole_112 ?_
    refine T_lstore_n (L' := [(2, .long (pwC c a (k + 1))), (6, .int (nI (wd k))), (5, .int (nI k)), (4, .int p), (0, .ref 78), (1, .ref f)]) d_Fi_makeWhole_113 (by decide) rfl ?_
    refine T_iinc (x := nI k) (L' := [(5, .int (nI (k + 1))), (2, .long (pwC c a (k + 1))), (6, .int (nI (wd k))), (4, .int p), (0, .ref 78), (1, .ref f)]) d_Fi_makeWhole_114 (by decide) rfl (by rw [show Int32.ofInt 1 = nI 1 from rfl, nI_add]; rfl) ?_
    refine T_goto (tgt := 68) d_Fi_makeWhole_117 rfl ?_
    refine T_sub (L' := [(5, .int (nI (k + 1))), (2, .long (pwC c a (k + 1))), (4, .int p), (0, .ref 78), (1, .ref f)]) (fun q hq => ?_) (ih (k + 1) (by omega))
    simp only [List.mem_cons, List.not_mem_nil, or_false] at hq ⊢
    rcases hq with rfl | rfl | rfl | rfl | rfl <;> simp
def adjP (p : Nat) : Int64 := if p = 2 then 19 else if p = 3 then -19 else 0
def mkC (a : Nat → Int64) : Nat → Int64 × (Nat → Int64)
  | 0 => (0, a)
  | p + 1 => (pwC (19 * (mkC a p).1 + adjP p) (mkC a p).2 10, pwN (19 * (mkC a p).1 + adjP p) (mkC a p).2)
theorem xl_mw_p0 (G : GX) {M : List va_E} {f : Nat} {W : Nat → Int64} (ho : M[78]? = some (.inr (6, [.ref 79, .ref 80, .ref 81, .ref 82, .ref 83, .ref 84, .ref 85]))) (hw : M[79]? = some (lr 10 W)) {c : Int64} {a : Nat → Int64} {Q : Option Value → List va_E → Prop} (kk : TT G mi_Fi_makeWhole 28 [(4, .int (nI 1)), (2, .long (pwC (19 * c + adjP 0) a 10)), (0, .ref 78), (1, .ref f)] [] (M.set 79 (lr 10 (pwN (19 * c + adjP 0) a))) 0 0 Q) : TT G mi_Fi_makeWhole 28 [(4, .int (nI 0)), (2, .long (c)), (0, .ref 78), (1, .ref f)] [] (M.set 79 (lr 10 a)) 0 0 Q := by
  refine T_iload d_Fi_makeWhole_28 rfl ?_
  refine T_iconst (v := nI 4) d_Fi_makeWhole_30 (by decide) ?_
  refine T_icmp_ge d_Fi_makeWhole_31 (tgt := 126) rfl (fun c => absurd c (by decide)) (fun _ => ?_)
  refine T_ldc2 d_Fi_makeWhole_34 kJ_Fi_31 ?_
  refine T_lload_n d_Fi_makeWhole_37 rfl ?_
  refine T_lmul d_Fi_makeWhole_38 ?_
  refine T_iload d_Fi_makeWhole_39 rfl ?_
  refine T_iconst (v := nI 2) d_Fi_makeWhole_41 (by decide) ?_
  refine T_icmp_ne d_Fi_makeWhole_42 (tgt := 50) rfl (fun _ => ?_) (fun c => absurd c (by decide))
  refine T_iload d_Fi_makeWhole_50 rfl ?_
  refine T_iconst (v := nI 3) d_Fi_makeWhole_52 (by decide) ?_
  refine T_icmp_ne d_Fi_makeWhole_53 (tgt := 61) rfl (fun _ => ?_) (fun c => absurd c (by decide))
  refine T_iconst (v := nI 0) d_Fi_makeWhole_61 (by decide) ?_
  refine T_i2l d_Fi_makeWhole_62 ?_
  refine T_ladd d_Fi_makeWhole_63 ?_
  refine T_lstore_n (L' := [(2, .long (19 * c + adjP 0)), (4, .int (nI 0)), (0, .ref 78), (1, .ref f)]) d_Fi_makeWhole_64 (by decide) rfl ?_
  refine T_iconst (v := nI 0) d_Fi_makeWhole_65 (by decide) ?_
  refine T_istore (L' := [(5, .int (nI 0)), (2, .long (19 * c + adjP 0)), (4, .int (nI 0)), (0, .ref 78), (1, .ref f)]) d_Fi_makeWhole_66 (by decide) rfl ?_
  refine T_eq (M' := M.set 79 (lr 10 (lp 0 (pwW (19 * c + adjP 0) a) a))) rfl rfl rfl (by rw [lp_0]) ?_
  refine xl_mw_in G ho hw ?_ 10 0 rfl
  refine T_iinc (x := nI 0) (L' := [(4, .int (nI 1)), (2, .long (pwC (19 * c + adjP 0) a 10)), (0, .ref 78), (1, .ref f)]) d_Fi_makeWhole_120 (by decide) rfl rfl ?_
  exact T_goto (tgt := 28) d_Fi_makeWhole_123 rfl kk
theorem xl_mw_p1 (G : GX) {M : List va_E} {f : Nat} {W : Nat → Int64} (ho : M[78]? = some (.inr (6, [.ref 79, .ref 80, .ref 81, .ref 82, .ref 83, .ref 84, .ref 85]))) (hw : M[79]? = some (lr 10 W)) {c : Int64} {a : Nat → Int64} {Q : Option Value → List va_E → Prop} (kk : TT G mi_Fi_makeWhole 28 [(4, .int (nI 2)), (2, .long (pwC (19 * c + adjP 1) a 10)), (0, .ref 78), (1, .ref f)] [] (M.set 79 (lr 10 (pwN (19 * c + adjP 1) a))) 0 0 Q) : TT G mi_Fi_makeWhole 28 [(4, .int (nI 1)), (2, .long (c)), (0, .ref 78), (1, .ref f)] [] (M.set 79 (lr 10 a)) 0 0 Q := by
  refine T_iload d_Fi_makeWhole_28 rfl ?_
  refine T_iconst (v := nI 4) d_Fi_makeWhole_30 (by decide) ?_
  refine T_icmp_ge d_Fi_makeWhole_31 (tgt := 126) rfl (fun c => absurd c (by decide)) (fun _ => ?_)
  refine T_ldc2 d_Fi_makeWhole_34 kJ_Fi_31 ?_
  refine T_lload_n d_Fi_makeWhole_37 rfl ?_
  refine T_lmul d_Fi_makeWhole_38 ?_
  refine T_iload d_Fi_makeWhole_39 rfl ?_
  refine T_iconst (v := nI 2) d_Fi_makeWhole_41 (by decide) ?_
  refine T_icmp_ne d_Fi_makeWhole_42 (tgt := 50) rfl (fun _ => ?_) (fun c => absurd c (by decide))
  refine T_iload d_Fi_makeWhole_50 rfl ?_
  refine T_iconst (v := nI 3) d_Fi_makeWhole_52 (by decide) ?_
  refine T_icmp_ne d_Fi_makeWhole_53 (tgt := 61) rfl (fun _ => ?_) (fun c => absurd c (by decide))
  refine T_iconst (v := nI 0) d_Fi_makeWhole_61 (by decide) ?_
  refine T_i2l d_Fi_makeWhole_62 ?_
  refine T_ladd d_Fi_makeWhole_63 ?_
  refine T_lstore_n (L' := [(2, .long (19 * c + adjP 1)), (4, .int (nI 1)), (0, .ref 78), (1, .ref f)]) d_Fi_makeWhole_64 (by decide) rfl ?_
  refine T_iconst (v := nI 0) d_Fi_makeWhole_65 (by decide) ?_
  refine T_istore (L' := [(5, .int (nI 0)), (2, .long (19 * c + adjP 1)), (4, .int (nI 1)), (0, .ref 78), (1, .ref f)]) d_Fi_makeWhole_66 (by decide) rfl ?_
  refine T_eq (M' := M.set 79 (lr 10 (lp 0 (pwW (19 * c + adjP 1) a) a))) rfl rfl rfl (by rw [lp_0]) ?_
  refine xl_mw_in G ho hw ?_ 10 0 rfl
  refine T_iinc (x := nI 1) (L' := [(4, .int (nI 2)), (2, .long (pwC (19 * c + adjP 1) a 10)), (0, .ref 78), (1, .ref f)]) d_Fi_makeWhole_120 (by decide) rfl rfl ?_
  exact T_goto (tgt := 28) d_Fi_makeWhole_123 rfl kk
theorem xl_mw_p2 (G : GX) {M : List va_E} {f : Nat} {W : Nat → Int64} (ho : M[78]? = some (.inr (6, [.ref 79, .ref 80, .ref 81, .ref 82, .ref 83, .ref 84, .ref 85]))) (hw : M[79]? = some (lr 10 W)) {c : Int64} {a : Nat → Int64} {Q : Option Value → List va_E → Prop} (kk : TT G mi_Fi_makeWhole 28 [(4, .int (nI 3)), (2, .long (pwC (19 * c + adjP 2) a 10)), (0, .ref 78), (1, .ref f)] [] (M.set 79 (lr 10 (pwN (19 * c + adjP 2) a))) 0 0 Q) : TT G mi_Fi_makeWhole 28 [(4, .int (nI 2)), (2, .long (c)), (0, .ref 78), (1, .ref f)] [] (M.set 79 (lr 10 a)) 0 0 Q := by
  refine T_iload d_Fi_makeWhole_28 rfl ?_
  refine T_iconst (v := nI 4) d_Fi_makeWhole_30 (by decide) ?_
  refine T_icmp_ge d_Fi_makeWhole_31 (tgt := 126) rfl (fun c => absurd c (by decide)) (fun _ => ?_)
  refine T_ldc2 d_Fi_makeWhole_34 kJ_Fi_31 ?_
  refine T_lload_n d_Fi_makeWhole_37 rfl ?_
  refine T_lmul d_Fi_makeWhole_38 ?_
  refine T_iload d_Fi_makeWhole_39 rfl ?_
  refine T_iconst (v := nI 2) d_Fi_makeWhole_41 (by decide) ?_
  refine T_icmp_ne d_Fi_makeWhole_42 (tgt := 50) rfl (fun c => absurd rfl c) (fun _ => ?_)
  refine T_bipush (v := nI 19) d_Fi_makeWhole_45 (by decide) ?_
  refine T_goto (tgt := 62) d_Fi_makeWhole_47 rfl ?_
  refine T_i2l d_Fi_makeWhole_62 ?_
  refine T_ladd d_Fi_makeWhole_63 ?_
  refine T_lstore_n (L' := [(2, .long (19 * c + adjP 2)), (4, .int (nI 2)), (0, .ref 78), (1, .ref f)]) d_Fi_makeWhole_64 (by decide) rfl ?_
  refine T_iconst (v := nI 0) d_Fi_makeWhole_65 (by decide) ?_
  refine T_istore (L' := [(5, .int (nI 0)), (2, .long (19 * c + adjP 2)), (4, .int (nI 2)), (0, .ref 78), (1, .ref f)]) d_Fi_makeWhole_66 (by decide) rfl ?_
  refine T_eq (M' := M.set 79 (lr 10 (lp 0 (pwW (19 * c + adjP 2) a) a))) rfl rfl rfl (by rw [lp_0]) ?_
  refine xl_mw_in G ho hw ?_ 10 0 rfl
  refine T_iinc (x := nI 2) (L' := [(4, .int (nI 3)), (2, .long (pwC (19 * c + adjP 2) a 10)), (0, .ref 78), (1, .ref f)]) d_Fi_makeWhole_120 (by decide) rfl rfl ?_
  exact T_goto (tgt := 28) d_Fi_makeWhole_123 rfl kk
theorem xl_mw_p3 (G : GX) {M : List va_E} {f : Nat} {W : Nat → Int64} (ho : M[78]? = some (.inr (6, [.ref 79, .ref 80, .ref 81, .ref 82, .ref 83, .ref 84, .ref 85]))) (hw : M[79]? = some (lr 10 W)) {c : Int64} {a : Nat → Int64} {Q : Option Value → List va_E → Prop} (kk : TT G mi_Fi_makeWhole 28 [(4, .int (nI 4)), (2, .long (pwC (19 * c + adjP 3) a 10)), (0, .ref 78), (1, .ref f)] [] (M.set 79 (lr 10 (pwN (19 * c + adjP 3) a))) 0 0 Q) : TT G mi_Fi_makeWhole 28 [(4, .int (nI 3)), (2, .long (c)), (0, .ref 78), (1, .ref f)] [] (M.set 79 (lr 10 a)) 0 0 Q := by
  refine T_iload d_Fi_makeWhole_28 rfl ?_
  refine T_iconst (v := nI 4) d_Fi_makeWhole_30 (by decide) ?_
  refine T_icmp_ge d_Fi_makeWhole_31 (tgt := 126) rfl (fun c => absurd c (by decide)) (fun _ => ?_)
  refine T_ldc2 d_Fi_makeWhole_34 kJ_Fi_31 ?_
  refine T_lload_n d_Fi_makeWhole_37 rfl ?_
  refine T_lmul d_Fi_makeWhole_38 ?_
  refine T_iload d_Fi_makeWhole_39 rfl ?_
  refine T_iconst (v := nI 2) d_Fi_makeWhole_41 (by decide) ?_
  refine T_icmp_ne d_Fi_makeWhole_42 (tgt := 50) rfl (fun _ => ?_) (fun c => absurd c (by decide))
  refine T_iload d_Fi_makeWhole_50 rfl ?_
  refine T_iconst (v := nI 3) d_Fi_makeWhole_52 (by decide) ?_
  refine T_icmp_ne d_Fi_makeWhole_53 (tgt := 61) rfl (fun c => absurd rfl c) (fun _ => ?_)
  refine T_bipush (v := (-19)) d_Fi_makeWhole_56 (by decide) ?_
  refine T_goto (tgt := 62) d_Fi_makeWhole_58 rfl ?_
  refine T_i2l d_Fi_makeWhole_62 ?_
  refine T_ladd d_Fi_makeWhole_63 ?_
  refine T_lstore_n (L' := [(2, .long (19 * c + adjP 3)), (4, .int (nI 3)), (0, .ref 78), (1, .ref f)]) d_Fi_makeWhole_64 (by decide) rfl ?_
  refine T_iconst (v := nI 0) d_Fi_makeWhole_65 (by decide) ?_
  refine T_istore (L' := [(5, .int (nI 0)), (2, .long (19 * c + adjP 3)), (4, .int (nI 3)), (0, .ref 78), (1, .ref f)]) d_Fi_makeWhole_66 (by decide) rfl ?_
  refine T_eq (M' := M.set 79 (lr 10 (lp 0 (pwW (19 * c + adjP 3) a) a))) rfl rfl rfl (by rw [lp_0]) ?_
  refine xl_mw_in G ho hw ?_ 10 0 rfl
  refine T_iinc (x := nI 3) (L' := [(4, .int (nI 4)), (2, .long (pwC (19 * c + adjP 3) a 10)), (0, .ref 78), (1, .ref f)]) d_Fi_makeWhole_120 (by decide) rfl rfl ?_
  exact T_goto (tgt := 28) d_Fi_makeWhole_123 rfl kk
theorem x_Fi_makeWhole (G : GX) {M : List va_E} {f : Nat} {W F : Nat → Int64} (ho : M[78]? = some (.inr (6, [.ref 79, .ref 80, .ref 81, .ref 82, .ref 83, .ref 84, .ref 85]))) (hw : M[79]? = some (lr 10 W)) (hf : M[f]? = some (lr 10 F)) : CT G mi_Fi_makeWhole [.ref 78, .ref f] M (fun r M' => r = none ∧ M' = M.set 79 (lr 10 (mkC (lp 10 F W) 4).2)) := by
  refine CT.of (by decide) (Nat.le_of_ble_eq_true rfl) ?_
  show TT G mi_Fi_makeWhole 0 [(0, .ref 78), (1, .ref f)] [] M 0 0 _
  refine T_iconst (v := nI 0) d_Fi_makeWhole_0 (by decide) ?_
  refine T_istore_n (L' := [(2, .int (nI 0)), (0, .ref 78), (1, .ref f)]) d_Fi_makeWhole_1 (by decide) rfl ?_
  refine T_eq (M' := M.set 79 (lr 10 (lp 0 F W))) rfl rfl rfl (by rw [lp_0]; exact X_same hw) ?_
  refine xl_mw_copy G ho hw hf ?_ 10 0 rfl
  refine T_lconst (v := 0) d_Fi_makeWhole_23 (by decide) ?_
  refine T_lstore_n (L' := [(2, .long 0), (0, .ref 78), (1, .ref f)]) d_Fi_makeWhole_24 (by decide) rfl ?_
  refine T_iconst (v := nI 0) d_Fi_makeWhole_25 (by decide) ?_
  refine T_istore (L' := [(4, .int (nI 0)), (2, .long (0)), (0, .ref 78), (1, .ref f)]) d_Fi_makeWhole_26 (by decide) rfl ?_
  refine xl_mw_p0 G ho hw ?_
  refine xl_mw_p1 G ho hw ?_
  refine xl_mw_p2 G ho hw ?_
  refine xl_mw_p3 G ho hw ?_
  refine T_iload d_Fi_makeWhole_28 rfl ?_
  refine T_iconst (v := nI 4) d_Fi_makeWhole_30 (by decide) ?_
  refine T_icmp_ge d_Fi_makeWhole_31 (tgt := 126) rfl (fun _ => ?_) (fun c => absurd (by decide) c)
  exact T_vret d_Fi_makeWhole_126 rfl (by decide) (by decide) ⟨rfl, rfl⟩
theorem wm_c {c x : Int64} {k : Nat} (hk : k < 10) (h1 : -35184372088832 ≤ c.toInt ∧ c.toInt ≤ 35184372088832) (h2 : -35184372088832 ≤ x.toInt ∧ x.toInt ≤ 35184372088832) : ((c + x) >>> ((nI (wd k)).toInt64 &&& 63)).toInt = (c.toInt + x.toInt) / 2 ^ wd k ∧ ((c + x) &&& mk k).toInt = (c.toInt + x.toInt) % 2 ^ wd k := by
  have e : c + x = Int64.ofInt (c.toInt + x.toInt) := by rw [Int64.ofInt_add, Int64.ofInt_toInt, Int64.ofInt_toInt]
  have hw : wd k = 26 ∨ wd k = 25 := by unfold wd; omega
  have hs : (((nI (wd k)).toInt64 &&& 63 : Int64).toBitVec.smod 64).toNat = wd k := by rcases hw with h | h <;> rw [h] <;> decide
  have hm : (mk k).toBitVec.toNat = 2 ^ wd k - 1 := by
    have h2 : k % 2 = 0 ∨ k % 2 = 1 := by omega
    unfold mk wd; rcases h2 with h | h <;> rw [h] <;> decide
  generalize hz : c.toInt + x.toInt = z at *
  have hp : (0 : Int) < 2 ^ wd k := Int.pow_pos (by decide)
  rw [e]
  refine ⟨?_, ?_⟩
  · rw [oi_shr _ _ hs (by omega) (by omega)]
    rcases hw with h | h <;> rw [h] <;> exact oi_to (by omega) (by omega)
  · rw [oi_and _ _ _ hm (by rcases hw with h | h <;> omega)]
    exact oi_small (Int.emod_nonneg _ (by omega)) (Int.emod_lt_of_pos _ hp) (by rcases hw with h | h <;> omega)
theorem dig10 {c a0 a1 a2 a3 a4 a5 a6 a7 a8 a9 V c1 c2 c3 c4 c5 c6 c7 c8 c9 c10 : Int} (h1 : c1 = (c + a0) / 67108864) (h2 : c2 = (c1 + a1) / 33554432) (h3 : c3 = (c2 + a2) / 67108864) (h4 : c4 = (c3 + a3) / 33554432) (h5 : c5 = (c4 + a4) / 67108864) (h6 : c6 = (c5 + a5) / 33554432) (h7 : c7 = (c6 + a6) / 67108864) (h8 : c8 = (c7 + a7) / 33554432) (h9 : c9 = (c8 + a8) / 67108864) (h10 : c10 = (c9 + a9) / 33554432) (hV : V = c + (a0 + a1 * 67108864 + a2 * 2251799813685248 + a3 * 151115727451828646838272 + a4 * 5070602400912917605986812821504 + a5 * 340282366920938463463374607431768211456 + a6 * 11417981541647679048466287755595961091061972992 + a7 * 766247770432944429179173513575154591809369561091801088 + a8 * 25711008708143844408671393477458601640355247900524685364822016 + a9 * 1725436586697640946858688965569256363112777243042596638790631055949824)) : c10 = V / 57896044618658097711785492504343953926634992332820282019728792003956564819968 ∧ (c + a0) % 67108864 = V / 1 % 67108864 ∧ (c1 + a1) % 33554432 = V / 67108864 % 33554432 ∧ (c2 + a2) % 67108864 = V / 2251799813685248 % 67108864 ∧ (c3 + a3) % 33554432 = V / 151115727451828646838272 % 33554432 ∧ (c4 + a4) % 67108864 = V / 5070602400912917605986812821504 % 67108864 ∧ (c5 + a5) % 33554432 = V / 340282366920938463463374607431768211456 % 33554432 ∧ (c6 + a6) % 67108864 = V / 11417981541647679048466287755595961091061972992 % 67108864 ∧ (c7 + a7) % 33554432 = V / 766247770432944429179173513575154591809369561091801088 % 33554432 ∧ (c8 + a8) % 67108864 = V / 25711008708143844408671393477458601640355247900524685364822016 % 67108864 ∧ (c9 + a9) % 33554432 = V / 1725436586697640946858688965569256363112777243042596638790631055949824 % 33554432 := by
  have d0 : V / 1 = c + a0 + 67108864 * (a1 * 1 + a2 * 33554432 + a3 * 2251799813685248 + a4 * 75557863725914323419136 + a5 * 5070602400912917605986812821504 + a6 * 170141183460469231731687303715884105728 + a7 * 11417981541647679048466287755595961091061972992 + a8 * 383123885216472214589586756787577295904684780545900544 + a9 * 25711008708143844408671393477458601640355247900524685364822016) := by omega
  have d1 : V / 67108864 = c1 + a1 + 33554432 * (a2 * 1 + a3 * 67108864 + a4 * 2251799813685248 + a5 * 151115727451828646838272 + a6 * 5070602400912917605986812821504 + a7 * 340282366920938463463374607431768211456 + a8 * 11417981541647679048466287755595961091061972992 + a9 * 766247770432944429179173513575154591809369561091801088) := by omega
  have d2 : V / 2251799813685248 = c2 + a2 + 67108864 * (a3 * 1 + a4 * 33554432 + a5 * 2251799813685248 + a6 * 75557863725914323419136 + a7 * 5070602400912917605986812821504 + a8 * 170141183460469231731687303715884105728 + a9 * 11417981541647679048466287755595961091061972992) := by omega
  have d3 : V / 151115727451828646838272 = c3 + a3 + 33554432 * (a4 * 1 + a5 * 67108864 + a6 * 2251799813685248 + a7 * 151115727451828646838272 + a8 * 5070602400912917605986812821504 + a9 * 340282366920938463463374607431768211456) := by omega
  have d4 : V / 5070602400912917605986812821504 = c4 + a4 + 67108864 * (a5 * 1 + a6 * 33554432 + a7 * 2251799813685248 + a8 * 75557863725914323419136 + a9 * 5070602400912917605986812821504) := by omega
  have d5 : V / 340282366920938463463374607431768211456 = c5 + a5 + 33554432 * (a6 * 1 + a7 * 67108864 + a8 * 2251799813685248 + a9 * 151115727451828646838272) := by omega
  have d6 : V / 11417981541647679048466287755595961091061972992 = c6 + a6 + 67108864 * (a7 * 1 + a8 * 33554432 + a9 * 2251799813685248) := by omega
  have d7 : V / 766247770432944429179173513575154591809369561091801088 = c7 + a7 + 33554432 * (a8 * 1 + a9 * 67108864) := by omega
  have d8 : V / 25711008708143844408671393477458601640355247900524685364822016 = c8 + a8 + 67108864 * (a9 * 1) := by omega
  have d9 : V / 1725436586697640946858688965569256363112777243042596638790631055949824 = c9 + a9 + 33554432 * (0) := by omega
  refine ⟨by omega, by rw [d0]; omega, by rw [d1]; omega, by rw [d2]; omega, by rw [d3]; omega, by rw [d4]; omega, by rw [d5]; omega, by rw [d6]; omega, by rw [d7]; omega, by rw [d8]; omega, by rw [d9]; omega⟩
theorem dsum10 (V : Int) : (V / 1 % 67108864) + (V / 67108864 % 33554432) * 67108864 + (V / 2251799813685248 % 67108864) * 2251799813685248 + (V / 151115727451828646838272 % 33554432) * 151115727451828646838272 + (V / 5070602400912917605986812821504 % 67108864) * 5070602400912917605986812821504 + (V / 340282366920938463463374607431768211456 % 33554432) * 340282366920938463463374607431768211456 + (V / 11417981541647679048466287755595961091061972992 % 67108864) * 11417981541647679048466287755595961091061972992 + (V / 766247770432944429179173513575154591809369561091801088 % 33554432) * 766247770432944429179173513575154591809369561091801088 + (V / 25711008708143844408671393477458601640355247900524685364822016 % 67108864) * 25711008708143844408671393477458601640355247900524685364822016 + (V / 1725436586697640946858688965569256363112777243042596638790631055949824 % 33554432) * 1725436586697640946858688965569256363112777243042596638790631055949824 = V % 57896044618658097711785492504343953926634992332820282019728792003956564819968 := by omega
/-- one pass of carries: the digits of carry plus number, the rest above 2^255 -/
theorem pass10 {c : Int64} {a : Nat → Int64} (hc : -1099511627776 ≤ c.toInt ∧ c.toInt ≤ 1099511627776) (ha : ∀ i, i < 10 → -1099511627776 ≤ (a i).toInt ∧ (a i).toInt ≤ 1099511627776) : (pwC c a 10).toInt = (c.toInt + va10 a) / 57896044618658097711785492504343953926634992332820282019728792003956564819968 ∧ (pwN c a 0).toInt = (c.toInt + va10 a) / 1 % 67108864 ∧ (pwN c a 1).toInt = (c.toInt + va10 a) / 67108864 % 33554432 ∧ (pwN c a 2).toInt = (c.toInt + va10 a) / 2251799813685248 % 67108864 ∧ (pwN c a 3).toInt = (c.toInt + va10 a) / 151115727451828646838272 % 33554432 ∧ (pwN c a 4).toInt = (c.toInt + va10 a) / 5070602400912917605986812821504 % 67108864 ∧ (pwN c a 5).toInt = (c.toInt + va10 a) / 340282366920938463463374607431768211456 % 33554432 ∧ (pwN c a 6).toInt = (c.toInt + va10 a) / 11417981541647679048466287755595961091061972992 % 67108864 ∧ (pwN c a 7).toInt = (c.toInt + va10 a) / 766247770432944429179173513575154591809369561091801088 % 33554432 ∧ (pwN c a 8).toInt = (c.toInt + va10 a) / 25711008708143844408671393477458601640355247900524685364822016 % 67108864 ∧ (pwN c a 9).toInt = (c.toInt + va10 a) / 1725436586697640946858688965569256363112777243042596638790631055949824 % 33554432 := by
  have c0 : (pwC c a 0).toInt = c.toInt := rfl
  have A0 := ha 0 (by decide)
  have A1 := ha 1 (by decide)
  have A2 := ha 2 (by decide)
  have A3 := ha 3 (by decide)
  have A4 := ha 4 (by decide)
  have A5 := ha 5 (by decide)
  have A6 := ha 6 (by decide)
  have A7 := ha 7 (by decide)
  have A8 := ha 8 (by decide)
  have A9 := ha 9 (by decide)
  have r0 : -35184372088832 ≤ (pwC c a 0).toInt ∧ (pwC c a 0).toInt ≤ 35184372088832 := by rw [c0]; omega
  have s0 := wm_c (k := 0) (by decide) r0 (show -35184372088832 ≤ (a 0).toInt ∧ (a 0).toInt ≤ 35184372088832 by omega)
  have c1 : (pwC c a 1).toInt = ((pwC c a 0).toInt + (a 0).toInt) / 67108864 := s0.1
  have n0 : (pwN c a 0).toInt = ((pwC c a 0).toInt + (a 0).toInt) % 67108864 := s0.2
  have r1 : -35184372088832 ≤ (pwC c a 1).toInt ∧ (pwC c a 1).toInt ≤ 35184372088832 := by rw [c1]; omega
  have s1 := wm_c (k := 1) (by decide) r1 (show -35184372088832 ≤ (a 1).toInt ∧ (a 1).toInt ≤ 35184372088832 by omega)
  have c2 : (pwC c a 2).toInt = ((pwC c a 1).toInt + (a 1).toInt) / 33554432 := s1.1
  have n1 : (pwN c a 1).toInt = ((pwC c a 1).toInt + (a 1).toInt) % 33554432 := s1.2
  have r2 : -35184372088832 ≤ (pwC c a 2).toInt ∧ (pwC c a 2).toInt ≤ 35184372088832 := by rw [c2]; omega
  have s2 := wm_c (k := 2) (by decide) r2 (show -35184372088832 ≤ (a 2).toInt ∧ (a 2).toInt ≤ 35184372088832 by omega)
  have c3 : (pwC c a 3).toInt = ((pwC c a 2).toInt + (a 2).toInt) / 67108864 := s2.1
  have n2 : (pwN c a 2).toInt = ((pwC c a 2).toInt + (a 2).toInt) % 67108864 := s2.2
  have r3 : -35184372088832 ≤ (pwC c a 3).toInt ∧ (pwC c a 3).toInt ≤ 35184372088832 := by rw [c3]; omega
  have s3 := wm_c (k := 3) (by decide) r3 (show -35184372088832 ≤ (a 3).toInt ∧ (a 3).toInt ≤ 35184372088832 by omega)
  have c4 : (pwC c a 4).toInt = ((pwC c a 3).toInt + (a 3).toInt) / 33554432 := s3.1
  have n3 : (pwN c a 3).toInt = ((pwC c a 3).toInt + (a 3).toInt) % 33554432 := s3.2
  have r4 : -35184372088832 ≤ (pwC c a 4).toInt ∧ (pwC c a 4).toInt ≤ 35184372088832 := by rw [c4]; omega
  have s4 := wm_c (k := 4) (by decide) r4 (show -35184372088832 ≤ (a 4).toInt ∧ (a 4).toInt ≤ 35184372088832 by omega)
  have c5 : (pwC c a 5).toInt = ((pwC c a 4).toInt + (a 4).toInt) / 67108864 := s4.1
  have n4 : (pwN c a 4).toInt = ((pwC c a 4).toInt + (a 4).toInt) % 67108864 := s4.2
  have r5 : -35184372088832 ≤ (pwC c a 5).toInt ∧ (pwC c a 5).toInt ≤ 35184372088832 := by rw [c5]; omega
  have s5 := wm_c (k := 5) (by decide) r5 (show -35184372088832 ≤ (a 5).toInt ∧ (a 5).toInt ≤ 35184372088832 by omega)
  have c6 : (pwC c a 6).toInt = ((pwC c a 5).toInt + (a 5).toInt) / 33554432 := s5.1
  have n5 : (pwN c a 5).toInt = ((pwC c a 5).toInt + (a 5).toInt) % 33554432 := s5.2
  have r6 : -35184372088832 ≤ (pwC c a 6).toInt ∧ (pwC c a 6).toInt ≤ 35184372088832 := by rw [c6]; omega
  have s6 := wm_c (k := 6) (by decide) r6 (show -35184372088832 ≤ (a 6).toInt ∧ (a 6).toInt ≤ 35184372088832 by omega)
  have c7 : (pwC c a 7).toInt = ((pwC c a 6).toInt + (a 6).toInt) / 67108864 := s6.1
  have n6 : (pwN c a 6).toInt = ((pwC c a 6).toInt + (a 6).toInt) % 67108864 := s6.2
  have r7 : -35184372088832 ≤ (pwC c a 7).toInt ∧ (pwC c a 7).toInt ≤ 35184372088832 := by rw [c7]; omega
  have s7 := wm_c (k := 7) (by decide) r7 (show -35184372088832 ≤ (a 7).toInt ∧ (a 7).toInt ≤ 35184372088832 by omega)
  have c8 : (pwC c a 8).toInt = ((pwC c a 7).toInt + (a 7).toInt) / 33554432 := s7.1
  have n7 : (pwN c a 7).toInt = ((pwC c a 7).toInt + (a 7).toInt) % 33554432 := s7.2
  have r8 : -35184372088832 ≤ (pwC c a 8).toInt ∧ (pwC c a 8).toInt ≤ 35184372088832 := by rw [c8]; omega
  have s8 := wm_c (k := 8) (by decide) r8 (show -35184372088832 ≤ (a 8).toInt ∧ (a 8).toInt ≤ 35184372088832 by omega)
  have c9 : (pwC c a 9).toInt = ((pwC c a 8).toInt + (a 8).toInt) / 67108864 := s8.1
  have n8 : (pwN c a 8).toInt = ((pwC c a 8).toInt + (a 8).toInt) % 67108864 := s8.2
  have r9 : -35184372088832 ≤ (pwC c a 9).toInt ∧ (pwC c a 9).toInt ≤ 35184372088832 := by rw [c9]; omega
  have s9 := wm_c (k := 9) (by decide) r9 (show -35184372088832 ≤ (a 9).toInt ∧ (a 9).toInt ≤ 35184372088832 by omega)
  have c10 : (pwC c a 10).toInt = ((pwC c a 9).toInt + (a 9).toInt) / 33554432 := s9.1
  have n9 : (pwN c a 9).toInt = ((pwC c a 9).toInt + (a 9).toInt) % 33554432 := s9.2
  rw [c0] at c1 n0
  have K := dig10 c1 c2 c3 c4 c5 c6 c7 c8 c9 c10 (hV := rfl)
  unfold va10
  obtain ⟨k, k0, k1, k2, k3, k4, k5, k6, k7, k8, k9⟩ := K
  exact ⟨k, n0.trans k0, n1.trans k1, n2.trans k2, n3.trans k3, n4.trans k4, n5.trans k5, n6.trans k6, n7.trans k7, n8.trans k8, n9.trans k9⟩
theorem fin10 {V0 : Int} (h : -59285549689505892056868344324448208820874232148807968788202283012051522375647232 ≤ V0 ∧ V0 ≤ 59285549689505892056868344324448208820874232148807968788202283012051522375647232) {c1 V1 c2 V2 c3 V3 : Int} (h1 : c1 = V0 / 57896044618658097711785492504343953926634992332820282019728792003956564819968) (g1 : V1 = 19 * c1 + V0 % 57896044618658097711785492504343953926634992332820282019728792003956564819968) (h2 : c2 = V1 / 57896044618658097711785492504343953926634992332820282019728792003956564819968) (g2 : V2 = (19 * c2 + 19) + V1 % 57896044618658097711785492504343953926634992332820282019728792003956564819968) (h3 : c3 = V2 / 57896044618658097711785492504343953926634992332820282019728792003956564819968) (g3 : V3 = (19 * c3 + -19) + V2 % 57896044618658097711785492504343953926634992332820282019728792003956564819968) : V3 % 57896044618658097711785492504343953926634992332820282019728792003956564819968 = V0 % 57896044618658097711785492504343953926634992332820282019728792003956564819949 := by
  have b1 : -1024 ≤ c1 ∧ c1 ≤ 1024 := by clear g1 h2 g2 h3 g3; omega
  have b2 : V0 = 57896044618658097711785492504343953926634992332820282019728792003956564819949 * c1 + V1 ∧ -19456 ≤ V1 ∧ V1 < 57896044618658097711785492504343953926634992332820282019728792003956564819968 + 19456 := by clear h2 g2 h3 g3; omega
  have b3 : V0 % 57896044618658097711785492504343953926634992332820282019728792003956564819949 = V1 % 57896044618658097711785492504343953926634992332820282019728792003956564819949 := by rw [b2.1, Int.add_comm, Int.add_mul_emod_self_left]
  rw [b3]
  clear b3 h h1 g1 b1
  obtain ⟨-, b4, b5⟩ := b2
  by_cases hA : V1 < 0
  · have x1 : c2 = -1 := by clear g2 h3 g3; omega
    have x2 : V2 = V1 + 57896044618658097711785492504343953926634992332820282019728792003956564819968 := by clear h3 g3; omega
    have x3 : c3 = 0 := by clear g3 h2 g2; omega
    have x4 : V3 = V1 + 57896044618658097711785492504343953926634992332820282019728792003956564819949 := by clear h2 g2; omega
    omega
  · by_cases hB : V1 < 57896044618658097711785492504343953926634992332820282019728792003956564819949
    · have x1 : c2 = 0 := by clear g2 h3 g3; omega
      have x2 : V2 = V1 + 19 := by clear h3 g3; omega
      have x3 : c3 = 0 := by clear g3 h2 g2; omega
      have x4 : V3 = V1 := by clear h2 g2; omega
      omega
    · by_cases hC : V1 < 57896044618658097711785492504343953926634992332820282019728792003956564819968
      · have x1 : c2 = 0 := by clear g2 h3 g3; omega
        have x2 : V2 = V1 + 19 := by clear h3 g3; omega
        have x3 : c3 = 1 := by clear g3 h2 g2; omega
        have x4 : V3 = V1 - 57896044618658097711785492504343953926634992332820282019728792003956564819949 := by clear h2 g2; omega
        omega
      · have x1 : c2 = 1 := by clear g2 h3 g3; omega
        have x2 : V2 = V1 - 57896044618658097711785492504343953926634992332820282019728792003956564819968 + 38 := by clear h3 g3; omega
        have x3 : c3 = 0 := by clear g3 h2 g2; omega
        have x4 : V3 = V1 - 57896044618658097711785492504343953926634992332820282019728792003956564819949 := by clear h2 g2; omega
        omega
theorem dm_0 (V : Int) : V / 1 % 67108864 = V % 57896044618658097711785492504343953926634992332820282019728792003956564819968 / 1 % 67108864 := by omega
theorem db_0 (V : Int) : -1099511627776 ≤ V / 1 % 67108864 ∧ V / 1 % 67108864 ≤ 1099511627776 := by omega
theorem dm_1 (V : Int) : V / 67108864 % 33554432 = V % 57896044618658097711785492504343953926634992332820282019728792003956564819968 / 67108864 % 33554432 := by omega
theorem db_1 (V : Int) : -1099511627776 ≤ V / 67108864 % 33554432 ∧ V / 67108864 % 33554432 ≤ 1099511627776 := by omega
theorem dm_2 (V : Int) : V / 2251799813685248 % 67108864 = V % 57896044618658097711785492504343953926634992332820282019728792003956564819968 / 2251799813685248 % 67108864 := by omega
theorem db_2 (V : Int) : -1099511627776 ≤ V / 2251799813685248 % 67108864 ∧ V / 2251799813685248 % 67108864 ≤ 1099511627776 := by omega
theorem dm_3 (V : Int) : V / 151115727451828646838272 % 33554432 = V % 57896044618658097711785492504343953926634992332820282019728792003956564819968 / 151115727451828646838272 % 33554432 := by omega
theorem db_3 (V : Int) : -1099511627776 ≤ V / 151115727451828646838272 % 33554432 ∧ V / 151115727451828646838272 % 33554432 ≤ 1099511627776 := by omega
theorem dm_4 (V : Int) : V / 5070602400912917605986812821504 % 67108864 = V % 57896044618658097711785492504343953926634992332820282019728792003956564819968 / 5070602400912917605986812821504 % 67108864 := by omega
theorem db_4 (V : Int) : -1099511627776 ≤ V / 5070602400912917605986812821504 % 67108864 ∧ V / 5070602400912917605986812821504 % 67108864 ≤ 1099511627776 := by omega
theorem dm_5 (V : Int) : V / 340282366920938463463374607431768211456 % 33554432 = V % 57896044618658097711785492504343953926634992332820282019728792003956564819968 / 340282366920938463463374607431768211456 % 33554432 := by omega
theorem db_5 (V : Int) : -1099511627776 ≤ V / 340282366920938463463374607431768211456 % 33554432 ∧ V / 340282366920938463463374607431768211456 % 33554432 ≤ 1099511627776 := by omega
theorem dm_6 (V : Int) : V / 11417981541647679048466287755595961091061972992 % 67108864 = V % 57896044618658097711785492504343953926634992332820282019728792003956564819968 / 11417981541647679048466287755595961091061972992 % 67108864 := by omega
theorem db_6 (V : Int) : -1099511627776 ≤ V / 11417981541647679048466287755595961091061972992 % 67108864 ∧ V / 11417981541647679048466287755595961091061972992 % 67108864 ≤ 1099511627776 := by omega
theorem dm_7 (V : Int) : V / 766247770432944429179173513575154591809369561091801088 % 33554432 = V % 57896044618658097711785492504343953926634992332820282019728792003956564819968 / 766247770432944429179173513575154591809369561091801088 % 33554432 := by omega
theorem db_7 (V : Int) : -1099511627776 ≤ V / 766247770432944429179173513575154591809369561091801088 % 33554432 ∧ V / 766247770432944429179173513575154591809369561091801088 % 33554432 ≤ 1099511627776 := by omega
theorem dm_8 (V : Int) : V / 25711008708143844408671393477458601640355247900524685364822016 % 67108864 = V % 57896044618658097711785492504343953926634992332820282019728792003956564819968 / 25711008708143844408671393477458601640355247900524685364822016 % 67108864 := by omega
theorem db_8 (V : Int) : -1099511627776 ≤ V / 25711008708143844408671393477458601640355247900524685364822016 % 67108864 ∧ V / 25711008708143844408671393477458601640355247900524685364822016 % 67108864 ≤ 1099511627776 := by omega
theorem dm_9 (V : Int) : V / 1725436586697640946858688965569256363112777243042596638790631055949824 % 33554432 = V % 57896044618658097711785492504343953926634992332820282019728792003956564819968 / 1725436586697640946858688965569256363112777243042596638790631055949824 % 33554432 := by omega
theorem db_9 (V : Int) : -1099511627776 ≤ V / 1725436586697640946858688965569256363112777243042596638790631055949824 % 33554432 ∧ V / 1725436586697640946858688965569256363112777243042596638790631055949824 % 33554432 ≤ 1099511627776 := by omega
theorem cb_ {c V z : Int} (hc : -1000000 ≤ c ∧ c ≤ 1000000) (j : Int) (hj : -19 ≤ j ∧ j ≤ 19) (hz : z = ((19 * c + j) + V % 57896044618658097711785492504343953926634992332820282019728792003956564819968) / 57896044618658097711785492504343953926634992332820282019728792003956564819968) : -1000000 ≤ z ∧ z ≤ 1000000 := by omega
theorem cb0_ {V z : Int} (h : -59285549689505892056868344324448208820874232148807968788202283012051522375647232 ≤ V ∧ V ≤ 59285549689505892056868344324448208820874232148807968788202283012051522375647232) (hz : z = V / 57896044618658097711785492504343953926634992332820282019728792003956564819968) : -1000000 ≤ z ∧ z ≤ 1000000 := by omega
theorem cc_ {c : Int} (hc : -1000000 ≤ c ∧ c ≤ 1000000) (j : Int) (hj : -19 ≤ j ∧ j ≤ 19) : -9223372036854775808 ≤ 19 * c + j ∧ 19 * c + j < 9223372036854775808 ∧ -1099511627776 ≤ 19 * c + j ∧ 19 * c + j ≤ 1099511627776 := by omega
set_option maxHeartbeats 2000000 in
theorem mkC_V {a : Nat → Int64} {x : Int} {n : Nat} (hn : n ≤ 100) (h : V10 a x n) : ((mkC a 4).2 0).toInt = (x % pP) / 1 % 67108864 ∧ ((mkC a 4).2 1).toInt = (x % pP) / 67108864 % 33554432 ∧ ((mkC a 4).2 2).toInt = (x % pP) / 2251799813685248 % 67108864 ∧ ((mkC a 4).2 3).toInt = (x % pP) / 151115727451828646838272 % 33554432 ∧ ((mkC a 4).2 4).toInt = (x % pP) / 5070602400912917605986812821504 % 67108864 ∧ ((mkC a 4).2 5).toInt = (x % pP) / 340282366920938463463374607431768211456 % 33554432 ∧ ((mkC a 4).2 6).toInt = (x % pP) / 11417981541647679048466287755595961091061972992 % 67108864 ∧ ((mkC a 4).2 7).toInt = (x % pP) / 766247770432944429179173513575154591809369561091801088 % 33554432 ∧ ((mkC a 4).2 8).toInt = (x % pP) / 25711008708143844408671393477458601640355247900524685364822016 % 67108864 ∧ ((mkC a 4).2 9).toInt = (x % pP) / 1725436586697640946858688965569256363112777243042596638790631055949824 % 33554432 := by
  have hb : ∀ i, i < 10 → -6710886400 ≤ (a i).toInt ∧ (a i).toInt ≤ 6710886400 := fun i hi => by
    have := h.2 i hi
    have hbt : 0 ≤ bt i ∧ bt i ≤ 67108864 := by unfold bt; split <;> decide
    have hbig : (n : Int) * bt i ≤ 100 * 67108864 := Int.mul_le_mul (by omega) hbt.2 hbt.1 (by decide)
    omega
  have hV0 : -59285549689505892056868344324448208820874232148807968788202283012051522375647232 ≤ va10 a ∧ va10 a ≤ 59285549689505892056868344324448208820874232148807968788202283012051522375647232 := by
    have := hb 0 (by decide)
    have := hb 1 (by decide)
    have := hb 2 (by decide)
    have := hb 3 (by decide)
    have := hb 4 (by decide)
    have := hb 5 (by decide)
    have := hb 6 (by decide)
    have := hb 7 (by decide)
    have := hb 8 (by decide)
    have := hb 9 (by decide)
    unfold va10; omega
  obtain ⟨b, eb⟩ : ∃ b : Nat → Int64 × (Nat → Int64), b = mkC a := ⟨_, rfl⟩
  have z0 : (19 * (0 : Int64) + adjP 0).toInt = 0 := by decide
  have p0 := pass10 (c := 19 * (0 : Int64) + adjP 0) (a := a) (by rw [z0]; decide) (fun i hi => by have := hb i hi; omega)
  rw [z0, Int.zero_add] at p0
  obtain ⟨k1, u0, u1, u2, u3, u4, u5, u6, u7, u8, u9⟩ := p0
  have e1 : (mkC a 1).1 = pwC (19 * (0 : Int64) + adjP 0) a 10 := rfl
  have f1 : (mkC a 1).2 = pwN (19 * (0 : Int64) + adjP 0) a := rfl
  rw [← e1] at k1; rw [← f1] at u0 u1 u2 u3 u4 u5 u6 u7 u8 u9
  have s1 : va10 (mkC a 1).2 = va10 a % 57896044618658097711785492504343953926634992332820282019728792003956564819968 := by
    unfold va10
    rw [u0, u1, u2, u3, u4, u5, u6, u7, u8, u9]
    exact dsum10 _
  obtain ⟨V1, hV1⟩ : ∃ z : Int, z = (19 * (mkC a 1).1.toInt + 0) + va10 (mkC a 1).2 := ⟨_, rfl⟩
  have bc1 : -1000000 ≤ (mkC a 1).1.toInt ∧ (mkC a 1).1.toInt ≤ 1000000 := by exact cb0_ hV0 k1
  have z1 : (19 * (mkC a 1).1 + adjP 1).toInt = 19 * (mkC a 1).1.toInt + 0 := by
    have : 19 * (mkC a 1).1 + adjP 1 = Int64.ofInt (19 * (mkC a 1).1.toInt + 0) := by rw [Int64.ofInt_add, Int64.ofInt_mul, Int64.ofInt_toInt]; rfl
    have q := cc_ bc1 (0) (by decide)
    rw [this, oi_to q.1 q.2.1]
  have p1 := pass10 (c := 19 * (mkC a 1).1 + adjP 1) (a := (mkC a 1).2) (by rw [z1]; exact (cc_ bc1 (0) (by decide)).2.2) (fun i hi => by
    have h10 : i = 0 ∨ i = 1 ∨ i = 2 ∨ i = 3 ∨ i = 4 ∨ i = 5 ∨ i = 6 ∨ i = 7 ∨ i = 8 ∨ i = 9 := by omega
    rcases h10 with rfl | rfl | rfl | rfl | rfl | rfl | rfl | rfl | rfl | rfl
    · rw [u0]; exact db_0 _
    · rw [u1]; exact db_1 _
    · rw [u2]; exact db_2 _
    · rw [u3]; exact db_3 _
    · rw [u4]; exact db_4 _
    · rw [u5]; exact db_5 _
    · rw [u6]; exact db_6 _
    · rw [u7]; exact db_7 _
    · rw [u8]; exact db_8 _
    · rw [u9]; exact db_9 _
    )
  rw [z1, ← hV1] at p1
  clear u0 u1 u2 u3 u4 u5 u6 u7 u8 u9
  obtain ⟨k2, u0, u1, u2, u3, u4, u5, u6, u7, u8, u9⟩ := p1
  have e2 : (mkC a 2).1 = pwC (19 * (mkC a 1).1 + adjP 1) (mkC a 1).2 10 := rfl
  have f2 : (mkC a 2).2 = pwN (19 * (mkC a 1).1 + adjP 1) (mkC a 1).2 := rfl
  rw [← e2] at k2; rw [← f2] at u0 u1 u2 u3 u4 u5 u6 u7 u8 u9
  have s2 : va10 (mkC a 2).2 = V1 % 57896044618658097711785492504343953926634992332820282019728792003956564819968 := by
    unfold va10
    rw [u0, u1, u2, u3, u4, u5, u6, u7, u8, u9]
    exact dsum10 _
  obtain ⟨V2, hV2⟩ : ∃ z : Int, z = (19 * (mkC a 2).1.toInt + 19) + va10 (mkC a 2).2 := ⟨_, rfl⟩
  have bc2 : -1000000 ≤ (mkC a 2).1.toInt ∧ (mkC a 2).1.toInt ≤ 1000000 := by exact cb_ bc1 (0) (by decide) (k2.trans (by rw [hV1, s1]))
  have z2 : (19 * (mkC a 2).1 + adjP 2).toInt = 19 * (mkC a 2).1.toInt + 19 := by
    have : 19 * (mkC a 2).1 + adjP 2 = Int64.ofInt (19 * (mkC a 2).1.toInt + 19) := by rw [Int64.ofInt_add, Int64.ofInt_mul, Int64.ofInt_toInt]; rfl
    have q := cc_ bc2 (19) (by decide)
    rw [this, oi_to q.1 q.2.1]
  have p2 := pass10 (c := 19 * (mkC a 2).1 + adjP 2) (a := (mkC a 2).2) (by rw [z2]; exact (cc_ bc2 (19) (by decide)).2.2) (fun i hi => by
    have h10 : i = 0 ∨ i = 1 ∨ i = 2 ∨ i = 3 ∨ i = 4 ∨ i = 5 ∨ i = 6 ∨ i = 7 ∨ i = 8 ∨ i = 9 := by omega
    rcases h10 with rfl | rfl | rfl | rfl | rfl | rfl | rfl | rfl | rfl | rfl
    · rw [u0]; exact db_0 _
    · rw [u1]; exact db_1 _
    · rw [u2]; exact db_2 _
    · rw [u3]; exact db_3 _
    · rw [u4]; exact db_4 _
    · rw [u5]; exact db_5 _
    · rw [u6]; exact db_6 _
    · rw [u7]; exact db_7 _
    · rw [u8]; exact db_8 _
    · rw [u9]; exact db_9 _
    )
  rw [z2, ← hV2] at p2
  clear u0 u1 u2 u3 u4 u5 u6 u7 u8 u9
  obtain ⟨k3, u0, u1, u2, u3, u4, u5, u6, u7, u8, u9⟩ := p2
  have e3 : (mkC a 3).1 = pwC (19 * (mkC a 2).1 + adjP 2) (mkC a 2).2 10 := rfl
  have f3 : (mkC a 3).2 = pwN (19 * (mkC a 2).1 + adjP 2) (mkC a 2).2 := rfl
  rw [← e3] at k3; rw [← f3] at u0 u1 u2 u3 u4 u5 u6 u7 u8 u9
  have s3 : va10 (mkC a 3).2 = V2 % 57896044618658097711785492504343953926634992332820282019728792003956564819968 := by
    unfold va10
    rw [u0, u1, u2, u3, u4, u5, u6, u7, u8, u9]
    exact dsum10 _
  obtain ⟨V3, hV3⟩ : ∃ z : Int, z = (19 * (mkC a 3).1.toInt + -19) + va10 (mkC a 3).2 := ⟨_, rfl⟩
  have bc3 : -1000000 ≤ (mkC a 3).1.toInt ∧ (mkC a 3).1.toInt ≤ 1000000 := by exact cb_ bc2 (19) (by decide) (k3.trans (by rw [hV2, s2]))
  have z3 : (19 * (mkC a 3).1 + adjP 3).toInt = 19 * (mkC a 3).1.toInt + -19 := by
    have : 19 * (mkC a 3).1 + adjP 3 = Int64.ofInt (19 * (mkC a 3).1.toInt + -19) := by rw [Int64.ofInt_add, Int64.ofInt_mul, Int64.ofInt_toInt]; rfl
    have q := cc_ bc3 (-19) (by decide)
    rw [this, oi_to q.1 q.2.1]
  have p3 := pass10 (c := 19 * (mkC a 3).1 + adjP 3) (a := (mkC a 3).2) (by rw [z3]; exact (cc_ bc3 (-19) (by decide)).2.2) (fun i hi => by
    have h10 : i = 0 ∨ i = 1 ∨ i = 2 ∨ i = 3 ∨ i = 4 ∨ i = 5 ∨ i = 6 ∨ i = 7 ∨ i = 8 ∨ i = 9 := by omega
    rcases h10 with rfl | rfl | rfl | rfl | rfl | rfl | rfl | rfl | rfl | rfl
    · rw [u0]; exact db_0 _
    · rw [u1]; exact db_1 _
    · rw [u2]; exact db_2 _
    · rw [u3]; exact db_3 _
    · rw [u4]; exact db_4 _
    · rw [u5]; exact db_5 _
    · rw [u6]; exact db_6 _
    · rw [u7]; exact db_7 _
    · rw [u8]; exact db_8 _
    · rw [u9]; exact db_9 _
    )
  rw [z3, ← hV3] at p3
  clear u0 u1 u2 u3 u4 u5 u6 u7 u8 u9
  obtain ⟨k4, u0, u1, u2, u3, u4, u5, u6, u7, u8, u9⟩ := p3
  have e4 : (mkC a 4).1 = pwC (19 * (mkC a 3).1 + adjP 3) (mkC a 3).2 10 := rfl
  have f4 : (mkC a 4).2 = pwN (19 * (mkC a 3).1 + adjP 3) (mkC a 3).2 := rfl
  rw [← e4] at k4; rw [← f4] at u0 u1 u2 u3 u4 u5 u6 u7 u8 u9
  have hx : x % pP = va10 a % pP := (eqP.em.mp h.1).symm
  rw [s1] at hV1; rw [s2] at hV2; rw [s3] at hV3
  have F := fin10 hV0 k1 (hV1.trans (by rw [Int.add_zero])) k2 hV2 k3 hV3
  have hX : x % pP = V3 % 57896044618658097711785492504343953926634992332820282019728792003956564819968 := by rw [hx, show pP = 57896044618658097711785492504343953926634992332820282019728792003956564819949 from rfl, F]
  rw [hX]
  refine ⟨?_, ?_, ?_, ?_, ?_, ?_, ?_, ?_, ?_, ?_⟩
  · rw [u0]; exact dm_0 _
  · rw [u1]; exact dm_1 _
  · rw [u2]; exact dm_2 _
  · rw [u3]; exact dm_3 _
  · rw [u4]; exact dm_4 _
  · rw [u5]; exact dm_5 _
  · rw [u6]; exact dm_6 _
  · rw [u7]; exact dm_7 _
  · rw [u8]; exact dm_8 _
  · rw [u9]; exact dm_9 _
theorem pP_pos : (0 : Int) < pP := by decide
theorem V10.lp0 {F W : Nat → Int64} {x : Int} {n : Nat} (h : V10 F x n) : V10 (lp 10 F W) x n := h.ext fun i hi => by unfold lp; exact if_pos hi
theorem odd_l {z : Int64} {X : Int} (h : z.toInt = X / 1 % 67108864) : lg_cmp (z &&& 1) 1 = 0 ↔ X % 2 = 1 := by
  have e1 : z &&& 1 = Int64.ofInt (X % 2) := by
    have hz : z = Int64.ofInt z.toInt := (Int64.ofInt_toInt z).symm
    rw [hz, oi_and _ 1 _ (by decide) (by decide), h]
    congr 1
    omega
  have h2 : X % 2 = 0 ∨ X % 2 = 1 := by omega
  rw [e1]
  rcases h2 with h | h <;> rw [h] <;> decide
theorem or0 (a b : Int64) : a ||| b = 0 ↔ a = 0 ∧ b = 0 := by
  rw [← Int64.toBitVec_inj, ← Int64.toBitVec_inj, ← Int64.toBitVec_inj, Int64.toBitVec_or]
  exact BitVec.or_eq_zero_iff
theorem cmp0 (a : Int64) : lg_cmp a 0 = 0 ↔ a = 0 := by
  unfold lg_cmp
  by_cases h : a > 0
  · rw [if_pos h]; constructor
    · intro c; exact absurd c (by decide)
    · intro c; subst c; exact absurd h (by decide)
  · rw [if_neg h]
    by_cases h2 : a = 0
    · rw [if_pos h2]; simp [h2]
    · rw [if_neg h2]; constructor
      · intro c; exact absurd c (by decide)
      · intro c; exact absurd c h2
theorem x_Fi_isOdd (G : GX) {M : List va_E} {f : Nat} {W F : Nat → Int64} {x : Int} {n : Nat} (ho : M[78]? = some (.inr (6, [.ref 79, .ref 80, .ref 81, .ref 82, .ref 83, .ref 84, .ref 85]))) (hw : M[79]? = some (lr 10 W)) (hf : M[f]? = some (lr 10 F)) (hV : V10 F x n) (hn : n ≤ 100) : CT G mi_Fi_isOdd [.ref 78, .ref f] M (fun r M' => r = some (.int (nI (if (x % pP) % 2 = 1 then 1 else 0))) ∧ ∃ W', M' = M.set 79 (lr 10 W')) := by
  refine CT.of (by decide) (Nat.le_of_ble_eq_true rfl) ?_
  show TT G mi_Fi_isOdd 0 [(0, .ref 78), (1, .ref f)] [] M 0 0 _
  refine T_aload_n (v := .ref 78) d_Fi_isOdd_0 rfl (Or.inr ⟨_, rfl⟩) ?_
  refine T_aload_n (v := .ref f) d_Fi_isOdd_1 rfl (Or.inr ⟨_, rfl⟩) ?_
  refine T_virtual (as := [.ref f]) (rest := []) (b := 78) d_Fi_isOdd_2 rfl (jw_Fi_makeWhole.jo (by decide)) lm_Fi_43 ji_Fi_makeWhole js_Fi_makeWhole ho rfl rfl rfl (Nat.le_of_ble_eq_true rfl) (by decide) (by decide) (x_Fi_makeWhole G ho hw hf) (fun r M' hq => ?_)
  rw [hq.1, hq.2]
  clear hq r M'
  have K := (mkC_V hn (hV.lp0 (W := W))).1
  generalize (mkC (lp 10 F W) 4).2 = W1 at K ⊢
  show TT G mi_Fi_isOdd 5 [(0, .ref 78), (1, .ref f)] [] (M.set 79 (lr 10 W1)) 0 0 _
  refine T_aload_n (v := .ref 78) d_Fi_isOdd_5 rfl (Or.inr ⟨_, rfl⟩) ?_
  refine T_getfield d_Fi_isOdd_6 fg_Fi_9 (X_ne ho (by decide)) rfl ?_
  refine T_iconst (v := nI 0) d_Fi_isOdd_9 (by decide) ?_
  refine T_laload d_Fi_isOdd_10 (List.getElem?_set_self (X_len hw)) (vp_in_nI (by decide) (by decide)) ?_
  refine T_eq (st' := [.long (W1 0)]) rfl rfl rfl rfl ?_
  refine T_lconst (v := 1) d_Fi_isOdd_11 (by decide) ?_
  refine T_land d_Fi_isOdd_12 ?_
  refine T_lconst (v := 1) d_Fi_isOdd_13 (by decide) ?_
  refine T_lcmp d_Fi_isOdd_14 ?_
  refine T_if_ne d_Fi_isOdd_15 (tgt := 22) rfl (fun c => ?_) (fun c => ?_)
  · refine T_iconst (v := nI 0) d_Fi_isOdd_22 (by decide) ?_
    exact T_ret d_Fi_isOdd_23 rfl (by decide) (by decide) (by decide) ⟨by rw [if_neg (fun h => c ((odd_l K).mpr h))], _, rfl⟩
  · refine T_iconst (v := nI 1) d_Fi_isOdd_18 (by decide) ?_
    refine T_goto (tgt := 23) d_Fi_isOdd_19 rfl ?_
    exact T_ret d_Fi_isOdd_23 rfl (by decide) (by decide) (by decide) ⟨by rw [if_pos ((odd_l K).mp c)], _, rfl⟩
theorem xl_Fi_isZero (G : GX) {M : List va_E} {f : Nat} {W1 : Nat → Int64} (ho : M[78]? = some (.inr (6, [.ref 79, .ref 80, .ref 81, .ref 82, .ref 83, .ref 84, .ref 85]))) (hw : M[79]? = some (lr 10 W1)) {Q : Option Value → List va_E → Prop} (kk : ∀ z : Int64, (z = 0 ↔ ∀ i, i < 10 → W1 i = 0) → TT G mi_Fi_isZero 33 [(2, .long z), (0, .ref 78), (1, .ref f)] [] M 0 0 Q) : ∀ j k (z : Int64), k + j = 10 → (z = 0 ↔ ∀ i, i < k → W1 i = 0) → TT G mi_Fi_isZero 10 [(4, .int (nI k)), (2, .long z), (0, .ref 78), (1, .ref f)] [] M 0 0 Q := by
  intro j
  induction j with
  | zero =>
    intro k z hk hz
    have : k = 10 := by omega
    subst this
    refine T_iload d_Fi_isZero_10 rfl ?_
    refine T_bipush (v := nI 10) d_Fi_isZero_12 (by decide) ?_
    refine T_icmp_ge d_Fi_isZero_14 (tgt := 33) rfl (fun _ => ?_) (fun c => absurd (by decide) c)
    exact T_sub (fun q hq => List.mem_cons_of_mem _ hq) (kk z hz)
  | succ j ih =>
    intro k z hk hz
    refine T_iload d_Fi_isZero_10 rfl ?_
    refine T_bipush (v := nI 10) d_Fi_isZero_12 (by decide) ?_
    refine T_icmp_ge d_Fi_isZero_14 (tgt := 33) rfl (fun c => absurd ((nI_leI (by decide) (by omega)).mp c) (by omega)) (fun _ => ?_)
    refine T_lload_n d_Fi_isZero_17 rfl ?_
    refine T_aload_n (v := .ref 78) d_Fi_isZero_18 rfl (Or.inr ⟨_, rfl⟩) ?_
    refine T_getfield d_Fi_isZero_19 fg_Fi_9 ho rfl ?_
    refine T_iload d_Fi_isZero_22 rfl ?_
    refine T_laload d_Fi_isZero_24 hw (vp_in_nI (by omega) (by decide)) ?_
    rw [nI_clamp (by omega)]
    refine T_lor d_Fi_isZero_25 ?_
    refine T_lstore_n (L' := [(2, .long (z ||| W1 k)), (4, .int (nI k)), (0, .ref 78), (1, .ref f)]) d_Fi_isZero_26 (by decide) rfl ?_
    refine T_iinc (x := nI k) (L' := [(4, .int (nI (k + 1))), (2, .long (z ||| W1 k)), (0, .ref 78), (1, .ref f)]) d_Fi_isZero_27 (by decide) rfl (by rw [show Int32.ofInt 1 = nI 1 from rfl, nI_add]; rfl) ?_
    refine T_goto (tgt := 10) d_Fi_isZero_30 rfl ?_
    refine ih (k + 1) (z ||| W1 k) (by omega) ?_
    rw [or0, hz]
    constructor
    · intro ⟨h1, h2⟩ i hi
      rcases Nat.lt_or_ge i k with h | h
      · exact h1 i h
      · rw [show i = k by omega]; exact h2
    · intro h
      exact ⟨fun i hi => h i (by omega), h k (by omega)⟩
theorem dig0 {X : Int} {W1 : Nat → Int64} (h0 : 0 ≤ X) (h1 : X < pP) (K : (W1 0).toInt = X / 1 % 67108864 ∧ (W1 1).toInt = X / 67108864 % 33554432 ∧ (W1 2).toInt = X / 2251799813685248 % 67108864 ∧ (W1 3).toInt = X / 151115727451828646838272 % 33554432 ∧ (W1 4).toInt = X / 5070602400912917605986812821504 % 67108864 ∧ (W1 5).toInt = X / 340282366920938463463374607431768211456 % 33554432 ∧ (W1 6).toInt = X / 11417981541647679048466287755595961091061972992 % 67108864 ∧ (W1 7).toInt = X / 766247770432944429179173513575154591809369561091801088 % 33554432 ∧ (W1 8).toInt = X / 25711008708143844408671393477458601640355247900524685364822016 % 67108864 ∧ (W1 9).toInt = X / 1725436586697640946858688965569256363112777243042596638790631055949824 % 33554432) : (∀ i, i < 10 → W1 i = 0) ↔ X = 0 := by
  obtain ⟨k0, k1, k2, k3, k4, k5, k6, k7, k8, k9⟩ := K
  constructor
  · intro h
    have hs := dsum10 X
    rw [← k0, ← k1, ← k2, ← k3, ← k4, ← k5, ← k6, ← k7, ← k8, ← k9] at hs
    rw [h 0 (by decide), h 1 (by decide), h 2 (by decide), h 3 (by decide), h 4 (by decide), h 5 (by decide), h 6 (by decide), h 7 (by decide), h 8 (by decide), h 9 (by decide)] at hs
    have : (0 : Int64).toInt = 0 := rfl
    rw [this] at hs
    unfold pP at h1
    omega
  · intro h
    subst h
    intro i hi
    have h10 : i = 0 ∨ i = 1 ∨ i = 2 ∨ i = 3 ∨ i = 4 ∨ i = 5 ∨ i = 6 ∨ i = 7 ∨ i = 8 ∨ i = 9 := by omega
    apply Int64.toInt_inj.mp
    rcases h10 with rfl | rfl | rfl | rfl | rfl | rfl | rfl | rfl | rfl | rfl
    · rw [k0]; decide
    · rw [k1]; decide
    · rw [k2]; decide
    · rw [k3]; decide
    · rw [k4]; decide
    · rw [k5]; decide
    · rw [k6]; decide
    · rw [k7]; decide
    · rw [k8]; decide
    · rw [k9]; decide
theorem x_Fi_isZero (G : GX) {M : List va_E} {f : Nat} {W F : Nat → Int64} {x : Int} {n : Nat} (ho : M[78]? = some (.inr (6, [.ref 79, .ref 80, .ref 81, .ref 82, .ref 83, .ref 84, .ref 85]))) (hw : M[79]? = some (lr 10 W)) (hf : M[f]? = some (lr 10 F)) (hV : V10 F x n) (hn : n ≤ 100) : CT G mi_Fi_isZero [.ref 78, .ref f] M (fun r M' => r = some (.int (nI (if x % pP = 0 then 1 else 0))) ∧ ∃ W', M' = M.set 79 (lr 10 W')) := by
  refine CT.of (by decide) (Nat.le_of_ble_eq_true rfl) ?_
  show TT G mi_Fi_isZero 0 [(0, .ref 78), (1, .ref f)] [] M 0 0 _
  refine T_aload_n (v := .ref 78) d_Fi_isZero_0 rfl (Or.inr ⟨_, rfl⟩) ?_
  refine T_aload_n (v := .ref f) d_Fi_isZero_1 rfl (Or.inr ⟨_, rfl⟩) ?_
  refine T_virtual (as := [.ref f]) (rest := []) (b := 78) d_Fi_isZero_2 rfl (jw_Fi_makeWhole.jo (by decide)) lm_Fi_43 ji_Fi_makeWhole js_Fi_makeWhole ho rfl rfl rfl (Nat.le_of_ble_eq_true rfl) (by decide) (by decide) (x_Fi_makeWhole G ho hw hf) (fun r M' hq => ?_)
  rw [hq.1, hq.2]
  clear hq r M'
  have K := dig0 (Int.emod_nonneg x (by decide)) (Int.emod_lt_of_pos x pP_pos) (mkC_V hn (hV.lp0 (W := W)))
  generalize (mkC (lp 10 F W) 4).2 = W1 at K ⊢
  show TT G mi_Fi_isZero 5 [(0, .ref 78), (1, .ref f)] [] (M.set 79 (lr 10 W1)) 0 0 _
  refine T_lconst (v := 0) d_Fi_isZero_5 (by decide) ?_
  refine T_lstore_n (L' := [(2, .long 0), (0, .ref 78), (1, .ref f)]) d_Fi_isZero_6 (by decide) rfl ?_
  refine T_iconst (v := nI 0) d_Fi_isZero_7 (by decide) ?_
  refine T_istore (L' := [(4, .int (nI 0)), (2, .long 0), (0, .ref 78), (1, .ref f)]) d_Fi_isZero_8 (by decide) rfl ?_
  refine xl_Fi_isZero G (X_ne ho (by decide)) (List.getElem?_set_self (X_len hw)) (fun z hz => ?_) 10 0 0 rfl (by simp)
  refine T_lload_n d_Fi_isZero_33 rfl ?_
  refine T_lconst (v := 0) d_Fi_isZero_34 (by decide) ?_
  refine T_lcmp d_Fi_isZero_35 ?_
  refine T_if_ne d_Fi_isZero_36 (tgt := 43) rfl (fun c => ?_) (fun c => ?_)
  · refine T_iconst (v := nI 0) d_Fi_isZero_43 (by decide) ?_
    exact T_ret d_Fi_isZero_44 rfl (by decide) (by decide) (by decide) ⟨by rw [if_neg (fun h => c ((cmp0 z).mpr (hz.mpr (K.mpr h))))], _, rfl⟩
  · refine T_iconst (v := nI 1) d_Fi_isZero_39 (by decide) ?_
    refine T_goto (tgt := 44) d_Fi_isZero_40 rfl ?_
    exact T_ret d_Fi_isZero_44 rfl (by decide) (by decide) (by decide) ⟨by rw [if_pos (K.mp (hz.mp ((cmp0 z).mp c)))], _, rfl⟩
