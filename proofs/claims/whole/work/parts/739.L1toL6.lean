def pQ : Nat := 57896044618658097711785492504343953926634992332820282019728792003956564819949
theorem pQ_P : (pQ : Int) = pP := by decide +kernel
def pmk (x : Nat) : Nat → Nat → Nat
  | _, 0 => 1
  | e, k + 1 => if e % 2 = 1 then (pmk x (e / 2) k * pmk x (e / 2) k % pQ) * x % pQ else pmk x (e / 2) k * pmk x (e / 2) k % pQ
def pmj (x : Nat) : Nat → Nat → Nat
  | _, 0 => 1
  | e, k + 1 => (fun h => if e % 2 = 1 then (h * h % pQ) * x % pQ else h * h % pQ) (pmj x (e / 2) k)
theorem pmj_k (x : Nat) : ∀ k e, pmj x e k = pmk x e k
  | 0, _ => rfl
  | k + 1, e => by show (if e % 2 = 1 then _ else _) = _; rw [pmj_k x k]; rfl
theorem pmk_v (x : Nat) : ∀ k e, e < 2 ^ k → pmk x e k % pQ = x ^ e % pQ
  | 0, e, h => by
    have : e = 0 := by omega
    subst this; rfl
  | k + 1, e, h => by
    have ih := pmk_v x k (e / 2) (by rw [Nat.pow_succ] at h; omega)
    show (if e % 2 = 1 then _ else _) % pQ = _
    have h2 : pmk x (e / 2) k * pmk x (e / 2) k % pQ = x ^ (e / 2) * x ^ (e / 2) % pQ := by rw [Nat.mul_mod, ih, ← Nat.mul_mod]
    split
    · rename_i c
      have e1 : e = e / 2 + e / 2 + 1 := by omega
      conv => rhs; rw [e1, Nat.pow_succ, Nat.pow_add]
      rw [Nat.mod_mod, Nat.mul_mod, Nat.mod_mod, h2, ← Nat.mul_mod]
    · rename_i c
      have e1 : e = e / 2 + e / 2 := by omega
      conv => rhs; rw [e1, Nat.pow_add]
      rw [Nat.mod_mod, h2]
theorem eqP.pw {x y : Int} (h : eqP x y) : ∀ n : Nat, eqP (pw x n) (pw y n)
  | 0 => by show eqP (x ^ 0) (y ^ 0); rw [Int.pow_zero, Int.pow_zero]; exact eqP.rf _
  | n + 1 => by
    show eqP (x ^ (n + 1)) (y ^ (n + 1))
    rw [Int.pow_succ, Int.pow_succ]
    exact eqP.ml (eqP.pw h n) h
theorem pw_c {X : Int} {x e k c : Nat} (hx : eqP X (x : Int)) (he : e < 2 ^ k) (h : pmj x e k % pQ = c % pQ) : eqP (pw X e) (c : Int) := by
  refine eqP.tr (eqP.pw hx e) ?_
  rw [eqP.em]
  show (x : Int) ^ e % pP = _
  rw [← pQ_P, ← Int.natCast_pow, ← Int.natCast_emod, ← Int.natCast_emod, ← pmk_v x k e he, ← pmj_k, h]
set_option maxHeartbeats 8000000 in
theorem rt_c {u w x a b c : Int} {e : Int} (hx : eqP (pw ((((((w * w) * w) * ((w * w) * w)) * w)) * u) 7237005577332262213973186563042994240829374041602535252466099000494570602493) x) (ha : ((x * ((w * w) * w)) * u) % pP = a % pP) (hb : (if ((a * a * w + u) % pP = 0 ∨ (a * a * w + u * cv_2) % pP = 0) then a * cv_2 else a) = b) (hc : (if (b % pP) % 2 = 1 then -b else b) % pP = c % pP) (_he : e = 0) : eqP (rt u w) c := by
  have hA : eqP (rtA u w) a := eqP.tr (eqP.ml (eqP.ml hx (eqP.rf _)) (eqP.rf _)) (eqP.em.mpr ha)
  have hC : eqP (rtC u w) (a * a * w) := eqP.ml (eqP.ml hA hA) (eqP.rf _)
  have c1 : (rtC u w + u) % pP = (a * a * w + u) % pP := eqP.em.mp (eqP.ad hC (eqP.rf _))
  have c2 : (rtC u w + u * cv_2) % pP = (a * a * w + u * cv_2) % pP := eqP.em.mp (eqP.ad hC (eqP.rf _))
  have hB : eqP (rtB u w) b := by
    unfold rtB
    rw [c1, c2, ← hb]
    split
    · exact eqP.ml hA (eqP.rf _)
    · exact hA
  have c3 : rtB u w % pP = b % pP := eqP.em.mp hB
  refine eqP.tr ?_ (eqP.em.mpr hc)
  unfold rt
  rw [c3]
  split
  · exact eqP.ng hB
  · exact hB
theorem RE.nrm {M : List va_E} {v : Nat → Int32} {E : Nat → Int} {d : Nat} {x c : Int} (h : RE M v E) (hd : E d = x) (q : eqP x c) : RE M v (up E d c) := h.eq fun e _ => by
  unfold up
  split
  · rename_i z; subst z; rw [hd]; exact q
  · exact eqP.rf _
theorem ke_nrm {ds : List Nat} {E E' : Nat → Int} {d : Nat} {c : Int} (k : KE ds E E') (hd : d ∈ ds) : KE ds E (up E' d c) := fun e he => by
  have n : e ≠ d := by intro z; subst z; exact he hd
  rw [up_ne n]; exact k e he
set_option maxHeartbeats 8000000 in
theorem u_Mo_invert {G : GX} {M : List va_E} {v : Nat → Int32} {E : Nat → Int} {d a : Nat} {x : Int} (hE : RE M v E) (hd : d ≤ 60) (ha : a ≤ 60) (hx : E a = x) : CT G mi_Mo_invert [.ref 373, .int (nI d), .int (nI a)] M (fun r M' => r = none ∧ qP M v E d (pw x (eb 4 2 254 1)) [d, 61] M') := by
  refine CT.of (by decide) (Nat.le_of_ble_eq_true rfl) ?_
  show TT G mi_Mo_invert 0 [(0, .ref 373), (1, .int (nI d)), (2, .int (nI a))] [] M 0 0 _
  refine T_aload_n (v := .ref 373) d_Mo_invert_0 rfl (Or.inr ⟨_, rfl⟩) ?_
  refine T_iload_n d_Mo_invert_1 rfl ?_
  refine T_iload_n d_Mo_invert_2 rfl ?_
  refine T_sipush (v := nI 254) d_Mo_invert_3 (by decide) ?_
  refine T_iconst (v := nI 4) d_Mo_invert_6 (by decide) ?_
  refine T_iconst (v := nI 2) d_Mo_invert_7 (by decide) ?_
  refine T_virtual (as := [.int (nI d), .int (nI a), .int (nI 254), .int (nI 4), .int (nI 2)]) (rest := []) (b := 373) d_Mo_invert_8 rfl (jw_Mo_power.jo (by decide)) lm_Mo_166 ji_Mo_power js_Mo_power hE.ob rfl rfl rfl (Nat.le_of_ble_eq_true rfl) (by decide) (by decide) (u_Mo_power hE hd ha (by decide) (by decide) (by decide) hx) (fun r M_1 hq => ?_)
  obtain ⟨rfl, hq⟩ := hq
  refine T_eq (pc' := 11) (L' := [(0, .ref 373), (1, .int (nI d)), (2, .int (nI a))]) (st' := []) (M' := M_1) rfl rfl rfl rfl ?_
  exact T_vret d_Mo_invert_11 rfl (by decide) (by decide) ⟨rfl, hq⟩
set_option maxRecDepth 100000 in
set_option maxHeartbeats 8000000 in
theorem u_Mo_constants {G : GX} {M : List va_E} {v : Nat → Int32} {E : Nat → Int} (hE : RE M v E) : CT G mi_Mo_constants [.ref 373] M (fun r M' => r = none ∧ ∃ E', RE M' v E' ∧ CK E' ∧ Kp RW M M') := by
  refine CT.of (by decide) (Nat.le_of_ble_eq_true rfl) ?_
  show TT G mi_Mo_constants 0 [(0, .ref 373)] [] M 0 0 _
  refine T_aload_n (v := .ref 373) d_Mo_constants_0 rfl (Or.inr ⟨_, rfl⟩) ?_
  refine T_iconst (v := nI 0) d_Mo_constants_1 (by decide) ?_
  refine T_iconst (v := nI 0) d_Mo_constants_2 (by decide) ?_
  refine T_virtual (as := [.int (nI 0), .int (nI 0)]) (rest := []) (b := 373) d_Mo_constants_3 rfl (jw_Mo_small.jo (by decide)) lm_Mo_179 ji_Mo_small js_Mo_small hE.ob rfl rfl rfl (Nat.le_of_ble_eq_true rfl) (by decide) (by decide) (u_Mo_small hE (by decide) (c := 0) (x := 0) (by decide)) (fun r M_1 hq => ?_)
  obtain ⟨rfl, E_1, hE_1, vr_1, ke_1, kp_1⟩ := hq
  have hN_1 := RE.nrm (c := 0) hE_1 vr_1 (eqP.rf _)
  have kN_1 : KE [0] E (up E_1 0 0) := ke_nrm ke_1 (by decide)
  have vN_1 : (up E_1 0 0) 0 = 0 := up_self _ _ _
  obtain ⟨F_1, eF_1⟩ : ∃ F, F = up E_1 0 0 := ⟨_, rfl⟩
  rw [← eF_1] at hN_1 kN_1 vN_1
  clear eF_1
  refine T_eq (pc' := 6) (L' := [(0, .ref 373)]) (st' := []) (M' := M_1) rfl rfl rfl rfl ?_
  refine T_aload_n (v := .ref 373) d_Mo_constants_6 rfl (Or.inr ⟨_, rfl⟩) ?_
  refine T_iconst (v := nI 1) d_Mo_constants_7 (by decide) ?_
  refine T_iconst (v := nI 1) d_Mo_constants_8 (by decide) ?_
  refine T_virtual (as := [.int (nI 1), .int (nI 1)]) (rest := []) (b := 373) d_Mo_constants_9 rfl (jw_Mo_small.jo (by decide)) lm_Mo_179 ji_Mo_small js_Mo_small hN_1.ob rfl rfl rfl (Nat.le_of_ble_eq_true rfl) (by decide) (by decide) (u_Mo_small hN_1 (by decide) (c := 1) (x := 1) (by decide)) (fun r M_2 hq => ?_)
  obtain ⟨rfl, E_2, hE_2, vr_2, ke_2, kp_2⟩ := hq
  have hN_2 := RE.nrm (c := 1) hE_2 vr_2 (eqP.rf _)
  have kN_2 : KE [1] F_1 (up E_2 1 1) := ke_nrm ke_2 (by decide)
  have vN_2 : (up E_2 1 1) 1 = 1 := up_self _ _ _
  obtain ⟨F_2, eF_2⟩ : ∃ F, F = up E_2 1 1 := ⟨_, rfl⟩
  rw [← eF_2] at hN_2 kN_2 vN_2
  clear eF_2
  refine T_eq (pc' := 12) (L' := [(0, .ref 373)]) (st' := []) (M' := M_2) rfl rfl rfl rfl ?_
  refine T_aload_n (v := .ref 373) d_Mo_constants_12 rfl (Or.inr ⟨_, rfl⟩) ?_
  refine T_iconst (v := nI 3) d_Mo_constants_13 (by decide) ?_
  refine T_iconst (v := nI 2) d_Mo_constants_14 (by decide) ?_
  refine T_virtual (as := [.int (nI 3), .int (nI 2)]) (rest := []) (b := 373) d_Mo_constants_15 rfl (jw_Mo_small.jo (by decide)) lm_Mo_179 ji_Mo_small js_Mo_small hN_2.ob rfl rfl rfl (Nat.le_of_ble_eq_true rfl) (by decide) (by decide) (u_Mo_small hN_2 (by decide) (c := 2) (x := 2) (by decide)) (fun r M_3 hq => ?_)
  obtain ⟨rfl, E_3, hE_3, vr_3, ke_3, kp_3⟩ := hq
  have hN_3 := RE.nrm (c := 2) hE_3 vr_3 (eqP.rf _)
  have kN_3 : KE [3] F_2 (up E_3 3 2) := ke_nrm ke_3 (by decide)
  have vN_3 : (up E_3 3 2) 3 = 2 := up_self _ _ _
  obtain ⟨F_3, eF_3⟩ : ∃ F, F = up E_3 3 2 := ⟨_, rfl⟩
  rw [← eF_3] at hN_3 kN_3 vN_3
  clear eF_3
  refine T_eq (pc' := 18) (L' := [(0, .ref 373)]) (st' := []) (M' := M_3) rfl rfl rfl rfl ?_
  refine T_aload_n (v := .ref 373) d_Mo_constants_18 rfl (Or.inr ⟨_, rfl⟩) ?_
  refine T_iconst (v := nI 3) d_Mo_constants_19 (by decide) ?_
  refine T_iconst (v := nI 3) d_Mo_constants_20 (by decide) ?_
  refine T_sipush (v := nI 252) d_Mo_constants_21 (by decide) ?_
  refine T_iconst (v := nI 2) d_Mo_constants_24 (by decide) ?_
  refine T_iconst (v := nI 2) d_Mo_constants_25 (by decide) ?_
  refine T_virtual (as := [.int (nI 3), .int (nI 3), .int (nI 252), .int (nI 2), .int (nI 2)]) (rest := []) (b := 373) d_Mo_constants_26 rfl (jw_Mo_power.jo (by decide)) lm_Mo_166 ji_Mo_power js_Mo_power hN_3.ob rfl rfl rfl (Nat.le_of_ble_eq_true rfl) (by decide) (by decide) (u_Mo_power hN_3 (by decide) (by decide) (by decide) (by decide) (by decide) vN_3) (fun r M_4 hq => ?_)
  obtain ⟨rfl, E_4, hE_4, vr_4, ke_4, kp_4⟩ := hq
  have hN_4 := RE.nrm (c := 19681161376707505956807079304988542015446066515923890162744021073123829784752) hE_4 vr_4 (pw_c (x := 2) (k := 256) (c := 19681161376707505956807079304988542015446066515923890162744021073123829784752) (eqP.rf _) (by decide +kernel) (by decide +kernel))
  have kN_4 : KE [3, 61] F_3 (up E_4 3 19681161376707505956807079304988542015446066515923890162744021073123829784752) := ke_nrm ke_4 (by decide)
  have vN_4 : (up E_4 3 19681161376707505956807079304988542015446066515923890162744021073123829784752) 3 = 19681161376707505956807079304988542015446066515923890162744021073123829784752 := up_self _ _ _
  obtain ⟨F_4, eF_4⟩ : ∃ F, F = up E_4 3 19681161376707505956807079304988542015446066515923890162744021073123829784752 := ⟨_, rfl⟩
  rw [← eF_4] at hN_4 kN_4 vN_4
  clear eF_4
  refine T_eq (pc' := 29) (L' := [(0, .ref 373)]) (st' := []) (M' := M_4) rfl rfl rfl rfl ?_
  refine T_aload_n (v := .ref 373) d_Mo_constants_29 rfl (Or.inr ⟨_, rfl⟩) ?_
  refine T_bipush (v := nI 60) d_Mo_constants_30 (by decide) ?_
  refine T_ldc d_Mo_constants_32 kI_Mo_219 ?_
  refine N_topi (y := (nI 121666)) (by decide) ?_
  refine T_virtual (as := [.int (nI 60), .int (nI 121666)]) (rest := []) (b := 373) d_Mo_constants_34 rfl (jw_Mo_small.jo (by decide)) lm_Mo_179 ji_Mo_small js_Mo_small hN_4.ob rfl rfl rfl (Nat.le_of_ble_eq_true rfl) (by decide) (by decide) (u_Mo_small hN_4 (by decide) (c := 121666) (x := 121666) (by decide)) (fun r M_5 hq => ?_)
  obtain ⟨rfl, E_5, hE_5, vr_5, ke_5, kp_5⟩ := hq
  have hN_5 := RE.nrm (c := 121666) hE_5 vr_5 (eqP.rf _)
  have kN_5 : KE [60] F_4 (up E_5 60 121666) := ke_nrm ke_5 (by decide)
  have vN_5 : (up E_5 60 121666) 60 = 121666 := up_self _ _ _
  obtain ⟨F_5, eF_5⟩ : ∃ F, F = up E_5 60 121666 := ⟨_, rfl⟩
  rw [← eF_5] at hN_5 kN_5 vN_5
  clear eF_5
  refine T_eq (pc' := 37) (L' := [(0, .ref 373)]) (st' := []) (M' := M_5) rfl rfl rfl rfl ?_
  refine T_aload_n (v := .ref 373) d_Mo_constants_37 rfl (Or.inr ⟨_, rfl⟩) ?_
  refine T_bipush (v := nI 59) d_Mo_constants_38 (by decide) ?_
  refine T_bipush (v := nI 60) d_Mo_constants_40 (by decide) ?_
  refine T_virtual (as := [.int (nI 59), .int (nI 60)]) (rest := []) (b := 373) d_Mo_constants_42 rfl (jw_Mo_invert.jo (by decide)) lm_Mo_220 ji_Mo_invert js_Mo_invert hN_5.ob rfl rfl rfl (Nat.le_of_ble_eq_true rfl) (by decide) (by decide) (u_Mo_invert hN_5 (by decide) (by decide) vN_5) (fun r M_6 hq => ?_)
  obtain ⟨rfl, E_6, hE_6, vr_6, ke_6, kp_6⟩ := hq
  have hN_6 := RE.nrm (c := 37095705934669439343138083508754565189542113879843219016388785533085940283556) hE_6 vr_6 (pw_c (x := 121666) (k := 256) (c := 37095705934669439343138083508754565189542113879843219016388785533085940283556) (eqP.rf _) (by decide +kernel) (by decide +kernel))
  have kN_6 : KE [59, 61] F_5 (up E_6 59 37095705934669439343138083508754565189542113879843219016388785533085940283556) := ke_nrm ke_6 (by decide)
  have vN_6 : (up E_6 59 37095705934669439343138083508754565189542113879843219016388785533085940283556) 59 = 37095705934669439343138083508754565189542113879843219016388785533085940283556 := up_self _ _ _
  obtain ⟨F_6, eF_6⟩ : ∃ F, F = up E_6 59 37095705934669439343138083508754565189542113879843219016388785533085940283556 := ⟨_, rfl⟩
  rw [← eF_6] at hN_6 kN_6 vN_6
  clear eF_6
  refine T_eq (pc' := 45) (L' := [(0, .ref 373)]) (st' := []) (M' := M_6) rfl rfl rfl rfl ?_
  refine T_aload_n (v := .ref 373) d_Mo_constants_45 rfl (Or.inr ⟨_, rfl⟩) ?_
  refine T_bipush (v := nI 58) d_Mo_constants_46 (by decide) ?_
  refine T_ldc d_Mo_constants_48 kI_Mo_223 ?_
  refine N_topi (y := (nI 121665)) (by decide) ?_
  refine T_virtual (as := [.int (nI 58), .int (nI 121665)]) (rest := []) (b := 373) d_Mo_constants_50 rfl (jw_Mo_small.jo (by decide)) lm_Mo_179 ji_Mo_small js_Mo_small hN_6.ob rfl rfl rfl (Nat.le_of_ble_eq_true rfl) (by decide) (by decide) (u_Mo_small hN_6 (by decide) (c := 121665) (x := 121665) (by decide)) (fun r M_7 hq => ?_)
  obtain ⟨rfl, E_7, hE_7, vr_7, ke_7, kp_7⟩ := hq
  have hN_7 := RE.nrm (c := 121665) hE_7 vr_7 (eqP.rf _)
  have kN_7 : KE [58] F_6 (up E_7 58 121665) := ke_nrm ke_7 (by decide)
  have vN_7 : (up E_7 58 121665) 58 = 121665 := up_self _ _ _
  obtain ⟨F_7, eF_7⟩ : ∃ F, F = up E_7 58 121665 := ⟨_, rfl⟩
  rw [← eF_7] at hN_7 kN_7 vN_7
  clear eF_7
  refine T_eq (pc' := 53) (L' := [(0, .ref 373)]) (st' := []) (M' := M_7) rfl rfl rfl rfl ?_
  refine T_aload_n (v := .ref 373) d_Mo_constants_53 rfl (Or.inr ⟨_, rfl⟩) ?_
  refine T_bipush (v := nI 59) d_Mo_constants_54 (by decide) ?_
  refine T_bipush (v := nI 59) d_Mo_constants_56 (by decide) ?_
  refine T_bipush (v := nI 58) d_Mo_constants_58 (by decide) ?_
  have r_8 := (kN_7 59 (by decide)).trans (vN_6)
  refine T_virtual (as := [.int (nI 59), .int (nI 59), .int (nI 58)]) (rest := []) (b := 373) d_Mo_constants_60 rfl (jw_Mo_mul.jo (by decide)) lm_Mo_163 ji_Mo_mul js_Mo_mul hN_7.ob rfl rfl rfl (Nat.le_of_ble_eq_true rfl) (by decide) (by decide) (u_Mo_mul hN_7 (by decide) (by decide) (by decide) r_8 vN_7) (fun r M_9 hq => ?_)
  obtain ⟨rfl, E_9, hE_9, vr_9, ke_9, kp_9⟩ := hq
  have hN_9 := RE.nrm (c := 20800338683988658368647408995589388737092878452977063003340006470870624536394) hE_9 vr_9 (eqP.em.mpr (by decide +kernel))
  have kN_9 : KE [59] F_7 (up E_9 59 20800338683988658368647408995589388737092878452977063003340006470870624536394) := ke_nrm ke_9 (by decide)
  have vN_9 : (up E_9 59 20800338683988658368647408995589388737092878452977063003340006470870624536394) 59 = 20800338683988658368647408995589388737092878452977063003340006470870624536394 := up_self _ _ _
  obtain ⟨F_9, eF_9⟩ : ∃ F, F = up E_9 59 20800338683988658368647408995589388737092878452977063003340006470870624536394 := ⟨_, rfl⟩
  rw [← eF_9] at hN_9 kN_9 vN_9
  clear eF_9
  refine T_eq (pc' := 63) (L' := [(0, .ref 373)]) (st' := []) (M' := M_9) rfl rfl rfl rfl ?_
  refine T_aload_n (v := .ref 373) d_Mo_constants_63 rfl (Or.inr ⟨_, rfl⟩) ?_
  refine T_iconst (v := nI 2) d_Mo_constants_64 (by decide) ?_
  refine T_iconst (v := nI 0) d_Mo_constants_65 (by decide) ?_
  refine T_bipush (v := nI 59) d_Mo_constants_66 (by decide) ?_
  have r_10 := (kN_9 0 (by decide)).trans ((kN_7 0 (by decide)).trans ((kN_6 0 (by decide)).trans ((kN_5 0 (by decide)).trans ((kN_4 0 (by decide)).trans ((kN_3 0 (by decide)).trans ((kN_2 0 (by decide)).trans (vN_1)))))))
  refine T_virtual (as := [.int (nI 2), .int (nI 0), .int (nI 59)]) (rest := []) (b := 373) d_Mo_constants_68 rfl (jw_Mo_sub.jo (by decide)) lm_Mo_152 ji_Mo_sub js_Mo_sub hN_9.ob rfl rfl rfl (Nat.le_of_ble_eq_true rfl) (by decide) (by decide) (u_Mo_sub hN_9 (by decide) (by decide) (by decide) r_10 vN_9) (fun r M_11 hq => ?_)
  obtain ⟨rfl, E_11, hE_11, vr_11, ke_11, kp_11⟩ := hq
  have hN_11 := RE.nrm (c := 37095705934669439343138083508754565189542113879843219016388785533085940283555) hE_11 vr_11 (eqP.em.mpr (by decide +kernel))
  have kN_11 : KE [2] F_9 (up E_11 2 37095705934669439343138083508754565189542113879843219016388785533085940283555) := ke_nrm ke_11 (by decide)
  have vN_11 : (up E_11 2 37095705934669439343138083508754565189542113879843219016388785533085940283555) 2 = 37095705934669439343138083508754565189542113879843219016388785533085940283555 := up_self _ _ _
  obtain ⟨F_11, eF_11⟩ : ∃ F, F = up E_11 2 37095705934669439343138083508754565189542113879843219016388785533085940283555 := ⟨_, rfl⟩
  rw [← eF_11] at hN_11 kN_11 vN_11
  clear eF_11
  refine T_eq (pc' := 71) (L' := [(0, .ref 373)]) (st' := []) (M' := M_11) rfl rfl rfl rfl ?_
  refine T_aload_n (v := .ref 373) d_Mo_constants_71 rfl (Or.inr ⟨_, rfl⟩) ?_
  refine T_bipush (v := nI 60) d_Mo_constants_72 (by decide) ?_
  refine T_iconst (v := nI 2) d_Mo_constants_74 (by decide) ?_
  refine T_iconst (v := nI 1) d_Mo_constants_75 (by decide) ?_
  have r_12 := (kN_11 1 (by decide)).trans ((kN_9 1 (by decide)).trans ((kN_7 1 (by decide)).trans ((kN_6 1 (by decide)).trans ((kN_5 1 (by decide)).trans ((kN_4 1 (by decide)).trans ((kN_3 1 (by decide)).trans (vN_2)))))))
  refine T_virtual (as := [.int (nI 60), .int (nI 2), .int (nI 1)]) (rest := []) (b := 373) d_Mo_constants_76 rfl (jw_Mo_add.jo (by decide)) lm_Mo_182 ji_Mo_add js_Mo_add hN_11.ob rfl rfl rfl (Nat.le_of_ble_eq_true rfl) (by decide) (by decide) (u_Mo_add hN_11 (by decide) (by decide) (by decide) vN_11 r_12) (fun r M_13 hq => ?_)
  obtain ⟨rfl, E_13, hE_13, vr_13, ke_13, kp_13⟩ := hq
  have hN_13 := RE.nrm (c := 37095705934669439343138083508754565189542113879843219016388785533085940283556) hE_13 vr_13 (eqP.em.mpr (by decide +kernel))
  have kN_13 : KE [60] F_11 (up E_13 60 37095705934669439343138083508754565189542113879843219016388785533085940283556) := ke_nrm ke_13 (by decide)
  have vN_13 : (up E_13 60 37095705934669439343138083508754565189542113879843219016388785533085940283556) 60 = 37095705934669439343138083508754565189542113879843219016388785533085940283556 := up_self _ _ _
  obtain ⟨F_13, eF_13⟩ : ∃ F, F = up E_13 60 37095705934669439343138083508754565189542113879843219016388785533085940283556 := ⟨_, rfl⟩
  rw [← eF_13] at hN_13 kN_13 vN_13
  clear eF_13
  refine T_eq (pc' := 79) (L' := [(0, .ref 373)]) (st' := []) (M' := M_13) rfl rfl rfl rfl ?_
  refine T_aload_n (v := .ref 373) d_Mo_constants_79 rfl (Or.inr ⟨_, rfl⟩) ?_
  refine T_bipush (v := nI 60) d_Mo_constants_80 (by decide) ?_
  refine T_iconst (v := nI 0) d_Mo_constants_82 (by decide) ?_
  refine T_bipush (v := nI 60) d_Mo_constants_83 (by decide) ?_
  have r_14 := (kN_13 0 (by decide)).trans ((kN_11 0 (by decide)).trans (r_10))
  refine T_virtual (as := [.int (nI 60), .int (nI 0), .int (nI 60)]) (rest := []) (b := 373) d_Mo_constants_85 rfl (jw_Mo_sub.jo (by decide)) lm_Mo_152 ji_Mo_sub js_Mo_sub hN_13.ob rfl rfl rfl (Nat.le_of_ble_eq_true rfl) (by decide) (by decide) (u_Mo_sub hN_13 (by decide) (by decide) (by decide) r_14 vN_13) (fun r M_15 hq => ?_)
  obtain ⟨rfl, E_15, hE_15, vr_15, ke_15, kp_15⟩ := hq
  have hN_15 := RE.nrm (c := 20800338683988658368647408995589388737092878452977063003340006470870624536393) hE_15 vr_15 (eqP.em.mpr (by decide +kernel))
  have kN_15 : KE [60] F_13 (up E_15 60 20800338683988658368647408995589388737092878452977063003340006470870624536393) := ke_nrm ke_15 (by decide)
  have vN_15 : (up E_15 60 20800338683988658368647408995589388737092878452977063003340006470870624536393) 60 = 20800338683988658368647408995589388737092878452977063003340006470870624536393 := up_self _ _ _
  obtain ⟨F_15, eF_15⟩ : ∃ F, F = up E_15 60 20800338683988658368647408995589388737092878452977063003340006470870624536393 := ⟨_, rfl⟩
  rw [← eF_15] at hN_15 kN_15 vN_15
  clear eF_15
  refine T_eq (pc' := 88) (L' := [(0, .ref 373)]) (st' := []) (M' := M_15) rfl rfl rfl rfl ?_
  refine T_aload_n (v := .ref 373) d_Mo_constants_88 rfl (Or.inr ⟨_, rfl⟩) ?_
  refine T_iconst (v := nI 4) d_Mo_constants_89 (by decide) ?_
  refine T_iconst (v := nI 1) d_Mo_constants_90 (by decide) ?_
  refine T_bipush (v := nI 60) d_Mo_constants_91 (by decide) ?_
  have r_16 := (kN_15 1 (by decide)).trans ((kN_13 1 (by decide)).trans (r_12))
  have r_18 := (kN_15 0 (by decide)).trans (r_14)
  have r_19 := (kN_15 3 (by decide)).trans ((kN_13 3 (by decide)).trans ((kN_11 3 (by decide)).trans ((kN_9 3 (by decide)).trans ((kN_7 3 (by decide)).trans ((kN_6 3 (by decide)).trans ((kN_5 3 (by decide)).trans (vN_4)))))))
  refine T_virtual (as := [.int (nI 4), .int (nI 1), .int (nI 60)]) (rest := []) (b := 373) d_Mo_constants_93 rfl (jw_Mo_root.jo (by decide)) lm_Mo_197 ji_Mo_root js_Mo_root hN_15.ob rfl rfl rfl (Nat.le_of_ble_eq_true rfl) (by decide) (by decide) (u_Mo_root hN_15 r_18 ((r_19).trans (by decide)) (by decide) (by decide) (by decide) (by decide) (by decide) r_16 vN_15) (fun r M_17 hq => ?_)
  obtain ⟨rfl, E_17, hE_17, vr_17, ke_17, kp_17⟩ := hq
  have hN_17 := RE.nrm (c := 54469307008909316920995813868745141605393597292927456921205312896311721017578) hE_17 vr_17 (rt_c (e := 0) (x := 17595763551209225609103717635063123944848726559662490795248805314389348707801) (a := 54469307008909316920995813868745141605393597292927456921205312896311721017578) (b := 54469307008909316920995813868745141605393597292927456921205312896311721017578) (pw_c (x := 6873749767648558348807991311986895030088549112098816772501209244882524734695) (k := 256) (c := 17595763551209225609103717635063123944848726559662490795248805314389348707801) (eqP.em.mpr (by decide +kernel)) (by decide +kernel) (by decide +kernel)) (by decide +kernel) (by decide +kernel) (by decide +kernel) rfl)
  have kN_17 : KE [4, 50, 51, 52, 53, 54, 55, 56, 61, 62, 63] F_15 (up E_17 4 54469307008909316920995813868745141605393597292927456921205312896311721017578) := ke_nrm ke_17 (by decide)
  have vN_17 : (up E_17 4 54469307008909316920995813868745141605393597292927456921205312896311721017578) 4 = 54469307008909316920995813868745141605393597292927456921205312896311721017578 := up_self _ _ _
  obtain ⟨F_17, eF_17⟩ : ∃ F, F = up E_17 4 54469307008909316920995813868745141605393597292927456921205312896311721017578 := ⟨_, rfl⟩
  rw [← eF_17] at hN_17 kN_17 vN_17
  clear eF_17
  refine T_eq (pc' := 96) (L' := [(0, .ref 373)]) (st' := [.int (nI (rtG 1 20800338683988658368647408995589388737092878452977063003340006470870624536393))]) (M' := M_17) rfl rfl rfl rfl ?_
  refine T_pop d_Mo_constants_96 rfl ?_
  refine T_aload_n (v := .ref 373) d_Mo_constants_97 rfl (Or.inr ⟨_, rfl⟩) ?_
  refine T_iconst (v := nI 5) d_Mo_constants_98 (by decide) ?_
  refine T_bipush (v := nI 60) d_Mo_constants_99 (by decide) ?_
  refine T_iconst (v := nI 1) d_Mo_constants_101 (by decide) ?_
  have r_20 := (kN_17 60 (by decide)).trans (vN_15)
  have r_21 := (kN_17 1 (by decide)).trans (r_16)
  have r_23 := (kN_17 0 (by decide)).trans (r_18)
  have r_24 := (kN_17 3 (by decide)).trans (r_19)
  refine T_virtual (as := [.int (nI 5), .int (nI 60), .int (nI 1)]) (rest := []) (b := 373) d_Mo_constants_102 rfl (jw_Mo_root.jo (by decide)) lm_Mo_197 ji_Mo_root js_Mo_root hN_17.ob rfl rfl rfl (Nat.le_of_ble_eq_true rfl) (by decide) (by decide) (u_Mo_root hN_17 r_23 ((r_24).trans (by decide)) (by decide) (by decide) (by decide) (by decide) (by decide) r_20 r_21) (fun r M_22 hq => ?_)
  obtain ⟨rfl, E_22, hE_22, vr_22, ke_22, kp_22⟩ := hq
  have hN_22 := RE.nrm (c := 32832975665273474237674078345641801225390460830327625559649581521346134069714) hE_22 vr_22 (rt_c (e := 0) (x := 54469307008909316920995813868745141605393597292927456921205312896311721017578) (a := 32832975665273474237674078345641801225390460830327625559649581521346134069714) (b := 32832975665273474237674078345641801225390460830327625559649581521346134069714) (pw_c (x := 20800338683988658368647408995589388737092878452977063003340006470870624536393) (k := 256) (c := 54469307008909316920995813868745141605393597292927456921205312896311721017578) (eqP.em.mpr (by decide +kernel)) (by decide +kernel) (by decide +kernel)) (by decide +kernel) (by decide +kernel) (by decide +kernel) rfl)
  have kN_22 : KE [5, 50, 51, 52, 53, 54, 55, 56, 61, 62, 63] F_17 (up E_22 5 32832975665273474237674078345641801225390460830327625559649581521346134069714) := ke_nrm ke_22 (by decide)
  have vN_22 : (up E_22 5 32832975665273474237674078345641801225390460830327625559649581521346134069714) 5 = 32832975665273474237674078345641801225390460830327625559649581521346134069714 := up_self _ _ _
  obtain ⟨F_22, eF_22⟩ : ∃ F, F = up E_22 5 32832975665273474237674078345641801225390460830327625559649581521346134069714 := ⟨_, rfl⟩
  rw [← eF_22] at hN_22 kN_22 vN_22
  clear eF_22
  refine T_eq (pc' := 105) (L' := [(0, .ref 373)]) (st' := [.int (nI (rtG 20800338683988658368647408995589388737092878452977063003340006470870624536393 1))]) (M' := M_22) rfl rfl rfl rfl ?_
  refine T_pop d_Mo_constants_105 rfl ?_
  refine T_aload_n (v := .ref 373) d_Mo_constants_106 rfl (Or.inr ⟨_, rfl⟩) ?_
  refine T_iconst (v := nI 5) d_Mo_constants_107 (by decide) ?_
  refine T_virtual (as := [.int (nI 5)]) (rest := []) (b := 373) d_Mo_constants_108 rfl (jw_Mo_odd.jo (by decide)) lm_Mo_174 ji_Mo_odd js_Mo_odd hN_22.ob rfl rfl rfl (Nat.le_of_ble_eq_true rfl) (by decide) (by decide) (u_Mo_odd hN_22 (by decide) vN_22) (fun r M_25 hq => ?_)
  obtain ⟨rfl, pk_25, E_25, hE_25, ke_25, kp_25⟩ := hq
  rw [if_neg (by decide +kernel)]
  refine T_eq (pc' := 111) (L' := [(0, .ref 373)]) (st' := [.int (nI 0)]) (M' := M_25) rfl rfl rfl rfl ?_
  refine N_if_ne_f (b := 0) d_Mo_constants_111 (tgt := 121) rfl (by omega) (by omega) ?_
  refine T_aload_n (v := .ref 373) d_Mo_constants_114 rfl (Or.inr ⟨_, rfl⟩) ?_
  refine T_iconst (v := nI 5) d_Mo_constants_115 (by decide) ?_
  refine T_iconst (v := nI 0) d_Mo_constants_116 (by decide) ?_
  refine T_iconst (v := nI 5) d_Mo_constants_117 (by decide) ?_
  have r_26 := (ke_25 0 (by decide)).trans ((kN_22 0 (by decide)).trans (r_23))
  have r_27 := (ke_25 5 (by decide)).trans (vN_22)
  refine T_virtual (as := [.int (nI 5), .int (nI 0), .int (nI 5)]) (rest := []) (b := 373) d_Mo_constants_118 rfl (jw_Mo_sub.jo (by decide)) lm_Mo_152 ji_Mo_sub js_Mo_sub hE_25.ob rfl rfl rfl (Nat.le_of_ble_eq_true rfl) (by decide) (by decide) (u_Mo_sub hE_25 (by decide) (by decide) (by decide) r_26 r_27) (fun r M_28 hq => ?_)
  obtain ⟨rfl, E_28, hE_28, vr_28, ke_28, kp_28⟩ := hq
  have hN_28 := RE.nrm (c := 25063068953384623474111414158702152701244531502492656460079210482610430750235) hE_28 vr_28 (eqP.em.mpr (by decide +kernel))
  have kN_28 : KE [5] E_25 (up E_28 5 25063068953384623474111414158702152701244531502492656460079210482610430750235) := ke_nrm ke_28 (by decide)
  have vN_28 : (up E_28 5 25063068953384623474111414158702152701244531502492656460079210482610430750235) 5 = 25063068953384623474111414158702152701244531502492656460079210482610430750235 := up_self _ _ _
  obtain ⟨F_28, eF_28⟩ : ∃ F, F = up E_28 5 25063068953384623474111414158702152701244531502492656460079210482610430750235 := ⟨_, rfl⟩
  rw [← eF_28] at hN_28 kN_28 vN_28
  clear eF_28
  refine T_eq (pc' := 121) (L' := [(0, .ref 373)]) (st' := []) (M' := M_28) rfl rfl rfl rfl ?_
  refine T_aload_n (v := .ref 373) d_Mo_constants_121 rfl (Or.inr ⟨_, rfl⟩) ?_
  refine T_bipush (v := nI 60) d_Mo_constants_122 (by decide) ?_
  refine T_iconst (v := nI 2) d_Mo_constants_124 (by decide) ?_
  refine T_iconst (v := nI 2) d_Mo_constants_125 (by decide) ?_
  have r_29 := (kN_28 2 (by decide)).trans ((ke_25 2 (by decide)).trans ((kN_22 2 (by decide)).trans ((kN_17 2 (by decide)).trans ((kN_15 2 (by decide)).trans ((kN_13 2 (by decide)).trans (vN_11))))))
  refine T_virtual (as := [.int (nI 60), .int (nI 2), .int (nI 2)]) (rest := []) (b := 373) d_Mo_constants_126 rfl (jw_Mo_mul.jo (by decide)) lm_Mo_163 ji_Mo_mul js_Mo_mul hN_28.ob rfl rfl rfl (Nat.le_of_ble_eq_true rfl) (by decide) (by decide) (u_Mo_mul hN_28 (by decide) (by decide) (by decide) r_29 r_29) (fun r M_30 hq => ?_)
  obtain ⟨rfl, E_30, hE_30, vr_30, ke_30, kp_30⟩ := hq
  have hN_30 := RE.nrm (c := 56736201596989317832591716982488367278697634573104864365288912283080453013112) hE_30 vr_30 (eqP.em.mpr (by decide +kernel))
  have kN_30 : KE [60] F_28 (up E_30 60 56736201596989317832591716982488367278697634573104864365288912283080453013112) := ke_nrm ke_30 (by decide)
  have vN_30 : (up E_30 60 56736201596989317832591716982488367278697634573104864365288912283080453013112) 60 = 56736201596989317832591716982488367278697634573104864365288912283080453013112 := up_self _ _ _
  obtain ⟨F_30, eF_30⟩ : ∃ F, F = up E_30 60 56736201596989317832591716982488367278697634573104864365288912283080453013112 := ⟨_, rfl⟩
  rw [← eF_30] at hN_30 kN_30 vN_30
  clear eF_30
  refine T_eq (pc' := 129) (L' := [(0, .ref 373)]) (st' := []) (M' := M_30) rfl rfl rfl rfl ?_
  refine T_aload_n (v := .ref 373) d_Mo_constants_129 rfl (Or.inr ⟨_, rfl⟩) ?_
  refine T_bipush (v := nI 6) d_Mo_constants_130 (by decide) ?_
  refine T_iconst (v := nI 1) d_Mo_constants_132 (by decide) ?_
  refine T_bipush (v := nI 60) d_Mo_constants_133 (by decide) ?_
  have r_31 := (kN_30 1 (by decide)).trans ((kN_28 1 (by decide)).trans ((ke_25 1 (by decide)).trans ((kN_22 1 (by decide)).trans (r_21))))
  refine T_virtual (as := [.int (nI 6), .int (nI 1), .int (nI 60)]) (rest := []) (b := 373) d_Mo_constants_135 rfl (jw_Mo_sub.jo (by decide)) lm_Mo_152 ji_Mo_sub js_Mo_sub hN_30.ob rfl rfl rfl (Nat.le_of_ble_eq_true rfl) (by decide) (by decide) (u_Mo_sub hN_30 (by decide) (by decide) (by decide) r_31 vN_30) (fun r M_32 hq => ?_)
  obtain ⟨rfl, E_32, hE_32, vr_32, ke_32, kp_32⟩ := hq
  have hN_32 := RE.nrm (c := 1159843021668779879193775521855586647937357759715417654439879720876111806838) hE_32 vr_32 (eqP.em.mpr (by decide +kernel))
  have kN_32 : KE [6] F_30 (up E_32 6 1159843021668779879193775521855586647937357759715417654439879720876111806838) := ke_nrm ke_32 (by decide)
  have vN_32 : (up E_32 6 1159843021668779879193775521855586647937357759715417654439879720876111806838) 6 = 1159843021668779879193775521855586647937357759715417654439879720876111806838 := up_self _ _ _
  obtain ⟨F_32, eF_32⟩ : ∃ F, F = up E_32 6 1159843021668779879193775521855586647937357759715417654439879720876111806838 := ⟨_, rfl⟩
  rw [← eF_32] at hN_32 kN_32 vN_32
  clear eF_32
  refine T_eq (pc' := 138) (L' := [(0, .ref 373)]) (st' := []) (M' := M_32) rfl rfl rfl rfl ?_
  refine T_aload_n (v := .ref 373) d_Mo_constants_138 rfl (Or.inr ⟨_, rfl⟩) ?_
  refine T_bipush (v := nI 60) d_Mo_constants_139 (by decide) ?_
  refine T_iconst (v := nI 2) d_Mo_constants_141 (by decide) ?_
  refine T_iconst (v := nI 1) d_Mo_constants_142 (by decide) ?_
  have r_33 := (kN_32 2 (by decide)).trans ((kN_30 2 (by decide)).trans (r_29))
  have r_34 := (kN_32 1 (by decide)).trans (r_31)
  refine T_virtual (as := [.int (nI 60), .int (nI 2), .int (nI 1)]) (rest := []) (b := 373) d_Mo_constants_143 rfl (jw_Mo_sub.jo (by decide)) lm_Mo_152 ji_Mo_sub js_Mo_sub hN_32.ob rfl rfl rfl (Nat.le_of_ble_eq_true rfl) (by decide) (by decide) (u_Mo_sub hN_32 (by decide) (by decide) (by decide) r_33 r_34) (fun r M_35 hq => ?_)
  obtain ⟨rfl, E_35, hE_35, vr_35, ke_35, kp_35⟩ := hq
  have hN_35 := RE.nrm (c := 37095705934669439343138083508754565189542113879843219016388785533085940283554) hE_35 vr_35 (eqP.em.mpr (by decide +kernel))
  have kN_35 : KE [60] F_32 (up E_35 60 37095705934669439343138083508754565189542113879843219016388785533085940283554) := ke_nrm ke_35 (by decide)
  have vN_35 : (up E_35 60 37095705934669439343138083508754565189542113879843219016388785533085940283554) 60 = 37095705934669439343138083508754565189542113879843219016388785533085940283554 := up_self _ _ _
  obtain ⟨F_35, eF_35⟩ : ∃ F, F = up E_35 60 37095705934669439343138083508754565189542113879843219016388785533085940283554 := ⟨_, rfl⟩
  rw [← eF_35] at hN_35 kN_35 vN_35
  clear eF_35
  refine T_eq (pc' := 146) (L' := [(0, .ref 373)]) (st' := []) (M' := M_35) rfl rfl rfl rfl ?_
  refine T_aload_n (v := .ref 373) d_Mo_constants_146 rfl (Or.inr ⟨_, rfl⟩) ?_
  refine T_bipush (v := nI 7) d_Mo_constants_147 (by decide) ?_
  refine T_bipush (v := nI 60) d_Mo_constants_149 (by decide) ?_
  refine T_bipush (v := nI 60) d_Mo_constants_151 (by decide) ?_
  refine T_virtual (as := [.int (nI 7), .int (nI 60), .int (nI 60)]) (rest := []) (b := 373) d_Mo_constants_153 rfl (jw_Mo_mul.jo (by decide)) lm_Mo_163 ji_Mo_mul js_Mo_mul hN_35.ob rfl rfl rfl (Nat.le_of_ble_eq_true rfl) (by decide) (by decide) (u_Mo_mul hN_35 (by decide) (by decide) (by decide) vN_35 vN_35) (fun r M_36 hq => ?_)
  obtain ⟨rfl, E_36, hE_36, vr_36, ke_36, kp_36⟩ := hq
  have hN_36 := RE.nrm (c := 40440834346308536858101042469323190826248399146238708352240133220865137265952) hE_36 vr_36 (eqP.em.mpr (by decide +kernel))
  have kN_36 : KE [7] F_35 (up E_36 7 40440834346308536858101042469323190826248399146238708352240133220865137265952) := ke_nrm ke_36 (by decide)
  have vN_36 : (up E_36 7 40440834346308536858101042469323190826248399146238708352240133220865137265952) 7 = 40440834346308536858101042469323190826248399146238708352240133220865137265952 := up_self _ _ _
  obtain ⟨F_36, eF_36⟩ : ∃ F, F = up E_36 7 40440834346308536858101042469323190826248399146238708352240133220865137265952 := ⟨_, rfl⟩
  rw [← eF_36] at hN_36 kN_36 vN_36
  clear eF_36
  refine T_eq (pc' := 156) (L' := [(0, .ref 373)]) (st' := []) (M' := M_36) rfl rfl rfl rfl ?_
  refine T_aload_n (v := .ref 373) d_Mo_constants_156 rfl (Or.inr ⟨_, rfl⟩) ?_
  refine T_bipush (v := nI 60) d_Mo_constants_157 (by decide) ?_
  refine T_iconst (v := nI 5) d_Mo_constants_159 (by decide) ?_
  refine T_virtual (as := [.int (nI 60), .int (nI 5)]) (rest := []) (b := 373) d_Mo_constants_160 rfl (jw_Mo_small.jo (by decide)) lm_Mo_179 ji_Mo_small js_Mo_small hN_36.ob rfl rfl rfl (Nat.le_of_ble_eq_true rfl) (by decide) (by decide) (u_Mo_small hN_36 (by decide) (c := 5) (x := 5) (by decide)) (fun r M_37 hq => ?_)
  obtain ⟨rfl, E_37, hE_37, vr_37, ke_37, kp_37⟩ := hq
  have hN_37 := RE.nrm (c := 5) hE_37 vr_37 (eqP.rf _)
  have kN_37 : KE [60] F_36 (up E_37 60 5) := ke_nrm ke_37 (by decide)
  have vN_37 : (up E_37 60 5) 60 = 5 := up_self _ _ _
  obtain ⟨F_37, eF_37⟩ : ∃ F, F = up E_37 60 5 := ⟨_, rfl⟩
  rw [← eF_37] at hN_37 kN_37 vN_37
  clear eF_37
  refine T_eq (pc' := 163) (L' := [(0, .ref 373)]) (st' := []) (M' := M_37) rfl rfl rfl rfl ?_
  refine T_aload_n (v := .ref 373) d_Mo_constants_163 rfl (Or.inr ⟨_, rfl⟩) ?_
  refine T_bipush (v := nI 59) d_Mo_constants_164 (by decide) ?_
  refine T_bipush (v := nI 60) d_Mo_constants_166 (by decide) ?_
  refine T_virtual (as := [.int (nI 59), .int (nI 60)]) (rest := []) (b := 373) d_Mo_constants_168 rfl (jw_Mo_invert.jo (by decide)) lm_Mo_220 ji_Mo_invert js_Mo_invert hN_37.ob rfl rfl rfl (Nat.le_of_ble_eq_true rfl) (by decide) (by decide) (u_Mo_invert hN_37 (by decide) (by decide) vN_37) (fun r M_38 hq => ?_)
  obtain ⟨rfl, E_38, hE_38, vr_38, ke_38, kp_38⟩ := hq
  have hN_38 := RE.nrm (c := 11579208923731619542357098500868790785326998466564056403945758400791312963990) hE_38 vr_38 (pw_c (x := 5) (k := 256) (c := 11579208923731619542357098500868790785326998466564056403945758400791312963990) (eqP.rf _) (by decide +kernel) (by decide +kernel))
  have kN_38 : KE [59, 61] F_37 (up E_38 59 11579208923731619542357098500868790785326998466564056403945758400791312963990) := ke_nrm ke_38 (by decide)
  have vN_38 : (up E_38 59 11579208923731619542357098500868790785326998466564056403945758400791312963990) 59 = 11579208923731619542357098500868790785326998466564056403945758400791312963990 := up_self _ _ _
  obtain ⟨F_38, eF_38⟩ : ∃ F, F = up E_38 59 11579208923731619542357098500868790785326998466564056403945758400791312963990 := ⟨_, rfl⟩
  rw [← eF_38] at hN_38 kN_38 vN_38
  clear eF_38
  refine T_eq (pc' := 171) (L' := [(0, .ref 373)]) (st' := []) (M' := M_38) rfl rfl rfl rfl ?_
  refine T_aload_n (v := .ref 373) d_Mo_constants_171 rfl (Or.inr ⟨_, rfl⟩) ?_
  refine T_bipush (v := nI 60) d_Mo_constants_172 (by decide) ?_
  refine T_iconst (v := nI 4) d_Mo_constants_174 (by decide) ?_
  refine T_virtual (as := [.int (nI 60), .int (nI 4)]) (rest := []) (b := 373) d_Mo_constants_175 rfl (jw_Mo_small.jo (by decide)) lm_Mo_179 ji_Mo_small js_Mo_small hN_38.ob rfl rfl rfl (Nat.le_of_ble_eq_true rfl) (by decide) (by decide) (u_Mo_small hN_38 (by decide) (c := 4) (x := 4) (by decide)) (fun r M_39 hq => ?_)
  obtain ⟨rfl, E_39, hE_39, vr_39, ke_39, kp_39⟩ := hq
  have hN_39 := RE.nrm (c := 4) hE_39 vr_39 (eqP.rf _)
  have kN_39 : KE [60] F_38 (up E_39 60 4) := ke_nrm ke_39 (by decide)
  have vN_39 : (up E_39 60 4) 60 = 4 := up_self _ _ _
  obtain ⟨F_39, eF_39⟩ : ∃ F, F = up E_39 60 4 := ⟨_, rfl⟩
  rw [← eF_39] at hN_39 kN_39 vN_39
  clear eF_39
  refine T_eq (pc' := 178) (L' := [(0, .ref 373)]) (st' := []) (M' := M_39) rfl rfl rfl rfl ?_
  refine T_aload_n (v := .ref 373) d_Mo_constants_178 rfl (Or.inr ⟨_, rfl⟩) ?_
  refine T_bipush (v := nI 9) d_Mo_constants_179 (by decide) ?_
  refine T_bipush (v := nI 59) d_Mo_constants_181 (by decide) ?_
  refine T_bipush (v := nI 60) d_Mo_constants_183 (by decide) ?_
  have r_40 := (kN_39 59 (by decide)).trans (vN_38)
  refine T_virtual (as := [.int (nI 9), .int (nI 59), .int (nI 60)]) (rest := []) (b := 373) d_Mo_constants_185 rfl (jw_Mo_mul.jo (by decide)) lm_Mo_163 ji_Mo_mul js_Mo_mul hN_39.ob rfl rfl rfl (Nat.le_of_ble_eq_true rfl) (by decide) (by decide) (u_Mo_mul hN_39 (by decide) (by decide) (by decide) r_40 vN_39) (fun r M_41 hq => ?_)
  obtain ⟨rfl, E_41, hE_41, vr_41, ke_41, kp_41⟩ := hq
  have hN_41 := RE.nrm (c := 46316835694926478169428394003475163141307993866256225615783033603165251855960) hE_41 vr_41 (eqP.em.mpr (by decide +kernel))
  have kN_41 : KE [9] F_39 (up E_41 9 46316835694926478169428394003475163141307993866256225615783033603165251855960) := ke_nrm ke_41 (by decide)
  have vN_41 : (up E_41 9 46316835694926478169428394003475163141307993866256225615783033603165251855960) 9 = 46316835694926478169428394003475163141307993866256225615783033603165251855960 := up_self _ _ _
  obtain ⟨F_41, eF_41⟩ : ∃ F, F = up E_41 9 46316835694926478169428394003475163141307993866256225615783033603165251855960 := ⟨_, rfl⟩
  rw [← eF_41] at hN_41 kN_41 vN_41
  clear eF_41
  refine T_eq (pc' := 188) (L' := [(0, .ref 373)]) (st' := []) (M' := M_41) rfl rfl rfl rfl ?_
  refine T_aload_n (v := .ref 373) d_Mo_constants_188 rfl (Or.inr ⟨_, rfl⟩) ?_
  refine T_bipush (v := nI 57) d_Mo_constants_189 (by decide) ?_
  refine T_bipush (v := nI 9) d_Mo_constants_191 (by decide) ?_
  refine T_bipush (v := nI 9) d_Mo_constants_193 (by decide) ?_
  refine T_virtual (as := [.int (nI 57), .int (nI 9), .int (nI 9)]) (rest := []) (b := 373) d_Mo_constants_195 rfl (jw_Mo_mul.jo (by decide)) lm_Mo_163 ji_Mo_mul js_Mo_mul hN_41.ob rfl rfl rfl (Nat.le_of_ble_eq_true rfl) (by decide) (by decide) (u_Mo_mul hN_41 (by decide) (by decide) (by decide) vN_41 vN_41) (fun r M_42 hq => ?_)
  obtain ⟨rfl, E_42, hE_42, vr_42, ke_42, kp_42⟩ := hq
  have hN_42 := RE.nrm (c := 37053468555941182535542715202780130513046395093004980492626426882532201484768) hE_42 vr_42 (eqP.em.mpr (by decide +kernel))
  have kN_42 : KE [57] F_41 (up E_42 57 37053468555941182535542715202780130513046395093004980492626426882532201484768) := ke_nrm ke_42 (by decide)
  have vN_42 : (up E_42 57 37053468555941182535542715202780130513046395093004980492626426882532201484768) 57 = 37053468555941182535542715202780130513046395093004980492626426882532201484768 := up_self _ _ _
  obtain ⟨F_42, eF_42⟩ : ∃ F, F = up E_42 57 37053468555941182535542715202780130513046395093004980492626426882532201484768 := ⟨_, rfl⟩
  rw [← eF_42] at hN_42 kN_42 vN_42
  clear eF_42
  refine T_eq (pc' := 198) (L' := [(0, .ref 373)]) (st' := []) (M' := M_42) rfl rfl rfl rfl ?_
  refine T_aload_n (v := .ref 373) d_Mo_constants_198 rfl (Or.inr ⟨_, rfl⟩) ?_
  refine T_bipush (v := nI 58) d_Mo_constants_199 (by decide) ?_
  refine T_bipush (v := nI 57) d_Mo_constants_201 (by decide) ?_
  refine T_iconst (v := nI 1) d_Mo_constants_203 (by decide) ?_
  have r_43 := (kN_42 1 (by decide)).trans ((kN_41 1 (by decide)).trans ((kN_39 1 (by decide)).trans ((kN_38 1 (by decide)).trans ((kN_37 1 (by decide)).trans ((kN_36 1 (by decide)).trans ((kN_35 1 (by decide)).trans (r_34)))))))
  refine T_virtual (as := [.int (nI 58), .int (nI 57), .int (nI 1)]) (rest := []) (b := 373) d_Mo_constants_204 rfl (jw_Mo_sub.jo (by decide)) lm_Mo_152 ji_Mo_sub js_Mo_sub hN_42.ob rfl rfl rfl (Nat.le_of_ble_eq_true rfl) (by decide) (by decide) (u_Mo_sub hN_42 (by decide) (by decide) (by decide) vN_42 r_43) (fun r M_44 hq => ?_)
  obtain ⟨rfl, E_44, hE_44, vr_44, ke_44, kp_44⟩ := hq
  have hN_44 := RE.nrm (c := 37053468555941182535542715202780130513046395093004980492626426882532201484767) hE_44 vr_44 (eqP.em.mpr (by decide +kernel))
  have kN_44 : KE [58] F_42 (up E_44 58 37053468555941182535542715202780130513046395093004980492626426882532201484767) := ke_nrm ke_44 (by decide)
  have vN_44 : (up E_44 58 37053468555941182535542715202780130513046395093004980492626426882532201484767) 58 = 37053468555941182535542715202780130513046395093004980492626426882532201484767 := up_self _ _ _
  obtain ⟨F_44, eF_44⟩ : ∃ F, F = up E_44 58 37053468555941182535542715202780130513046395093004980492626426882532201484767 := ⟨_, rfl⟩
  rw [← eF_44] at hN_44 kN_44 vN_44
  clear eF_44
  refine T_eq (pc' := 207) (L' := [(0, .ref 373)]) (st' := []) (M' := M_44) rfl rfl rfl rfl ?_
  refine T_aload_n (v := .ref 373) d_Mo_constants_207 rfl (Or.inr ⟨_, rfl⟩) ?_
  refine T_bipush (v := nI 57) d_Mo_constants_208 (by decide) ?_
  refine T_bipush (v := nI 57) d_Mo_constants_210 (by decide) ?_
  refine T_iconst (v := nI 2) d_Mo_constants_212 (by decide) ?_
  have r_45 := (kN_44 57 (by decide)).trans (vN_42)
  have r_46 := (kN_44 2 (by decide)).trans ((kN_42 2 (by decide)).trans ((kN_41 2 (by decide)).trans ((kN_39 2 (by decide)).trans ((kN_38 2 (by decide)).trans ((kN_37 2 (by decide)).trans ((kN_36 2 (by decide)).trans ((kN_35 2 (by decide)).trans (r_33))))))))
  refine T_virtual (as := [.int (nI 57), .int (nI 57), .int (nI 2)]) (rest := []) (b := 373) d_Mo_constants_213 rfl (jw_Mo_mul.jo (by decide)) lm_Mo_163 ji_Mo_mul js_Mo_mul hN_44.ob rfl rfl rfl (Nat.le_of_ble_eq_true rfl) (by decide) (by decide) (u_Mo_mul hN_44 (by decide) (by decide) (by decide) r_45 r_46) (fun r M_47 hq => ?_)
  obtain ⟨rfl, E_47, hE_47, vr_47, ke_47, kp_47⟩ := hq
  have hN_47 := RE.nrm (c := 35320460721920060721965471946471712506633951349663716574434581141966314745465) hE_47 vr_47 (eqP.em.mpr (by decide +kernel))
  have kN_47 : KE [57] F_44 (up E_47 57 35320460721920060721965471946471712506633951349663716574434581141966314745465) := ke_nrm ke_47 (by decide)
  have vN_47 : (up E_47 57 35320460721920060721965471946471712506633951349663716574434581141966314745465) 57 = 35320460721920060721965471946471712506633951349663716574434581141966314745465 := up_self _ _ _
  obtain ⟨F_47, eF_47⟩ : ∃ F, F = up E_47 57 35320460721920060721965471946471712506633951349663716574434581141966314745465 := ⟨_, rfl⟩
  rw [← eF_47] at hN_47 kN_47 vN_47
  clear eF_47
  refine T_eq (pc' := 216) (L' := [(0, .ref 373)]) (st' := []) (M' := M_47) rfl rfl rfl rfl ?_
  refine T_aload_n (v := .ref 373) d_Mo_constants_216 rfl (Or.inr ⟨_, rfl⟩) ?_
  refine T_bipush (v := nI 57) d_Mo_constants_217 (by decide) ?_
  refine T_bipush (v := nI 57) d_Mo_constants_219 (by decide) ?_
  refine T_iconst (v := nI 1) d_Mo_constants_221 (by decide) ?_
  have r_48 := (kN_47 1 (by decide)).trans ((kN_44 1 (by decide)).trans (r_43))
  refine T_virtual (as := [.int (nI 57), .int (nI 57), .int (nI 1)]) (rest := []) (b := 373) d_Mo_constants_222 rfl (jw_Mo_add.jo (by decide)) lm_Mo_182 ji_Mo_add js_Mo_add hN_47.ob rfl rfl rfl (Nat.le_of_ble_eq_true rfl) (by decide) (by decide) (u_Mo_add hN_47 (by decide) (by decide) (by decide) vN_47 r_48) (fun r M_49 hq => ?_)
  obtain ⟨rfl, E_49, hE_49, vr_49, ke_49, kp_49⟩ := hq
  have hN_49 := RE.nrm (c := 35320460721920060721965471946471712506633951349663716574434581141966314745466) hE_49 vr_49 (eqP.em.mpr (by decide +kernel))
  have kN_49 : KE [57] F_47 (up E_49 57 35320460721920060721965471946471712506633951349663716574434581141966314745466) := ke_nrm ke_49 (by decide)
  have vN_49 : (up E_49 57 35320460721920060721965471946471712506633951349663716574434581141966314745466) 57 = 35320460721920060721965471946471712506633951349663716574434581141966314745466 := up_self _ _ _
  obtain ⟨F_49, eF_49⟩ : ∃ F, F = up E_49 57 35320460721920060721965471946471712506633951349663716574434581141966314745466 := ⟨_, rfl⟩
  rw [← eF_49] at hN_49 kN_49 vN_49
  clear eF_49
  refine T_eq (pc' := 225) (L' := [(0, .ref 373)]) (st' := []) (M' := M_49) rfl rfl rfl rfl ?_
  refine T_aload_n (v := .ref 373) d_Mo_constants_225 rfl (Or.inr ⟨_, rfl⟩) ?_
  refine T_bipush (v := nI 8) d_Mo_constants_226 (by decide) ?_
  refine T_bipush (v := nI 58) d_Mo_constants_228 (by decide) ?_
  refine T_bipush (v := nI 57) d_Mo_constants_230 (by decide) ?_
  have r_50 := (kN_49 58 (by decide)).trans ((kN_47 58 (by decide)).trans (vN_44))
  have r_52 := (kN_49 0 (by decide)).trans ((kN_47 0 (by decide)).trans ((kN_44 0 (by decide)).trans ((kN_42 0 (by decide)).trans ((kN_41 0 (by decide)).trans ((kN_39 0 (by decide)).trans ((kN_38 0 (by decide)).trans ((kN_37 0 (by decide)).trans ((kN_36 0 (by decide)).trans ((kN_35 0 (by decide)).trans ((kN_32 0 (by decide)).trans ((kN_30 0 (by decide)).trans ((kN_28 0 (by decide)).trans (r_26)))))))))))))
  have r_53 := (kN_49 3 (by decide)).trans ((kN_47 3 (by decide)).trans ((kN_44 3 (by decide)).trans ((kN_42 3 (by decide)).trans ((kN_41 3 (by decide)).trans ((kN_39 3 (by decide)).trans ((kN_38 3 (by decide)).trans ((kN_37 3 (by decide)).trans ((kN_36 3 (by decide)).trans ((kN_35 3 (by decide)).trans ((kN_32 3 (by decide)).trans ((kN_30 3 (by decide)).trans ((kN_28 3 (by decide)).trans ((ke_25 3 (by decide)).trans ((kN_22 3 (by decide)).trans (r_24)))))))))))))))
  refine T_virtual (as := [.int (nI 8), .int (nI 58), .int (nI 57)]) (rest := []) (b := 373) d_Mo_constants_232 rfl (jw_Mo_root.jo (by decide)) lm_Mo_197 ji_Mo_root js_Mo_root hN_49.ob rfl rfl rfl (Nat.le_of_ble_eq_true rfl) (by decide) (by decide) (u_Mo_root hN_49 r_52 ((r_53).trans (by decide)) (by decide) (by decide) (by decide) (by decide) (by decide) r_50 vN_49) (fun r M_51 hq => ?_)
  obtain ⟨rfl, E_51, hE_51, vr_51, ke_51, kp_51⟩ := hq
  have hN_51 := RE.nrm (c := 15112221349535400772501151409588531511454012693041857206046113283949847762202) hE_51 vr_51 (rt_c (e := 0) (x := 2861453323427594548699152106119760322257416108237569298356087714518206905866) (a := 42783823269122696939284341094755422415180979639778424813682678720006717057747) (b := 42783823269122696939284341094755422415180979639778424813682678720006717057747) (pw_c (x := 18189699356559595304116201316681778032337163264184497769900127213676350427144) (k := 256) (c := 2861453323427594548699152106119760322257416108237569298356087714518206905866) (eqP.em.mpr (by decide +kernel)) (by decide +kernel) (by decide +kernel)) (by decide +kernel) (by decide +kernel) (by decide +kernel) rfl)
  have kN_51 : KE [8, 50, 51, 52, 53, 54, 55, 56, 61, 62, 63] F_49 (up E_51 8 15112221349535400772501151409588531511454012693041857206046113283949847762202) := ke_nrm ke_51 (by decide)
  have vN_51 : (up E_51 8 15112221349535400772501151409588531511454012693041857206046113283949847762202) 8 = 15112221349535400772501151409588531511454012693041857206046113283949847762202 := up_self _ _ _
  obtain ⟨F_51, eF_51⟩ : ∃ F, F = up E_51 8 15112221349535400772501151409588531511454012693041857206046113283949847762202 := ⟨_, rfl⟩
  rw [← eF_51] at hN_51 kN_51 vN_51
  clear eF_51
  refine T_eq (pc' := 235) (L' := [(0, .ref 373)]) (st' := [.int (nI (rtG 37053468555941182535542715202780130513046395093004980492626426882532201484767 35320460721920060721965471946471712506633951349663716574434581141966314745466))]) (M' := M_51) rfl rfl rfl rfl ?_
  refine T_pop d_Mo_constants_235 rfl ?_
  refine T_aload_n (v := .ref 373) d_Mo_constants_236 rfl (Or.inr ⟨_, rfl⟩) ?_
  refine T_bipush (v := nI 10) d_Mo_constants_237 (by decide) ?_
  refine T_iconst (v := nI 1) d_Mo_constants_239 (by decide) ?_
  refine T_virtual (as := [.int (nI 10), .int (nI 1)]) (rest := []) (b := 373) d_Mo_constants_240 rfl (jw_Mo_small.jo (by decide)) lm_Mo_179 ji_Mo_small js_Mo_small hN_51.ob rfl rfl rfl (Nat.le_of_ble_eq_true rfl) (by decide) (by decide) (u_Mo_small hN_51 (by decide) (c := 1) (x := 1) (by decide)) (fun r M_54 hq => ?_)
  obtain ⟨rfl, E_54, hE_54, vr_54, ke_54, kp_54⟩ := hq
  have hN_54 := RE.nrm (c := 1) hE_54 vr_54 (eqP.rf _)
  have kN_54 : KE [10] F_51 (up E_54 10 1) := ke_nrm ke_54 (by decide)
  have vN_54 : (up E_54 10 1) 10 = 1 := up_self _ _ _
  obtain ⟨F_54, eF_54⟩ : ∃ F, F = up E_54 10 1 := ⟨_, rfl⟩
  rw [← eF_54] at hN_54 kN_54 vN_54
  clear eF_54
  refine T_eq (pc' := 243) (L' := [(0, .ref 373)]) (st' := []) (M' := M_54) rfl rfl rfl rfl ?_
  refine T_aload_n (v := .ref 373) d_Mo_constants_243 rfl (Or.inr ⟨_, rfl⟩) ?_
  refine T_bipush (v := nI 11) d_Mo_constants_244 (by decide) ?_
  refine T_bipush (v := nI 8) d_Mo_constants_246 (by decide) ?_
  refine T_bipush (v := nI 9) d_Mo_constants_248 (by decide) ?_
  have r_55 := (kN_54 8 (by decide)).trans (vN_51)
  have r_56 := (kN_54 9 (by decide)).trans ((kN_51 9 (by decide)).trans ((kN_49 9 (by decide)).trans ((kN_47 9 (by decide)).trans ((kN_44 9 (by decide)).trans ((kN_42 9 (by decide)).trans (vN_41))))))
  refine T_virtual (as := [.int (nI 11), .int (nI 8), .int (nI 9)]) (rest := []) (b := 373) d_Mo_constants_250 rfl (jw_Mo_mul.jo (by decide)) lm_Mo_163 ji_Mo_mul js_Mo_mul hN_54.ob rfl rfl rfl (Nat.le_of_ble_eq_true rfl) (by decide) (by decide) (u_Mo_mul hN_54 (by decide) (by decide) (by decide) r_55 r_56) (fun r M_57 hq => ?_)
  obtain ⟨rfl, E_57, hE_57, vr_57, ke_57, kp_57⟩ := hq
  have hN_57 := RE.nrm (c := 46827403850823179245072216630277197565144205554125654976674165829533817101731) hE_57 vr_57 (eqP.em.mpr (by decide +kernel))
  have kN_57 : KE [11] F_54 (up E_57 11 46827403850823179245072216630277197565144205554125654976674165829533817101731) := ke_nrm ke_57 (by decide)
  have vN_57 : (up E_57 11 46827403850823179245072216630277197565144205554125654976674165829533817101731) 11 = 46827403850823179245072216630277197565144205554125654976674165829533817101731 := up_self _ _ _
  obtain ⟨F_57, eF_57⟩ : ∃ F, F = up E_57 11 46827403850823179245072216630277197565144205554125654976674165829533817101731 := ⟨_, rfl⟩
  rw [← eF_57] at hN_57 kN_57 vN_57
  clear eF_57
  refine T_eq (pc' := 253) (L' := [(0, .ref 373)]) (st' := []) (M' := M_57) rfl rfl rfl rfl ?_
  have r_58 := (kN_57 0 (by decide)).trans ((kN_54 0 (by decide)).trans ((kN_51 0 (by decide)).trans (r_52)))
  have r_59 := (kN_57 1 (by decide)).trans ((kN_54 1 (by decide)).trans ((kN_51 1 (by decide)).trans ((kN_49 1 (by decide)).trans (r_48))))
  have r_60 := (kN_57 2 (by decide)).trans ((kN_54 2 (by decide)).trans ((kN_51 2 (by decide)).trans ((kN_49 2 (by decide)).trans ((kN_47 2 (by decide)).trans (r_46)))))
  have r_61 := (kN_57 3 (by decide)).trans ((kN_54 3 (by decide)).trans ((kN_51 3 (by decide)).trans (r_53)))
  have r_62 := (kN_57 4 (by decide)).trans ((kN_54 4 (by decide)).trans ((kN_51 4 (by decide)).trans ((kN_49 4 (by decide)).trans ((kN_47 4 (by decide)).trans ((kN_44 4 (by decide)).trans ((kN_42 4 (by decide)).trans ((kN_41 4 (by decide)).trans ((kN_39 4 (by decide)).trans ((kN_38 4 (by decide)).trans ((kN_37 4 (by decide)).trans ((kN_36 4 (by decide)).trans ((kN_35 4 (by decide)).trans ((kN_32 4 (by decide)).trans ((kN_30 4 (by decide)).trans ((kN_28 4 (by decide)).trans ((ke_25 4 (by decide)).trans ((kN_22 4 (by decide)).trans (vN_17))))))))))))))))))
  have r_63 := (kN_57 5 (by decide)).trans ((kN_54 5 (by decide)).trans ((kN_51 5 (by decide)).trans ((kN_49 5 (by decide)).trans ((kN_47 5 (by decide)).trans ((kN_44 5 (by decide)).trans ((kN_42 5 (by decide)).trans ((kN_41 5 (by decide)).trans ((kN_39 5 (by decide)).trans ((kN_38 5 (by decide)).trans ((kN_37 5 (by decide)).trans ((kN_36 5 (by decide)).trans ((kN_35 5 (by decide)).trans ((kN_32 5 (by decide)).trans ((kN_30 5 (by decide)).trans (vN_28)))))))))))))))
  have r_64 := (kN_57 6 (by decide)).trans ((kN_54 6 (by decide)).trans ((kN_51 6 (by decide)).trans ((kN_49 6 (by decide)).trans ((kN_47 6 (by decide)).trans ((kN_44 6 (by decide)).trans ((kN_42 6 (by decide)).trans ((kN_41 6 (by decide)).trans ((kN_39 6 (by decide)).trans ((kN_38 6 (by decide)).trans ((kN_37 6 (by decide)).trans ((kN_36 6 (by decide)).trans ((kN_35 6 (by decide)).trans (vN_32)))))))))))))
  have r_65 := (kN_57 7 (by decide)).trans ((kN_54 7 (by decide)).trans ((kN_51 7 (by decide)).trans ((kN_49 7 (by decide)).trans ((kN_47 7 (by decide)).trans ((kN_44 7 (by decide)).trans ((kN_42 7 (by decide)).trans ((kN_41 7 (by decide)).trans ((kN_39 7 (by decide)).trans ((kN_38 7 (by decide)).trans ((kN_37 7 (by decide)).trans (vN_36)))))))))))
  have r_66 := (kN_57 8 (by decide)).trans (r_55)
  have r_67 := (kN_57 9 (by decide)).trans (r_56)
  have r_68 := (kN_57 10 (by decide)).trans (vN_54)
  exact T_vret d_Mo_constants_253 rfl (by decide) (by decide) ⟨rfl, F_57, hN_57, ⟨(r_58).trans (by decide), (r_59).trans (by decide), (r_60).trans (by decide), (r_61).trans (by decide), (r_62).trans (by decide), (r_63).trans (by decide), (r_64).trans (by decide), (r_65).trans (by decide), (r_66).trans (by decide), (r_67).trans (by decide), (r_68).trans (by decide), (vN_57).trans (by decide)⟩, (Kp.tr (Kp.tr (Kp.tr (Kp.tr (Kp.tr (Kp.tr (Kp.tr (Kp.tr (Kp.tr (Kp.tr (Kp.tr (Kp.tr (Kp.tr (Kp.tr (Kp.tr (Kp.tr (Kp.tr (Kp.tr (Kp.tr (Kp.tr (Kp.tr (Kp.tr (Kp.tr (Kp.tr (Kp.tr (Kp.tr (Kp.tr (Kp.tr (Kp.tr (Kp.tr (Kp.rf : Kp [390, 391, 392, 393, 394] M M) (Kp.mono kp_1 (by decide))) (Kp.mono kp_2 (by decide))) (Kp.mono kp_3 (by decide))) (Kp.mono kp_4 (by decide))) (Kp.mono kp_5 (by decide))) (Kp.mono kp_6 (by decide))) (Kp.mono kp_7 (by decide))) (Kp.mono kp_9 (by decide))) (Kp.mono kp_11 (by decide))) (Kp.mono kp_13 (by decide))) (Kp.mono kp_15 (by decide))) (Kp.mono kp_17 (by decide))) (Kp.mono kp_22 (by decide))) (Kp.mono kp_25 (by decide))) (Kp.mono kp_28 (by decide))) (Kp.mono kp_30 (by decide))) (Kp.mono kp_32 (by decide))) (Kp.mono kp_35 (by decide))) (Kp.mono kp_36 (by decide))) (Kp.mono kp_37 (by decide))) (Kp.mono kp_38 (by decide))) (Kp.mono kp_39 (by decide))) (Kp.mono kp_41 (by decide))) (Kp.mono kp_42 (by decide))) (Kp.mono kp_44 (by decide))) (Kp.mono kp_47 (by decide))) (Kp.mono kp_49 (by decide))) (Kp.mono kp_51 (by decide))) (Kp.mono kp_54 (by decide))) (Kp.mono kp_57 (by decide)))⟩
set_option maxHeartbeats 8000000 in
theorem u_Mo_order {G : GX} {M : List va_E} {v : Nat → Int32} (ho : M[373]? = some (moO v)) (hq : M[396]? = some (lr 17 fun _ => 0)) : CT G mi_Mo_order [.ref 373] M (fun r M' => r = none ∧ (∃ f, M'[396]? = some (lr 17 f) ∧ ∀ t, t < 17 → f t = qL t) ∧ Kp [396] M M') := by
  refine CT.of (by decide) (Nat.le_of_ble_eq_true rfl) ?_
  show TT G mi_Mo_order 0 [(0, .ref 373)] [] M 0 0 _
  refine T_aload_n (v := .ref 373) d_Mo_order_0 rfl (Or.inr ⟨_, rfl⟩) ?_
  refine T_getfield (v := .ref 396) d_Mo_order_1 fg_Mo_224 ho rfl ?_
  refine T_iconst (v := nI 0) d_Mo_order_4 (by decide) ?_
  refine T_ldc2 d_Mo_order_5 kJ_Mo_227 ?_
  refine N_lastore (k := 0) d_Mo_order_8 (by decide) hq (by omega) (by decide) rfl (fun M_1 h_2 s_3 => ?_)
  refine T_aload_n (v := .ref 373) d_Mo_order_9 rfl (Or.inr ⟨_, rfl⟩) ?_
  have h_4 := (s_3 373 (by decide)).trans (ho)
  refine T_getfield (v := .ref 396) d_Mo_order_10 fg_Mo_224 h_4 rfl ?_
  refine T_iconst (v := nI 1) d_Mo_order_13 (by decide) ?_
  refine T_ldc2 d_Mo_order_14 kJ_Mo_229 ?_
  refine N_lastore (k := 1) d_Mo_order_17 (by decide) h_2 (by omega) (by decide) rfl (fun M_5 h_6 s_7 => ?_)
  refine T_aload_n (v := .ref 373) d_Mo_order_18 rfl (Or.inr ⟨_, rfl⟩) ?_
  have h_8 := (s_7 373 (by decide)).trans (h_4)
  refine T_getfield (v := .ref 396) d_Mo_order_19 fg_Mo_224 h_8 rfl ?_
  refine T_iconst (v := nI 2) d_Mo_order_22 (by decide) ?_
  refine T_ldc2 d_Mo_order_23 kJ_Mo_231 ?_
  refine N_lastore (k := 2) d_Mo_order_26 (by decide) h_6 (by omega) (by decide) rfl (fun M_9 h_10 s_11 => ?_)
  refine T_aload_n (v := .ref 373) d_Mo_order_27 rfl (Or.inr ⟨_, rfl⟩) ?_
  have h_12 := (s_11 373 (by decide)).trans (h_8)
  refine T_getfield (v := .ref 396) d_Mo_order_28 fg_Mo_224 h_12 rfl ?_
  refine T_iconst (v := nI 3) d_Mo_order_31 (by decide) ?_
  refine T_ldc2 d_Mo_order_32 kJ_Mo_233 ?_
  refine N_lastore (k := 3) d_Mo_order_35 (by decide) h_10 (by omega) (by decide) rfl (fun M_13 h_14 s_15 => ?_)
  refine T_aload_n (v := .ref 373) d_Mo_order_36 rfl (Or.inr ⟨_, rfl⟩) ?_
  have h_16 := (s_15 373 (by decide)).trans (h_12)
  refine T_getfield (v := .ref 396) d_Mo_order_37 fg_Mo_224 h_16 rfl ?_
  refine T_iconst (v := nI 4) d_Mo_order_40 (by decide) ?_
  refine T_ldc2 d_Mo_order_41 kJ_Mo_235 ?_
  refine N_lastore (k := 4) d_Mo_order_44 (by decide) h_14 (by omega) (by decide) rfl (fun M_17 h_18 s_19 => ?_)
  refine T_aload_n (v := .ref 373) d_Mo_order_45 rfl (Or.inr ⟨_, rfl⟩) ?_
  have h_20 := (s_19 373 (by decide)).trans (h_16)
  refine T_getfield (v := .ref 396) d_Mo_order_46 fg_Mo_224 h_20 rfl ?_
  refine T_iconst (v := nI 5) d_Mo_order_49 (by decide) ?_
  refine T_ldc2 d_Mo_order_50 kJ_Mo_237 ?_
  refine N_lastore (k := 5) d_Mo_order_53 (by decide) h_18 (by omega) (by decide) rfl (fun M_21 h_22 s_23 => ?_)
  refine T_aload_n (v := .ref 373) d_Mo_order_54 rfl (Or.inr ⟨_, rfl⟩) ?_
  have h_24 := (s_23 373 (by decide)).trans (h_20)
  refine T_getfield (v := .ref 396) d_Mo_order_55 fg_Mo_224 h_24 rfl ?_
  refine T_bipush (v := nI 6) d_Mo_order_58 (by decide) ?_
  refine T_ldc2 d_Mo_order_60 kJ_Mo_239 ?_
  refine N_lastore (k := 6) d_Mo_order_63 (by decide) h_22 (by omega) (by decide) rfl (fun M_25 h_26 s_27 => ?_)
  refine T_aload_n (v := .ref 373) d_Mo_order_64 rfl (Or.inr ⟨_, rfl⟩) ?_
  have h_28 := (s_27 373 (by decide)).trans (h_24)
  refine T_getfield (v := .ref 396) d_Mo_order_65 fg_Mo_224 h_28 rfl ?_
  refine T_bipush (v := nI 7) d_Mo_order_68 (by decide) ?_
  refine T_ldc2 d_Mo_order_70 kJ_Mo_241 ?_
  refine N_lastore (k := 7) d_Mo_order_73 (by decide) h_26 (by omega) (by decide) rfl (fun M_29 h_30 s_31 => ?_)
  refine T_aload_n (v := .ref 373) d_Mo_order_74 rfl (Or.inr ⟨_, rfl⟩) ?_
  have h_32 := (s_31 373 (by decide)).trans (h_28)
  refine T_getfield (v := .ref 396) d_Mo_order_75 fg_Mo_224 h_32 rfl ?_
  refine T_bipush (v := nI 15) d_Mo_order_78 (by decide) ?_
  refine T_ldc2 d_Mo_order_80 kJ_Mo_243 ?_
  refine N_lastore (k := 15) d_Mo_order_83 (by decide) h_30 (by omega) (by decide) rfl (fun M_33 h_34 s_35 => ?_)
  exact T_vret d_Mo_order_84 rfl (by decide) (by decide) ⟨rfl, ⟨_, h_34, by decide⟩, (Kp.ex (Kp.ex (Kp.ex (Kp.ex (Kp.ex (Kp.ex (Kp.ex (Kp.ex (Kp.ex (Kp.rf : Kp [396] M M) s_3 (by decide)) s_7 (by decide)) s_11 (by decide)) s_15 (by decide)) s_19 (by decide)) s_23 (by decide)) s_27 (by decide)) s_31 (by decide)) s_35 (by decide))⟩
def NLs (N : Nat) (f : Nat → Int64) (V b : Nat) : Prop := ∃ u : Nat → Nat, (∀ i, i < N → (f i).toInt = (u i : Int) ∧ u i ≤ b) ∧ sN u N = V
theorem NLs_add {N : Nat} {f : Nat → Int64} {V b k : Nat} {z : Int64} {d : Nat} (h : NLs N f V b) (hk : k < N) (hz : z.toInt = (d : Int)) (hb : b + d < 2 ^ 62) : NLs N (vp_updL f k (f k + z)) (V + d * 65536 ^ k) (b + d) := by
  obtain ⟨u, h1, h2⟩ := h
  refine ⟨uN u k (u k + d), fun i hi => ?_, ?_⟩
  · by_cases c : i = k
    · subst c
      have := h1 i hk
      rw [uL_s, uN_s, i64_add (by omega) (by omega)]
      omega
    · have := h1 i hi
      rw [uL_n c, uN_n c]; omega
  · have := sN_up (u := u) (k := k) (d := u k + d) N hk
    rw [Nat.add_mul] at this
    omega
theorem NLs_mo {N : Nat} {f : Nat → Int64} {V b c : Nat} (h : NLs N f V b) (hb : b ≤ c) : NLs N f V c := by
  obtain ⟨u, h1, h2⟩ := h
  exact ⟨u, fun i hi => ⟨(h1 i hi).1, Nat.le_trans (h1 i hi).2 hb⟩, h2⟩
theorem sN_z : ∀ N, sN (fun _ => 0) N = 0
  | 0 => rfl
  | N + 1 => by show sN (fun _ => 0) N + 0 * 65536 ^ N = 0; rw [sN_z N, Nat.zero_mul]
theorem NLs_0 {N : Nat} {f : Nat → Int64} (h : ∀ i, i < N → f i = 0) : NLs N f 0 0 := ⟨fun _ => 0, fun i hi => by rw [h i hi]; exact ⟨rfl, Nat.le_refl 0⟩, sN_z N⟩
def NLc (N : Nat) (f : Nat → Int64) (V k : Nat) : Prop := ∃ u : Nat → Nat, (∀ i, i < N → (f i).toInt = (u i : Int) ∧ u i ≤ 2 ^ 50 + (if i ≤ k then 2 ^ 50 else 0)) ∧ (∀ i, i < k → u i < 65536) ∧ sN u N = V
theorem NLc_0 {N : Nat} {f : Nat → Int64} {V b : Nat} (h : NLs N f V b) (hb : b ≤ 2 ^ 50) : NLc N f V 0 := by
  obtain ⟨u, h1, h2⟩ := h
  exact ⟨u, fun i hi => ⟨(h1 i hi).1, by have := (h1 i hi).2; split <;> omega⟩, fun i hi => absurd hi (Nat.not_lt_zero i), h2⟩
set_option maxHeartbeats 8000000 in
theorem NLc_s {N : Nat} {f : Nat → Int64} {V k : Nat} (h : NLc N f V k) (hk : k + 1 < N) : NLc N (vp_updL (vp_updL f (k + 1) (f (k + 1) + (f k >>> ((nI 16).toInt64 &&& 63)))) k ((vp_updL f (k + 1) (f (k + 1) + (f k >>> ((nI 16).toInt64 &&& 63)))) k &&& 65535)) V (k + 1) := by
  obtain ⟨u, h1, h3, h2⟩ := h
  have a := h1 k (by omega)
  have b := h1 (k + 1) (by omega)
  rw [if_pos (Nat.le_refl k)] at a
  rw [if_neg (by omega)] at b
  have s1 : (f k >>> ((nI 16).toInt64 &&& 63)).toInt = ((u k / 65536 : Nat) : Int) := by rw [nn_shr n16 (n := 52) (by omega) (by decide), a.1]; omega
  refine ⟨uN (uN u (k + 1) (u (k + 1) + u k / 65536)) k (u k % 65536), fun i hi => ?_, fun i hi => ?_, ?_⟩
  · by_cases c : i = k
    · subst c
      rw [uL_s, uN_s, uL_n (by omega), nn_and _ 16 65535 (by decide) (by decide), a.1]
      exact ⟨by omega, by split <;> omega⟩
    · rw [uL_n c, uN_n c]
      by_cases d : i = k + 1
      · subst d
        rw [uL_s, uN_s, i64_add (by omega) (by omega), s1, b.1, if_pos (Nat.le_refl _)]
        omega
      · rw [uL_n d, uN_n d]
        have := h1 i hi
        refine ⟨this.1, ?_⟩
        have t := this.2
        split at t <;> split <;> omega
  · by_cases c : i = k
    · subst c; rw [uN_s]; omega
    · rw [uN_n c, uN_n (by omega)]; exact h3 i (by omega)
  · have e1 := sN_up (u := uN u (k + 1) (u (k + 1) + u k / 65536)) (k := k) (d := u k % 65536) N (by omega)
    have e2 := sN_up (u := u) (k := k + 1) (d := u (k + 1) + u k / 65536) N (by omega)
    rw [uN_n (show k ≠ k + 1 by omega)] at e1
    have e3 : u k * 65536 ^ k = u k % 65536 * 65536 ^ k + u k / 65536 * 65536 ^ (k + 1) := by
      rw [Nat.pow_succ, Nat.mul_comm (65536 ^ k), ← Nat.mul_assoc, ← Nat.add_mul]
      congr 1; omega
    rw [Nat.add_mul] at e2
    omega
theorem NLc_e {N : Nat} {f : Nat → Int64} {V : Nat} (h : NLc (N + 1) f V N) (hV : V < 65536 ^ (N + 1)) : DL f (N + 1) V := by
  obtain ⟨u, h1, h3, h2⟩ := h
  have t := sN_top h2 hV
  intro i hi
  rw [(h1 i hi).1, ← h2, ← sN_un (N + 1) (fun i hi => by by_cases c : i = N; subst c; exact t; exact h3 i (by omega)) i hi]
def NLm (N n : Nat) (f : Nat → Int64) (x y a k : Nat) : Prop := NLs N f (sN (dg x) a * sN (dg y) n + dg x a * 65536 ^ a * sN (dg y) k) ((n * a + k) * 4294967296)
theorem NLm_s {N n : Nat} {f S Y : Nat → Int64} {x y a k na : Nat} (h : NLm N n f x y a k) (hS : DL S na x) (hY : DL Y n y) (ha : a < na) (hk : k < n) (hN : a + k < N) (hb : n * a + k < 1000) : NLm N n (vp_updL f (a + k) (f (a + k) + S a * Y k)) x y a (k + 1) := by
  have m := dl_mul (hS a ha) (hY k hk) (dg_lt x a) (dg_lt y k)
  have g := NLs_add h (k := a + k) hN m.1 (by omega)
  have e : sN (dg x) a * sN (dg y) n + dg x a * 65536 ^ a * sN (dg y) (k + 1) = sN (dg x) a * sN (dg y) n + dg x a * 65536 ^ a * sN (dg y) k + dg x a * dg y k * 65536 ^ (a + k) := by
    show _ + dg x a * 65536 ^ a * (sN (dg y) k + dg y k * 65536 ^ k) = _
    rw [Nat.mul_add, Nat.add_assoc, Nat.pow_add]
    congr 2
    rw [Nat.mul_assoc, Nat.mul_assoc, Nat.mul_left_comm (65536 ^ a)]
  unfold NLm
  rw [e]
  exact NLs_mo g (by rw [← Nat.add_assoc, Nat.add_mul]; omega)
theorem NLm_0 {N n : Nat} {f : Nat → Int64} {x y a : Nat} (h : NLs N f (sN (dg x) a * sN (dg y) n) (n * a * 4294967296)) : NLm N n f x y a 0 := by
  unfold NLm
  have e : sN (dg y) 0 = 0 := rfl
  rw [e, Nat.mul_zero, Nat.add_zero, Nat.add_zero]; exact h
theorem NLm_e {N n : Nat} {f : Nat → Int64} {x y a : Nat} (h : NLm N n f x y a n) : NLs N f (sN (dg x) (a + 1) * sN (dg y) n) (n * (a + 1) * 4294967296) := by
  unfold NLm at h
  have e : sN (dg x) (a + 1) * sN (dg y) n = sN (dg x) a * sN (dg y) n + dg x a * 65536 ^ a * sN (dg y) n := by
    show (sN (dg x) a + dg x a * 65536 ^ a) * _ = _
    rw [Nat.add_mul]
  rw [e]
  exact NLs_mo h (by rw [Nat.mul_add, Nat.mul_one]; exact Nat.le_refl _)
theorem sN_v {x n : Nat} (h : x < 65536 ^ n) : sN (dg x) n = x := by rw [sN_dg, Nat.mod_eq_of_lt h]
theorem ft_hi {Z n P k : Nat} (h : dg Z k ≠ 0) (hk : P < k) (hn : n < 65536) : ¬ Z ≤ n * 65536 ^ P := by
  intro c
  have h1 : 65536 ^ (P + 1) ≤ 65536 ^ k := Nat.pow_le_pow_right (by decide) hk
  have h2 : n * 65536 ^ P < 65536 ^ (P + 1) := by rw [Nat.pow_succ, Nat.mul_comm]; exact Nat.mul_lt_mul_of_pos_left hn (pw_pos P)
  exact h (dg_hi (by omega))
theorem ft_lo {Z P N : Nat} (h : ∀ k, P < k → k < N → dg Z k = 0) (hZ : Z < 65536 ^ N) (hN : P < N) : Z / 65536 ^ P = dg Z P := by
  have key : ∀ j, j ≤ N - (P + 1) → Z < 65536 ^ (N - j) := by
    intro j
    induction j with
    | zero => intro _; exact hZ
    | succ j ih =>
      intro hj
      have h1 := ih (by omega)
      have h2 := h (N - (j + 1)) (by omega) (by omega)
      have e : N - j = (N - (j + 1)) + 1 := by omega
      rw [e, Nat.pow_succ] at h1
      unfold dg at h2
      have h3 : Z / 65536 ^ (N - (j + 1)) < 65536 := by rw [Nat.div_lt_iff_lt_mul (pw_pos _), Nat.mul_comm]; exact h1
      rw [Nat.mod_eq_of_lt h3] at h2
      rcases Nat.lt_or_ge Z (65536 ^ (N - (j + 1))) with c | c
      · exact c
      · have := Nat.div_pos c (pw_pos _); omega
  have g := key (N - (P + 1)) (Nat.le_refl _)
  rw [show N - (N - (P + 1)) = P + 1 by omega, Nat.pow_succ] at g
  unfold dg
  rw [Nat.mod_eq_of_lt]
  rw [Nat.div_lt_iff_lt_mul (pw_pos _), Nat.mul_comm]; exact g
theorem ft_lt {Z n P : Nat} (h : Z / 65536 ^ P < n) : Z ≤ n * 65536 ^ P := by
  rw [Nat.div_lt_iff_lt_mul (pw_pos P)] at h; omega
theorem ft_gt {Z n P : Nat} (h : n < Z / 65536 ^ P) : ¬ Z ≤ n * 65536 ^ P := by
  intro c
  have h1 := Nat.div_le_div_right (c := 65536 ^ P) c
  rw [Nat.mul_div_cancel _ (pw_pos P)] at h1; omega
theorem ft_z {Z n P : Nat} (h : Z / 65536 ^ P = n) (hz : ∀ k, k < P → dg Z k = 0) : Z ≤ n * 65536 ^ P := by
  have e := Nat.div_add_mod Z (65536 ^ P)
  rw [← sN_dg Z P] at e
  have g : ∀ j, j ≤ P → sN (dg Z) j = 0 := by
    intro j
    induction j with
    | zero => intro _; rfl
    | succ j ih => intro hj; show sN (dg Z) j + dg Z j * 65536 ^ j = 0; rw [ih (by omega), hz j (by omega), Nat.zero_mul]
  rw [g P (Nat.le_refl P), h, Nat.mul_comm] at e; omega
theorem ft_nz {Z n P k : Nat} (h : Z / 65536 ^ P = n) (hk : k < P) (hz : dg Z k ≠ 0) : ¬ Z ≤ n * 65536 ^ P := by
  intro c
  have e := Nat.div_add_mod Z (65536 ^ P)
  rw [h, Nat.mul_comm] at e
  have m : Z % 65536 ^ P = 0 := by omega
  apply hz
  have e2 := Nat.div_add_mod Z (65536 ^ P)
  rw [m, Nat.add_zero, Nat.mul_comm] at e2
  have := dg_lo (x := 0) (y := Z / 65536 ^ P) hk
  rw [Nat.zero_add, e2] at this
  rw [this]; unfold dg; rw [Nat.zero_div]
theorem bt_o {X k j : Nat} (hX : X % 2 ^ (k + 1) = 0) (hj : j ≠ k / 16) : dg (X + 2 ^ k) j = dg X j := by
  have e2 : 2 ^ k = 2 ^ (k % 16) * 65536 ^ (k / 16) := by
    rw [show (65536 : Nat) = 2 ^ 16 from rfl, ← Nat.pow_mul, ← Nat.pow_add]; congr 1; omega
  rcases Nat.lt_or_gt_of_ne hj with h | h
  · rw [e2]; exact dg_lo h
  · unfold dg
    congr 1
    have p1 : 2 ^ (k + 1) ∣ 65536 ^ j := by
      rw [show (65536 : Nat) = 2 ^ 16 from rfl, ← Nat.pow_mul]; exact Nat.pow_dvd_pow 2 (by omega)
    obtain ⟨c, hc⟩ := p1
    obtain ⟨q, hq⟩ := Nat.dvd_of_mod_eq_zero hX
    rw [hc, ← Nat.div_div_eq_div_mul, ← Nat.div_div_eq_div_mul, hq, Nat.mul_add_div (Nat.pow_pos (by decide)), Nat.div_eq_of_lt (Nat.pow_lt_pow_right (by decide) (by omega)), Nat.add_zero, Nat.mul_div_cancel_left _ (Nat.pow_pos (by decide))]
theorem bt_m {X k : Nat} (hX : X % 2 ^ (k + 1) = 0) : dg (X + 2 ^ k) (k / 16) = dg X (k / 16) + 2 ^ (k % 16) := by
  have e2 : 2 ^ k = 65536 ^ (k / 16) * 2 ^ (k % 16) := by
    rw [show (65536 : Nat) = 2 ^ 16 from rfl, ← Nat.pow_mul, ← Nat.pow_add]; congr 1; omega
  obtain ⟨q, hq⟩ := Nat.dvd_of_mod_eq_zero hX
  have e3 : X / 65536 ^ (k / 16) = 2 ^ (k % 16 + 1) * q := by
    rw [hq, Nat.pow_succ, e2, Nat.mul_assoc, Nat.mul_assoc, Nat.mul_div_cancel_left _ (pw_pos _), Nat.pow_succ, Nat.mul_assoc]
  unfold dg
  rw [e2, Nat.add_mul_div_left _ _ (pw_pos _), e3]
  have hk : k % 16 < 16 := by omega
  generalize k % 16 = m at *
  have : m = 0 ∨ m = 1 ∨ m = 2 ∨ m = 3 ∨ m = 4 ∨ m = 5 ∨ m = 6 ∨ m = 7 ∨ m = 8 ∨ m = 9 ∨ m = 10 ∨ m = 11 ∨ m = 12 ∨ m = 13 ∨ m = 14 ∨ m = 15 := by omega
  rcases this with rfl | rfl | rfl | rfl | rfl | rfl | rfl | rfl | rfl | rfl | rfl | rfl | rfl | rfl | rfl | rfl <;> simp only [Nat.reduceAdd, Nat.reducePow] <;> omega
theorem l1s : ∀ r, r < 16 → ((1 : Int64) <<< ((nI r).toInt64 &&& 63)).toInt = ((2 ^ r : Nat) : Int) := by decide
theorem p16 {k : Nat} : 2 ^ (k % 16) ≤ 32768 := Nat.le_trans (Nat.pow_le_pow_right (by decide) (show k % 16 ≤ 15 by omega)) (by decide)
theorem bt_up {f : Nat → Int64} {X k : Nat} (h : DL f 5 X) (hX : X % 2 ^ (k + 1) = 0) (hk : k < 80) : DL (vp_updL f (k / 16) (f (k / 16) + ((1 : Int64) <<< ((nI (k % 16)).toInt64 &&& 63)))) 5 (X + 2 ^ k) := fun i hi => by
  by_cases c : i = k / 16
  · subst c
    have d := dg_lt X (k / 16)
    have h1 := h (k / 16) (by omega)
    have s := l1s (k % 16) (by omega)
    have p := p16 (k := k)
    rw [uL_s, bt_m hX]
    generalize 2 ^ (k % 16) = g at *
    rw [i64_add (by omega) (by omega), s, h1, Int.natCast_add]
  · rw [uL_n c, bt_o hX c]; exact h i hi
theorem bt_dn {f : Nat → Int64} {X k : Nat} (h : DL f 5 (X + 2 ^ k)) (hX : X % 2 ^ (k + 1) = 0) (hk : k < 80) : DL (vp_updL f (k / 16) (f (k / 16) - ((1 : Int64) <<< ((nI (k % 16)).toInt64 &&& 63)))) 5 X := fun i hi => by
  by_cases c : i = k / 16
  · subst c
    have d := dg_lt X (k / 16)
    have h1 := h (k / 16) (by omega)
    rw [bt_m hX] at h1
    have s := l1s (k % 16) (by omega)
    have p := p16 (k := k)
    rw [uL_s]
    generalize 2 ^ (k % 16) = g at *
    rw [i64_sub (by omega) (by omega), s, h1]; omega
  · rw [uL_n c, h i hi, bt_o hX c]
def bpG (e P n : Nat) : Nat → Nat
  | 0 => 0
  | j + 1 => (fun X => if (X + 2 ^ (69 - j)) ^ e ≤ n * 65536 ^ P then X + 2 ^ (69 - j) else X) (bpG e P n j)
theorem bpG_s (e P n j : Nat) : bpG e P n (j + 1) = if (bpG e P n j + 2 ^ (69 - j)) ^ e ≤ n * 65536 ^ P then bpG e P n j + 2 ^ (69 - j) else bpG e P n j := rfl
theorem bpG_m (e P n : Nat) : ∀ j, j ≤ 70 → bpG e P n j % 2 ^ (70 - j) = 0
  | 0, _ => Nat.zero_mod _
  | j + 1, h => by
    have ih := bpG_m e P n j (by omega)
    rw [bpG_s]
    rw [show 70 - j = (69 - j) + 1 by omega] at ih
    rw [show 70 - (j + 1) = 69 - j by omega]
    have d : bpG e P n j % 2 ^ (69 - j) = 0 := by
      obtain ⟨q, hq⟩ := Nat.dvd_of_mod_eq_zero ih
      rw [hq, Nat.pow_succ, Nat.mul_assoc, Nat.mul_mod_right]
    split
    · rw [Nat.add_mod_right]; exact d
    · exact d
theorem bpG_lt (e P n : Nat) : ∀ j, j ≤ 70 → bpG e P n j + 2 ^ (70 - j) ≤ 2 ^ 70
  | 0, _ => by show 0 + _ ≤ _; rw [Nat.zero_add]; exact Nat.le_refl _
  | j + 1, h => by
    have ih := bpG_lt e P n j (by omega)
    rw [bpG_s]
    rw [show 70 - j = (69 - j) + 1 by omega, Nat.pow_succ] at ih
    rw [show 70 - (j + 1) = 69 - j by omega]
    split <;> omega
theorem nI64 {n : Nat} (h : n < 2147483648) : ((nI n).toInt64).toInt = (n : Int) := by
  rw [Int32.toInt_toInt64]
  unfold nI
  exact Int32.toInt_ofNat_of_lt h
set_option maxHeartbeats 8000000 in
theorem ca_12 (G : GX) {M0 : List va_E} {V : Nat}  {Q : Option Value → List va_E → Prop} (kk : ∀ M, (∃ f, M[378]? = some (lr 12 f) ∧ NLc 12 f V 11) ∧ Kp [378] M0 M → TT G mi_Mo_carries 38 [(0, .ref 378), (1, .int (nI 12))] [] M 0 0 Q) : ∀ j k M, k + j = 11 → (∃ f, M[378]? = some (lr 12 f) ∧ NLc 12 f V k) ∧ Kp [378] M0 M → TT G mi_Mo_carries 2 [(2, .int (nI k)), (0, .ref 378), (1, .int (nI 12))] [] M 0 0 Q := by
  intro j
  induction j with
  | zero =>
    intro k M hk hI
    obtain rfl : 11 = k := by omega
    refine T_iload_n d_Mo_carries_2 rfl ?_
    refine T_iconst (v := nI 1) d_Mo_carries_3 (by decide) ?_
    refine N_iadd (a := 1) (b := 11) (c := 12) d_Mo_carries_4 rfl ?_
    refine T_iload_n d_Mo_carries_5 rfl ?_
    refine N_icmp_ge_t (a := 12) (b := 12) d_Mo_carries_6 (tgt := 38) rfl (by omega) (by omega) (by omega) ?_
    exact T_sub (fun q hq => List.mem_cons_of_mem _ hq) (kk M hI)
  | succ j ih =>
    intro k M hk hI
    obtain ⟨⟨f, h1, hd⟩, hK⟩ := hI
    refine T_iload_n d_Mo_carries_2 rfl ?_
    refine T_iconst (v := nI 1) d_Mo_carries_3 (by decide) ?_
    refine N_iadd (a := 1) (b := k) (c := (k + 1)) d_Mo_carries_4 rfl ?_
    refine T_iload_n d_Mo_carries_5 rfl ?_
    refine N_icmp_ge_f (a := 12) (b := (k + 1)) d_Mo_carries_6 (tgt := 38) rfl (by omega) (by omega) (by omega) ?_
    refine T_aload_n (v := .ref 378) d_Mo_carries_9 rfl (Or.inr ⟨_, rfl⟩) ?_
    refine T_iload_n d_Mo_carries_10 rfl ?_
    refine T_iconst (v := nI 1) d_Mo_carries_11 (by decide) ?_
    refine N_iadd (a := 1) (b := k) (c := (k + 1)) d_Mo_carries_12 rfl ?_
    refine T_dup2 d_Mo_carries_13 rfl rfl ?_
    refine N_laload (k := (k + 1)) (x := (f (k + 1))) d_Mo_carries_14 h1 (by omega) (by decide) rfl ?_
    refine T_aload_n (v := .ref 378) d_Mo_carries_15 rfl (Or.inr ⟨_, rfl⟩) ?_
    refine T_iload_n d_Mo_carries_16 rfl ?_
    refine N_laload (k := k) (x := (f k)) d_Mo_carries_17 h1 (by omega) (by decide) rfl ?_
    refine T_bipush (v := nI 16) d_Mo_carries_18 (by decide) ?_
    refine T_lshr d_Mo_carries_20 ?_
    refine T_ladd d_Mo_carries_21 ?_
    refine N_lastore (k := (k + 1)) d_Mo_carries_22 (by decide) h1 (by omega) (by decide) rfl (fun M_1 h_2 s_3 => ?_)
    refine T_aload_n (v := .ref 378) d_Mo_carries_23 rfl (Or.inr ⟨_, rfl⟩) ?_
    refine T_iload_n d_Mo_carries_24 rfl ?_
    refine T_dup2 d_Mo_carries_25 rfl rfl ?_
    refine N_laload (k := k) (x := ((vp_updL f (k + 1) ((f (k + 1)) + ((f k) >>> ((nI 16).toInt64 &&& 63)))) k)) d_Mo_carries_26 h_2 (by omega) (by decide) rfl ?_
    refine T_ldc2 d_Mo_carries_27 kJ_Mo_29 ?_
    refine T_land d_Mo_carries_30 ?_
    refine N_lastore (k := k) d_Mo_carries_31 (by decide) h_2 (by omega) (by decide) rfl (fun M_4 h_5 s_6 => ?_)
    refine N_iinc (k := k) (m := 1) (c := (k + 1)) (L' := [(2, .int (nI ((k + 1)))), (0, .ref 378), (1, .int (nI 12))]) d_Mo_carries_32 (by decide) rfl (by decide) rfl rfl ?_
    refine T_goto (tgt := 2) d_Mo_carries_35 rfl ?_
    exact ih (k + 1) M_4 (by omega) ⟨⟨_, h_5, NLc_s hd (by omega)⟩, (Kp.ex (Kp.ex (Kp.tr (Kp.rf : Kp [378] M0 M0) (Kp.mono hK (by decide))) s_3 (by decide)) s_6 (by decide))⟩
theorem u_Mo_ca_12 {G : GX} {M : List va_E} {f : Nat → Int64} {V b : Nat} (h : M[378]? = some (lr 12 f)) (hc : NLs 12 f V b) (hb : b ≤ 2 ^ 50) (hV : V < 65536 ^ 12) : CT G mi_Mo_carries [.ref 378, .int (nI 12)] M (fun r M' => r = none ∧ (∃ f', M'[378]? = some (lr 12 f') ∧ DL f' 12 V) ∧ Kp [378] M M') := by
  refine CT.of (by decide) (Nat.le_of_ble_eq_true rfl) ?_
  show TT G mi_Mo_carries 0 [(0, .ref 378), (1, .int (nI 12))] [] M 0 0 _
  refine T_iconst (v := nI 0) d_Mo_carries_0 (by decide) ?_
  refine T_istore_n (L' := [(2, .int (nI 0)), (0, .ref 378), (1, .int (nI 12))]) d_Mo_carries_1 (by decide) rfl ?_
  refine ca_12 G (fun Ma hI => ?_) 11 0 M rfl ⟨⟨f, h, NLc_0 hc hb⟩, Kp.rf⟩
  obtain ⟨⟨fa, a1, a2⟩, ka⟩ := hI
  exact T_vret d_Mo_carries_38 rfl (by decide) (by decide) ⟨rfl, ⟨fa, a1, NLc_e a2 hV⟩, ka⟩
set_option maxHeartbeats 8000000 in
theorem ca_20 (G : GX) {M0 : List va_E} {V : Nat}  {Q : Option Value → List va_E → Prop} (kk : ∀ M, (∃ f, M[379]? = some (lr 20 f) ∧ NLc 20 f V 19) ∧ Kp [379] M0 M → TT G mi_Mo_carries 38 [(0, .ref 379), (1, .int (nI 20))] [] M 0 0 Q) : ∀ j k M, k + j = 19 → (∃ f, M[379]? = some (lr 20 f) ∧ NLc 20 f V k) ∧ Kp [379] M0 M → TT G mi_Mo_carries 2 [(2, .int (nI k)), (0, .ref 379), (1, .int (nI 20))] [] M 0 0 Q := by
  intro j
  induction j with
  | zero =>
    intro k M hk hI
    obtain rfl : 19 = k := by omega
    refine T_iload_n d_Mo_carries_2 rfl ?_
    refine T_iconst (v := nI 1) d_Mo_carries_3 (by decide) ?_
    refine N_iadd (a := 1) (b := 19) (c := 20) d_Mo_carries_4 rfl ?_
    refine T_iload_n d_Mo_carries_5 rfl ?_
    refine N_icmp_ge_t (a := 20) (b := 20) d_Mo_carries_6 (tgt := 38) rfl (by omega) (by omega) (by omega) ?_
    exact T_sub (fun q hq => List.mem_cons_of_mem _ hq) (kk M hI)
  | succ j ih =>
    intro k M hk hI
    obtain ⟨⟨f, h1, hd⟩, hK⟩ := hI
    refine T_iload_n d_Mo_carries_2 rfl ?_
    refine T_iconst (v := nI 1) d_Mo_carries_3 (by decide) ?_
    refine N_iadd (a := 1) (b := k) (c := (k + 1)) d_Mo_carries_4 rfl ?_
    refine T_iload_n d_Mo_carries_5 rfl ?_
    refine N_icmp_ge_f (a := 20) (b := (k + 1)) d_Mo_carries_6 (tgt := 38) rfl (by omega) (by omega) (by omega) ?_
    refine T_aload_n (v := .ref 379) d_Mo_carries_9 rfl (Or.inr ⟨_, rfl⟩) ?_
    refine T_iload_n d_Mo_carries_10 rfl ?_
    refine T_iconst (v := nI 1) d_Mo_carries_11 (by decide) ?_
    refine N_iadd (a := 1) (b := k) (c := (k + 1)) d_Mo_carries_12 rfl ?_
    refine T_dup2 d_Mo_carries_13 rfl rfl ?_
    refine N_laload (k := (k + 1)) (x := (f (k + 1))) d_Mo_carries_14 h1 (by omega) (by decide) rfl ?_
    refine T_aload_n (v := .ref 379) d_Mo_carries_15 rfl (Or.inr ⟨_, rfl⟩) ?_
    refine T_iload_n d_Mo_carries_16 rfl ?_
    refine N_laload (k := k) (x := (f k)) d_Mo_carries_17 h1 (by omega) (by decide) rfl ?_
    refine T_bipush (v := nI 16) d_Mo_carries_18 (by decide) ?_
    refine T_lshr d_Mo_carries_20 ?_
    refine T_ladd d_Mo_carries_21 ?_
    refine N_lastore (k := (k + 1)) d_Mo_carries_22 (by decide) h1 (by omega) (by decide) rfl (fun M_1 h_2 s_3 => ?_)
    refine T_aload_n (v := .ref 379) d_Mo_carries_23 rfl (Or.inr ⟨_, rfl⟩) ?_
    refine T_iload_n d_Mo_carries_24 rfl ?_
    refine T_dup2 d_Mo_carries_25 rfl rfl ?_
    refine N_laload (k := k) (x := ((vp_updL f (k + 1) ((f (k + 1)) + ((f k) >>> ((nI 16).toInt64 &&& 63)))) k)) d_Mo_carries_26 h_2 (by omega) (by decide) rfl ?_
    refine T_ldc2 d_Mo_carries_27 kJ_Mo_29 ?_
    refine T_land d_Mo_carries_30 ?_
    refine N_lastore (k := k) d_Mo_carries_31 (by decide) h_2 (by omega) (by decide) rfl (fun M_4 h_5 s_6 => ?_)
    refine N_iinc (k := k) (m := 1) (c := (k + 1)) (L' := [(2, .int (nI ((k + 1)))), (0, .ref 379), (1, .int (nI 20))]) d_Mo_carries_32 (by decide) rfl (by decide) rfl rfl ?_
    refine T_goto (tgt := 2) d_Mo_carries_35 rfl ?_
    exact ih (k + 1) M_4 (by omega) ⟨⟨_, h_5, NLc_s hd (by omega)⟩, (Kp.ex (Kp.ex (Kp.tr (Kp.rf : Kp [379] M0 M0) (Kp.mono hK (by decide))) s_3 (by decide)) s_6 (by decide))⟩
theorem u_Mo_ca_20 {G : GX} {M : List va_E} {f : Nat → Int64} {V b : Nat} (h : M[379]? = some (lr 20 f)) (hc : NLs 20 f V b) (hb : b ≤ 2 ^ 50) (hV : V < 65536 ^ 20) : CT G mi_Mo_carries [.ref 379, .int (nI 20)] M (fun r M' => r = none ∧ (∃ f', M'[379]? = some (lr 20 f') ∧ DL f' 20 V) ∧ Kp [379] M M') := by
  refine CT.of (by decide) (Nat.le_of_ble_eq_true rfl) ?_
  show TT G mi_Mo_carries 0 [(0, .ref 379), (1, .int (nI 20))] [] M 0 0 _
  refine T_iconst (v := nI 0) d_Mo_carries_0 (by decide) ?_
  refine T_istore_n (L' := [(2, .int (nI 0)), (0, .ref 379), (1, .int (nI 20))]) d_Mo_carries_1 (by decide) rfl ?_
  refine ca_20 G (fun Ma hI => ?_) 19 0 M rfl ⟨⟨f, h, NLc_0 hc hb⟩, Kp.rf⟩
  obtain ⟨⟨fa, a1, a2⟩, ka⟩ := hI
  exact T_vret d_Mo_carries_38 rfl (by decide) (by decide) ⟨rfl, ⟨fa, a1, NLc_e a2 hV⟩, ka⟩
theorem sq_lt {X : Nat} (h : X < 65536 ^ 5) : X * X < 65536 ^ 12 := Nat.lt_trans (Nat.mul_lt_mul'' h h) (by decide)
theorem cu_lt {X : Nat} (h : X < 65536 ^ 5) : (X * X) * X < 65536 ^ 20 := Nat.lt_trans (Nat.mul_lt_mul'' (Nat.mul_lt_mul'' h h) h) (by decide)
theorem sq_lt20 {X : Nat} (h : X < 65536 ^ 5) : X * X < 65536 ^ 20 := Nat.lt_trans (Nat.mul_lt_mul'' h h) (by decide)
set_option maxHeartbeats 8000000 in
theorem fc_2 (G : GX) {M0 : List va_E} {v : Nat → Int32} {n : Nat} (ho : M0[373]? = some (moO v)) {Q : Option Value → List va_E → Prop} (kk : ∀ M, (∃ f, M[378]? = some (lr 12 f) ∧ ∀ i, i < 12 → f i = 0) ∧ Kp [378] M0 M → TT G mi_Mo_fits 21 [(1, .int (nI n)), (2, .int (nI 1)), (0, .ref 373)] [] M 0 0 Q) : ∀ j k M, k + j = 12 → (∃ f, M[378]? = some (lr 12 f) ∧ ∀ i, i < k → f i = 0) ∧ Kp [378] M0 M → TT G mi_Mo_fits 2 [(3, .int (nI k)), (1, .int (nI n)), (2, .int (nI 1)), (0, .ref 373)] [] M 0 0 Q := by
  intro j
  induction j with
  | zero =>
    intro k M hk hI
    obtain rfl : 12 = k := by omega
    refine T_iload_n d_Mo_fits_2 rfl ?_
    refine T_bipush (v := nI 12) d_Mo_fits_3 (by decide) ?_
    refine N_icmp_ge_t (a := 12) (b := 12) d_Mo_fits_5 (tgt := 21) rfl (by omega) (by omega) (by omega) ?_
    exact T_sub (fun q hq => List.mem_cons_of_mem _ hq) (kk M hI)
  | succ j ih =>
    intro k M hk hI
    obtain ⟨⟨f, h1, h2⟩, hK⟩ := hI
    refine T_iload_n d_Mo_fits_2 rfl ?_
    refine T_bipush (v := nI 12) d_Mo_fits_3 (by decide) ?_
    refine N_icmp_ge_f (a := 12) (b := k) d_Mo_fits_5 (tgt := 21) rfl (by omega) (by omega) (by omega) ?_
    refine T_aload_n (v := .ref 373) d_Mo_fits_8 rfl (Or.inr ⟨_, rfl⟩) ?_
    have h_1 := (hK 373 (by decide)).trans (ho)
    refine T_getfield (v := .ref 378) d_Mo_fits_9 fg_Mo_15 h_1 rfl ?_
    refine T_iload_n d_Mo_fits_12 rfl ?_
    refine T_lconst (v := 0) d_Mo_fits_13 (by decide) ?_
    refine N_lastore (k := k) d_Mo_fits_14 (by decide) h1 (by omega) (by decide) rfl (fun M_2 h_3 s_4 => ?_)
    refine N_iinc (k := k) (m := 1) (c := (k + 1)) (L' := [(3, .int (nI ((k + 1)))), (1, .int (nI n)), (2, .int (nI 1)), (0, .ref 373)]) d_Mo_fits_15 (by decide) rfl (by decide) rfl rfl ?_
    refine T_goto (tgt := 2) d_Mo_fits_18 rfl ?_
    exact ih (k + 1) M_2 (by omega) ⟨⟨_, h_3, fun i hi => by by_cases c : i = k; subst c; exact uL_s; rw [uL_n c]; exact h2 i (by omega)⟩, (Kp.ex (Kp.tr (Kp.rf : Kp [378] M0 M0) (Kp.mono hK (by decide))) s_4 (by decide))⟩
set_option maxHeartbeats 8000000 in
theorem fc_3 (G : GX) {M0 : List va_E} {v : Nat → Int32} {n : Nat} (ho : M0[373]? = some (moO v)) {Q : Option Value → List va_E → Prop} (kk : ∀ M, (∃ f, M[379]? = some (lr 20 f) ∧ ∀ i, i < 20 → f i = 0) ∧ Kp [379] M0 M → TT G mi_Mo_fits 42 [(1, .int (nI n)), (2, .int (nI 1)), (0, .ref 373)] [] M 0 0 Q) : ∀ j k M, k + j = 20 → (∃ f, M[379]? = some (lr 20 f) ∧ ∀ i, i < k → f i = 0) ∧ Kp [379] M0 M → TT G mi_Mo_fits 23 [(3, .int (nI k)), (1, .int (nI n)), (2, .int (nI 1)), (0, .ref 373)] [] M 0 0 Q := by
  intro j
  induction j with
  | zero =>
    intro k M hk hI
    obtain rfl : 20 = k := by omega
    refine T_iload_n d_Mo_fits_23 rfl ?_
    refine T_bipush (v := nI 20) d_Mo_fits_24 (by decide) ?_
    refine N_icmp_ge_t (a := 20) (b := 20) d_Mo_fits_26 (tgt := 42) rfl (by omega) (by omega) (by omega) ?_
    exact T_sub (fun q hq => List.mem_cons_of_mem _ hq) (kk M hI)
  | succ j ih =>
    intro k M hk hI
    obtain ⟨⟨f, h1, h2⟩, hK⟩ := hI
    refine T_iload_n d_Mo_fits_23 rfl ?_
    refine T_bipush (v := nI 20) d_Mo_fits_24 (by decide) ?_
    refine N_icmp_ge_f (a := 20) (b := k) d_Mo_fits_26 (tgt := 42) rfl (by omega) (by omega) (by omega) ?_
    refine T_aload_n (v := .ref 373) d_Mo_fits_29 rfl (Or.inr ⟨_, rfl⟩) ?_
    have h_1 := (hK 373 (by decide)).trans (ho)
    refine T_getfield (v := .ref 379) d_Mo_fits_30 fg_Mo_19 h_1 rfl ?_
    refine T_iload_n d_Mo_fits_33 rfl ?_
    refine T_lconst (v := 0) d_Mo_fits_34 (by decide) ?_
    refine N_lastore (k := k) d_Mo_fits_35 (by decide) h1 (by omega) (by decide) rfl (fun M_2 h_3 s_4 => ?_)
    refine N_iinc (k := k) (m := 1) (c := (k + 1)) (L' := [(3, .int (nI ((k + 1)))), (1, .int (nI n)), (2, .int (nI 1)), (0, .ref 373)]) d_Mo_fits_36 (by decide) rfl (by decide) rfl rfl ?_
    refine T_goto (tgt := 23) d_Mo_fits_39 rfl ?_
    exact ih (k + 1) M_2 (by omega) ⟨⟨_, h_3, fun i hi => by by_cases c : i = k; subst c; exact uL_s; rw [uL_n c]; exact h2 i (by omega)⟩, (Kp.ex (Kp.tr (Kp.rf : Kp [379] M0 M0) (Kp.mono hK (by decide))) s_4 (by decide))⟩
set_option maxHeartbeats 8000000 in
theorem fc_i (G : GX) {M0 : List va_E} {v : Nat → Int32} {X n a : Nat} {l5 : Nat → Int64} (ho : M0[373]? = some (moO v)) (hl : M0[377]? = some (lr 5 l5)) (dl : DL l5 5 X) (ha : a < 5) {Q : Option Value → List va_E → Prop} (kk : ∀ M, (∃ f, M[378]? = some (lr 12 f) ∧ NLm 12 5 f X X a 5) ∧ Kp [378] M0 M → TT G mi_Mo_fits 90 [(3, .int (nI a)), (1, .int (nI n)), (2, .int (nI 1)), (0, .ref 373)] [] M 0 0 Q) : ∀ j k M, k + j = 5 → (∃ f, M[378]? = some (lr 12 f) ∧ NLm 12 5 f X X a k) ∧ Kp [378] M0 M → TT G mi_Mo_fits 52 [(4, .int (nI k)), (3, .int (nI a)), (1, .int (nI n)), (2, .int (nI 1)), (0, .ref 373)] [] M 0 0 Q := by
  intro j
  induction j with
  | zero =>
    intro k M hk hI
    obtain rfl : 5 = k := by omega
    refine T_iload d_Mo_fits_52 rfl ?_
    refine T_iconst (v := nI 5) d_Mo_fits_54 (by decide) ?_
    refine N_icmp_ge_t (a := 5) (b := 5) d_Mo_fits_55 (tgt := 90) rfl (by omega) (by omega) (by omega) ?_
    exact T_sub (fun q hq => List.mem_cons_of_mem _ hq) (kk M hI)
  | succ j ih =>
    intro k M hk hI
    obtain ⟨⟨f, h1, hd⟩, hK⟩ := hI
    refine T_iload d_Mo_fits_52 rfl ?_
    refine T_iconst (v := nI 5) d_Mo_fits_54 (by decide) ?_
    refine N_icmp_ge_f (a := 5) (b := k) d_Mo_fits_55 (tgt := 90) rfl (by omega) (by omega) (by omega) ?_
    refine T_aload_n (v := .ref 373) d_Mo_fits_58 rfl (Or.inr ⟨_, rfl⟩) ?_
    have h_1 := (hK 373 (by decide)).trans (ho)
    refine T_getfield (v := .ref 378) d_Mo_fits_59 fg_Mo_15 h_1 rfl ?_
    refine T_iload_n d_Mo_fits_62 rfl ?_
    refine T_iload d_Mo_fits_63 rfl ?_
    refine N_iadd (a := k) (b := a) (c := (a + k)) d_Mo_fits_65 rfl ?_
    refine T_dup2 d_Mo_fits_66 rfl rfl ?_
    refine N_laload (k := (a + k)) (x := (f (a + k))) d_Mo_fits_67 h1 (by omega) (by decide) rfl ?_
    refine T_aload_n (v := .ref 373) d_Mo_fits_68 rfl (Or.inr ⟨_, rfl⟩) ?_
    refine T_getfield (v := .ref 377) d_Mo_fits_69 fg_Mo_22 h_1 rfl ?_
    refine T_iload_n d_Mo_fits_72 rfl ?_
    have h_2 := (hK 377 (by decide)).trans (hl)
    refine N_laload (k := a) (x := (l5 a)) d_Mo_fits_73 h_2 (by omega) (by decide) rfl ?_
    refine T_aload_n (v := .ref 373) d_Mo_fits_74 rfl (Or.inr ⟨_, rfl⟩) ?_
    refine T_getfield (v := .ref 377) d_Mo_fits_75 fg_Mo_22 h_1 rfl ?_
    refine T_iload d_Mo_fits_78 rfl ?_
    refine N_laload (k := k) (x := (l5 k)) d_Mo_fits_80 h_2 (by omega) (by decide) rfl ?_
    refine T_lmul d_Mo_fits_81 ?_
    refine T_ladd d_Mo_fits_82 ?_
    refine N_lastore (k := (a + k)) d_Mo_fits_83 (by decide) h1 (by omega) (by decide) rfl (fun M_3 h_4 s_5 => ?_)
    refine N_iinc (k := k) (m := 1) (c := (k + 1)) (L' := [(4, .int (nI ((k + 1)))), (3, .int (nI a)), (1, .int (nI n)), (2, .int (nI 1)), (0, .ref 373)]) d_Mo_fits_84 (by decide) rfl (by decide) rfl rfl ?_
    refine T_goto (tgt := 52) d_Mo_fits_87 rfl ?_
    exact ih (k + 1) M_3 (by omega) ⟨⟨_, h_4, NLm_s (na := 5) hd dl dl ha (by omega) (by omega) (by omega)⟩, (Kp.ex (Kp.tr (Kp.rf : Kp [378] M0 M0) (Kp.mono hK (by decide))) s_5 (by decide))⟩
set_option maxHeartbeats 8000000 in
theorem fc_o (G : GX) {M0 : List va_E} {v : Nat → Int32} {X n : Nat} {l5 : Nat → Int64} (ho : M0[373]? = some (moO v)) (hl : M0[377]? = some (lr 5 l5)) (dl : DL l5 5 X) {Q : Option Value → List va_E → Prop} (kk : ∀ M, (∃ f, M[378]? = some (lr 12 f) ∧ NLs 12 f (sN (dg X) 5 * sN (dg X) 5) (5 * 5 * 4294967296)) ∧ Kp [378] M0 M → TT G mi_Mo_fits 96 [(1, .int (nI n)), (2, .int (nI 1)), (0, .ref 373)] [] M 0 0 Q) : ∀ j k M, k + j = 5 → (∃ f, M[378]? = some (lr 12 f) ∧ NLs 12 f (sN (dg X) k * sN (dg X) 5) (5 * k * 4294967296)) ∧ Kp [378] M0 M → TT G mi_Mo_fits 44 [(3, .int (nI k)), (1, .int (nI n)), (2, .int (nI 1)), (0, .ref 373)] [] M 0 0 Q := by
  intro j
  induction j with
  | zero =>
    intro k M hk hI
    obtain rfl : 5 = k := by omega
    refine T_iload_n d_Mo_fits_44 rfl ?_
    refine T_iconst (v := nI 5) d_Mo_fits_45 (by decide) ?_
    refine N_icmp_ge_t (a := 5) (b := 5) d_Mo_fits_46 (tgt := 96) rfl (by omega) (by omega) (by omega) ?_
    exact T_sub (fun q hq => List.mem_cons_of_mem _ hq) (kk M hI)
  | succ j ih =>
    intro k M hk hI
    obtain ⟨⟨f, h1, hd⟩, hK⟩ := hI
    refine T_iload_n d_Mo_fits_44 rfl ?_
    refine T_iconst (v := nI 5) d_Mo_fits_45 (by decide) ?_
    refine N_icmp_ge_f (a := 5) (b := k) d_Mo_fits_46 (tgt := 96) rfl (by omega) (by omega) (by omega) ?_
    refine T_iconst (v := nI 0) d_Mo_fits_49 (by decide) ?_
    refine T_istore (L' := [(4, .int (nI 0)), (3, .int (nI k)), (1, .int (nI n)), (2, .int (nI 1)), (0, .ref 373)]) d_Mo_fits_50 (by decide) rfl ?_
    refine fc_i G (a := k) ((hK 373 (by decide)).trans ho) ((hK 377 (by decide)).trans hl) dl (by omega) (fun Mb hI => ?_) 5 0 M rfl ⟨⟨f, h1, NLm_0 hd⟩, Kp.rf⟩
    obtain ⟨⟨f2, h2, hd2⟩, hKb⟩ := hI
    refine N_iinc (k := k) (m := 1) (c := (k + 1)) (L' := [(3, .int (nI ((k + 1)))), (1, .int (nI n)), (2, .int (nI 1)), (0, .ref 373)]) d_Mo_fits_90 (by decide) rfl (by decide) rfl rfl ?_
    refine T_goto (tgt := 44) d_Mo_fits_93 rfl ?_
    exact ih (k + 1) Mb (by omega) ⟨⟨f2, h2, NLm_e hd2⟩, (Kp.tr (Kp.tr (Kp.rf : Kp [378] M0 M0) (Kp.mono hK (by decide))) (Kp.mono hKb (by decide)))⟩
set_option maxHeartbeats 8000000 in
theorem fc_j (G : GX) {M0 : List va_E} {v : Nat → Int32} {X n a : Nat} {l5 l2 : Nat → Int64} (ho : M0[373]? = some (moO v)) (hl : M0[377]? = some (lr 5 l5)) (dl : DL l5 5 X) (h2 : M0[378]? = some (lr 12 l2)) (d2 : DL l2 12 (X * X)) (ha : a < 12) {Q : Option Value → List va_E → Prop} (kk : ∀ M, (∃ f, M[379]? = some (lr 20 f) ∧ NLm 20 5 f (X * X) X a 5) ∧ Kp [379] M0 M → TT G mi_Mo_fits 165 [(4, .int (nI a)), (3, .int (nI 8)), (1, .int (nI n)), (2, .int (nI 1)), (0, .ref 373)] [] M 0 0 Q) : ∀ j k M, k + j = 5 → (∃ f, M[379]? = some (lr 20 f) ∧ NLm 20 5 f (X * X) X a k) ∧ Kp [379] M0 M → TT G mi_Mo_fits 125 [(5, .int (nI k)), (4, .int (nI a)), (3, .int (nI 8)), (1, .int (nI n)), (2, .int (nI 1)), (0, .ref 373)] [] M 0 0 Q := by
  intro j
  induction j with
  | zero =>
    intro k M hk hI
    obtain rfl : 5 = k := by omega
    refine T_iload d_Mo_fits_125 rfl ?_
    refine T_iconst (v := nI 5) d_Mo_fits_127 (by decide) ?_
    refine N_icmp_ge_t (a := 5) (b := 5) d_Mo_fits_128 (tgt := 165) rfl (by omega) (by omega) (by omega) ?_
    exact T_sub (fun q hq => List.mem_cons_of_mem _ hq) (kk M hI)
  | succ j ih =>
    intro k M hk hI
    obtain ⟨⟨f, h1, hd⟩, hK⟩ := hI
    refine T_iload d_Mo_fits_125 rfl ?_
    refine T_iconst (v := nI 5) d_Mo_fits_127 (by decide) ?_
    refine N_icmp_ge_f (a := 5) (b := k) d_Mo_fits_128 (tgt := 165) rfl (by omega) (by omega) (by omega) ?_
    refine T_aload_n (v := .ref 373) d_Mo_fits_131 rfl (Or.inr ⟨_, rfl⟩) ?_
    have h_1 := (hK 373 (by decide)).trans (ho)
    refine T_getfield (v := .ref 379) d_Mo_fits_132 fg_Mo_19 h_1 rfl ?_
    refine T_iload d_Mo_fits_135 rfl ?_
    refine T_iload d_Mo_fits_137 rfl ?_
    refine N_iadd (a := k) (b := a) (c := (a + k)) d_Mo_fits_139 rfl ?_
    refine T_dup2 d_Mo_fits_140 rfl rfl ?_
    refine N_laload (k := (a + k)) (x := (f (a + k))) d_Mo_fits_141 h1 (by omega) (by decide) rfl ?_
    refine T_aload_n (v := .ref 373) d_Mo_fits_142 rfl (Or.inr ⟨_, rfl⟩) ?_
    refine T_getfield (v := .ref 378) d_Mo_fits_143 fg_Mo_15 h_1 rfl ?_
    refine T_iload d_Mo_fits_146 rfl ?_
    have h_2 := (hK 378 (by decide)).trans (h2)
    refine N_laload (k := a) (x := (l2 a)) d_Mo_fits_148 h_2 (by omega) (by decide) rfl ?_
    refine T_aload_n (v := .ref 373) d_Mo_fits_149 rfl (Or.inr ⟨_, rfl⟩) ?_
    refine T_getfield (v := .ref 377) d_Mo_fits_150 fg_Mo_22 h_1 rfl ?_
    refine T_iload d_Mo_fits_153 rfl ?_
    have h_3 := (hK 377 (by decide)).trans (hl)
    refine N_laload (k := k) (x := (l5 k)) d_Mo_fits_155 h_3 (by omega) (by decide) rfl ?_
    refine T_lmul d_Mo_fits_156 ?_
    refine T_ladd d_Mo_fits_157 ?_
    refine N_lastore (k := (a + k)) d_Mo_fits_158 (by decide) h1 (by omega) (by decide) rfl (fun M_4 h_5 s_6 => ?_)
    refine N_iinc (k := k) (m := 1) (c := (k + 1)) (L' := [(5, .int (nI ((k + 1)))), (4, .int (nI a)), (3, .int (nI 8)), (1, .int (nI n)), (2, .int (nI 1)), (0, .ref 373)]) d_Mo_fits_159 (by decide) rfl (by decide) rfl rfl ?_
    refine T_goto (tgt := 125) d_Mo_fits_162 rfl ?_
    exact ih (k + 1) M_4 (by omega) ⟨⟨_, h_5, NLm_s (na := 12) hd d2 dl ha (by omega) (by omega) (by omega)⟩, (Kp.ex (Kp.tr (Kp.rf : Kp [379] M0 M0) (Kp.mono hK (by decide))) s_6 (by decide))⟩
set_option maxHeartbeats 8000000 in
theorem fc_m (G : GX) {M0 : List va_E} {v : Nat → Int32} {X n : Nat} {l5 l2 : Nat → Int64} (ho : M0[373]? = some (moO v)) (hl : M0[377]? = some (lr 5 l5)) (dl : DL l5 5 X) (h2 : M0[378]? = some (lr 12 l2)) (d2 : DL l2 12 (X * X)) {Q : Option Value → List va_E → Prop} (kk : ∀ M, (∃ f, M[379]? = some (lr 20 f) ∧ NLs 20 f (sN (dg (X * X)) 12 * sN (dg X) 5) (5 * 12 * 4294967296)) ∧ Kp [379] M0 M → TT G mi_Mo_fits 188 [(3, .int (nI 8)), (1, .int (nI n)), (2, .int (nI 1)), (0, .ref 373)] [] M 0 0 Q) : ∀ j k M, k + j = 12 → (∃ f, M[379]? = some (lr 20 f) ∧ NLs 20 f (sN (dg (X * X)) k * sN (dg X) 5) (5 * k * 4294967296)) ∧ Kp [379] M0 M → TT G mi_Mo_fits 111 [(4, .int (nI k)), (3, .int (nI 8)), (1, .int (nI n)), (2, .int (nI 1)), (0, .ref 373)] [] M 0 0 Q := by
  intro j
  induction j with
  | zero =>
    intro k M hk hI
    obtain rfl : 12 = k := by omega
    refine T_iload d_Mo_fits_111 rfl ?_
    refine T_bipush (v := nI 12) d_Mo_fits_113 (by decide) ?_
    refine N_icmp_ge_t (a := 12) (b := 12) d_Mo_fits_115 (tgt := 188) rfl (by omega) (by omega) (by omega) ?_
    exact T_sub (fun q hq => List.mem_cons_of_mem _ hq) (kk M hI)
  | succ j ih =>
    intro k M hk hI
    obtain ⟨⟨f, h1, hd⟩, hK⟩ := hI
    refine T_iload d_Mo_fits_111 rfl ?_
    refine T_bipush (v := nI 12) d_Mo_fits_113 (by decide) ?_
    refine N_icmp_ge_f (a := 12) (b := k) d_Mo_fits_115 (tgt := 188) rfl (by omega) (by omega) (by omega) ?_
    refine T_iload_n d_Mo_fits_118 rfl ?_
    refine N_if_eq_f (b := 1) d_Mo_fits_119 (tgt := 168) rfl (by omega) (by omega) ?_
    refine T_iconst (v := nI 0) d_Mo_fits_122 (by decide) ?_
    refine T_istore (L' := [(5, .int (nI 0)), (4, .int (nI k)), (3, .int (nI 8)), (1, .int (nI n)), (2, .int (nI 1)), (0, .ref 373)]) d_Mo_fits_123 (by decide) rfl ?_
    refine fc_j G (a := k) ((hK 373 (by decide)).trans ho) ((hK 377 (by decide)).trans hl) dl ((hK 378 (by decide)).trans h2) d2 (by omega) (fun Mb hI => ?_) 5 0 M rfl ⟨⟨f, h1, NLm_0 hd⟩, Kp.rf⟩
    obtain ⟨⟨f3, h3, hd3⟩, hKb⟩ := hI
    refine T_goto (tgt := 182) d_Mo_fits_165 rfl ?_
    refine N_iinc (k := k) (m := 1) (c := (k + 1)) (L' := [(4, .int (nI ((k + 1)))), (3, .int (nI 8)), (1, .int (nI n)), (2, .int (nI 1)), (0, .ref 373)]) d_Mo_fits_182 (by decide) rfl (by decide) rfl rfl ?_
    refine T_goto (tgt := 111) d_Mo_fits_185 rfl ?_
    exact ih (k + 1) Mb (by omega) ⟨⟨f3, h3, NLm_e hd3⟩, (Kp.tr (Kp.tr (Kp.rf : Kp [379] M0 M0) (Kp.mono hK (by decide))) (Kp.mono hKb (by decide)))⟩
set_option maxHeartbeats 8000000 in
theorem fc_x (G : GX) {M : List va_E} {v : Nat → Int32} {Z n : Nat} {f : Nat → Int64} (ho : M[373]? = some (moO v)) (hf : M[379]? = some (lr 20 f)) (df : DL f 20 Z) {Q : Option Value → List va_E → Prop} (ky : (∀ i, 12 < i → i < 20 → dg Z i = 0) → TT G mi_Mo_fits 236 [(3, .int (nI 12)), (1, .int (nI n)), (2, .int (nI 1)), (0, .ref 373)] [] M 0 0 Q) (kn : ∀ k, 12 < k → k < 20 → dg Z k ≠ 0 → Q (some (.int (nI 0))) M) : ∀ j k, k + j = 20 → 12 < k → (∀ i, 12 < i → i < k → dg Z i = 0) → TT G mi_Mo_fits 209 [(4, .int (nI k)), (3, .int (nI 12)), (1, .int (nI n)), (2, .int (nI 1)), (0, .ref 373)] [] M 0 0 Q := by
  intro j
  induction j with
  | zero =>
    intro k hk hp hI
    obtain rfl : k = 20 := by omega
    refine T_iload d_Mo_fits_209 rfl ?_
    refine T_bipush (v := nI 20) d_Mo_fits_211 (by decide) ?_
    refine N_icmp_ge_t (a := 20) (b := 20) d_Mo_fits_213 (tgt := 236) rfl (by omega) (by omega) (by omega) ?_
    exact T_sub (fun q hq => List.mem_cons_of_mem _ hq) (ky hI)
  | succ j ih =>
    intro k hk hp hI
    refine T_iload d_Mo_fits_209 rfl ?_
    refine T_bipush (v := nI 20) d_Mo_fits_211 (by decide) ?_
    refine N_icmp_ge_f (a := 20) (b := k) d_Mo_fits_213 (tgt := 236) rfl (by omega) (by omega) (by omega) ?_
    refine T_aload_n (v := .ref 373) d_Mo_fits_216 rfl (Or.inr ⟨_, rfl⟩) ?_
    refine T_getfield (v := .ref 379) d_Mo_fits_217 fg_Mo_19 ho rfl ?_
    refine T_iload d_Mo_fits_220 rfl ?_
    refine N_laload (k := k) (x := (f k)) d_Mo_fits_222 hf (by omega) (by decide) rfl ?_
    refine T_lconst (v := 0) d_Mo_fits_223 (by decide) ?_
    refine T_lcmp d_Mo_fits_224 ?_
    have dk := df k (by omega)
    by_cases he : f k = 0
    · 
      refine T_if_eq d_Mo_fits_225 (tgt := 230) rfl (fun _ => ?_) (fun c => absurd (lcq_e he) c)
      refine N_iinc (k := k) (m := 1) (c := (k + 1)) (L' := [(4, .int (nI ((k + 1)))), (3, .int (nI 12)), (1, .int (nI n)), (2, .int (nI 1)), (0, .ref 373)]) d_Mo_fits_230 (by decide) rfl (by decide) rfl rfl ?_
      refine T_goto (tgt := 209) d_Mo_fits_233 rfl ?_
      exact T_sub (L' := [(4, .int (nI ((k + 1)))), (3, .int (nI 12)), (1, .int (nI n)), (2, .int (nI 1)), (0, .ref 373)]) (fun _ h => h) (ih (k + 1) (by omega) (by omega) (fun i h1 hi => by by_cases c : i = k; subst c; rw [he] at dk; have e0 : (0 : Int64).toInt = 0 := rfl; omega; exact hI i h1 (by omega)))
    · 
      refine T_if_eq d_Mo_fits_225 (tgt := 230) rfl (fun c => absurd c (lcq_n he)) (fun _ => ?_)
      refine T_iconst (v := nI 0) d_Mo_fits_228 (by decide) ?_
      exact T_ret d_Mo_fits_229 rfl (by decide) (by decide) (by decide) (kn k hp (by omega) (fun c => he (Int64.toInt_inj.mp (by rw [dk, c]; rfl))))
set_option maxHeartbeats 8000000 in
theorem fc_y (G : GX) {M : List va_E} {v : Nat → Int32} {Z n : Nat} {f : Nat → Int64} (ho : M[373]? = some (moO v)) (hf : M[379]? = some (lr 20 f)) (df : DL f 20 Z) {Q : Option Value → List va_E → Prop} (ky : (∀ i, 0 ≤ i → i < 12 → dg Z i = 0) → TT G mi_Mo_fits 295 [(3, .int (nI 12)), (1, .int (nI n)), (2, .int (nI 1)), (0, .ref 373)] [] M 0 0 Q) (kn : ∀ k,  k < 12 → dg Z k ≠ 0 → Q (some (.int (nI 0))) M) : ∀ j k, k + j = 12 → (∀ i, 0 ≤ i → i < k → dg Z i = 0) → TT G mi_Mo_fits 269 [(4, .int (nI k)), (3, .int (nI 12)), (1, .int (nI n)), (2, .int (nI 1)), (0, .ref 373)] [] M 0 0 Q := by
  intro j
  induction j with
  | zero =>
    intro k hk hI
    obtain rfl : k = 12 := by omega
    refine T_iload d_Mo_fits_269 rfl ?_
    refine T_iload_n d_Mo_fits_271 rfl ?_
    refine N_icmp_ge_t (a := 12) (b := 12) d_Mo_fits_272 (tgt := 295) rfl (by omega) (by omega) (by omega) ?_
    exact T_sub (fun q hq => List.mem_cons_of_mem _ hq) (ky hI)
  | succ j ih =>
    intro k hk hI
    refine T_iload d_Mo_fits_269 rfl ?_
    refine T_iload_n d_Mo_fits_271 rfl ?_
    refine N_icmp_ge_f (a := 12) (b := k) d_Mo_fits_272 (tgt := 295) rfl (by omega) (by omega) (by omega) ?_
    refine T_aload_n (v := .ref 373) d_Mo_fits_275 rfl (Or.inr ⟨_, rfl⟩) ?_
    refine T_getfield (v := .ref 379) d_Mo_fits_276 fg_Mo_19 ho rfl ?_
    refine T_iload d_Mo_fits_279 rfl ?_
    refine N_laload (k := k) (x := (f k)) d_Mo_fits_281 hf (by omega) (by decide) rfl ?_
    refine T_lconst (v := 0) d_Mo_fits_282 (by decide) ?_
    refine T_lcmp d_Mo_fits_283 ?_
    have dk := df k (by omega)
    by_cases he : f k = 0
    · 
      refine T_if_eq d_Mo_fits_284 (tgt := 289) rfl (fun _ => ?_) (fun c => absurd (lcq_e he) c)
      refine N_iinc (k := k) (m := 1) (c := (k + 1)) (L' := [(4, .int (nI ((k + 1)))), (3, .int (nI 12)), (1, .int (nI n)), (2, .int (nI 1)), (0, .ref 373)]) d_Mo_fits_289 (by decide) rfl (by decide) rfl rfl ?_
      refine T_goto (tgt := 269) d_Mo_fits_292 rfl ?_
      exact T_sub (L' := [(4, .int (nI ((k + 1)))), (3, .int (nI 12)), (1, .int (nI n)), (2, .int (nI 1)), (0, .ref 373)]) (fun _ h => h) (ih (k + 1) (by omega) (fun i h1 hi => by by_cases c : i = k; subst c; rw [he] at dk; have e0 : (0 : Int64).toInt = 0 := rfl; omega; exact hI i h1 (by omega)))
    · 
      refine T_if_eq d_Mo_fits_284 (tgt := 289) rfl (fun c => absurd c (lcq_n he)) (fun _ => ?_)
      refine T_iconst (v := nI 0) d_Mo_fits_287 (by decide) ?_
      exact T_ret d_Mo_fits_288 rfl (by decide) (by decide) (by decide) (kn k (by omega) (fun c => he (Int64.toInt_inj.mp (by rw [dk, c]; rfl))))
set_option maxHeartbeats 8000000 in
theorem u_Mo_fits_c {G : GX} {M : List va_E} {v : Nat → Int32} {X n : Nat} {l5 : Nat → Int64} (ho : M[373]? = some (moO v)) (hl : M[377]? = some (lr 5 l5)) (dl : DL l5 5 X) (hX : X < 65536 ^ 5) (hn : n < 65536) (q2 : LQ M 378 12) (q3 : LQ M 379 20) : CT G mi_Mo_fits [.ref 373, .int (nI n), .int (nI 1)] M (fun r M' => r = some (.int (nI (if ((X * X) * X) ≤ n * 65536 ^ 12 then 1 else 0))) ∧ LQ M' 378 12 ∧ LQ M' 379 20 ∧ Kp [378, 379] M M') := by
  obtain ⟨g2, q2⟩ := q2
  obtain ⟨g3, q3⟩ := q3
  refine CT.of (by decide) (Nat.le_of_ble_eq_true rfl) ?_
  show TT G mi_Mo_fits 0 [(0, .ref 373), (1, .int (nI n)), (2, .int (nI 1))] [] M 0 0 _
  refine T_iconst (v := nI 0) d_Mo_fits_0 (by decide) ?_
  refine T_istore_n (L' := [(3, .int (nI 0)), (0, .ref 373), (1, .int (nI n)), (2, .int (nI 1))]) d_Mo_fits_1 (by decide) rfl ?_
  refine T_sub (L' := [(3, .int (nI 0)), (1, .int (nI n)), (2, .int (nI 1)), (0, .ref 373)]) (fun q hq => by simp only [List.mem_cons, List.not_mem_nil, or_false] at hq ⊢; rcases hq with rfl | rfl | rfl | rfl <;> simp) ?_
  refine fc_2 G ho (fun Ma hI => ?_) 12 0 M rfl ⟨⟨g2, q2, fun i hi => absurd hi (Nat.not_lt_zero i)⟩, Kp.rf⟩
  obtain ⟨⟨fa, a1, a2⟩, ka⟩ := hI
  refine T_iconst (v := nI 0) d_Mo_fits_21 (by decide) ?_
  refine T_istore_n (L' := [(3, .int (nI 0)), (1, .int (nI n)), (2, .int (nI 1)), (0, .ref 373)]) d_Mo_fits_22 (by decide) rfl ?_
  refine fc_3 G ((ka 373 (by decide)).trans ho) (fun Mb hI => ?_) 20 0 Ma rfl ⟨⟨g3, (ka 379 (by decide)).trans q3, fun i hi => absurd hi (Nat.not_lt_zero i)⟩, Kp.rf⟩
  obtain ⟨⟨fb, b1, b2⟩, kb⟩ := hI
  refine T_iconst (v := nI 0) d_Mo_fits_42 (by decide) ?_
  refine T_istore_n (L' := [(3, .int (nI 0)), (1, .int (nI n)), (2, .int (nI 1)), (0, .ref 373)]) d_Mo_fits_43 (by decide) rfl ?_
  have kab : Kp [378, 379] M Mb := Kp.tr (Kp.mono ka (by decide)) (Kp.mono kb (by decide))
  refine fc_o G ((kab 373 (by decide)).trans ho) ((kab 377 (by decide)).trans hl) dl (fun Mc hI => ?_) 5 0 Mb rfl ⟨⟨fa, (kb 378 (by decide)).trans a1, by have g := NLs_0 a2; show NLs 12 fa (0 * _) (5 * 0 * _); rw [Nat.zero_mul, Nat.mul_zero, Nat.zero_mul]; exact g⟩, Kp.rf⟩
  obtain ⟨⟨fc, c1, c2⟩, kc⟩ := hI
  rw [sN_v hX] at c2
  refine T_aload_n (v := .ref 373) d_Mo_fits_96 rfl (Or.inr ⟨_, rfl⟩) ?_
  have h_1 := (kc 373 (by decide)).trans ((kb 373 (by decide)).trans ((ka 373 (by decide)).trans (ho)))
  refine T_getfield (v := .ref 378) d_Mo_fits_97 fg_Mo_15 h_1 rfl ?_
  refine T_bipush (v := nI 12) d_Mo_fits_100 (by decide) ?_
  refine T_static (as := [.ref 378, .int (nI 12)]) (rest := []) d_Mo_fits_102 rfl (jw_Mo_carries.jo (by decide)) lm_Mo_25 jt_Mo_carries rfl (Nat.le_of_ble_eq_true rfl) (by decide) (by decide) (u_Mo_ca_12 c1 c2 (by decide) (sq_lt hX)) (fun r Md hq => ?_)
  obtain ⟨rfl, ⟨fd, d1, d2⟩, kd⟩ := hq
  refine T_eq (pc' := 105) (L' := [(1, .int (nI n)), (2, .int (nI 1)), (0, .ref 373)]) (st' := []) (M' := Md) rfl rfl rfl rfl ?_
  refine T_bipush (v := nI 8) d_Mo_fits_105 (by decide) ?_
  refine T_istore_n (L' := [(3, .int (nI 8)), (1, .int (nI n)), (2, .int (nI 1)), (0, .ref 373)]) d_Mo_fits_107 (by decide) rfl ?_
  refine T_iconst (v := nI 0) d_Mo_fits_108 (by decide) ?_
  refine T_istore (L' := [(4, .int (nI 0)), (3, .int (nI 8)), (1, .int (nI n)), (2, .int (nI 1)), (0, .ref 373)]) d_Mo_fits_109 (by decide) rfl ?_
  have kad : Kp [378, 379] M Md := Kp.tr (Kp.tr kab (Kp.mono kc (by decide))) (Kp.mono kd (by decide))
  refine fc_m G ((kad 373 (by decide)).trans ho) ((kad 377 (by decide)).trans hl) dl d1 d2 (fun Me hI => ?_) 12 0 Md rfl ⟨⟨fb, ((kd 379 (by decide)).trans ((kc 379 (by decide)).trans b1)), by have g := NLs_0 b2; show NLs 20 fb (0 * _) (5 * 0 * _); rw [Nat.zero_mul, Nat.mul_zero, Nat.zero_mul]; exact g⟩, Kp.rf⟩
  obtain ⟨⟨fe, e1, e2⟩, ke⟩ := hI
  rw [sN_v (sq_lt hX), sN_v hX] at e2
  have kae : Kp [378, 379] M Me := Kp.tr kad (Kp.mono ke (by decide))
  refine T_iload_n d_Mo_fits_188 rfl ?_
  refine N_if_eq_f (b := 1) d_Mo_fits_189 (tgt := 204) rfl (by omega) (by omega) ?_
  refine T_bipush (v := nI 12) d_Mo_fits_192 (by decide) ?_
  refine T_istore_n (L' := [(3, .int (nI 12)), (1, .int (nI n)), (2, .int (nI 1)), (0, .ref 373)]) d_Mo_fits_194 (by decide) rfl ?_
  refine T_aload_n (v := .ref 373) d_Mo_fits_195 rfl (Or.inr ⟨_, rfl⟩) ?_
  have h_2 := (ke 373 (by decide)).trans ((kd 373 (by decide)).trans (h_1))
  refine T_getfield (v := .ref 379) d_Mo_fits_196 fg_Mo_19 h_2 rfl ?_
  refine T_bipush (v := nI 20) d_Mo_fits_199 (by decide) ?_
  refine T_static (as := [.ref 379, .int (nI 20)]) (rest := []) d_Mo_fits_201 rfl (jw_Mo_carries.jo (by decide)) lm_Mo_25 jt_Mo_carries rfl (Nat.le_of_ble_eq_true rfl) (by decide) (by decide) (u_Mo_ca_20 e1 e2 (by decide) (cu_lt hX)) (fun r Mf hq => ?_)
  obtain ⟨rfl, ⟨ff, f1, dZ⟩, kf⟩ := hq
  have kall : Kp [378, 379] M Mf := Kp.tr kae (Kp.mono kf (by decide))
  have r2f : LQ Mf 378 12 := ⟨fd, (kf 378 (by decide)).trans ((ke 378 (by decide)).trans d1)⟩
  refine T_eq (pc' := 204) (L' := [(3, .int (nI 12)), (1, .int (nI n)), (2, .int (nI 1)), (0, .ref 373)]) (st' := []) (M' := Mf) rfl rfl rfl rfl ?_
  refine T_iload_n d_Mo_fits_204 rfl ?_
  refine T_iconst (v := nI 1) d_Mo_fits_205 (by decide) ?_
  refine N_iadd (a := 1) (b := 12) (c := 13) d_Mo_fits_206 rfl ?_
  refine T_istore (L' := [(4, .int (nI 13)), (3, .int (nI 12)), (1, .int (nI n)), (2, .int (nI 1)), (0, .ref 373)]) d_Mo_fits_207 (by decide) rfl ?_
  have hoF := (kall 373 (by decide)).trans ho
  have hZ : ((X * X) * X) < 65536 ^ 20 := cu_lt hX
  refine fc_x G hoF f1 dZ (fun hx => ?_) (fun k h1 h2 h3 => ⟨by rw [if_neg (ft_hi h3 h1 hn)], r2f, ⟨ff, f1⟩, kall⟩) 7 13 rfl (by decide) (fun i h1 h2 => by omega)
  have hd := ft_lo hx hZ (by decide)
  have dP := dZ 12 (by decide)
  have n64 := nI64 (show n < 2147483648 by omega)
  refine T_aload_n (v := .ref 373) d_Mo_fits_236 rfl (Or.inr ⟨_, rfl⟩) ?_
  have h_3 := (kf 373 (by decide)).trans (h_2)
  refine T_getfield (v := .ref 379) d_Mo_fits_237 fg_Mo_19 h_3 rfl ?_
  refine T_iload_n d_Mo_fits_240 rfl ?_
  refine N_laload (k := 12) (x := (ff 12)) d_Mo_fits_241 f1 (by omega) (by decide) rfl ?_
  refine T_iload_n d_Mo_fits_242 rfl ?_
  refine T_i2l d_Mo_fits_243 ?_
  refine T_lcmp d_Mo_fits_244 ?_
  by_cases he : ff 12 = (nI n).toInt64
  · 
    have eq : ((X * X) * X) / 65536 ^ 12 = n := by rw [hd]; rw [he, n64] at dP; omega
    refine T_if_eq d_Mo_fits_245 (tgt := 266) rfl (fun _ => ?_) (fun c => absurd (lcq_e he) c)
    refine T_iconst (v := nI 0) d_Mo_fits_266 (by decide) ?_
    refine T_istore (L' := [(4, .int (nI 0)), (3, .int (nI 12)), (1, .int (nI n)), (2, .int (nI 1)), (0, .ref 373)]) d_Mo_fits_267 (by decide) rfl ?_
    refine fc_y G hoF f1 dZ (fun hy => ?_) (fun k h2 h3 => ⟨by rw [if_neg (ft_nz eq h2 h3)], r2f, ⟨ff, f1⟩, kall⟩) 12 0 rfl (fun i h1 h2 => by omega)
    refine T_iconst (v := nI 1) d_Mo_fits_295 (by decide) ?_
    exact T_ret d_Mo_fits_296 rfl (by decide) (by decide) (by decide) ⟨by rw [if_pos (ft_z eq (fun k hk => hy k (Nat.zero_le k) hk))], r2f, ⟨ff, f1⟩, kall⟩
  · 
    refine T_if_eq d_Mo_fits_245 (tgt := 266) rfl (fun c => absurd c (lcq_n he)) (fun _ => ?_)
    refine T_aload_n (v := .ref 373) d_Mo_fits_248 rfl (Or.inr ⟨_, rfl⟩) ?_
    refine T_getfield (v := .ref 379) d_Mo_fits_249 fg_Mo_19 h_3 rfl ?_
    refine T_iload_n d_Mo_fits_252 rfl ?_
    refine N_laload (k := 12) (x := (ff 12)) d_Mo_fits_253 f1 (by omega) (by decide) rfl ?_
    refine T_iload_n d_Mo_fits_254 rfl ?_
    refine T_i2l d_Mo_fits_255 ?_
    refine T_lcmp d_Mo_fits_256 ?_
    have ne : dg ((X * X) * X) 12 ≠ n := fun c => he (Int64.toInt_inj.mp (by rw [dP, n64, c]))
    by_cases hlt : ff 12 < (nI n).toInt64
    · 
      have hlt2 := hlt
      rw [Int64.lt_iff_toInt_lt, dP, n64] at hlt2
      refine T_if_ge d_Mo_fits_257 (tgt := 264) rfl (fun c => absurd c (lcq_lt hlt)) (fun _ => ?_)
      refine T_iconst (v := nI 1) d_Mo_fits_260 (by decide) ?_
      refine T_goto (tgt := 265) d_Mo_fits_261 rfl ?_
      exact T_ret d_Mo_fits_265 rfl (by decide) (by decide) (by decide) ⟨by rw [if_pos (ft_lt (by omega))], r2f, ⟨ff, f1⟩, kall⟩
    · 
      have hlt2 := hlt
      rw [Int64.lt_iff_toInt_lt, dP, n64] at hlt2
      refine T_if_ge d_Mo_fits_257 (tgt := 264) rfl (fun _ => ?_) (fun c => absurd (lcq_ge hlt) c)
      refine T_iconst (v := nI 0) d_Mo_fits_264 (by decide) ?_
      exact T_ret d_Mo_fits_265 rfl (by decide) (by decide) (by decide) ⟨by rw [if_neg (ft_gt (by omega))], r2f, ⟨ff, f1⟩, kall⟩
set_option maxHeartbeats 8000000 in
theorem fs_2 (G : GX) {M0 : List va_E} {v : Nat → Int32} {n : Nat} (ho : M0[373]? = some (moO v)) {Q : Option Value → List va_E → Prop} (kk : ∀ M, (∃ f, M[378]? = some (lr 12 f) ∧ ∀ i, i < 12 → f i = 0) ∧ Kp [378] M0 M → TT G mi_Mo_fits 21 [(1, .int (nI n)), (2, .int (nI 0)), (0, .ref 373)] [] M 0 0 Q) : ∀ j k M, k + j = 12 → (∃ f, M[378]? = some (lr 12 f) ∧ ∀ i, i < k → f i = 0) ∧ Kp [378] M0 M → TT G mi_Mo_fits 2 [(3, .int (nI k)), (1, .int (nI n)), (2, .int (nI 0)), (0, .ref 373)] [] M 0 0 Q := by
  intro j
  induction j with
  | zero =>
    intro k M hk hI
    obtain rfl : 12 = k := by omega
    refine T_iload_n d_Mo_fits_2 rfl ?_
    refine T_bipush (v := nI 12) d_Mo_fits_3 (by decide) ?_
    refine N_icmp_ge_t (a := 12) (b := 12) d_Mo_fits_5 (tgt := 21) rfl (by omega) (by omega) (by omega) ?_
    exact T_sub (fun q hq => List.mem_cons_of_mem _ hq) (kk M hI)
  | succ j ih =>
    intro k M hk hI
    obtain ⟨⟨f, h1, h2⟩, hK⟩ := hI
    refine T_iload_n d_Mo_fits_2 rfl ?_
    refine T_bipush (v := nI 12) d_Mo_fits_3 (by decide) ?_
    refine N_icmp_ge_f (a := 12) (b := k) d_Mo_fits_5 (tgt := 21) rfl (by omega) (by omega) (by omega) ?_
    refine T_aload_n (v := .ref 373) d_Mo_fits_8 rfl (Or.inr ⟨_, rfl⟩) ?_
    have h_1 := (hK 373 (by decide)).trans (ho)
    refine T_getfield (v := .ref 378) d_Mo_fits_9 fg_Mo_15 h_1 rfl ?_
    refine T_iload_n d_Mo_fits_12 rfl ?_
    refine T_lconst (v := 0) d_Mo_fits_13 (by decide) ?_
    refine N_lastore (k := k) d_Mo_fits_14 (by decide) h1 (by omega) (by decide) rfl (fun M_2 h_3 s_4 => ?_)
    refine N_iinc (k := k) (m := 1) (c := (k + 1)) (L' := [(3, .int (nI ((k + 1)))), (1, .int (nI n)), (2, .int (nI 0)), (0, .ref 373)]) d_Mo_fits_15 (by decide) rfl (by decide) rfl rfl ?_
    refine T_goto (tgt := 2) d_Mo_fits_18 rfl ?_
    exact ih (k + 1) M_2 (by omega) ⟨⟨_, h_3, fun i hi => by by_cases c : i = k; subst c; exact uL_s; rw [uL_n c]; exact h2 i (by omega)⟩, (Kp.ex (Kp.tr (Kp.rf : Kp [378] M0 M0) (Kp.mono hK (by decide))) s_4 (by decide))⟩
set_option maxHeartbeats 8000000 in
theorem fs_3 (G : GX) {M0 : List va_E} {v : Nat → Int32} {n : Nat} (ho : M0[373]? = some (moO v)) {Q : Option Value → List va_E → Prop} (kk : ∀ M, (∃ f, M[379]? = some (lr 20 f) ∧ ∀ i, i < 20 → f i = 0) ∧ Kp [379] M0 M → TT G mi_Mo_fits 42 [(1, .int (nI n)), (2, .int (nI 0)), (0, .ref 373)] [] M 0 0 Q) : ∀ j k M, k + j = 20 → (∃ f, M[379]? = some (lr 20 f) ∧ ∀ i, i < k → f i = 0) ∧ Kp [379] M0 M → TT G mi_Mo_fits 23 [(3, .int (nI k)), (1, .int (nI n)), (2, .int (nI 0)), (0, .ref 373)] [] M 0 0 Q := by
  intro j
  induction j with
  | zero =>
    intro k M hk hI
    obtain rfl : 20 = k := by omega
    refine T_iload_n d_Mo_fits_23 rfl ?_
    refine T_bipush (v := nI 20) d_Mo_fits_24 (by decide) ?_
    refine N_icmp_ge_t (a := 20) (b := 20) d_Mo_fits_26 (tgt := 42) rfl (by omega) (by omega) (by omega) ?_
    exact T_sub (fun q hq => List.mem_cons_of_mem _ hq) (kk M hI)
  | succ j ih =>
    intro k M hk hI
    obtain ⟨⟨f, h1, h2⟩, hK⟩ := hI
    refine T_iload_n d_Mo_fits_23 rfl ?_
    refine T_bipush (v := nI 20) d_Mo_fits_24 (by decide) ?_
    refine N_icmp_ge_f (a := 20) (b := k) d_Mo_fits_26 (tgt := 42) rfl (by omega) (by omega) (by omega) ?_
    refine T_aload_n (v := .ref 373) d_Mo_fits_29 rfl (Or.inr ⟨_, rfl⟩) ?_
    have h_1 := (hK 373 (by decide)).trans (ho)
    refine T_getfield (v := .ref 379) d_Mo_fits_30 fg_Mo_19 h_1 rfl ?_
    refine T_iload_n d_Mo_fits_33 rfl ?_
    refine T_lconst (v := 0) d_Mo_fits_34 (by decide) ?_
    refine N_lastore (k := k) d_Mo_fits_35 (by decide) h1 (by omega) (by decide) rfl (fun M_2 h_3 s_4 => ?_)
    refine N_iinc (k := k) (m := 1) (c := (k + 1)) (L' := [(3, .int (nI ((k + 1)))), (1, .int (nI n)), (2, .int (nI 0)), (0, .ref 373)]) d_Mo_fits_36 (by decide) rfl (by decide) rfl rfl ?_
    refine T_goto (tgt := 23) d_Mo_fits_39 rfl ?_
    exact ih (k + 1) M_2 (by omega) ⟨⟨_, h_3, fun i hi => by by_cases c : i = k; subst c; exact uL_s; rw [uL_n c]; exact h2 i (by omega)⟩, (Kp.ex (Kp.tr (Kp.rf : Kp [379] M0 M0) (Kp.mono hK (by decide))) s_4 (by decide))⟩
set_option maxHeartbeats 8000000 in
theorem fs_i (G : GX) {M0 : List va_E} {v : Nat → Int32} {X n a : Nat} {l5 : Nat → Int64} (ho : M0[373]? = some (moO v)) (hl : M0[377]? = some (lr 5 l5)) (dl : DL l5 5 X) (ha : a < 5) {Q : Option Value → List va_E → Prop} (kk : ∀ M, (∃ f, M[378]? = some (lr 12 f) ∧ NLm 12 5 f X X a 5) ∧ Kp [378] M0 M → TT G mi_Mo_fits 90 [(3, .int (nI a)), (1, .int (nI n)), (2, .int (nI 0)), (0, .ref 373)] [] M 0 0 Q) : ∀ j k M, k + j = 5 → (∃ f, M[378]? = some (lr 12 f) ∧ NLm 12 5 f X X a k) ∧ Kp [378] M0 M → TT G mi_Mo_fits 52 [(4, .int (nI k)), (3, .int (nI a)), (1, .int (nI n)), (2, .int (nI 0)), (0, .ref 373)] [] M 0 0 Q := by
  intro j
  induction j with
  | zero =>
    intro k M hk hI
    obtain rfl : 5 = k := by omega
    refine T_iload d_Mo_fits_52 rfl ?_
    refine T_iconst (v := nI 5) d_Mo_fits_54 (by decide) ?_
    refine N_icmp_ge_t (a := 5) (b := 5) d_Mo_fits_55 (tgt := 90) rfl (by omega) (by omega) (by omega) ?_
    exact T_sub (fun q hq => List.mem_cons_of_mem _ hq) (kk M hI)
  | succ j ih =>
    intro k M hk hI
    obtain ⟨⟨f, h1, hd⟩, hK⟩ := hI
    refine T_iload d_Mo_fits_52 rfl ?_
    refine T_iconst (v := nI 5) d_Mo_fits_54 (by decide) ?_
    refine N_icmp_ge_f (a := 5) (b := k) d_Mo_fits_55 (tgt := 90) rfl (by omega) (by omega) (by omega) ?_
    refine T_aload_n (v := .ref 373) d_Mo_fits_58 rfl (Or.inr ⟨_, rfl⟩) ?_
    have h_1 := (hK 373 (by decide)).trans (ho)
    refine T_getfield (v := .ref 378) d_Mo_fits_59 fg_Mo_15 h_1 rfl ?_
    refine T_iload_n d_Mo_fits_62 rfl ?_
    refine T_iload d_Mo_fits_63 rfl ?_
    refine N_iadd (a := k) (b := a) (c := (a + k)) d_Mo_fits_65 rfl ?_
    refine T_dup2 d_Mo_fits_66 rfl rfl ?_
    refine N_laload (k := (a + k)) (x := (f (a + k))) d_Mo_fits_67 h1 (by omega) (by decide) rfl ?_
    refine T_aload_n (v := .ref 373) d_Mo_fits_68 rfl (Or.inr ⟨_, rfl⟩) ?_
    refine T_getfield (v := .ref 377) d_Mo_fits_69 fg_Mo_22 h_1 rfl ?_
    refine T_iload_n d_Mo_fits_72 rfl ?_
    have h_2 := (hK 377 (by decide)).trans (hl)
    refine N_laload (k := a) (x := (l5 a)) d_Mo_fits_73 h_2 (by omega) (by decide) rfl ?_
    refine T_aload_n (v := .ref 373) d_Mo_fits_74 rfl (Or.inr ⟨_, rfl⟩) ?_
    refine T_getfield (v := .ref 377) d_Mo_fits_75 fg_Mo_22 h_1 rfl ?_
    refine T_iload d_Mo_fits_78 rfl ?_
    refine N_laload (k := k) (x := (l5 k)) d_Mo_fits_80 h_2 (by omega) (by decide) rfl ?_
    refine T_lmul d_Mo_fits_81 ?_
    refine T_ladd d_Mo_fits_82 ?_
    refine N_lastore (k := (a + k)) d_Mo_fits_83 (by decide) h1 (by omega) (by decide) rfl (fun M_3 h_4 s_5 => ?_)
    refine N_iinc (k := k) (m := 1) (c := (k + 1)) (L' := [(4, .int (nI ((k + 1)))), (3, .int (nI a)), (1, .int (nI n)), (2, .int (nI 0)), (0, .ref 373)]) d_Mo_fits_84 (by decide) rfl (by decide) rfl rfl ?_
    refine T_goto (tgt := 52) d_Mo_fits_87 rfl ?_
    exact ih (k + 1) M_3 (by omega) ⟨⟨_, h_4, NLm_s (na := 5) hd dl dl ha (by omega) (by omega) (by omega)⟩, (Kp.ex (Kp.tr (Kp.rf : Kp [378] M0 M0) (Kp.mono hK (by decide))) s_5 (by decide))⟩
set_option maxHeartbeats 8000000 in
theorem fs_o (G : GX) {M0 : List va_E} {v : Nat → Int32} {X n : Nat} {l5 : Nat → Int64} (ho : M0[373]? = some (moO v)) (hl : M0[377]? = some (lr 5 l5)) (dl : DL l5 5 X) {Q : Option Value → List va_E → Prop} (kk : ∀ M, (∃ f, M[378]? = some (lr 12 f) ∧ NLs 12 f (sN (dg X) 5 * sN (dg X) 5) (5 * 5 * 4294967296)) ∧ Kp [378] M0 M → TT G mi_Mo_fits 96 [(1, .int (nI n)), (2, .int (nI 0)), (0, .ref 373)] [] M 0 0 Q) : ∀ j k M, k + j = 5 → (∃ f, M[378]? = some (lr 12 f) ∧ NLs 12 f (sN (dg X) k * sN (dg X) 5) (5 * k * 4294967296)) ∧ Kp [378] M0 M → TT G mi_Mo_fits 44 [(3, .int (nI k)), (1, .int (nI n)), (2, .int (nI 0)), (0, .ref 373)] [] M 0 0 Q := by
  intro j
  induction j with
  | zero =>
    intro k M hk hI
    obtain rfl : 5 = k := by omega
    refine T_iload_n d_Mo_fits_44 rfl ?_
    refine T_iconst (v := nI 5) d_Mo_fits_45 (by decide) ?_
    refine N_icmp_ge_t (a := 5) (b := 5) d_Mo_fits_46 (tgt := 96) rfl (by omega) (by omega) (by omega) ?_
    exact T_sub (fun q hq => List.mem_cons_of_mem _ hq) (kk M hI)
  | succ j ih =>
    intro k M hk hI
    obtain ⟨⟨f, h1, hd⟩, hK⟩ := hI
    refine T_iload_n d_Mo_fits_44 rfl ?_
    refine T_iconst (v := nI 5) d_Mo_fits_45 (by decide) ?_
    refine N_icmp_ge_f (a := 5) (b := k) d_Mo_fits_46 (tgt := 96) rfl (by omega) (by omega) (by omega) ?_
    refine T_iconst (v := nI 0) d_Mo_fits_49 (by decide) ?_
    refine T_istore (L' := [(4, .int (nI 0)), (3, .int (nI k)), (1, .int (nI n)), (2, .int (nI 0)), (0, .ref 373)]) d_Mo_fits_50 (by decide) rfl ?_
    refine fs_i G (a := k) ((hK 373 (by decide)).trans ho) ((hK 377 (by decide)).trans hl) dl (by omega) (fun Mb hI => ?_) 5 0 M rfl ⟨⟨f, h1, NLm_0 hd⟩, Kp.rf⟩
    obtain ⟨⟨f2, h2, hd2⟩, hKb⟩ := hI
    refine N_iinc (k := k) (m := 1) (c := (k + 1)) (L' := [(3, .int (nI ((k + 1)))), (1, .int (nI n)), (2, .int (nI 0)), (0, .ref 373)]) d_Mo_fits_90 (by decide) rfl (by decide) rfl rfl ?_
    refine T_goto (tgt := 44) d_Mo_fits_93 rfl ?_
    exact ih (k + 1) Mb (by omega) ⟨⟨f2, h2, NLm_e hd2⟩, (Kp.tr (Kp.tr (Kp.rf : Kp [378] M0 M0) (Kp.mono hK (by decide))) (Kp.mono hKb (by decide)))⟩
set_option maxHeartbeats 8000000 in
theorem fs_m (G : GX) {M0 : List va_E} {v : Nat → Int32} {X n : Nat} {l5 l2 : Nat → Int64} (ho : M0[373]? = some (moO v)) (hl : M0[377]? = some (lr 5 l5)) (dl : DL l5 5 X) (h2 : M0[378]? = some (lr 12 l2)) (d2 : DL l2 12 (X * X)) {Q : Option Value → List va_E → Prop} (kk : ∀ M, (∃ f, M[379]? = some (lr 20 f) ∧ (∀ i, i < 12 → (f i).toInt = ((dg (X * X) i : Nat) : Int)) ∧ ∀ i, 12 ≤ i → i < 20 → f i = 0) ∧ Kp [379] M0 M → TT G mi_Mo_fits 188 [(3, .int (nI 8)), (1, .int (nI n)), (2, .int (nI 0)), (0, .ref 373)] [] M 0 0 Q) : ∀ j k M, k + j = 12 → (∃ f, M[379]? = some (lr 20 f) ∧ (∀ i, i < k → (f i).toInt = ((dg (X * X) i : Nat) : Int)) ∧ ∀ i, k ≤ i → i < 20 → f i = 0) ∧ Kp [379] M0 M → TT G mi_Mo_fits 111 [(4, .int (nI k)), (3, .int (nI 8)), (1, .int (nI n)), (2, .int (nI 0)), (0, .ref 373)] [] M 0 0 Q := by
  intro j
  induction j with
  | zero =>
    intro k M hk hI
    obtain rfl : 12 = k := by omega
    refine T_iload d_Mo_fits_111 rfl ?_
    refine T_bipush (v := nI 12) d_Mo_fits_113 (by decide) ?_
    refine N_icmp_ge_t (a := 12) (b := 12) d_Mo_fits_115 (tgt := 188) rfl (by omega) (by omega) (by omega) ?_
    exact T_sub (fun q hq => List.mem_cons_of_mem _ hq) (kk M hI)
  | succ j ih =>
    intro k M hk hI
    obtain ⟨⟨f, h1, hd, he⟩, hK⟩ := hI
    refine T_iload d_Mo_fits_111 rfl ?_
    refine T_bipush (v := nI 12) d_Mo_fits_113 (by decide) ?_
    refine N_icmp_ge_f (a := 12) (b := k) d_Mo_fits_115 (tgt := 188) rfl (by omega) (by omega) (by omega) ?_
    refine T_iload_n d_Mo_fits_118 rfl ?_
    refine N_if_eq_t (b := 0) d_Mo_fits_119 (tgt := 168) rfl (by omega) (by omega) ?_
    refine T_aload_n (v := .ref 373) d_Mo_fits_168 rfl (Or.inr ⟨_, rfl⟩) ?_
    have h_1 := (hK 373 (by decide)).trans (ho)
    refine T_getfield (v := .ref 379) d_Mo_fits_169 fg_Mo_19 h_1 rfl ?_
    refine T_iload d_Mo_fits_172 rfl ?_
    refine T_aload_n (v := .ref 373) d_Mo_fits_174 rfl (Or.inr ⟨_, rfl⟩) ?_
    refine T_getfield (v := .ref 378) d_Mo_fits_175 fg_Mo_15 h_1 rfl ?_
    refine T_iload d_Mo_fits_178 rfl ?_
    have h_2 := (hK 378 (by decide)).trans (h2)
    refine N_laload (k := k) (x := (l2 k)) d_Mo_fits_180 h_2 (by omega) (by decide) rfl ?_
    refine N_lastore (k := k) d_Mo_fits_181 (by decide) h1 (by omega) (by decide) rfl (fun M_3 h_4 s_5 => ?_)
    refine N_iinc (k := k) (m := 1) (c := (k + 1)) (L' := [(4, .int (nI ((k + 1)))), (3, .int (nI 8)), (1, .int (nI n)), (2, .int (nI 0)), (0, .ref 373)]) d_Mo_fits_182 (by decide) rfl (by decide) rfl rfl ?_
    refine T_goto (tgt := 111) d_Mo_fits_185 rfl ?_
    exact ih (k + 1) M_3 (by omega) ⟨⟨_, h_4, fun i hi => by by_cases c : i = k; subst c; rw [uL_s]; exact d2 _ (by omega); rw [uL_n c]; exact hd i (by omega), fun i h1 h2 => by rw [uL_n (by omega)]; exact he i (by omega) h2⟩, (Kp.ex (Kp.tr (Kp.rf : Kp [379] M0 M0) (Kp.mono hK (by decide))) s_5 (by decide))⟩
set_option maxHeartbeats 8000000 in
theorem fs_x (G : GX) {M : List va_E} {v : Nat → Int32} {Z n : Nat} {f : Nat → Int64} (ho : M[373]? = some (moO v)) (hf : M[379]? = some (lr 20 f)) (df : DL f 20 Z) {Q : Option Value → List va_E → Prop} (ky : (∀ i, 8 < i → i < 20 → dg Z i = 0) → TT G mi_Mo_fits 236 [(3, .int (nI 8)), (1, .int (nI n)), (2, .int (nI 0)), (0, .ref 373)] [] M 0 0 Q) (kn : ∀ k, 8 < k → k < 20 → dg Z k ≠ 0 → Q (some (.int (nI 0))) M) : ∀ j k, k + j = 20 → 8 < k → (∀ i, 8 < i → i < k → dg Z i = 0) → TT G mi_Mo_fits 209 [(4, .int (nI k)), (3, .int (nI 8)), (1, .int (nI n)), (2, .int (nI 0)), (0, .ref 373)] [] M 0 0 Q := by
  intro j
  induction j with
  | zero =>
    intro k hk hp hI
    obtain rfl : k = 20 := by omega
    refine T_iload d_Mo_fits_209 rfl ?_
    refine T_bipush (v := nI 20) d_Mo_fits_211 (by decide) ?_
    refine N_icmp_ge_t (a := 20) (b := 20) d_Mo_fits_213 (tgt := 236) rfl (by omega) (by omega) (by omega) ?_
    exact T_sub (fun q hq => List.mem_cons_of_mem _ hq) (ky hI)
  | succ j ih =>
    intro k hk hp hI
    refine T_iload d_Mo_fits_209 rfl ?_
    refine T_bipush (v := nI 20) d_Mo_fits_211 (by decide) ?_
    refine N_icmp_ge_f (a := 20) (b := k) d_Mo_fits_213 (tgt := 236) rfl (by omega) (by omega) (by omega) ?_
    refine T_aload_n (v := .ref 373) d_Mo_fits_216 rfl (Or.inr ⟨_, rfl⟩) ?_
    refine T_getfield (v := .ref 379) d_Mo_fits_217 fg_Mo_19 ho rfl ?_
    refine T_iload d_Mo_fits_220 rfl ?_
    refine N_laload (k := k) (x := (f k)) d_Mo_fits_222 hf (by omega) (by decide) rfl ?_
    refine T_lconst (v := 0) d_Mo_fits_223 (by decide) ?_
    refine T_lcmp d_Mo_fits_224 ?_
    have dk := df k (by omega)
    by_cases he : f k = 0
    · 
      refine T_if_eq d_Mo_fits_225 (tgt := 230) rfl (fun _ => ?_) (fun c => absurd (lcq_e he) c)
      refine N_iinc (k := k) (m := 1) (c := (k + 1)) (L' := [(4, .int (nI ((k + 1)))), (3, .int (nI 8)), (1, .int (nI n)), (2, .int (nI 0)), (0, .ref 373)]) d_Mo_fits_230 (by decide) rfl (by decide) rfl rfl ?_
      refine T_goto (tgt := 209) d_Mo_fits_233 rfl ?_
      exact T_sub (L' := [(4, .int (nI ((k + 1)))), (3, .int (nI 8)), (1, .int (nI n)), (2, .int (nI 0)), (0, .ref 373)]) (fun _ h => h) (ih (k + 1) (by omega) (by omega) (fun i h1 hi => by by_cases c : i = k; subst c; rw [he] at dk; have e0 : (0 : Int64).toInt = 0 := rfl; omega; exact hI i h1 (by omega)))
    · 
      refine T_if_eq d_Mo_fits_225 (tgt := 230) rfl (fun c => absurd c (lcq_n he)) (fun _ => ?_)
      refine T_iconst (v := nI 0) d_Mo_fits_228 (by decide) ?_
      exact T_ret d_Mo_fits_229 rfl (by decide) (by decide) (by decide) (kn k hp (by omega) (fun c => he (Int64.toInt_inj.mp (by rw [dk, c]; rfl))))
set_option maxHeartbeats 8000000 in
theorem fs_y (G : GX) {M : List va_E} {v : Nat → Int32} {Z n : Nat} {f : Nat → Int64} (ho : M[373]? = some (moO v)) (hf : M[379]? = some (lr 20 f)) (df : DL f 20 Z) {Q : Option Value → List va_E → Prop} (ky : (∀ i, 0 ≤ i → i < 8 → dg Z i = 0) → TT G mi_Mo_fits 295 [(3, .int (nI 8)), (1, .int (nI n)), (2, .int (nI 0)), (0, .ref 373)] [] M 0 0 Q) (kn : ∀ k,  k < 8 → dg Z k ≠ 0 → Q (some (.int (nI 0))) M) : ∀ j k, k + j = 8 → (∀ i, 0 ≤ i → i < k → dg Z i = 0) → TT G mi_Mo_fits 269 [(4, .int (nI k)), (3, .int (nI 8)), (1, .int (nI n)), (2, .int (nI 0)), (0, .ref 373)] [] M 0 0 Q := by
  intro j
  induction j with
  | zero =>
    intro k hk hI
    obtain rfl : k = 8 := by omega
    refine T_iload d_Mo_fits_269 rfl ?_
    refine T_iload_n d_Mo_fits_271 rfl ?_
    refine N_icmp_ge_t (a := 8) (b := 8) d_Mo_fits_272 (tgt := 295) rfl (by omega) (by omega) (by omega) ?_
    exact T_sub (fun q hq => List.mem_cons_of_mem _ hq) (ky hI)
  | succ j ih =>
    intro k hk hI
    refine T_iload d_Mo_fits_269 rfl ?_
    refine T_iload_n d_Mo_fits_271 rfl ?_
    refine N_icmp_ge_f (a := 8) (b := k) d_Mo_fits_272 (tgt := 295) rfl (by omega) (by omega) (by omega) ?_
    refine T_aload_n (v := .ref 373) d_Mo_fits_275 rfl (Or.inr ⟨_, rfl⟩) ?_
    refine T_getfield (v := .ref 379) d_Mo_fits_276 fg_Mo_19 ho rfl ?_
    refine T_iload d_Mo_fits_279 rfl ?_
    refine N_laload (k := k) (x := (f k)) d_Mo_fits_281 hf (by omega) (by decide) rfl ?_
    refine T_lconst (v := 0) d_Mo_fits_282 (by decide) ?_
    refine T_lcmp d_Mo_fits_283 ?_
    have dk := df k (by omega)
    by_cases he : f k = 0
    · 
      refine T_if_eq d_Mo_fits_284 (tgt := 289) rfl (fun _ => ?_) (fun c => absurd (lcq_e he) c)
      refine N_iinc (k := k) (m := 1) (c := (k + 1)) (L' := [(4, .int (nI ((k + 1)))), (3, .int (nI 8)), (1, .int (nI n)), (2, .int (nI 0)), (0, .ref 373)]) d_Mo_fits_289 (by decide) rfl (by decide) rfl rfl ?_
      refine T_goto (tgt := 269) d_Mo_fits_292 rfl ?_
      exact T_sub (L' := [(4, .int (nI ((k + 1)))), (3, .int (nI 8)), (1, .int (nI n)), (2, .int (nI 0)), (0, .ref 373)]) (fun _ h => h) (ih (k + 1) (by omega) (fun i h1 hi => by by_cases c : i = k; subst c; rw [he] at dk; have e0 : (0 : Int64).toInt = 0 := rfl; omega; exact hI i h1 (by omega)))
    · 
      refine T_if_eq d_Mo_fits_284 (tgt := 289) rfl (fun c => absurd c (lcq_n he)) (fun _ => ?_)
      refine T_iconst (v := nI 0) d_Mo_fits_287 (by decide) ?_
      exact T_ret d_Mo_fits_288 rfl (by decide) (by decide) (by decide) (kn k (by omega) (fun c => he (Int64.toInt_inj.mp (by rw [dk, c]; rfl))))
set_option maxHeartbeats 8000000 in
theorem u_Mo_fits_s {G : GX} {M : List va_E} {v : Nat → Int32} {X n : Nat} {l5 : Nat → Int64} (ho : M[373]? = some (moO v)) (hl : M[377]? = some (lr 5 l5)) (dl : DL l5 5 X) (hX : X < 65536 ^ 5) (hn : n < 65536) (q2 : LQ M 378 12) (q3 : LQ M 379 20) : CT G mi_Mo_fits [.ref 373, .int (nI n), .int (nI 0)] M (fun r M' => r = some (.int (nI (if (X * X) ≤ n * 65536 ^ 8 then 1 else 0))) ∧ LQ M' 378 12 ∧ LQ M' 379 20 ∧ Kp [378, 379] M M') := by
  obtain ⟨g2, q2⟩ := q2
  obtain ⟨g3, q3⟩ := q3
  refine CT.of (by decide) (Nat.le_of_ble_eq_true rfl) ?_
  show TT G mi_Mo_fits 0 [(0, .ref 373), (1, .int (nI n)), (2, .int (nI 0))] [] M 0 0 _
  refine T_iconst (v := nI 0) d_Mo_fits_0 (by decide) ?_
  refine T_istore_n (L' := [(3, .int (nI 0)), (0, .ref 373), (1, .int (nI n)), (2, .int (nI 0))]) d_Mo_fits_1 (by decide) rfl ?_
  refine T_sub (L' := [(3, .int (nI 0)), (1, .int (nI n)), (2, .int (nI 0)), (0, .ref 373)]) (fun q hq => by simp only [List.mem_cons, List.not_mem_nil, or_false] at hq ⊢; rcases hq with rfl | rfl | rfl | rfl <;> simp) ?_
  refine fs_2 G ho (fun Ma hI => ?_) 12 0 M rfl ⟨⟨g2, q2, fun i hi => absurd hi (Nat.not_lt_zero i)⟩, Kp.rf⟩
  obtain ⟨⟨fa, a1, a2⟩, ka⟩ := hI
  refine T_iconst (v := nI 0) d_Mo_fits_21 (by decide) ?_
  refine T_istore_n (L' := [(3, .int (nI 0)), (1, .int (nI n)), (2, .int (nI 0)), (0, .ref 373)]) d_Mo_fits_22 (by decide) rfl ?_
  refine fs_3 G ((ka 373 (by decide)).trans ho) (fun Mb hI => ?_) 20 0 Ma rfl ⟨⟨g3, (ka 379 (by decide)).trans q3, fun i hi => absurd hi (Nat.not_lt_zero i)⟩, Kp.rf⟩
  obtain ⟨⟨fb, b1, b2⟩, kb⟩ := hI
  refine T_iconst (v := nI 0) d_Mo_fits_42 (by decide) ?_
  refine T_istore_n (L' := [(3, .int (nI 0)), (1, .int (nI n)), (2, .int (nI 0)), (0, .ref 373)]) d_Mo_fits_43 (by decide) rfl ?_
  have kab : Kp [378, 379] M Mb := Kp.tr (Kp.mono ka (by decide)) (Kp.mono kb (by decide))
  refine fs_o G ((kab 373 (by decide)).trans ho) ((kab 377 (by decide)).trans hl) dl (fun Mc hI => ?_) 5 0 Mb rfl ⟨⟨fa, (kb 378 (by decide)).trans a1, by have g := NLs_0 a2; show NLs 12 fa (0 * _) (5 * 0 * _); rw [Nat.zero_mul, Nat.mul_zero, Nat.zero_mul]; exact g⟩, Kp.rf⟩
  obtain ⟨⟨fc, c1, c2⟩, kc⟩ := hI
  rw [sN_v hX] at c2
  refine T_aload_n (v := .ref 373) d_Mo_fits_96 rfl (Or.inr ⟨_, rfl⟩) ?_
  have h_1 := (kc 373 (by decide)).trans ((kb 373 (by decide)).trans ((ka 373 (by decide)).trans (ho)))
  refine T_getfield (v := .ref 378) d_Mo_fits_97 fg_Mo_15 h_1 rfl ?_
  refine T_bipush (v := nI 12) d_Mo_fits_100 (by decide) ?_
  refine T_static (as := [.ref 378, .int (nI 12)]) (rest := []) d_Mo_fits_102 rfl (jw_Mo_carries.jo (by decide)) lm_Mo_25 jt_Mo_carries rfl (Nat.le_of_ble_eq_true rfl) (by decide) (by decide) (u_Mo_ca_12 c1 c2 (by decide) (sq_lt hX)) (fun r Md hq => ?_)
  obtain ⟨rfl, ⟨fd, d1, d2⟩, kd⟩ := hq
  refine T_eq (pc' := 105) (L' := [(1, .int (nI n)), (2, .int (nI 0)), (0, .ref 373)]) (st' := []) (M' := Md) rfl rfl rfl rfl ?_
  refine T_bipush (v := nI 8) d_Mo_fits_105 (by decide) ?_
  refine T_istore_n (L' := [(3, .int (nI 8)), (1, .int (nI n)), (2, .int (nI 0)), (0, .ref 373)]) d_Mo_fits_107 (by decide) rfl ?_
  refine T_iconst (v := nI 0) d_Mo_fits_108 (by decide) ?_
  refine T_istore (L' := [(4, .int (nI 0)), (3, .int (nI 8)), (1, .int (nI n)), (2, .int (nI 0)), (0, .ref 373)]) d_Mo_fits_109 (by decide) rfl ?_
  have kad : Kp [378, 379] M Md := Kp.tr (Kp.tr kab (Kp.mono kc (by decide))) (Kp.mono kd (by decide))
  refine fs_m G ((kad 373 (by decide)).trans ho) ((kad 377 (by decide)).trans hl) dl d1 d2 (fun Me hI => ?_) 12 0 Md rfl ⟨⟨fb, ((kd 379 (by decide)).trans ((kc 379 (by decide)).trans b1)), fun i hi => absurd hi (Nat.not_lt_zero i), fun i _ hi => b2 i hi⟩, Kp.rf⟩
  obtain ⟨⟨ff, f1, e2, e3⟩, ke⟩ := hI
  have kae : Kp [378, 379] M Me := Kp.tr kad (Kp.mono ke (by decide))
  have dZ : DL ff 20 (X * X) := fun i hi => by by_cases c : i < 12; exact e2 i c; rw [e3 i (by omega) hi, dg_hi (Nat.lt_of_lt_of_le (sq_lt hX) (Nat.pow_le_pow_right (by decide) (by omega)))]; rfl
  have r2f : LQ Me 378 12 := ⟨fd, (ke 378 (by decide)).trans d1⟩
  have kall := kae
  refine T_iload_n d_Mo_fits_188 rfl ?_
  refine N_if_eq_t (b := 0) d_Mo_fits_189 (tgt := 204) rfl (by omega) (by omega) ?_
  refine T_iload_n d_Mo_fits_204 rfl ?_
  refine T_iconst (v := nI 1) d_Mo_fits_205 (by decide) ?_
  refine N_iadd (a := 1) (b := 8) (c := 9) d_Mo_fits_206 rfl ?_
  refine T_istore (L' := [(4, .int (nI 9)), (3, .int (nI 8)), (1, .int (nI n)), (2, .int (nI 0)), (0, .ref 373)]) d_Mo_fits_207 (by decide) rfl ?_
  have hoF := (kall 373 (by decide)).trans ho
  have hZ : (X * X) < 65536 ^ 20 := sq_lt20 hX
  refine fs_x G hoF f1 dZ (fun hx => ?_) (fun k h1 h2 h3 => ⟨by rw [if_neg (ft_hi h3 h1 hn)], r2f, ⟨ff, f1⟩, kall⟩) 11 9 rfl (by decide) (fun i h1 h2 => by omega)
  have hd := ft_lo hx hZ (by decide)
  have dP := dZ 8 (by decide)
  have n64 := nI64 (show n < 2147483648 by omega)
  refine T_aload_n (v := .ref 373) d_Mo_fits_236 rfl (Or.inr ⟨_, rfl⟩) ?_
  have h_2 := (ke 373 (by decide)).trans ((kd 373 (by decide)).trans (h_1))
  refine T_getfield (v := .ref 379) d_Mo_fits_237 fg_Mo_19 h_2 rfl ?_
  refine T_iload_n d_Mo_fits_240 rfl ?_
  refine N_laload (k := 8) (x := (ff 8)) d_Mo_fits_241 f1 (by omega) (by decide) rfl ?_
  refine T_iload_n d_Mo_fits_242 rfl ?_
  refine T_i2l d_Mo_fits_243 ?_
  refine T_lcmp d_Mo_fits_244 ?_
  by_cases he : ff 8 = (nI n).toInt64
  · 
    have eq : (X * X) / 65536 ^ 8 = n := by rw [hd]; rw [he, n64] at dP; omega
    refine T_if_eq d_Mo_fits_245 (tgt := 266) rfl (fun _ => ?_) (fun c => absurd (lcq_e he) c)
    refine T_iconst (v := nI 0) d_Mo_fits_266 (by decide) ?_
    refine T_istore (L' := [(4, .int (nI 0)), (3, .int (nI 8)), (1, .int (nI n)), (2, .int (nI 0)), (0, .ref 373)]) d_Mo_fits_267 (by decide) rfl ?_
    refine fs_y G hoF f1 dZ (fun hy => ?_) (fun k h2 h3 => ⟨by rw [if_neg (ft_nz eq h2 h3)], r2f, ⟨ff, f1⟩, kall⟩) 8 0 rfl (fun i h1 h2 => by omega)
    refine T_iconst (v := nI 1) d_Mo_fits_295 (by decide) ?_
    exact T_ret d_Mo_fits_296 rfl (by decide) (by decide) (by decide) ⟨by rw [if_pos (ft_z eq (fun k hk => hy k (Nat.zero_le k) hk))], r2f, ⟨ff, f1⟩, kall⟩
  · 
    refine T_if_eq d_Mo_fits_245 (tgt := 266) rfl (fun c => absurd c (lcq_n he)) (fun _ => ?_)
    refine T_aload_n (v := .ref 373) d_Mo_fits_248 rfl (Or.inr ⟨_, rfl⟩) ?_
    refine T_getfield (v := .ref 379) d_Mo_fits_249 fg_Mo_19 h_2 rfl ?_
    refine T_iload_n d_Mo_fits_252 rfl ?_
    refine N_laload (k := 8) (x := (ff 8)) d_Mo_fits_253 f1 (by omega) (by decide) rfl ?_
    refine T_iload_n d_Mo_fits_254 rfl ?_
    refine T_i2l d_Mo_fits_255 ?_
    refine T_lcmp d_Mo_fits_256 ?_
    have ne : dg (X * X) 8 ≠ n := fun c => he (Int64.toInt_inj.mp (by rw [dP, n64, c]))
    by_cases hlt : ff 8 < (nI n).toInt64
    · 
      have hlt2 := hlt
      rw [Int64.lt_iff_toInt_lt, dP, n64] at hlt2
      refine T_if_ge d_Mo_fits_257 (tgt := 264) rfl (fun c => absurd c (lcq_lt hlt)) (fun _ => ?_)
      refine T_iconst (v := nI 1) d_Mo_fits_260 (by decide) ?_
      refine T_goto (tgt := 265) d_Mo_fits_261 rfl ?_
      exact T_ret d_Mo_fits_265 rfl (by decide) (by decide) (by decide) ⟨by rw [if_pos (ft_lt (by omega))], r2f, ⟨ff, f1⟩, kall⟩
    · 
      have hlt2 := hlt
      rw [Int64.lt_iff_toInt_lt, dP, n64] at hlt2
      refine T_if_ge d_Mo_fits_257 (tgt := 264) rfl (fun _ => ?_) (fun c => absurd (lcq_ge hlt) c)
      refine T_iconst (v := nI 0) d_Mo_fits_264 (by decide) ?_
      exact T_ret d_Mo_fits_265 rfl (by decide) (by decide) (by decide) ⟨by rw [if_neg (ft_gt (by omega))], r2f, ⟨ff, f1⟩, kall⟩
set_option maxHeartbeats 8000000 in
theorem or4 {a b c d : Int64} {X : Nat} (ha : a.toInt = ((dg X 0 : Nat) : Int)) (hb : b.toInt = ((dg X 1 : Nat) : Int)) (hc : c.toInt = ((dg X 2 : Nat) : Int)) (hd : d.toInt = ((dg X 3 : Nat) : Int)) : (((a ||| (b <<< ((nI 16).toInt64 &&& 63))) ||| (c <<< ((nI 32).toInt64 &&& 63))) ||| (d <<< ((nI 48).toInt64 &&& 63))) = Int64.ofNat (X % 18446744073709551616) := by
  have tn : ∀ {u : Int64} {x : Nat}, u.toInt = (x : Int) → u.toBitVec.toNat = x := fun {u x} h => by have := i64_nn (z := u) (by omega); omega
  have a1 := tn ha
  have b1 := tn hb
  have c1 := tn hc
  have d1 := tn hd
  have l0 := dg_lt X 0
  have l1 := dg_lt X 1
  have l2 := dg_lt X 2
  have l3 := dg_lt X 3
  apply Int64.toBitVec_inj.mp
  apply BitVec.eq_of_toNat_eq
  have e1 : (((a ||| (b <<< ((nI 16).toInt64 &&& 63))) ||| (c <<< ((nI 32).toInt64 &&& 63))) ||| (d <<< ((nI 48).toInt64 &&& 63))).toBitVec = ((a.toBitVec ||| (b.toBitVec <<< 16)) ||| (c.toBitVec <<< 32)) ||| (d.toBitVec <<< 48) := rfl
  rw [e1, BitVec.toNat_or, BitVec.toNat_or, BitVec.toNat_or, BitVec.toNat_shiftLeft, BitVec.toNat_shiftLeft, BitVec.toNat_shiftLeft, a1, b1, c1, d1]
  rw [Nat.mod_eq_of_lt (a := dg X 1 <<< 16) (by rw [Nat.shiftLeft_eq]; omega), Nat.mod_eq_of_lt (a := dg X 2 <<< 32) (by rw [Nat.shiftLeft_eq]; omega), Nat.mod_eq_of_lt (a := dg X 3 <<< 48) (by rw [Nat.shiftLeft_eq]; omega)]
  have r : (Int64.ofNat (X % 18446744073709551616)).toBitVec.toNat = X % 18446744073709551616 := by
    show (BitVec.ofNat 64 _).toNat = _
    rw [BitVec.toNat_ofNat]; omega
  rw [r]
  have s1 : dg X 0 ||| dg X 1 <<< 16 = dg X 1 * 65536 + dg X 0 := by rw [Nat.or_comm, ← Nat.shiftLeft_add_eq_or_of_lt (by omega), Nat.shiftLeft_eq]
  have s2 : (dg X 1 * 65536 + dg X 0) ||| dg X 2 <<< 32 = dg X 2 * 4294967296 + (dg X 1 * 65536 + dg X 0) := by rw [Nat.or_comm, ← Nat.shiftLeft_add_eq_or_of_lt (by omega), Nat.shiftLeft_eq]
  have s3 : (dg X 2 * 4294967296 + (dg X 1 * 65536 + dg X 0)) ||| dg X 3 <<< 48 = dg X 3 * 281474976710656 + (dg X 2 * 4294967296 + (dg X 1 * 65536 + dg X 0)) := by rw [Nat.or_comm, ← Nat.shiftLeft_add_eq_or_of_lt (by omega), Nat.shiftLeft_eq]
  rw [s1, s2, s3]
  have g := sN_dg X 4
  have e4 : sN (dg X) 4 = 0 + dg X 0 * 65536 ^ 0 + dg X 1 * 65536 ^ 1 + dg X 2 * 65536 ^ 2 + dg X 3 * 65536 ^ 3 := rfl
  rw [e4] at g
  have p4 : (65536 : Nat) ^ 4 = 18446744073709551616 := by decide
  rw [p4] at g
  omega
set_option maxHeartbeats 8000000 in
theorem bc_z (G : GX) {M0 : List va_E} {v : Nat → Int32} {n : Nat} (ho : M0[373]? = some (moO v)) {Q : Option Value → List va_E → Prop} (kk : ∀ M, (∃ f, M[377]? = some (lr 5 f) ∧ ∀ i, i < 5 → f i = 0) ∧ Kp [377] M0 M → TT G mi_Mo_behindPoint 20 [(1, .int (nI n)), (2, .int (nI 1)), (0, .ref 373)] [] M 0 0 Q) : ∀ j k M, k + j = 5 → (∃ f, M[377]? = some (lr 5 f) ∧ ∀ i, i < k → f i = 0) ∧ Kp [377] M0 M → TT G mi_Mo_behindPoint 2 [(3, .int (nI k)), (1, .int (nI n)), (2, .int (nI 1)), (0, .ref 373)] [] M 0 0 Q := by
  intro j
  induction j with
  | zero =>
    intro k M hk hI
    obtain rfl : 5 = k := by omega
    refine T_iload_n d_Mo_behindPoint_2 rfl ?_
    refine T_iconst (v := nI 5) d_Mo_behindPoint_3 (by decide) ?_
    refine N_icmp_ge_t (a := 5) (b := 5) d_Mo_behindPoint_4 (tgt := 20) rfl (by omega) (by omega) (by omega) ?_
    exact T_sub (fun q hq => List.mem_cons_of_mem _ hq) (kk M hI)
  | succ j ih =>
    intro k M hk hI
    obtain ⟨⟨f, h1, h2⟩, hK⟩ := hI
    refine T_iload_n d_Mo_behindPoint_2 rfl ?_
    refine T_iconst (v := nI 5) d_Mo_behindPoint_3 (by decide) ?_
    refine N_icmp_ge_f (a := 5) (b := k) d_Mo_behindPoint_4 (tgt := 20) rfl (by omega) (by omega) (by omega) ?_
    refine T_aload_n (v := .ref 373) d_Mo_behindPoint_7 rfl (Or.inr ⟨_, rfl⟩) ?_
    have h_1 := (hK 373 (by decide)).trans (ho)
    refine T_getfield (v := .ref 377) d_Mo_behindPoint_8 fg_Mo_22 h_1 rfl ?_
    refine T_iload_n d_Mo_behindPoint_11 rfl ?_
    refine T_lconst (v := 0) d_Mo_behindPoint_12 (by decide) ?_
    refine N_lastore (k := k) d_Mo_behindPoint_13 (by decide) h1 (by omega) (by decide) rfl (fun M_2 h_3 s_4 => ?_)
    refine N_iinc (k := k) (m := 1) (c := (k + 1)) (L' := [(3, .int (nI ((k + 1)))), (1, .int (nI n)), (2, .int (nI 1)), (0, .ref 373)]) d_Mo_behindPoint_14 (by decide) rfl (by decide) rfl rfl ?_
    refine T_goto (tgt := 2) d_Mo_behindPoint_17 rfl ?_
    exact ih (k + 1) M_2 (by omega) ⟨⟨_, h_3, fun i hi => by by_cases c : i = k; subst c; exact uL_s; rw [uL_n c]; exact h2 i (by omega)⟩, (Kp.ex (Kp.tr (Kp.rf : Kp [377] M0 M0) (Kp.mono hK (by decide))) s_4 (by decide))⟩
set_option maxHeartbeats 8000000 in
theorem bc_l (G : GX) {M0 : List va_E} {v : Nat → Int32} {n : Nat} (ho : M0[373]? = some (moO v)) (hn : n < 65536) {Q : Option Value → List va_E → Prop} (kk : ∀ M, ((∃ f, M[377]? = some (lr 5 f) ∧ DL f 5 (bpG 3 12 n (70 - 0))) ∧ LQ M 378 12 ∧ LQ M 379 20 ∧ Kp [377, 378, 379] M0 M) → TT G mi_Mo_behindPoint 78 [(1, .int (nI n)), (2, .int (nI 1)), (0, .ref 373)] [] M 0 0 Q) : ∀ j M, j ≤ 70 → ((∃ f, M[377]? = some (lr 5 f) ∧ DL f 5 (bpG 3 12 n (70 - j))) ∧ LQ M 378 12 ∧ LQ M 379 20 ∧ Kp [377, 378, 379] M0 M) → TT G mi_Mo_behindPoint 23 [(3, .int (nI j - 1)), (1, .int (nI n)), (2, .int (nI 1)), (0, .ref 373)] [] M 0 0 Q := by
  intro j
  induction j with
  | zero =>
    intro M hj hI
    refine T_iload_n d_Mo_behindPoint_23 rfl ?_
    refine T_if_lt d_Mo_behindPoint_24 (tgt := 78) rfl (fun _ => ?_) (fun c => absurd (by decide) c)
    exact T_sub (fun q hq => List.mem_cons_of_mem _ hq) (kk M hI)
  | succ j ih =>
    intro M hj hI
    obtain ⟨⟨f, hf, df⟩, q2, q3, hK⟩ := hI
    rw [nI_pp]
    have hm : (bpG 3 12 n (70 - (j + 1))) % 2 ^ (j + 1) = 0 := by have := bpG_m 3 12 n (70 - (j + 1)) (by omega); rw [show 70 - (70 - (j + 1)) = j + 1 by omega] at this; exact this
    have hlt := bpG_lt 3 12 n (70 - (j + 1)) (by omega)
    rw [show 70 - (70 - (j + 1)) = j + 1 by omega] at hlt
    have hs := bpG_s 3 12 n (70 - (j + 1))
    rw [show 70 - (j + 1) + 1 = 70 - j by omega, show 69 - (70 - (j + 1)) = j by omega] at hs
    have hX : (bpG 3 12 n (70 - (j + 1))) + 2 ^ j < 65536 ^ 5 := by have p : 2 ^ j < 2 ^ (j + 1) := Nat.pow_lt_pow_right (by decide) (by omega); exact Nat.lt_of_lt_of_le (by omega : _ < 2 ^ 70) (by decide)
    refine T_iload_n d_Mo_behindPoint_23 rfl ?_
    refine N_if_lt_f (b := j) d_Mo_behindPoint_24 (tgt := 78) rfl (by omega) (by omega) ?_
    refine T_aload_n (v := .ref 373) d_Mo_behindPoint_27 rfl (Or.inr ⟨_, rfl⟩) ?_
    have h_1 := (hK 373 (by decide)).trans (ho)
    refine T_getfield (v := .ref 377) d_Mo_behindPoint_28 fg_Mo_22 h_1 rfl ?_
    refine T_iload_n d_Mo_behindPoint_31 rfl ?_
    refine T_bipush (v := nI 16) d_Mo_behindPoint_32 (by decide) ?_
    refine N_idiv (a := 16) (b := j) (c := (j / 16)) d_Mo_behindPoint_34 (by omega) (by omega) (by omega) rfl ?_
    refine T_dup2 d_Mo_behindPoint_35 rfl rfl ?_
    refine N_laload (k := (j / 16)) (x := (f (j / 16))) d_Mo_behindPoint_36 hf (by omega) (by decide) rfl ?_
    refine T_lconst (v := 1) d_Mo_behindPoint_37 (by decide) ?_
    refine T_iload_n d_Mo_behindPoint_38 rfl ?_
    refine T_bipush (v := nI 16) d_Mo_behindPoint_39 (by decide) ?_
    refine N_irem (a := 16) (b := j) (c := (j % 16)) d_Mo_behindPoint_41 (by omega) (by omega) (by omega) rfl ?_
    refine T_lshl d_Mo_behindPoint_42 ?_
    refine T_ladd d_Mo_behindPoint_43 ?_
    refine N_lastore (k := (j / 16)) d_Mo_behindPoint_44 (by decide) hf (by omega) (by decide) rfl (fun M_2 h_3 s_4 => ?_)
    refine T_aload_n (v := .ref 373) d_Mo_behindPoint_45 rfl (Or.inr ⟨_, rfl⟩) ?_
    refine T_iload_n d_Mo_behindPoint_46 rfl ?_
    refine T_iload_n d_Mo_behindPoint_47 rfl ?_
    have h_5 := (s_4 373 (by decide)).trans (h_1)
    have du := bt_up df hm (by omega)
    have q2u := q2.kp ((Kp.ex (Kp.rf : Kp [377] M M) s_4 (by decide))) (by decide)
    have q3u := q3.kp ((Kp.ex (Kp.rf : Kp [377] M M) s_4 (by decide))) (by decide)
    refine T_virtual (as := [.int (nI n), .int (nI 1)]) (rest := []) (b := 373) d_Mo_behindPoint_48 rfl (jw_Mo_fits.jo (by decide)) lm_Mo_31 ji_Mo_fits js_Mo_fits h_5 rfl rfl rfl (Nat.le_of_ble_eq_true rfl) (by decide) (by decide) (u_Mo_fits_c h_5 h_3 du hX hn q2u q3u) (fun r Mf hq => ?_)
    obtain ⟨rfl, r2, r3, kf⟩ := hq
    have pe : ((bpG 3 12 n (70 - (j + 1))) + 2 ^ j) ^ 3 = (((bpG 3 12 n (70 - (j + 1))) + 2 ^ j) * ((bpG 3 12 n (70 - (j + 1))) + 2 ^ j)) * ((bpG 3 12 n (70 - (j + 1))) + 2 ^ j) := by rw [Nat.pow_succ, Nat.pow_succ, Nat.pow_succ, Nat.pow_zero, Nat.one_mul]
    rw [pe] at hs
    by_cases hb : (((bpG 3 12 n (70 - (j + 1))) + 2 ^ j) * ((bpG 3 12 n (70 - (j + 1))) + 2 ^ j)) * ((bpG 3 12 n (70 - (j + 1))) + 2 ^ j) ≤ n * 65536 ^ 12
    · rw [if_pos hb] at hs ⊢
      refine T_eq (pc' := 51) (L' := [(3, .int (nI j)), (1, .int (nI n)), (2, .int (nI 1)), (0, .ref 373)]) (st' := [.int (nI 1)]) (M' := Mf) rfl rfl rfl rfl ?_
      refine N_if_ne_t (b := 1) d_Mo_behindPoint_51 (tgt := 72) rfl (by omega) (by omega) ?_
      refine T_iinc (x := nI j) (L' := [(3, .int (nI j - 1)), (1, .int (nI n)), (2, .int (nI 1)), (0, .ref 373)]) d_Mo_behindPoint_72 (by decide) rfl (by rw [nI_dm]; rfl) ?_
      refine T_goto (tgt := 23) d_Mo_behindPoint_75 rfl ?_
      have fin : DL (vp_updL f (j / 16) ((f (j / 16)) + (1 <<< ((nI ((j % 16))).toInt64 &&& 63)))) 5 (bpG 3 12 n (70 - j)) := by rw [hs]; exact du
      have h_6 := (kf 377 (by decide)).trans (h_3)
      have kz := (Kp.tr (Kp.ex (Kp.rf : Kp [377, 378, 379] M M) s_4 (by decide)) (Kp.mono kf (by decide)))
      exact T_sub (L' := [(3, .int (nI j - 1)), (1, .int (nI n)), (2, .int (nI 1)), (0, .ref 373)]) (fun _ h => h) (ih Mf (by omega) ⟨⟨_, h_6, fin⟩, r2, r3, Kp.tr hK kz⟩)
    · rw [if_neg hb] at hs ⊢
      refine T_eq (pc' := 51) (L' := [(3, .int (nI j)), (1, .int (nI n)), (2, .int (nI 1)), (0, .ref 373)]) (st' := [.int (nI 0)]) (M' := Mf) rfl rfl rfl rfl ?_
      refine N_if_ne_f (b := 0) d_Mo_behindPoint_51 (tgt := 72) rfl (by omega) (by omega) ?_
      refine T_aload_n (v := .ref 373) d_Mo_behindPoint_54 rfl (Or.inr ⟨_, rfl⟩) ?_
      have h_7 := (kf 373 (by decide)).trans (h_5)
      refine T_getfield (v := .ref 377) d_Mo_behindPoint_55 fg_Mo_22 h_7 rfl ?_
      refine T_iload_n d_Mo_behindPoint_58 rfl ?_
      refine T_bipush (v := nI 16) d_Mo_behindPoint_59 (by decide) ?_
      refine N_idiv (a := 16) (b := j) (c := (j / 16)) d_Mo_behindPoint_61 (by omega) (by omega) (by omega) rfl ?_
      refine T_dup2 d_Mo_behindPoint_62 rfl rfl ?_
      have h_8 := (kf 377 (by decide)).trans (h_3)
      refine N_laload (k := (j / 16)) (x := ((vp_updL f (j / 16) ((f (j / 16)) + (1 <<< ((nI ((j % 16))).toInt64 &&& 63)))) (j / 16))) d_Mo_behindPoint_63 h_8 (by omega) (by decide) rfl ?_
      refine T_lconst (v := 1) d_Mo_behindPoint_64 (by decide) ?_
      refine T_iload_n d_Mo_behindPoint_65 rfl ?_
      refine T_bipush (v := nI 16) d_Mo_behindPoint_66 (by decide) ?_
      refine N_irem (a := 16) (b := j) (c := (j % 16)) d_Mo_behindPoint_68 (by omega) (by omega) (by omega) rfl ?_
      refine T_lshl d_Mo_behindPoint_69 ?_
      refine T_lsub d_Mo_behindPoint_70 ?_
      refine N_lastore (k := (j / 16)) d_Mo_behindPoint_71 (by decide) h_8 (by omega) (by decide) rfl (fun M_9 h_10 s_11 => ?_)
      refine T_iinc (x := nI j) (L' := [(3, .int (nI j - 1)), (1, .int (nI n)), (2, .int (nI 1)), (0, .ref 373)]) d_Mo_behindPoint_72 (by decide) rfl (by rw [nI_dm]; rfl) ?_
      refine T_goto (tgt := 23) d_Mo_behindPoint_75 rfl ?_
      have fin : DL (vp_updL (vp_updL f (j / 16) ((f (j / 16)) + (1 <<< ((nI ((j % 16))).toInt64 &&& 63)))) (j / 16) (((vp_updL f (j / 16) ((f (j / 16)) + (1 <<< ((nI ((j % 16))).toInt64 &&& 63)))) (j / 16)) - (1 <<< ((nI ((j % 16))).toInt64 &&& 63)))) 5 (bpG 3 12 n (70 - j)) := by rw [hs]; exact bt_dn du hm (by omega)
      have kz := (Kp.ex (Kp.tr (Kp.ex (Kp.rf : Kp [377, 378, 379] M M) s_4 (by decide)) (Kp.mono kf (by decide))) s_11 (by decide))
      exact T_sub (L' := [(3, .int (nI j - 1)), (1, .int (nI n)), (2, .int (nI 1)), (0, .ref 373)]) (fun _ h => h) (ih M_9 (by omega) ⟨⟨_, h_10, fin⟩, r2.kp ((Kp.ex (Kp.rf : Kp [377] Mf Mf) s_11 (by decide))) (by decide), r3.kp ((Kp.ex (Kp.rf : Kp [377] Mf Mf) s_11 (by decide))) (by decide), Kp.tr hK kz⟩)
set_option maxHeartbeats 8000000 in
theorem u_Mo_bp_c {G : GX} {M : List va_E} {v : Nat → Int32} {n : Nat} (ho : M[373]? = some (moO v)) (hn : n < 65536) (q1 : LQ M 377 5) (q2 : LQ M 378 12) (q3 : LQ M 379 20) : CT G mi_Mo_behindPoint [.ref 373, .int (nI n), .int (nI 1)] M (fun r M' => r = some (.long (Int64.ofNat (bpG 3 12 n 70 % 18446744073709551616))) ∧ LQ M' 377 5 ∧ LQ M' 378 12 ∧ LQ M' 379 20 ∧ Kp [377, 378, 379] M M') := by
  obtain ⟨g1, q1⟩ := q1
  refine CT.of (by decide) (Nat.le_of_ble_eq_true rfl) ?_
  show TT G mi_Mo_behindPoint 0 [(0, .ref 373), (1, .int (nI n)), (2, .int (nI 1))] [] M 0 0 _
  refine T_iconst (v := nI 0) d_Mo_behindPoint_0 (by decide) ?_
  refine T_istore_n (L' := [(3, .int (nI 0)), (0, .ref 373), (1, .int (nI n)), (2, .int (nI 1))]) d_Mo_behindPoint_1 (by decide) rfl ?_
  refine T_sub (L' := [(3, .int (nI 0)), (1, .int (nI n)), (2, .int (nI 1)), (0, .ref 373)]) (fun q hq => by simp only [List.mem_cons, List.not_mem_nil, or_false] at hq ⊢; rcases hq with rfl | rfl | rfl | rfl <;> simp) ?_
  refine bc_z G ho (fun Ma hI => ?_) 5 0 M rfl ⟨⟨g1, q1, fun i hi => absurd hi (Nat.not_lt_zero i)⟩, Kp.rf⟩
  obtain ⟨⟨fa, a1, a2⟩, ka⟩ := hI
  refine T_bipush (v := nI 69) d_Mo_behindPoint_20 (by decide) ?_
  refine T_istore_n (L' := [(3, .int (nI 69)), (1, .int (nI n)), (2, .int (nI 1)), (0, .ref 373)]) d_Mo_behindPoint_22 (by decide) rfl ?_
  rw [show nI 69 = nI 70 - 1 from by decide]
  refine bc_l G ho hn (fun Mb hI => ?_) 70 Ma (Nat.le_refl _) ⟨⟨fa, a1, fun i hi => by rw [a2 i hi]; show _ = ((dg 0 i : Nat) : Int); unfold dg; rw [Nat.zero_div]; rfl⟩, q2.kp ka (by decide), q3.kp ka (by decide), Kp.mono ka (by decide)⟩
  obtain ⟨⟨fb, b1, b2⟩, r2, r3, kb⟩ := hI
  have hoB := (kb 373 (by decide)).trans ho
  refine T_aload_n (v := .ref 373) d_Mo_behindPoint_78 rfl (Or.inr ⟨_, rfl⟩) ?_
  refine T_getfield (v := .ref 377) d_Mo_behindPoint_79 fg_Mo_22 hoB rfl ?_
  refine T_iconst (v := nI 0) d_Mo_behindPoint_82 (by decide) ?_
  refine N_laload (k := 0) (x := (fb 0)) d_Mo_behindPoint_83 b1 (by omega) (by decide) rfl ?_
  refine T_aload_n (v := .ref 373) d_Mo_behindPoint_84 rfl (Or.inr ⟨_, rfl⟩) ?_
  refine T_getfield (v := .ref 377) d_Mo_behindPoint_85 fg_Mo_22 hoB rfl ?_
  refine T_iconst (v := nI 1) d_Mo_behindPoint_88 (by decide) ?_
  refine N_laload (k := 1) (x := (fb 1)) d_Mo_behindPoint_89 b1 (by omega) (by decide) rfl ?_
  refine T_bipush (v := nI 16) d_Mo_behindPoint_90 (by decide) ?_
  refine T_lshl d_Mo_behindPoint_92 ?_
  refine T_lor d_Mo_behindPoint_93 ?_
  refine T_aload_n (v := .ref 373) d_Mo_behindPoint_94 rfl (Or.inr ⟨_, rfl⟩) ?_
  refine T_getfield (v := .ref 377) d_Mo_behindPoint_95 fg_Mo_22 hoB rfl ?_
  refine T_iconst (v := nI 2) d_Mo_behindPoint_98 (by decide) ?_
  refine N_laload (k := 2) (x := (fb 2)) d_Mo_behindPoint_99 b1 (by omega) (by decide) rfl ?_
  refine T_bipush (v := nI 32) d_Mo_behindPoint_100 (by decide) ?_
  refine T_lshl d_Mo_behindPoint_102 ?_
  refine T_lor d_Mo_behindPoint_103 ?_
  refine T_aload_n (v := .ref 373) d_Mo_behindPoint_104 rfl (Or.inr ⟨_, rfl⟩) ?_
  refine T_getfield (v := .ref 377) d_Mo_behindPoint_105 fg_Mo_22 hoB rfl ?_
  refine T_iconst (v := nI 3) d_Mo_behindPoint_108 (by decide) ?_
  refine N_laload (k := 3) (x := (fb 3)) d_Mo_behindPoint_109 b1 (by omega) (by decide) rfl ?_
  refine T_bipush (v := nI 48) d_Mo_behindPoint_110 (by decide) ?_
  refine T_lshl d_Mo_behindPoint_112 ?_
  refine T_lor d_Mo_behindPoint_113 ?_
  exact T_lret d_Mo_behindPoint_114 rfl (by decide) (by decide) ⟨by rw [or4 (b2 0 (by decide)) (b2 1 (by decide)) (b2 2 (by decide)) (b2 3 (by decide))], ⟨_, b1⟩, r2, r3, kb⟩
set_option maxHeartbeats 8000000 in
theorem bs_z (G : GX) {M0 : List va_E} {v : Nat → Int32} {n : Nat} (ho : M0[373]? = some (moO v)) {Q : Option Value → List va_E → Prop} (kk : ∀ M, (∃ f, M[377]? = some (lr 5 f) ∧ ∀ i, i < 5 → f i = 0) ∧ Kp [377] M0 M → TT G mi_Mo_behindPoint 20 [(1, .int (nI n)), (2, .int (nI 0)), (0, .ref 373)] [] M 0 0 Q) : ∀ j k M, k + j = 5 → (∃ f, M[377]? = some (lr 5 f) ∧ ∀ i, i < k → f i = 0) ∧ Kp [377] M0 M → TT G mi_Mo_behindPoint 2 [(3, .int (nI k)), (1, .int (nI n)), (2, .int (nI 0)), (0, .ref 373)] [] M 0 0 Q := by
  intro j
  induction j with
  | zero =>
    intro k M hk hI
    obtain rfl : 5 = k := by omega
    refine T_iload_n d_Mo_behindPoint_2 rfl ?_
    refine T_iconst (v := nI 5) d_Mo_behindPoint_3 (by decide) ?_
    refine N_icmp_ge_t (a := 5) (b := 5) d_Mo_behindPoint_4 (tgt := 20) rfl (by omega) (by omega) (by omega) ?_
    exact T_sub (fun q hq => List.mem_cons_of_mem _ hq) (kk M hI)
  | succ j ih =>
    intro k M hk hI
    obtain ⟨⟨f, h1, h2⟩, hK⟩ := hI
    refine T_iload_n d_Mo_behindPoint_2 rfl ?_
    refine T_iconst (v := nI 5) d_Mo_behindPoint_3 (by decide) ?_
    refine N_icmp_ge_f (a := 5) (b := k) d_Mo_behindPoint_4 (tgt := 20) rfl (by omega) (by omega) (by omega) ?_
    refine T_aload_n (v := .ref 373) d_Mo_behindPoint_7 rfl (Or.inr ⟨_, rfl⟩) ?_
    have h_1 := (hK 373 (by decide)).trans (ho)
    refine T_getfield (v := .ref 377) d_Mo_behindPoint_8 fg_Mo_22 h_1 rfl ?_
    refine T_iload_n d_Mo_behindPoint_11 rfl ?_
    refine T_lconst (v := 0) d_Mo_behindPoint_12 (by decide) ?_
    refine N_lastore (k := k) d_Mo_behindPoint_13 (by decide) h1 (by omega) (by decide) rfl (fun M_2 h_3 s_4 => ?_)
    refine N_iinc (k := k) (m := 1) (c := (k + 1)) (L' := [(3, .int (nI ((k + 1)))), (1, .int (nI n)), (2, .int (nI 0)), (0, .ref 373)]) d_Mo_behindPoint_14 (by decide) rfl (by decide) rfl rfl ?_
    refine T_goto (tgt := 2) d_Mo_behindPoint_17 rfl ?_
    exact ih (k + 1) M_2 (by omega) ⟨⟨_, h_3, fun i hi => by by_cases c : i = k; subst c; exact uL_s; rw [uL_n c]; exact h2 i (by omega)⟩, (Kp.ex (Kp.tr (Kp.rf : Kp [377] M0 M0) (Kp.mono hK (by decide))) s_4 (by decide))⟩
set_option maxHeartbeats 8000000 in
theorem bs_l (G : GX) {M0 : List va_E} {v : Nat → Int32} {n : Nat} (ho : M0[373]? = some (moO v)) (hn : n < 65536) {Q : Option Value → List va_E → Prop} (kk : ∀ M, ((∃ f, M[377]? = some (lr 5 f) ∧ DL f 5 (bpG 2 8 n (70 - 0))) ∧ LQ M 378 12 ∧ LQ M 379 20 ∧ Kp [377, 378, 379] M0 M) → TT G mi_Mo_behindPoint 78 [(1, .int (nI n)), (2, .int (nI 0)), (0, .ref 373)] [] M 0 0 Q) : ∀ j M, j ≤ 70 → ((∃ f, M[377]? = some (lr 5 f) ∧ DL f 5 (bpG 2 8 n (70 - j))) ∧ LQ M 378 12 ∧ LQ M 379 20 ∧ Kp [377, 378, 379] M0 M) → TT G mi_Mo_behindPoint 23 [(3, .int (nI j - 1)), (1, .int (nI n)), (2, .int (nI 0)), (0, .ref 373)] [] M 0 0 Q := by
  intro j
  induction j with
  | zero =>
    intro M hj hI
    refine T_iload_n d_Mo_behindPoint_23 rfl ?_
    refine T_if_lt d_Mo_behindPoint_24 (tgt := 78) rfl (fun _ => ?_) (fun c => absurd (by decide) c)
    exact T_sub (fun q hq => List.mem_cons_of_mem _ hq) (kk M hI)
  | succ j ih =>
    intro M hj hI
    obtain ⟨⟨f, hf, df⟩, q2, q3, hK⟩ := hI
    rw [nI_pp]
    have hm : (bpG 2 8 n (70 - (j + 1))) % 2 ^ (j + 1) = 0 := by have := bpG_m 2 8 n (70 - (j + 1)) (by omega); rw [show 70 - (70 - (j + 1)) = j + 1 by omega] at this; exact this
    have hlt := bpG_lt 2 8 n (70 - (j + 1)) (by omega)
    rw [show 70 - (70 - (j + 1)) = j + 1 by omega] at hlt
    have hs := bpG_s 2 8 n (70 - (j + 1))
    rw [show 70 - (j + 1) + 1 = 70 - j by omega, show 69 - (70 - (j + 1)) = j by omega] at hs
    have hX : (bpG 2 8 n (70 - (j + 1))) + 2 ^ j < 65536 ^ 5 := by have p : 2 ^ j < 2 ^ (j + 1) := Nat.pow_lt_pow_right (by decide) (by omega); exact Nat.lt_of_lt_of_le (by omega : _ < 2 ^ 70) (by decide)
    refine T_iload_n d_Mo_behindPoint_23 rfl ?_
    refine N_if_lt_f (b := j) d_Mo_behindPoint_24 (tgt := 78) rfl (by omega) (by omega) ?_
    refine T_aload_n (v := .ref 373) d_Mo_behindPoint_27 rfl (Or.inr ⟨_, rfl⟩) ?_
    have h_1 := (hK 373 (by decide)).trans (ho)
    refine T_getfield (v := .ref 377) d_Mo_behindPoint_28 fg_Mo_22 h_1 rfl ?_
    refine T_iload_n d_Mo_behindPoint_31 rfl ?_
    refine T_bipush (v := nI 16) d_Mo_behindPoint_32 (by decide) ?_
    refine N_idiv (a := 16) (b := j) (c := (j / 16)) d_Mo_behindPoint_34 (by omega) (by omega) (by omega) rfl ?_
    refine T_dup2 d_Mo_behindPoint_35 rfl rfl ?_
    refine N_laload (k := (j / 16)) (x := (f (j / 16))) d_Mo_behindPoint_36 hf (by omega) (by decide) rfl ?_
    refine T_lconst (v := 1) d_Mo_behindPoint_37 (by decide) ?_
    refine T_iload_n d_Mo_behindPoint_38 rfl ?_
    refine T_bipush (v := nI 16) d_Mo_behindPoint_39 (by decide) ?_
    refine N_irem (a := 16) (b := j) (c := (j % 16)) d_Mo_behindPoint_41 (by omega) (by omega) (by omega) rfl ?_
    refine T_lshl d_Mo_behindPoint_42 ?_
    refine T_ladd d_Mo_behindPoint_43 ?_
    refine N_lastore (k := (j / 16)) d_Mo_behindPoint_44 (by decide) hf (by omega) (by decide) rfl (fun M_2 h_3 s_4 => ?_)
    refine T_aload_n (v := .ref 373) d_Mo_behindPoint_45 rfl (Or.inr ⟨_, rfl⟩) ?_
    refine T_iload_n d_Mo_behindPoint_46 rfl ?_
    refine T_iload_n d_Mo_behindPoint_47 rfl ?_
    have h_5 := (s_4 373 (by decide)).trans (h_1)
    have du := bt_up df hm (by omega)
    have q2u := q2.kp ((Kp.ex (Kp.rf : Kp [377] M M) s_4 (by decide))) (by decide)
    have q3u := q3.kp ((Kp.ex (Kp.rf : Kp [377] M M) s_4 (by decide))) (by decide)
    refine T_virtual (as := [.int (nI n), .int (nI 0)]) (rest := []) (b := 373) d_Mo_behindPoint_48 rfl (jw_Mo_fits.jo (by decide)) lm_Mo_31 ji_Mo_fits js_Mo_fits h_5 rfl rfl rfl (Nat.le_of_ble_eq_true rfl) (by decide) (by decide) (u_Mo_fits_s h_5 h_3 du hX hn q2u q3u) (fun r Mf hq => ?_)
    obtain ⟨rfl, r2, r3, kf⟩ := hq
    have pe : ((bpG 2 8 n (70 - (j + 1))) + 2 ^ j) ^ 2 = ((bpG 2 8 n (70 - (j + 1))) + 2 ^ j) * ((bpG 2 8 n (70 - (j + 1))) + 2 ^ j) := by rw [Nat.pow_succ, Nat.pow_succ, Nat.pow_zero, Nat.one_mul]
    rw [pe] at hs
    by_cases hb : ((bpG 2 8 n (70 - (j + 1))) + 2 ^ j) * ((bpG 2 8 n (70 - (j + 1))) + 2 ^ j) ≤ n * 65536 ^ 8
    · rw [if_pos hb] at hs ⊢
      refine T_eq (pc' := 51) (L' := [(3, .int (nI j)), (1, .int (nI n)), (2, .int (nI 0)), (0, .ref 373)]) (st' := [.int (nI 1)]) (M' := Mf) rfl rfl rfl rfl ?_
      refine N_if_ne_t (b := 1) d_Mo_behindPoint_51 (tgt := 72) rfl (by omega) (by omega) ?_
      refine T_iinc (x := nI j) (L' := [(3, .int (nI j - 1)), (1, .int (nI n)), (2, .int (nI 0)), (0, .ref 373)]) d_Mo_behindPoint_72 (by decide) rfl (by rw [nI_dm]; rfl) ?_
      refine T_goto (tgt := 23) d_Mo_behindPoint_75 rfl ?_
      have fin : DL (vp_updL f (j / 16) ((f (j / 16)) + (1 <<< ((nI ((j % 16))).toInt64 &&& 63)))) 5 (bpG 2 8 n (70 - j)) := by rw [hs]; exact du
      have h_6 := (kf 377 (by decide)).trans (h_3)
      have kz := (Kp.tr (Kp.ex (Kp.rf : Kp [377, 378, 379] M M) s_4 (by decide)) (Kp.mono kf (by decide)))
      exact T_sub (L' := [(3, .int (nI j - 1)), (1, .int (nI n)), (2, .int (nI 0)), (0, .ref 373)]) (fun _ h => h) (ih Mf (by omega) ⟨⟨_, h_6, fin⟩, r2, r3, Kp.tr hK kz⟩)
    · rw [if_neg hb] at hs ⊢
      refine T_eq (pc' := 51) (L' := [(3, .int (nI j)), (1, .int (nI n)), (2, .int (nI 0)), (0, .ref 373)]) (st' := [.int (nI 0)]) (M' := Mf) rfl rfl rfl rfl ?_
      refine N_if_ne_f (b := 0) d_Mo_behindPoint_51 (tgt := 72) rfl (by omega) (by omega) ?_
      refine T_aload_n (v := .ref 373) d_Mo_behindPoint_54 rfl (Or.inr ⟨_, rfl⟩) ?_
      have h_7 := (kf 373 (by decide)).trans (h_5)
      refine T_getfield (v := .ref 377) d_Mo_behindPoint_55 fg_Mo_22 h_7 rfl ?_
      refine T_iload_n d_Mo_behindPoint_58 rfl ?_
      refine T_bipush (v := nI 16) d_Mo_behindPoint_59 (by decide) ?_
      refine N_idiv (a := 16) (b := j) (c := (j / 16)) d_Mo_behindPoint_61 (by omega) (by omega) (by omega) rfl ?_
      refine T_dup2 d_Mo_behindPoint_62 rfl rfl ?_
      have h_8 := (kf 377 (by decide)).trans (h_3)
      refine N_laload (k := (j / 16)) (x := ((vp_updL f (j / 16) ((f (j / 16)) + (1 <<< ((nI ((j % 16))).toInt64 &&& 63)))) (j / 16))) d_Mo_behindPoint_63 h_8 (by omega) (by decide) rfl ?_
      refine T_lconst (v := 1) d_Mo_behindPoint_64 (by decide) ?_
      refine T_iload_n d_Mo_behindPoint_65 rfl ?_
      refine T_bipush (v := nI 16) d_Mo_behindPoint_66 (by decide) ?_
      refine N_irem (a := 16) (b := j) (c := (j % 16)) d_Mo_behindPoint_68 (by omega) (by omega) (by omega) rfl ?_
      refine T_lshl d_Mo_behindPoint_69 ?_
      refine T_lsub d_Mo_behindPoint_70 ?_
      refine N_lastore (k := (j / 16)) d_Mo_behindPoint_71 (by decide) h_8 (by omega) (by decide) rfl (fun M_9 h_10 s_11 => ?_)
      refine T_iinc (x := nI j) (L' := [(3, .int (nI j - 1)), (1, .int (nI n)), (2, .int (nI 0)), (0, .ref 373)]) d_Mo_behindPoint_72 (by decide) rfl (by rw [nI_dm]; rfl) ?_
      refine T_goto (tgt := 23) d_Mo_behindPoint_75 rfl ?_
      have fin : DL (vp_updL (vp_updL f (j / 16) ((f (j / 16)) + (1 <<< ((nI ((j % 16))).toInt64 &&& 63)))) (j / 16) (((vp_updL f (j / 16) ((f (j / 16)) + (1 <<< ((nI ((j % 16))).toInt64 &&& 63)))) (j / 16)) - (1 <<< ((nI ((j % 16))).toInt64 &&& 63)))) 5 (bpG 2 8 n (70 - j)) := by rw [hs]; exact bt_dn du hm (by omega)
      have kz := (Kp.ex (Kp.tr (Kp.ex (Kp.rf : Kp [377, 378, 379] M M) s_4 (by decide)) (Kp.mono kf (by decide))) s_11 (by decide))
      exact T_sub (L' := [(3, .int (nI j - 1)), (1, .int (nI n)), (2, .int (nI 0)), (0, .ref 373)]) (fun _ h => h) (ih M_9 (by omega) ⟨⟨_, h_10, fin⟩, r2.kp ((Kp.ex (Kp.rf : Kp [377] Mf Mf) s_11 (by decide))) (by decide), r3.kp ((Kp.ex (Kp.rf : Kp [377] Mf Mf) s_11 (by decide))) (by decide), Kp.tr hK kz⟩)
set_option maxHeartbeats 8000000 in
theorem u_Mo_bp_s {G : GX} {M : List va_E} {v : Nat → Int32} {n : Nat} (ho : M[373]? = some (moO v)) (hn : n < 65536) (q1 : LQ M 377 5) (q2 : LQ M 378 12) (q3 : LQ M 379 20) : CT G mi_Mo_behindPoint [.ref 373, .int (nI n), .int (nI 0)] M (fun r M' => r = some (.long (Int64.ofNat (bpG 2 8 n 70 % 18446744073709551616))) ∧ LQ M' 377 5 ∧ LQ M' 378 12 ∧ LQ M' 379 20 ∧ Kp [377, 378, 379] M M') := by
  obtain ⟨g1, q1⟩ := q1
  refine CT.of (by decide) (Nat.le_of_ble_eq_true rfl) ?_
  show TT G mi_Mo_behindPoint 0 [(0, .ref 373), (1, .int (nI n)), (2, .int (nI 0))] [] M 0 0 _
  refine T_iconst (v := nI 0) d_Mo_behindPoint_0 (by decide) ?_
  refine T_istore_n (L' := [(3, .int (nI 0)), (0, .ref 373), (1, .int (nI n)), (2, .int (nI 0))]) d_Mo_behindPoint_1 (by decide) rfl ?_
  refine T_sub (L' := [(3, .int (nI 0)), (1, .int (nI n)), (2, .int (nI 0)), (0, .ref 373)]) (fun q hq => by simp only [List.mem_cons, List.not_mem_nil, or_false] at hq ⊢; rcases hq with rfl | rfl | rfl | rfl <;> simp) ?_
  refine bs_z G ho (fun Ma hI => ?_) 5 0 M rfl ⟨⟨g1, q1, fun i hi => absurd hi (Nat.not_lt_zero i)⟩, Kp.rf⟩
  obtain ⟨⟨fa, a1, a2⟩, ka⟩ := hI
  refine T_bipush (v := nI 69) d_Mo_behindPoint_20 (by decide) ?_
  refine T_istore_n (L' := [(3, .int (nI 69)), (1, .int (nI n)), (2, .int (nI 0)), (0, .ref 373)]) d_Mo_behindPoint_22 (by decide) rfl ?_
  rw [show nI 69 = nI 70 - 1 from by decide]
  refine bs_l G ho hn (fun Mb hI => ?_) 70 Ma (Nat.le_refl _) ⟨⟨fa, a1, fun i hi => by rw [a2 i hi]; show _ = ((dg 0 i : Nat) : Int); unfold dg; rw [Nat.zero_div]; rfl⟩, q2.kp ka (by decide), q3.kp ka (by decide), Kp.mono ka (by decide)⟩
  obtain ⟨⟨fb, b1, b2⟩, r2, r3, kb⟩ := hI
  have hoB := (kb 373 (by decide)).trans ho
  refine T_aload_n (v := .ref 373) d_Mo_behindPoint_78 rfl (Or.inr ⟨_, rfl⟩) ?_
  refine T_getfield (v := .ref 377) d_Mo_behindPoint_79 fg_Mo_22 hoB rfl ?_
  refine T_iconst (v := nI 0) d_Mo_behindPoint_82 (by decide) ?_
  refine N_laload (k := 0) (x := (fb 0)) d_Mo_behindPoint_83 b1 (by omega) (by decide) rfl ?_
  refine T_aload_n (v := .ref 373) d_Mo_behindPoint_84 rfl (Or.inr ⟨_, rfl⟩) ?_
  refine T_getfield (v := .ref 377) d_Mo_behindPoint_85 fg_Mo_22 hoB rfl ?_
  refine T_iconst (v := nI 1) d_Mo_behindPoint_88 (by decide) ?_
  refine N_laload (k := 1) (x := (fb 1)) d_Mo_behindPoint_89 b1 (by omega) (by decide) rfl ?_
  refine T_bipush (v := nI 16) d_Mo_behindPoint_90 (by decide) ?_
  refine T_lshl d_Mo_behindPoint_92 ?_
  refine T_lor d_Mo_behindPoint_93 ?_
  refine T_aload_n (v := .ref 373) d_Mo_behindPoint_94 rfl (Or.inr ⟨_, rfl⟩) ?_
  refine T_getfield (v := .ref 377) d_Mo_behindPoint_95 fg_Mo_22 hoB rfl ?_
  refine T_iconst (v := nI 2) d_Mo_behindPoint_98 (by decide) ?_
  refine N_laload (k := 2) (x := (fb 2)) d_Mo_behindPoint_99 b1 (by omega) (by decide) rfl ?_
  refine T_bipush (v := nI 32) d_Mo_behindPoint_100 (by decide) ?_
  refine T_lshl d_Mo_behindPoint_102 ?_
  refine T_lor d_Mo_behindPoint_103 ?_
  refine T_aload_n (v := .ref 373) d_Mo_behindPoint_104 rfl (Or.inr ⟨_, rfl⟩) ?_
  refine T_getfield (v := .ref 377) d_Mo_behindPoint_105 fg_Mo_22 hoB rfl ?_
  refine T_iconst (v := nI 3) d_Mo_behindPoint_108 (by decide) ?_
  refine N_laload (k := 3) (x := (fb 3)) d_Mo_behindPoint_109 b1 (by omega) (by decide) rfl ?_
  refine T_bipush (v := nI 48) d_Mo_behindPoint_110 (by decide) ?_
  refine T_lshl d_Mo_behindPoint_112 ?_
  refine T_lor d_Mo_behindPoint_113 ?_
  exact T_lret d_Mo_behindPoint_114 rfl (by decide) (by decide) ⟨by rw [or4 (b2 0 (by decide)) (b2 1 (by decide)) (b2 2 (by decide)) (b2 3 (by decide))], ⟨_, b1⟩, r2, r3, kb⟩
def isT (n : Nat) : Nat → Bool
  | 0 => true
  | k + 1 => isT n k && (Nat.ble k 1 || !(Nat.beq (n % k) 0))
theorem isT_y {n k : Nat} (h : n % k ≠ 0) : isT n (k + 1) = isT n k := by
  show (isT n k && (Nat.ble k 1 || !(Nat.beq (n % k) 0))) = _
  have : Nat.beq (n % k) 0 = false := by cases e : Nat.beq (n % k) 0; rfl; exact absurd (Nat.eq_of_beq_eq_true e) h
  rw [this, Bool.not_false, Bool.or_true, Bool.and_true]
theorem isT_n {n k : Nat} (h : n % k = 0) (hk : 2 ≤ k) : isT n (k + 1) = false := by
  show (isT n k && (Nat.ble k 1 || !(Nat.beq (n % k) 0))) = _
  have e1 : Nat.ble k 1 = false := by cases e : Nat.ble k 1; rfl; exact absurd (Nat.le_of_ble_eq_true e) (by omega)
  rw [e1, h]; cases isT n k <;> rfl
theorem isT_2 (n : Nat) : isT n 2 = true := rfl
def fnd : Nat → Nat
  | 0 => 0
  | n + 1 => fnd n + bN (Nat.ble 2 n && isT n n)
theorem fnd_y {n : Nat} (h : isT n n = true) (hn : 2 ≤ n) : fnd (n + 1) = fnd n + 1 := by
  show fnd n + bN (Nat.ble 2 n && isT n n) = _
  rw [h, Nat.ble_eq_true_of_le hn]; rfl
theorem fnd_n {n : Nat} (h : isT n n = false) : fnd (n + 1) = fnd n := by
  show fnd n + bN (Nat.ble 2 n && isT n n) = _
  rw [h, Bool.and_false]; rfl
theorem fnd_2 : fnd 2 = 0 := by decide
theorem fnd_e : fnd 410 = 80 := by decide +kernel
theorem fnd_mo : ∀ d n, fnd n ≤ fnd (n + d)
  | 0, _ => Nat.le_refl _
  | d + 1, n => Nat.le_trans (fnd_mo d n) (by show _ ≤ fnd (n + d) + _; omega)
theorem fnd_lt {n : Nat} (h : n < 410) : fnd n < 80 := by
  have e : fnd 409 = 79 := by decide +kernel
  have := fnd_mo (409 - n) n
  rw [show n + (409 - n) = 409 by omega, e] at this; omega
def prB (n : Nat) : Bool := !(isT n n) || (decide (Int64.ofNat (bpG 3 12 n 70 % 18446744073709551616) = kT (fnd n)) && (Nat.ble 8 (fnd n) || decide (Int64.ofNat (bpG 2 8 n 70 % 18446744073709551616) = hT (fnd n))))
theorem pr_all : ∀ n, n < 410 → 2 ≤ n → prB n = true := by decide +kernel
theorem pr_c {n : Nat} (h : n < 410) (h2 : 2 ≤ n) (hT : isT n n = true) : Int64.ofNat (bpG 3 12 n 70 % 18446744073709551616) = kT (fnd n) := by
  have g := pr_all n h h2
  unfold prB at g
  rw [hT, Bool.not_true, Bool.false_or, Bool.and_eq_true] at g
  exact of_decide_eq_true g.1
theorem pr_s {n : Nat} (h : n < 410) (h2 : 2 ≤ n) (hP : isT n n = true) (hf : fnd n < 8) : Int64.ofNat (bpG 2 8 n 70 % 18446744073709551616) = hT (fnd n) := by
  have g := pr_all n h h2
  unfold prB at g
  rw [hP, Bool.not_true, Bool.false_or, Bool.and_eq_true, Bool.or_eq_true] at g
  rcases g.2 with c | c
  · exact absurd (Nat.le_of_ble_eq_true c) (by omega)
  · exact of_decide_eq_true c
set_option maxHeartbeats 8000000 in
theorem pr_t (G : GX) {M0 : List va_E} {n fd : Nat} (hn : 2 ≤ n) (hn2 : n < 65536) {Q : Option Value → List va_E → Prop} (kk : ∀ M, 2 ≤ n ∧ M = M0 → TT G mi_Mo_primes 36 [(3, .int (nI ((bN (isT n n))))), (2, .int (nI n)), (1, .int (nI fd)), (0, .ref 373)] [] M 0 0 Q) : ∀ j k M, k + j = n → 2 ≤ k ∧ M = M0 → TT G mi_Mo_primes 15 [(4, .int (nI k)), (3, .int (nI ((bN (isT n k))))), (2, .int (nI n)), (1, .int (nI fd)), (0, .ref 373)] [] M 0 0 Q := by
  intro j
  induction j with
  | zero =>
    intro k M hk hI
    obtain rfl : n = k := by omega
    refine T_iload d_Mo_primes_15 rfl ?_
    refine T_iload_n d_Mo_primes_17 rfl ?_
    refine N_icmp_ge_t (a := n) (b := n) d_Mo_primes_18 (tgt := 36) rfl (by omega) (by omega) (by omega) ?_
    exact T_sub (fun q hq => List.mem_cons_of_mem _ hq) (kk M hI)
  | succ j ih =>
    intro k M hk hI
    obtain ⟨h2, rfl⟩ := hI
    have b1 := bN_i (isT n k)
    have hmod := Nat.mod_lt n (show 0 < k by omega)
    refine T_iload d_Mo_primes_15 rfl ?_
    refine T_iload_n d_Mo_primes_17 rfl ?_
    refine N_icmp_ge_f (a := n) (b := k) d_Mo_primes_18 (tgt := 36) rfl (by omega) (by omega) (by omega) ?_
    refine T_iload_n d_Mo_primes_21 rfl ?_
    refine T_iload d_Mo_primes_22 rfl ?_
    refine N_irem (a := k) (b := n) (c := (n % k)) d_Mo_primes_24 (by omega) (by omega) (by omega) rfl ?_
    refine N_if_ne (b := (n % k)) d_Mo_primes_25 (tgt := 30) rfl (by omega) (fun hm => ?_) (fun hm => ?_)
    ·
      have tv : nI ((bN (isT n k))) = nI (bN (isT n (k + 1))) := by rw [isT_y hm]
      refine T_eq (pc' := 30) (L' := [(4, .int (nI k)), (3, .int (nI ((bN (isT n (k + 1)))))), (2, .int (nI n)), (1, .int (nI fd)), (0, .ref 373)]) (st' := []) (M' := M) rfl (by rw [tv]) rfl rfl ?_
      refine N_iinc (k := k) (m := 1) (c := (k + 1)) (L' := [(4, .int (nI ((k + 1)))), (3, .int (nI ((bN (isT n (k + 1)))))), (2, .int (nI n)), (1, .int (nI fd)), (0, .ref 373)]) d_Mo_primes_30 (by decide) rfl (by decide) rfl rfl ?_
      refine T_goto (tgt := 15) d_Mo_primes_33 rfl ?_
      exact ih (k + 1) M (by omega) ⟨by omega, rfl⟩
    ·
      refine T_iconst (v := nI 0) d_Mo_primes_28 (by decide) ?_
      refine T_istore_n (L' := [(3, .int (nI 0)), (4, .int (nI k)), (2, .int (nI n)), (1, .int (nI fd)), (0, .ref 373)]) d_Mo_primes_29 (by decide) rfl ?_
      have tv : nI 0 = nI (bN (isT n (k + 1))) := by rw [isT_n (Decidable.of_not_not hm) h2]; rfl
      refine T_eq (pc' := 30) (L' := [(3, .int (nI ((bN (isT n (k + 1)))))), (4, .int (nI k)), (2, .int (nI n)), (1, .int (nI fd)), (0, .ref 373)]) (st' := []) (M' := M) rfl (by rw [tv]) rfl rfl ?_
      refine N_iinc (k := k) (m := 1) (c := (k + 1)) (L' := [(4, .int (nI ((k + 1)))), (3, .int (nI ((bN (isT n (k + 1)))))), (2, .int (nI n)), (1, .int (nI fd)), (0, .ref 373)]) d_Mo_primes_30 (by decide) rfl (by decide) rfl rfl ?_
      refine T_goto (tgt := 15) d_Mo_primes_33 rfl ?_
      exact ih (k + 1) M (by omega) ⟨by omega, rfl⟩
set_option maxHeartbeats 8000000 in
theorem pr_o (G : GX) {M0 : List va_E} {v : Nat → Int32} (ho : M0[373]? = some (moO v)) {Q : Option Value → List va_E → Prop} (kk : ∀ M L, ((∃ f, M[375]? = some (lr 80 f) ∧ ∀ t, t < fnd 410 → f t = kT t) ∧ (∃ g, M[376]? = some (lr 8 g) ∧ ∀ t, t < fnd 410 → t < 8 → g t = hT t) ∧ LQ M 377 5 ∧ LQ M 378 12 ∧ LQ M 379 20 ∧ Kp [375, 376, 377, 378, 379] M0 M) → TT G mi_Mo_primes 82 L [] M 0 0 Q) : ∀ j n M, n + j = 410 → 2 ≤ n → ((∃ f, M[375]? = some (lr 80 f) ∧ ∀ t, t < fnd n → f t = kT t) ∧ (∃ g, M[376]? = some (lr 8 g) ∧ ∀ t, t < fnd n → t < 8 → g t = hT t) ∧ LQ M 377 5 ∧ LQ M 378 12 ∧ LQ M 379 20 ∧ Kp [375, 376, 377, 378, 379] M0 M) → TT G mi_Mo_primes 4 [(2, .int (nI n)), (1, .int (nI ((fnd n)))), (0, .ref 373)] [] M 0 0 Q := by
  intro j
  induction j with
  | zero =>
    intro n M hn h2 hI
    obtain rfl : n = 410 := by omega
    have fe := fnd_e
    refine T_iload_n d_Mo_primes_4 rfl ?_
    refine T_bipush (v := nI 80) d_Mo_primes_5 (by decide) ?_
    refine N_icmp_ge_t (a := 80) (b := (fnd 410)) d_Mo_primes_7 (tgt := 82) rfl (by omega) (by omega) (by omega) ?_
    exact kk M _ hI
  | succ j ih =>
    intro n M hn h2 hI
    obtain ⟨⟨f, f1, f2⟩, ⟨g, g1, g2⟩, q1, q2, q3, hK⟩ := hI
    have fl := fnd_lt (show n < 410 by omega)
    have hoM := (hK 373 (by decide)).trans ho
    refine T_iload_n d_Mo_primes_4 rfl ?_
    refine T_bipush (v := nI 80) d_Mo_primes_5 (by decide) ?_
    refine N_icmp_ge_f (a := 80) (b := (fnd n)) d_Mo_primes_7 (tgt := 82) rfl (by omega) (by omega) (by omega) ?_
    refine T_iconst (v := nI 1) d_Mo_primes_10 (by decide) ?_
    refine T_istore_n (L' := [(3, .int (nI 1)), (2, .int (nI n)), (1, .int (nI ((fnd n)))), (0, .ref 373)]) d_Mo_primes_11 (by decide) rfl ?_
    refine T_iconst (v := nI 2) d_Mo_primes_12 (by decide) ?_
    refine T_istore (L' := [(4, .int (nI 2)), (3, .int (nI 1)), (2, .int (nI n)), (1, .int (nI ((fnd n)))), (0, .ref 373)]) d_Mo_primes_13 (by decide) rfl ?_
    refine T_eq (pc' := 15) (L' := [(4, .int (nI 2)), (3, .int (nI ((bN (isT n 2))))), (2, .int (nI n)), (1, .int (nI ((fnd n)))), (0, .ref 373)]) (st' := []) (M' := M) rfl rfl rfl rfl ?_
    refine pr_t G (M0 := M) h2 (by omega) (fun Mt hI => ?_) (n - 2) 2 M (by omega) ⟨Nat.le_refl 2, rfl⟩
    obtain rfl := hI.2.symm
    cases hp : isT n n with
    | false =>
      refine T_eq (pc' := 36) (L' := [(3, .int (nI 0)), (2, .int (nI n)), (1, .int (nI ((fnd n)))), (0, .ref 373)]) (st' := []) (M' := M) rfl rfl rfl rfl ?_
      refine T_iload_n d_Mo_primes_36 rfl ?_
      refine N_if_ne_f (b := 0) d_Mo_primes_37 (tgt := 43) rfl (by omega) (by omega) ?_
      refine T_goto (tgt := 76) d_Mo_primes_40 rfl ?_
      refine N_iinc (k := n) (m := 1) (c := (n + 1)) (L' := [(2, .int (nI ((n + 1)))), (3, .int (nI 0)), (1, .int (nI ((fnd n)))), (0, .ref 373)]) d_Mo_primes_76 (by decide) rfl (by decide) rfl rfl ?_
      refine T_goto (tgt := 4) d_Mo_primes_79 rfl ?_
      have fe := fnd_n hp
      refine T_eq (pc' := 4) (L' := [(2, .int (nI ((n + 1)))), (3, .int (nI 0)), (1, .int (nI ((fnd (n + 1))))), (0, .ref 373)]) (st' := []) (M' := M) rfl (by rw [fe]) rfl rfl ?_
      exact T_sub (L' := [(2, .int (nI ((n + 1)))), (1, .int (nI ((fnd (n + 1))))), (0, .ref 373)]) (fun q hq => by simp only [List.mem_cons, List.not_mem_nil, or_false] at hq ⊢; rcases hq with rfl | rfl | rfl <;> simp) (ih (n + 1) M (by omega) (by omega) ⟨⟨_, f1, fun t ht => f2 t (by omega)⟩, ⟨_, g1, fun t ht h8t => g2 t (by omega) h8t⟩, q1, q2, q3, Kp.tr hK (Kp.rf)⟩)
    | true =>
      refine T_eq (pc' := 36) (L' := [(3, .int (nI 1)), (2, .int (nI n)), (1, .int (nI ((fnd n)))), (0, .ref 373)]) (st' := []) (M' := M) rfl rfl rfl rfl ?_
      refine T_iload_n d_Mo_primes_36 rfl ?_
      refine N_if_ne_t (b := 1) d_Mo_primes_37 (tgt := 43) rfl (by omega) (by omega) ?_
      refine T_aload_n (v := .ref 373) d_Mo_primes_43 rfl (Or.inr ⟨_, rfl⟩) ?_
      refine T_getfield (v := .ref 375) d_Mo_primes_44 fg_Mo_35 hoM rfl ?_
      refine T_iload_n d_Mo_primes_47 rfl ?_
      refine T_aload_n (v := .ref 373) d_Mo_primes_48 rfl (Or.inr ⟨_, rfl⟩) ?_
      refine T_iload_n d_Mo_primes_49 rfl ?_
      refine T_iconst (v := nI 1) d_Mo_primes_50 (by decide) ?_
      refine T_virtual (as := [.int (nI n), .int (nI 1)]) (rest := [.int (nI ((fnd n))), .ref 375]) (b := 373) d_Mo_primes_51 rfl (jw_Mo_behindPoint.jo (by decide)) lm_Mo_38 ji_Mo_behindPoint js_Mo_behindPoint hoM rfl rfl rfl (Nat.le_of_ble_eq_true rfl) (by decide) (by decide) (u_Mo_bp_c hoM (by omega) q1 q2 q3) (fun r Mb1 hq => ?_)
      obtain ⟨rfl, r1, r2, r3, kp_1⟩ := hq
      refine T_eq (pc' := 54) (L' := [(3, .int (nI 1)), (2, .int (nI n)), (1, .int (nI ((fnd n)))), (0, .ref 373)]) (st' := [.long (Int64.ofNat (bpG 3 12 n 70 % 18446744073709551616)), .int (nI ((fnd n))), .ref 375]) (M' := Mb1) rfl rfl rfl rfl ?_
      refine N_topl (y := kT (fnd n)) (pr_c (by omega) h2 hp) ?_
      have h_2 := (kp_1 375 (by decide)).trans (f1)
      refine N_lastore (k := (fnd n)) d_Mo_primes_54 (by decide) h_2 (by omega) (by decide) rfl (fun M_3 h_4 s_5 => ?_)
      refine T_iload_n d_Mo_primes_55 rfl ?_
      refine T_bipush (v := nI 8) d_Mo_primes_56 (by decide) ?_
      refine N_icmp_ge (a := 8) (b := (fnd n)) d_Mo_primes_58 (tgt := 73) rfl (by omega) (by omega) (fun h8 => ?_) (fun h8 => ?_)
      ·
        refine N_iinc (k := (fnd n)) (m := 1) (c := ((fnd n) + 1)) (L' := [(1, .int (nI (((fnd n) + 1)))), (3, .int (nI 1)), (2, .int (nI n)), (0, .ref 373)]) d_Mo_primes_73 (by decide) rfl (by decide) rfl rfl ?_
        refine N_iinc (k := n) (m := 1) (c := (n + 1)) (L' := [(2, .int (nI ((n + 1)))), (1, .int (nI (((fnd n) + 1)))), (3, .int (nI 1)), (0, .ref 373)]) d_Mo_primes_76 (by decide) rfl (by decide) rfl rfl ?_
        refine T_goto (tgt := 4) d_Mo_primes_79 rfl ?_
        have fe := fnd_y hp h2
        have h_6 := (s_5 376 (by decide)).trans ((kp_1 376 (by decide)).trans (g1))
        refine T_eq (pc' := 4) (L' := [(2, .int (nI ((n + 1)))), (1, .int (nI ((fnd (n + 1))))), (3, .int (nI 1)), (0, .ref 373)]) (st' := []) (M' := M_3) rfl (by rw [fe]) rfl rfl ?_
        exact T_sub (L' := [(2, .int (nI ((n + 1)))), (1, .int (nI ((fnd (n + 1))))), (0, .ref 373)]) (fun q hq => by simp only [List.mem_cons, List.not_mem_nil, or_false] at hq ⊢; rcases hq with rfl | rfl | rfl <;> simp) (ih (n + 1) M_3 (by omega) (by omega) ⟨⟨_, h_4, fun t ht => by by_cases c : t = fnd n; subst c; exact uL_s; rw [uL_n c]; exact f2 t (by omega)⟩, ⟨_, h_6, fun t ht h8t => g2 t (by omega) h8t⟩, (r1.kp ((Kp.ex (Kp.rf : Kp [375] Mb1 Mb1) s_5 (by decide))) (by decide)), (r2.kp ((Kp.ex (Kp.rf : Kp [375] Mb1 Mb1) s_5 (by decide))) (by decide)), (r3.kp ((Kp.ex (Kp.rf : Kp [375] Mb1 Mb1) s_5 (by decide))) (by decide)), Kp.tr hK ((Kp.ex (Kp.tr (Kp.rf : Kp [375, 376, 377, 378, 379] M M) (Kp.mono kp_1 (by decide))) s_5 (by decide)))⟩)
      ·
        refine T_aload_n (v := .ref 373) d_Mo_primes_61 rfl (Or.inr ⟨_, rfl⟩) ?_
        have h_7 := (s_5 373 (by decide)).trans ((kp_1 373 (by decide)).trans (hoM))
        refine T_getfield (v := .ref 376) d_Mo_primes_62 fg_Mo_42 h_7 rfl ?_
        refine T_iload_n d_Mo_primes_65 rfl ?_
        refine T_aload_n (v := .ref 373) d_Mo_primes_66 rfl (Or.inr ⟨_, rfl⟩) ?_
        refine T_iload_n d_Mo_primes_67 rfl ?_
        refine T_iconst (v := nI 0) d_Mo_primes_68 (by decide) ?_
        refine T_virtual (as := [.int (nI n), .int (nI 0)]) (rest := [.int (nI ((fnd n))), .ref 376]) (b := 373) d_Mo_primes_69 rfl (jw_Mo_behindPoint.jo (by decide)) lm_Mo_38 ji_Mo_behindPoint js_Mo_behindPoint h_7 rfl rfl rfl (Nat.le_of_ble_eq_true rfl) (by decide) (by decide) (u_Mo_bp_s h_7 (by omega) (r1.kp ((Kp.ex (Kp.rf : Kp [375] Mb1 Mb1) s_5 (by decide))) (by decide)) (r2.kp ((Kp.ex (Kp.rf : Kp [375] Mb1 Mb1) s_5 (by decide))) (by decide)) (r3.kp ((Kp.ex (Kp.rf : Kp [375] Mb1 Mb1) s_5 (by decide))) (by decide))) (fun r Mb2 hq => ?_)
        obtain ⟨rfl, u1, u2, u3, kp_8⟩ := hq
        refine T_eq (pc' := 72) (L' := [(3, .int (nI 1)), (2, .int (nI n)), (1, .int (nI ((fnd n)))), (0, .ref 373)]) (st' := [.long (Int64.ofNat (bpG 2 8 n 70 % 18446744073709551616)), .int (nI ((fnd n))), .ref 376]) (M' := Mb2) rfl rfl rfl rfl ?_
        refine N_topl (y := hT (fnd n)) (pr_s (by omega) h2 hp (by omega)) ?_
        have h_9 := (kp_8 376 (by decide)).trans ((s_5 376 (by decide)).trans ((kp_1 376 (by decide)).trans (g1)))
        refine N_lastore (k := (fnd n)) d_Mo_primes_72 (by decide) h_9 (by omega) (by decide) rfl (fun M_10 h_11 s_12 => ?_)
        refine N_iinc (k := (fnd n)) (m := 1) (c := ((fnd n) + 1)) (L' := [(1, .int (nI (((fnd n) + 1)))), (3, .int (nI 1)), (2, .int (nI n)), (0, .ref 373)]) d_Mo_primes_73 (by decide) rfl (by decide) rfl rfl ?_
        refine N_iinc (k := n) (m := 1) (c := (n + 1)) (L' := [(2, .int (nI ((n + 1)))), (1, .int (nI (((fnd n) + 1)))), (3, .int (nI 1)), (0, .ref 373)]) d_Mo_primes_76 (by decide) rfl (by decide) rfl rfl ?_
        refine T_goto (tgt := 4) d_Mo_primes_79 rfl ?_
        have fe := fnd_y hp h2
        have h_13 := (s_12 375 (by decide)).trans ((kp_8 375 (by decide)).trans (h_4))
        refine T_eq (pc' := 4) (L' := [(2, .int (nI ((n + 1)))), (1, .int (nI ((fnd (n + 1))))), (3, .int (nI 1)), (0, .ref 373)]) (st' := []) (M' := M_10) rfl (by rw [fe]) rfl rfl ?_
        exact T_sub (L' := [(2, .int (nI ((n + 1)))), (1, .int (nI ((fnd (n + 1))))), (0, .ref 373)]) (fun q hq => by simp only [List.mem_cons, List.not_mem_nil, or_false] at hq ⊢; rcases hq with rfl | rfl | rfl <;> simp) (ih (n + 1) M_10 (by omega) (by omega) ⟨⟨_, h_13, fun t ht => by by_cases c : t = fnd n; subst c; exact uL_s; rw [uL_n c]; exact f2 t (by omega)⟩, ⟨_, h_11, fun t ht h8t => by by_cases c : t = fnd n; subst c; exact uL_s; rw [uL_n c]; exact g2 t (by omega) h8t⟩, (u1.kp ((Kp.ex (Kp.rf : Kp [376] Mb2 Mb2) s_12 (by decide))) (by decide)), (u2.kp ((Kp.ex (Kp.rf : Kp [376] Mb2 Mb2) s_12 (by decide))) (by decide)), (u3.kp ((Kp.ex (Kp.rf : Kp [376] Mb2 Mb2) s_12 (by decide))) (by decide)), Kp.tr hK ((Kp.ex (Kp.tr (Kp.ex (Kp.tr (Kp.rf : Kp [375, 376, 377, 378, 379] M M) (Kp.mono kp_1 (by decide))) s_5 (by decide)) (Kp.mono kp_8 (by decide))) s_12 (by decide)))⟩)
set_option maxHeartbeats 8000000 in
theorem u_Mo_primes {G : GX} {M : List va_E} {v : Nat → Int32} (ho : M[373]? = some (moO v)) (c1 : LQ M 375 80) (c2 : LQ M 376 8) (q1 : LQ M 377 5) (q2 : LQ M 378 12) (q3 : LQ M 379 20) : CT G mi_Mo_primes [.ref 373] M (fun r M' => r = none ∧ (∃ f, M'[375]? = some (lr 80 f) ∧ ∀ t, t < 80 → f t = kT t) ∧ (∃ g, M'[376]? = some (lr 8 g) ∧ ∀ t, t < 8 → g t = hT t) ∧ Kp [375, 376, 377, 378, 379] M M') := by
  obtain ⟨f0, h0⟩ := c1
  obtain ⟨g0, k0⟩ := c2
  refine CT.of (by decide) (Nat.le_of_ble_eq_true rfl) ?_
  show TT G mi_Mo_primes 0 [(0, .ref 373)] [] M 0 0 _
  refine T_iconst (v := nI 0) d_Mo_primes_0 (by decide) ?_
  refine T_istore_n (L' := [(1, .int (nI 0)), (0, .ref 373)]) d_Mo_primes_1 (by decide) rfl ?_
  refine T_iconst (v := nI 2) d_Mo_primes_2 (by decide) ?_
  refine T_istore_n (L' := [(2, .int (nI 2)), (1, .int (nI 0)), (0, .ref 373)]) d_Mo_primes_3 (by decide) rfl ?_
  refine T_eq (pc' := 4) (L' := [(2, .int (nI 2)), (1, .int (nI ((fnd 2)))), (0, .ref 373)]) (st' := []) (M' := M) rfl rfl rfl rfl ?_
  refine pr_o G ho (fun Ma L hI => ?_) 408 2 M (by decide) (Nat.le_refl 2) ⟨⟨f0, h0, fun t ht => by rw [fnd_2] at ht; omega⟩, ⟨g0, k0, fun t ht _ => by rw [fnd_2] at ht; omega⟩, q1, q2, q3, Kp.rf⟩
  obtain ⟨⟨f, f1, f2⟩, ⟨g, g1, g2⟩, -, -, -, ka⟩ := hI
  rw [fnd_e] at f2 g2
  exact T_vret d_Mo_primes_82 rfl (by decide) (by decide) ⟨rfl, ⟨f, f1, f2⟩, ⟨g, g1, fun t ht => g2 t (by omega) ht⟩, ka⟩
set_option maxHeartbeats 8000000 in
theorem nw_s (G : GX) {M0 : List va_E} {w : Nat → Int32} {l s : List UInt8} {seed : Int32} (hb : BG M0 w l) (hs : IA M0 383 64 s) (hsn : 64 < 2 ^ 31) (ha : 0 + 64 ≤ s.length) (hd : 0 + 64 ≤ 64)  {Q : Option Value → List va_E → Prop} (kk : ∀ M, IA M 402 64 (sl s 0 64) ∧ Kp [402] M0 M → TT G mk_Mo_new 728 [(0, .ref 373), (1, .int seed)] [] M 77 17150 Q) : ∀ j k M, k + j = 64 → IA M 402 64 (sl s 0 k) ∧ Kp [402] M0 M → TT G mk_Mo_new 704 [(2, .int (nI k)), (0, .ref 373), (1, .int seed)] [] M 77 17150 Q := by
  intro j
  induction j with
  | zero =>
    intro k M hk hI
    obtain rfl : 64 = k := by omega
    obtain ⟨hda, hK⟩ := id hI
    refine T_iload_n d_Mo_new_704 rfl ?_
    refine T_bipush (v := nI 64) d_Mo_new_705 (by decide) ?_
    refine N_icmp_ge_t (a := 64) (b := 64) d_Mo_new_707 (tgt := 728) rfl (by omega) (by omega) (by omega) ?_
    exact T_sub (fun q hq => List.mem_cons_of_mem _ hq) (kk M hI)
  | succ j ih =>
    intro k M hk hI
    obtain ⟨hda, hK⟩ := hI
    have hsl := IA.le hs
    refine T_iload_n d_Mo_new_704 rfl ?_
    refine T_bipush (v := nI 64) d_Mo_new_705 (by decide) ?_
    refine N_icmp_ge_f (a := 64) (b := k) d_Mo_new_707 (tgt := 728) rfl (by omega) (by omega) (by omega) ?_
    refine T_aload_n (v := .ref 373) d_Mo_new_710 rfl (Or.inr ⟨_, rfl⟩) ?_
    have p_1 := (BG.kp (hb) hK (by decide) (by decide))
    obtain ⟨v_2, hov_2, hwv_2, hsv_2, hiv_2⟩ := id p_1
    refine T_getfield (v := .ref 402) d_Mo_new_711 fg_Mo_319 hov_2 rfl ?_
    refine T_iload_n d_Mo_new_714 rfl ?_
    refine T_aload_n (v := .ref 373) d_Mo_new_715 rfl (Or.inr ⟨_, rfl⟩) ?_
    refine T_getfield (v := .ref 383) d_Mo_new_716 fg_Mo_55 hov_2 rfl ?_
    refine T_iload_n d_Mo_new_719 rfl ?_
    have p_3 := (IA.kp (hs) hK (by decide))
    obtain ⟨f_4, hf_5, hl_6, hv_7⟩ := id p_3
    refine N_iaload (k := k) (x := (bR (gd s k))) d_Mo_new_720 hf_5 (by omega) (by decide) (hv_7 k (by first | omega | (simp only [List.length_append, List.length_cons, List.length_nil, List.length_replicate, sl_len, be_len, sha_len, hmac_len, ex1_len, ex2_len, stretch_len, zer8_len, tC_len, tag1_len, bnN_len, xkp_len]; omega))) ?_
    obtain ⟨f_8, hf_9, hl_10, hv_11⟩ := id hda
    refine N_iastore (k := k) d_Mo_new_721 (by decide) hf_9 (by omega) (by decide) rfl (fun M_12 h_13 s_14 => ?_)
    refine N_iinc (k := k) (m := 1) (c := (k + 1)) (L' := [(2, .int (nI ((k + 1)))), (0, .ref 373), (1, .int seed)]) d_Mo_new_722 (by decide) rfl (by decide) rfl rfl ?_
    refine T_goto (tgt := 704) d_Mo_new_725 rfl ?_
    exact ih (k + 1) M_12 (by omega) ⟨ia_c0 h_13 (gd_c (by omega)) (by omega) (by omega) hv_11, (Kp.ex (Kp.tr (Kp.rf : Kp [402] M0 M0) (Kp.mono hK (by decide))) s_14 (by decide))⟩
set_option maxHeartbeats 8000000 in
theorem nw_w (G : GX) {M0 : List va_E} {w : Nat → Int32} {l s : List UInt8} {seed : Int32} (hb : BG M0 w l) (hs : IA M0 383 64 s) (hsn : 64 < 2 ^ 31) (ha : 0 + 64 ≤ s.length) (hd : 0 + 64 ≤ 400)  {Q : Option Value → List va_E → Prop} (kk : ∀ M, IA M 408 400 (sl s 0 64) ∧ Kp [408] M0 M → TT G mk_Mo_new 758 [(0, .ref 373), (1, .int seed)] [] M 77 17150 Q) : ∀ j k M, k + j = 64 → IA M 408 400 (sl s 0 k) ∧ Kp [408] M0 M → TT G mk_Mo_new 734 [(2, .int (nI k)), (0, .ref 373), (1, .int seed)] [] M 77 17150 Q := by
  intro j
  induction j with
  | zero =>
    intro k M hk hI
    obtain rfl : 64 = k := by omega
    obtain ⟨hda, hK⟩ := id hI
    refine T_iload_n d_Mo_new_734 rfl ?_
    refine T_bipush (v := nI 64) d_Mo_new_735 (by decide) ?_
    refine N_icmp_ge_t (a := 64) (b := 64) d_Mo_new_737 (tgt := 758) rfl (by omega) (by omega) (by omega) ?_
    exact T_sub (fun q hq => List.mem_cons_of_mem _ hq) (kk M hI)
  | succ j ih =>
    intro k M hk hI
    obtain ⟨hda, hK⟩ := hI
    have hsl := IA.le hs
    refine T_iload_n d_Mo_new_734 rfl ?_
    refine T_bipush (v := nI 64) d_Mo_new_735 (by decide) ?_
    refine N_icmp_ge_f (a := 64) (b := k) d_Mo_new_737 (tgt := 758) rfl (by omega) (by omega) (by omega) ?_
    refine T_aload_n (v := .ref 373) d_Mo_new_740 rfl (Or.inr ⟨_, rfl⟩) ?_
    have p_1 := (BG.kp (hb) hK (by decide) (by decide))
    obtain ⟨v_2, hov_2, hwv_2, hsv_2, hiv_2⟩ := id p_1
    refine T_getfield (v := .ref 408) d_Mo_new_741 fg_Mo_338 hov_2 rfl ?_
    refine T_iload_n d_Mo_new_744 rfl ?_
    refine T_aload_n (v := .ref 373) d_Mo_new_745 rfl (Or.inr ⟨_, rfl⟩) ?_
    refine T_getfield (v := .ref 383) d_Mo_new_746 fg_Mo_55 hov_2 rfl ?_
    refine T_iload_n d_Mo_new_749 rfl ?_
    have p_3 := (IA.kp (hs) hK (by decide))
    obtain ⟨f_4, hf_5, hl_6, hv_7⟩ := id p_3
    refine N_iaload (k := k) (x := (bR (gd s k))) d_Mo_new_750 hf_5 (by omega) (by decide) (hv_7 k (by first | omega | (simp only [List.length_append, List.length_cons, List.length_nil, List.length_replicate, sl_len, be_len, sha_len, hmac_len, ex1_len, ex2_len, stretch_len, zer8_len, tC_len, tag1_len, bnN_len, xkp_len]; omega))) ?_
    obtain ⟨f_8, hf_9, hl_10, hv_11⟩ := id hda
    refine N_iastore (k := k) d_Mo_new_751 (by decide) hf_9 (by omega) (by decide) rfl (fun M_12 h_13 s_14 => ?_)
    refine N_iinc (k := k) (m := 1) (c := (k + 1)) (L' := [(2, .int (nI ((k + 1)))), (0, .ref 373), (1, .int seed)]) d_Mo_new_752 (by decide) rfl (by decide) rfl rfl ?_
    refine T_goto (tgt := 734) d_Mo_new_755 rfl ?_
    exact ih (k + 1) M_12 (by omega) ⟨ia_c0 h_13 (gd_c (by omega)) (by omega) (by omega) hv_11, (Kp.ex (Kp.tr (Kp.rf : Kp [408] M0 M0) (Kp.mono hK (by decide))) s_14 (by decide))⟩
abbrev nwW : List Nat := [373, 374, 375, 376, 377, 378, 379, 380, 381, 382, 383, 389, 390, 391, 392, 393, 394, 395, 396, 397, 398, 401, 402, 403, 404, 408]
def wSd (seed : Int32) : Nat → Int32 := fun j => if j = 71 then seed else nI 0
theorem mo_wSd (seed : Int32) : mo_F seed = moO (wSd seed) := rfl
theorem v16_0 (d : Nat) : V16 (fun _ => 0) d 0 := by
  refine ⟨?_, fun k _ => by show -131072 ≤ (0 : Int64).toInt ∧ (0 : Int64).toInt ≤ 131072; decide⟩
  have e : v16 (fun _ => 0) (16 * d) = v16 (fun _ => 0) 0 := rfl
  rw [e]; exact eqP.of (by decide)
set_option maxHeartbeats 8000000 in
theorem n_Mo_callsX (G : GX) {M : List va_E} {seed : Int32} (ho : M[373]? = some (mo_F seed)) (zI : ∀ z ∈ msI, IQ M z.1 z.2) (zL : ∀ z ∈ msL, LQ M z.1 z.2) (z374 : IQ M 374 4000) (z375 : LQ M 375 80) (z376 : LQ M 376 8) (z377 : LQ M 377 5) (z378 : LQ M 378 12) (z379 : LQ M 379 20) (z386 : IA M 386 64 (zer8 64)) (z390 : M[390]? = some (lr 1024 fun _ => 0)) (z391 : LQ M 391 31) (z392 : LQ M 392 16) (z393 : LQ M 393 16) (z394 : IQ M 394 32) (z396 : M[396]? = some (lr 17 fun _ => 0)) (z402 : IQ M 402 64) (z403 : LQ M 403 16) (z404 : IQ M 404 32) : TT G mk_Mo_new 686 [(0, .ref 373), (1, .int seed)] [] M 77 17150 (fun r M' => r = none ∧ MS M' ∧ NB M' seed 2 0 0 0 ∧ IA M' 402 64 (chance seed (nI 0)) ∧ SC M' 403 16 0 (ownK seed) ∧ IA M' 404 32 (pub (ownK seed)) ∧ Kp nwW M M') := by
  rw [mo_wSd] at ho
  refine T_aload_n (v := .ref 373) d_Mo_new_686 rfl (Or.inr ⟨_, rfl⟩) ?_
  refine T_virtual (as := []) (rest := []) (b := 373) d_Mo_new_687 rfl (jw_Mo_primes.jo (by decide)) lm_Mo_476 ji_Mo_primes js_Mo_primes ho rfl rfl rfl (Nat.le_of_ble_eq_true rfl) (by decide) (by decide) (u_Mo_primes ho z375 z376 z377 z378 z379) (fun r Ma hq => ?_)
  obtain ⟨rfl, cA_, cB_, ka⟩ := hq
  refine T_eq (pc' := 690) (L' := [(0, .ref 373), (1, .int seed)]) (st' := []) (M' := Ma) rfl rfl rfl rfl ?_
  refine T_aload_n (v := .ref 373) d_Mo_new_690 rfl (Or.inr ⟨_, rfl⟩) ?_
  have h_1 := (ka 373 (by decide)).trans (ho)
  have re0 : RE Ma (wSd seed) (fun _ => 0) := ⟨fun _ => 0, ⟨h_1, (ka 390 (by decide)).trans z390, z391.kp ka (by decide), z392.kp ka (by decide), z393.kp ka (by decide), z394.kp ka (by decide)⟩, fun d _ => v16_0 d⟩
  refine T_virtual (as := []) (rest := []) (b := 373) d_Mo_new_691 rfl (jw_Mo_constants.jo (by decide)) lm_Mo_479 ji_Mo_constants js_Mo_constants h_1 rfl rfl rfl (Nat.le_of_ble_eq_true rfl) (by decide) (by decide) (u_Mo_constants re0) (fun r Mb hq => ?_)
  obtain ⟨rfl, E1, re1, ck1, kb⟩ := hq
  refine T_eq (pc' := 694) (L' := [(0, .ref 373), (1, .int seed)]) (st' := []) (M' := Mb) rfl rfl rfl rfl ?_
  refine T_aload_n (v := .ref 373) d_Mo_new_694 rfl (Or.inr ⟨_, rfl⟩) ?_
  have h_2 := (kb 373 (by decide)).trans (h_1)
  have kab : Kp nwW M Mb := Kp.tr (Kp.mono ka (by decide)) (Kp.mono kb (by decide))
  have z396b : Mb[396]? = some (lr 17 fun _ => 0) := (kb 396 (by decide)).trans ((ka 396 (by decide)).trans z396)
  refine T_virtual (as := []) (rest := []) (b := 373) d_Mo_new_695 rfl (jw_Mo_order.jo (by decide)) lm_Mo_482 ji_Mo_order js_Mo_order h_2 rfl rfl rfl (Nat.le_of_ble_eq_true rfl) (by decide) (by decide) (u_Mo_order h_2 z396b) (fun r Mc hq => ?_)
  obtain ⟨rfl, cQ_, kc⟩ := hq
  have h_3 := (kc 373 (by decide)).trans (h_2)
  have kac : Kp [375, 376, 377, 378, 379, 390, 391, 392, 393, 394, 396] M Mc := Kp.tr (Kp.tr (Kp.mono ka (by decide)) (Kp.mono kb (by decide))) (Kp.mono kc (by decide))
  have kbc : Kp [390, 391, 392, 393, 394, 396] Ma Mc := Kp.tr (Kp.mono kb (by decide)) (Kp.mono kc (by decide))
  have msC : MS Mc := ⟨fun z hz => (zI z hz).kp kac ((by decide +kernel : ∀ z ∈ msI, z.1 ∉ [375, 376, 377, 378, 379, 390, 391, 392, 393, 394, 396]) z hz), fun z hz => (zL z hz).kp kac ((by decide +kernel : ∀ z ∈ msL, z.1 ∉ [375, 376, 377, 378, 379, 390, 391, 392, 393, 394, 396]) z hz), ⟨by obtain ⟨f, h1, h2⟩ := cA_; exact ⟨f, (kbc 375 (by decide)).trans h1, h2⟩, by obtain ⟨f, h1, h2⟩ := cB_; exact ⟨f, (kbc 376 (by decide)).trans h1, h2⟩, z386.kp kac (by decide), cQ_⟩, E1, re1.rg.kp kc (by decide), ck1⟩
  have bgC : BG Mc (wSd seed) [] := ⟨wSd seed, h_3, fun _ _ => rfl, rfl, (z374.kp kac (by decide)).ia⟩
  refine T_eq (pc' := 698) (L' := [(0, .ref 373), (1, .int seed)]) (st' := []) (M' := Mc) rfl rfl rfl rfl ?_
  refine T_aload_n (v := .ref 373) d_Mo_new_698 rfl (Or.inr ⟨_, rfl⟩) ?_
  obtain ⟨v_5, hov_5, hwv_5, hsv_5, hiv_5⟩ := id bgC
  refine T_virtual (as := []) (rest := []) (b := 373) d_Mo_new_699 rfl (jw_Mo_chance.jo (by decide)) lm_Mo_304 ji_Mo_chance js_Mo_chance hov_5 rfl rfl rfl (Nat.le_of_ble_eq_true rfl) (by decide) (by decide) (b_Mo_chance msC bgC (show (wSd seed) 71 = seed from rfl) (show (wSd seed) 72 = nI 0 from rfl)) (fun r M_4 hq => ?_)
  obtain ⟨rfl, p_4_0, p_4_1, p_4_2, kp_4⟩ := hq
  refine T_eq (pc' := 702) (L' := [(0, .ref 373), (1, .int seed)]) (st' := []) (M' := M_4) rfl rfl rfl rfl ?_
  refine T_iconst (v := nI 0) d_Mo_new_702 (by decide) ?_
  refine T_istore_n (L' := [(2, .int (nI 0)), (0, .ref 373), (1, .int seed)]) d_Mo_new_703 (by decide) rfl ?_
  have p_6 := (IA.kp ((z402.kp kac (by decide)).ia) kp_4 (by decide))
  refine nw_s G p_4_1 p_4_2 (by decide) (by first | omega | (simp only [List.length_append, List.length_cons, List.length_nil, List.length_replicate, sl_len, be_len, sha_len, hmac_len, ex1_len, ex2_len, stretch_len, zer8_len, tC_len, tag1_len, bnN_len, xkp_len, enc_len, chance_len, lbF_len, str2_len, pub_len', sec8_len]; done) | (simp only [List.length_append, List.length_cons, List.length_nil, List.length_replicate, sl_len, be_len, sha_len, hmac_len, ex1_len, ex2_len, stretch_len, zer8_len, tC_len, tag1_len, bnN_len, xkp_len, enc_len, chance_len, lbF_len, str2_len, pub_len', sec8_len]; omega)) (by decide) (fun Mc7 hI => ?_) 64 0 M_4 (Nat.zero_add _) ⟨by rw [sl_zero]; exact p_6.iq.ia, Kp.rf⟩
  obtain ⟨hd7, hK7⟩ := hI
  have p_8 : IA Mc7 402 64 (chance seed (nI 0)) := (by have g := hd7; rw [sl64 (chance_len _ _)] at g; exact g)
  refine T_aload_n (v := .ref 373) d_Mo_new_728 rfl (Or.inr ⟨_, rfl⟩) ?_
  have p_9 := (MS.kp (p_4_0) hK7 (by decide))
  have p_10 := (BG.kp (p_4_1) hK7 (by decide) (by decide))
  obtain ⟨v_12, hov_12, hwv_12, hsv_12, hiv_12⟩ := id p_10
  refine T_virtual (as := []) (rest := []) (b := 373) d_Mo_new_729 rfl (jw_Mo_chance.jo (by decide)) lm_Mo_304 ji_Mo_chance js_Mo_chance hov_12 rfl rfl rfl (Nat.le_of_ble_eq_true rfl) (by decide) (by decide) (b_Mo_chance p_9 p_10 (show (upd (wSd seed) 72 (nI (0 + 1))) 71 = seed from rfl) (show (upd (wSd seed) 72 (nI (0 + 1))) 72 = nI (0 + 1) from rfl)) (fun r M_11 hq => ?_)
  obtain ⟨rfl, p_11_0, p_11_1, p_11_2, kp_11⟩ := hq
  refine T_eq (pc' := 732) (L' := [(0, .ref 373), (1, .int seed)]) (st' := []) (M' := M_11) rfl rfl rfl rfl ?_
  refine T_iconst (v := nI 0) d_Mo_new_732 (by decide) ?_
  refine T_istore_n (L' := [(2, .int (nI 0)), (0, .ref 373), (1, .int seed)]) d_Mo_new_733 (by decide) rfl ?_
  refine nw_w G p_11_1 p_11_2 (by decide) (by first | omega | (simp only [List.length_append, List.length_cons, List.length_nil, List.length_replicate, sl_len, be_len, sha_len, hmac_len, ex1_len, ex2_len, stretch_len, zer8_len, tC_len, tag1_len, bnN_len, xkp_len, enc_len, chance_len, lbF_len, str2_len, pub_len', sec8_len]; done) | (simp only [List.length_append, List.length_cons, List.length_nil, List.length_replicate, sl_len, be_len, sha_len, hmac_len, ex1_len, ex2_len, stretch_len, zer8_len, tC_len, tag1_len, bnN_len, xkp_len, enc_len, chance_len, lbF_len, str2_len, pub_len', sec8_len]; omega)) (by decide) (fun Mc13 hI => ?_) 64 0 M_11 (Nat.zero_add _) ⟨by rw [sl_zero]; exact (MS.ia p_11_0 (p := 408) (n := 400) (by decide)), Kp.rf⟩
  obtain ⟨hd13, hK13⟩ := hI
  have ms13 := MS.wi p_11_0 hK13 hd13.iq (by decide) (by decide) (by decide)
  have p_14 : IA Mc13 408 400 (chance seed (nI 1)) := (by have g := hd13; rw [sl64 (chance_len _ _)] at g; exact g)
  refine T_aload_n (v := .ref 373) d_Mo_new_758 rfl (Or.inr ⟨_, rfl⟩) ?_
  refine T_aload_n (v := .ref 373) d_Mo_new_759 rfl (Or.inr ⟨_, rfl⟩) ?_
  have p_15 := (BG.kp (p_11_1) hK13 (by decide) (by decide))
  obtain ⟨v_16, hov_16, hwv_16, hsv_16, hiv_16⟩ := id p_15
  refine T_getfield (v := .ref 408) d_Mo_new_760 fg_Mo_338 hov_16 rfl ?_
  refine T_iconst (v := nI 0) d_Mo_new_763 (by decide) ?_
  refine T_bipush (v := nI 32) d_Mo_new_764 (by decide) ?_
  refine T_iconst (v := nI 1) d_Mo_new_766 (by decide) ?_
  refine T_virtual (as := [.ref 408, .int (nI 0), .int (nI 32), .int (nI 1)]) (rest := []) (b := 373) d_Mo_new_767 rfl (jw_Mo_keyOf.jo (by decide)) lm_Mo_485 ji_Mo_keyOf js_Mo_keyOf hov_16 rfl rfl rfl (Nat.le_of_ble_eq_true rfl) (by decide) (by decide) (b_Mo_keyOf1 (at0 := 0) ms13 p_15 p_14 (by first | omega | (simp only [List.length_append, List.length_cons, List.length_nil, List.length_replicate, sl_len, be_len, sha_len, hmac_len, ex1_len, ex2_len, stretch_len, zer8_len, tC_len, tag1_len, bnN_len, xkp_len, enc_len, chance_len, lbF_len, str2_len, pub_len', sec8_len]; done) | (simp only [List.length_append, List.length_cons, List.length_nil, List.length_replicate, sl_len, be_len, sha_len, hmac_len, ex1_len, ex2_len, stretch_len, zer8_len, tC_len, tag1_len, bnN_len, xkp_len, enc_len, chance_len, lbF_len, str2_len, pub_len', sec8_len]; omega)) (by decide) (by decide)) (fun r M_17 hq => ?_)
  obtain ⟨rfl, p_17_0, p_17_1, p_17_2, kp_17⟩ := hq
  refine T_eq (pc' := 770) (L' := [(0, .ref 373), (1, .int seed)]) (st' := []) (M' := M_17) rfl rfl rfl rfl ?_
  refine T_aload_n (v := .ref 373) d_Mo_new_770 rfl (Or.inr ⟨_, rfl⟩) ?_
  refine T_aload_n (v := .ref 373) d_Mo_new_771 rfl (Or.inr ⟨_, rfl⟩) ?_
  obtain ⟨v_18, hov_18, hwv_18, hsv_18, hiv_18⟩ := id p_17_1
  refine T_getfield (v := .ref 403) d_Mo_new_772 fg_Mo_322 hov_18 rfl ?_
  refine T_iconst (v := nI 0) d_Mo_new_775 (by decide) ?_
  have p_19 : SC M_17 395 16 0 (ownK seed) := p_17_2
  have kk9 : Kp [375, 376, 377, 378, 379, 390, 391, 392, 393, 394, 396, 402, 408, 373, 374, 380, 381, 382, 383, 389, 395, 397, 398, 401] M M_17 := (Kp.tr (Kp.tr (Kp.tr (Kp.tr (Kp.tr (Kp.tr (Kp.tr (Kp.tr (Kp.rf : Kp [375, 376, 377, 378, 379, 390, 391, 392, 393, 394, 396, 402, 408, 373, 374, 380, 381, 382, 383, 389, 395, 397, 398, 401] M M) (Kp.mono ka (by decide))) (Kp.mono kb (by decide))) (Kp.mono kc (by decide))) (Kp.mono kp_4 (by decide))) (Kp.mono hK7 (by decide))) (Kp.mono kp_11 (by decide))) (Kp.mono hK13 (by decide))) (Kp.mono kp_17 (by decide +kernel)))
  obtain ⟨g3, z403b⟩ := z403.kp kk9 (by decide)
  obtain ⟨g4, z404b⟩ := z404.kp kk9 (by decide)
  refine T_virtual (as := [.ref 403, .int (nI 0)]) (rest := []) (b := 373) d_Mo_new_776 rfl (jw_Mo_putScalar.jo (by decide)) lm_Mo_489 ji_Mo_putScalar js_Mo_putScalar hov_18 rfl rfl rfl (Nat.le_of_ble_eq_true rfl) (by decide) (by decide) (b_Mo_put (at0 := 0) p_17_1 p_19 z403b (by decide) (by decide) (by decide) (by decide)) (fun r Mk hq => ?_)
  obtain ⟨rfl, ⟨f3, p2, p3, p4⟩, kk1⟩ := hq
  have sk : SC Mk 403 16 0 (ownK seed) := ⟨f3, p2, p3⟩
  refine T_eq (pc' := 779) (L' := [(0, .ref 373), (1, .int seed)]) (st' := []) (M' := Mk) rfl rfl rfl rfl ?_
  refine T_aload_n (v := .ref 373) d_Mo_new_779 rfl (Or.inr ⟨_, rfl⟩) ?_
  refine T_aload_n (v := .ref 373) d_Mo_new_780 rfl (Or.inr ⟨_, rfl⟩) ?_
  have p_20 := (BG.kp (p_17_1) kk1 (by decide) (by decide))
  obtain ⟨v_21, hov_21, hwv_21, hsv_21, hiv_21⟩ := id p_20
  refine T_getfield (v := .ref 404) d_Mo_new_781 fg_Mo_325 hov_21 rfl ?_
  refine T_iconst (v := nI 0) d_Mo_new_784 (by decide) ?_
  have p_22 := (SC.kp (p_19) kk1 (by decide))
  have p_23 := (MS.kp (p_17_0) kk1 (by decide))
  refine T_virtual (as := [.ref 404, .int (nI 0)]) (rest := []) (b := 373) d_Mo_new_785 rfl (jw_Mo_publicTo.jo (by decide)) lm_Mo_492 ji_Mo_publicTo js_Mo_publicTo hov_21 rfl rfl rfl (Nat.le_of_ble_eq_true rfl) (by decide) (by decide) (b_Mo_publicTo (at0 := 0) p_23 p_20 p_22 (Nat.lt_trans (keyN_lt _ _) (by decide)) ((kk1 404 (by decide)).trans z404b) (by decide) (by decide) (by decide) (by decide)) (fun r Mp hq => ?_)
  obtain ⟨rfl, M1, ms1, kr, kz, g', zz1, zz2⟩ := hq
  have kp9 : Kp [404, 390, 391, 392, 393, 394] Mk Mp := Kp.tr (Kp.mono kr (by decide)) (Kp.mono kz (by decide))
  have ms9 := MS.kp ms1 kz (by decide)
  have i404 : IA Mp 404 32 (pub (ownK seed)) := OV.ia zz2 zz1 (by rw [pub_len']; exact Nat.le_refl _)
  refine T_eq (pc' := 788) (L' := [(0, .ref 373), (1, .int seed)]) (st' := []) (M' := Mp) rfl rfl rfl rfl ?_
  have p_24 := (BG.kp (p_20) kp9 (by decide) (by decide))
  have nb_ : NB Mp seed 2 0 0 0 := ⟨_, p_24, (show (upd (upd (wSd seed) 72 (nI (0 + 1))) 72 (nI ((0 + 1) + 1))) 66 = (nI 0) from rfl), (show (upd (upd (wSd seed) 72 (nI (0 + 1))) 72 (nI ((0 + 1) + 1))) 71 = seed from rfl), (show (upd (upd (wSd seed) 72 (nI (0 + 1))) 72 (nI ((0 + 1) + 1))) 72 = (nI (((0 + 1) + 1))) from rfl), (show (upd (upd (wSd seed) 72 (nI (0 + 1))) 72 (nI ((0 + 1) + 1))) 73 = (nI 0) from rfl), (show (upd (upd (wSd seed) 72 (nI (0 + 1))) 72 (nI ((0 + 1) + 1))) 74 = (nI 0) from rfl)⟩
  have p_25 := (IA.kp ((IA.kp ((IA.kp ((IA.kp ((IA.kp (p_8) kp_11 (by decide))) hK13 (by decide))) kp_17 (by decide))) kk1 (by decide))) kp9 (by decide))
  have p_26 := (SC.kp (sk) kp9 (by decide))
  exact T_vret d_Mo_new_788 rfl (by decide) (by decide) ⟨rfl, ms9, nb_, p_25, p_26, i404, (Kp.tr (Kp.tr (Kp.tr (Kp.tr (Kp.tr (Kp.tr (Kp.tr (Kp.tr (Kp.tr (Kp.tr (Kp.rf : Kp [373, 374, 375, 376, 377, 378, 379, 380, 381, 382, 383, 389, 390, 391, 392, 393, 394, 395, 396, 397, 398, 401, 402, 403, 404, 408] M M) (Kp.mono ka (by decide))) (Kp.mono kb (by decide))) (Kp.mono kc (by decide))) (Kp.mono kp_4 (by decide))) (Kp.mono hK7 (by decide))) (Kp.mono kp_11 (by decide))) (Kp.mono hK13 (by decide))) (Kp.mono kp_17 (by decide +kernel))) (Kp.mono kk1 (by decide))) (Kp.mono kp9 (by decide)))⟩
