def mp (h : Nat → UInt8) (k : Nat) : List UInt8 := (List.range k).map h
theorem mp_len (h : Nat → UInt8) (k : Nat) : (mp h k).length = k := by unfold mp; simp
theorem mp_s (h : Nat → UInt8) (k : Nat) : mp h (k + 1) = mp h k ++ [h k] := by unfold mp; rw [List.range_succ, List.map_append]; rfl
theorem mp_sl (s : List UInt8) (a n : Nat) : mp (fun i => gd s (a + i)) n = sl s a n := rfl
theorem mp_gd {h : Nat → UInt8} {k i : Nat} (hi : i < k) : gd (mp h k) i = h i := mr_gd hi
theorem bR_xor (a b : UInt8) : bR a ^^^ bR b = bR (a ^^^ b) := by
  unfold bR nI
  rw [UInt8.toNat_xor]
  apply Int32.toBitVec_inj.mp
  rw [Int32.toBitVec_xor]
  exact (BitVec.ofNat_xor ..).symm
theorem gd_big {l : List UInt8} {i : Nat} (h : l.length ≤ i) : gd l i = 0 := by unfold gd; rw [List.getD_eq_getElem?_getD, List.getElem?_eq_none h]; rfl
def RO (M : List va_E) (p n : Nat) (L0 : List UInt8) (a c : Nat) (l : List UInt8) : Prop := ∃ L, IA M p n L ∧ L.length = n ∧ (∀ i, i < a ∨ a + c ≤ i → gd L i = gd L0 i) ∧ (∀ i, i < l.length → gd L (a + i) = gd l i) ∧ l.length ≤ c ∧ a + c ≤ n
theorem RO.kp {M M' : List va_E} {W : List Nat} {p n a c : Nat} {L0 l : List UInt8} (h : RO M p n L0 a c l) (s : Kp W M M') (hn : p ∉ W) : RO M' p n L0 a c l := by obtain ⟨L, h1, h2⟩ := h; exact ⟨L, h1.kp s hn, h2⟩
set_option maxHeartbeats 8000000 in
theorem RO.push {M : List va_E} {p n a c i : Nat} {L0 L l : List UInt8} {f : Nat → Int32} {b : UInt8} (h : M[p]? = some (ir n (upd f i (bR b)))) (hf : ∀ j, j < L.length → f j = bR (gd L j)) (hL : L.length = n) (out : ∀ i, i < a ∨ a + c ≤ i → gd L i = gd L0 i) (sg : ∀ i, i < l.length → gd L (a + i) = gd l i) (hi : i = a + l.length) (hc : l.length < c) (hn : a + c ≤ n) : RO M p n L0 a c (l ++ [b]) := by
  subst hi
  have e : ∀ j, j < n → gd (L.set (a + l.length) b) j = if j = a + l.length then b else gd L j := fun j hj => by
    unfold gd
    rw [List.getD_eq_getElem?_getD, List.getD_eq_getElem?_getD, List.getElem?_set]
    by_cases c2 : a + l.length = j
    · rw [if_pos c2, if_pos (by omega), if_pos c2.symm]; rfl
    · rw [if_neg c2, if_neg (fun z => c2 z.symm)]
  have e2 : ∀ j, ¬ j < n → gd (L.set (a + l.length) b) j = gd L j := fun j hj => by
    rw [gd_big (by rw [List.length_set]; omega), gd_big (by omega)]
  refine ⟨L.set (a + l.length) b, ⟨_, h, by rw [List.length_set]; omega, fun j hj => ?_⟩, by rw [List.length_set]; exact hL, fun j hj => ?_, fun j hj => ?_, by rw [List.length_append]; exact hc, hn⟩
  · rw [List.length_set, hL] at hj
    rw [e j hj]
    unfold upd
    split
    · rfl
    · exact hf j (by omega)
  · by_cases c2 : j < n
    · rw [e j c2, if_neg (by omega)]; exact out j hj
    · rw [e2 j c2]; exact out j hj
  · rw [List.length_append, List.length_singleton] at hj
    rw [e _ (by omega)]
    by_cases c2 : j = l.length
    · subst c2; rw [if_pos rfl, gd_r (Nat.le_refl _), Nat.sub_self]; rfl
    · rw [if_neg (by omega), gd_l (by omega)]; exact sg j (by omega)
theorem RO.pushm {M : List va_E} {p n a c i k : Nat} {L0 L l : List UInt8} {f : Nat → Int32} {b : UInt8} {h0 : Nat → UInt8} (h : M[p]? = some (ir n (upd f i (bR b)))) (hf : ∀ j, j < L.length → f j = bR (gd L j)) (hL : L.length = n) (out : ∀ i, i < a ∨ a + c ≤ i → gd L i = gd L0 i) (sg : ∀ i, i < (l ++ mp h0 k).length → gd L (a + i) = gd (l ++ mp h0 k) i) (hb : b = h0 k) (hi : i = a + (l.length + k)) (hc : l.length + k < c) (hn : a + c ≤ n) : RO M p n L0 a c (l ++ mp h0 (k + 1)) := by
  have e : (l ++ mp h0 k).length = l.length + k := by rw [List.length_append, mp_len]
  rw [mp_s, ← List.append_assoc, ← hb]
  exact RO.push h hf hL out sg (by rw [e]; exact hi) (by rw [e]; exact hc) hn
set_option maxHeartbeats 8000000 in
theorem RO.app {M M' : List va_E} {p n a c b : Nat} {L0 l m : List UInt8} {g g' : Nat → Int32} (h : RO M p n L0 a c l) (hg : M[p]? = some (ir n g)) (hg' : M'[p]? = some (ir n g')) (v : OV g g' b m) (hb : b = a + l.length) (hc : l.length + m.length ≤ c) : RO M' p n L0 a c (l ++ m) := by
  obtain ⟨L, ⟨f, f1, f2, f3⟩, hL, out, sg, h1, h2⟩ := h
  rw [f1] at hg
  have e0 := Option.some.inj hg
  simp only [Sum.inl.injEq, Prod.mk.injEq, true_and] at e0
  subst e0
  subst hb
  let L' : List UInt8 := (List.range n).map fun i => if a + l.length ≤ i ∧ i < a + l.length + m.length then gd m (i - (a + l.length)) else gd L i
  have lL : L'.length = n := by simp [L']
  have e : ∀ j, j < n → gd L' j = if a + l.length ≤ j ∧ j < a + l.length + m.length then gd m (j - (a + l.length)) else gd L j := fun j hj => mr_gd hj
  have e2 : ∀ j, ¬ j < n → gd L' j = gd L j := fun j hj => by
    rw [gd_big (by omega), gd_big (by omega)]
  refine ⟨L', ⟨g', hg', by omega, fun j hj => ?_⟩, lL, fun j hj => ?_, fun j hj => ?_, by rw [List.length_append]; exact hc, h2⟩
  · rw [lL] at hj
    rw [e j hj]
    split
    · rename_i c1
      have := v.1 (j - (a + l.length)) (by omega)
      rw [show a + l.length + (j - (a + l.length)) = j by omega] at this
      exact this
    · rename_i c1
      rw [v.2 j (by omega)]; exact f3 j (by omega)
  · by_cases c2 : j < n
    · rw [e j c2, if_neg (by omega)]; exact out j hj
    · rw [e2 j c2]; exact out j hj
  · rw [List.length_append] at hj
    rw [e _ (by omega)]
    by_cases c2 : j < l.length
    · rw [if_neg (by omega), gd_l c2]; exact sg j c2
    · rw [if_pos (by omega), gd_r (by omega)]; congr 1; omega
theorem sl_sg {L l : List UInt8} {a b k : Nat} (sg : ∀ i, i < l.length → gd L (a + i) = gd l i) (h : b + k ≤ l.length) : sl L (a + b) k = sl l b k := by
  unfold sl
  apply List.map_congr_left
  intro i hi
  rw [List.mem_range] at hi
  have := sg (b + i) (by omega)
  rw [Nat.add_assoc]; exact this
theorem nB_sg {L l : List UInt8} {a b : Nat} (sg : ∀ i, i < l.length → gd L (a + i) = gd l i) (h : b + 32 ≤ l.length) : nB L (a + b) = nB l b := by
  unfold nB
  apply num32_congr
  intro k hk
  rw [Nat.add_assoc, sg (b + k) (by omega)]
def PX (L : List UInt8) (c k : Nat) (X : Nat → List UInt8) : Prop := ∀ s, s < k → (X s).length ≤ c ∧ ∀ i, i < (X s).length → gd L (c * s + i) = gd (X s) i
def SL (M : List va_E) (p n c k : Nat) (X : Nat → List UInt8) : Prop := ∃ L, IA M p n L ∧ L.length = n ∧ PX L c k X
theorem SL.kp {M M' : List va_E} {W : List Nat} {p n c k : Nat} {X : Nat → List UInt8} (h : SL M p n c k X) (s : Kp W M M') (hn : p ∉ W) : SL M' p n c k X := by obtain ⟨L, h1, h2⟩ := h; exact ⟨L, h1.kp s hn, h2⟩
theorem SL.ro {M : List va_E} {p n c k s : Nat} {X : Nat → List UInt8} (h : SL M p n c k X) (hs : s < k) (hn : c * k = n) : ∃ L, RO M p n L (c * s) c [] ∧ PX L c k X := by
  obtain ⟨L, h1, h2, h3⟩ := h
  have := Nat.mul_le_mul_left c (show s + 1 ≤ k from hs)
  rw [Nat.mul_add, Nat.mul_one] at this
  exact ⟨L, ⟨L, h1, h2, fun _ _ => rfl, fun i hi => absurd hi (Nat.not_lt_zero i), Nat.zero_le _, by omega⟩, h3⟩
theorem RO.sl {M : List va_E} {p n c k s : Nat} {X : Nat → List UInt8} {L0 l : List UInt8} (h : RO M p n L0 (c * s) c l) (hx : PX L0 c k X) : SL M p n c k (updT X s l) := by
  obtain ⟨L, h1, h2, h3, h4, h5, h6⟩ := h
  refine ⟨L, h1, h2, fun j hj => ?_⟩
  unfold updT
  by_cases e : j = s
  · subst e; rw [if_pos rfl]; exact ⟨h5, h4⟩
  · rw [if_neg e]
    refine ⟨(hx j hj).1, fun i hi => ?_⟩
    have hc := (hx j hj).1
    rw [h3 _ ?_]
    · exact (hx j hj).2 i hi
    · rcases Nat.lt_or_gt_of_ne e with g | g
      · have := Nat.mul_le_mul_left c (show j + 1 ≤ s from g)
        rw [Nat.mul_add, Nat.mul_one] at this
        omega
      · have := Nat.mul_le_mul_left c (show s + 1 ≤ j from g)
        rw [Nat.mul_add, Nat.mul_one] at this
        omega
theorem SL.rd {M : List va_E} {p n c k s : Nat} {X : Nat → List UInt8} (h : SL M p n c k X) (hs : s < k) : ∃ L, IA M p n L ∧ L.length = n ∧ ∀ i, i < (X s).length → gd L (c * s + i) = gd (X s) i := by
  obtain ⟨L, h1, h2, h3⟩ := h; exact ⟨L, h1, h2, (h3 s hs).2⟩
set_option maxHeartbeats 8000000 in
theorem SL.up {M M' : List va_E} {p n c k s i : Nat} {X : Nat → List UInt8} {L : List UInt8} {f : Nat → Int32} {b : UInt8} (hf : ∀ j, j < L.length → f j = bR (gd L j)) (hL : L.length = n) (hx : PX L c k X) (hs : s < k) (hi : i < (X s).length) (hn : c * k = n) (h : M'[p]? = some (ir n (upd f (c * s + i) (bR b)))) : SL M' p n c k (updT X s ((X s).set i b)) := by
  have hb := (hx s hs).1
  have hm := Nat.mul_le_mul_left c (show s + 1 ≤ k from hs)
  rw [Nat.mul_add, Nat.mul_one] at hm
  have e : ∀ j, j < n → gd (L.set (c * s + i) b) j = if j = c * s + i then b else gd L j := fun j hj => by
    unfold gd
    rw [List.getD_eq_getElem?_getD, List.getD_eq_getElem?_getD, List.getElem?_set]
    by_cases c2 : c * s + i = j
    · rw [if_pos c2, if_pos (by omega), if_pos c2.symm]; rfl
    · rw [if_neg c2, if_neg (fun z => c2 z.symm)]
  refine ⟨L.set (c * s + i) b, ⟨_, h, by rw [List.length_set]; omega, fun j hj => ?_⟩, by rw [List.length_set]; exact hL, fun j hj => ?_⟩
  · rw [List.length_set, hL] at hj
    rw [e j hj]; unfold upd
    split
    · rfl
    · exact hf j (by omega)
  · unfold updT
    have hm2 := Nat.mul_le_mul_left c (show j + 1 ≤ k from hj)
    rw [Nat.mul_add, Nat.mul_one] at hm2
    by_cases g : j = s
    · subst g
      rw [if_pos rfl, List.length_set]
      refine ⟨hb, fun z hz => ?_⟩
      rw [e _ (by omega)]
      unfold gd
      rw [List.getD_eq_getElem?_getD (l := (X j).set i b), List.getElem?_set]
      by_cases c2 : i = z
      · subst c2; rw [if_pos rfl, if_pos rfl, if_pos hi]; rfl
      · rw [if_neg (by omega), if_neg c2, ← List.getD_eq_getElem?_getD]; exact (hx j hj).2 z hz
    · rw [if_neg g]
      refine ⟨(hx j hj).1, fun z hz => ?_⟩
      have hc := (hx j hj).1
      rw [e _ (by omega), if_neg ?_]
      · exact (hx j hj).2 z hz
      · rcases Nat.lt_or_gt_of_ne g with q | q
        · have := Nat.mul_le_mul_left c (show j + 1 ≤ s from q)
          rw [Nat.mul_add, Nat.mul_one] at this
          omega
        · have := Nat.mul_le_mul_left c (show s + 1 ≤ j from q)
          rw [Nat.mul_add, Nat.mul_one] at this
          omega
def ZR (M : List va_E) (p k : Nat) (t : Nat → Bool) : Prop := ∃ f, M[p]? = some (zr k f) ∧ ∀ j, j < k → f j = nI (bN (t j))
theorem ZR.kp {M M' : List va_E} {W : List Nat} {p k : Nat} {t : Nat → Bool} (h : ZR M p k t) (s : Kp W M M') (hn : p ∉ W) : ZR M' p k t := by obtain ⟨f, h1, h2⟩ := h; exact ⟨f, (s _ hn).trans h1, h2⟩
def NR (M : List va_E) (p k : Nat) (t : Nat → Nat) : Prop := ∃ f, M[p]? = some (ir k f) ∧ ∀ j, j < k → f j = nI (t j)
theorem NR.kp {M M' : List va_E} {W : List Nat} {p k : Nat} {t : Nat → Nat} (h : NR M p k t) (s : Kp W M M') (hn : p ∉ W) : NR M' p k t := by obtain ⟨f, h1, h2⟩ := h; exact ⟨f, (s _ hn).trans h1, h2⟩
theorem NR.up {M' : List va_E} {p k s x : Nat} {t : Nat → Nat} {f : Nat → Int32} (h2 : ∀ j, j < k → f j = nI (t j)) (h : M'[p]? = some (ir k (upd f s (nI x)))) : NR M' p k (uN t s x) := ⟨_, h, fun j hj => by unfold upd uN; split; rfl; exact h2 j hj⟩
theorem ZR.up {M' : List va_E} {p k s : Nat} {t : Nat → Bool} {f : Nat → Int32} {b : Bool} {z : Int32} (h2 : ∀ j, j < k → f j = nI (bN (t j))) (hz : z = nI (bN b)) (h : M'[p]? = some (zr k (upd f s z))) : ZR M' p k (updB t s b) := ⟨_, h, fun j hj => by unfold upd updB; split; exact hz; exact h2 j hj⟩
def LR (M : List va_E) (p : Nat) (X : Nat → Nat) : Prop := ∃ g, M[p]? = some (lr 64 g) ∧ ∀ s, s < 4 → ∀ k, k < 16 → (g (16 * s + k)).toInt = ((dg (X s) k : Nat) : Int)
theorem LR.kp {M M' : List va_E} {W : List Nat} {p : Nat} {X : Nat → Nat} (h : LR M p X) (s : Kp W M M') (hn : p ∉ W) : LR M' p X := by obtain ⟨f, h1, h2⟩ := h; exact ⟨f, (s _ hn).trans h1, h2⟩
theorem LR.sc {M : List va_E} {p s : Nat} {X : Nat → Nat} (h : LR M p X) (hs : s < 4) : SC M p 64 (16 * s) (X s) := by obtain ⟨f, h1, h2⟩ := h; exact ⟨f, h1, fun k hk => h2 s hs k hk⟩
theorem LR.up {M' : List va_E} {p s x : Nat} {X : Nat → Nat} {g f : Nat → Int64} (h2 : ∀ s, s < 4 → ∀ k, k < 16 → (g (16 * s + k)).toInt = ((dg (X s) k : Nat) : Int)) (h : M'[p]? = some (lr 64 f)) (h3 : ∀ i, i < 16 → (f (16 * s + i)).toInt = ((dg x i : Nat) : Int)) (h4 : ∀ i, i < 16 * s ∨ 16 * s + 16 ≤ i → f i = g i) : LR M' p (uN X s x) := ⟨f, h, fun j hj k hk => by
  unfold uN
  by_cases e : j = s
  · subst e; rw [if_pos rfl]; exact h3 k hk
  · rw [if_neg e, h4 _ (by omega)]; exact h2 j hj k hk⟩
theorem b_Mo_isS_in {G : GX} {M : List va_E} {s : Nat} (hs : s < 4) : CT G mi_Mo_isSession [.int (nI s)] M (fun r M' => r = some (.int (nI 1)) ∧ M' = M) := by
  refine CT.of (by decide) (Nat.le_of_ble_eq_true rfl) ?_
  show TT G mi_Mo_isSession 0 [(0, .int (nI s))] [] M 0 0 _
  refine T_iload_n d_Mo_isSession_0 rfl ?_
  refine N_if_lt_f (b := s) d_Mo_isSession_1 (tgt := 13) rfl (by omega) (by omega) ?_
  refine T_iload_n d_Mo_isSession_4 rfl ?_
  refine T_iconst (v := nI 4) d_Mo_isSession_5 (by decide) ?_
  refine N_icmp_ge_f (a := 4) (b := s) d_Mo_isSession_6 (tgt := 13) rfl (by omega) (by omega) (by omega) ?_
  refine T_iconst (v := nI 1) d_Mo_isSession_9 (by decide) ?_
  refine T_goto (tgt := 14) d_Mo_isSession_10 rfl ?_
  exact T_ret d_Mo_isSession_14 rfl (by decide) (by decide) (by decide) ⟨rfl, rfl⟩
theorem b_Mo_isS_neg {G : GX} {M : List va_E} {x : Int32} (hx : x < 0) : CT G mi_Mo_isSession [.int x] M (fun r M' => r = some (.int (nI 0)) ∧ M' = M) := by
  refine CT.of (by decide) (Nat.le_of_ble_eq_true rfl) ?_
  show TT G mi_Mo_isSession 0 [(0, .int x)] [] M 0 0 _
  refine T_iload_n d_Mo_isSession_0 rfl ?_
  refine T_if_lt d_Mo_isSession_1 (tgt := 13) rfl (fun _ => ?_) (fun c => absurd hx c)
  refine T_iconst (v := nI 0) d_Mo_isSession_13 (by decide) ?_
  exact T_ret d_Mo_isSession_14 rfl (by decide) (by decide) (by decide) ⟨rfl, rfl⟩
theorem b_Mo_isS_big {G : GX} {M : List va_E} {x : Int32} (h0 : ¬ x < 0) (hx : nI 4 ≤ x) : CT G mi_Mo_isSession [.int x] M (fun r M' => r = some (.int (nI 0)) ∧ M' = M) := by
  refine CT.of (by decide) (Nat.le_of_ble_eq_true rfl) ?_
  show TT G mi_Mo_isSession 0 [(0, .int x)] [] M 0 0 _
  refine T_iload_n d_Mo_isSession_0 rfl ?_
  refine T_if_lt d_Mo_isSession_1 (tgt := 13) rfl (fun c => absurd c h0) (fun _ => ?_)
  refine T_iload_n d_Mo_isSession_4 rfl ?_
  refine T_iconst (v := nI 4) d_Mo_isSession_5 (by decide) ?_
  refine T_icmp_ge d_Mo_isSession_6 (tgt := 13) rfl (fun _ => ?_) (fun c => absurd hx c)
  refine T_iconst (v := nI 0) d_Mo_isSession_13 (by decide) ?_
  exact T_ret d_Mo_isSession_14 rfl (by decide) (by decide) (by decide) ⟨rfl, rfl⟩
def RP (M : List va_E) (p n : Nat) (L0 : List UInt8) (a c : Nat) (l : List UInt8) (D : Nat → Prop) : Prop := ∃ L, IA M p n L ∧ L.length = n ∧ (∀ i, i < a ∨ a + c ≤ i → gd L i = gd L0 i) ∧ (∀ i, i < c → D i → gd L (a + i) = gd l i) ∧ l.length = c ∧ a + c ≤ n
theorem RP.of {M : List va_E} {p n a c : Nat} {L0 l : List UInt8} {D : Nat → Prop} (h : RO M p n L0 a c []) (hl : l.length = c) (hD : ∀ i, i < c → ¬ D i) : RP M p n L0 a c l D := by
  obtain ⟨L, h1, h2, h3, h4, h5, h6⟩ := h; exact ⟨L, h1, h2, h3, fun i hi d => absurd d (hD i hi), hl, h6⟩
theorem RP.ro {M : List va_E} {p n a c : Nat} {L0 l : List UInt8} {D : Nat → Prop} (h : RP M p n L0 a c l D) (hD : ∀ i, i < c → D i) : RO M p n L0 a c l := by
  obtain ⟨L, h1, h2, h3, h4, h5, h6⟩ := h; exact ⟨L, h1, h2, h3, fun i hi => h4 i (by omega) (hD i (by omega)), by omega, h6⟩
theorem RP.kp {M M' : List va_E} {W : List Nat} {p n a c : Nat} {L0 l : List UInt8} {D : Nat → Prop} (h : RP M p n L0 a c l D) (s : Kp W M M') (hn : p ∉ W) : RP M' p n L0 a c l D := by obtain ⟨L, h1, h2⟩ := h; exact ⟨L, h1.kp s hn, h2⟩
set_option maxHeartbeats 8000000 in
theorem RP.push {M M' : List va_E} {p n a c x i : Nat} {L0 l : List UInt8} {D D' : Nat → Prop} {b : UInt8} {f : Nat → Int32} (h : RP M p n L0 a c l D) (g1 : M[p]? = some (ir n f)) (g : M'[p]? = some (ir n (upd f x (bR b)))) (hx : x = a + i) (hi : i < c) (hb : b = gd l i) (hD : ∀ j, j < c → D' j → D j ∨ j = i) : RP M' p n L0 a c l D' := by
  obtain ⟨L, ⟨f', f1, f2, f3⟩, hL, out, sg, h1, h2⟩ := h
  rw [f1] at g1
  have e0 := Option.some.inj g1
  simp only [Sum.inl.injEq, Prod.mk.injEq, true_and] at e0
  subst e0
  have h := g
  subst hx
  have e : ∀ j, j < n → gd (L.set (a + i) b) j = if j = a + i then b else gd L j := fun j hj => by
    unfold gd
    rw [List.getD_eq_getElem?_getD, List.getD_eq_getElem?_getD, List.getElem?_set]
    by_cases c2 : a + i = j
    · rw [if_pos c2, if_pos (by omega), if_pos c2.symm]; rfl
    · rw [if_neg c2, if_neg (fun z => c2 z.symm)]
  refine ⟨L.set (a + i) b, ⟨_, h, by rw [List.length_set]; omega, fun j hj => ?_⟩, by rw [List.length_set]; exact hL, fun j hj => ?_, fun j hj d => ?_, h1, h2⟩
  · rw [List.length_set, hL] at hj
    rw [e j hj]; unfold upd
    split
    · rfl
    · exact f3 j (by omega)
  · by_cases c2 : j < n
    · rw [e j c2, if_neg (by omega)]; exact out j hj
    · rw [gd_big (by rw [List.length_set]; omega), ← out j hj, gd_big (by omega)]
  · rw [e _ (by omega)]
    by_cases c2 : j = i
    · subst c2; rw [if_pos rfl]; exact hb
    · rw [if_neg (by omega)]
      rcases hD j hj d with q | q
      · exact sg j hj q
      · exact absurd q c2
theorem mp_0 (h : Nat → UInt8) : mp h 0 = [] := rfl
theorem xo_c {a b c d : UInt8} (h1 : a = c) (h2 : b = d) : a ^^^ b = c ^^^ d := by rw [h1, h2]
theorem le_nlt7 {x : Int32} (h : nI 8 ≤ x) : ¬ x ≤ nI 7 := by
  rw [Int32.le_iff_toInt_le] at h ⊢
  have h1 : (nI 8).toInt = 8 := by decide
  have h2 : (nI 7).toInt = 7 := by decide
  omega
set_option maxHeartbeats 8000000 in
theorem p_Mo_enroll_neg {G : GX} {M : List va_E} {sd : Int32} {ch n m th : Nat} (hnb : NB M sd ch n m th) {x : Int32} (hx : x < 0) : CT G mi_Mo_enroll [.ref 373, .int x] M (fun r M' => r = some (.int (-1)) ∧ NB M' sd ch 0 m 0 ∧ Kp [373] M M') := by
  obtain ⟨w, h, h66, h71, h72, h73, h74⟩ := hnb
  refine CT.of (by decide) (Nat.le_of_ble_eq_true rfl) ?_
  show TT G mi_Mo_enroll 0 [(0, .ref 373), (1, .int x)] [] M 0 0 _
  refine T_aload_n (v := .ref 373) d_Mo_enroll_0 rfl (Or.inr ⟨_, rfl⟩) ?_
  refine T_iconst (v := nI 0) d_Mo_enroll_1 (by decide) ?_
  obtain ⟨v_1, hov_1, hwv_1, hsv_1, hiv_1⟩ := id h
  refine N_put (e := (moO (upd v_1 66 (nI 0)))) d_Mo_enroll_2 (fp_Mo_316 _) hov_1 (Nat.le_of_ble_eq_true rfl) ⟨rfl, rfl⟩ rfl (fun M_2 h_3 s_4 => ?_)
  have p_5 := BG.st (j := 66) (by decide) hwv_1 hsv_1 hiv_1 h_3 (Ex.kp s_4)
  refine T_aload_n (v := .ref 373) d_Mo_enroll_5 rfl (Or.inr ⟨_, rfl⟩) ?_
  obtain ⟨v_6, hov_6, hwv_6, hsv_6, hiv_6⟩ := id p_5
  refine N_getI (x := (v_6 73)) (y := (nI n)) d_Mo_enroll_6 fg_Mo_344 hov_6 rfl ((hwv_6 73 (by decide)).trans (show (upd w 66 (nI 0)) 73 = (nI n) from h73)) ?_
  refine T_istore_n (L' := [(2, .int (nI n)), (0, .ref 373), (1, .int x)]) d_Mo_enroll_9 (by decide) rfl ?_
  refine T_aload_n (v := .ref 373) d_Mo_enroll_10 rfl (Or.inr ⟨_, rfl⟩) ?_
  refine T_iconst (v := nI 0) d_Mo_enroll_11 (by decide) ?_
  refine N_put (e := (moO (upd v_6 73 (nI 0)))) d_Mo_enroll_12 (fp_Mo_344 _) hov_6 (Nat.le_of_ble_eq_true rfl) ⟨rfl, rfl⟩ rfl (fun M_7 h_8 s_9 => ?_)
  have p_10 := BG.st (j := 73) (by decide) hwv_6 hsv_6 hiv_6 h_8 (Ex.kp s_9)
  refine T_iload_n d_Mo_enroll_15 rfl ?_
  refine T_if_lt d_Mo_enroll_16 (tgt := 25) rfl (fun _ => ?_) (fun c => absurd hx c)
  refine T_iconst (v := (-1)) d_Mo_enroll_25 (by decide) ?_
  have nb_ : NB M_7 sd ch 0 m 0 := ⟨_, p_10, (show (upd (upd w 66 (nI 0)) 73 (nI 0)) 66 = (nI 0) from rfl), (show (upd (upd w 66 (nI 0)) 73 (nI 0)) 71 = sd from h71), (show (upd (upd w 66 (nI 0)) 73 (nI 0)) 72 = (nI ch) from h72), (show (upd (upd w 66 (nI 0)) 73 (nI 0)) 73 = (nI 0) from rfl), (show (upd (upd w 66 (nI 0)) 73 (nI 0)) 74 = (nI m) from h74)⟩
  exact T_ret d_Mo_enroll_26 rfl (by first | decide | rfl) (by decide) (by decide) ⟨rfl, nb_, (Kp.ex (Kp.ex (Kp.rf : Kp [373] M M) s_4 (by decide)) s_9 (by decide))⟩
set_option maxHeartbeats 8000000 in
theorem p_Mo_enroll_big {G : GX} {M : List va_E} {sd : Int32} {ch n m th : Nat} (hnb : NB M sd ch n m th) {x : Int32} (h0 : ¬ x < 0) (hx : nI 8 ≤ x) : CT G mi_Mo_enroll [.ref 373, .int x] M (fun r M' => r = some (.int (-1)) ∧ NB M' sd ch 0 m 0 ∧ Kp [373] M M') := by
  obtain ⟨w, h, h66, h71, h72, h73, h74⟩ := hnb
  refine CT.of (by decide) (Nat.le_of_ble_eq_true rfl) ?_
  show TT G mi_Mo_enroll 0 [(0, .ref 373), (1, .int x)] [] M 0 0 _
  refine T_aload_n (v := .ref 373) d_Mo_enroll_0 rfl (Or.inr ⟨_, rfl⟩) ?_
  refine T_iconst (v := nI 0) d_Mo_enroll_1 (by decide) ?_
  obtain ⟨v_1, hov_1, hwv_1, hsv_1, hiv_1⟩ := id h
  refine N_put (e := (moO (upd v_1 66 (nI 0)))) d_Mo_enroll_2 (fp_Mo_316 _) hov_1 (Nat.le_of_ble_eq_true rfl) ⟨rfl, rfl⟩ rfl (fun M_2 h_3 s_4 => ?_)
  have p_5 := BG.st (j := 66) (by decide) hwv_1 hsv_1 hiv_1 h_3 (Ex.kp s_4)
  refine T_aload_n (v := .ref 373) d_Mo_enroll_5 rfl (Or.inr ⟨_, rfl⟩) ?_
  obtain ⟨v_6, hov_6, hwv_6, hsv_6, hiv_6⟩ := id p_5
  refine N_getI (x := (v_6 73)) (y := (nI n)) d_Mo_enroll_6 fg_Mo_344 hov_6 rfl ((hwv_6 73 (by decide)).trans (show (upd w 66 (nI 0)) 73 = (nI n) from h73)) ?_
  refine T_istore_n (L' := [(2, .int (nI n)), (0, .ref 373), (1, .int x)]) d_Mo_enroll_9 (by decide) rfl ?_
  refine T_aload_n (v := .ref 373) d_Mo_enroll_10 rfl (Or.inr ⟨_, rfl⟩) ?_
  refine T_iconst (v := nI 0) d_Mo_enroll_11 (by decide) ?_
  refine N_put (e := (moO (upd v_6 73 (nI 0)))) d_Mo_enroll_12 (fp_Mo_344 _) hov_6 (Nat.le_of_ble_eq_true rfl) ⟨rfl, rfl⟩ rfl (fun M_7 h_8 s_9 => ?_)
  have p_10 := BG.st (j := 73) (by decide) hwv_6 hsv_6 hiv_6 h_8 (Ex.kp s_9)
  refine T_iload_n d_Mo_enroll_15 rfl ?_
  refine T_if_lt d_Mo_enroll_16 (tgt := 25) rfl (fun c => absurd c h0) (fun _ => ?_)
  refine T_iload_n d_Mo_enroll_19 rfl ?_
  refine T_bipush (v := nI 7) d_Mo_enroll_20 (by decide) ?_
  refine T_icmp_le d_Mo_enroll_22 (tgt := 27) rfl (fun c => absurd c (le_nlt7 hx)) (fun _ => ?_)
  refine T_iconst (v := (-1)) d_Mo_enroll_25 (by decide) ?_
  have nb_ : NB M_7 sd ch 0 m 0 := ⟨_, p_10, (show (upd (upd w 66 (nI 0)) 73 (nI 0)) 66 = (nI 0) from rfl), (show (upd (upd w 66 (nI 0)) 73 (nI 0)) 71 = sd from h71), (show (upd (upd w 66 (nI 0)) 73 (nI 0)) 72 = (nI ch) from h72), (show (upd (upd w 66 (nI 0)) 73 (nI 0)) 73 = (nI 0) from rfl), (show (upd (upd w 66 (nI 0)) 73 (nI 0)) 74 = (nI m) from h74)⟩
  exact T_ret d_Mo_enroll_26 rfl (by first | decide | rfl) (by decide) (by decide) ⟨rfl, nb_, (Kp.ex (Kp.ex (Kp.rf : Kp [373] M M) s_4 (by decide)) s_9 (by decide))⟩
set_option maxHeartbeats 8000000 in
theorem p_Mo_begin_sneg {G : GX} {M : List va_E} {sd : Int32} {ch n m th : Nat} (hnb : NB M sd ch n m th) {x y : Int32} (hx : x < 0) : CT G mi_Mo_begin [.ref 373, .int x, .int y] M (fun r M' => r = some (.int (-1)) ∧ NB M' sd ch 0 m 0 ∧ Kp [373] M M') := by
  obtain ⟨w, h, h66, h71, h72, h73, h74⟩ := hnb
  refine CT.of (by decide) (Nat.le_of_ble_eq_true rfl) ?_
  show TT G mi_Mo_begin 0 [(0, .ref 373), (1, .int x), (2, .int y)] [] M 0 0 _
  refine T_aload_n (v := .ref 373) d_Mo_begin_0 rfl (Or.inr ⟨_, rfl⟩) ?_
  refine T_iconst (v := nI 0) d_Mo_begin_1 (by decide) ?_
  obtain ⟨v_1, hov_1, hwv_1, hsv_1, hiv_1⟩ := id h
  refine N_put (e := (moO (upd v_1 66 (nI 0)))) d_Mo_begin_2 (fp_Mo_316 _) hov_1 (Nat.le_of_ble_eq_true rfl) ⟨rfl, rfl⟩ rfl (fun M_2 h_3 s_4 => ?_)
  have p_5 := BG.st (j := 66) (by decide) hwv_1 hsv_1 hiv_1 h_3 (Ex.kp s_4)
  refine T_aload_n (v := .ref 373) d_Mo_begin_5 rfl (Or.inr ⟨_, rfl⟩) ?_
  obtain ⟨v_6, hov_6, hwv_6, hsv_6, hiv_6⟩ := id p_5
  refine N_getI (x := (v_6 73)) (y := (nI n)) d_Mo_begin_6 fg_Mo_344 hov_6 rfl ((hwv_6 73 (by decide)).trans (show (upd w 66 (nI 0)) 73 = (nI n) from h73)) ?_
  refine T_istore_n (L' := [(3, .int (nI n)), (0, .ref 373), (1, .int x), (2, .int y)]) d_Mo_begin_9 (by decide) rfl ?_
  refine T_aload_n (v := .ref 373) d_Mo_begin_10 rfl (Or.inr ⟨_, rfl⟩) ?_
  refine T_iconst (v := nI 0) d_Mo_begin_11 (by decide) ?_
  refine N_put (e := (moO (upd v_6 73 (nI 0)))) d_Mo_begin_12 (fp_Mo_344 _) hov_6 (Nat.le_of_ble_eq_true rfl) ⟨rfl, rfl⟩ rfl (fun M_7 h_8 s_9 => ?_)
  have p_10 := BG.st (j := 73) (by decide) hwv_6 hsv_6 hiv_6 h_8 (Ex.kp s_9)
  refine T_iload_n d_Mo_begin_15 rfl ?_
  refine T_static (as := [.int x]) (rest := []) d_Mo_begin_16 rfl (jw_Mo_isSession.jo (by decide)) lm_Mo_545 jt_Mo_isSession rfl (Nat.le_of_ble_eq_true rfl) (by decide) (by decide) (b_Mo_isS_neg hx) (fun r M_11 hq => ?_)
  obtain ⟨rfl, he⟩ := hq
  obtain rfl := he.symm
  refine T_eq (pc' := 19) (L' := [(3, .int (nI n)), (0, .ref 373), (1, .int x), (2, .int y)]) (st' := [.int (nI 0)]) (M' := M_7) rfl rfl rfl rfl ?_
  refine N_if_eq_t (b := 0) d_Mo_begin_19 (tgt := 32) rfl (by omega) (by omega) ?_
  refine T_iconst (v := (-1)) d_Mo_begin_32 (by decide) ?_
  have nb_ : NB M_7 sd ch 0 m 0 := ⟨_, p_10, (show (upd (upd w 66 (nI 0)) 73 (nI 0)) 66 = (nI 0) from rfl), (show (upd (upd w 66 (nI 0)) 73 (nI 0)) 71 = sd from h71), (show (upd (upd w 66 (nI 0)) 73 (nI 0)) 72 = (nI ch) from h72), (show (upd (upd w 66 (nI 0)) 73 (nI 0)) 73 = (nI 0) from rfl), (show (upd (upd w 66 (nI 0)) 73 (nI 0)) 74 = (nI m) from h74)⟩
  exact T_ret d_Mo_begin_33 rfl (by first | decide | rfl) (by decide) (by decide) ⟨rfl, nb_, (Kp.ex (Kp.ex (Kp.rf : Kp [373] M M) s_4 (by decide)) s_9 (by decide))⟩
set_option maxHeartbeats 8000000 in
theorem p_Mo_begin_sbig {G : GX} {M : List va_E} {sd : Int32} {ch n m th : Nat} (hnb : NB M sd ch n m th) {x y : Int32} (h0 : ¬ x < 0) (hx : nI 4 ≤ x) : CT G mi_Mo_begin [.ref 373, .int x, .int y] M (fun r M' => r = some (.int (-1)) ∧ NB M' sd ch 0 m 0 ∧ Kp [373] M M') := by
  obtain ⟨w, h, h66, h71, h72, h73, h74⟩ := hnb
  refine CT.of (by decide) (Nat.le_of_ble_eq_true rfl) ?_
  show TT G mi_Mo_begin 0 [(0, .ref 373), (1, .int x), (2, .int y)] [] M 0 0 _
  refine T_aload_n (v := .ref 373) d_Mo_begin_0 rfl (Or.inr ⟨_, rfl⟩) ?_
  refine T_iconst (v := nI 0) d_Mo_begin_1 (by decide) ?_
  obtain ⟨v_1, hov_1, hwv_1, hsv_1, hiv_1⟩ := id h
  refine N_put (e := (moO (upd v_1 66 (nI 0)))) d_Mo_begin_2 (fp_Mo_316 _) hov_1 (Nat.le_of_ble_eq_true rfl) ⟨rfl, rfl⟩ rfl (fun M_2 h_3 s_4 => ?_)
  have p_5 := BG.st (j := 66) (by decide) hwv_1 hsv_1 hiv_1 h_3 (Ex.kp s_4)
  refine T_aload_n (v := .ref 373) d_Mo_begin_5 rfl (Or.inr ⟨_, rfl⟩) ?_
  obtain ⟨v_6, hov_6, hwv_6, hsv_6, hiv_6⟩ := id p_5
  refine N_getI (x := (v_6 73)) (y := (nI n)) d_Mo_begin_6 fg_Mo_344 hov_6 rfl ((hwv_6 73 (by decide)).trans (show (upd w 66 (nI 0)) 73 = (nI n) from h73)) ?_
  refine T_istore_n (L' := [(3, .int (nI n)), (0, .ref 373), (1, .int x), (2, .int y)]) d_Mo_begin_9 (by decide) rfl ?_
  refine T_aload_n (v := .ref 373) d_Mo_begin_10 rfl (Or.inr ⟨_, rfl⟩) ?_
  refine T_iconst (v := nI 0) d_Mo_begin_11 (by decide) ?_
  refine N_put (e := (moO (upd v_6 73 (nI 0)))) d_Mo_begin_12 (fp_Mo_344 _) hov_6 (Nat.le_of_ble_eq_true rfl) ⟨rfl, rfl⟩ rfl (fun M_7 h_8 s_9 => ?_)
  have p_10 := BG.st (j := 73) (by decide) hwv_6 hsv_6 hiv_6 h_8 (Ex.kp s_9)
  refine T_iload_n d_Mo_begin_15 rfl ?_
  refine T_static (as := [.int x]) (rest := []) d_Mo_begin_16 rfl (jw_Mo_isSession.jo (by decide)) lm_Mo_545 jt_Mo_isSession rfl (Nat.le_of_ble_eq_true rfl) (by decide) (by decide) (b_Mo_isS_big h0 hx) (fun r M_11 hq => ?_)
  obtain ⟨rfl, he⟩ := hq
  obtain rfl := he.symm
  refine T_eq (pc' := 19) (L' := [(3, .int (nI n)), (0, .ref 373), (1, .int x), (2, .int y)]) (st' := [.int (nI 0)]) (M' := M_7) rfl rfl rfl rfl ?_
  refine N_if_eq_t (b := 0) d_Mo_begin_19 (tgt := 32) rfl (by omega) (by omega) ?_
  refine T_iconst (v := (-1)) d_Mo_begin_32 (by decide) ?_
  have nb_ : NB M_7 sd ch 0 m 0 := ⟨_, p_10, (show (upd (upd w 66 (nI 0)) 73 (nI 0)) 66 = (nI 0) from rfl), (show (upd (upd w 66 (nI 0)) 73 (nI 0)) 71 = sd from h71), (show (upd (upd w 66 (nI 0)) 73 (nI 0)) 72 = (nI ch) from h72), (show (upd (upd w 66 (nI 0)) 73 (nI 0)) 73 = (nI 0) from rfl), (show (upd (upd w 66 (nI 0)) 73 (nI 0)) 74 = (nI m) from h74)⟩
  exact T_ret d_Mo_begin_33 rfl (by first | decide | rfl) (by decide) (by decide) ⟨rfl, nb_, (Kp.ex (Kp.ex (Kp.rf : Kp [373] M M) s_4 (by decide)) s_9 (by decide))⟩
set_option maxHeartbeats 8000000 in
theorem p_Mo_begin_uneg {G : GX} {M : List va_E} {sd : Int32} {ch n m th : Nat} (hnb : NB M sd ch n m th) {s : Nat} {x : Int32} (hs : s < 4) (hx : x < 0) : CT G mi_Mo_begin [.ref 373, .int (nI s), .int x] M (fun r M' => r = some (.int (-1)) ∧ NB M' sd ch 0 m 0 ∧ Kp [373] M M') := by
  obtain ⟨w, h, h66, h71, h72, h73, h74⟩ := hnb
  refine CT.of (by decide) (Nat.le_of_ble_eq_true rfl) ?_
  show TT G mi_Mo_begin 0 [(0, .ref 373), (1, .int (nI s)), (2, .int x)] [] M 0 0 _
  refine T_aload_n (v := .ref 373) d_Mo_begin_0 rfl (Or.inr ⟨_, rfl⟩) ?_
  refine T_iconst (v := nI 0) d_Mo_begin_1 (by decide) ?_
  obtain ⟨v_1, hov_1, hwv_1, hsv_1, hiv_1⟩ := id h
  refine N_put (e := (moO (upd v_1 66 (nI 0)))) d_Mo_begin_2 (fp_Mo_316 _) hov_1 (Nat.le_of_ble_eq_true rfl) ⟨rfl, rfl⟩ rfl (fun M_2 h_3 s_4 => ?_)
  have p_5 := BG.st (j := 66) (by decide) hwv_1 hsv_1 hiv_1 h_3 (Ex.kp s_4)
  refine T_aload_n (v := .ref 373) d_Mo_begin_5 rfl (Or.inr ⟨_, rfl⟩) ?_
  obtain ⟨v_6, hov_6, hwv_6, hsv_6, hiv_6⟩ := id p_5
  refine N_getI (x := (v_6 73)) (y := (nI n)) d_Mo_begin_6 fg_Mo_344 hov_6 rfl ((hwv_6 73 (by decide)).trans (show (upd w 66 (nI 0)) 73 = (nI n) from h73)) ?_
  refine T_istore_n (L' := [(3, .int (nI n)), (0, .ref 373), (1, .int (nI s)), (2, .int x)]) d_Mo_begin_9 (by decide) rfl ?_
  refine T_aload_n (v := .ref 373) d_Mo_begin_10 rfl (Or.inr ⟨_, rfl⟩) ?_
  refine T_iconst (v := nI 0) d_Mo_begin_11 (by decide) ?_
  refine N_put (e := (moO (upd v_6 73 (nI 0)))) d_Mo_begin_12 (fp_Mo_344 _) hov_6 (Nat.le_of_ble_eq_true rfl) ⟨rfl, rfl⟩ rfl (fun M_7 h_8 s_9 => ?_)
  have p_10 := BG.st (j := 73) (by decide) hwv_6 hsv_6 hiv_6 h_8 (Ex.kp s_9)
  refine T_iload_n d_Mo_begin_15 rfl ?_
  refine T_static (as := [.int (nI s)]) (rest := []) d_Mo_begin_16 rfl (jw_Mo_isSession.jo (by decide)) lm_Mo_545 jt_Mo_isSession rfl (Nat.le_of_ble_eq_true rfl) (by decide) (by decide) (b_Mo_isS_in hs) (fun r M_11 hq => ?_)
  obtain ⟨rfl, he⟩ := hq
  obtain rfl := he.symm
  refine T_eq (pc' := 19) (L' := [(3, .int (nI n)), (0, .ref 373), (1, .int (nI s)), (2, .int x)]) (st' := [.int (nI 1)]) (M' := M_7) rfl rfl rfl rfl ?_
  refine N_if_eq_f (b := 1) d_Mo_begin_19 (tgt := 32) rfl (by omega) (by omega) ?_
  refine T_iload_n d_Mo_begin_22 rfl ?_
  refine T_if_lt d_Mo_begin_23 (tgt := 32) rfl (fun _ => ?_) (fun c => absurd hx c)
  refine T_iconst (v := (-1)) d_Mo_begin_32 (by decide) ?_
  have nb_ : NB M_7 sd ch 0 m 0 := ⟨_, p_10, (show (upd (upd w 66 (nI 0)) 73 (nI 0)) 66 = (nI 0) from rfl), (show (upd (upd w 66 (nI 0)) 73 (nI 0)) 71 = sd from h71), (show (upd (upd w 66 (nI 0)) 73 (nI 0)) 72 = (nI ch) from h72), (show (upd (upd w 66 (nI 0)) 73 (nI 0)) 73 = (nI 0) from rfl), (show (upd (upd w 66 (nI 0)) 73 (nI 0)) 74 = (nI m) from h74)⟩
  exact T_ret d_Mo_begin_33 rfl (by first | decide | rfl) (by decide) (by decide) ⟨rfl, nb_, (Kp.ex (Kp.ex (Kp.rf : Kp [373] M M) s_4 (by decide)) s_9 (by decide))⟩
set_option maxHeartbeats 8000000 in
theorem p_Mo_begin_ubig {G : GX} {M : List va_E} {sd : Int32} {ch n m th : Nat} (hnb : NB M sd ch n m th) {s : Nat} {x : Int32} (hs : s < 4) (h0 : ¬ x < 0) (hx : nI 8 ≤ x) : CT G mi_Mo_begin [.ref 373, .int (nI s), .int x] M (fun r M' => r = some (.int (-1)) ∧ NB M' sd ch 0 m 0 ∧ Kp [373] M M') := by
  obtain ⟨w, h, h66, h71, h72, h73, h74⟩ := hnb
  refine CT.of (by decide) (Nat.le_of_ble_eq_true rfl) ?_
  show TT G mi_Mo_begin 0 [(0, .ref 373), (1, .int (nI s)), (2, .int x)] [] M 0 0 _
  refine T_aload_n (v := .ref 373) d_Mo_begin_0 rfl (Or.inr ⟨_, rfl⟩) ?_
  refine T_iconst (v := nI 0) d_Mo_begin_1 (by decide) ?_
  obtain ⟨v_1, hov_1, hwv_1, hsv_1, hiv_1⟩ := id h
  refine N_put (e := (moO (upd v_1 66 (nI 0)))) d_Mo_begin_2 (fp_Mo_316 _) hov_1 (Nat.le_of_ble_eq_true rfl) ⟨rfl, rfl⟩ rfl (fun M_2 h_3 s_4 => ?_)
  have p_5 := BG.st (j := 66) (by decide) hwv_1 hsv_1 hiv_1 h_3 (Ex.kp s_4)
  refine T_aload_n (v := .ref 373) d_Mo_begin_5 rfl (Or.inr ⟨_, rfl⟩) ?_
  obtain ⟨v_6, hov_6, hwv_6, hsv_6, hiv_6⟩ := id p_5
  refine N_getI (x := (v_6 73)) (y := (nI n)) d_Mo_begin_6 fg_Mo_344 hov_6 rfl ((hwv_6 73 (by decide)).trans (show (upd w 66 (nI 0)) 73 = (nI n) from h73)) ?_
  refine T_istore_n (L' := [(3, .int (nI n)), (0, .ref 373), (1, .int (nI s)), (2, .int x)]) d_Mo_begin_9 (by decide) rfl ?_
  refine T_aload_n (v := .ref 373) d_Mo_begin_10 rfl (Or.inr ⟨_, rfl⟩) ?_
  refine T_iconst (v := nI 0) d_Mo_begin_11 (by decide) ?_
  refine N_put (e := (moO (upd v_6 73 (nI 0)))) d_Mo_begin_12 (fp_Mo_344 _) hov_6 (Nat.le_of_ble_eq_true rfl) ⟨rfl, rfl⟩ rfl (fun M_7 h_8 s_9 => ?_)
  have p_10 := BG.st (j := 73) (by decide) hwv_6 hsv_6 hiv_6 h_8 (Ex.kp s_9)
  refine T_iload_n d_Mo_begin_15 rfl ?_
  refine T_static (as := [.int (nI s)]) (rest := []) d_Mo_begin_16 rfl (jw_Mo_isSession.jo (by decide)) lm_Mo_545 jt_Mo_isSession rfl (Nat.le_of_ble_eq_true rfl) (by decide) (by decide) (b_Mo_isS_in hs) (fun r M_11 hq => ?_)
  obtain ⟨rfl, he⟩ := hq
  obtain rfl := he.symm
  refine T_eq (pc' := 19) (L' := [(3, .int (nI n)), (0, .ref 373), (1, .int (nI s)), (2, .int x)]) (st' := [.int (nI 1)]) (M' := M_7) rfl rfl rfl rfl ?_
  refine N_if_eq_f (b := 1) d_Mo_begin_19 (tgt := 32) rfl (by omega) (by omega) ?_
  refine T_iload_n d_Mo_begin_22 rfl ?_
  refine T_if_lt d_Mo_begin_23 (tgt := 32) rfl (fun c => absurd c h0) (fun _ => ?_)
  refine T_iload_n d_Mo_begin_26 rfl ?_
  refine T_bipush (v := nI 7) d_Mo_begin_27 (by decide) ?_
  refine T_icmp_le d_Mo_begin_29 (tgt := 34) rfl (fun c => absurd c (le_nlt7 hx)) (fun _ => ?_)
  refine T_iconst (v := (-1)) d_Mo_begin_32 (by decide) ?_
  have nb_ : NB M_7 sd ch 0 m 0 := ⟨_, p_10, (show (upd (upd w 66 (nI 0)) 73 (nI 0)) 66 = (nI 0) from rfl), (show (upd (upd w 66 (nI 0)) 73 (nI 0)) 71 = sd from h71), (show (upd (upd w 66 (nI 0)) 73 (nI 0)) 72 = (nI ch) from h72), (show (upd (upd w 66 (nI 0)) 73 (nI 0)) 73 = (nI 0) from rfl), (show (upd (upd w 66 (nI 0)) 73 (nI 0)) 74 = (nI m) from h74)⟩
  exact T_ret d_Mo_begin_33 rfl (by first | decide | rfl) (by decide) (by decide) ⟨rfl, nb_, (Kp.ex (Kp.ex (Kp.rf : Kp [373] M M) s_4 (by decide)) s_9 (by decide))⟩
set_option maxHeartbeats 8000000 in
theorem bg_p (G : GX) {M0 : List va_E} {w : Nat → Int32} {l l0 R0 sa : List UInt8} {s u n : Nat} (hb : BG M0 w l) (hsa : IA M0 409 200 sa) (sd0 : 0 + n ≤ sa.length) (sd1 : n ≤ 1000) (sd2 : s < 4) (hof : l0.length = 0)  {Q : Option Value → List va_E → Prop} (kk : ∀ M, RO M 420 800 R0 (200 * s) 200 (l0 ++ mp (fun i => gd sa (0 + i)) n) ∧ Kp [420] M0 M → TT G mi_Mo_begin 83 [(3, .int (nI n)), (1, .int (nI s)), (2, .int (nI u)), (0, .ref 373)] [] M 0 0 Q) : ∀ j k M, k + j = n → RO M 420 800 R0 (200 * s) 200 (l0 ++ mp (fun i => gd sa (0 + i)) k) ∧ Kp [420] M0 M → TT G mi_Mo_begin 51 [(4, .int (nI k)), (3, .int (nI n)), (1, .int (nI s)), (2, .int (nI u)), (0, .ref 373)] [] M 0 0 Q := by
  intro j
  induction j with
  | zero =>
    intro k M hk hI
    obtain rfl : n = k := by omega
    refine T_iload d_Mo_begin_51 rfl ?_
    refine T_iload_n d_Mo_begin_53 rfl ?_
    refine N_icmp_ge_t (a := n) (b := n) d_Mo_begin_54 (tgt := 83) rfl (by omega) (by omega) (by omega) ?_
    exact T_sub (fun q hq => List.mem_cons_of_mem _ hq) (kk M hI)
  | succ j ih =>
    intro k M hk hI
    obtain ⟨hda, hK⟩ := hI
    obtain ⟨L, hL, eL, out, sg, hc1, hc2⟩ := id hda
    obtain ⟨f, f1, f2, f3⟩ := id hL
    have hlsa := hsa.le
    refine T_iload d_Mo_begin_51 rfl ?_
    refine T_iload_n d_Mo_begin_53 rfl ?_
    refine N_icmp_ge_f (a := n) (b := k) d_Mo_begin_54 (tgt := 83) rfl (by omega) (by omega) (by omega) ?_
    refine T_aload_n (v := .ref 373) d_Mo_begin_57 rfl (Or.inr ⟨_, rfl⟩) ?_
    have p_1 := (BG.kp (hb) hK (by decide) (by decide))
    obtain ⟨v_2, hov_2, hwv_2, hsv_2, hiv_2⟩ := id p_1
    refine T_getfield (v := .ref 420) d_Mo_begin_58 fg_Mo_380 hov_2 rfl ?_
    refine T_sipush (v := nI 200) d_Mo_begin_61 (by decide) ?_
    refine T_iload_n d_Mo_begin_64 rfl ?_
    refine N_imul (a := s) (b := 200) (c := (200 * s)) d_Mo_begin_65 rfl ?_
    refine T_iload d_Mo_begin_66 rfl ?_
    refine N_iadd (a := k) (b := (200 * s)) (c := ((200 * s) + k)) d_Mo_begin_68 rfl ?_
    refine T_aload_n (v := .ref 373) d_Mo_begin_69 rfl (Or.inr ⟨_, rfl⟩) ?_
    refine T_getfield (v := .ref 409) d_Mo_begin_70 fg_Mo_341 hov_2 rfl ?_
    refine T_iload d_Mo_begin_73 rfl ?_
    have p_3 := (IA.kp (hsa) hK (by decide))
    obtain ⟨f_4, hf_5, hl_6, hv_7⟩ := id p_3
    refine N_iaload (k := k) (x := (bR (gd sa k))) d_Mo_begin_75 hf_5 (by omega) (by decide) (hv_7 k (by first | omega | (simp only [List.length_append, List.length_cons, List.length_nil, List.length_replicate, sl_len, be_len, sha_len, hmac_len, ex1_len, ex2_len, stretch_len, zer8_len, tC_len, tag1_len, bnN_len, xkp_len]; omega))) ?_
    refine N_iastore (k := ((200 * s) + k)) d_Mo_begin_76 (by decide) f1 (by omega) (by decide) rfl (fun M_8 h_9 s_10 => ?_)
    refine N_iinc (k := k) (m := 1) (c := (k + 1)) (L' := [(4, .int (nI ((k + 1)))), (3, .int (nI n)), (1, .int (nI s)), (2, .int (nI u)), (0, .ref 373)]) d_Mo_begin_77 (by decide) rfl (by decide) rfl rfl ?_
    refine T_goto (tgt := 51) d_Mo_begin_80 rfl ?_
    exact ih (k + 1) M_8 (by omega) ⟨RO.pushm h_9 f3 eL out sg (gd_c (by omega)) (by omega) (by omega) hc2, (Kp.ex (Kp.tr (Kp.rf : Kp [420] M0 M0) (Kp.mono hK (by decide))) s_10 (by decide))⟩
set_option maxHeartbeats 8000000 in
theorem bg_e (G : GX) {M0 : List va_E} {w : Nat → Int32} {l l0 R0 sa : List UInt8} {s u n : Nat} (hb : BG M0 w l) (hsa : IA M0 394 32 sa) (sd0 : 0 + 32 ≤ sa.length) (sd1 : s < 4) (hof : l0.length = 0)  {Q : Option Value → List va_E → Prop} (kk : ∀ M, RO M 432 384 R0 (96 * s) 96 (l0 ++ mp (fun i => gd sa (0 + i)) 32) ∧ Kp [432] M0 M → TT G mi_Mo_begin 227 [(3, .int (nI n)), (1, .int (nI s)), (2, .int (nI u)), (0, .ref 373)] [] M 0 0 Q) : ∀ j k M, k + j = 32 → RO M 432 384 R0 (96 * s) 96 (l0 ++ mp (fun i => gd sa (0 + i)) k) ∧ Kp [432] M0 M → TT G mi_Mo_begin 195 [(4, .int (nI k)), (3, .int (nI n)), (1, .int (nI s)), (2, .int (nI u)), (0, .ref 373)] [] M 0 0 Q := by
  intro j
  induction j with
  | zero =>
    intro k M hk hI
    obtain rfl : 32 = k := by omega
    refine T_iload d_Mo_begin_195 rfl ?_
    refine T_bipush (v := nI 32) d_Mo_begin_197 (by decide) ?_
    refine N_icmp_ge_t (a := 32) (b := 32) d_Mo_begin_199 (tgt := 227) rfl (by omega) (by omega) (by omega) ?_
    exact T_sub (fun q hq => List.mem_cons_of_mem _ hq) (kk M hI)
  | succ j ih =>
    intro k M hk hI
    obtain ⟨hda, hK⟩ := hI
    obtain ⟨L, hL, eL, out, sg, hc1, hc2⟩ := id hda
    obtain ⟨f, f1, f2, f3⟩ := id hL
    have hlsa := hsa.le
    refine T_iload d_Mo_begin_195 rfl ?_
    refine T_bipush (v := nI 32) d_Mo_begin_197 (by decide) ?_
    refine N_icmp_ge_f (a := 32) (b := k) d_Mo_begin_199 (tgt := 227) rfl (by omega) (by omega) (by omega) ?_
    refine T_aload_n (v := .ref 373) d_Mo_begin_202 rfl (Or.inr ⟨_, rfl⟩) ?_
    have p_1 := (BG.kp (hb) hK (by decide) (by decide))
    obtain ⟨v_2, hov_2, hwv_2, hsv_2, hiv_2⟩ := id p_1
    refine T_getfield (v := .ref 432) d_Mo_begin_203 fg_Mo_416 hov_2 rfl ?_
    refine T_bipush (v := nI 96) d_Mo_begin_206 (by decide) ?_
    refine T_iload_n d_Mo_begin_208 rfl ?_
    refine N_imul (a := s) (b := 96) (c := (96 * s)) d_Mo_begin_209 rfl ?_
    refine T_iload d_Mo_begin_210 rfl ?_
    refine N_iadd (a := k) (b := (96 * s)) (c := ((96 * s) + k)) d_Mo_begin_212 rfl ?_
    refine T_aload_n (v := .ref 373) d_Mo_begin_213 rfl (Or.inr ⟨_, rfl⟩) ?_
    refine T_getfield (v := .ref 394) d_Mo_begin_214 fg_Mo_146 hov_2 rfl ?_
    refine T_iload d_Mo_begin_217 rfl ?_
    have p_3 := (IA.kp (hsa) hK (by decide))
    obtain ⟨f_4, hf_5, hl_6, hv_7⟩ := id p_3
    refine N_iaload (k := k) (x := (bR (gd sa k))) d_Mo_begin_219 hf_5 (by omega) (by decide) (hv_7 k (by first | omega | (simp only [List.length_append, List.length_cons, List.length_nil, List.length_replicate, sl_len, be_len, sha_len, hmac_len, ex1_len, ex2_len, stretch_len, zer8_len, tC_len, tag1_len, bnN_len, xkp_len]; omega))) ?_
    refine N_iastore (k := ((96 * s) + k)) d_Mo_begin_220 (by decide) f1 (by omega) (by decide) rfl (fun M_8 h_9 s_10 => ?_)
    refine N_iinc (k := k) (m := 1) (c := (k + 1)) (L' := [(4, .int (nI ((k + 1)))), (3, .int (nI n)), (1, .int (nI s)), (2, .int (nI u)), (0, .ref 373)]) d_Mo_begin_221 (by decide) rfl (by decide) rfl rfl ?_
    refine T_goto (tgt := 195) d_Mo_begin_224 rfl ?_
    exact ih (k + 1) M_8 (by omega) ⟨RO.pushm h_9 f3 eL out sg (gd_c (by omega)) (by omega) (by omega) hc2, (Kp.ex (Kp.tr (Kp.rf : Kp [432] M0 M0) (Kp.mono hK (by decide))) s_10 (by decide))⟩
set_option maxHeartbeats 8000000 in
theorem bg_n (G : GX) {M0 : List va_E} {w : Nat → Int32} {l l0 R0 sa : List UInt8} {s u n : Nat} (hb : BG M0 w l) (hsa : IA M0 383 64 sa) (sd0 : 0 + 32 ≤ sa.length) (sd1 : s < 4) (hof : l0.length = 32)  {Q : Option Value → List va_E → Prop} (kk : ∀ M, RO M 432 384 R0 (96 * s) 96 (l0 ++ mp (fun i => gd sa (0 + i)) 32) ∧ Kp [432] M0 M → TT G mi_Mo_begin 269 [(3, .int (nI n)), (1, .int (nI s)), (2, .int (nI u)), (0, .ref 373)] [] M 0 0 Q) : ∀ j k M, k + j = 32 → RO M 432 384 R0 (96 * s) 96 (l0 ++ mp (fun i => gd sa (0 + i)) k) ∧ Kp [432] M0 M → TT G mi_Mo_begin 234 [(4, .int (nI k)), (3, .int (nI n)), (1, .int (nI s)), (2, .int (nI u)), (0, .ref 373)] [] M 0 0 Q := by
  intro j
  induction j with
  | zero =>
    intro k M hk hI
    obtain rfl : 32 = k := by omega
    refine T_iload d_Mo_begin_234 rfl ?_
    refine T_bipush (v := nI 32) d_Mo_begin_236 (by decide) ?_
    refine N_icmp_ge_t (a := 32) (b := 32) d_Mo_begin_238 (tgt := 269) rfl (by omega) (by omega) (by omega) ?_
    exact T_sub (fun q hq => List.mem_cons_of_mem _ hq) (kk M hI)
  | succ j ih =>
    intro k M hk hI
    obtain ⟨hda, hK⟩ := hI
    obtain ⟨L, hL, eL, out, sg, hc1, hc2⟩ := id hda
    obtain ⟨f, f1, f2, f3⟩ := id hL
    have hlsa := hsa.le
    refine T_iload d_Mo_begin_234 rfl ?_
    refine T_bipush (v := nI 32) d_Mo_begin_236 (by decide) ?_
    refine N_icmp_ge_f (a := 32) (b := k) d_Mo_begin_238 (tgt := 269) rfl (by omega) (by omega) (by omega) ?_
    refine T_aload_n (v := .ref 373) d_Mo_begin_241 rfl (Or.inr ⟨_, rfl⟩) ?_
    have p_1 := (BG.kp (hb) hK (by decide) (by decide))
    obtain ⟨v_2, hov_2, hwv_2, hsv_2, hiv_2⟩ := id p_1
    refine T_getfield (v := .ref 432) d_Mo_begin_242 fg_Mo_416 hov_2 rfl ?_
    refine T_bipush (v := nI 96) d_Mo_begin_245 (by decide) ?_
    refine T_iload_n d_Mo_begin_247 rfl ?_
    refine N_imul (a := s) (b := 96) (c := (96 * s)) d_Mo_begin_248 rfl ?_
    refine T_bipush (v := nI 32) d_Mo_begin_249 (by decide) ?_
    refine N_iadd (a := 32) (b := (96 * s)) (c := ((96 * s) + 32)) d_Mo_begin_251 rfl ?_
    refine T_iload d_Mo_begin_252 rfl ?_
    refine N_iadd (a := k) (b := ((96 * s) + 32)) (c := (((96 * s) + 32) + k)) d_Mo_begin_254 rfl ?_
    refine T_aload_n (v := .ref 373) d_Mo_begin_255 rfl (Or.inr ⟨_, rfl⟩) ?_
    refine T_getfield (v := .ref 383) d_Mo_begin_256 fg_Mo_55 hov_2 rfl ?_
    refine T_iload d_Mo_begin_259 rfl ?_
    have p_3 := (IA.kp (hsa) hK (by decide))
    obtain ⟨f_4, hf_5, hl_6, hv_7⟩ := id p_3
    refine N_iaload (k := k) (x := (bR (gd sa k))) d_Mo_begin_261 hf_5 (by omega) (by decide) (hv_7 k (by first | omega | (simp only [List.length_append, List.length_cons, List.length_nil, List.length_replicate, sl_len, be_len, sha_len, hmac_len, ex1_len, ex2_len, stretch_len, zer8_len, tC_len, tag1_len, bnN_len, xkp_len]; omega))) ?_
    refine N_iastore (k := (((96 * s) + 32) + k)) d_Mo_begin_262 (by decide) f1 (by omega) (by decide) rfl (fun M_8 h_9 s_10 => ?_)
    refine N_iinc (k := k) (m := 1) (c := (k + 1)) (L' := [(4, .int (nI ((k + 1)))), (3, .int (nI n)), (1, .int (nI s)), (2, .int (nI u)), (0, .ref 373)]) d_Mo_begin_263 (by decide) rfl (by decide) rfl rfl ?_
    refine T_goto (tgt := 234) d_Mo_begin_266 rfl ?_
    exact ih (k + 1) M_8 (by omega) ⟨RO.pushm h_9 f3 eL out sg (gd_c (by omega)) (by omega) (by omega) hc2, (Kp.ex (Kp.tr (Kp.rf : Kp [432] M0 M0) (Kp.mono hK (by decide))) s_10 (by decide))⟩
set_option maxHeartbeats 8000000 in
theorem bg_w (G : GX) {M0 : List va_E} {w : Nat → Int32} {l l0 R0 sa : List UInt8} {s u n : Nat} (hb : BG M0 w l) (hsa : IA M0 432 384 sa) (sd0 : 96 * s + 96 ≤ sa.length) (sd1 : s < 4) (hof : l0.length = 0)  {Q : Option Value → List va_E → Prop} (kk : ∀ M, RO M 433 384 R0 (96 * s) 96 (l0 ++ mp (fun i => gd sa (96 * s + i)) 96) ∧ Kp [433] M0 M → TT G mi_Mo_begin 340 [(3, .int (nI n)), (1, .int (nI s)), (2, .int (nI u)), (0, .ref 373)] [] M 0 0 Q) : ∀ j k M, k + j = 96 → RO M 433 384 R0 (96 * s) 96 (l0 ++ mp (fun i => gd sa (96 * s + i)) k) ∧ Kp [433] M0 M → TT G mi_Mo_begin 303 [(4, .int (nI k)), (3, .int (nI n)), (1, .int (nI s)), (2, .int (nI u)), (0, .ref 373)] [] M 0 0 Q := by
  intro j
  induction j with
  | zero =>
    intro k M hk hI
    obtain rfl : 96 = k := by omega
    refine T_iload d_Mo_begin_303 rfl ?_
    refine T_bipush (v := nI 96) d_Mo_begin_305 (by decide) ?_
    refine N_icmp_ge_t (a := 96) (b := 96) d_Mo_begin_307 (tgt := 340) rfl (by omega) (by omega) (by omega) ?_
    exact T_sub (fun q hq => List.mem_cons_of_mem _ hq) (kk M hI)
  | succ j ih =>
    intro k M hk hI
    obtain ⟨hda, hK⟩ := hI
    obtain ⟨L, hL, eL, out, sg, hc1, hc2⟩ := id hda
    obtain ⟨f, f1, f2, f3⟩ := id hL
    have hlsa := hsa.le
    refine T_iload d_Mo_begin_303 rfl ?_
    refine T_bipush (v := nI 96) d_Mo_begin_305 (by decide) ?_
    refine N_icmp_ge_f (a := 96) (b := k) d_Mo_begin_307 (tgt := 340) rfl (by omega) (by omega) (by omega) ?_
    refine T_aload_n (v := .ref 373) d_Mo_begin_310 rfl (Or.inr ⟨_, rfl⟩) ?_
    have p_1 := (BG.kp (hb) hK (by decide) (by decide))
    obtain ⟨v_2, hov_2, hwv_2, hsv_2, hiv_2⟩ := id p_1
    refine T_getfield (v := .ref 433) d_Mo_begin_311 fg_Mo_419 hov_2 rfl ?_
    refine T_bipush (v := nI 96) d_Mo_begin_314 (by decide) ?_
    refine T_iload_n d_Mo_begin_316 rfl ?_
    refine N_imul (a := s) (b := 96) (c := (96 * s)) d_Mo_begin_317 rfl ?_
    refine T_iload d_Mo_begin_318 rfl ?_
    refine N_iadd (a := k) (b := (96 * s)) (c := ((96 * s) + k)) d_Mo_begin_320 rfl ?_
    refine T_aload_n (v := .ref 373) d_Mo_begin_321 rfl (Or.inr ⟨_, rfl⟩) ?_
    refine T_getfield (v := .ref 432) d_Mo_begin_322 fg_Mo_416 hov_2 rfl ?_
    refine T_bipush (v := nI 96) d_Mo_begin_325 (by decide) ?_
    refine T_iload_n d_Mo_begin_327 rfl ?_
    refine N_imul (a := s) (b := 96) (c := (96 * s)) d_Mo_begin_328 rfl ?_
    refine T_iload d_Mo_begin_329 rfl ?_
    refine N_iadd (a := k) (b := (96 * s)) (c := ((96 * s) + k)) d_Mo_begin_331 rfl ?_
    have p_3 := (IA.kp (hsa) hK (by decide))
    obtain ⟨f_4, hf_5, hl_6, hv_7⟩ := id p_3
    refine N_iaload (k := ((96 * s) + k)) (x := (bR (gd sa ((96 * s) + k)))) d_Mo_begin_332 hf_5 (by omega) (by decide) (hv_7 ((96 * s) + k) (by first | omega | (simp only [List.length_append, List.length_cons, List.length_nil, List.length_replicate, sl_len, be_len, sha_len, hmac_len, ex1_len, ex2_len, stretch_len, zer8_len, tC_len, tag1_len, bnN_len, xkp_len]; omega))) ?_
    refine N_iastore (k := ((96 * s) + k)) d_Mo_begin_333 (by decide) f1 (by omega) (by decide) rfl (fun M_8 h_9 s_10 => ?_)
    refine N_iinc (k := k) (m := 1) (c := (k + 1)) (L' := [(4, .int (nI ((k + 1)))), (3, .int (nI n)), (1, .int (nI s)), (2, .int (nI u)), (0, .ref 373)]) d_Mo_begin_334 (by decide) rfl (by decide) rfl rfl ?_
    refine T_goto (tgt := 303) d_Mo_begin_337 rfl ?_
    exact ih (k + 1) M_8 (by omega) ⟨RO.pushm h_9 f3 eL out sg (gd_c (by omega)) (by omega) (by omega) hc2, (Kp.ex (Kp.tr (Kp.rf : Kp [433] M0 M0) (Kp.mono hK (by decide))) s_10 (by decide))⟩
abbrev bgW : List Nat := [373, 374, 380, 381, 382, 383, 389, 390, 391, 392, 393, 394, 395, 397, 398, 419, 420, 421, 422, 423, 424, 425, 426, 427, 428, 429, 430, 431, 432, 433]
set_option maxRecDepth 100000 in
set_option maxHeartbeats 8000000 in
theorem p_Mo_begin {G : GX} {M : List va_E} {sd : Int32} {ch n m th : Nat} {tx : List UInt8} {s u : Nat} {us ps bl ep : Nat → Nat} {pw sn w1 : Nat → List UInt8} {h1 h2 h3 r1 r2 r3 cd sv : Nat → Bool} (hs : s < 4) (hu : u < 8) (hms : MS M) (hnb : NB M sd ch n m th) (htx : IA M 409 200 tx) (ltx : tx.length = n) (hus : NR M 419 4 us) (hps : NR M 421 4 ps) (hpw : SL M 420 800 200 4 pw) (z424 : ZR M 424 4 h1) (z425 : ZR M 425 4 h2) (z426 : ZR M 426 4 h3) (z427 : ZR M 427 4 r1) (z428 : ZR M 428 4 r2) (z429 : ZR M 429 4 r3) (z430 : ZR M 430 4 cd) (z431 : ZR M 431 4 sv) (hbl : LR M 422 bl) (hep : LR M 423 ep) (hsn : SL M 432 384 96 4 sn) (hw1 : SL M 433 384 96 4 w1) : CT G mi_Mo_begin [.ref 373, .int (nI s), .int (nI u)] M (fun r M' => r = some (.int (nI 0)) ∧ MS M' ∧ NB M' sd (ch + 3) 0 m 0 ∧ NR M' 419 4 (uN us s u) ∧ NR M' 421 4 (uN ps s n) ∧ SL M' 420 800 200 4 (updT pw s tx) ∧ ZR M' 424 4 (updB h1 s true) ∧ ZR M' 425 4 (updB h2 s false) ∧ ZR M' 426 4 (updB h3 s false) ∧ ZR M' 427 4 (updB r1 s false) ∧ ZR M' 428 4 (updB r2 s false) ∧ ZR M' 429 4 (updB r3 s false) ∧ ZR M' 430 4 (updB cd s false) ∧ ZR M' 431 4 (updB sv s false) ∧ LR M' 422 (uN bl s (scal (chance sd (nI ch)))) ∧ LR M' 423 (uN ep s (scal (chance sd (nI (ch + 2))))) ∧ SL M' 432 384 96 4 (updT sn s (msg1 sd ch tx)) ∧ SL M' 433 384 96 4 (updT w1 s (msg1 sd ch tx)) ∧ Kp bgW M M') := by
  obtain ⟨w, h, h66, h71, h72, h73, h74⟩ := hnb
  have lt2 := htx.le
  refine CT.of (by decide) (Nat.le_of_ble_eq_true rfl) ?_
  show TT G mi_Mo_begin 0 [(0, .ref 373), (1, .int (nI s)), (2, .int (nI u))] [] M 0 0 _
  obtain ⟨R1, ro1, px1⟩ := SL.ro hpw hs (by decide)
  obtain ⟨R2, ro2, px2⟩ := SL.ro hsn hs (by decide)
  obtain ⟨R3, ro3, px3⟩ := SL.ro hw1 hs (by decide)
  refine T_aload_n (v := .ref 373) d_Mo_begin_0 rfl (Or.inr ⟨_, rfl⟩) ?_
  refine T_iconst (v := nI 0) d_Mo_begin_1 (by decide) ?_
  obtain ⟨v_4, hov_4, hwv_4, hsv_4, hiv_4⟩ := id h
  refine N_put (e := (moO (upd v_4 66 (nI 0)))) d_Mo_begin_2 (fp_Mo_316 _) hov_4 (Nat.le_of_ble_eq_true rfl) ⟨rfl, rfl⟩ rfl (fun M_5 h_6 s_7 => ?_)
  have p_8 := BG.st (j := 66) (by decide) hwv_4 hsv_4 hiv_4 h_6 (Ex.kp s_7)
  refine T_aload_n (v := .ref 373) d_Mo_begin_5 rfl (Or.inr ⟨_, rfl⟩) ?_
  obtain ⟨v_9, hov_9, hwv_9, hsv_9, hiv_9⟩ := id p_8
  refine N_getI (x := (v_9 73)) (y := (nI n)) d_Mo_begin_6 fg_Mo_344 hov_9 rfl ((hwv_9 73 (by decide)).trans (show (upd w 66 (nI 0)) 73 = (nI n) from h73)) ?_
  refine T_istore_n (L' := [(3, .int (nI n)), (0, .ref 373), (1, .int (nI s)), (2, .int (nI u))]) d_Mo_begin_9 (by decide) rfl ?_
  refine T_aload_n (v := .ref 373) d_Mo_begin_10 rfl (Or.inr ⟨_, rfl⟩) ?_
  refine T_iconst (v := nI 0) d_Mo_begin_11 (by decide) ?_
  refine N_put (e := (moO (upd v_9 73 (nI 0)))) d_Mo_begin_12 (fp_Mo_344 _) hov_9 (Nat.le_of_ble_eq_true rfl) ⟨rfl, rfl⟩ rfl (fun M_10 h_11 s_12 => ?_)
  have p_13 := BG.st (j := 73) (by decide) hwv_9 hsv_9 hiv_9 h_11 (Ex.kp s_12)
  refine T_iload_n d_Mo_begin_15 rfl ?_
  refine T_static (as := [.int (nI s)]) (rest := []) d_Mo_begin_16 rfl (jw_Mo_isSession.jo (by decide)) lm_Mo_545 jt_Mo_isSession rfl (Nat.le_of_ble_eq_true rfl) (by decide) (by decide) (b_Mo_isS_in hs) (fun r M_14 hq => ?_)
  obtain ⟨rfl, he⟩ := hq
  obtain rfl := he.symm
  refine T_eq (pc' := 19) (L' := [(3, .int (nI n)), (0, .ref 373), (1, .int (nI s)), (2, .int (nI u))]) (st' := [.int (nI 1)]) (M' := M_10) rfl rfl rfl rfl ?_
  refine N_if_eq_f (b := 1) d_Mo_begin_19 (tgt := 32) rfl (by omega) (by omega) ?_
  refine T_iload_n d_Mo_begin_22 rfl ?_
  refine N_if_lt_f (b := u) d_Mo_begin_23 (tgt := 32) rfl (by omega) (by omega) ?_
  refine T_iload_n d_Mo_begin_26 rfl ?_
  refine T_bipush (v := nI 7) d_Mo_begin_27 (by decide) ?_
  refine N_icmp_le_t (a := 7) (b := u) d_Mo_begin_29 (tgt := 34) rfl (by omega) (by omega) (by omega) ?_
  refine T_aload_n (v := .ref 373) d_Mo_begin_34 rfl (Or.inr ⟨_, rfl⟩) ?_
  obtain ⟨v_15, hov_15, hwv_15, hsv_15, hiv_15⟩ := id p_13
  refine T_getfield (v := .ref 419) d_Mo_begin_35 fg_Mo_377 hov_15 rfl ?_
  refine T_iload_n d_Mo_begin_38 rfl ?_
  refine T_iload_n d_Mo_begin_39 rfl ?_
  have p_16 := (NR.kp ((NR.kp (hus) (Ex.kp s_7) (by decide))) (Ex.kp s_12) (by decide))
  obtain ⟨f_17, h_18, h_19⟩ := id p_16
  refine N_iastore (k := s) d_Mo_begin_40 (by decide) h_18 (by omega) (by decide) rfl (fun M_20 h_21 s_22 => ?_)
  have p_23 := NR.up h_19 h_21
  refine T_aload_n (v := .ref 373) d_Mo_begin_41 rfl (Or.inr ⟨_, rfl⟩) ?_
  have p_24 := (BG.kp (p_13) (Ex.kp s_22) (by decide) (by decide))
  obtain ⟨v_25, hov_25, hwv_25, hsv_25, hiv_25⟩ := id p_24
  refine T_getfield (v := .ref 421) d_Mo_begin_42 fg_Mo_383 hov_25 rfl ?_
  refine T_iload_n d_Mo_begin_45 rfl ?_
  refine T_iload_n d_Mo_begin_46 rfl ?_
  have p_26 := (NR.kp ((NR.kp ((NR.kp (hps) (Ex.kp s_7) (by decide))) (Ex.kp s_12) (by decide))) (Ex.kp s_22) (by decide))
  obtain ⟨f_27, h_28, h_29⟩ := id p_26
  refine N_iastore (k := s) d_Mo_begin_47 (by decide) h_28 (by omega) (by decide) rfl (fun M_30 h_31 s_32 => ?_)
  have p_33 := NR.up h_29 h_31
  refine T_iconst (v := nI 0) d_Mo_begin_48 (by decide) ?_
  refine T_istore (L' := [(4, .int (nI 0)), (3, .int (nI n)), (0, .ref 373), (1, .int (nI s)), (2, .int (nI u))]) d_Mo_begin_49 (by decide) rfl ?_
  have p_34 := (BG.kp (p_24) (Ex.kp s_32) (by decide) (by decide))
  have p_35 := (RO.kp ((RO.kp ((RO.kp ((RO.kp (ro1) (Ex.kp s_7) (by decide))) (Ex.kp s_12) (by decide))) (Ex.kp s_22) (by decide))) (Ex.kp s_32) (by decide))
  have p_37 := (IA.kp ((IA.kp ((IA.kp ((IA.kp (htx) (Ex.kp s_7) (by decide))) (Ex.kp s_12) (by decide))) (Ex.kp s_22) (by decide))) (Ex.kp s_32) (by decide))
  refine T_sub (L' := [(4, .int (nI 0)), (3, .int (nI n)), (1, .int (nI s)), (2, .int (nI u)), (0, .ref 373)]) (fun q hq => by simp only [List.mem_cons, List.not_mem_nil, or_false] at hq ⊢; rcases hq with rfl | rfl | rfl | rfl | rfl <;> simp) ?_
  refine bg_p G (l0 := []) p_34 p_37 (by first | omega | (simp only [List.length_append, List.length_cons, List.length_nil, List.length_replicate, sl_len, be_len, sha_len, hmac_len, ex1_len, ex2_len, stretch_len, zer8_len, tC_len, tag1_len, bnN_len, xkp_len, enc_len, chance_len, lbF_len, str2_len, pub_len', sec8_len, mp_len, xSrv_len, xCli_len, xSess_len, seal8_len]; done) | (simp only [List.length_append, List.length_cons, List.length_nil, List.length_replicate, sl_len, be_len, sha_len, hmac_len, ex1_len, ex2_len, stretch_len, zer8_len, tC_len, tag1_len, bnN_len, xkp_len, enc_len, chance_len, lbF_len, str2_len, pub_len', sec8_len, mp_len, xSrv_len, xCli_len, xSess_len, seal8_len]; omega)) (by omega) (by omega) (by first | omega | (simp only [List.length_append, List.length_cons, List.length_nil, List.length_replicate, sl_len, be_len, sha_len, hmac_len, ex1_len, ex2_len, stretch_len, zer8_len, tC_len, tag1_len, bnN_len, xkp_len, enc_len, chance_len, lbF_len, str2_len, pub_len', sec8_len, mp_len, xSrv_len, xCli_len, xSess_len, seal8_len]; done) | (simp only [List.length_append, List.length_cons, List.length_nil, List.length_replicate, sl_len, be_len, sha_len, hmac_len, ex1_len, ex2_len, stretch_len, zer8_len, tC_len, tag1_len, bnN_len, xkp_len, enc_len, chance_len, lbF_len, str2_len, pub_len', sec8_len, mp_len, xSrv_len, xCli_len, xSess_len, seal8_len]; omega)) (fun Mr36 hI => ?_) n 0 M_30 (Nat.zero_add _) ⟨by rw [mp_0, List.append_nil]; exact p_35, Kp.rf⟩
  obtain ⟨hd36, hK36⟩ := hI
  have hr36 : RO Mr36 420 800 R1 (200 * s) 200 (sl tx 0 n) := hd36
  refine T_aload_n (v := .ref 373) d_Mo_begin_83 rfl (Or.inr ⟨_, rfl⟩) ?_
  have p_38 := (BG.kp (p_34) hK36 (by decide) (by decide))
  obtain ⟨v_39, hov_39, hwv_39, hsv_39, hiv_39⟩ := id p_38
  refine T_getfield (v := .ref 425) d_Mo_begin_84 fg_Mo_395 hov_39 rfl ?_
  refine T_iload_n d_Mo_begin_87 rfl ?_
  refine T_iconst (v := nI 0) d_Mo_begin_88 (by decide) ?_
  have p_40 := (ZR.kp ((ZR.kp ((ZR.kp ((ZR.kp ((ZR.kp (z425) (Ex.kp s_7) (by decide))) (Ex.kp s_12) (by decide))) (Ex.kp s_22) (by decide))) (Ex.kp s_32) (by decide))) hK36 (by decide))
  obtain ⟨f_41, h_42, h_43⟩ := id p_40
  refine N_zastore (k := s) d_Mo_begin_89 (by decide) h_42 (by omega) (by decide) rfl (fun M_44 h_45 s_46 => ?_)
  have p_47 := ZR.up (b := false) h_43 (by decide) h_45
  refine T_aload_n (v := .ref 373) d_Mo_begin_90 rfl (Or.inr ⟨_, rfl⟩) ?_
  have p_48 := (BG.kp (p_38) (Ex.kp s_46) (by decide) (by decide))
  obtain ⟨v_49, hov_49, hwv_49, hsv_49, hiv_49⟩ := id p_48
  refine T_getfield (v := .ref 426) d_Mo_begin_91 fg_Mo_398 hov_49 rfl ?_
  refine T_iload_n d_Mo_begin_94 rfl ?_
  refine T_iconst (v := nI 0) d_Mo_begin_95 (by decide) ?_
  have p_50 := (ZR.kp ((ZR.kp ((ZR.kp ((ZR.kp ((ZR.kp ((ZR.kp (z426) (Ex.kp s_7) (by decide))) (Ex.kp s_12) (by decide))) (Ex.kp s_22) (by decide))) (Ex.kp s_32) (by decide))) hK36 (by decide))) (Ex.kp s_46) (by decide))
  obtain ⟨f_51, h_52, h_53⟩ := id p_50
  refine N_zastore (k := s) d_Mo_begin_96 (by decide) h_52 (by omega) (by decide) rfl (fun M_54 h_55 s_56 => ?_)
  have p_57 := ZR.up (b := false) h_53 (by decide) h_55
  refine T_aload_n (v := .ref 373) d_Mo_begin_97 rfl (Or.inr ⟨_, rfl⟩) ?_
  have p_58 := (BG.kp (p_48) (Ex.kp s_56) (by decide) (by decide))
  obtain ⟨v_59, hov_59, hwv_59, hsv_59, hiv_59⟩ := id p_58
  refine T_getfield (v := .ref 427) d_Mo_begin_98 fg_Mo_401 hov_59 rfl ?_
  refine T_iload_n d_Mo_begin_101 rfl ?_
  refine T_iconst (v := nI 0) d_Mo_begin_102 (by decide) ?_
  have p_60 := (ZR.kp ((ZR.kp ((ZR.kp ((ZR.kp ((ZR.kp ((ZR.kp ((ZR.kp (z427) (Ex.kp s_7) (by decide))) (Ex.kp s_12) (by decide))) (Ex.kp s_22) (by decide))) (Ex.kp s_32) (by decide))) hK36 (by decide))) (Ex.kp s_46) (by decide))) (Ex.kp s_56) (by decide))
  obtain ⟨f_61, h_62, h_63⟩ := id p_60
  refine N_zastore (k := s) d_Mo_begin_103 (by decide) h_62 (by omega) (by decide) rfl (fun M_64 h_65 s_66 => ?_)
  have p_67 := ZR.up (b := false) h_63 (by decide) h_65
  refine T_aload_n (v := .ref 373) d_Mo_begin_104 rfl (Or.inr ⟨_, rfl⟩) ?_
  have p_68 := (BG.kp (p_58) (Ex.kp s_66) (by decide) (by decide))
  obtain ⟨v_69, hov_69, hwv_69, hsv_69, hiv_69⟩ := id p_68
  refine T_getfield (v := .ref 428) d_Mo_begin_105 fg_Mo_404 hov_69 rfl ?_
  refine T_iload_n d_Mo_begin_108 rfl ?_
  refine T_iconst (v := nI 0) d_Mo_begin_109 (by decide) ?_
  have p_70 := (ZR.kp ((ZR.kp ((ZR.kp ((ZR.kp ((ZR.kp ((ZR.kp ((ZR.kp ((ZR.kp (z428) (Ex.kp s_7) (by decide))) (Ex.kp s_12) (by decide))) (Ex.kp s_22) (by decide))) (Ex.kp s_32) (by decide))) hK36 (by decide))) (Ex.kp s_46) (by decide))) (Ex.kp s_56) (by decide))) (Ex.kp s_66) (by decide))
  obtain ⟨f_71, h_72, h_73⟩ := id p_70
  refine N_zastore (k := s) d_Mo_begin_110 (by decide) h_72 (by omega) (by decide) rfl (fun M_74 h_75 s_76 => ?_)
  have p_77 := ZR.up (b := false) h_73 (by decide) h_75
  refine T_aload_n (v := .ref 373) d_Mo_begin_111 rfl (Or.inr ⟨_, rfl⟩) ?_
  have p_78 := (BG.kp (p_68) (Ex.kp s_76) (by decide) (by decide))
  obtain ⟨v_79, hov_79, hwv_79, hsv_79, hiv_79⟩ := id p_78
  refine T_getfield (v := .ref 429) d_Mo_begin_112 fg_Mo_407 hov_79 rfl ?_
  refine T_iload_n d_Mo_begin_115 rfl ?_
  refine T_iconst (v := nI 0) d_Mo_begin_116 (by decide) ?_
  have p_80 := (ZR.kp ((ZR.kp ((ZR.kp ((ZR.kp ((ZR.kp ((ZR.kp ((ZR.kp ((ZR.kp ((ZR.kp (z429) (Ex.kp s_7) (by decide))) (Ex.kp s_12) (by decide))) (Ex.kp s_22) (by decide))) (Ex.kp s_32) (by decide))) hK36 (by decide))) (Ex.kp s_46) (by decide))) (Ex.kp s_56) (by decide))) (Ex.kp s_66) (by decide))) (Ex.kp s_76) (by decide))
  obtain ⟨f_81, h_82, h_83⟩ := id p_80
  refine N_zastore (k := s) d_Mo_begin_117 (by decide) h_82 (by omega) (by decide) rfl (fun M_84 h_85 s_86 => ?_)
  have p_87 := ZR.up (b := false) h_83 (by decide) h_85
  refine T_aload_n (v := .ref 373) d_Mo_begin_118 rfl (Or.inr ⟨_, rfl⟩) ?_
  have p_88 := (BG.kp (p_78) (Ex.kp s_86) (by decide) (by decide))
  obtain ⟨v_89, hov_89, hwv_89, hsv_89, hiv_89⟩ := id p_88
  refine T_getfield (v := .ref 430) d_Mo_begin_119 fg_Mo_410 hov_89 rfl ?_
  refine T_iload_n d_Mo_begin_122 rfl ?_
  refine T_iconst (v := nI 0) d_Mo_begin_123 (by decide) ?_
  have p_90 := (ZR.kp ((ZR.kp ((ZR.kp ((ZR.kp ((ZR.kp ((ZR.kp ((ZR.kp ((ZR.kp ((ZR.kp ((ZR.kp (z430) (Ex.kp s_7) (by decide))) (Ex.kp s_12) (by decide))) (Ex.kp s_22) (by decide))) (Ex.kp s_32) (by decide))) hK36 (by decide))) (Ex.kp s_46) (by decide))) (Ex.kp s_56) (by decide))) (Ex.kp s_66) (by decide))) (Ex.kp s_76) (by decide))) (Ex.kp s_86) (by decide))
  obtain ⟨f_91, h_92, h_93⟩ := id p_90
  refine N_zastore (k := s) d_Mo_begin_124 (by decide) h_92 (by omega) (by decide) rfl (fun M_94 h_95 s_96 => ?_)
  have p_97 := ZR.up (b := false) h_93 (by decide) h_95
  refine T_aload_n (v := .ref 373) d_Mo_begin_125 rfl (Or.inr ⟨_, rfl⟩) ?_
  have p_98 := (BG.kp (p_88) (Ex.kp s_96) (by decide) (by decide))
  obtain ⟨v_99, hov_99, hwv_99, hsv_99, hiv_99⟩ := id p_98
  refine T_getfield (v := .ref 431) d_Mo_begin_126 fg_Mo_413 hov_99 rfl ?_
  refine T_iload_n d_Mo_begin_129 rfl ?_
  refine T_iconst (v := nI 0) d_Mo_begin_130 (by decide) ?_
  have p_100 := (ZR.kp ((ZR.kp ((ZR.kp ((ZR.kp ((ZR.kp ((ZR.kp ((ZR.kp ((ZR.kp ((ZR.kp ((ZR.kp ((ZR.kp (z431) (Ex.kp s_7) (by decide))) (Ex.kp s_12) (by decide))) (Ex.kp s_22) (by decide))) (Ex.kp s_32) (by decide))) hK36 (by decide))) (Ex.kp s_46) (by decide))) (Ex.kp s_56) (by decide))) (Ex.kp s_66) (by decide))) (Ex.kp s_76) (by decide))) (Ex.kp s_86) (by decide))) (Ex.kp s_96) (by decide))
  obtain ⟨f_101, h_102, h_103⟩ := id p_100
  refine N_zastore (k := s) d_Mo_begin_131 (by decide) h_102 (by omega) (by decide) rfl (fun M_104 h_105 s_106 => ?_)
  have p_107 := ZR.up (b := false) h_103 (by decide) h_105
  refine T_aload_n (v := .ref 373) d_Mo_begin_132 rfl (Or.inr ⟨_, rfl⟩) ?_
  have p_108 := (BG.kp (p_98) (Ex.kp s_106) (by decide) (by decide))
  obtain ⟨v_109, hov_109, hwv_109, hsv_109, hiv_109⟩ := id p_108
  refine T_getfield (v := .ref 424) d_Mo_begin_133 fg_Mo_392 hov_109 rfl ?_
  refine T_iload_n d_Mo_begin_136 rfl ?_
  refine T_iconst (v := nI 1) d_Mo_begin_137 (by decide) ?_
  have p_110 := (ZR.kp ((ZR.kp ((ZR.kp ((ZR.kp ((ZR.kp ((ZR.kp ((ZR.kp ((ZR.kp ((ZR.kp ((ZR.kp ((ZR.kp ((ZR.kp (z424) (Ex.kp s_7) (by decide))) (Ex.kp s_12) (by decide))) (Ex.kp s_22) (by decide))) (Ex.kp s_32) (by decide))) hK36 (by decide))) (Ex.kp s_46) (by decide))) (Ex.kp s_56) (by decide))) (Ex.kp s_66) (by decide))) (Ex.kp s_76) (by decide))) (Ex.kp s_86) (by decide))) (Ex.kp s_96) (by decide))) (Ex.kp s_106) (by decide))
  obtain ⟨f_111, h_112, h_113⟩ := id p_110
  refine N_zastore (k := s) d_Mo_begin_138 (by decide) h_112 (by omega) (by decide) rfl (fun M_114 h_115 s_116 => ?_)
  have p_117 := ZR.up (b := true) h_113 (by decide) h_115
  refine T_aload_n (v := .ref 373) d_Mo_begin_139 rfl (Or.inr ⟨_, rfl⟩) ?_
  have p_118 := (MS.kp ((MS.kp ((MS.kp ((MS.kp ((MS.kp ((MS.kp ((MS.kp ((MS.kp ((MS.kp ((MS.kp ((MS.kp ((MS.kp ((MS.kp (hms) (Ex.kp s_7) (by decide))) (Ex.kp s_12) (by decide))) (Ex.kp s_22) (by decide))) (Ex.kp s_32) (by decide))) hK36 (by decide))) (Ex.kp s_46) (by decide))) (Ex.kp s_56) (by decide))) (Ex.kp s_66) (by decide))) (Ex.kp s_76) (by decide))) (Ex.kp s_86) (by decide))) (Ex.kp s_96) (by decide))) (Ex.kp s_106) (by decide))) (Ex.kp s_116) (by decide))
  have p_119 := (BG.kp (p_108) (Ex.kp s_116) (by decide) (by decide))
  obtain ⟨v_121, hov_121, hwv_121, hsv_121, hiv_121⟩ := id p_119
  refine T_virtual (as := []) (rest := []) (b := 373) d_Mo_begin_140 rfl (jw_Mo_chanceScalar.jo (by decide)) lm_Mo_548 ji_Mo_chanceScalar js_Mo_chanceScalar hov_121 rfl rfl rfl (Nat.le_of_ble_eq_true rfl) (by decide) (by decide) (b_Mo_chanceScalar p_118 p_119 (show (upd (upd w 66 (nI 0)) 73 (nI 0)) 71 = sd from h71) (show (upd (upd w 66 (nI 0)) 73 (nI 0)) 72 = nI ch from h72)) (fun r M_120 hq => ?_)
  obtain ⟨rfl, p_120_0, p_120_1, p_120_2, kp_120⟩ := hq
  refine T_eq (pc' := 143) (L' := [(3, .int (nI n)), (1, .int (nI s)), (2, .int (nI u)), (0, .ref 373)]) (st' := []) (M' := M_120) rfl rfl rfl rfl ?_
  refine T_aload_n (v := .ref 373) d_Mo_begin_143 rfl (Or.inr ⟨_, rfl⟩) ?_
  refine T_aload_n (v := .ref 373) d_Mo_begin_144 rfl (Or.inr ⟨_, rfl⟩) ?_
  obtain ⟨v_122, hov_122, hwv_122, hsv_122, hiv_122⟩ := id p_120_1
  refine T_getfield (v := .ref 422) d_Mo_begin_145 fg_Mo_386 hov_122 rfl ?_
  refine T_bipush (v := nI 16) d_Mo_begin_148 (by decide) ?_
  refine T_iload_n d_Mo_begin_150 rfl ?_
  refine N_imul (a := s) (b := 16) (c := (16 * s)) d_Mo_begin_151 rfl ?_
  have p_124 := (LR.kp ((LR.kp ((LR.kp ((LR.kp ((LR.kp ((LR.kp ((LR.kp ((LR.kp ((LR.kp ((LR.kp ((LR.kp ((LR.kp ((LR.kp ((LR.kp (hbl) (Ex.kp s_7) (by decide))) (Ex.kp s_12) (by decide))) (Ex.kp s_22) (by decide))) (Ex.kp s_32) (by decide))) hK36 (by decide))) (Ex.kp s_46) (by decide))) (Ex.kp s_56) (by decide))) (Ex.kp s_66) (by decide))) (Ex.kp s_76) (by decide))) (Ex.kp s_86) (by decide))) (Ex.kp s_96) (by decide))) (Ex.kp s_106) (by decide))) (Ex.kp s_116) (by decide))) kp_120 (by decide))
  obtain ⟨g_123, ga_123, gb_123⟩ := id p_124
  refine T_virtual (as := [.ref 422, .int (nI ((16 * s)))]) (rest := []) (b := 373) d_Mo_begin_152 rfl (jw_Mo_putScalar.jo (by decide)) lm_Mo_489 ji_Mo_putScalar js_Mo_putScalar hov_122 rfl rfl rfl (Nat.le_of_ble_eq_true rfl) (by decide) (by decide) (b_Mo_put (at0 := (16 * s)) p_120_1 p_120_2 ga_123 (by omega) (by decide) (by decide) (by decide)) (fun r M_123 hq => ?_)
  obtain ⟨rfl, ⟨f_123, q2_123, q3_123, q4_123⟩, kp_123⟩ := hq
  have lr_123 := LR.up gb_123 q2_123 q3_123 q4_123
  refine T_eq (pc' := 155) (L' := [(3, .int (nI n)), (1, .int (nI s)), (2, .int (nI u)), (0, .ref 373)]) (st' := []) (M' := M_123) rfl rfl rfl rfl ?_
  refine T_aload_n (v := .ref 373) d_Mo_begin_155 rfl (Or.inr ⟨_, rfl⟩) ?_
  refine T_bipush (v := nI 12) d_Mo_begin_156 (by decide) ?_
  refine T_aload_n (v := .ref 373) d_Mo_begin_158 rfl (Or.inr ⟨_, rfl⟩) ?_
  have p_125 := (BG.kp (p_120_1) kp_123 (by decide) (by decide))
  obtain ⟨v_126, hov_126, hwv_126, hsv_126, hiv_126⟩ := id p_125
  refine T_getfield (v := .ref 409) d_Mo_begin_159 fg_Mo_341 hov_126 rfl ?_
  refine T_iload_n d_Mo_begin_162 rfl ?_
  have p_127 := (MS.kp (p_120_0) kp_123 (by decide))
  have p_128 := (IA.kp ((IA.kp ((IA.kp ((IA.kp ((IA.kp ((IA.kp ((IA.kp ((IA.kp ((IA.kp ((IA.kp ((IA.kp (p_37) hK36 (by decide))) (Ex.kp s_46) (by decide))) (Ex.kp s_56) (by decide))) (Ex.kp s_66) (by decide))) (Ex.kp s_76) (by decide))) (Ex.kp s_86) (by decide))) (Ex.kp s_96) (by decide))) (Ex.kp s_106) (by decide))) (Ex.kp s_116) (by decide))) kp_120 (by decide))) kp_123 (by decide))
  refine T_virtual (as := [.int (nI 12), .ref 409, .int (nI n)]) (rest := []) (b := 373) d_Mo_begin_163 rfl (jw_Mo_groupPoint.jo (by decide)) lm_Mo_495 ji_Mo_groupPoint js_Mo_groupPoint hov_126 rfl rfl rfl (Nat.le_of_ble_eq_true rfl) (by decide) (by decide) (b_Mo_group (n := n) p_127 p_125 p_128 ltx (by decide) (by omega)) (fun r M_129 hq => ?_)
  obtain ⟨rfl, p_129_0, p_129_1, p_129_2, kp_129⟩ := hq
  refine T_eq (pc' := 166) (L' := [(3, .int (nI n)), (1, .int (nI s)), (2, .int (nI u)), (0, .ref 373)]) (st' := []) (M' := M_129) rfl rfl rfl rfl ?_
  refine T_aload_n (v := .ref 373) d_Mo_begin_166 rfl (Or.inr ⟨_, rfl⟩) ?_
  refine T_aload_n (v := .ref 373) d_Mo_begin_167 rfl (Or.inr ⟨_, rfl⟩) ?_
  obtain ⟨v_130, hov_130, hwv_130, hsv_130, hiv_130⟩ := id p_129_1
  refine T_getfield (v := .ref 422) d_Mo_begin_168 fg_Mo_386 hov_130 rfl ?_
  refine T_bipush (v := nI 16) d_Mo_begin_171 (by decide) ?_
  refine T_iload_n d_Mo_begin_173 rfl ?_
  refine N_imul (a := s) (b := 16) (c := (16 * s)) d_Mo_begin_174 rfl ?_
  have p_131 := (LR.kp (lr_123) kp_129 (by decide))
  have sx_132 := LR.sc p_131 hs
  rw [uN_s] at sx_132
  refine T_virtual (as := [.ref 422, .int (nI ((16 * s)))]) (rest := []) (b := 373) d_Mo_begin_175 rfl (jw_Mo_takeScalar.jo (by decide)) lm_Mo_533 ji_Mo_takeScalar js_Mo_takeScalar hov_130 rfl rfl rfl (Nat.le_of_ble_eq_true rfl) (by decide) (by decide) (b_Mo_take (at0 := (16 * s)) p_129_0 p_129_1 sx_132 (by omega) (by decide) (by decide)) (fun r M_133 hq => ?_)
  obtain ⟨rfl, p_133_0, p_133_1, kp_133⟩ := hq
  refine T_eq (pc' := 178) (L' := [(3, .int (nI n)), (1, .int (nI s)), (2, .int (nI u)), (0, .ref 373)]) (st' := []) (M' := M_133) rfl rfl rfl rfl ?_
  refine T_aload_n (v := .ref 373) d_Mo_begin_178 rfl (Or.inr ⟨_, rfl⟩) ?_
  refine T_bipush (v := nI 12) d_Mo_begin_179 (by decide) ?_
  refine T_bipush (v := nI 12) d_Mo_begin_181 (by decide) ?_
  have p_134 := (BG.kp (p_129_1) kp_133 (by decide) (by decide))
  have p_135 := (PTa.kp (p_129_2) kp_133 (by decide))
  obtain ⟨v_137, hov_137, hwv_137, hsv_137, hiv_137⟩ := id p_134
  refine T_virtual (as := [.int (nI 12), .int (nI 12)]) (rest := []) (b := 373) d_Mo_begin_183 rfl (jw_Mo_timesPoint.jo (by decide)) lm_Mo_290 ji_Mo_timesPoint js_Mo_timesPoint hov_137 rfl rfl rfl (Nat.le_of_ble_eq_true rfl) (by decide) (by decide) (b_Mo_times_12 p_133_0 p_134 p_135 p_133_1 (mapP_on _) (Nat.lt_trans (scal_lt _) (by decide))) (fun r M_136 hq => ?_)
  obtain ⟨rfl, p_136_0, p_136_1, kp_136⟩ := hq
  refine T_eq (pc' := 186) (L' := [(3, .int (nI n)), (1, .int (nI s)), (2, .int (nI u)), (0, .ref 373)]) (st' := []) (M' := M_136) rfl rfl rfl rfl ?_
  refine T_aload_n (v := .ref 373) d_Mo_begin_186 rfl (Or.inr ⟨_, rfl⟩) ?_
  refine T_bipush (v := nI 12) d_Mo_begin_187 (by decide) ?_
  have p_138 := (BG.kp (p_134) kp_136 (by decide) (by decide))
  obtain ⟨v_140, hov_140, hwv_140, hsv_140, hiv_140⟩ := id p_138
  refine T_virtual (as := [.int (nI 12)]) (rest := []) (b := 373) d_Mo_begin_189 rfl (jw_Mo_code.jo (by decide)) lm_Mo_293 ji_Mo_code js_Mo_code hov_140 rfl rfl rfl (Nat.le_of_ble_eq_true rfl) (by decide) (by decide) (b_Mo_code_12 p_136_0 p_138 p_136_1) (fun r M_139 hq => ?_)
  obtain ⟨rfl, p_139_0, p_139_1, p_139_2, kp_139⟩ := hq
  refine T_eq (pc' := 192) (L' := [(3, .int (nI n)), (1, .int (nI s)), (2, .int (nI u)), (0, .ref 373)]) (st' := []) (M' := M_139) rfl rfl rfl rfl ?_
  refine T_iconst (v := nI 0) d_Mo_begin_192 (by decide) ?_
  refine T_istore (L' := [(4, .int (nI 0)), (3, .int (nI n)), (1, .int (nI s)), (2, .int (nI u)), (0, .ref 373)]) d_Mo_begin_193 (by decide) rfl ?_
  have p_141 := (BG.kp (p_138) kp_139 (by decide) (by decide))
  have p_142 := (RO.kp ((RO.kp ((RO.kp ((RO.kp ((RO.kp ((RO.kp ((RO.kp ((RO.kp ((RO.kp ((RO.kp ((RO.kp ((RO.kp ((RO.kp ((RO.kp ((RO.kp ((RO.kp ((RO.kp ((RO.kp ((RO.kp (ro2) (Ex.kp s_7) (by decide))) (Ex.kp s_12) (by decide))) (Ex.kp s_22) (by decide))) (Ex.kp s_32) (by decide))) hK36 (by decide))) (Ex.kp s_46) (by decide))) (Ex.kp s_56) (by decide))) (Ex.kp s_66) (by decide))) (Ex.kp s_76) (by decide))) (Ex.kp s_86) (by decide))) (Ex.kp s_96) (by decide))) (Ex.kp s_106) (by decide))) (Ex.kp s_116) (by decide))) kp_120 (by decide))) kp_123 (by decide))) kp_129 (by decide))) kp_133 (by decide))) kp_136 (by decide))) kp_139 (by decide))
  refine bg_e G (l0 := []) p_141 p_139_2 (by first | omega | (simp only [List.length_append, List.length_cons, List.length_nil, List.length_replicate, sl_len, be_len, sha_len, hmac_len, ex1_len, ex2_len, stretch_len, zer8_len, tC_len, tag1_len, bnN_len, xkp_len, enc_len, chance_len, lbF_len, str2_len, pub_len', sec8_len, mp_len, xSrv_len, xCli_len, xSess_len, seal8_len]; done) | (simp only [List.length_append, List.length_cons, List.length_nil, List.length_replicate, sl_len, be_len, sha_len, hmac_len, ex1_len, ex2_len, stretch_len, zer8_len, tC_len, tag1_len, bnN_len, xkp_len, enc_len, chance_len, lbF_len, str2_len, pub_len', sec8_len, mp_len, xSrv_len, xCli_len, xSess_len, seal8_len]; omega)) (by omega) (by first | omega | (simp only [List.length_append, List.length_cons, List.length_nil, List.length_replicate, sl_len, be_len, sha_len, hmac_len, ex1_len, ex2_len, stretch_len, zer8_len, tC_len, tag1_len, bnN_len, xkp_len, enc_len, chance_len, lbF_len, str2_len, pub_len', sec8_len, mp_len, xSrv_len, xCli_len, xSess_len, seal8_len]; done) | (simp only [List.length_append, List.length_cons, List.length_nil, List.length_replicate, sl_len, be_len, sha_len, hmac_len, ex1_len, ex2_len, stretch_len, zer8_len, tC_len, tag1_len, bnN_len, xkp_len, enc_len, chance_len, lbF_len, str2_len, pub_len', sec8_len, mp_len, xSrv_len, xCli_len, xSess_len, seal8_len]; omega)) (fun Mr143 hI => ?_) 32 0 M_139 (Nat.zero_add _) ⟨by rw [mp_0, List.append_nil]; exact p_142, Kp.rf⟩
  obtain ⟨hd143, hK143⟩ := hI
  have hr143 : RO Mr143 432 384 R2 (96 * s) 96 (sl (enc (emul fD (grp tx) (scal (chance sd (nI ch))))) 0 32) := hd143
  have p_144 : RO Mr143 432 384 R2 (96 * s) 96 (enc (emul fD (grp tx) (scal (chance sd (nI ch))))) := (by have g := hr143; rw [sl64 (enc_len _)] at g; exact g)
  refine T_aload_n (v := .ref 373) d_Mo_begin_227 rfl (Or.inr ⟨_, rfl⟩) ?_
  have p_145 := (MS.kp (p_139_0) hK143 (by decide))
  have p_146 := (BG.kp (p_141) hK143 (by decide) (by decide))
  obtain ⟨v_148, hov_148, hwv_148, hsv_148, hiv_148⟩ := id p_146
  refine T_virtual (as := []) (rest := []) (b := 373) d_Mo_begin_228 rfl (jw_Mo_chance.jo (by decide)) lm_Mo_304 ji_Mo_chance js_Mo_chance hov_148 rfl rfl rfl (Nat.le_of_ble_eq_true rfl) (by decide) (by decide) (b_Mo_chance p_145 p_146 (show (upd (upd (upd w 66 (nI 0)) 73 (nI 0)) 72 (nI (ch + 1))) 71 = sd from h71) (show (upd (upd (upd w 66 (nI 0)) 73 (nI 0)) 72 (nI (ch + 1))) 72 = nI (ch + 1) from rfl)) (fun r M_147 hq => ?_)
  obtain ⟨rfl, p_147_0, p_147_1, p_147_2, kp_147⟩ := hq
  refine T_eq (pc' := 231) (L' := [(3, .int (nI n)), (1, .int (nI s)), (2, .int (nI u)), (0, .ref 373)]) (st' := []) (M' := M_147) rfl rfl rfl rfl ?_
  refine T_iconst (v := nI 0) d_Mo_begin_231 (by decide) ?_
  refine T_istore (L' := [(4, .int (nI 0)), (3, .int (nI n)), (1, .int (nI s)), (2, .int (nI u)), (0, .ref 373)]) d_Mo_begin_232 (by decide) rfl ?_
  have p_149 := (RO.kp (p_144) kp_147 (by decide))
  refine bg_n G (l0 := (enc (emul fD (grp tx) (scal (chance sd (nI ch)))))) p_147_1 p_147_2 (by first | omega | (simp only [List.length_append, List.length_cons, List.length_nil, List.length_replicate, sl_len, be_len, sha_len, hmac_len, ex1_len, ex2_len, stretch_len, zer8_len, tC_len, tag1_len, bnN_len, xkp_len, enc_len, chance_len, lbF_len, str2_len, pub_len', sec8_len, mp_len, xSrv_len, xCli_len, xSess_len, seal8_len]; done) | (simp only [List.length_append, List.length_cons, List.length_nil, List.length_replicate, sl_len, be_len, sha_len, hmac_len, ex1_len, ex2_len, stretch_len, zer8_len, tC_len, tag1_len, bnN_len, xkp_len, enc_len, chance_len, lbF_len, str2_len, pub_len', sec8_len, mp_len, xSrv_len, xCli_len, xSess_len, seal8_len]; omega)) (by omega) (by first | omega | (simp only [List.length_append, List.length_cons, List.length_nil, List.length_replicate, sl_len, be_len, sha_len, hmac_len, ex1_len, ex2_len, stretch_len, zer8_len, tC_len, tag1_len, bnN_len, xkp_len, enc_len, chance_len, lbF_len, str2_len, pub_len', sec8_len, mp_len, xSrv_len, xCli_len, xSess_len, seal8_len]; done) | (simp only [List.length_append, List.length_cons, List.length_nil, List.length_replicate, sl_len, be_len, sha_len, hmac_len, ex1_len, ex2_len, stretch_len, zer8_len, tC_len, tag1_len, bnN_len, xkp_len, enc_len, chance_len, lbF_len, str2_len, pub_len', sec8_len, mp_len, xSrv_len, xCli_len, xSess_len, seal8_len]; omega)) (fun Mr150 hI => ?_) 32 0 M_147 (Nat.zero_add _) ⟨by rw [mp_0, List.append_nil]; exact p_149, Kp.rf⟩
  obtain ⟨hd150, hK150⟩ := hI
  have hr150 : RO Mr150 432 384 R2 (96 * s) 96 ((enc (emul fD (grp tx) (scal (chance sd (nI ch))))) ++ (sl (chance sd (nI (ch + 1))) 0 32)) := hd150
  refine T_aload_n (v := .ref 373) d_Mo_begin_269 rfl (Or.inr ⟨_, rfl⟩) ?_
  have p_151 := (MS.kp (p_147_0) hK150 (by decide))
  have p_152 := (BG.kp (p_147_1) hK150 (by decide) (by decide))
  obtain ⟨v_154, hov_154, hwv_154, hsv_154, hiv_154⟩ := id p_152
  refine T_virtual (as := []) (rest := []) (b := 373) d_Mo_begin_270 rfl (jw_Mo_chanceScalar.jo (by decide)) lm_Mo_548 ji_Mo_chanceScalar js_Mo_chanceScalar hov_154 rfl rfl rfl (Nat.le_of_ble_eq_true rfl) (by decide) (by decide) (b_Mo_chanceScalar p_151 p_152 (show (upd (upd (upd (upd w 66 (nI 0)) 73 (nI 0)) 72 (nI (ch + 1))) 72 (nI ((ch + 1) + 1))) 71 = sd from h71) (show (upd (upd (upd (upd w 66 (nI 0)) 73 (nI 0)) 72 (nI (ch + 1))) 72 (nI ((ch + 1) + 1))) 72 = nI ((ch + 1) + 1) from rfl)) (fun r M_153 hq => ?_)
  obtain ⟨rfl, p_153_0, p_153_1, p_153_2, kp_153⟩ := hq
  refine T_eq (pc' := 273) (L' := [(3, .int (nI n)), (1, .int (nI s)), (2, .int (nI u)), (0, .ref 373)]) (st' := []) (M' := M_153) rfl rfl rfl rfl ?_
  refine T_aload_n (v := .ref 373) d_Mo_begin_273 rfl (Or.inr ⟨_, rfl⟩) ?_
  refine T_aload_n (v := .ref 373) d_Mo_begin_274 rfl (Or.inr ⟨_, rfl⟩) ?_
  obtain ⟨v_155, hov_155, hwv_155, hsv_155, hiv_155⟩ := id p_153_1
  refine T_getfield (v := .ref 423) d_Mo_begin_275 fg_Mo_389 hov_155 rfl ?_
  refine T_bipush (v := nI 16) d_Mo_begin_278 (by decide) ?_
  refine T_iload_n d_Mo_begin_280 rfl ?_
  refine N_imul (a := s) (b := 16) (c := (16 * s)) d_Mo_begin_281 rfl ?_
  have p_157 := (LR.kp ((LR.kp ((LR.kp ((LR.kp ((LR.kp ((LR.kp ((LR.kp ((LR.kp ((LR.kp ((LR.kp ((LR.kp ((LR.kp ((LR.kp ((LR.kp ((LR.kp ((LR.kp ((LR.kp ((LR.kp ((LR.kp ((LR.kp ((LR.kp ((LR.kp ((LR.kp (hep) (Ex.kp s_7) (by decide))) (Ex.kp s_12) (by decide))) (Ex.kp s_22) (by decide))) (Ex.kp s_32) (by decide))) hK36 (by decide))) (Ex.kp s_46) (by decide))) (Ex.kp s_56) (by decide))) (Ex.kp s_66) (by decide))) (Ex.kp s_76) (by decide))) (Ex.kp s_86) (by decide))) (Ex.kp s_96) (by decide))) (Ex.kp s_106) (by decide))) (Ex.kp s_116) (by decide))) kp_120 (by decide))) kp_123 (by decide))) kp_129 (by decide))) kp_133 (by decide))) kp_136 (by decide))) kp_139 (by decide))) hK143 (by decide))) kp_147 (by decide))) hK150 (by decide))) kp_153 (by decide))
  obtain ⟨g_156, ga_156, gb_156⟩ := id p_157
  refine T_virtual (as := [.ref 423, .int (nI ((16 * s)))]) (rest := []) (b := 373) d_Mo_begin_282 rfl (jw_Mo_putScalar.jo (by decide)) lm_Mo_489 ji_Mo_putScalar js_Mo_putScalar hov_155 rfl rfl rfl (Nat.le_of_ble_eq_true rfl) (by decide) (by decide) (b_Mo_put (at0 := (16 * s)) p_153_1 p_153_2 ga_156 (by omega) (by decide) (by decide) (by decide)) (fun r M_156 hq => ?_)
  obtain ⟨rfl, ⟨f_156, q2_156, q3_156, q4_156⟩, kp_156⟩ := hq
  have lr_156 := LR.up gb_156 q2_156 q3_156 q4_156
  refine T_eq (pc' := 285) (L' := [(3, .int (nI n)), (1, .int (nI s)), (2, .int (nI u)), (0, .ref 373)]) (st' := []) (M' := M_156) rfl rfl rfl rfl ?_
  refine T_aload_n (v := .ref 373) d_Mo_begin_285 rfl (Or.inr ⟨_, rfl⟩) ?_
  refine T_aload_n (v := .ref 373) d_Mo_begin_286 rfl (Or.inr ⟨_, rfl⟩) ?_
  have p_158 := (BG.kp (p_153_1) kp_156 (by decide) (by decide))
  obtain ⟨v_159, hov_159, hwv_159, hsv_159, hiv_159⟩ := id p_158
  refine T_getfield (v := .ref 432) d_Mo_begin_287 fg_Mo_416 hov_159 rfl ?_
  refine T_bipush (v := nI 96) d_Mo_begin_290 (by decide) ?_
  refine T_iload_n d_Mo_begin_292 rfl ?_
  refine N_imul (a := s) (b := 96) (c := (96 * s)) d_Mo_begin_293 rfl ?_
  refine T_bipush (v := nI 64) d_Mo_begin_294 (by decide) ?_
  refine N_iadd (a := 64) (b := (96 * s)) (c := ((96 * s) + 64)) d_Mo_begin_296 rfl ?_
  have p_161 := (RO.kp ((RO.kp (hr150) kp_153 (by decide))) kp_156 (by decide))
  have p_162 := (SC.kp (p_153_2) kp_156 (by decide))
  have p_163 := (MS.kp (p_153_0) kp_156 (by decide))
  obtain ⟨_, ⟨g_160, ga_160, _, _⟩, _, _, _, _, hx_160⟩ := id p_161
  have ro_160 := p_161
  refine T_virtual (as := [.ref 432, .int (nI (((96 * s) + 64)))]) (rest := []) (b := 373) d_Mo_begin_297 rfl (jw_Mo_publicTo.jo (by decide)) lm_Mo_492 ji_Mo_publicTo js_Mo_publicTo hov_159 rfl rfl rfl (Nat.le_of_ble_eq_true rfl) (by decide) (by decide) (b_Mo_publicTo (at0 := ((96 * s) + 64)) p_163 p_158 p_162 (Nat.lt_trans (scal_lt _) (by decide)) ga_160 (by omega) (by decide) (by decide) (by decide)) (fun r M_160 hq => ?_)
  obtain ⟨rfl, M1_160, ms1_160, kr_160, kz_160, g'_160, z1_160, z2_160⟩ := hq
  have kp_160 : Kp [432, 390, 391, 392, 393, 394] M_156 M_160 := Kp.tr (Kp.mono kr_160 (by decide)) (Kp.mono kz_160 (by decide))
  have ms_160 := MS.kp ms1_160 kz_160 (by decide)
  have rp_160 := RO.app (RO.kp ro_160 kr_160 (by decide)) ((kr_160 432 (by decide)).trans ga_160) z1_160 z2_160 (by first | omega | (simp only [List.length_append, List.length_cons, List.length_nil, List.length_replicate, sl_len, be_len, sha_len, hmac_len, ex1_len, ex2_len, stretch_len, zer8_len, tC_len, tag1_len, bnN_len, xkp_len, enc_len, chance_len, lbF_len, str2_len, pub_len', sec8_len, mp_len, xSrv_len, xCli_len, xSess_len, seal8_len]; done) | (simp only [List.length_append, List.length_cons, List.length_nil, List.length_replicate, sl_len, be_len, sha_len, hmac_len, ex1_len, ex2_len, stretch_len, zer8_len, tC_len, tag1_len, bnN_len, xkp_len, enc_len, chance_len, lbF_len, str2_len, pub_len', sec8_len, mp_len, xSrv_len, xCli_len, xSess_len, seal8_len]; omega)) (by first | omega | (simp only [List.length_append, List.length_cons, List.length_nil, List.length_replicate, sl_len, be_len, sha_len, hmac_len, ex1_len, ex2_len, stretch_len, zer8_len, tC_len, tag1_len, bnN_len, xkp_len, enc_len, chance_len, lbF_len, str2_len, pub_len', sec8_len, mp_len, xSrv_len, xCli_len, xSess_len, seal8_len]; done) | (simp only [List.length_append, List.length_cons, List.length_nil, List.length_replicate, sl_len, be_len, sha_len, hmac_len, ex1_len, ex2_len, stretch_len, zer8_len, tC_len, tag1_len, bnN_len, xkp_len, enc_len, chance_len, lbF_len, str2_len, pub_len', sec8_len, mp_len, xSrv_len, xCli_len, xSess_len, seal8_len]; omega))
  refine T_eq (pc' := 300) (L' := [(3, .int (nI n)), (1, .int (nI s)), (2, .int (nI u)), (0, .ref 373)]) (st' := []) (M' := M_160) rfl rfl rfl rfl ?_
  refine T_iconst (v := nI 0) d_Mo_begin_300 (by decide) ?_
  refine T_istore (L' := [(4, .int (nI 0)), (3, .int (nI n)), (1, .int (nI s)), (2, .int (nI u)), (0, .ref 373)]) d_Mo_begin_301 (by decide) rfl ?_
  have p_164 : RO M_160 432 384 R2 (96 * s) 96 (msg1 sd ch tx) := rp_160
  obtain ⟨L165, hL165, eL165, _, sg165, _, _⟩ := id p_164
  have p_166 := (BG.kp (p_158) kp_160 (by decide) (by decide))
  have p_167 := (RO.kp ((RO.kp ((RO.kp ((RO.kp ((RO.kp ((RO.kp ((RO.kp ((RO.kp ((RO.kp ((RO.kp ((RO.kp ((RO.kp ((RO.kp ((RO.kp ((RO.kp ((RO.kp ((RO.kp ((RO.kp ((RO.kp ((RO.kp ((RO.kp ((RO.kp ((RO.kp ((RO.kp ((RO.kp (ro3) (Ex.kp s_7) (by decide))) (Ex.kp s_12) (by decide))) (Ex.kp s_22) (by decide))) (Ex.kp s_32) (by decide))) hK36 (by decide))) (Ex.kp s_46) (by decide))) (Ex.kp s_56) (by decide))) (Ex.kp s_66) (by decide))) (Ex.kp s_76) (by decide))) (Ex.kp s_86) (by decide))) (Ex.kp s_96) (by decide))) (Ex.kp s_106) (by decide))) (Ex.kp s_116) (by decide))) kp_120 (by decide))) kp_123 (by decide))) kp_129 (by decide))) kp_133 (by decide))) kp_136 (by decide))) kp_139 (by decide))) hK143 (by decide))) kp_147 (by decide))) hK150 (by decide))) kp_153 (by decide))) kp_156 (by decide))) kp_160 (by decide))
  refine bg_w G (l0 := []) p_166 hL165 (by first | omega | (simp only [List.length_append, List.length_cons, List.length_nil, List.length_replicate, sl_len, be_len, sha_len, hmac_len, ex1_len, ex2_len, stretch_len, zer8_len, tC_len, tag1_len, bnN_len, xkp_len, enc_len, chance_len, lbF_len, str2_len, pub_len', sec8_len, mp_len, xSrv_len, xCli_len, xSess_len, seal8_len]; done) | (simp only [List.length_append, List.length_cons, List.length_nil, List.length_replicate, sl_len, be_len, sha_len, hmac_len, ex1_len, ex2_len, stretch_len, zer8_len, tC_len, tag1_len, bnN_len, xkp_len, enc_len, chance_len, lbF_len, str2_len, pub_len', sec8_len, mp_len, xSrv_len, xCli_len, xSess_len, seal8_len]; omega)) (by omega) (by first | omega | (simp only [List.length_append, List.length_cons, List.length_nil, List.length_replicate, sl_len, be_len, sha_len, hmac_len, ex1_len, ex2_len, stretch_len, zer8_len, tC_len, tag1_len, bnN_len, xkp_len, enc_len, chance_len, lbF_len, str2_len, pub_len', sec8_len, mp_len, xSrv_len, xCli_len, xSess_len, seal8_len]; done) | (simp only [List.length_append, List.length_cons, List.length_nil, List.length_replicate, sl_len, be_len, sha_len, hmac_len, ex1_len, ex2_len, stretch_len, zer8_len, tC_len, tag1_len, bnN_len, xkp_len, enc_len, chance_len, lbF_len, str2_len, pub_len', sec8_len, mp_len, xSrv_len, xCli_len, xSess_len, seal8_len]; omega)) (fun Mr168 hI => ?_) 96 0 M_160 (Nat.zero_add _) ⟨by rw [mp_0, List.append_nil]; exact p_167, Kp.rf⟩
  obtain ⟨hd168, hK168⟩ := hI
  have hr168 : RO Mr168 433 384 R3 (96 * s) 96 (sl L165 (96 * s) 96) := hd168
  have p_169 : RO Mr168 433 384 R3 (96 * s) 96 (msg1 sd ch tx) := (by have g := hr168; rw [show sl L165 (96 * s) 96 = (msg1 sd ch tx) from (sl_sg (b := 0) sg165 (by rw [msg1_len]; decide)).trans (sl64 (msg1_len _ _ _))] at g; exact g)
  refine T_iconst (v := nI 0) d_Mo_begin_340 (by decide) ?_
  have p_170 := (RO.kp ((RO.kp ((RO.kp ((RO.kp ((RO.kp ((RO.kp ((RO.kp ((RO.kp ((RO.kp ((RO.kp ((RO.kp ((RO.kp ((RO.kp ((RO.kp ((RO.kp ((RO.kp ((RO.kp ((RO.kp ((RO.kp ((RO.kp ((RO.kp (hr36) (Ex.kp s_46) (by decide))) (Ex.kp s_56) (by decide))) (Ex.kp s_66) (by decide))) (Ex.kp s_76) (by decide))) (Ex.kp s_86) (by decide))) (Ex.kp s_96) (by decide))) (Ex.kp s_106) (by decide))) (Ex.kp s_116) (by decide))) kp_120 (by decide))) kp_123 (by decide))) kp_129 (by decide))) kp_133 (by decide))) kp_136 (by decide))) kp_139 (by decide))) hK143 (by decide))) kp_147 (by decide))) hK150 (by decide))) kp_153 (by decide))) kp_156 (by decide))) kp_160 (by decide))) hK168 (by decide))
  have p_171 : RO Mr168 420 800 R1 (200 * s) 200 tx := (by have g := p_170; rw [sl64 ltx] at g; exact g)
  have p_172 := RO.sl p_171 px1
  have p_173 := (RO.kp (p_164) hK168 (by decide))
  have p_174 := RO.sl p_173 px2
  have p_175 := RO.sl p_169 px3
  have p_176 := (BG.kp (p_166) hK168 (by decide) (by decide))
  have nb_ : NB Mr168 sd (((ch + 1) + 1) + 1) 0 m 0 := ⟨_, p_176, (show (upd (upd (upd (upd (upd w 66 (nI 0)) 73 (nI 0)) 72 (nI (ch + 1))) 72 (nI ((ch + 1) + 1))) 72 (nI (((ch + 1) + 1) + 1))) 66 = (nI 0) from rfl), (show (upd (upd (upd (upd (upd w 66 (nI 0)) 73 (nI 0)) 72 (nI (ch + 1))) 72 (nI ((ch + 1) + 1))) 72 (nI (((ch + 1) + 1) + 1))) 71 = sd from h71), (show (upd (upd (upd (upd (upd w 66 (nI 0)) 73 (nI 0)) 72 (nI (ch + 1))) 72 (nI ((ch + 1) + 1))) 72 (nI (((ch + 1) + 1) + 1))) 72 = (nI ((((ch + 1) + 1) + 1))) from rfl), (show (upd (upd (upd (upd (upd w 66 (nI 0)) 73 (nI 0)) 72 (nI (ch + 1))) 72 (nI ((ch + 1) + 1))) 72 (nI (((ch + 1) + 1) + 1))) 73 = (nI 0) from rfl), (show (upd (upd (upd (upd (upd w 66 (nI 0)) 73 (nI 0)) 72 (nI (ch + 1))) 72 (nI ((ch + 1) + 1))) 72 (nI (((ch + 1) + 1) + 1))) 74 = (nI m) from h74)⟩
  have p_177 := (MS.kp (ms_160) hK168 (by decide))
  have p_178 := (NR.kp ((NR.kp ((NR.kp ((NR.kp ((NR.kp ((NR.kp ((NR.kp ((NR.kp ((NR.kp ((NR.kp ((NR.kp ((NR.kp ((NR.kp ((NR.kp ((NR.kp ((NR.kp ((NR.kp ((NR.kp ((NR.kp ((NR.kp ((NR.kp ((NR.kp ((NR.kp (p_23) (Ex.kp s_32) (by decide))) hK36 (by decide))) (Ex.kp s_46) (by decide))) (Ex.kp s_56) (by decide))) (Ex.kp s_66) (by decide))) (Ex.kp s_76) (by decide))) (Ex.kp s_86) (by decide))) (Ex.kp s_96) (by decide))) (Ex.kp s_106) (by decide))) (Ex.kp s_116) (by decide))) kp_120 (by decide))) kp_123 (by decide))) kp_129 (by decide))) kp_133 (by decide))) kp_136 (by decide))) kp_139 (by decide))) hK143 (by decide))) kp_147 (by decide))) hK150 (by decide))) kp_153 (by decide))) kp_156 (by decide))) kp_160 (by decide))) hK168 (by decide))
  have p_179 := (NR.kp ((NR.kp ((NR.kp ((NR.kp ((NR.kp ((NR.kp ((NR.kp ((NR.kp ((NR.kp ((NR.kp ((NR.kp ((NR.kp ((NR.kp ((NR.kp ((NR.kp ((NR.kp ((NR.kp ((NR.kp ((NR.kp ((NR.kp ((NR.kp ((NR.kp (p_33) hK36 (by decide))) (Ex.kp s_46) (by decide))) (Ex.kp s_56) (by decide))) (Ex.kp s_66) (by decide))) (Ex.kp s_76) (by decide))) (Ex.kp s_86) (by decide))) (Ex.kp s_96) (by decide))) (Ex.kp s_106) (by decide))) (Ex.kp s_116) (by decide))) kp_120 (by decide))) kp_123 (by decide))) kp_129 (by decide))) kp_133 (by decide))) kp_136 (by decide))) kp_139 (by decide))) hK143 (by decide))) kp_147 (by decide))) hK150 (by decide))) kp_153 (by decide))) kp_156 (by decide))) kp_160 (by decide))) hK168 (by decide))
  have p_180 := (ZR.kp ((ZR.kp ((ZR.kp ((ZR.kp ((ZR.kp ((ZR.kp ((ZR.kp ((ZR.kp ((ZR.kp ((ZR.kp ((ZR.kp ((ZR.kp ((ZR.kp (p_117) kp_120 (by decide))) kp_123 (by decide))) kp_129 (by decide))) kp_133 (by decide))) kp_136 (by decide))) kp_139 (by decide))) hK143 (by decide))) kp_147 (by decide))) hK150 (by decide))) kp_153 (by decide))) kp_156 (by decide))) kp_160 (by decide))) hK168 (by decide))
  have p_181 := (ZR.kp ((ZR.kp ((ZR.kp ((ZR.kp ((ZR.kp ((ZR.kp ((ZR.kp ((ZR.kp ((ZR.kp ((ZR.kp ((ZR.kp ((ZR.kp ((ZR.kp ((ZR.kp ((ZR.kp ((ZR.kp ((ZR.kp ((ZR.kp ((ZR.kp ((ZR.kp (p_47) (Ex.kp s_56) (by decide))) (Ex.kp s_66) (by decide))) (Ex.kp s_76) (by decide))) (Ex.kp s_86) (by decide))) (Ex.kp s_96) (by decide))) (Ex.kp s_106) (by decide))) (Ex.kp s_116) (by decide))) kp_120 (by decide))) kp_123 (by decide))) kp_129 (by decide))) kp_133 (by decide))) kp_136 (by decide))) kp_139 (by decide))) hK143 (by decide))) kp_147 (by decide))) hK150 (by decide))) kp_153 (by decide))) kp_156 (by decide))) kp_160 (by decide))) hK168 (by decide))
  have p_182 := (ZR.kp ((ZR.kp ((ZR.kp ((ZR.kp ((ZR.kp ((ZR.kp ((ZR.kp ((ZR.kp ((ZR.kp ((ZR.kp ((ZR.kp ((ZR.kp ((ZR.kp ((ZR.kp ((ZR.kp ((ZR.kp ((ZR.kp ((ZR.kp ((ZR.kp (p_57) (Ex.kp s_66) (by decide))) (Ex.kp s_76) (by decide))) (Ex.kp s_86) (by decide))) (Ex.kp s_96) (by decide))) (Ex.kp s_106) (by decide))) (Ex.kp s_116) (by decide))) kp_120 (by decide))) kp_123 (by decide))) kp_129 (by decide))) kp_133 (by decide))) kp_136 (by decide))) kp_139 (by decide))) hK143 (by decide))) kp_147 (by decide))) hK150 (by decide))) kp_153 (by decide))) kp_156 (by decide))) kp_160 (by decide))) hK168 (by decide))
  have p_183 := (ZR.kp ((ZR.kp ((ZR.kp ((ZR.kp ((ZR.kp ((ZR.kp ((ZR.kp ((ZR.kp ((ZR.kp ((ZR.kp ((ZR.kp ((ZR.kp ((ZR.kp ((ZR.kp ((ZR.kp ((ZR.kp ((ZR.kp ((ZR.kp (p_67) (Ex.kp s_76) (by decide))) (Ex.kp s_86) (by decide))) (Ex.kp s_96) (by decide))) (Ex.kp s_106) (by decide))) (Ex.kp s_116) (by decide))) kp_120 (by decide))) kp_123 (by decide))) kp_129 (by decide))) kp_133 (by decide))) kp_136 (by decide))) kp_139 (by decide))) hK143 (by decide))) kp_147 (by decide))) hK150 (by decide))) kp_153 (by decide))) kp_156 (by decide))) kp_160 (by decide))) hK168 (by decide))
  have p_184 := (ZR.kp ((ZR.kp ((ZR.kp ((ZR.kp ((ZR.kp ((ZR.kp ((ZR.kp ((ZR.kp ((ZR.kp ((ZR.kp ((ZR.kp ((ZR.kp ((ZR.kp ((ZR.kp ((ZR.kp ((ZR.kp ((ZR.kp (p_77) (Ex.kp s_86) (by decide))) (Ex.kp s_96) (by decide))) (Ex.kp s_106) (by decide))) (Ex.kp s_116) (by decide))) kp_120 (by decide))) kp_123 (by decide))) kp_129 (by decide))) kp_133 (by decide))) kp_136 (by decide))) kp_139 (by decide))) hK143 (by decide))) kp_147 (by decide))) hK150 (by decide))) kp_153 (by decide))) kp_156 (by decide))) kp_160 (by decide))) hK168 (by decide))
  have p_185 := (ZR.kp ((ZR.kp ((ZR.kp ((ZR.kp ((ZR.kp ((ZR.kp ((ZR.kp ((ZR.kp ((ZR.kp ((ZR.kp ((ZR.kp ((ZR.kp ((ZR.kp ((ZR.kp ((ZR.kp ((ZR.kp (p_87) (Ex.kp s_96) (by decide))) (Ex.kp s_106) (by decide))) (Ex.kp s_116) (by decide))) kp_120 (by decide))) kp_123 (by decide))) kp_129 (by decide))) kp_133 (by decide))) kp_136 (by decide))) kp_139 (by decide))) hK143 (by decide))) kp_147 (by decide))) hK150 (by decide))) kp_153 (by decide))) kp_156 (by decide))) kp_160 (by decide))) hK168 (by decide))
  have p_186 := (ZR.kp ((ZR.kp ((ZR.kp ((ZR.kp ((ZR.kp ((ZR.kp ((ZR.kp ((ZR.kp ((ZR.kp ((ZR.kp ((ZR.kp ((ZR.kp ((ZR.kp ((ZR.kp ((ZR.kp (p_97) (Ex.kp s_106) (by decide))) (Ex.kp s_116) (by decide))) kp_120 (by decide))) kp_123 (by decide))) kp_129 (by decide))) kp_133 (by decide))) kp_136 (by decide))) kp_139 (by decide))) hK143 (by decide))) kp_147 (by decide))) hK150 (by decide))) kp_153 (by decide))) kp_156 (by decide))) kp_160 (by decide))) hK168 (by decide))
  have p_187 := (ZR.kp ((ZR.kp ((ZR.kp ((ZR.kp ((ZR.kp ((ZR.kp ((ZR.kp ((ZR.kp ((ZR.kp ((ZR.kp ((ZR.kp ((ZR.kp ((ZR.kp ((ZR.kp (p_107) (Ex.kp s_116) (by decide))) kp_120 (by decide))) kp_123 (by decide))) kp_129 (by decide))) kp_133 (by decide))) kp_136 (by decide))) kp_139 (by decide))) hK143 (by decide))) kp_147 (by decide))) hK150 (by decide))) kp_153 (by decide))) kp_156 (by decide))) kp_160 (by decide))) hK168 (by decide))
  have p_188 := (LR.kp ((LR.kp ((LR.kp ((LR.kp ((LR.kp ((LR.kp ((LR.kp ((LR.kp ((LR.kp ((LR.kp (p_131) kp_133 (by decide))) kp_136 (by decide))) kp_139 (by decide))) hK143 (by decide))) kp_147 (by decide))) hK150 (by decide))) kp_153 (by decide))) kp_156 (by decide))) kp_160 (by decide))) hK168 (by decide))
  have p_189 := (LR.kp ((LR.kp (lr_156) kp_160 (by decide))) hK168 (by decide))
  exact T_ret d_Mo_begin_341 rfl (by first | decide | rfl) (by decide) (by decide) ⟨rfl, p_177, nb_, p_178, p_179, p_172, p_180, p_181, p_182, p_183, p_184, p_185, p_186, p_187, p_188, p_189, p_174, p_175, (Kp.tr (Kp.tr (Kp.tr (Kp.tr (Kp.tr (Kp.tr (Kp.tr (Kp.tr (Kp.tr (Kp.tr (Kp.tr (Kp.tr (Kp.tr (Kp.ex (Kp.ex (Kp.ex (Kp.ex (Kp.ex (Kp.ex (Kp.ex (Kp.ex (Kp.tr (Kp.ex (Kp.ex (Kp.ex (Kp.ex (Kp.rf : Kp [373, 374, 380, 381, 382, 383, 389, 390, 391, 392, 393, 394, 395, 397, 398, 419, 420, 421, 422, 423, 424, 425, 426, 427, 428, 429, 430, 431, 432, 433] M M) s_7 (by decide)) s_12 (by decide)) s_22 (by decide)) s_32 (by decide)) (Kp.mono hK36 (by decide))) s_46 (by decide)) s_56 (by decide)) s_66 (by decide)) s_76 (by decide)) s_86 (by decide)) s_96 (by decide)) s_106 (by decide)) s_116 (by decide)) (Kp.mono kp_120 (by decide +kernel))) (Kp.mono kp_123 (by decide))) (Kp.mono kp_129 (by decide +kernel))) (Kp.mono kp_133 (by decide))) (Kp.mono kp_136 (by decide))) (Kp.mono kp_139 (by decide))) (Kp.mono hK143 (by decide))) (Kp.mono kp_147 (by decide))) (Kp.mono hK150 (by decide))) (Kp.mono kp_153 (by decide +kernel))) (Kp.mono kp_156 (by decide))) (Kp.mono kp_160 (by decide))) (Kp.mono hK168 (by decide)))⟩
set_option maxHeartbeats 8000000 in
theorem er_1 (G : GX) {M0 : List va_E} {w : Nat → Int32} {l R0 T sa sb : List UInt8} {u n : Nat} (hb : BG M0 w l) (hsa : IA M0 413 32 sa) (lsa : 32 ≤ sa.length) (hsb : IA M0 412 32 sb) (lsb : 32 ≤ sb.length) (tsa : ∀ i, i < 32 → gd sa i = gd T (0 + i)) (tsb : ∀ i, i < 32 → gd sb i = gd T (96 + i)) (hu : 192 * u + 192 ≤ 1536)  {Q : Option Value → List va_E → Prop} (kk : ∀ M, RP M 406 1536 R0 (192 * u) 192 T (fun i => (0 ≤ i ∧ i < 32) ∨ (96 ≤ i ∧ i < 96 + (32))) ∧ Kp [406] M0 M → TT G mi_Mo_enroll 181 [(2, .int (nI n)), (1, .int (nI u)), (0, .ref 373)] [] M 0 0 Q) : ∀ j k M, k + j = 32 → RP M 406 1536 R0 (192 * u) 192 T (fun i => (0 ≤ i ∧ i < k) ∨ (96 ≤ i ∧ i < 96 + (k))) ∧ Kp [406] M0 M → TT G mi_Mo_enroll 130 [(3, .int (nI k)), (2, .int (nI n)), (1, .int (nI u)), (0, .ref 373)] [] M 0 0 Q := by
  intro j
  induction j with
  | zero =>
    intro k M hk hI
    obtain rfl : 32 = k := by omega
    refine T_iload_n d_Mo_enroll_130 rfl ?_
    refine T_bipush (v := nI 32) d_Mo_enroll_131 (by decide) ?_
    refine N_icmp_ge_t (a := 32) (b := 32) d_Mo_enroll_133 (tgt := 181) rfl (by omega) (by omega) (by omega) ?_
    exact T_sub (fun q hq => List.mem_cons_of_mem _ hq) (kk M hI)
  | succ j ih =>
    intro k M hk hI
    obtain ⟨hda, hK⟩ := hI
    obtain ⟨L, ⟨f, f1, f2, f3⟩, eL, out, sg, hc1, hc2⟩ := id hda
    have hlsa := hsa.le
    have hlsb := hsb.le
    refine T_iload_n d_Mo_enroll_130 rfl ?_
    refine T_bipush (v := nI 32) d_Mo_enroll_131 (by decide) ?_
    refine N_icmp_ge_f (a := 32) (b := k) d_Mo_enroll_133 (tgt := 181) rfl (by omega) (by omega) (by omega) ?_
    refine T_aload_n (v := .ref 373) d_Mo_enroll_136 rfl (Or.inr ⟨_, rfl⟩) ?_
    have p_1 := (BG.kp (hb) hK (by decide) (by decide))
    obtain ⟨v_2, hov_2, hwv_2, hsv_2, hiv_2⟩ := id p_1
    refine T_getfield (v := .ref 406) d_Mo_enroll_137 fg_Mo_332 hov_2 rfl ?_
    refine T_sipush (v := nI 192) d_Mo_enroll_140 (by decide) ?_
    refine T_iload_n d_Mo_enroll_143 rfl ?_
    refine N_imul (a := u) (b := 192) (c := (192 * u)) d_Mo_enroll_144 rfl ?_
    refine T_iload_n d_Mo_enroll_145 rfl ?_
    refine N_iadd (a := k) (b := (192 * u)) (c := ((192 * u) + k)) d_Mo_enroll_146 rfl ?_
    refine T_aload_n (v := .ref 373) d_Mo_enroll_147 rfl (Or.inr ⟨_, rfl⟩) ?_
    refine T_getfield (v := .ref 413) d_Mo_enroll_148 fg_Mo_359 hov_2 rfl ?_
    refine T_iload_n d_Mo_enroll_151 rfl ?_
    have p_3 := (IA.kp (hsa) hK (by decide))
    obtain ⟨f_4, hf_5, hl_6, hv_7⟩ := id p_3
    refine N_iaload (k := k) (x := (bR (gd sa k))) d_Mo_enroll_152 hf_5 (by omega) (by decide) (hv_7 k (by first | omega | (simp only [List.length_append, List.length_cons, List.length_nil, List.length_replicate, sl_len, be_len, sha_len, hmac_len, ex1_len, ex2_len, stretch_len, zer8_len, tC_len, tag1_len, bnN_len, xkp_len]; omega))) ?_
    refine N_iastore (k := ((192 * u) + k)) d_Mo_enroll_153 (by decide) f1 (by omega) (by decide) rfl (fun M_8 h_9 s_10 => ?_)
    refine T_aload_n (v := .ref 373) d_Mo_enroll_154 rfl (Or.inr ⟨_, rfl⟩) ?_
    have p_11 := (BG.kp (p_1) (Ex.kp s_10) (by decide) (by decide))
    obtain ⟨v_12, hov_12, hwv_12, hsv_12, hiv_12⟩ := id p_11
    refine T_getfield (v := .ref 406) d_Mo_enroll_155 fg_Mo_332 hov_12 rfl ?_
    refine T_sipush (v := nI 192) d_Mo_enroll_158 (by decide) ?_
    refine T_iload_n d_Mo_enroll_161 rfl ?_
    refine N_imul (a := u) (b := 192) (c := (192 * u)) d_Mo_enroll_162 rfl ?_
    refine T_bipush (v := nI 96) d_Mo_enroll_163 (by decide) ?_
    refine N_iadd (a := 96) (b := (192 * u)) (c := ((192 * u) + 96)) d_Mo_enroll_165 rfl ?_
    refine T_iload_n d_Mo_enroll_166 rfl ?_
    refine N_iadd (a := k) (b := ((192 * u) + 96)) (c := (((192 * u) + 96) + k)) d_Mo_enroll_167 rfl ?_
    refine T_aload_n (v := .ref 373) d_Mo_enroll_168 rfl (Or.inr ⟨_, rfl⟩) ?_
    refine T_getfield (v := .ref 412) d_Mo_enroll_169 fg_Mo_356 hov_12 rfl ?_
    refine T_iload_n d_Mo_enroll_172 rfl ?_
    have p_13 := (IA.kp ((IA.kp (hsb) hK (by decide))) (Ex.kp s_10) (by decide))
    obtain ⟨f_14, hf_15, hl_16, hv_17⟩ := id p_13
    refine N_iaload (k := k) (x := (bR (gd sb k))) d_Mo_enroll_173 hf_15 (by omega) (by decide) (hv_17 k (by first | omega | (simp only [List.length_append, List.length_cons, List.length_nil, List.length_replicate, sl_len, be_len, sha_len, hmac_len, ex1_len, ex2_len, stretch_len, zer8_len, tC_len, tag1_len, bnN_len, xkp_len]; omega))) ?_
    refine N_iastore (k := (((192 * u) + 96) + k)) d_Mo_enroll_174 (by decide) h_9 (by omega) (by decide) rfl (fun M_18 h_19 s_20 => ?_)
    refine N_iinc (k := k) (m := 1) (c := (k + 1)) (L' := [(3, .int (nI ((k + 1)))), (2, .int (nI n)), (1, .int (nI u)), (0, .ref 373)]) d_Mo_enroll_175 (by decide) rfl (by decide) rfl rfl ?_
    refine T_goto (tgt := 130) d_Mo_enroll_178 rfl ?_
    exact ih (k + 1) M_18 (by omega) ⟨(RP.push (i := 96 + k) (D' := fun i => (0 ≤ i ∧ i < k + 1) ∨ (96 ≤ i ∧ i < 96 + (k + 1))) (RP.push (i := 0 + k) (D' := fun i => (0 ≤ i ∧ i < k + 1) ∨ (96 ≤ i ∧ i < 96 + (k))) hda f1 h_9 (by omega) (by omega) (tsa k (by omega)) (fun j hj d => by show ((0 ≤ j ∧ j < k) ∨ (96 ≤ j ∧ j < 96 + (k))) ∨ j = 0 + k; have d2 : (0 ≤ j ∧ j < k + 1) ∨ (96 ≤ j ∧ j < 96 + (k)) := d; omega)) h_9 h_19 (by omega) (by omega) (tsb k (by omega)) (fun j hj d => by show ((0 ≤ j ∧ j < k + 1) ∨ (96 ≤ j ∧ j < 96 + (k))) ∨ j = 96 + k; have d2 : (0 ≤ j ∧ j < k + 1) ∨ (96 ≤ j ∧ j < 96 + (k + 1)) := d; omega)), (Kp.ex (Kp.ex (Kp.tr (Kp.rf : Kp [406] M0 M0) (Kp.mono hK (by decide))) s_10 (by decide)) s_20 (by decide))⟩
set_option maxHeartbeats 8000000 in
theorem er_2 (G : GX) {M0 : List va_E} {w : Nat → Int32} {l R0 T sa sb : List UInt8} {u n : Nat} (hb : BG M0 w l) (hsa : IA M0 417 64 sa) (lsa : 64 ≤ sa.length) (hsb : IA M0 415 64 sb) (lsb : 64 ≤ sb.length) (tsa : ∀ i, i < 64 → gd sa i = gd T (32 + i)) (tsb : ∀ i, i < 64 → gd sb i = gd T (128 + i)) (hu : 192 * u + 192 ≤ 1536)  {Q : Option Value → List va_E → Prop} (kk : ∀ M, RP M 406 1536 R0 (192 * u) 192 T (fun i => ((0 ≤ i ∧ i < 32) ∨ (96 ≤ i ∧ i < 128)) ∨ ((32 ≤ i ∧ i < 32 + (64)) ∨ (128 ≤ i ∧ i < 128 + (64)))) ∧ Kp [406] M0 M → TT G mi_Mo_enroll 238 [(2, .int (nI n)), (1, .int (nI u)), (0, .ref 373)] [] M 0 0 Q) : ∀ j k M, k + j = 64 → RP M 406 1536 R0 (192 * u) 192 T (fun i => ((0 ≤ i ∧ i < 32) ∨ (96 ≤ i ∧ i < 128)) ∨ ((32 ≤ i ∧ i < 32 + (k)) ∨ (128 ≤ i ∧ i < 128 + (k)))) ∧ Kp [406] M0 M → TT G mi_Mo_enroll 183 [(3, .int (nI k)), (2, .int (nI n)), (1, .int (nI u)), (0, .ref 373)] [] M 0 0 Q := by
  intro j
  induction j with
  | zero =>
    intro k M hk hI
    obtain rfl : 64 = k := by omega
    refine T_iload_n d_Mo_enroll_183 rfl ?_
    refine T_bipush (v := nI 64) d_Mo_enroll_184 (by decide) ?_
    refine N_icmp_ge_t (a := 64) (b := 64) d_Mo_enroll_186 (tgt := 238) rfl (by omega) (by omega) (by omega) ?_
    exact T_sub (fun q hq => List.mem_cons_of_mem _ hq) (kk M hI)
  | succ j ih =>
    intro k M hk hI
    obtain ⟨hda, hK⟩ := hI
    obtain ⟨L, ⟨f, f1, f2, f3⟩, eL, out, sg, hc1, hc2⟩ := id hda
    have hlsa := hsa.le
    have hlsb := hsb.le
    refine T_iload_n d_Mo_enroll_183 rfl ?_
    refine T_bipush (v := nI 64) d_Mo_enroll_184 (by decide) ?_
    refine N_icmp_ge_f (a := 64) (b := k) d_Mo_enroll_186 (tgt := 238) rfl (by omega) (by omega) (by omega) ?_
    refine T_aload_n (v := .ref 373) d_Mo_enroll_189 rfl (Or.inr ⟨_, rfl⟩) ?_
    have p_1 := (BG.kp (hb) hK (by decide) (by decide))
    obtain ⟨v_2, hov_2, hwv_2, hsv_2, hiv_2⟩ := id p_1
    refine T_getfield (v := .ref 406) d_Mo_enroll_190 fg_Mo_332 hov_2 rfl ?_
    refine T_sipush (v := nI 192) d_Mo_enroll_193 (by decide) ?_
    refine T_iload_n d_Mo_enroll_196 rfl ?_
    refine N_imul (a := u) (b := 192) (c := (192 * u)) d_Mo_enroll_197 rfl ?_
    refine T_bipush (v := nI 32) d_Mo_enroll_198 (by decide) ?_
    refine N_iadd (a := 32) (b := (192 * u)) (c := ((192 * u) + 32)) d_Mo_enroll_200 rfl ?_
    refine T_iload_n d_Mo_enroll_201 rfl ?_
    refine N_iadd (a := k) (b := ((192 * u) + 32)) (c := (((192 * u) + 32) + k)) d_Mo_enroll_202 rfl ?_
    refine T_aload_n (v := .ref 373) d_Mo_enroll_203 rfl (Or.inr ⟨_, rfl⟩) ?_
    refine T_getfield (v := .ref 417) d_Mo_enroll_204 fg_Mo_371 hov_2 rfl ?_
    refine T_iload_n d_Mo_enroll_207 rfl ?_
    have p_3 := (IA.kp (hsa) hK (by decide))
    obtain ⟨f_4, hf_5, hl_6, hv_7⟩ := id p_3
    refine N_iaload (k := k) (x := (bR (gd sa k))) d_Mo_enroll_208 hf_5 (by omega) (by decide) (hv_7 k (by first | omega | (simp only [List.length_append, List.length_cons, List.length_nil, List.length_replicate, sl_len, be_len, sha_len, hmac_len, ex1_len, ex2_len, stretch_len, zer8_len, tC_len, tag1_len, bnN_len, xkp_len]; omega))) ?_
    refine N_iastore (k := (((192 * u) + 32) + k)) d_Mo_enroll_209 (by decide) f1 (by omega) (by decide) rfl (fun M_8 h_9 s_10 => ?_)
    refine T_aload_n (v := .ref 373) d_Mo_enroll_210 rfl (Or.inr ⟨_, rfl⟩) ?_
    have p_11 := (BG.kp (p_1) (Ex.kp s_10) (by decide) (by decide))
    obtain ⟨v_12, hov_12, hwv_12, hsv_12, hiv_12⟩ := id p_11
    refine T_getfield (v := .ref 406) d_Mo_enroll_211 fg_Mo_332 hov_12 rfl ?_
    refine T_sipush (v := nI 192) d_Mo_enroll_214 (by decide) ?_
    refine T_iload_n d_Mo_enroll_217 rfl ?_
    refine N_imul (a := u) (b := 192) (c := (192 * u)) d_Mo_enroll_218 rfl ?_
    refine T_sipush (v := nI 128) d_Mo_enroll_219 (by decide) ?_
    refine N_iadd (a := 128) (b := (192 * u)) (c := ((192 * u) + 128)) d_Mo_enroll_222 rfl ?_
    refine T_iload_n d_Mo_enroll_223 rfl ?_
    refine N_iadd (a := k) (b := ((192 * u) + 128)) (c := (((192 * u) + 128) + k)) d_Mo_enroll_224 rfl ?_
    refine T_aload_n (v := .ref 373) d_Mo_enroll_225 rfl (Or.inr ⟨_, rfl⟩) ?_
    refine T_getfield (v := .ref 415) d_Mo_enroll_226 fg_Mo_365 hov_12 rfl ?_
    refine T_iload_n d_Mo_enroll_229 rfl ?_
    have p_13 := (IA.kp ((IA.kp (hsb) hK (by decide))) (Ex.kp s_10) (by decide))
    obtain ⟨f_14, hf_15, hl_16, hv_17⟩ := id p_13
    refine N_iaload (k := k) (x := (bR (gd sb k))) d_Mo_enroll_230 hf_15 (by omega) (by decide) (hv_17 k (by first | omega | (simp only [List.length_append, List.length_cons, List.length_nil, List.length_replicate, sl_len, be_len, sha_len, hmac_len, ex1_len, ex2_len, stretch_len, zer8_len, tC_len, tag1_len, bnN_len, xkp_len]; omega))) ?_
    refine N_iastore (k := (((192 * u) + 128) + k)) d_Mo_enroll_231 (by decide) h_9 (by omega) (by decide) rfl (fun M_18 h_19 s_20 => ?_)
    refine N_iinc (k := k) (m := 1) (c := (k + 1)) (L' := [(3, .int (nI ((k + 1)))), (2, .int (nI n)), (1, .int (nI u)), (0, .ref 373)]) d_Mo_enroll_232 (by decide) rfl (by decide) rfl rfl ?_
    refine T_goto (tgt := 183) d_Mo_enroll_235 rfl ?_
    exact ih (k + 1) M_18 (by omega) ⟨(RP.push (i := 128 + k) (D' := fun i => ((0 ≤ i ∧ i < 32) ∨ (96 ≤ i ∧ i < 128)) ∨ ((32 ≤ i ∧ i < 32 + (k + 1)) ∨ (128 ≤ i ∧ i < 128 + (k + 1)))) (RP.push (i := 32 + k) (D' := fun i => ((0 ≤ i ∧ i < 32) ∨ (96 ≤ i ∧ i < 128)) ∨ ((32 ≤ i ∧ i < 32 + (k + 1)) ∨ (128 ≤ i ∧ i < 128 + (k)))) hda f1 h_9 (by omega) (by omega) (tsa k (by omega)) (fun j hj d => by show (((0 ≤ j ∧ j < 32) ∨ (96 ≤ j ∧ j < 128)) ∨ ((32 ≤ j ∧ j < 32 + (k)) ∨ (128 ≤ j ∧ j < 128 + (k)))) ∨ j = 32 + k; have d2 : ((0 ≤ j ∧ j < 32) ∨ (96 ≤ j ∧ j < 128)) ∨ ((32 ≤ j ∧ j < 32 + (k + 1)) ∨ (128 ≤ j ∧ j < 128 + (k))) := d; omega)) h_9 h_19 (by omega) (by omega) (tsb k (by omega)) (fun j hj d => by show (((0 ≤ j ∧ j < 32) ∨ (96 ≤ j ∧ j < 128)) ∨ ((32 ≤ j ∧ j < 32 + (k + 1)) ∨ (128 ≤ j ∧ j < 128 + (k)))) ∨ j = 128 + k; have d2 : ((0 ≤ j ∧ j < 32) ∨ (96 ≤ j ∧ j < 128)) ∨ ((32 ≤ j ∧ j < 32 + (k + 1)) ∨ (128 ≤ j ∧ j < 128 + (k + 1))) := d; omega)), (Kp.ex (Kp.ex (Kp.tr (Kp.rf : Kp [406] M0 M0) (Kp.mono hK (by decide))) s_10 (by decide)) s_20 (by decide))⟩
set_option maxHeartbeats 8000000 in
theorem en_n (G : GX) {M0 : List va_E} {w : Nat → Int32} {l s : List UInt8} {u n : Nat} (hb : BG M0 w l) (hs : IA M0 383 64 s) (hsn : 64 < 2 ^ 31) (ha : 0 + 32 ≤ s.length) (hd : 0 + 32 ≤ 32)  {Q : Option Value → List va_E → Prop} (kk : ∀ M, IA M 412 32 (sl s 0 32) ∧ Kp [412] M0 M → TT G mi_Mo_enroll 115 [(2, .int (nI n)), (1, .int (nI u)), (0, .ref 373)] [] M 0 0 Q) : ∀ j k M, k + j = 32 → IA M 412 32 (sl s 0 k) ∧ Kp [412] M0 M → TT G mi_Mo_enroll 91 [(3, .int (nI k)), (2, .int (nI n)), (1, .int (nI u)), (0, .ref 373)] [] M 0 0 Q := by
  intro j
  induction j with
  | zero =>
    intro k M hk hI
    obtain rfl : 32 = k := by omega
    obtain ⟨hda, hK⟩ := id hI
    refine T_iload_n d_Mo_enroll_91 rfl ?_
    refine T_bipush (v := nI 32) d_Mo_enroll_92 (by decide) ?_
    refine N_icmp_ge_t (a := 32) (b := 32) d_Mo_enroll_94 (tgt := 115) rfl (by omega) (by omega) (by omega) ?_
    exact T_sub (fun q hq => List.mem_cons_of_mem _ hq) (kk M hI)
  | succ j ih =>
    intro k M hk hI
    obtain ⟨hda, hK⟩ := hI
    have hsl := IA.le hs
    refine T_iload_n d_Mo_enroll_91 rfl ?_
    refine T_bipush (v := nI 32) d_Mo_enroll_92 (by decide) ?_
    refine N_icmp_ge_f (a := 32) (b := k) d_Mo_enroll_94 (tgt := 115) rfl (by omega) (by omega) (by omega) ?_
    refine T_aload_n (v := .ref 373) d_Mo_enroll_97 rfl (Or.inr ⟨_, rfl⟩) ?_
    have p_1 := (BG.kp (hb) hK (by decide) (by decide))
    obtain ⟨v_2, hov_2, hwv_2, hsv_2, hiv_2⟩ := id p_1
    refine T_getfield (v := .ref 412) d_Mo_enroll_98 fg_Mo_356 hov_2 rfl ?_
    refine T_iload_n d_Mo_enroll_101 rfl ?_
    refine T_aload_n (v := .ref 373) d_Mo_enroll_102 rfl (Or.inr ⟨_, rfl⟩) ?_
    refine T_getfield (v := .ref 383) d_Mo_enroll_103 fg_Mo_55 hov_2 rfl ?_
    refine T_iload_n d_Mo_enroll_106 rfl ?_
    have p_3 := (IA.kp (hs) hK (by decide))
    obtain ⟨f_4, hf_5, hl_6, hv_7⟩ := id p_3
    refine N_iaload (k := k) (x := (bR (gd s k))) d_Mo_enroll_107 hf_5 (by omega) (by decide) (hv_7 k (by first | omega | (simp only [List.length_append, List.length_cons, List.length_nil, List.length_replicate, sl_len, be_len, sha_len, hmac_len, ex1_len, ex2_len, stretch_len, zer8_len, tC_len, tag1_len, bnN_len, xkp_len]; omega))) ?_
    obtain ⟨f_8, hf_9, hl_10, hv_11⟩ := id hda
    refine N_iastore (k := k) d_Mo_enroll_108 (by decide) hf_9 (by omega) (by decide) rfl (fun M_12 h_13 s_14 => ?_)
    refine N_iinc (k := k) (m := 1) (c := (k + 1)) (L' := [(3, .int (nI ((k + 1)))), (2, .int (nI n)), (1, .int (nI u)), (0, .ref 373)]) d_Mo_enroll_109 (by decide) rfl (by decide) rfl rfl ?_
    refine T_goto (tgt := 91) d_Mo_enroll_112 rfl ?_
    exact ih (k + 1) M_12 (by omega) ⟨ia_c0 h_13 (gd_c (by omega)) (by omega) (by omega) hv_11, (Kp.ex (Kp.tr (Kp.rf : Kp [412] M0 M0) (Kp.mono hK (by decide))) s_14 (by decide))⟩
abbrev enW : List Nat := [373, 374, 380, 381, 382, 383, 384, 385, 387, 388, 389, 390, 391, 392, 393, 394, 395, 397, 398, 401, 405, 406, 408, 411, 412, 413, 414, 415, 416, 417, 418]
theorem recN_0 (sd : Int32) (R n : List UInt8) (i : Nat) (hi : i < 32) : gd (pub (cKey R n)) i = gd (recN sd R n) (0 + i) := by
  unfold recN; rw [Nat.zero_add, gd_l (by simp only [List.length_append, pub_len', ex1_len]; omega), gd_l (by simp only [List.length_append, pub_len', ex1_len]; omega), gd_l (by rw [pub_len']; omega)]
theorem recN_32 (sd : Int32) (R n : List UInt8) (i : Nat) (hi : i < 64) : gd (ex1 R W10) i = gd (recN sd R n) (32 + i) := by
  unfold recN; rw [gd_l (by simp only [List.length_append, pub_len', ex1_len]; omega), gd_l (by simp only [List.length_append, pub_len', ex1_len]; omega), gd_r (by rw [pub_len']; omega), pub_len', Nat.add_sub_cancel_left]
theorem recN_96 (sd : Int32) (R n : List UInt8) (hn : n.length = 32) (i : Nat) (hi : i < 32) : gd n i = gd (recN sd R n) (96 + i) := by
  unfold recN; rw [gd_l (by simp only [List.length_append, pub_len', ex1_len, hn]; omega), gd_r (by simp only [List.length_append, pub_len', ex1_len]; omega)]
  simp only [List.length_append, pub_len', ex1_len]; exact gd_c (by omega)
theorem recN_128 (sd : Int32) (R n : List UInt8) (hn : n.length = 32) (i : Nat) (hi : i < 64) : gd (seal8 R n (pub (ownK sd))) i = gd (recN sd R n) (128 + i) := by
  unfold recN; rw [gd_r (by simp only [List.length_append, pub_len', ex1_len, hn]; omega)]
  simp only [List.length_append, pub_len', ex1_len, hn]; exact gd_c (by omega)
set_option maxRecDepth 100000 in
set_option maxHeartbeats 8000000 in
theorem p_Mo_enroll {G : GX} {M : List va_E} {sd : Int32} {ch n m th : Nat} {tx : List UInt8} {u : Nat} {en : Nat → Bool} {rc : Nat → List UInt8} (hu : u < 8) (hms : MS M) (hnb : NB M sd ch n m th) (htx : IA M 409 200 tx) (ltx : tx.length = n) (hse : IA M 402 64 (chance sd (nI 0))) (hsp : IA M 404 32 (pub (ownK sd))) (hen : ZR M 405 8 en) (hrc : SL M 406 1536 192 8 rc) : CT G mi_Mo_enroll [.ref 373, .int (nI u)] M (fun r M' => r = some (.int (nI 0)) ∧ MS M' ∧ NB M' sd (ch + 1) 0 m 0 ∧ ZR M' 405 8 (updB en u true) ∧ SL M' 406 1536 192 8 (updT rc u (recN sd (sec8 tx (emul fD (grp tx) (usK sd u))) (sl (chance sd (nI ch)) 0 32))) ∧ Kp enW M M') := by
  obtain ⟨w, h, h66, h71, h72, h73, h74⟩ := hnb
  have lt2 := htx.le
  refine CT.of (by decide) (Nat.le_of_ble_eq_true rfl) ?_
  show TT G mi_Mo_enroll 0 [(0, .ref 373), (1, .int (nI u))] [] M 0 0 _
  obtain ⟨R1, ro1, px1⟩ := SL.ro hrc hu (by decide)
  refine T_aload_n (v := .ref 373) d_Mo_enroll_0 rfl (Or.inr ⟨_, rfl⟩) ?_
  refine T_iconst (v := nI 0) d_Mo_enroll_1 (by decide) ?_
  obtain ⟨v_2, hov_2, hwv_2, hsv_2, hiv_2⟩ := id h
  refine N_put (e := (moO (upd v_2 66 (nI 0)))) d_Mo_enroll_2 (fp_Mo_316 _) hov_2 (Nat.le_of_ble_eq_true rfl) ⟨rfl, rfl⟩ rfl (fun M_3 h_4 s_5 => ?_)
  have p_6 := BG.st (j := 66) (by decide) hwv_2 hsv_2 hiv_2 h_4 (Ex.kp s_5)
  refine T_aload_n (v := .ref 373) d_Mo_enroll_5 rfl (Or.inr ⟨_, rfl⟩) ?_
  obtain ⟨v_7, hov_7, hwv_7, hsv_7, hiv_7⟩ := id p_6
  refine N_getI (x := (v_7 73)) (y := (nI n)) d_Mo_enroll_6 fg_Mo_344 hov_7 rfl ((hwv_7 73 (by decide)).trans (show (upd w 66 (nI 0)) 73 = (nI n) from h73)) ?_
  refine T_istore_n (L' := [(2, .int (nI n)), (0, .ref 373), (1, .int (nI u))]) d_Mo_enroll_9 (by decide) rfl ?_
  refine T_aload_n (v := .ref 373) d_Mo_enroll_10 rfl (Or.inr ⟨_, rfl⟩) ?_
  refine T_iconst (v := nI 0) d_Mo_enroll_11 (by decide) ?_
  refine N_put (e := (moO (upd v_7 73 (nI 0)))) d_Mo_enroll_12 (fp_Mo_344 _) hov_7 (Nat.le_of_ble_eq_true rfl) ⟨rfl, rfl⟩ rfl (fun M_8 h_9 s_10 => ?_)
  have p_11 := BG.st (j := 73) (by decide) hwv_7 hsv_7 hiv_7 h_9 (Ex.kp s_10)
  refine T_iload_n d_Mo_enroll_15 rfl ?_
  refine N_if_lt_f (b := u) d_Mo_enroll_16 (tgt := 25) rfl (by omega) (by omega) ?_
  refine T_iload_n d_Mo_enroll_19 rfl ?_
  refine T_bipush (v := nI 7) d_Mo_enroll_20 (by decide) ?_
  refine N_icmp_le_t (a := 7) (b := u) d_Mo_enroll_22 (tgt := 27) rfl (by omega) (by omega) (by omega) ?_
  refine T_aload_n (v := .ref 373) d_Mo_enroll_27 rfl (Or.inr ⟨_, rfl⟩) ?_
  refine T_iload_n d_Mo_enroll_28 rfl ?_
  have p_12 := (MS.kp ((MS.kp (hms) (Ex.kp s_5) (by decide))) (Ex.kp s_10) (by decide))
  have p_13 := (IA.kp ((IA.kp (hse) (Ex.kp s_5) (by decide))) (Ex.kp s_10) (by decide))
  obtain ⟨v_15, hov_15, hwv_15, hsv_15, hiv_15⟩ := id p_11
  refine T_virtual (as := [.int (nI u)]) (rest := []) (b := 373) d_Mo_enroll_29 rfl (jw_Mo_userKey.jo (by decide)) lm_Mo_530 ji_Mo_userKey js_Mo_userKey hov_15 rfl rfl rfl (Nat.le_of_ble_eq_true rfl) (by decide) (by decide) (b_Mo_userKey (u := u) p_12 p_11 p_13) (fun r M_14 hq => ?_)
  obtain ⟨rfl, p_14_0, p_14_1, p_14_2, kp_14⟩ := hq
  refine T_eq (pc' := 32) (L' := [(2, .int (nI n)), (0, .ref 373), (1, .int (nI u))]) (st' := []) (M' := M_14) rfl rfl rfl rfl ?_
  refine T_aload_n (v := .ref 373) d_Mo_enroll_32 rfl (Or.inr ⟨_, rfl⟩) ?_
  refine T_aload_n (v := .ref 373) d_Mo_enroll_33 rfl (Or.inr ⟨_, rfl⟩) ?_
  obtain ⟨v_16, hov_16, hwv_16, hsv_16, hiv_16⟩ := id p_14_1
  refine T_getfield (v := .ref 418) d_Mo_enroll_34 fg_Mo_374 hov_16 rfl ?_
  refine T_iconst (v := nI 0) d_Mo_enroll_37 (by decide) ?_
  refine T_virtual (as := [.ref 418, .int (nI 0)]) (rest := []) (b := 373) d_Mo_enroll_38 rfl (jw_Mo_putScalar.jo (by decide)) lm_Mo_489 ji_Mo_putScalar js_Mo_putScalar hov_16 rfl rfl rfl (Nat.le_of_ble_eq_true rfl) (by decide) (by decide) (b_Mo_put16 p_14_0 p_14_1 p_14_2 (by decide) (by decide) (by decide)) (fun r M_17 hq => ?_)
  obtain ⟨rfl, p_17_0, p_17_1, kp_17⟩ := hq
  refine T_eq (pc' := 41) (L' := [(2, .int (nI n)), (0, .ref 373), (1, .int (nI u))]) (st' := []) (M' := M_17) rfl rfl rfl rfl ?_
  refine T_aload_n (v := .ref 373) d_Mo_enroll_41 rfl (Or.inr ⟨_, rfl⟩) ?_
  refine T_bipush (v := nI 12) d_Mo_enroll_42 (by decide) ?_
  refine T_aload_n (v := .ref 373) d_Mo_enroll_44 rfl (Or.inr ⟨_, rfl⟩) ?_
  have p_18 := (BG.kp (p_14_1) kp_17 (by decide) (by decide))
  obtain ⟨v_19, hov_19, hwv_19, hsv_19, hiv_19⟩ := id p_18
  refine T_getfield (v := .ref 409) d_Mo_enroll_45 fg_Mo_341 hov_19 rfl ?_
  refine T_iload_n d_Mo_enroll_48 rfl ?_
  have p_20 := (IA.kp ((IA.kp ((IA.kp ((IA.kp (htx) (Ex.kp s_5) (by decide))) (Ex.kp s_10) (by decide))) kp_14 (by decide))) kp_17 (by decide))
  refine T_virtual (as := [.int (nI 12), .ref 409, .int (nI n)]) (rest := []) (b := 373) d_Mo_enroll_49 rfl (jw_Mo_groupPoint.jo (by decide)) lm_Mo_495 ji_Mo_groupPoint js_Mo_groupPoint hov_19 rfl rfl rfl (Nat.le_of_ble_eq_true rfl) (by decide) (by decide) (b_Mo_group (n := n) p_17_0 p_18 p_20 ltx (by decide) (by omega)) (fun r M_21 hq => ?_)
  obtain ⟨rfl, p_21_0, p_21_1, p_21_2, kp_21⟩ := hq
  refine T_eq (pc' := 52) (L' := [(2, .int (nI n)), (0, .ref 373), (1, .int (nI u))]) (st' := []) (M' := M_21) rfl rfl rfl rfl ?_
  refine T_aload_n (v := .ref 373) d_Mo_enroll_52 rfl (Or.inr ⟨_, rfl⟩) ?_
  refine T_aload_n (v := .ref 373) d_Mo_enroll_53 rfl (Or.inr ⟨_, rfl⟩) ?_
  obtain ⟨v_22, hov_22, hwv_22, hsv_22, hiv_22⟩ := id p_21_1
  refine T_getfield (v := .ref 418) d_Mo_enroll_54 fg_Mo_374 hov_22 rfl ?_
  refine T_iconst (v := nI 0) d_Mo_enroll_57 (by decide) ?_
  have p_23 := (SC.kp (p_17_1) kp_21 (by decide))
  refine T_virtual (as := [.ref 418, .int (nI 0)]) (rest := []) (b := 373) d_Mo_enroll_58 rfl (jw_Mo_takeScalar.jo (by decide)) lm_Mo_533 ji_Mo_takeScalar js_Mo_takeScalar hov_22 rfl rfl rfl (Nat.le_of_ble_eq_true rfl) (by decide) (by decide) (b_Mo_take (at0 := 0) p_21_0 p_21_1 p_23 (by decide) (by decide) (by decide)) (fun r M_24 hq => ?_)
  obtain ⟨rfl, p_24_0, p_24_1, kp_24⟩ := hq
  refine T_eq (pc' := 61) (L' := [(2, .int (nI n)), (0, .ref 373), (1, .int (nI u))]) (st' := []) (M' := M_24) rfl rfl rfl rfl ?_
  refine T_aload_n (v := .ref 373) d_Mo_enroll_61 rfl (Or.inr ⟨_, rfl⟩) ?_
  refine T_bipush (v := nI 12) d_Mo_enroll_62 (by decide) ?_
  refine T_bipush (v := nI 12) d_Mo_enroll_64 (by decide) ?_
  have p_25 := (BG.kp (p_21_1) kp_24 (by decide) (by decide))
  have p_26 := (PTa.kp (p_21_2) kp_24 (by decide))
  obtain ⟨v_28, hov_28, hwv_28, hsv_28, hiv_28⟩ := id p_25
  refine T_virtual (as := [.int (nI 12), .int (nI 12)]) (rest := []) (b := 373) d_Mo_enroll_66 rfl (jw_Mo_timesPoint.jo (by decide)) lm_Mo_290 ji_Mo_timesPoint js_Mo_timesPoint hov_28 rfl rfl rfl (Nat.le_of_ble_eq_true rfl) (by decide) (by decide) (b_Mo_times_12 p_24_0 p_25 p_26 p_24_1 (mapP_on _) (Nat.lt_trans (keyN_lt _ _) (by decide))) (fun r M_27 hq => ?_)
  obtain ⟨rfl, p_27_0, p_27_1, kp_27⟩ := hq
  refine T_eq (pc' := 69) (L' := [(2, .int (nI n)), (0, .ref 373), (1, .int (nI u))]) (st' := []) (M' := M_27) rfl rfl rfl rfl ?_
  refine T_aload_n (v := .ref 373) d_Mo_enroll_69 rfl (Or.inr ⟨_, rfl⟩) ?_
  refine T_bipush (v := nI 12) d_Mo_enroll_70 (by decide) ?_
  have p_29 := (BG.kp (p_25) kp_27 (by decide) (by decide))
  obtain ⟨v_31, hov_31, hwv_31, hsv_31, hiv_31⟩ := id p_29
  refine T_virtual (as := [.int (nI 12)]) (rest := []) (b := 373) d_Mo_enroll_72 rfl (jw_Mo_code.jo (by decide)) lm_Mo_293 ji_Mo_code js_Mo_code hov_31 rfl rfl rfl (Nat.le_of_ble_eq_true rfl) (by decide) (by decide) (b_Mo_code_12 p_27_0 p_29 p_27_1) (fun r M_30 hq => ?_)
  obtain ⟨rfl, p_30_0, p_30_1, p_30_2, kp_30⟩ := hq
  refine T_eq (pc' := 75) (L' := [(2, .int (nI n)), (0, .ref 373), (1, .int (nI u))]) (st' := []) (M' := M_30) rfl rfl rfl rfl ?_
  refine T_aload_n (v := .ref 373) d_Mo_enroll_75 rfl (Or.inr ⟨_, rfl⟩) ?_
  refine T_aload_n (v := .ref 373) d_Mo_enroll_76 rfl (Or.inr ⟨_, rfl⟩) ?_
  have p_32 := (BG.kp (p_29) kp_30 (by decide) (by decide))
  obtain ⟨v_33, hov_33, hwv_33, hsv_33, hiv_33⟩ := id p_32
  refine T_getfield (v := .ref 409) d_Mo_enroll_77 fg_Mo_341 hov_33 rfl ?_
  refine T_iconst (v := nI 0) d_Mo_enroll_80 (by decide) ?_
  refine T_iload_n d_Mo_enroll_81 rfl ?_
  have p_34 := (IA.kp ((IA.kp ((IA.kp ((IA.kp (p_20) kp_21 (by decide))) kp_24 (by decide))) kp_27 (by decide))) kp_30 (by decide))
  refine T_virtual (as := [.ref 409, .int (nI 0), .int (nI n)]) (rest := []) (b := 373) d_Mo_enroll_82 rfl (jw_Mo_second.jo (by decide)) lm_Mo_536 ji_Mo_second js_Mo_second hov_33 rfl rfl rfl (Nat.le_of_ble_eq_true rfl) (by decide) (by decide) (b_Mo_second (at0 := 0) (n := n) p_30_0 p_32 p_34 p_30_2 (by first | omega | (simp only [List.length_append, List.length_cons, List.length_nil, List.length_replicate, sl_len, be_len, sha_len, hmac_len, ex1_len, ex2_len, stretch_len, zer8_len, tC_len, tag1_len, bnN_len, xkp_len, enc_len, chance_len, lbF_len, str2_len, pub_len', sec8_len, mp_len, xSrv_len, xCli_len, xSess_len, seal8_len, sec8_len]; done) | (simp only [List.length_append, List.length_cons, List.length_nil, List.length_replicate, sl_len, be_len, sha_len, hmac_len, ex1_len, ex2_len, stretch_len, zer8_len, tC_len, tag1_len, bnN_len, xkp_len, enc_len, chance_len, lbF_len, str2_len, pub_len', sec8_len, mp_len, xSrv_len, xCli_len, xSess_len, seal8_len, sec8_len]; omega)) (by decide) (by omega) (by decide)) (fun r M_35 hq => ?_)
  obtain ⟨rfl, p_35_0, p_35_1, p_35_2, kp_35⟩ := hq
  refine T_eq (pc' := 85) (L' := [(2, .int (nI n)), (0, .ref 373), (1, .int (nI u))]) (st' := []) (M' := M_35) rfl rfl rfl rfl ?_
  have p_36 : IA M_35 411 64 (sec8 tx (emul fD (grp tx) (usK sd u))) := (by have g := p_35_2; rw [sl64 ltx] at g; exact g)
  refine T_aload_n (v := .ref 373) d_Mo_enroll_85 rfl (Or.inr ⟨_, rfl⟩) ?_
  obtain ⟨v_38, hov_38, hwv_38, hsv_38, hiv_38⟩ := id p_35_1
  refine T_virtual (as := []) (rest := []) (b := 373) d_Mo_enroll_86 rfl (jw_Mo_chance.jo (by decide)) lm_Mo_304 ji_Mo_chance js_Mo_chance hov_38 rfl rfl rfl (Nat.le_of_ble_eq_true rfl) (by decide) (by decide) (b_Mo_chance p_35_0 p_35_1 (show (upd (upd w 66 (nI 0)) 73 (nI 0)) 71 = sd from h71) (show (upd (upd w 66 (nI 0)) 73 (nI 0)) 72 = nI ch from h72)) (fun r M_37 hq => ?_)
  obtain ⟨rfl, p_37_0, p_37_1, p_37_2, kp_37⟩ := hq
  refine T_eq (pc' := 89) (L' := [(2, .int (nI n)), (0, .ref 373), (1, .int (nI u))]) (st' := []) (M' := M_37) rfl rfl rfl rfl ?_
  refine T_iconst (v := nI 0) d_Mo_enroll_89 (by decide) ?_
  refine T_istore_n (L' := [(3, .int (nI 0)), (2, .int (nI n)), (0, .ref 373), (1, .int (nI u))]) d_Mo_enroll_90 (by decide) rfl ?_
  refine T_sub (L' := [(3, .int (nI 0)), (2, .int (nI n)), (1, .int (nI u)), (0, .ref 373)]) (fun q hq => by simp only [List.mem_cons, List.not_mem_nil, or_false] at hq ⊢; rcases hq with rfl | rfl | rfl | rfl <;> simp) ?_
  refine en_n G p_37_1 p_37_2 (by decide) (by first | omega | (simp only [List.length_append, List.length_cons, List.length_nil, List.length_replicate, sl_len, be_len, sha_len, hmac_len, ex1_len, ex2_len, stretch_len, zer8_len, tC_len, tag1_len, bnN_len, xkp_len, enc_len, chance_len, lbF_len, str2_len, pub_len', sec8_len, mp_len, xSrv_len, xCli_len, xSess_len, seal8_len, sec8_len]; done) | (simp only [List.length_append, List.length_cons, List.length_nil, List.length_replicate, sl_len, be_len, sha_len, hmac_len, ex1_len, ex2_len, stretch_len, zer8_len, tC_len, tag1_len, bnN_len, xkp_len, enc_len, chance_len, lbF_len, str2_len, pub_len', sec8_len, mp_len, xSrv_len, xCli_len, xSess_len, seal8_len, sec8_len]; omega)) (by decide) (fun Mc39 hI => ?_) 32 0 M_37 (Nat.zero_add _) ⟨by rw [sl_zero]; exact (MS.ia p_37_0 (p := 412) (n := 32) (by decide)), Kp.rf⟩
  obtain ⟨hd39, hK39⟩ := hI
  have ms39 := MS.wi p_37_0 hK39 hd39.iq (by decide) (by decide) (by decide)
  refine T_aload_n (v := .ref 373) d_Mo_enroll_115 rfl (Or.inr ⟨_, rfl⟩) ?_
  refine T_aload_n (v := .ref 373) d_Mo_enroll_116 rfl (Or.inr ⟨_, rfl⟩) ?_
  have p_40 := (BG.kp (p_37_1) hK39 (by decide) (by decide))
  obtain ⟨v_41, hov_41, hwv_41, hsv_41, hiv_41⟩ := id p_40
  refine T_getfield (v := .ref 404) d_Mo_enroll_117 fg_Mo_325 hov_41 rfl ?_
  refine T_iconst (v := nI 0) d_Mo_enroll_120 (by decide) ?_
  have p_42 := (IA.kp ((IA.kp ((IA.kp ((IA.kp ((IA.kp ((IA.kp ((IA.kp ((IA.kp ((IA.kp ((IA.kp ((IA.kp (hsp) (Ex.kp s_5) (by decide))) (Ex.kp s_10) (by decide))) kp_14 (by decide))) kp_17 (by decide))) kp_21 (by decide))) kp_24 (by decide))) kp_27 (by decide))) kp_30 (by decide))) kp_35 (by decide))) kp_37 (by decide))) hK39 (by decide))
  have p_43 := (IA.kp ((IA.kp (p_36) kp_37 (by decide))) hK39 (by decide))
  refine T_virtual (as := [.ref 404, .int (nI 0)]) (rest := []) (b := 373) d_Mo_enroll_121 rfl (jw_Mo_opens.jo (by decide)) lm_Mo_539 ji_Mo_opens js_Mo_opens hov_41 rfl rfl rfl (Nat.le_of_ble_eq_true rfl) (by decide) (by decide) (b_Mo_opens (at0 := 0) ms39 p_40 p_42 hd39 p_43 (by first | omega | (simp only [List.length_append, List.length_cons, List.length_nil, List.length_replicate, sl_len, be_len, sha_len, hmac_len, ex1_len, ex2_len, stretch_len, zer8_len, tC_len, tag1_len, bnN_len, xkp_len, enc_len, chance_len, lbF_len, str2_len, pub_len', sec8_len, mp_len, xSrv_len, xCli_len, xSess_len, seal8_len, sec8_len]; done) | (simp only [List.length_append, List.length_cons, List.length_nil, List.length_replicate, sl_len, be_len, sha_len, hmac_len, ex1_len, ex2_len, stretch_len, zer8_len, tC_len, tag1_len, bnN_len, xkp_len, enc_len, chance_len, lbF_len, str2_len, pub_len', sec8_len, mp_len, xSrv_len, xCli_len, xSess_len, seal8_len, sec8_len]; omega)) (by decide) (by first | omega | (simp only [List.length_append, List.length_cons, List.length_nil, List.length_replicate, sl_len, be_len, sha_len, hmac_len, ex1_len, ex2_len, stretch_len, zer8_len, tC_len, tag1_len, bnN_len, xkp_len, enc_len, chance_len, lbF_len, str2_len, pub_len', sec8_len, mp_len, xSrv_len, xCli_len, xSess_len, seal8_len, sec8_len]; done) | (simp only [List.length_append, List.length_cons, List.length_nil, List.length_replicate, sl_len, be_len, sha_len, hmac_len, ex1_len, ex2_len, stretch_len, zer8_len, tC_len, tag1_len, bnN_len, xkp_len, enc_len, chance_len, lbF_len, str2_len, pub_len', sec8_len, mp_len, xSrv_len, xCli_len, xSess_len, seal8_len, sec8_len]; omega)) (by first | omega | (simp only [List.length_append, List.length_cons, List.length_nil, List.length_replicate, sl_len, be_len, sha_len, hmac_len, ex1_len, ex2_len, stretch_len, zer8_len, tC_len, tag1_len, bnN_len, xkp_len, enc_len, chance_len, lbF_len, str2_len, pub_len', sec8_len, mp_len, xSrv_len, xCli_len, xSess_len, seal8_len, sec8_len]; done) | (simp only [List.length_append, List.length_cons, List.length_nil, List.length_replicate, sl_len, be_len, sha_len, hmac_len, ex1_len, ex2_len, stretch_len, zer8_len, tC_len, tag1_len, bnN_len, xkp_len, enc_len, chance_len, lbF_len, str2_len, pub_len', sec8_len, mp_len, xSrv_len, xCli_len, xSess_len, seal8_len, sec8_len]; omega)) (by decide)) (fun r M_44 hq => ?_)
  obtain ⟨rfl, p_44_0, p_44_1, p_44_2, p_44_3, p_44_4, p_44_5, kp_44⟩ := hq
  refine T_eq (pc' := 124) (L' := [(2, .int (nI n)), (1, .int (nI u)), (0, .ref 373)]) (st' := []) (M' := M_44) rfl rfl rfl rfl ?_
  have p_45 : IA M_44 415 64 (seal8 (sec8 tx (emul fD (grp tx) (usK sd u))) (sl (chance sd (nI ch)) 0 32) (pub (ownK sd))) := (by have g := p_44_5; rw [sl64 (pub_len' _)] at g; exact g)
  refine T_aload_n (v := .ref 373) d_Mo_enroll_124 rfl (Or.inr ⟨_, rfl⟩) ?_
  have p_46 := (IA.kp (p_43) kp_44 (by decide))
  obtain ⟨v_48, hov_48, hwv_48, hsv_48, hiv_48⟩ := id p_44_1
  refine T_virtual (as := []) (rest := []) (b := 373) d_Mo_enroll_125 rfl (jw_Mo_maskOf.jo (by decide)) lm_Mo_542 ji_Mo_maskOf js_Mo_maskOf hov_48 rfl rfl rfl (Nat.le_of_ble_eq_true rfl) (by decide) (by decide) (b_Mo_maskOf p_44_0 p_44_1 p_46 (by first | omega | (simp only [List.length_append, List.length_cons, List.length_nil, List.length_replicate, sl_len, be_len, sha_len, hmac_len, ex1_len, ex2_len, stretch_len, zer8_len, tC_len, tag1_len, bnN_len, xkp_len, enc_len, chance_len, lbF_len, str2_len, pub_len', sec8_len, mp_len, xSrv_len, xCli_len, xSess_len, seal8_len, sec8_len]; done) | (simp only [List.length_append, List.length_cons, List.length_nil, List.length_replicate, sl_len, be_len, sha_len, hmac_len, ex1_len, ex2_len, stretch_len, zer8_len, tC_len, tag1_len, bnN_len, xkp_len, enc_len, chance_len, lbF_len, str2_len, pub_len', sec8_len, mp_len, xSrv_len, xCli_len, xSess_len, seal8_len, sec8_len]; omega))) (fun r M_47 hq => ?_)
  obtain ⟨rfl, p_47_0, p_47_1, p_47_2, kp_47⟩ := hq
  refine T_eq (pc' := 128) (L' := [(2, .int (nI n)), (1, .int (nI u)), (0, .ref 373)]) (st' := []) (M' := M_47) rfl rfl rfl rfl ?_
  refine T_iconst (v := nI 0) d_Mo_enroll_128 (by decide) ?_
  refine T_istore_n (L' := [(3, .int (nI 0)), (2, .int (nI n)), (1, .int (nI u)), (0, .ref 373)]) d_Mo_enroll_129 (by decide) rfl ?_
  have p_49 := (RO.kp ((RO.kp ((RO.kp ((RO.kp ((RO.kp ((RO.kp ((RO.kp ((RO.kp ((RO.kp ((RO.kp ((RO.kp ((RO.kp ((RO.kp (ro1) (Ex.kp s_5) (by decide))) (Ex.kp s_10) (by decide))) kp_14 (by decide))) kp_17 (by decide))) kp_21 (by decide))) kp_24 (by decide))) kp_27 (by decide))) kp_30 (by decide))) kp_35 (by decide))) kp_37 (by decide))) hK39 (by decide))) kp_44 (by decide))) kp_47 (by decide))
  have lT : (recN sd (sec8 tx (emul fD (grp tx) (usK sd u))) (sl (chance sd (nI ch)) 0 32)).length = 192 := recN_len (sl_len _ _ _)
  have p_50 := (IA.kp (p_44_3) kp_47 (by decide))
  have p_51 := (IA.kp ((IA.kp (hd39) kp_44 (by decide))) kp_47 (by decide))
  refine er_1 G (T := (recN sd (sec8 tx (emul fD (grp tx) (usK sd u))) (sl (chance sd (nI ch)) 0 32))) p_47_1 p_50 (by rw [pub_len']; decide) p_51 (by rw [sl_len]; decide) (fun i hi => recN_0 sd _ _ i hi) (fun i hi => recN_96 sd _ _ (sl_len _ _ _) i hi) (by omega) (fun Me1 hI => ?_) 32 0 M_47 rfl ⟨RP.of p_49 lT (fun i hi => by omega), Kp.rf⟩
  obtain ⟨rp1, ke1⟩ := hI
  refine T_iconst (v := nI 0) d_Mo_enroll_181 (by decide) ?_
  refine T_istore_n (L' := [(3, .int (nI 0)), (2, .int (nI n)), (1, .int (nI u)), (0, .ref 373)]) d_Mo_enroll_182 (by decide) rfl ?_
  have p_52 := (BG.kp (p_47_1) ke1 (by decide) (by decide))
  have p_53 := (IA.kp (p_47_2) ke1 (by decide))
  have p_54 := (IA.kp ((IA.kp (p_45) kp_47 (by decide))) ke1 (by decide))
  refine er_2 G (R0 := R1) (T := (recN sd (sec8 tx (emul fD (grp tx) (usK sd u))) (sl (chance sd (nI ch)) 0 32))) p_52 p_53 (by rw [ex1_len]; decide) p_54 (by rw [seal8_len]; decide) (fun i hi => recN_32 sd _ _ i hi) (fun i hi => recN_128 sd _ _ (sl_len _ _ _) i hi) (by omega) (fun Me2 hI => ?_) 64 0 Me1 rfl ⟨?_, Kp.rf⟩
  rotate_left
  · obtain ⟨L, i1, i2, i3, i4, i5, i6⟩ := rp1; exact ⟨L, i1, i2, i3, fun i hi d => i4 i hi (by have d2 : ((0 ≤ i ∧ i < 32) ∨ (96 ≤ i ∧ i < 128)) ∨ ((32 ≤ i ∧ i < 32 + 0) ∨ (128 ≤ i ∧ i < 128 + 0)) := d; show (0 ≤ i ∧ i < 32) ∨ (96 ≤ i ∧ i < 96 + 32); omega), i5, i6⟩
  obtain ⟨rp2, ke2⟩ := hI
  have ro2 := RP.ro rp2 (fun i hi => by show ((0 ≤ i ∧ i < 32) ∨ (96 ≤ i ∧ i < 128)) ∨ ((32 ≤ i ∧ i < 32 + 64) ∨ (128 ≤ i ∧ i < 128 + 64)); omega)
  refine T_aload_n (v := .ref 373) d_Mo_enroll_238 rfl (Or.inr ⟨_, rfl⟩) ?_
  have p_55 := (BG.kp (p_52) ke2 (by decide) (by decide))
  obtain ⟨v_56, hov_56, hwv_56, hsv_56, hiv_56⟩ := id p_55
  refine T_getfield (v := .ref 405) d_Mo_enroll_239 fg_Mo_328 hov_56 rfl ?_
  refine T_iload_n d_Mo_enroll_242 rfl ?_
  refine T_iconst (v := nI 1) d_Mo_enroll_243 (by decide) ?_
  have p_57 := (ZR.kp ((ZR.kp ((ZR.kp ((ZR.kp ((ZR.kp ((ZR.kp ((ZR.kp ((ZR.kp ((ZR.kp ((ZR.kp ((ZR.kp ((ZR.kp ((ZR.kp ((ZR.kp ((ZR.kp (hen) (Ex.kp s_5) (by decide))) (Ex.kp s_10) (by decide))) kp_14 (by decide))) kp_17 (by decide))) kp_21 (by decide))) kp_24 (by decide))) kp_27 (by decide))) kp_30 (by decide))) kp_35 (by decide))) kp_37 (by decide))) hK39 (by decide))) kp_44 (by decide))) kp_47 (by decide))) ke1 (by decide))) ke2 (by decide))
  obtain ⟨f_58, h_59, h_60⟩ := id p_57
  refine N_zastore (k := u) d_Mo_enroll_244 (by decide) h_59 (by omega) (by decide) rfl (fun M_61 h_62 s_63 => ?_)
  have p_64 := ZR.up (b := true) h_60 (by decide) h_62
  refine T_iconst (v := nI 0) d_Mo_enroll_245 (by decide) ?_
  have p_65 := (RO.kp (ro2) (Ex.kp s_63) (by decide))
  have p_66 := RO.sl p_65 px1
  have p_67 := (BG.kp (p_55) (Ex.kp s_63) (by decide) (by decide))
  have nb_ : NB M_61 sd (ch + 1) 0 m 0 := ⟨_, p_67, (show (upd (upd (upd w 66 (nI 0)) 73 (nI 0)) 72 (nI (ch + 1))) 66 = (nI 0) from rfl), (show (upd (upd (upd w 66 (nI 0)) 73 (nI 0)) 72 (nI (ch + 1))) 71 = sd from h71), (show (upd (upd (upd w 66 (nI 0)) 73 (nI 0)) 72 (nI (ch + 1))) 72 = (nI ((ch + 1))) from rfl), (show (upd (upd (upd w 66 (nI 0)) 73 (nI 0)) 72 (nI (ch + 1))) 73 = (nI 0) from rfl), (show (upd (upd (upd w 66 (nI 0)) 73 (nI 0)) 72 (nI (ch + 1))) 74 = (nI m) from h74)⟩
  have p_68 := (MS.kp ((MS.kp ((MS.kp (p_47_0) ke1 (by decide))) ke2 (by decide))) (Ex.kp s_63) (by decide))
  exact T_ret d_Mo_enroll_246 rfl (by first | decide | rfl) (by decide) (by decide) ⟨rfl, p_68, nb_, p_64, p_66, (Kp.ex (Kp.tr (Kp.tr (Kp.tr (Kp.tr (Kp.tr (Kp.tr (Kp.tr (Kp.tr (Kp.tr (Kp.tr (Kp.tr (Kp.tr (Kp.tr (Kp.ex (Kp.ex (Kp.rf : Kp [373, 374, 380, 381, 382, 383, 384, 385, 387, 388, 389, 390, 391, 392, 393, 394, 395, 397, 398, 401, 405, 406, 408, 411, 412, 413, 414, 415, 416, 417, 418] M M) s_5 (by decide)) s_10 (by decide)) (Kp.mono kp_14 (by decide +kernel))) (Kp.mono kp_17 (by decide))) (Kp.mono kp_21 (by decide +kernel))) (Kp.mono kp_24 (by decide))) (Kp.mono kp_27 (by decide))) (Kp.mono kp_30 (by decide))) (Kp.mono kp_35 (by decide +kernel))) (Kp.mono kp_37 (by decide))) (Kp.mono hK39 (by decide))) (Kp.mono kp_44 (by decide +kernel))) (Kp.mono kp_47 (by decide +kernel))) (Kp.mono ke1 (by decide))) (Kp.mono ke2 (by decide))) s_63 (by decide))⟩
theorem pre8_c {c f s g c' f' s' g' : List UInt8} (h1 : sl c' 0 32 = sl c 0 32) (h2 : sl f' 0 96 = sl f 0 96) (h3 : sl s' 0 32 = sl s 0 32) (h4 : sl g' 0 256 = sl g 0 256) : pre8 c' f' s' g' = pre8 c f s g := by unfold pre8; rw [h1, h2, h3, h4]
theorem xr_2 (H D : List UInt8) (a b : List UInt8) (ha : ∀ i, i < 32 → gd H i = gd a i) (hb : ∀ i, i < 96 → gd H (32 + i) = gd b (96 + i)) : mp (fun i => gd a (0 + i) ^^^ gd D (0 + i)) 32 ++ mp (fun i => gd b (96 + i) ^^^ gd D (32 + i)) 96 = xr (sl H 0 128) D := by
  apply gd_ext
  · rw [List.length_append, mp_len, mp_len]; unfold xr; simp
  · intro i hi
    rw [List.length_append, mp_len, mp_len] at hi
    have e : gd (xr (sl H 0 128) D) i = gd H i ^^^ gd D i := by unfold xr; rw [mr_gd (by omega), sl_gd (by omega), Nat.zero_add]
    rw [e]
    by_cases c : i < 32
    · rw [gd_l (by rw [mp_len]; exact c), mp_gd c, ha i c, Nat.zero_add]
    · rw [gd_r (by rw [mp_len]; omega), mp_len, mp_gd (by omega)]
      have := hb (i - 32) (by omega)
      rw [show 32 + (i - 32) = i by omega] at this ⊢
      rw [this]
theorem bN_i (b : Bool) : bN b ≤ 1 := by cases b <;> decide
set_option maxHeartbeats 8000000 in
theorem p_Mo_answer_neg {G : GX} {M : List va_E} {sd : Int32} {ch n m th : Nat} {x : Int32} (hnb : NB M sd ch n m th) (hx : x < 0) : CT G mi_Mo_answer [.ref 373, .int x] M (fun r M' => r = some (.int (-1)) ∧ NB M' sd ch n m 0 ∧ Kp [373] M M') := by
  obtain ⟨w, h, h66, h71, h72, h73, h74⟩ := hnb
  refine CT.of (by decide) (Nat.le_of_ble_eq_true rfl) ?_
  show TT G mi_Mo_answer 0 [(0, .ref 373), (1, .int x)] [] M 0 0 _
  refine T_aload_n (v := .ref 373) d_Mo_answer_0 rfl (Or.inr ⟨_, rfl⟩) ?_
  refine T_iconst (v := nI 0) d_Mo_answer_1 (by decide) ?_
  obtain ⟨v_1, hov_1, hwv_1, hsv_1, hiv_1⟩ := id h
  refine N_put (e := (moO (upd v_1 66 (nI 0)))) d_Mo_answer_2 (fp_Mo_316 _) hov_1 (Nat.le_of_ble_eq_true rfl) ⟨rfl, rfl⟩ rfl (fun M_2 h_3 s_4 => ?_)
  have p_5 := BG.st (j := 66) (by decide) hwv_1 hsv_1 hiv_1 h_3 (Ex.kp s_4)
  refine T_iload_n d_Mo_answer_5 rfl ?_
  refine T_static (as := [.int x]) (rest := []) d_Mo_answer_6 rfl (jw_Mo_isSession.jo (by decide)) lm_Mo_545 jt_Mo_isSession rfl (Nat.le_of_ble_eq_true rfl) (by decide) (by decide) (b_Mo_isS_neg hx) (fun r M_6 hq => ?_)
  obtain ⟨rfl, he⟩ := hq
  obtain rfl := he.symm
  refine T_eq (pc' := 9) (L' := [(0, .ref 373), (1, .int x)]) (st' := [.int (nI 0)]) (M' := M_2) rfl rfl rfl rfl ?_
  refine N_if_ne_f (b := 0) d_Mo_answer_9 (tgt := 14) rfl (by omega) (by omega) ?_
  refine T_iconst (v := (-1)) d_Mo_answer_12 (by decide) ?_
  have nb_ : NB M_2 sd ch n m 0 := ⟨_, p_5, (show (upd w 66 (nI 0)) 66 = (nI 0) from rfl), (show (upd w 66 (nI 0)) 71 = sd from h71), (show (upd w 66 (nI 0)) 72 = (nI ch) from h72), (show (upd w 66 (nI 0)) 73 = (nI n) from h73), (show (upd w 66 (nI 0)) 74 = (nI m) from h74)⟩
  exact T_ret d_Mo_answer_13 rfl (by first | decide | rfl) (by decide) (by decide) ⟨rfl, nb_, (Kp.ex (Kp.rf : Kp [373] M M) s_4 (by decide))⟩
set_option maxHeartbeats 8000000 in
theorem p_Mo_answer_big {G : GX} {M : List va_E} {sd : Int32} {ch n m th : Nat} {x : Int32} (hnb : NB M sd ch n m th) (h0 : ¬ x < 0) (hx : nI 4 ≤ x) : CT G mi_Mo_answer [.ref 373, .int x] M (fun r M' => r = some (.int (-1)) ∧ NB M' sd ch n m 0 ∧ Kp [373] M M') := by
  obtain ⟨w, h, h66, h71, h72, h73, h74⟩ := hnb
  refine CT.of (by decide) (Nat.le_of_ble_eq_true rfl) ?_
  show TT G mi_Mo_answer 0 [(0, .ref 373), (1, .int x)] [] M 0 0 _
  refine T_aload_n (v := .ref 373) d_Mo_answer_0 rfl (Or.inr ⟨_, rfl⟩) ?_
  refine T_iconst (v := nI 0) d_Mo_answer_1 (by decide) ?_
  obtain ⟨v_1, hov_1, hwv_1, hsv_1, hiv_1⟩ := id h
  refine N_put (e := (moO (upd v_1 66 (nI 0)))) d_Mo_answer_2 (fp_Mo_316 _) hov_1 (Nat.le_of_ble_eq_true rfl) ⟨rfl, rfl⟩ rfl (fun M_2 h_3 s_4 => ?_)
  have p_5 := BG.st (j := 66) (by decide) hwv_1 hsv_1 hiv_1 h_3 (Ex.kp s_4)
  refine T_iload_n d_Mo_answer_5 rfl ?_
  refine T_static (as := [.int x]) (rest := []) d_Mo_answer_6 rfl (jw_Mo_isSession.jo (by decide)) lm_Mo_545 jt_Mo_isSession rfl (Nat.le_of_ble_eq_true rfl) (by decide) (by decide) (b_Mo_isS_big h0 hx) (fun r M_6 hq => ?_)
  obtain ⟨rfl, he⟩ := hq
  obtain rfl := he.symm
  refine T_eq (pc' := 9) (L' := [(0, .ref 373), (1, .int x)]) (st' := [.int (nI 0)]) (M' := M_2) rfl rfl rfl rfl ?_
  refine N_if_ne_f (b := 0) d_Mo_answer_9 (tgt := 14) rfl (by omega) (by omega) ?_
  refine T_iconst (v := (-1)) d_Mo_answer_12 (by decide) ?_
  have nb_ : NB M_2 sd ch n m 0 := ⟨_, p_5, (show (upd w 66 (nI 0)) 66 = (nI 0) from rfl), (show (upd w 66 (nI 0)) 71 = sd from h71), (show (upd w 66 (nI 0)) 72 = (nI ch) from h72), (show (upd w 66 (nI 0)) 73 = (nI n) from h73), (show (upd w 66 (nI 0)) 74 = (nI m) from h74)⟩
  exact T_ret d_Mo_answer_13 rfl (by first | decide | rfl) (by decide) (by decide) ⟨rfl, nb_, (Kp.ex (Kp.rf : Kp [373] M M) s_4 (by decide))⟩
set_option maxHeartbeats 8000000 in
theorem p_Mo_answer_idle {G : GX} {M : List va_E} {sd : Int32} {ch n m th : Nat} {s : Nat} {tA tB : Nat → Bool} (hs : s < 4) (hdue : (tA s && !tB s) = false) (hnb : NB M sd ch n m th) (hA : ZR M 424 4 tA) (hB : ZR M 427 4 tB) : CT G mi_Mo_answer [.ref 373, .int (nI s)] M (fun r M' => r = some (.int (nI 2)) ∧ NB M' sd ch n m 0 ∧ Kp [373] M M') := by
  obtain ⟨w, h, h66, h71, h72, h73, h74⟩ := hnb
  refine CT.of (by decide) (Nat.le_of_ble_eq_true rfl) ?_
  show TT G mi_Mo_answer 0 [(0, .ref 373), (1, .int (nI s))] [] M 0 0 _
  have bA := bN_i (tA s)
  have bB := bN_i (tB s)
  have hdB : bN (tA s) = 0 ∨ bN (tB s) = 1 := by revert hdue; cases tA s <;> cases tB s <;> decide
  refine T_aload_n (v := .ref 373) d_Mo_answer_0 rfl (Or.inr ⟨_, rfl⟩) ?_
  refine T_iconst (v := nI 0) d_Mo_answer_1 (by decide) ?_
  obtain ⟨v_1, hov_1, hwv_1, hsv_1, hiv_1⟩ := id h
  refine N_put (e := (moO (upd v_1 66 (nI 0)))) d_Mo_answer_2 (fp_Mo_316 _) hov_1 (Nat.le_of_ble_eq_true rfl) ⟨rfl, rfl⟩ rfl (fun M_2 h_3 s_4 => ?_)
  have p_5 := BG.st (j := 66) (by decide) hwv_1 hsv_1 hiv_1 h_3 (Ex.kp s_4)
  refine T_iload_n d_Mo_answer_5 rfl ?_
  refine T_static (as := [.int (nI s)]) (rest := []) d_Mo_answer_6 rfl (jw_Mo_isSession.jo (by decide)) lm_Mo_545 jt_Mo_isSession rfl (Nat.le_of_ble_eq_true rfl) (by decide) (by decide) (b_Mo_isS_in hs) (fun r M_6 hq => ?_)
  obtain ⟨rfl, he⟩ := hq
  obtain rfl := he.symm
  refine T_eq (pc' := 9) (L' := [(0, .ref 373), (1, .int (nI s))]) (st' := [.int (nI 1)]) (M' := M_2) rfl rfl rfl rfl ?_
  refine N_if_ne_t (b := 1) d_Mo_answer_9 (tgt := 14) rfl (by omega) (by omega) ?_
  refine T_aload_n (v := .ref 373) d_Mo_answer_14 rfl (Or.inr ⟨_, rfl⟩) ?_
  obtain ⟨v_7, hov_7, hwv_7, hsv_7, hiv_7⟩ := id p_5
  refine T_getfield (v := .ref 424) d_Mo_answer_15 fg_Mo_392 hov_7 rfl ?_
  refine T_iload_n d_Mo_answer_18 rfl ?_
  have p_8 := (ZR.kp (hA) (Ex.kp s_4) (by decide))
  obtain ⟨f_9, h_10, h_11⟩ := id p_8
  refine N_zaload (k := s) (x := (nI ((bN (tA s))))) d_Mo_answer_19 h_10 (by omega) (by decide) (h_11 s (by omega)) ?_
  refine N_if_eq (b := (bN (tA s))) d_Mo_answer_20 (tgt := 32) rfl (by omega) (fun hA0 => ?_) (fun hA0 => ?_)
  ·
    refine T_iconst (v := nI 2) d_Mo_answer_32 (by decide) ?_
    have nb_ : NB M_2 sd ch n m 0 := ⟨_, p_5, (show (upd w 66 (nI 0)) 66 = (nI 0) from rfl), (show (upd w 66 (nI 0)) 71 = sd from h71), (show (upd w 66 (nI 0)) 72 = (nI ch) from h72), (show (upd w 66 (nI 0)) 73 = (nI n) from h73), (show (upd w 66 (nI 0)) 74 = (nI m) from h74)⟩
    exact T_ret d_Mo_answer_33 rfl (by first | decide | rfl) (by decide) (by decide) ⟨rfl, nb_, (Kp.ex (Kp.rf : Kp [373] M M) s_4 (by decide))⟩
  ·
    refine T_aload_n (v := .ref 373) d_Mo_answer_23 rfl (Or.inr ⟨_, rfl⟩) ?_
    refine T_getfield (v := .ref 427) d_Mo_answer_24 fg_Mo_401 hov_7 rfl ?_
    refine T_iload_n d_Mo_answer_27 rfl ?_
    have p_12 := (ZR.kp (hB) (Ex.kp s_4) (by decide))
    obtain ⟨f_13, h_14, h_15⟩ := id p_12
    refine N_zaload (k := s) (x := (nI ((bN (tB s))))) d_Mo_answer_28 h_14 (by omega) (by decide) (h_15 s (by omega)) ?_
    refine N_if_eq_f (b := (bN (tB s))) d_Mo_answer_29 (tgt := 34) rfl (by omega) (by omega) ?_
    refine T_iconst (v := nI 2) d_Mo_answer_32 (by decide) ?_
    have nb_ : NB M_2 sd ch n m 0 := ⟨_, p_5, (show (upd w 66 (nI 0)) 66 = (nI 0) from rfl), (show (upd w 66 (nI 0)) 71 = sd from h71), (show (upd w 66 (nI 0)) 72 = (nI ch) from h72), (show (upd w 66 (nI 0)) 73 = (nI n) from h73), (show (upd w 66 (nI 0)) 74 = (nI m) from h74)⟩
    exact T_ret d_Mo_answer_33 rfl (by first | decide | rfl) (by decide) (by decide) ⟨rfl, nb_, (Kp.ex (Kp.rf : Kp [373] M M) s_4 (by decide))⟩
set_option maxHeartbeats 8000000 in
theorem p_Mo_finish_neg {G : GX} {M : List va_E} {sd : Int32} {ch n m th : Nat} {x : Int32} (hnb : NB M sd ch n m th) (hx : x < 0) : CT G mi_Mo_finish [.ref 373, .int x] M (fun r M' => r = some (.int (-1)) ∧ NB M' sd ch n m 0 ∧ Kp [373] M M') := by
  obtain ⟨w, h, h66, h71, h72, h73, h74⟩ := hnb
  refine CT.of (by decide) (Nat.le_of_ble_eq_true rfl) ?_
  show TT G mi_Mo_finish 0 [(0, .ref 373), (1, .int x)] [] M 0 0 _
  refine T_aload_n (v := .ref 373) d_Mo_finish_0 rfl (Or.inr ⟨_, rfl⟩) ?_
  refine T_iconst (v := nI 0) d_Mo_finish_1 (by decide) ?_
  obtain ⟨v_1, hov_1, hwv_1, hsv_1, hiv_1⟩ := id h
  refine N_put (e := (moO (upd v_1 66 (nI 0)))) d_Mo_finish_2 (fp_Mo_316 _) hov_1 (Nat.le_of_ble_eq_true rfl) ⟨rfl, rfl⟩ rfl (fun M_2 h_3 s_4 => ?_)
  have p_5 := BG.st (j := 66) (by decide) hwv_1 hsv_1 hiv_1 h_3 (Ex.kp s_4)
  refine T_iload_n d_Mo_finish_5 rfl ?_
  refine T_static (as := [.int x]) (rest := []) d_Mo_finish_6 rfl (jw_Mo_isSession.jo (by decide)) lm_Mo_545 jt_Mo_isSession rfl (Nat.le_of_ble_eq_true rfl) (by decide) (by decide) (b_Mo_isS_neg hx) (fun r M_6 hq => ?_)
  obtain ⟨rfl, he⟩ := hq
  obtain rfl := he.symm
  refine T_eq (pc' := 9) (L' := [(0, .ref 373), (1, .int x)]) (st' := [.int (nI 0)]) (M' := M_2) rfl rfl rfl rfl ?_
  refine N_if_ne_f (b := 0) d_Mo_finish_9 (tgt := 14) rfl (by omega) (by omega) ?_
  refine T_iconst (v := (-1)) d_Mo_finish_12 (by decide) ?_
  have nb_ : NB M_2 sd ch n m 0 := ⟨_, p_5, (show (upd w 66 (nI 0)) 66 = (nI 0) from rfl), (show (upd w 66 (nI 0)) 71 = sd from h71), (show (upd w 66 (nI 0)) 72 = (nI ch) from h72), (show (upd w 66 (nI 0)) 73 = (nI n) from h73), (show (upd w 66 (nI 0)) 74 = (nI m) from h74)⟩
  exact T_ret d_Mo_finish_13 rfl (by first | decide | rfl) (by decide) (by decide) ⟨rfl, nb_, (Kp.ex (Kp.rf : Kp [373] M M) s_4 (by decide))⟩
set_option maxHeartbeats 8000000 in
theorem p_Mo_finish_big {G : GX} {M : List va_E} {sd : Int32} {ch n m th : Nat} {x : Int32} (hnb : NB M sd ch n m th) (h0 : ¬ x < 0) (hx : nI 4 ≤ x) : CT G mi_Mo_finish [.ref 373, .int x] M (fun r M' => r = some (.int (-1)) ∧ NB M' sd ch n m 0 ∧ Kp [373] M M') := by
  obtain ⟨w, h, h66, h71, h72, h73, h74⟩ := hnb
  refine CT.of (by decide) (Nat.le_of_ble_eq_true rfl) ?_
  show TT G mi_Mo_finish 0 [(0, .ref 373), (1, .int x)] [] M 0 0 _
  refine T_aload_n (v := .ref 373) d_Mo_finish_0 rfl (Or.inr ⟨_, rfl⟩) ?_
  refine T_iconst (v := nI 0) d_Mo_finish_1 (by decide) ?_
  obtain ⟨v_1, hov_1, hwv_1, hsv_1, hiv_1⟩ := id h
  refine N_put (e := (moO (upd v_1 66 (nI 0)))) d_Mo_finish_2 (fp_Mo_316 _) hov_1 (Nat.le_of_ble_eq_true rfl) ⟨rfl, rfl⟩ rfl (fun M_2 h_3 s_4 => ?_)
  have p_5 := BG.st (j := 66) (by decide) hwv_1 hsv_1 hiv_1 h_3 (Ex.kp s_4)
  refine T_iload_n d_Mo_finish_5 rfl ?_
  refine T_static (as := [.int x]) (rest := []) d_Mo_finish_6 rfl (jw_Mo_isSession.jo (by decide)) lm_Mo_545 jt_Mo_isSession rfl (Nat.le_of_ble_eq_true rfl) (by decide) (by decide) (b_Mo_isS_big h0 hx) (fun r M_6 hq => ?_)
  obtain ⟨rfl, he⟩ := hq
  obtain rfl := he.symm
  refine T_eq (pc' := 9) (L' := [(0, .ref 373), (1, .int x)]) (st' := [.int (nI 0)]) (M' := M_2) rfl rfl rfl rfl ?_
  refine N_if_ne_f (b := 0) d_Mo_finish_9 (tgt := 14) rfl (by omega) (by omega) ?_
  refine T_iconst (v := (-1)) d_Mo_finish_12 (by decide) ?_
  have nb_ : NB M_2 sd ch n m 0 := ⟨_, p_5, (show (upd w 66 (nI 0)) 66 = (nI 0) from rfl), (show (upd w 66 (nI 0)) 71 = sd from h71), (show (upd w 66 (nI 0)) 72 = (nI ch) from h72), (show (upd w 66 (nI 0)) 73 = (nI n) from h73), (show (upd w 66 (nI 0)) 74 = (nI m) from h74)⟩
  exact T_ret d_Mo_finish_13 rfl (by first | decide | rfl) (by decide) (by decide) ⟨rfl, nb_, (Kp.ex (Kp.rf : Kp [373] M M) s_4 (by decide))⟩
set_option maxHeartbeats 8000000 in
theorem p_Mo_finish_idle {G : GX} {M : List va_E} {sd : Int32} {ch n m th : Nat} {s : Nat} {tA tB : Nat → Bool} (hs : s < 4) (hdue : (tA s && !tB s) = false) (hnb : NB M sd ch n m th) (hA : ZR M 425 4 tA) (hB : ZR M 428 4 tB) : CT G mi_Mo_finish [.ref 373, .int (nI s)] M (fun r M' => r = some (.int (nI 2)) ∧ NB M' sd ch n m 0 ∧ Kp [373] M M') := by
  obtain ⟨w, h, h66, h71, h72, h73, h74⟩ := hnb
  refine CT.of (by decide) (Nat.le_of_ble_eq_true rfl) ?_
  show TT G mi_Mo_finish 0 [(0, .ref 373), (1, .int (nI s))] [] M 0 0 _
  have bA := bN_i (tA s)
  have bB := bN_i (tB s)
  have hdB : bN (tA s) = 0 ∨ bN (tB s) = 1 := by revert hdue; cases tA s <;> cases tB s <;> decide
  refine T_aload_n (v := .ref 373) d_Mo_finish_0 rfl (Or.inr ⟨_, rfl⟩) ?_
  refine T_iconst (v := nI 0) d_Mo_finish_1 (by decide) ?_
  obtain ⟨v_1, hov_1, hwv_1, hsv_1, hiv_1⟩ := id h
  refine N_put (e := (moO (upd v_1 66 (nI 0)))) d_Mo_finish_2 (fp_Mo_316 _) hov_1 (Nat.le_of_ble_eq_true rfl) ⟨rfl, rfl⟩ rfl (fun M_2 h_3 s_4 => ?_)
  have p_5 := BG.st (j := 66) (by decide) hwv_1 hsv_1 hiv_1 h_3 (Ex.kp s_4)
  refine T_iload_n d_Mo_finish_5 rfl ?_
  refine T_static (as := [.int (nI s)]) (rest := []) d_Mo_finish_6 rfl (jw_Mo_isSession.jo (by decide)) lm_Mo_545 jt_Mo_isSession rfl (Nat.le_of_ble_eq_true rfl) (by decide) (by decide) (b_Mo_isS_in hs) (fun r M_6 hq => ?_)
  obtain ⟨rfl, he⟩ := hq
  obtain rfl := he.symm
  refine T_eq (pc' := 9) (L' := [(0, .ref 373), (1, .int (nI s))]) (st' := [.int (nI 1)]) (M' := M_2) rfl rfl rfl rfl ?_
  refine N_if_ne_t (b := 1) d_Mo_finish_9 (tgt := 14) rfl (by omega) (by omega) ?_
  refine T_aload_n (v := .ref 373) d_Mo_finish_14 rfl (Or.inr ⟨_, rfl⟩) ?_
  obtain ⟨v_7, hov_7, hwv_7, hsv_7, hiv_7⟩ := id p_5
  refine T_getfield (v := .ref 425) d_Mo_finish_15 fg_Mo_395 hov_7 rfl ?_
  refine T_iload_n d_Mo_finish_18 rfl ?_
  have p_8 := (ZR.kp (hA) (Ex.kp s_4) (by decide))
  obtain ⟨f_9, h_10, h_11⟩ := id p_8
  refine N_zaload (k := s) (x := (nI ((bN (tA s))))) d_Mo_finish_19 h_10 (by omega) (by decide) (h_11 s (by omega)) ?_
  refine N_if_eq (b := (bN (tA s))) d_Mo_finish_20 (tgt := 32) rfl (by omega) (fun hA0 => ?_) (fun hA0 => ?_)
  ·
    refine T_iconst (v := nI 2) d_Mo_finish_32 (by decide) ?_
    have nb_ : NB M_2 sd ch n m 0 := ⟨_, p_5, (show (upd w 66 (nI 0)) 66 = (nI 0) from rfl), (show (upd w 66 (nI 0)) 71 = sd from h71), (show (upd w 66 (nI 0)) 72 = (nI ch) from h72), (show (upd w 66 (nI 0)) 73 = (nI n) from h73), (show (upd w 66 (nI 0)) 74 = (nI m) from h74)⟩
    exact T_ret d_Mo_finish_33 rfl (by first | decide | rfl) (by decide) (by decide) ⟨rfl, nb_, (Kp.ex (Kp.rf : Kp [373] M M) s_4 (by decide))⟩
  ·
    refine T_aload_n (v := .ref 373) d_Mo_finish_23 rfl (Or.inr ⟨_, rfl⟩) ?_
    refine T_getfield (v := .ref 428) d_Mo_finish_24 fg_Mo_404 hov_7 rfl ?_
    refine T_iload_n d_Mo_finish_27 rfl ?_
    have p_12 := (ZR.kp (hB) (Ex.kp s_4) (by decide))
    obtain ⟨f_13, h_14, h_15⟩ := id p_12
    refine N_zaload (k := s) (x := (nI ((bN (tB s))))) d_Mo_finish_28 h_14 (by omega) (by decide) (h_15 s (by omega)) ?_
    refine N_if_eq_f (b := (bN (tB s))) d_Mo_finish_29 (tgt := 34) rfl (by omega) (by omega) ?_
    refine T_iconst (v := nI 2) d_Mo_finish_32 (by decide) ?_
    have nb_ : NB M_2 sd ch n m 0 := ⟨_, p_5, (show (upd w 66 (nI 0)) 66 = (nI 0) from rfl), (show (upd w 66 (nI 0)) 71 = sd from h71), (show (upd w 66 (nI 0)) 72 = (nI ch) from h72), (show (upd w 66 (nI 0)) 73 = (nI n) from h73), (show (upd w 66 (nI 0)) 74 = (nI m) from h74)⟩
    exact T_ret d_Mo_finish_33 rfl (by first | decide | rfl) (by decide) (by decide) ⟨rfl, nb_, (Kp.ex (Kp.rf : Kp [373] M M) s_4 (by decide))⟩
set_option maxHeartbeats 8000000 in
theorem p_Mo_accept_neg {G : GX} {M : List va_E} {sd : Int32} {ch n m th : Nat} {x : Int32} (hnb : NB M sd ch n m th) (hx : x < 0) : CT G mi_Mo_accept [.ref 373, .int x] M (fun r M' => r = some (.int (-1)) ∧ NB M' sd ch n m 0 ∧ Kp [373] M M') := by
  obtain ⟨w, h, h66, h71, h72, h73, h74⟩ := hnb
  refine CT.of (by decide) (Nat.le_of_ble_eq_true rfl) ?_
  show TT G mi_Mo_accept 0 [(0, .ref 373), (1, .int x)] [] M 0 0 _
  refine T_aload_n (v := .ref 373) d_Mo_accept_0 rfl (Or.inr ⟨_, rfl⟩) ?_
  refine T_iconst (v := nI 0) d_Mo_accept_1 (by decide) ?_
  obtain ⟨v_1, hov_1, hwv_1, hsv_1, hiv_1⟩ := id h
  refine N_put (e := (moO (upd v_1 66 (nI 0)))) d_Mo_accept_2 (fp_Mo_316 _) hov_1 (Nat.le_of_ble_eq_true rfl) ⟨rfl, rfl⟩ rfl (fun M_2 h_3 s_4 => ?_)
  have p_5 := BG.st (j := 66) (by decide) hwv_1 hsv_1 hiv_1 h_3 (Ex.kp s_4)
  refine T_iload_n d_Mo_accept_5 rfl ?_
  refine T_static (as := [.int x]) (rest := []) d_Mo_accept_6 rfl (jw_Mo_isSession.jo (by decide)) lm_Mo_545 jt_Mo_isSession rfl (Nat.le_of_ble_eq_true rfl) (by decide) (by decide) (b_Mo_isS_neg hx) (fun r M_6 hq => ?_)
  obtain ⟨rfl, he⟩ := hq
  obtain rfl := he.symm
  refine T_eq (pc' := 9) (L' := [(0, .ref 373), (1, .int x)]) (st' := [.int (nI 0)]) (M' := M_2) rfl rfl rfl rfl ?_
  refine N_if_ne_f (b := 0) d_Mo_accept_9 (tgt := 14) rfl (by omega) (by omega) ?_
  refine T_iconst (v := (-1)) d_Mo_accept_12 (by decide) ?_
  have nb_ : NB M_2 sd ch n m 0 := ⟨_, p_5, (show (upd w 66 (nI 0)) 66 = (nI 0) from rfl), (show (upd w 66 (nI 0)) 71 = sd from h71), (show (upd w 66 (nI 0)) 72 = (nI ch) from h72), (show (upd w 66 (nI 0)) 73 = (nI n) from h73), (show (upd w 66 (nI 0)) 74 = (nI m) from h74)⟩
  exact T_ret d_Mo_accept_13 rfl (by first | decide | rfl) (by decide) (by decide) ⟨rfl, nb_, (Kp.ex (Kp.rf : Kp [373] M M) s_4 (by decide))⟩
set_option maxHeartbeats 8000000 in
theorem p_Mo_accept_big {G : GX} {M : List va_E} {sd : Int32} {ch n m th : Nat} {x : Int32} (hnb : NB M sd ch n m th) (h0 : ¬ x < 0) (hx : nI 4 ≤ x) : CT G mi_Mo_accept [.ref 373, .int x] M (fun r M' => r = some (.int (-1)) ∧ NB M' sd ch n m 0 ∧ Kp [373] M M') := by
  obtain ⟨w, h, h66, h71, h72, h73, h74⟩ := hnb
  refine CT.of (by decide) (Nat.le_of_ble_eq_true rfl) ?_
  show TT G mi_Mo_accept 0 [(0, .ref 373), (1, .int x)] [] M 0 0 _
  refine T_aload_n (v := .ref 373) d_Mo_accept_0 rfl (Or.inr ⟨_, rfl⟩) ?_
  refine T_iconst (v := nI 0) d_Mo_accept_1 (by decide) ?_
  obtain ⟨v_1, hov_1, hwv_1, hsv_1, hiv_1⟩ := id h
  refine N_put (e := (moO (upd v_1 66 (nI 0)))) d_Mo_accept_2 (fp_Mo_316 _) hov_1 (Nat.le_of_ble_eq_true rfl) ⟨rfl, rfl⟩ rfl (fun M_2 h_3 s_4 => ?_)
  have p_5 := BG.st (j := 66) (by decide) hwv_1 hsv_1 hiv_1 h_3 (Ex.kp s_4)
  refine T_iload_n d_Mo_accept_5 rfl ?_
  refine T_static (as := [.int x]) (rest := []) d_Mo_accept_6 rfl (jw_Mo_isSession.jo (by decide)) lm_Mo_545 jt_Mo_isSession rfl (Nat.le_of_ble_eq_true rfl) (by decide) (by decide) (b_Mo_isS_big h0 hx) (fun r M_6 hq => ?_)
  obtain ⟨rfl, he⟩ := hq
  obtain rfl := he.symm
  refine T_eq (pc' := 9) (L' := [(0, .ref 373), (1, .int x)]) (st' := [.int (nI 0)]) (M' := M_2) rfl rfl rfl rfl ?_
  refine N_if_ne_f (b := 0) d_Mo_accept_9 (tgt := 14) rfl (by omega) (by omega) ?_
  refine T_iconst (v := (-1)) d_Mo_accept_12 (by decide) ?_
  have nb_ : NB M_2 sd ch n m 0 := ⟨_, p_5, (show (upd w 66 (nI 0)) 66 = (nI 0) from rfl), (show (upd w 66 (nI 0)) 71 = sd from h71), (show (upd w 66 (nI 0)) 72 = (nI ch) from h72), (show (upd w 66 (nI 0)) 73 = (nI n) from h73), (show (upd w 66 (nI 0)) 74 = (nI m) from h74)⟩
  exact T_ret d_Mo_accept_13 rfl (by first | decide | rfl) (by decide) (by decide) ⟨rfl, nb_, (Kp.ex (Kp.rf : Kp [373] M M) s_4 (by decide))⟩
set_option maxHeartbeats 8000000 in
theorem p_Mo_accept_idle {G : GX} {M : List va_E} {sd : Int32} {ch n m th : Nat} {s : Nat} {tA tB : Nat → Bool} (hs : s < 4) (hdue : (tA s && !tB s) = false) (hnb : NB M sd ch n m th) (hA : ZR M 426 4 tA) (hB : ZR M 429 4 tB) : CT G mi_Mo_accept [.ref 373, .int (nI s)] M (fun r M' => r = some (.int (nI 2)) ∧ NB M' sd ch n m 0 ∧ Kp [373] M M') := by
  obtain ⟨w, h, h66, h71, h72, h73, h74⟩ := hnb
  refine CT.of (by decide) (Nat.le_of_ble_eq_true rfl) ?_
  show TT G mi_Mo_accept 0 [(0, .ref 373), (1, .int (nI s))] [] M 0 0 _
  have bA := bN_i (tA s)
  have bB := bN_i (tB s)
  have hdB : bN (tA s) = 0 ∨ bN (tB s) = 1 := by revert hdue; cases tA s <;> cases tB s <;> decide
  refine T_aload_n (v := .ref 373) d_Mo_accept_0 rfl (Or.inr ⟨_, rfl⟩) ?_
  refine T_iconst (v := nI 0) d_Mo_accept_1 (by decide) ?_
  obtain ⟨v_1, hov_1, hwv_1, hsv_1, hiv_1⟩ := id h
  refine N_put (e := (moO (upd v_1 66 (nI 0)))) d_Mo_accept_2 (fp_Mo_316 _) hov_1 (Nat.le_of_ble_eq_true rfl) ⟨rfl, rfl⟩ rfl (fun M_2 h_3 s_4 => ?_)
  have p_5 := BG.st (j := 66) (by decide) hwv_1 hsv_1 hiv_1 h_3 (Ex.kp s_4)
  refine T_iload_n d_Mo_accept_5 rfl ?_
  refine T_static (as := [.int (nI s)]) (rest := []) d_Mo_accept_6 rfl (jw_Mo_isSession.jo (by decide)) lm_Mo_545 jt_Mo_isSession rfl (Nat.le_of_ble_eq_true rfl) (by decide) (by decide) (b_Mo_isS_in hs) (fun r M_6 hq => ?_)
  obtain ⟨rfl, he⟩ := hq
  obtain rfl := he.symm
  refine T_eq (pc' := 9) (L' := [(0, .ref 373), (1, .int (nI s))]) (st' := [.int (nI 1)]) (M' := M_2) rfl rfl rfl rfl ?_
  refine N_if_ne_t (b := 1) d_Mo_accept_9 (tgt := 14) rfl (by omega) (by omega) ?_
  refine T_aload_n (v := .ref 373) d_Mo_accept_14 rfl (Or.inr ⟨_, rfl⟩) ?_
  obtain ⟨v_7, hov_7, hwv_7, hsv_7, hiv_7⟩ := id p_5
  refine T_getfield (v := .ref 426) d_Mo_accept_15 fg_Mo_398 hov_7 rfl ?_
  refine T_iload_n d_Mo_accept_18 rfl ?_
  have p_8 := (ZR.kp (hA) (Ex.kp s_4) (by decide))
  obtain ⟨f_9, h_10, h_11⟩ := id p_8
  refine N_zaload (k := s) (x := (nI ((bN (tA s))))) d_Mo_accept_19 h_10 (by omega) (by decide) (h_11 s (by omega)) ?_
  refine N_if_eq (b := (bN (tA s))) d_Mo_accept_20 (tgt := 32) rfl (by omega) (fun hA0 => ?_) (fun hA0 => ?_)
  ·
    refine T_iconst (v := nI 2) d_Mo_accept_32 (by decide) ?_
    have nb_ : NB M_2 sd ch n m 0 := ⟨_, p_5, (show (upd w 66 (nI 0)) 66 = (nI 0) from rfl), (show (upd w 66 (nI 0)) 71 = sd from h71), (show (upd w 66 (nI 0)) 72 = (nI ch) from h72), (show (upd w 66 (nI 0)) 73 = (nI n) from h73), (show (upd w 66 (nI 0)) 74 = (nI m) from h74)⟩
    exact T_ret d_Mo_accept_33 rfl (by first | decide | rfl) (by decide) (by decide) ⟨rfl, nb_, (Kp.ex (Kp.rf : Kp [373] M M) s_4 (by decide))⟩
  ·
    refine T_aload_n (v := .ref 373) d_Mo_accept_23 rfl (Or.inr ⟨_, rfl⟩) ?_
    refine T_getfield (v := .ref 429) d_Mo_accept_24 fg_Mo_407 hov_7 rfl ?_
    refine T_iload_n d_Mo_accept_27 rfl ?_
    have p_12 := (ZR.kp (hB) (Ex.kp s_4) (by decide))
    obtain ⟨f_13, h_14, h_15⟩ := id p_12
    refine N_zaload (k := s) (x := (nI ((bN (tB s))))) d_Mo_accept_28 h_14 (by omega) (by decide) (h_15 s (by omega)) ?_
    refine N_if_eq_f (b := (bN (tB s))) d_Mo_accept_29 (tgt := 34) rfl (by omega) (by omega) ?_
    refine T_iconst (v := nI 2) d_Mo_accept_32 (by decide) ?_
    have nb_ : NB M_2 sd ch n m 0 := ⟨_, p_5, (show (upd w 66 (nI 0)) 66 = (nI 0) from rfl), (show (upd w 66 (nI 0)) 71 = sd from h71), (show (upd w 66 (nI 0)) 72 = (nI ch) from h72), (show (upd w 66 (nI 0)) 73 = (nI n) from h73), (show (upd w 66 (nI 0)) 74 = (nI m) from h74)⟩
    exact T_ret d_Mo_accept_33 rfl (by first | decide | rfl) (by decide) (by decide) ⟨rfl, nb_, (Kp.ex (Kp.rf : Kp [373] M M) s_4 (by decide))⟩
