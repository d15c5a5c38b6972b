def u8 (x : Int32) : UInt8 := x.toInt8.toUInt8
def cB (b : UInt8) : Int32 := b.toInt8.toInt32
def bR (b : UInt8) : Int32 := nI b.toNat
theorem u8_all {P : UInt8 → Prop} (h : ∀ n, n < 256 → P (UInt8.ofNat n)) (b : UInt8) : P b := by
  have := h b.toNat b.toNat_lt
  rwa [UInt8.ofNat_toNat] at this
theorem cB_u8 (x : Int32) : x.toInt8.toInt32 = cB (u8 x) := by unfold cB u8; rw [Int8.toInt8_toUInt8]
theorem cB_255 (b : UInt8) : cB b &&& nI 255 = nI b.toNat := u8_all (P := fun b => cB b &&& nI 255 = nI b.toNat) (by decide +kernel) b
theorem u8_cB (b : UInt8) : u8 (cB b) = b := u8_all (P := fun b => u8 (cB b) = b) (by decide +kernel) b
theorem u8_bR (b : UInt8) : u8 (bR b) = b := u8_all (P := fun b => u8 (bR b) = b) (by decide +kernel) b
theorem cB_in {a b : UInt8} : cB a = cB b ↔ a = b := ⟨fun h => by rw [← u8_cB a, h, u8_cB], fun h => by rw [h]⟩
theorem bR_in {a b : UInt8} : bR a = bR b ↔ a = b := ⟨fun h => by rw [← u8_bR a, h, u8_bR], fun h => by rw [h]⟩
theorem cB_i (b : UInt8) : (cB b).toInt % 256 = (b.toNat : Int) := u8_all (P := fun b => (cB b).toInt % 256 = (b.toNat : Int)) (by decide +kernel) b
theorem u8_nI {n : Nat} (h : n < 256) : u8 (nI n) = UInt8.ofNat n := by
  have : ∀ n, n < 256 → u8 (nI n) = UInt8.ofNat n := by decide +kernel
  exact this n h
theorem i32_255 (x : Int32) : x &&& nI 255 = bR (u8 x) := by
  apply Int32.toBitVec_inj.mp
  apply BitVec.eq_of_toNat_eq
  have e1 : (x &&& nI 255).toBitVec.toNat = x.toBitVec.toNat % 256 := by
    rw [Int32.toBitVec_and, BitVec.toNat_and]
    show x.toBitVec.toNat &&& 255 = _
    exact Nat.and_two_pow_sub_one_eq_mod _ 8
  have e2 : (u8 x).toNat = x.toBitVec.toNat % 256 := by
    unfold u8
    show (x.toBitVec.signExtend 8).toNat = _
    rw [BitVec.signExtend_eq_setWidth_of_le _ (by decide), BitVec.toNat_setWidth]
  rw [e1]
  unfold bR
  have h := (u8 x).toNat_lt
  show _ = (Int32.ofNat (u8 x).toNat).toBitVec.toNat
  rw [e2]
  show _ = (BitVec.ofNat 32 (x.toBitVec.toNat % 256)).toNat
  rw [BitVec.toNat_ofNat]
  omega
abbrev gd (l : List UInt8) (i : Nat) : UInt8 := l.getD i 0
theorem gd_l {l m : List UInt8} {i : Nat} (h : i < l.length) : gd (l ++ m) i = gd l i := by
  unfold gd; rw [List.getD_eq_getElem?_getD, List.getD_eq_getElem?_getD, List.getElem?_append_left h]
theorem gd_r {l m : List UInt8} {i : Nat} (h : l.length ≤ i) : gd (l ++ m) i = gd m (i - l.length) := by
  unfold gd; rw [List.getD_eq_getElem?_getD, List.getD_eq_getElem?_getD, List.getElem?_append_right h]
def sl (l : List UInt8) (a k : Nat) : List UInt8 := (List.range k).map fun i => gd l (a + i)
theorem sl_len (l : List UInt8) (a k : Nat) : (sl l a k).length = k := by unfold sl; simp
theorem mr_gd {k : Nat} {g : Nat → UInt8} {i : Nat} (h : i < k) : gd ((List.range k).map g) i = g i := by
  unfold gd
  rw [List.getD_eq_getElem?_getD, List.getElem?_map, List.getElem?_range h]; rfl
theorem sl_gd {l : List UInt8} {a k i : Nat} (h : i < k) : gd (sl l a k) i = gd l (a + i) := mr_gd h
theorem gd_ext {l m : List UInt8} (h : l.length = m.length) (e : ∀ i, i < l.length → gd l i = gd m i) : l = m := by
  apply List.ext_getElem h
  intro i h1 h2
  have := e i h1
  unfold gd at this
  rwa [List.getD_eq_getElem?_getD, List.getD_eq_getElem?_getD, List.getElem?_eq_getElem h1, List.getElem?_eq_getElem h2] at this
theorem sl_all (l : List UInt8) : sl l 0 l.length = l := gd_ext (sl_len l 0 _) fun i hi => by rw [sl_len] at hi; rw [sl_gd hi, Nat.zero_add]
def BA (M : List va_E) (p n : Nat) (l : List UInt8) : Prop := ∃ f, M[p]? = some (br n f) ∧ l.length ≤ n ∧ ∀ i, i < l.length → f i = cB (gd l i)
def BY (M : List va_E) (q d n : Nat) (l : List UInt8) : Prop := M[q]? = some (byO d l.length) ∧ BA M d n l
def IA (M : List va_E) (p n : Nat) (l : List UInt8) : Prop := ∃ f, M[p]? = some (ir n f) ∧ l.length ≤ n ∧ ∀ i, i < l.length → f i = bR (gd l i)
theorem BA.kp {M M' : List va_E} {W : List Nat} {p n : Nat} {l : List UInt8} (h : BA M p n l) (s : Kp W M M') (hn : p ∉ W) : BA M' p n l := by obtain ⟨f, h1, h2⟩ := h; exact ⟨f, (s _ hn).trans h1, h2⟩
theorem IA.kp {M M' : List va_E} {W : List Nat} {p n : Nat} {l : List UInt8} (h : IA M p n l) (s : Kp W M M') (hn : p ∉ W) : IA M' p n l := by obtain ⟨f, h1, h2⟩ := h; exact ⟨f, (s _ hn).trans h1, h2⟩
theorem BY.kp {M M' : List va_E} {W : List Nat} {q d n : Nat} {l : List UInt8} (h : BY M q d n l) (s : Kp W M M') (h1 : q ∉ W) (h2 : d ∉ W) : BY M' q d n l := ⟨(s _ h1).trans h.1, h.2.kp s h2⟩
theorem BA.le {M : List va_E} {p n : Nat} {l : List UInt8} (h : BA M p n l) : l.length ≤ n := by obtain ⟨f, h1, h2, h3⟩ := h; exact h2
theorem IA.le {M : List va_E} {p n : Nat} {l : List UInt8} (h : IA M p n l) : l.length ≤ n := by obtain ⟨f, h1, h2, h3⟩ := h; exact h2
theorem BA.sub {M : List va_E} {p n : Nat} {l : List UInt8} (h : BA M p n l) {m : List UInt8} (hm : m.length ≤ l.length) (e : ∀ i, i < m.length → gd m i = gd l i) : BA M p n m := by
  obtain ⟨f, h1, h2, h3⟩ := h
  exact ⟨f, h1, by omega, fun i hi => by rw [h3 i (by omega), e i hi]⟩
def ush (u : Int64) (r : Nat) : Int64 := (u.toUInt64 >>> ((nI r).toInt64.toUInt64 &&& Int64.toUInt64 63)).toInt64
def lsh (u : Int64) (r : Nat) : Int64 := u <<< ((nI r).toInt64 &&& 63)
def ror (u : Int64) (r : Nat) : Int64 := ush u r ||| lsh u (64 - r)
def sg1 (u : Int64) : Int64 := (ror u 19 ^^^ ror u 61) ^^^ ush u 6
def sg0 (v : Int64) : Int64 := (ror v 1 ^^^ ror v 8) ^^^ ush v 7
def Sg1 (e : Int64) : Int64 := (ror e 14 ^^^ ror e 18) ^^^ ror e 41
def Sg0 (a : Int64) : Int64 := (ror a 28 ^^^ ror a 34) ^^^ ror a 39
def sch1 (w : Nat → Int64) (t : Nat) : Int64 := ((sg1 (w (t - 2)) + w (t - 7)) + sg0 (w (t - 15))) + w (t - 16)
def sch (w : Nat → Int64) : Nat → Nat → Int64
  | 0 => w
  | k + 1 => vp_updL (sch w k) (16 + k) (sch1 (sch w k) (16 + k))
def rx (k w : Int64) (s : Nat → Int64) : Int64 := (((s 7 + Sg1 (s 4)) + ((s 4 &&& s 5) ^^^ ((s 4 ^^^ (-1)) &&& s 6))) + k) + w
def ry (s : Nat → Int64) : Int64 := Sg0 (s 0) + (((s 0 &&& s 1) ^^^ (s 0 &&& s 2)) ^^^ (s 1 &&& s 2))
def rnd (k w : Int64) (s : Nat → Int64) : Nat → Int64
  | 0 => rx k w s + ry s
  | 1 => s 0
  | 2 => s 1
  | 3 => s 2
  | 4 => s 3 + rx k w s
  | 5 => s 4
  | 6 => s 5
  | _ => s 6
def rnds (K W s : Nat → Int64) : Nat → Nat → Int64
  | 0 => s
  | t + 1 => rnd (K t) (W t) (rnds K W s t)
def kT (t : Nat) : Int64 := tb_1.getD t 0
def hT (t : Nat) : Int64 := tb_0.getD t 0
def comp (h w : Nat → Int64) (j : Nat) : Int64 := h j + rnds kT (sch w 64) h 80 j
def oc (l : List UInt8) (a : Nat) : Int32 := if a < l.length then bR (gd l a) else if a = l.length then nI 128 else nI 0
def wd8 (l : List UInt8) (a : Nat) : Nat → Int64
  | 0 => 0
  | k + 1 => lsh (wd8 l a k) 8 ||| (oc l (a + k)).toInt64
def nb (l : List UInt8) : Nat := (l.length + 16) / 128 + 1
def wdB (l : List UInt8) (i t : Nat) : Int64 := if t = 15 ∧ i + 1 = nb l then 8 * (nI l.length).toInt64 else wd8 l (128 * i + 8 * t) 8
def hs (l : List UInt8) : Nat → Nat → Int64
  | 0 => hT
  | i + 1 => comp (hs l i) (wdB l i)
def shb (x : Int64) (m : Nat) : UInt8 := u8 (ush x (56 - 8 * m)).toInt32
def sha (l : List UInt8) : List UInt8 := (List.range 64).map fun i => shb (hs l (nb l) (i / 8)) (i % 8)
theorem sha_len (l : List UInt8) : (sha l).length = 64 := by unfold sha; rw [List.length_map, List.length_range]
theorem sha_gd (l : List UInt8) {i : Nat} (h : i < 64) : gd (sha l) i = shb (hs l (nb l) (i / 8)) (i % 8) := by
  unfold sha
  exact mr_gd h
theorem rnd_c {k w : Int64} {s s' : Nat → Int64} (h : ∀ j, j < 8 → s j = s' j) : ∀ j, j < 8 → rnd k w s j = rnd k w s' j := by
  have h0 := h 0 (by decide); have h1 := h 1 (by decide); have h2 := h 2 (by decide); have h3 := h 3 (by decide)
  have h4 := h 4 (by decide); have h5 := h 5 (by decide); have h6 := h 6 (by decide); have h7 := h 7 (by decide)
  intro j hj
  have hx : rx k w s = rx k w s' := by unfold rx; rw [h4, h5, h6, h7]
  have hy : ry s = ry s' := by unfold ry; rw [h0, h1, h2]
  match j with
  | 0 => show rx k w s + ry s = rx k w s' + ry s'; rw [hx, hy]
  | 1 => exact h0
  | 2 => exact h1
  | 3 => exact h2
  | 4 => show s 3 + rx k w s = s' 3 + rx k w s'; rw [h3, hx]
  | 5 => exact h4
  | 6 => exact h5
  | 7 => exact h6
theorem rnds_c {K K' W W' s s' : Nat → Int64} {n : Nat} (hK : ∀ t, t < n → K t = K' t) (hW : ∀ t, t < n → W t = W' t) (h : ∀ j, j < 8 → s j = s' j) : ∀ j, j < 8 → rnds K W s n j = rnds K' W' s' n j := by
  induction n with
  | zero => exact h
  | succ n ih =>
    intro j hj
    show rnd (K n) (W n) (rnds K W s n) j = rnd (K' n) (W' n) (rnds K' W' s' n) j
    rw [hK n (by omega), hW n (by omega)]
    exact rnd_c (ih (fun t ht => hK t (by omega)) (fun t ht => hW t (by omega))) j hj
theorem sch_c {w w' : Nat → Int64} (h : ∀ t, t < 16 → w t = w' t) : ∀ k t, t < 16 + k → sch w k t = sch w' k t := by
  intro k
  induction k with
  | zero => exact h
  | succ k ih =>
    intro t ht
    show vp_updL (sch w k) (16 + k) _ t = vp_updL (sch w' k) (16 + k) _ t
    unfold vp_updL
    by_cases e : t = 16 + k
    · rw [if_pos e, if_pos e]; unfold sch1; rw [ih _ (by omega), ih _ (by omega), ih _ (by omega), ih _ (by omega)]
    · rw [if_neg e, if_neg e]; exact ih t (by omega)
theorem comp_c {h h' w w' : Nat → Int64} (hh : ∀ j, j < 8 → h j = h' j) (hw : ∀ t, t < 16 → w t = w' t) : ∀ j, j < 8 → comp h w j = comp h' w' j := by
  intro j hj
  unfold comp
  rw [hh j hj, rnds_c (K := kT) (K' := kT) (fun _ _ => rfl) (fun t ht => sch_c hw 64 t (by omega)) hh j hj]
theorem Ex.kp {to : Nat} {M M' : List va_E} (h : Ex to M M') : Kp [to] M M' := fun q hq => h q (by simpa using hq)
theorem nI_pp (j : Nat) : nI (j + 1) - 1 = nI j := by rw [nI_succ]; show nI j + 1 - 1 = nI j; rw [Int32.add_sub_cancel]
def ius (v : Int32) (s : Nat) : Int32 := (v.toUInt32 >>> ((nI s).toUInt32 &&& Int32.toUInt32 31)).toInt32
def beh (v : Int32) (n k : Nat) : List UInt8 := (List.range k).map fun i => u8 (ius v (8 * (n - 1 - i)))
def be (v : Int32) (n : Nat) : List UInt8 := beh v n n
theorem be_len (v : Int32) (n : Nat) : (be v n).length = n := by unfold be beh; simp
theorem beh_len (v : Int32) (n k : Nat) : (beh v n k).length = k := by unfold beh; simp
theorem beh_s (v : Int32) (n k : Nat) : beh v n (k + 1) = beh v n k ++ [u8 (ius v (8 * (n - 1 - k)))] := by unfold beh; rw [List.range_succ, List.map_append]; rfl
section BYS
variable {G : GX} {M : List va_E} {q d n : Nat} {l : List UInt8}
theorem BY.up {M M' : List va_E} {a : List UInt8} {f g : Nat → Int32} (h2 : M[d]? = some (br n f)) (hf : ∀ i, i < l.length → f i = cB (gd l i)) (e1 : M'[q]? = some (byO d (l ++ a).length)) (e2 : M'[d]? = some (br n g)) (hle : (l ++ a).length ≤ n) (hg : ∀ i, i < l.length → g i = f i) (hg2 : ∀ i, i < a.length → g (l.length + i) = cB (gd a i)) : BY M' q d n (l ++ a) := by
  refine ⟨e1, g, e2, hle, fun i hi => ?_⟩
  by_cases c : i < l.length
  · rw [gd_l c, hg i c, hf i c]
  · rw [gd_r (by omega)]
    have := hg2 (i - l.length) (by rw [List.length_append] at hi; omega)
    rw [show l.length + (i - l.length) = i by omega] at this
    exact this
theorem y_By_putByte {x : Int32} (h : BY M q d n l) (hl : l.length < n) (hn : n < 2 ^ 30) (kd : K0 ≤ d) (hne : q ≠ d) : CT G mi_By_putByte [.ref q, .int x] M (fun r M' => r = none ∧ BY M' q d n (l ++ [u8 x]) ∧ Kp [q, d] M M') := by
  obtain ⟨h1, f, h2, h3, h4⟩ := h
  refine (x_By_putByte G h1 h2 kd hne hl hn).post fun r M' hq => ?_
  obtain ⟨rfl, e⟩ := hq
  obtain ⟨g1, g2, g3⟩ := mst2 e (X_len h2) (X_len h1) (Ne.symm hne)
  refine ⟨rfl, BY.up h2 h4 (by rw [g2, List.length_append]; rfl) g1 (by rw [List.length_append]; exact hl) (fun i hi => ?_) (fun i hi => ?_), g3.mono (by simp)⟩
  · unfold upd; rw [if_neg (by omega)]
  · have : i = 0 := by simpa using hi
    subst this
    unfold upd; rw [if_pos (by omega), cB_u8]; rfl
theorem y_By_clear (h : BY M q d n l) (hne : d ≠ q) : CT G mi_By_clear [.ref q] M (fun r M' => r = none ∧ BY M' q d n [] ∧ Kp [q] M M') := by
  obtain ⟨h1, f, h2, h3, h4⟩ := h
  refine (x_By_clear G h1).post fun r M' hq => ?_
  obtain ⟨rfl, e⟩ := hq
  obtain ⟨g1, g2⟩ := mst1 e (X_len h1)
  exact ⟨rfl, ⟨g1, f, (g2 _ hne).trans h2, Nat.zero_le _, fun i hi => absurd hi (Nat.not_lt_zero _)⟩, g2.kp⟩
end BYS
section NC
variable {G : GX} {mi : MI} {pc : Nat} {L : List (Nat × Value)} {st : List Value} {M : List va_E} {kc ks : Nat} {Q : Option Value → List va_E → Prop} {idx a0 a n0 n1 sp dp n : Nat}
theorem N_copyB {f g : Nat → Int32} (hd : decode (mC mi) pc = .ok (.invokestatic idx, 3)) (hl : Cond.methodLink (mY mi).cls idx arraycopyName ∈ gtb) (ha0 : K0 ≤ a0) (ha : K0 ≤ a) (hm0 : M[a0]? = some (br n0 f)) (hm1 : M[a]? = some (br n1 g)) (h4 : sp + n ≤ n0) (h5 : dp + n ≤ n1) (b0 : n0 < 2 ^ 31) (b1 : n1 < 2 ^ 31) (hf : 1 ≤ (mRm mi).frames) (hlo : (st.map fun v => v.category).sum + 18 ≤ (mRm mi).locals) (kk : ∀ M', M'[a]? = some (br n1 (va_cpy f g sp dp n)) → Ex a M M' → TT G mi (pc + 3) L st M' kc ks Q) : TT G mi pc L (.int (nI n) :: .int (nI dp) :: .ref a :: .int (nI sp) :: .ref a0 :: st) M kc ks Q := by
  refine T_copyB hd hl ha0 ha hm0 hm1 (nI_pos (by omega)) (nI_pos (by omega)) (nI_pos (by omega)) ?_ ?_ hf hlo rfl ?_
  · rw [nI_clamp (by omega), nI_clamp (by omega)]; exact h4
  · rw [nI_clamp (by omega), nI_clamp (by omega)]; exact h5
  · rw [nI_clamp (by omega), nI_clamp (by omega), nI_clamp (by omega)]
    exact kk _ (List.getElem?_set_self (X_len hm1)) set_ex
theorem N_copyL {f g : Nat → Int64} (hd : decode (mC mi) pc = .ok (.invokestatic idx, 3)) (hl : Cond.methodLink (mY mi).cls idx arraycopyName ∈ gtb) (ha0 : K0 ≤ a0) (ha : K0 ≤ a) (hm0 : M[a0]? = some (lr n0 f)) (hm1 : M[a]? = some (lr n1 g)) (h4 : sp + n ≤ n0) (h5 : dp + n ≤ n1) (b0 : n0 < 2 ^ 31) (b1 : n1 < 2 ^ 31) (hf : 1 ≤ (mRm mi).frames) (hlo : (st.map fun v => v.category).sum + 18 ≤ (mRm mi).locals) (kk : ∀ M', M'[a]? = some (lr n1 (va_cpy f g sp dp n)) → Ex a M M' → TT G mi (pc + 3) L st M' kc ks Q) : TT G mi pc L (.int (nI n) :: .int (nI dp) :: .ref a :: .int (nI sp) :: .ref a0 :: st) M kc ks Q := by
  refine T_copyL hd hl ha0 ha hm0 hm1 (nI_pos (by omega)) (nI_pos (by omega)) (nI_pos (by omega)) ?_ ?_ hf hlo rfl ?_
  · rw [nI_clamp (by omega), nI_clamp (by omega)]; exact h4
  · rw [nI_clamp (by omega), nI_clamp (by omega)]; exact h5
  · rw [nI_clamp (by omega), nI_clamp (by omega), nI_clamp (by omega)]
    exact kk _ (List.getElem?_set_self (X_len hm1)) set_ex
theorem N_copyF {f g : Nat → Int64} (hd : decode (mC mi) pc = .ok (.invokestatic idx, 3)) (hl : Cond.methodLink (mY mi).cls idx arraycopyName ∈ gtb) (ha0 : ¬ K0 ≤ a0) (ha : K0 ≤ a) (hm0 : M[a0]? = some (lr n0 f)) (hm1 : M[a]? = some (lr n1 g)) (h4 : sp + n ≤ n0) (h5 : dp + n ≤ n1) (b0 : n0 < 2 ^ 31) (b1 : n1 < 2 ^ 31) (hf : 1 ≤ (mRm mi).frames) (hlo : (st.map fun v => v.category).sum + 18 ≤ (mRm mi).locals) (kk : ∀ M', M'[a]? = some (lr n1 (va_cpy f g sp dp n)) → Ex a M M' → TT G mi (pc + 3) L st M' kc ks Q) : TT G mi pc L (.int (nI n) :: .int (nI dp) :: .ref a :: .int (nI sp) :: .ref a0 :: st) M kc ks Q := by
  refine T_copyF hd hl ha0 ha hm0 hm1 (nI_pos (by omega)) (nI_pos (by omega)) (nI_pos (by omega)) ?_ ?_ hf hlo rfl ?_
  · rw [nI_clamp (by omega), nI_clamp (by omega)]; exact h4
  · rw [nI_clamp (by omega), nI_clamp (by omega)]; exact h5
  · rw [nI_clamp (by omega), nI_clamp (by omega), nI_clamp (by omega)]
    exact kk _ (List.getElem?_set_self (X_len hm1)) set_ex
end NC
set_option maxHeartbeats 8000000 in
theorem y_By_put {G : GX} {M : List va_E} {q d n p m at0 k : Nat} {l s : List UInt8} (h : BY M q d n l) (hp : BA M p m s) (ha : at0 + k ≤ s.length) (hl : l.length + k ≤ n) (hn : n < 2 ^ 30) (hm : m < 2 ^ 30) (k_d : K0 ≤ d) (k_p : K0 ≤ p) (hne : q ≠ d) : CT G mi_By_put [.ref q, .ref p, .int (nI at0), .int (nI k)] M (fun r M' => r = none ∧ BY M' q d n (l ++ sl s at0 k) ∧ Kp [q, d] M M') := by
  obtain ⟨h1, f, h2, h3, h4⟩ := h
  obtain ⟨g, g2, g3, g4⟩ := hp
  refine CT.of (by decide) (Nat.le_of_ble_eq_true rfl) ?_
  show TT G mi_By_put 0 [(0, .ref q), (1, .ref p), (2, .int (nI at0)), (3, .int (nI k))] [] M 0 0 _
  refine T_iload_n d_By_put_0 rfl ?_
  refine N_if_lt_f (b := at0) d_By_put_1 (tgt := 30) rfl (by omega) (by omega) ?_
  refine T_iload_n d_By_put_4 rfl ?_
  refine N_if_lt_f (b := k) d_By_put_5 (tgt := 30) rfl (by omega) (by omega) ?_
  refine T_iload_n d_By_put_8 rfl ?_
  refine T_iload_n d_By_put_9 rfl ?_
  refine N_iadd (a := k) (b := at0) (c := (at0 + k)) d_By_put_10 rfl ?_
  refine T_aload_n (v := .ref p) d_By_put_11 rfl (Or.inr ⟨_, rfl⟩) ?_
  refine T_alen (v := nI m) d_By_put_12 k_p g2 rfl rfl ?_
  refine N_icmp_gt_f (a := m) (b := (at0 + k)) d_By_put_13 (tgt := 30) rfl (by omega) (by omega) (by omega) ?_
  refine T_aload_n (v := .ref q) d_By_put_16 rfl (Or.inr ⟨_, rfl⟩) ?_
  refine T_getfield (v := .int (nI (l.length))) d_By_put_17 fg_By_13 h1 rfl ?_
  refine T_iload_n d_By_put_20 rfl ?_
  refine N_iadd (a := k) (b := l.length) (c := (l.length + k)) d_By_put_21 rfl ?_
  refine T_aload_n (v := .ref q) d_By_put_22 rfl (Or.inr ⟨_, rfl⟩) ?_
  refine T_getfield (v := .ref d) d_By_put_23 fg_By_7 h1 rfl ?_
  refine T_alen (v := nI n) d_By_put_26 k_d h2 rfl rfl ?_
  refine N_icmp_le_t (a := n) (b := (l.length + k)) d_By_put_27 (tgt := 31) rfl (by omega) (by omega) (by omega) ?_
  refine T_aload_n (v := .ref p) d_By_put_31 rfl (Or.inr ⟨_, rfl⟩) ?_
  refine T_iload_n d_By_put_32 rfl ?_
  refine T_aload_n (v := .ref q) d_By_put_33 rfl (Or.inr ⟨_, rfl⟩) ?_
  refine T_getfield (v := .ref d) d_By_put_34 fg_By_7 h1 rfl ?_
  refine T_aload_n (v := .ref q) d_By_put_37 rfl (Or.inr ⟨_, rfl⟩) ?_
  refine T_getfield (v := .int (nI (l.length))) d_By_put_38 fg_By_13 h1 rfl ?_
  refine T_iload_n d_By_put_41 rfl ?_
  refine N_copyB (n0 := m) (sp := at0) (dp := l.length) (n := k) d_By_put_42 lm_By_17 k_p k_d g2 h2 (by omega) (by omega) (by omega) (by omega) (by decide) (Nat.le_of_ble_eq_true rfl) (fun Ma ha2 hea => ?_)
  refine T_aload_n (v := .ref q) d_By_put_45 rfl (Or.inr ⟨_, rfl⟩) ?_
  refine T_dup d_By_put_46 rfl ?_
  have h_1 := (hea q hne).trans (h1)
  refine T_getfield (v := .int (nI (l.length))) d_By_put_47 fg_By_13 h_1 rfl ?_
  refine T_iload_n d_By_put_50 rfl ?_
  refine N_iadd (a := k) (b := l.length) (c := (l.length + k)) d_By_put_51 rfl ?_
  refine N_put (e := (byO d (l.length + k))) d_By_put_52 (fp_By_13 _) h_1 (Nat.le_of_ble_eq_true rfl) ⟨rfl, rfl⟩ rfl (fun M_2 h_3 s_4 => ?_)
  have h_5 := (s_4 d (Ne.symm hne)).trans (ha2)
  refine T_vret d_By_put_55 rfl (by decide) (by decide) ⟨rfl, BY.up h2 h4 (by rw [h_3, List.length_append, sl_len]) h_5 (by rw [List.length_append, sl_len]; exact hl) (fun i hi => pk_cpy_out (by omega)) (fun i hi => ?_), (Kp.ex (Kp.ex (Kp.rf : Kp [q, d] M M) hea (by simp)) s_4 (by simp))⟩
  rw [sl_len] at hi
  rw [pk_cpy_in (by omega) (by omega), show at0 + (l.length + i - l.length) = at0 + i by omega, g4 _ (by omega), sl_gd hi]
set_option maxHeartbeats 8000000 in
theorem y_By_putAll {G : GX} {M : List va_E} {q d n e p m : Nat} {l s : List UInt8} (h : BY M q d n l) (hp : BY M e p m s) (hl : l.length + s.length ≤ n) (hn : n < 2 ^ 30) (hm : m < 2 ^ 30) (k_d : K0 ≤ d) (k_p : K0 ≤ p) (hne : q ≠ d) : CT G mi_By_putAll [.ref q, .ref e] M (fun r M' => r = none ∧ BY M' q d n (l ++ s) ∧ Kp [q, d] M M') := by
  refine CT.of (by decide) (Nat.le_of_ble_eq_true rfl) ?_
  show TT G mi_By_putAll 0 [(0, .ref q), (1, .ref e)] [] M 0 0 _
  refine T_aload_n (v := .ref q) d_By_putAll_0 rfl (Or.inr ⟨_, rfl⟩) ?_
  refine T_aload_n (v := .ref e) d_By_putAll_1 rfl (Or.inr ⟨_, rfl⟩) ?_
  refine T_getfield (v := .ref p) d_By_putAll_2 fg_By_7 hp.1 rfl ?_
  refine T_iconst (v := nI 0) d_By_putAll_5 (by decide) ?_
  refine T_aload_n (v := .ref e) d_By_putAll_6 rfl (Or.inr ⟨_, rfl⟩) ?_
  refine T_getfield (v := .int (nI (s.length))) d_By_putAll_7 fg_By_13 hp.1 rfl ?_
  refine T_virtual (as := [.ref p, .int (nI 0), .int (nI (s.length))]) (rest := []) (b := q) d_By_putAll_10 rfl (jw_By_put.jo (by decide)) lm_By_23 ji_By_put js_By_put h.1 rfl rfl rfl (Nat.le_of_ble_eq_true rfl) (by decide) (by decide) (y_By_put (at0 := 0) (k := s.length) h hp.2 (by omega) hl hn hm k_d k_p hne) (fun r Ma hq => ?_)
  obtain ⟨rfl, h5, h6⟩ := hq
  refine T_eq (pc' := 13) (L' := [(0, .ref q), (1, .ref e)]) (st' := []) (M' := Ma) rfl rfl rfl rfl ?_
  exact T_vret d_By_putAll_13 rfl (by decide) (by decide) ⟨rfl, by rw [sl_all] at h5; exact h5, h6⟩
set_option maxHeartbeats 8000000 in
theorem pz_lp (G : GX) {M0 : List va_E} {q d n c : Nat} {l : List UInt8} (hl : l.length + c ≤ n) (hn : n < 2 ^ 30) (k_d : K0 ≤ d) (hne : q ≠ d) {Q : Option Value → List va_E → Prop} (kk : ∀ M, BY M q d n (l ++ List.replicate c 0) ∧ Kp [q, d] M0 M → TT G mi_By_putZeros 18 [(0, .ref q), (1, .int (nI c))] [] M 0 0 Q) : ∀ j k M, k + j = c → BY M q d n (l ++ List.replicate k 0) ∧ Kp [q, d] M0 M → TT G mi_By_putZeros 2 [(2, .int (nI k)), (0, .ref q), (1, .int (nI c))] [] M 0 0 Q := by
  intro j
  induction j with
  | zero =>
    intro k M hk hI
    obtain rfl : c = k := by omega
    refine T_iload_n d_By_putZeros_2 rfl ?_
    refine T_iload_n d_By_putZeros_3 rfl ?_
    refine N_icmp_ge_t (a := c) (b := c) d_By_putZeros_4 (tgt := 18) rfl (by omega) (by omega) (by omega) ?_
    exact T_sub (fun q hq => List.mem_cons_of_mem _ hq) (kk M hI)
  | succ j ih =>
    intro k M hk hI
    obtain ⟨hb, hK⟩ := hI
    refine T_iload_n d_By_putZeros_2 rfl ?_
    refine T_iload_n d_By_putZeros_3 rfl ?_
    refine N_icmp_ge_f (a := c) (b := k) d_By_putZeros_4 (tgt := 18) rfl (by omega) (by omega) (by omega) ?_
    refine T_aload_n (v := .ref q) d_By_putZeros_7 rfl (Or.inr ⟨_, rfl⟩) ?_
    refine T_iconst (v := nI 0) d_By_putZeros_8 (by decide) ?_
    refine T_virtual (as := [.int (nI 0)]) (rest := []) (b := q) d_By_putZeros_9 rfl (jw_By_putByte.jo (by decide)) lm_By_27 ji_By_putByte js_By_putByte hb.1 rfl rfl rfl (Nat.le_of_ble_eq_true rfl) (by decide) (by decide) (y_By_putByte (x := (nI 0)) hb (by first | omega | (simp only [List.length_append, List.length_cons, List.length_nil, List.length_replicate, sl_len, be_len, sha_len]; done) | (simp only [List.length_append, List.length_cons, List.length_nil, List.length_replicate, sl_len, be_len, sha_len]; omega)) (by omega) k_d hne) (fun r M_1 hq => ?_)
    obtain ⟨rfl, p_1_0, kp_1⟩ := hq
    refine T_eq (pc' := 12) (L' := [(2, .int (nI k)), (0, .ref q), (1, .int (nI c))]) (st' := []) (M' := M_1) rfl rfl rfl rfl ?_
    refine N_iinc (k := k) (m := 1) (c := (k + 1)) (L' := [(2, .int (nI ((k + 1)))), (0, .ref q), (1, .int (nI c))]) d_By_putZeros_12 (by decide) rfl (by decide) rfl rfl ?_
    refine T_goto (tgt := 2) d_By_putZeros_15 rfl ?_
    exact ih (k + 1) M_1 (by omega) ⟨by rw [List.replicate_succ', ← List.append_assoc]; exact p_1_0, (Kp.tr (Kp.tr (Kp.rf : Kp [q, d] M0 M0) (Kp.mono hK (by simp))) (Kp.mono kp_1 (by simp)))⟩
theorem y_By_putZeros {G : GX} {M : List va_E} {q d n c : Nat} {l : List UInt8} (h : BY M q d n l) (hl : l.length + c ≤ n) (hn : n < 2 ^ 30) (k_d : K0 ≤ d) (hne : q ≠ d) : CT G mi_By_putZeros [.ref q, .int (nI c)] M (fun r M' => r = none ∧ BY M' q d n (l ++ List.replicate c 0) ∧ Kp [q, d] M M') := by
  refine CT.of (by decide) (Nat.le_of_ble_eq_true rfl) ?_
  show TT G mi_By_putZeros 0 [(0, .ref q), (1, .int (nI c))] [] M 0 0 _
  refine T_iconst (v := nI 0) d_By_putZeros_0 (by decide) ?_
  refine T_istore_n (L' := [(2, .int (nI 0)), (0, .ref q), (1, .int (nI c))]) d_By_putZeros_1 (by decide) rfl ?_
  refine pz_lp G (c := c) hl hn k_d hne (fun Ma hI => ?_) c 0 M (Nat.zero_add c) ⟨by rw [List.replicate_zero, List.append_nil]; exact h, Kp.rf⟩
  exact T_vret d_By_putZeros_18 rfl (by decide) (by decide) ⟨rfl, hI.1, hI.2⟩
set_option maxHeartbeats 8000000 in
theorem pn_lp0 (G : GX) {M0 : List va_E} {q d n c : Nat} {v : Int32} {l : List UInt8} (hc : c < 2 ^ 20) (hl : l.length + c ≤ n) (hn : n < 2 ^ 30) (k_d : K0 ≤ d) (hne : q ≠ d) {Q : Option Value → List va_E → Prop} (kk : ∀ M, (BY M q d n (l ++ beh v c (c - 0)) ∧ Kp [q, d] M0 M) → TT G mi_By_putNumber 24 [(3, .int (-1)), (0, .ref q), (1, .int v), (2, .int (nI c))] [] M 0 0 Q) : ∀ j M, j ≤ c → (BY M q d n (l ++ beh v c (c - j)) ∧ Kp [q, d] M0 M) → TT G mi_By_putNumber 4 [(3, .int (nI j - 1)), (0, .ref q), (1, .int v), (2, .int (nI c))] [] M 0 0 Q := by
  intro j
  induction j with
  | zero =>
    intro M hj hI
    refine T_iload_n d_By_putNumber_4 rfl ?_
    refine T_if_lt d_By_putNumber_5 (tgt := 24) rfl (fun _ => ?_) (fun c => absurd (by decide) c)
    exact kk M hI
  | succ j ih =>
    intro M hj hI
    obtain ⟨hb, hK⟩ := hI
    rw [nI_pp]
    refine T_iload_n d_By_putNumber_4 rfl ?_
    refine N_if_lt_f (b := j) d_By_putNumber_5 (tgt := 24) rfl (by omega) (by omega) ?_
    refine T_aload_n (v := .ref q) d_By_putNumber_8 rfl (Or.inr ⟨_, rfl⟩) ?_
    refine T_iload_n d_By_putNumber_9 rfl ?_
    refine T_bipush (v := nI 8) d_By_putNumber_10 (by decide) ?_
    refine T_iload_n d_By_putNumber_12 rfl ?_
    refine N_imul (a := j) (b := 8) (c := (8 * j)) d_By_putNumber_13 rfl ?_
    refine T_iushr d_By_putNumber_14 ?_
    refine T_virtual (as := [.int ((v.toUInt32 >>> ((nI ((8 * j))).toUInt32 &&& Int32.toUInt32 31)).toInt32)]) (rest := []) (b := q) d_By_putNumber_15 rfl (jw_By_putByte.jo (by decide)) lm_By_27 ji_By_putByte js_By_putByte hb.1 rfl rfl rfl (Nat.le_of_ble_eq_true rfl) (by decide) (by decide) (y_By_putByte (x := ((v.toUInt32 >>> ((nI ((8 * j))).toUInt32 &&& Int32.toUInt32 31)).toInt32)) hb (by first | omega | (simp only [List.length_append, List.length_cons, List.length_nil, List.length_replicate, sl_len, be_len, sha_len, beh_len]; done) | (simp only [List.length_append, List.length_cons, List.length_nil, List.length_replicate, sl_len, be_len, sha_len, beh_len]; omega)) (by omega) k_d hne) (fun r M_1 hq => ?_)
    obtain ⟨rfl, p_1_0, kp_1⟩ := hq
    refine T_eq (pc' := 18) (L' := [(3, .int (nI j)), (0, .ref q), (1, .int v), (2, .int (nI c))]) (st' := []) (M' := M_1) rfl rfl rfl rfl ?_
    refine T_iinc (x := nI j) (L' := [(3, .int (nI j - 1)), (0, .ref q), (1, .int v), (2, .int (nI c))]) d_By_putNumber_18 (by decide) rfl (by rw [nI_dm]; rfl) ?_
    refine T_goto (tgt := 4) d_By_putNumber_21 rfl ?_
    refine ih M_1 (by omega) ⟨?_, (Kp.tr (Kp.tr (Kp.rf : Kp [q, d] M0 M0) (Kp.mono hK (by simp))) (Kp.mono kp_1 (by simp)))⟩
    have e : c - j = (c - (j + 1)) + 1 := by omega
    rw [e, beh_s, show c - 1 - (c - (j + 1)) = j by omega, ← List.append_assoc]
    exact p_1_0
set_option maxHeartbeats 8000000 in
theorem y_By_putNumber {G : GX} {M : List va_E} {q d n c : Nat} {v : Int32} {l : List UInt8} (h : BY M q d n l) (hc : 0 < c ∧ c < 2 ^ 20) (hl : l.length + c ≤ n) (hn : n < 2 ^ 30) (k_d : K0 ≤ d) (hne : q ≠ d) : CT G mi_By_putNumber [.ref q, .int v, .int (nI c)] M (fun r M' => r = none ∧ BY M' q d n (l ++ be v c) ∧ Kp [q, d] M M') := by
  refine CT.of (by decide) (Nat.le_of_ble_eq_true rfl) ?_
  show TT G mi_By_putNumber 0 [(0, .ref q), (1, .int v), (2, .int (nI c))] [] M 0 0 _
  refine T_iload_n d_By_putNumber_0 rfl ?_
  refine T_iconst (v := nI 1) d_By_putNumber_1 (by decide) ?_
  refine T_isub d_By_putNumber_2 ?_
  refine T_istore_n (L' := [(3, .int ((nI c) - (nI 1))), (0, .ref q), (1, .int v), (2, .int (nI c))]) d_By_putNumber_3 (by decide) rfl ?_
  refine T_eq (pc' := 4) (L' := [(3, .int (nI c - 1)), (0, .ref q), (1, .int v), (2, .int (nI c))]) (st' := []) (M' := M) rfl rfl rfl rfl ?_
  refine pn_lp0 G hc.2 hl hn k_d hne (fun Ma hI => ?_) c M (Nat.le_refl c) ⟨by rw [Nat.sub_self]; show BY M q d n (l ++ []); rw [List.append_nil]; exact h, Kp.rf⟩
  exact T_vret d_By_putNumber_24 rfl (by decide) (by decide) ⟨rfl, hI.1, hI.2⟩
def diO (s w : Nat) : va_E := .inr (2, [.ref s, .ref w])
theorem wd8_s (l : List UInt8) (a k : Nat) : wd8 l a (k + 1) = lsh (wd8 l a k) 8 ||| (oc l (a + k)).toInt64 := rfl
set_option maxHeartbeats 8000000 in
theorem mx_w (G : GX) {M0 : List va_E} {o ps pw : Nat} {w : Nat → Int64} (ho : M0[o]? = some (diO ps pw)) (h_o_pw : o ≠ pw) (k_pw : K0 ≤ pw) {Q : Option Value → List va_E → Prop} (kk : ∀ M, 16 ≤ 80 ∧ M[pw]? = some (lr 80 (sch w (80 - 16))) ∧ Kp [pw] M0 M → TT G mi_Dig_mix 119 [(0, .ref o)] [] M 0 0 Q) : ∀ j k M, k + j = 80 → 16 ≤ k ∧ M[pw]? = some (lr 80 (sch w (k - 16))) ∧ Kp [pw] M0 M → TT G mi_Dig_mix 3 [(1, .int (nI k)), (0, .ref o)] [] M 0 0 Q := by
  intro j
  induction j with
  | zero =>
    intro k M hk hI
    obtain rfl : 80 = k := by omega
    refine T_iload_n d_Dig_mix_3 rfl ?_
    refine T_bipush (v := nI 80) d_Dig_mix_4 (by decide) ?_
    refine N_icmp_ge_t (a := 80) (b := 80) d_Dig_mix_6 (tgt := 119) rfl (by omega) (by omega) (by omega) ?_
    exact T_sub (fun q hq => List.mem_cons_of_mem _ hq) (kk M hI)
  | succ j ih =>
    intro k M hk hI
    obtain ⟨h16, h1, hK⟩ := hI
    refine T_iload_n d_Dig_mix_3 rfl ?_
    refine T_bipush (v := nI 80) d_Dig_mix_4 (by decide) ?_
    refine N_icmp_ge_f (a := 80) (b := k) d_Dig_mix_6 (tgt := 119) rfl (by omega) (by omega) (by omega) ?_
    refine T_aload_n (v := .ref o) d_Dig_mix_9 rfl (Or.inr ⟨_, rfl⟩) ?_
    have h_1 := (hK o (by simp only [List.mem_cons, List.not_mem_nil, or_false]; exact h_o_pw)).trans (ho)
    refine T_getfield (v := .ref pw) d_Dig_mix_10 fg_Dig_13 h_1 rfl ?_
    refine T_iload_n d_Dig_mix_13 rfl ?_
    refine T_iconst (v := nI 2) d_Dig_mix_14 (by decide) ?_
    refine N_isub (a := 2) (b := k) (c := (k - 2)) d_Dig_mix_15 (by omega) rfl ?_
    refine N_laload (k := (k - 2)) (x := ((sch w (k - 16)) (k - 2))) d_Dig_mix_16 h1 (by omega) (by decide) rfl ?_
    refine T_lstore_n (L' := [(2, .long ((sch w (k - 16)) (k - 2))), (1, .int (nI k)), (0, .ref o)]) d_Dig_mix_17 (by decide) rfl ?_
    refine T_aload_n (v := .ref o) d_Dig_mix_18 rfl (Or.inr ⟨_, rfl⟩) ?_
    refine T_getfield (v := .ref pw) d_Dig_mix_19 fg_Dig_13 h_1 rfl ?_
    refine T_iload_n d_Dig_mix_22 rfl ?_
    refine T_bipush (v := nI 15) d_Dig_mix_23 (by decide) ?_
    refine N_isub (a := 15) (b := k) (c := (k - 15)) d_Dig_mix_25 (by omega) rfl ?_
    refine N_laload (k := (k - 15)) (x := ((sch w (k - 16)) (k - 15))) d_Dig_mix_26 h1 (by omega) (by decide) rfl ?_
    refine T_lstore (L' := [(4, .long ((sch w (k - 16)) (k - 15))), (2, .long ((sch w (k - 16)) (k - 2))), (1, .int (nI k)), (0, .ref o)]) d_Dig_mix_27 (by decide) rfl ?_
    refine T_lload_n d_Dig_mix_29 rfl ?_
    refine T_bipush (v := nI 19) d_Dig_mix_30 (by decide) ?_
    refine T_lushr d_Dig_mix_32 ?_
    refine T_lload_n d_Dig_mix_33 rfl ?_
    refine T_bipush (v := nI 45) d_Dig_mix_34 (by decide) ?_
    refine T_lshl d_Dig_mix_36 ?_
    refine T_lor d_Dig_mix_37 ?_
    refine T_lload_n d_Dig_mix_38 rfl ?_
    refine T_bipush (v := nI 61) d_Dig_mix_39 (by decide) ?_
    refine T_lushr d_Dig_mix_41 ?_
    refine T_lload_n d_Dig_mix_42 rfl ?_
    refine T_iconst (v := nI 3) d_Dig_mix_43 (by decide) ?_
    refine T_lshl d_Dig_mix_44 ?_
    refine T_lor d_Dig_mix_45 ?_
    refine T_lxor d_Dig_mix_46 ?_
    refine T_lload_n d_Dig_mix_47 rfl ?_
    refine T_bipush (v := nI 6) d_Dig_mix_48 (by decide) ?_
    refine T_lushr d_Dig_mix_50 ?_
    refine T_lxor d_Dig_mix_51 ?_
    refine T_lstore_n (L' := [(2, .long (((((((sch w (k - 16)) (k - 2)).toUInt64 >>> ((nI 19).toInt64.toUInt64 &&& Int64.toUInt64 63)).toInt64) ||| (((sch w (k - 16)) (k - 2)) <<< ((nI 45).toInt64 &&& 63))) ^^^ (((((sch w (k - 16)) (k - 2)).toUInt64 >>> ((nI 61).toInt64.toUInt64 &&& Int64.toUInt64 63)).toInt64) ||| (((sch w (k - 16)) (k - 2)) <<< ((nI 3).toInt64 &&& 63)))) ^^^ ((((sch w (k - 16)) (k - 2)).toUInt64 >>> ((nI 6).toInt64.toUInt64 &&& Int64.toUInt64 63)).toInt64))), (4, .long ((sch w (k - 16)) (k - 15))), (1, .int (nI k)), (0, .ref o)]) d_Dig_mix_52 (by decide) rfl ?_
    refine T_lload d_Dig_mix_53 rfl ?_
    refine T_iconst (v := nI 1) d_Dig_mix_55 (by decide) ?_
    refine T_lushr d_Dig_mix_56 ?_
    refine T_lload d_Dig_mix_57 rfl ?_
    refine T_bipush (v := nI 63) d_Dig_mix_59 (by decide) ?_
    refine T_lshl d_Dig_mix_61 ?_
    refine T_lor d_Dig_mix_62 ?_
    refine T_lload d_Dig_mix_63 rfl ?_
    refine T_bipush (v := nI 8) d_Dig_mix_65 (by decide) ?_
    refine T_lushr d_Dig_mix_67 ?_
    refine T_lload d_Dig_mix_68 rfl ?_
    refine T_bipush (v := nI 56) d_Dig_mix_70 (by decide) ?_
    refine T_lshl d_Dig_mix_72 ?_
    refine T_lor d_Dig_mix_73 ?_
    refine T_lxor d_Dig_mix_74 ?_
    refine T_lload d_Dig_mix_75 rfl ?_
    refine T_bipush (v := nI 7) d_Dig_mix_77 (by decide) ?_
    refine T_lushr d_Dig_mix_79 ?_
    refine T_lxor d_Dig_mix_80 ?_
    refine T_lstore (L' := [(4, .long (((((((sch w (k - 16)) (k - 15)).toUInt64 >>> ((nI 1).toInt64.toUInt64 &&& Int64.toUInt64 63)).toInt64) ||| (((sch w (k - 16)) (k - 15)) <<< ((nI 63).toInt64 &&& 63))) ^^^ (((((sch w (k - 16)) (k - 15)).toUInt64 >>> ((nI 8).toInt64.toUInt64 &&& Int64.toUInt64 63)).toInt64) ||| (((sch w (k - 16)) (k - 15)) <<< ((nI 56).toInt64 &&& 63)))) ^^^ ((((sch w (k - 16)) (k - 15)).toUInt64 >>> ((nI 7).toInt64.toUInt64 &&& Int64.toUInt64 63)).toInt64))), (2, .long (((((((sch w (k - 16)) (k - 2)).toUInt64 >>> ((nI 19).toInt64.toUInt64 &&& Int64.toUInt64 63)).toInt64) ||| (((sch w (k - 16)) (k - 2)) <<< ((nI 45).toInt64 &&& 63))) ^^^ (((((sch w (k - 16)) (k - 2)).toUInt64 >>> ((nI 61).toInt64.toUInt64 &&& Int64.toUInt64 63)).toInt64) ||| (((sch w (k - 16)) (k - 2)) <<< ((nI 3).toInt64 &&& 63)))) ^^^ ((((sch w (k - 16)) (k - 2)).toUInt64 >>> ((nI 6).toInt64.toUInt64 &&& Int64.toUInt64 63)).toInt64))), (1, .int (nI k)), (0, .ref o)]) d_Dig_mix_81 (by decide) rfl ?_
    refine T_aload_n (v := .ref o) d_Dig_mix_83 rfl (Or.inr ⟨_, rfl⟩) ?_
    refine T_getfield (v := .ref pw) d_Dig_mix_84 fg_Dig_13 h_1 rfl ?_
    refine T_iload_n d_Dig_mix_87 rfl ?_
    refine T_lload_n d_Dig_mix_88 rfl ?_
    refine T_aload_n (v := .ref o) d_Dig_mix_89 rfl (Or.inr ⟨_, rfl⟩) ?_
    refine T_getfield (v := .ref pw) d_Dig_mix_90 fg_Dig_13 h_1 rfl ?_
    refine T_iload_n d_Dig_mix_93 rfl ?_
    refine T_bipush (v := nI 7) d_Dig_mix_94 (by decide) ?_
    refine N_isub (a := 7) (b := k) (c := (k - 7)) d_Dig_mix_96 (by omega) rfl ?_
    refine N_laload (k := (k - 7)) (x := ((sch w (k - 16)) (k - 7))) d_Dig_mix_97 h1 (by omega) (by decide) rfl ?_
    refine T_ladd d_Dig_mix_98 ?_
    refine T_lload d_Dig_mix_99 rfl ?_
    refine T_ladd d_Dig_mix_101 ?_
    refine T_aload_n (v := .ref o) d_Dig_mix_102 rfl (Or.inr ⟨_, rfl⟩) ?_
    refine T_getfield (v := .ref pw) d_Dig_mix_103 fg_Dig_13 h_1 rfl ?_
    refine T_iload_n d_Dig_mix_106 rfl ?_
    refine T_bipush (v := nI 16) d_Dig_mix_107 (by decide) ?_
    refine N_isub (a := 16) (b := k) (c := (k - 16)) d_Dig_mix_109 (by omega) rfl ?_
    refine N_laload (k := (k - 16)) (x := ((sch w (k - 16)) (k - 16))) d_Dig_mix_110 h1 (by omega) (by decide) rfl ?_
    refine T_ladd d_Dig_mix_111 ?_
    refine N_lastore (k := k) d_Dig_mix_112 k_pw h1 (by omega) (by decide) rfl (fun M_2 h_3 s_4 => ?_)
    refine N_iinc (k := k) (m := 1) (c := (k + 1)) (L' := [(1, .int (nI ((k + 1)))), (4, .long (((((((sch w (k - 16)) (k - 15)).toUInt64 >>> ((nI 1).toInt64.toUInt64 &&& Int64.toUInt64 63)).toInt64) ||| (((sch w (k - 16)) (k - 15)) <<< ((nI 63).toInt64 &&& 63))) ^^^ (((((sch w (k - 16)) (k - 15)).toUInt64 >>> ((nI 8).toInt64.toUInt64 &&& Int64.toUInt64 63)).toInt64) ||| (((sch w (k - 16)) (k - 15)) <<< ((nI 56).toInt64 &&& 63)))) ^^^ ((((sch w (k - 16)) (k - 15)).toUInt64 >>> ((nI 7).toInt64.toUInt64 &&& Int64.toUInt64 63)).toInt64))), (2, .long (((((((sch w (k - 16)) (k - 2)).toUInt64 >>> ((nI 19).toInt64.toUInt64 &&& Int64.toUInt64 63)).toInt64) ||| (((sch w (k - 16)) (k - 2)) <<< ((nI 45).toInt64 &&& 63))) ^^^ (((((sch w (k - 16)) (k - 2)).toUInt64 >>> ((nI 61).toInt64.toUInt64 &&& Int64.toUInt64 63)).toInt64) ||| (((sch w (k - 16)) (k - 2)) <<< ((nI 3).toInt64 &&& 63)))) ^^^ ((((sch w (k - 16)) (k - 2)).toUInt64 >>> ((nI 6).toInt64.toUInt64 &&& Int64.toUInt64 63)).toInt64))), (0, .ref o)]) d_Dig_mix_113 (by decide) rfl (by decide) rfl rfl ?_
    refine T_goto (tgt := 3) d_Dig_mix_116 rfl ?_
    exact T_sub (L' := [(1, .int (nI ((k + 1)))), (0, .ref o)]) (fun q hq => by simp only [List.mem_cons, List.not_mem_nil, or_false] at hq ⊢; rcases hq with rfl | rfl <;> simp) (ih (k + 1) M_2 (by omega) ⟨by omega, by rw [h_3, show k + 1 - 16 = (k - 16) + 1 by omega]; show _ = some (lr 80 (vp_updL (sch w (k - 16)) (16 + (k - 16)) (sch1 (sch w (k - 16)) (16 + (k - 16))))); rw [show 16 + (k - 16) = k by omega]; rfl, (Kp.ex (Kp.tr (Kp.rf : Kp [pw] M0 M0) (Kp.mono hK (by simp))) s_4 (by simp))⟩)
set_option maxHeartbeats 8000000 in
set_option maxRecDepth 20000 in
theorem mx_r (G : GX) {M0 : List va_E} {o ps pw : Nat} {W s : Nat → Int64} (ho : M0[o]? = some (diO ps pw)) (hw : M0[pw]? = some (lr 80 W)) (ht : M0[1]? = some (lr 80 (fun j => tb_1.getD j 0))) {Q : Option Value → List va_E → Prop} (kk : TT G mi_Dig_mix 357 [(1, .long (rnds kT W s 80 0)), (3, .long (rnds kT W s 80 1)), (5, .long (rnds kT W s 80 2)), (7, .long (rnds kT W s 80 3)), (9, .long (rnds kT W s 80 4)), (11, .long (rnds kT W s 80 5)), (13, .long (rnds kT W s 80 6)), (15, .long (rnds kT W s 80 7)), (0, .ref o)] [] M0 0 0 Q) : ∀ j k, k + j = 80 → TT G mi_Dig_mix 186 [(17, .int (nI k)), (1, .long (rnds kT W s k 0)), (3, .long (rnds kT W s k 1)), (5, .long (rnds kT W s k 2)), (7, .long (rnds kT W s k 3)), (9, .long (rnds kT W s k 4)), (11, .long (rnds kT W s k 5)), (13, .long (rnds kT W s k 6)), (15, .long (rnds kT W s k 7)), (0, .ref o)] [] M0 0 0 Q := by
  intro j
  induction j with
  | zero =>
    intro k hk
    obtain rfl : k = 80 := by omega
    refine T_iload d_Dig_mix_186 rfl ?_
    refine T_bipush (v := nI 80) d_Dig_mix_188 (by decide) ?_
    refine N_icmp_ge_t (a := 80) (b := 80) d_Dig_mix_190 (tgt := 357) rfl (by omega) (by omega) (by omega) ?_
    exact T_sub (fun q hq => List.mem_cons_of_mem _ hq) kk
  | succ j ih =>
    intro k hk
    refine T_iload d_Dig_mix_186 rfl ?_
    refine T_bipush (v := nI 80) d_Dig_mix_188 (by decide) ?_
    refine N_icmp_ge_f (a := 80) (b := k) d_Dig_mix_190 (tgt := 357) rfl (by omega) (by omega) (by omega) ?_
    refine T_lload d_Dig_mix_193 rfl ?_
    refine T_bipush (v := nI 14) d_Dig_mix_195 (by decide) ?_
    refine T_lushr d_Dig_mix_197 ?_
    refine T_lload d_Dig_mix_198 rfl ?_
    refine T_bipush (v := nI 50) d_Dig_mix_200 (by decide) ?_
    refine T_lshl d_Dig_mix_202 ?_
    refine T_lor d_Dig_mix_203 ?_
    refine T_lload d_Dig_mix_204 rfl ?_
    refine T_bipush (v := nI 18) d_Dig_mix_206 (by decide) ?_
    refine T_lushr d_Dig_mix_208 ?_
    refine T_lload d_Dig_mix_209 rfl ?_
    refine T_bipush (v := nI 46) d_Dig_mix_211 (by decide) ?_
    refine T_lshl d_Dig_mix_213 ?_
    refine T_lor d_Dig_mix_214 ?_
    refine T_lxor d_Dig_mix_215 ?_
    refine T_lload d_Dig_mix_216 rfl ?_
    refine T_bipush (v := nI 41) d_Dig_mix_218 (by decide) ?_
    refine T_lushr d_Dig_mix_220 ?_
    refine T_lload d_Dig_mix_221 rfl ?_
    refine T_bipush (v := nI 23) d_Dig_mix_223 (by decide) ?_
    refine T_lshl d_Dig_mix_225 ?_
    refine T_lor d_Dig_mix_226 ?_
    refine T_lxor d_Dig_mix_227 ?_
    refine T_lstore (L' := [(18, .long ((((((rnds kT W s k 4).toUInt64 >>> ((nI 14).toInt64.toUInt64 &&& Int64.toUInt64 63)).toInt64) ||| ((rnds kT W s k 4) <<< ((nI 50).toInt64 &&& 63))) ^^^ ((((rnds kT W s k 4).toUInt64 >>> ((nI 18).toInt64.toUInt64 &&& Int64.toUInt64 63)).toInt64) ||| ((rnds kT W s k 4) <<< ((nI 46).toInt64 &&& 63)))) ^^^ ((((rnds kT W s k 4).toUInt64 >>> ((nI 41).toInt64.toUInt64 &&& Int64.toUInt64 63)).toInt64) ||| ((rnds kT W s k 4) <<< ((nI 23).toInt64 &&& 63))))), (17, .int (nI k)), (1, .long (rnds kT W s k 0)), (3, .long (rnds kT W s k 1)), (5, .long (rnds kT W s k 2)), (7, .long (rnds kT W s k 3)), (9, .long (rnds kT W s k 4)), (11, .long (rnds kT W s k 5)), (13, .long (rnds kT W s k 6)), (15, .long (rnds kT W s k 7)), (0, .ref o)]) d_Dig_mix_228 (by decide) rfl ?_
    refine T_lload d_Dig_mix_230 rfl ?_
    refine T_lload d_Dig_mix_232 rfl ?_
    refine T_ladd d_Dig_mix_234 ?_
    refine T_lload d_Dig_mix_235 rfl ?_
    refine T_lload d_Dig_mix_237 rfl ?_
    refine T_land d_Dig_mix_239 ?_
    refine T_lload d_Dig_mix_240 rfl ?_
    refine T_ldc2 d_Dig_mix_242 kJ_Dig_44 ?_
    refine T_lxor d_Dig_mix_245 ?_
    refine T_lload d_Dig_mix_246 rfl ?_
    refine T_land d_Dig_mix_248 ?_
    refine T_lxor d_Dig_mix_249 ?_
    refine T_ladd d_Dig_mix_250 ?_
    refine T_getstatic (q := ("PasswordGate$Digest", "ADDED", "[J", .ref 1)) d_Dig_mix_251 (List.mem_of_getElem? (i := 1) rfl) gs_Dig_46 (show 1 < K0 by decide) ?_
    refine T_iload d_Dig_mix_254 rfl ?_
    refine N_laload (k := k) (x := ((fun j => tb_1.getD j 0) k)) d_Dig_mix_256 ht (by omega) (by decide) rfl ?_
    refine T_ladd d_Dig_mix_257 ?_
    refine T_aload_n (v := .ref o) d_Dig_mix_258 rfl (Or.inr ⟨_, rfl⟩) ?_
    refine T_getfield (v := .ref pw) d_Dig_mix_259 fg_Dig_13 ho rfl ?_
    refine T_iload d_Dig_mix_262 rfl ?_
    refine N_laload (k := k) (x := (W k)) d_Dig_mix_264 hw (by omega) (by decide) rfl ?_
    refine T_ladd d_Dig_mix_265 ?_
    refine T_lstore (L' := [(20, .long (((((rnds kT W s k 7) + ((((((rnds kT W s k 4).toUInt64 >>> ((nI 14).toInt64.toUInt64 &&& Int64.toUInt64 63)).toInt64) ||| ((rnds kT W s k 4) <<< ((nI 50).toInt64 &&& 63))) ^^^ ((((rnds kT W s k 4).toUInt64 >>> ((nI 18).toInt64.toUInt64 &&& Int64.toUInt64 63)).toInt64) ||| ((rnds kT W s k 4) <<< ((nI 46).toInt64 &&& 63)))) ^^^ ((((rnds kT W s k 4).toUInt64 >>> ((nI 41).toInt64.toUInt64 &&& Int64.toUInt64 63)).toInt64) ||| ((rnds kT W s k 4) <<< ((nI 23).toInt64 &&& 63))))) + (((rnds kT W s k 4) &&& (rnds kT W s k 5)) ^^^ (((rnds kT W s k 4) ^^^ (-1)) &&& (rnds kT W s k 6)))) + ((fun j => tb_1.getD j 0) k)) + (W k))), (18, .long ((((((rnds kT W s k 4).toUInt64 >>> ((nI 14).toInt64.toUInt64 &&& Int64.toUInt64 63)).toInt64) ||| ((rnds kT W s k 4) <<< ((nI 50).toInt64 &&& 63))) ^^^ ((((rnds kT W s k 4).toUInt64 >>> ((nI 18).toInt64.toUInt64 &&& Int64.toUInt64 63)).toInt64) ||| ((rnds kT W s k 4) <<< ((nI 46).toInt64 &&& 63)))) ^^^ ((((rnds kT W s k 4).toUInt64 >>> ((nI 41).toInt64.toUInt64 &&& Int64.toUInt64 63)).toInt64) ||| ((rnds kT W s k 4) <<< ((nI 23).toInt64 &&& 63))))), (17, .int (nI k)), (1, .long (rnds kT W s k 0)), (3, .long (rnds kT W s k 1)), (5, .long (rnds kT W s k 2)), (7, .long (rnds kT W s k 3)), (9, .long (rnds kT W s k 4)), (11, .long (rnds kT W s k 5)), (13, .long (rnds kT W s k 6)), (15, .long (rnds kT W s k 7)), (0, .ref o)]) d_Dig_mix_266 (by decide) rfl ?_
    refine T_lload_n d_Dig_mix_268 rfl ?_
    refine T_bipush (v := nI 28) d_Dig_mix_269 (by decide) ?_
    refine T_lushr d_Dig_mix_271 ?_
    refine T_lload_n d_Dig_mix_272 rfl ?_
    refine T_bipush (v := nI 36) d_Dig_mix_273 (by decide) ?_
    refine T_lshl d_Dig_mix_275 ?_
    refine T_lor d_Dig_mix_276 ?_
    refine T_lload_n d_Dig_mix_277 rfl ?_
    refine T_bipush (v := nI 34) d_Dig_mix_278 (by decide) ?_
    refine T_lushr d_Dig_mix_280 ?_
    refine T_lload_n d_Dig_mix_281 rfl ?_
    refine T_bipush (v := nI 30) d_Dig_mix_282 (by decide) ?_
    refine T_lshl d_Dig_mix_284 ?_
    refine T_lor d_Dig_mix_285 ?_
    refine T_lxor d_Dig_mix_286 ?_
    refine T_lload_n d_Dig_mix_287 rfl ?_
    refine T_bipush (v := nI 39) d_Dig_mix_288 (by decide) ?_
    refine T_lushr d_Dig_mix_290 ?_
    refine T_lload_n d_Dig_mix_291 rfl ?_
    refine T_bipush (v := nI 25) d_Dig_mix_292 (by decide) ?_
    refine T_lshl d_Dig_mix_294 ?_
    refine T_lor d_Dig_mix_295 ?_
    refine T_lxor d_Dig_mix_296 ?_
    refine T_lstore (L' := [(18, .long ((((((rnds kT W s k 0).toUInt64 >>> ((nI 28).toInt64.toUInt64 &&& Int64.toUInt64 63)).toInt64) ||| ((rnds kT W s k 0) <<< ((nI 36).toInt64 &&& 63))) ^^^ ((((rnds kT W s k 0).toUInt64 >>> ((nI 34).toInt64.toUInt64 &&& Int64.toUInt64 63)).toInt64) ||| ((rnds kT W s k 0) <<< ((nI 30).toInt64 &&& 63)))) ^^^ ((((rnds kT W s k 0).toUInt64 >>> ((nI 39).toInt64.toUInt64 &&& Int64.toUInt64 63)).toInt64) ||| ((rnds kT W s k 0) <<< ((nI 25).toInt64 &&& 63))))), (20, .long (((((rnds kT W s k 7) + ((((((rnds kT W s k 4).toUInt64 >>> ((nI 14).toInt64.toUInt64 &&& Int64.toUInt64 63)).toInt64) ||| ((rnds kT W s k 4) <<< ((nI 50).toInt64 &&& 63))) ^^^ ((((rnds kT W s k 4).toUInt64 >>> ((nI 18).toInt64.toUInt64 &&& Int64.toUInt64 63)).toInt64) ||| ((rnds kT W s k 4) <<< ((nI 46).toInt64 &&& 63)))) ^^^ ((((rnds kT W s k 4).toUInt64 >>> ((nI 41).toInt64.toUInt64 &&& Int64.toUInt64 63)).toInt64) ||| ((rnds kT W s k 4) <<< ((nI 23).toInt64 &&& 63))))) + (((rnds kT W s k 4) &&& (rnds kT W s k 5)) ^^^ (((rnds kT W s k 4) ^^^ (-1)) &&& (rnds kT W s k 6)))) + ((fun j => tb_1.getD j 0) k)) + (W k))), (17, .int (nI k)), (1, .long (rnds kT W s k 0)), (3, .long (rnds kT W s k 1)), (5, .long (rnds kT W s k 2)), (7, .long (rnds kT W s k 3)), (9, .long (rnds kT W s k 4)), (11, .long (rnds kT W s k 5)), (13, .long (rnds kT W s k 6)), (15, .long (rnds kT W s k 7)), (0, .ref o)]) d_Dig_mix_297 (by decide) rfl ?_
    refine T_lload d_Dig_mix_299 rfl ?_
    refine T_lload_n d_Dig_mix_301 rfl ?_
    refine T_lload_n d_Dig_mix_302 rfl ?_
    refine T_land d_Dig_mix_303 ?_
    refine T_lload_n d_Dig_mix_304 rfl ?_
    refine T_lload d_Dig_mix_305 rfl ?_
    refine T_land d_Dig_mix_307 ?_
    refine T_lxor d_Dig_mix_308 ?_
    refine T_lload_n d_Dig_mix_309 rfl ?_
    refine T_lload d_Dig_mix_310 rfl ?_
    refine T_land d_Dig_mix_312 ?_
    refine T_lxor d_Dig_mix_313 ?_
    refine T_ladd d_Dig_mix_314 ?_
    refine T_lstore (L' := [(22, .long (((((((rnds kT W s k 0).toUInt64 >>> ((nI 28).toInt64.toUInt64 &&& Int64.toUInt64 63)).toInt64) ||| ((rnds kT W s k 0) <<< ((nI 36).toInt64 &&& 63))) ^^^ ((((rnds kT W s k 0).toUInt64 >>> ((nI 34).toInt64.toUInt64 &&& Int64.toUInt64 63)).toInt64) ||| ((rnds kT W s k 0) <<< ((nI 30).toInt64 &&& 63)))) ^^^ ((((rnds kT W s k 0).toUInt64 >>> ((nI 39).toInt64.toUInt64 &&& Int64.toUInt64 63)).toInt64) ||| ((rnds kT W s k 0) <<< ((nI 25).toInt64 &&& 63)))) + ((((rnds kT W s k 0) &&& (rnds kT W s k 1)) ^^^ ((rnds kT W s k 0) &&& (rnds kT W s k 2))) ^^^ ((rnds kT W s k 1) &&& (rnds kT W s k 2))))), (18, .long ((((((rnds kT W s k 0).toUInt64 >>> ((nI 28).toInt64.toUInt64 &&& Int64.toUInt64 63)).toInt64) ||| ((rnds kT W s k 0) <<< ((nI 36).toInt64 &&& 63))) ^^^ ((((rnds kT W s k 0).toUInt64 >>> ((nI 34).toInt64.toUInt64 &&& Int64.toUInt64 63)).toInt64) ||| ((rnds kT W s k 0) <<< ((nI 30).toInt64 &&& 63)))) ^^^ ((((rnds kT W s k 0).toUInt64 >>> ((nI 39).toInt64.toUInt64 &&& Int64.toUInt64 63)).toInt64) ||| ((rnds kT W s k 0) <<< ((nI 25).toInt64 &&& 63))))), (20, .long (((((rnds kT W s k 7) + ((((((rnds kT W s k 4).toUInt64 >>> ((nI 14).toInt64.toUInt64 &&& Int64.toUInt64 63)).toInt64) ||| ((rnds kT W s k 4) <<< ((nI 50).toInt64 &&& 63))) ^^^ ((((rnds kT W s k 4).toUInt64 >>> ((nI 18).toInt64.toUInt64 &&& Int64.toUInt64 63)).toInt64) ||| ((rnds kT W s k 4) <<< ((nI 46).toInt64 &&& 63)))) ^^^ ((((rnds kT W s k 4).toUInt64 >>> ((nI 41).toInt64.toUInt64 &&& Int64.toUInt64 63)).toInt64) ||| ((rnds kT W s k 4) <<< ((nI 23).toInt64 &&& 63))))) + (((rnds kT W s k 4) &&& (rnds kT W s k 5)) ^^^ (((rnds kT W s k 4) ^^^ (-1)) &&& (rnds kT W s k 6)))) + ((fun j => tb_1.getD j 0) k)) + (W k))), (17, .int (nI k)), (1, .long (rnds kT W s k 0)), (3, .long (rnds kT W s k 1)), (5, .long (rnds kT W s k 2)), (7, .long (rnds kT W s k 3)), (9, .long (rnds kT W s k 4)), (11, .long (rnds kT W s k 5)), (13, .long (rnds kT W s k 6)), (15, .long (rnds kT W s k 7)), (0, .ref o)]) d_Dig_mix_315 (by decide) rfl ?_
    refine T_lload d_Dig_mix_317 rfl ?_
    refine T_lstore (L' := [(15, .long (rnds kT W s k 6)), (22, .long (((((((rnds kT W s k 0).toUInt64 >>> ((nI 28).toInt64.toUInt64 &&& Int64.toUInt64 63)).toInt64) ||| ((rnds kT W s k 0) <<< ((nI 36).toInt64 &&& 63))) ^^^ ((((rnds kT W s k 0).toUInt64 >>> ((nI 34).toInt64.toUInt64 &&& Int64.toUInt64 63)).toInt64) ||| ((rnds kT W s k 0) <<< ((nI 30).toInt64 &&& 63)))) ^^^ ((((rnds kT W s k 0).toUInt64 >>> ((nI 39).toInt64.toUInt64 &&& Int64.toUInt64 63)).toInt64) ||| ((rnds kT W s k 0) <<< ((nI 25).toInt64 &&& 63)))) + ((((rnds kT W s k 0) &&& (rnds kT W s k 1)) ^^^ ((rnds kT W s k 0) &&& (rnds kT W s k 2))) ^^^ ((rnds kT W s k 1) &&& (rnds kT W s k 2))))), (18, .long ((((((rnds kT W s k 0).toUInt64 >>> ((nI 28).toInt64.toUInt64 &&& Int64.toUInt64 63)).toInt64) ||| ((rnds kT W s k 0) <<< ((nI 36).toInt64 &&& 63))) ^^^ ((((rnds kT W s k 0).toUInt64 >>> ((nI 34).toInt64.toUInt64 &&& Int64.toUInt64 63)).toInt64) ||| ((rnds kT W s k 0) <<< ((nI 30).toInt64 &&& 63)))) ^^^ ((((rnds kT W s k 0).toUInt64 >>> ((nI 39).toInt64.toUInt64 &&& Int64.toUInt64 63)).toInt64) ||| ((rnds kT W s k 0) <<< ((nI 25).toInt64 &&& 63))))), (20, .long (((((rnds kT W s k 7) + ((((((rnds kT W s k 4).toUInt64 >>> ((nI 14).toInt64.toUInt64 &&& Int64.toUInt64 63)).toInt64) ||| ((rnds kT W s k 4) <<< ((nI 50).toInt64 &&& 63))) ^^^ ((((rnds kT W s k 4).toUInt64 >>> ((nI 18).toInt64.toUInt64 &&& Int64.toUInt64 63)).toInt64) ||| ((rnds kT W s k 4) <<< ((nI 46).toInt64 &&& 63)))) ^^^ ((((rnds kT W s k 4).toUInt64 >>> ((nI 41).toInt64.toUInt64 &&& Int64.toUInt64 63)).toInt64) ||| ((rnds kT W s k 4) <<< ((nI 23).toInt64 &&& 63))))) + (((rnds kT W s k 4) &&& (rnds kT W s k 5)) ^^^ (((rnds kT W s k 4) ^^^ (-1)) &&& (rnds kT W s k 6)))) + ((fun j => tb_1.getD j 0) k)) + (W k))), (17, .int (nI k)), (1, .long (rnds kT W s k 0)), (3, .long (rnds kT W s k 1)), (5, .long (rnds kT W s k 2)), (7, .long (rnds kT W s k 3)), (9, .long (rnds kT W s k 4)), (11, .long (rnds kT W s k 5)), (13, .long (rnds kT W s k 6)), (0, .ref o)]) d_Dig_mix_319 (by decide) rfl ?_
    refine T_lload d_Dig_mix_321 rfl ?_
    refine T_lstore (L' := [(13, .long (rnds kT W s k 5)), (15, .long (rnds kT W s k 6)), (22, .long (((((((rnds kT W s k 0).toUInt64 >>> ((nI 28).toInt64.toUInt64 &&& Int64.toUInt64 63)).toInt64) ||| ((rnds kT W s k 0) <<< ((nI 36).toInt64 &&& 63))) ^^^ ((((rnds kT W s k 0).toUInt64 >>> ((nI 34).toInt64.toUInt64 &&& Int64.toUInt64 63)).toInt64) ||| ((rnds kT W s k 0) <<< ((nI 30).toInt64 &&& 63)))) ^^^ ((((rnds kT W s k 0).toUInt64 >>> ((nI 39).toInt64.toUInt64 &&& Int64.toUInt64 63)).toInt64) ||| ((rnds kT W s k 0) <<< ((nI 25).toInt64 &&& 63)))) + ((((rnds kT W s k 0) &&& (rnds kT W s k 1)) ^^^ ((rnds kT W s k 0) &&& (rnds kT W s k 2))) ^^^ ((rnds kT W s k 1) &&& (rnds kT W s k 2))))), (18, .long ((((((rnds kT W s k 0).toUInt64 >>> ((nI 28).toInt64.toUInt64 &&& Int64.toUInt64 63)).toInt64) ||| ((rnds kT W s k 0) <<< ((nI 36).toInt64 &&& 63))) ^^^ ((((rnds kT W s k 0).toUInt64 >>> ((nI 34).toInt64.toUInt64 &&& Int64.toUInt64 63)).toInt64) ||| ((rnds kT W s k 0) <<< ((nI 30).toInt64 &&& 63)))) ^^^ ((((rnds kT W s k 0).toUInt64 >>> ((nI 39).toInt64.toUInt64 &&& Int64.toUInt64 63)).toInt64) ||| ((rnds kT W s k 0) <<< ((nI 25).toInt64 &&& 63))))), (20, .long (((((rnds kT W s k 7) + ((((((rnds kT W s k 4).toUInt64 >>> ((nI 14).toInt64.toUInt64 &&& Int64.toUInt64 63)).toInt64) ||| ((rnds kT W s k 4) <<< ((nI 50).toInt64 &&& 63))) ^^^ ((((rnds kT W s k 4).toUInt64 >>> ((nI 18).toInt64.toUInt64 &&& Int64.toUInt64 63)).toInt64) ||| ((rnds kT W s k 4) <<< ((nI 46).toInt64 &&& 63)))) ^^^ ((((rnds kT W s k 4).toUInt64 >>> ((nI 41).toInt64.toUInt64 &&& Int64.toUInt64 63)).toInt64) ||| ((rnds kT W s k 4) <<< ((nI 23).toInt64 &&& 63))))) + (((rnds kT W s k 4) &&& (rnds kT W s k 5)) ^^^ (((rnds kT W s k 4) ^^^ (-1)) &&& (rnds kT W s k 6)))) + ((fun j => tb_1.getD j 0) k)) + (W k))), (17, .int (nI k)), (1, .long (rnds kT W s k 0)), (3, .long (rnds kT W s k 1)), (5, .long (rnds kT W s k 2)), (7, .long (rnds kT W s k 3)), (9, .long (rnds kT W s k 4)), (11, .long (rnds kT W s k 5)), (0, .ref o)]) d_Dig_mix_323 (by decide) rfl ?_
    refine T_lload d_Dig_mix_325 rfl ?_
    refine T_lstore (L' := [(11, .long (rnds kT W s k 4)), (13, .long (rnds kT W s k 5)), (15, .long (rnds kT W s k 6)), (22, .long (((((((rnds kT W s k 0).toUInt64 >>> ((nI 28).toInt64.toUInt64 &&& Int64.toUInt64 63)).toInt64) ||| ((rnds kT W s k 0) <<< ((nI 36).toInt64 &&& 63))) ^^^ ((((rnds kT W s k 0).toUInt64 >>> ((nI 34).toInt64.toUInt64 &&& Int64.toUInt64 63)).toInt64) ||| ((rnds kT W s k 0) <<< ((nI 30).toInt64 &&& 63)))) ^^^ ((((rnds kT W s k 0).toUInt64 >>> ((nI 39).toInt64.toUInt64 &&& Int64.toUInt64 63)).toInt64) ||| ((rnds kT W s k 0) <<< ((nI 25).toInt64 &&& 63)))) + ((((rnds kT W s k 0) &&& (rnds kT W s k 1)) ^^^ ((rnds kT W s k 0) &&& (rnds kT W s k 2))) ^^^ ((rnds kT W s k 1) &&& (rnds kT W s k 2))))), (18, .long ((((((rnds kT W s k 0).toUInt64 >>> ((nI 28).toInt64.toUInt64 &&& Int64.toUInt64 63)).toInt64) ||| ((rnds kT W s k 0) <<< ((nI 36).toInt64 &&& 63))) ^^^ ((((rnds kT W s k 0).toUInt64 >>> ((nI 34).toInt64.toUInt64 &&& Int64.toUInt64 63)).toInt64) ||| ((rnds kT W s k 0) <<< ((nI 30).toInt64 &&& 63)))) ^^^ ((((rnds kT W s k 0).toUInt64 >>> ((nI 39).toInt64.toUInt64 &&& Int64.toUInt64 63)).toInt64) ||| ((rnds kT W s k 0) <<< ((nI 25).toInt64 &&& 63))))), (20, .long (((((rnds kT W s k 7) + ((((((rnds kT W s k 4).toUInt64 >>> ((nI 14).toInt64.toUInt64 &&& Int64.toUInt64 63)).toInt64) ||| ((rnds kT W s k 4) <<< ((nI 50).toInt64 &&& 63))) ^^^ ((((rnds kT W s k 4).toUInt64 >>> ((nI 18).toInt64.toUInt64 &&& Int64.toUInt64 63)).toInt64) ||| ((rnds kT W s k 4) <<< ((nI 46).toInt64 &&& 63)))) ^^^ ((((rnds kT W s k 4).toUInt64 >>> ((nI 41).toInt64.toUInt64 &&& Int64.toUInt64 63)).toInt64) ||| ((rnds kT W s k 4) <<< ((nI 23).toInt64 &&& 63))))) + (((rnds kT W s k 4) &&& (rnds kT W s k 5)) ^^^ (((rnds kT W s k 4) ^^^ (-1)) &&& (rnds kT W s k 6)))) + ((fun j => tb_1.getD j 0) k)) + (W k))), (17, .int (nI k)), (1, .long (rnds kT W s k 0)), (3, .long (rnds kT W s k 1)), (5, .long (rnds kT W s k 2)), (7, .long (rnds kT W s k 3)), (9, .long (rnds kT W s k 4)), (0, .ref o)]) d_Dig_mix_327 (by decide) rfl ?_
    refine T_lload d_Dig_mix_329 rfl ?_
    refine T_lload d_Dig_mix_331 rfl ?_
    refine T_ladd d_Dig_mix_333 ?_
    refine T_lstore (L' := [(9, .long ((rnds kT W s k 3) + (((((rnds kT W s k 7) + ((((((rnds kT W s k 4).toUInt64 >>> ((nI 14).toInt64.toUInt64 &&& Int64.toUInt64 63)).toInt64) ||| ((rnds kT W s k 4) <<< ((nI 50).toInt64 &&& 63))) ^^^ ((((rnds kT W s k 4).toUInt64 >>> ((nI 18).toInt64.toUInt64 &&& Int64.toUInt64 63)).toInt64) ||| ((rnds kT W s k 4) <<< ((nI 46).toInt64 &&& 63)))) ^^^ ((((rnds kT W s k 4).toUInt64 >>> ((nI 41).toInt64.toUInt64 &&& Int64.toUInt64 63)).toInt64) ||| ((rnds kT W s k 4) <<< ((nI 23).toInt64 &&& 63))))) + (((rnds kT W s k 4) &&& (rnds kT W s k 5)) ^^^ (((rnds kT W s k 4) ^^^ (-1)) &&& (rnds kT W s k 6)))) + ((fun j => tb_1.getD j 0) k)) + (W k)))), (11, .long (rnds kT W s k 4)), (13, .long (rnds kT W s k 5)), (15, .long (rnds kT W s k 6)), (22, .long (((((((rnds kT W s k 0).toUInt64 >>> ((nI 28).toInt64.toUInt64 &&& Int64.toUInt64 63)).toInt64) ||| ((rnds kT W s k 0) <<< ((nI 36).toInt64 &&& 63))) ^^^ ((((rnds kT W s k 0).toUInt64 >>> ((nI 34).toInt64.toUInt64 &&& Int64.toUInt64 63)).toInt64) ||| ((rnds kT W s k 0) <<< ((nI 30).toInt64 &&& 63)))) ^^^ ((((rnds kT W s k 0).toUInt64 >>> ((nI 39).toInt64.toUInt64 &&& Int64.toUInt64 63)).toInt64) ||| ((rnds kT W s k 0) <<< ((nI 25).toInt64 &&& 63)))) + ((((rnds kT W s k 0) &&& (rnds kT W s k 1)) ^^^ ((rnds kT W s k 0) &&& (rnds kT W s k 2))) ^^^ ((rnds kT W s k 1) &&& (rnds kT W s k 2))))), (18, .long ((((((rnds kT W s k 0).toUInt64 >>> ((nI 28).toInt64.toUInt64 &&& Int64.toUInt64 63)).toInt64) ||| ((rnds kT W s k 0) <<< ((nI 36).toInt64 &&& 63))) ^^^ ((((rnds kT W s k 0).toUInt64 >>> ((nI 34).toInt64.toUInt64 &&& Int64.toUInt64 63)).toInt64) ||| ((rnds kT W s k 0) <<< ((nI 30).toInt64 &&& 63)))) ^^^ ((((rnds kT W s k 0).toUInt64 >>> ((nI 39).toInt64.toUInt64 &&& Int64.toUInt64 63)).toInt64) ||| ((rnds kT W s k 0) <<< ((nI 25).toInt64 &&& 63))))), (20, .long (((((rnds kT W s k 7) + ((((((rnds kT W s k 4).toUInt64 >>> ((nI 14).toInt64.toUInt64 &&& Int64.toUInt64 63)).toInt64) ||| ((rnds kT W s k 4) <<< ((nI 50).toInt64 &&& 63))) ^^^ ((((rnds kT W s k 4).toUInt64 >>> ((nI 18).toInt64.toUInt64 &&& Int64.toUInt64 63)).toInt64) ||| ((rnds kT W s k 4) <<< ((nI 46).toInt64 &&& 63)))) ^^^ ((((rnds kT W s k 4).toUInt64 >>> ((nI 41).toInt64.toUInt64 &&& Int64.toUInt64 63)).toInt64) ||| ((rnds kT W s k 4) <<< ((nI 23).toInt64 &&& 63))))) + (((rnds kT W s k 4) &&& (rnds kT W s k 5)) ^^^ (((rnds kT W s k 4) ^^^ (-1)) &&& (rnds kT W s k 6)))) + ((fun j => tb_1.getD j 0) k)) + (W k))), (17, .int (nI k)), (1, .long (rnds kT W s k 0)), (3, .long (rnds kT W s k 1)), (5, .long (rnds kT W s k 2)), (7, .long (rnds kT W s k 3)), (0, .ref o)]) d_Dig_mix_334 (by decide) rfl ?_
    refine T_lload d_Dig_mix_336 rfl ?_
    refine T_lstore (L' := [(7, .long (rnds kT W s k 2)), (9, .long ((rnds kT W s k 3) + (((((rnds kT W s k 7) + ((((((rnds kT W s k 4).toUInt64 >>> ((nI 14).toInt64.toUInt64 &&& Int64.toUInt64 63)).toInt64) ||| ((rnds kT W s k 4) <<< ((nI 50).toInt64 &&& 63))) ^^^ ((((rnds kT W s k 4).toUInt64 >>> ((nI 18).toInt64.toUInt64 &&& Int64.toUInt64 63)).toInt64) ||| ((rnds kT W s k 4) <<< ((nI 46).toInt64 &&& 63)))) ^^^ ((((rnds kT W s k 4).toUInt64 >>> ((nI 41).toInt64.toUInt64 &&& Int64.toUInt64 63)).toInt64) ||| ((rnds kT W s k 4) <<< ((nI 23).toInt64 &&& 63))))) + (((rnds kT W s k 4) &&& (rnds kT W s k 5)) ^^^ (((rnds kT W s k 4) ^^^ (-1)) &&& (rnds kT W s k 6)))) + ((fun j => tb_1.getD j 0) k)) + (W k)))), (11, .long (rnds kT W s k 4)), (13, .long (rnds kT W s k 5)), (15, .long (rnds kT W s k 6)), (22, .long (((((((rnds kT W s k 0).toUInt64 >>> ((nI 28).toInt64.toUInt64 &&& Int64.toUInt64 63)).toInt64) ||| ((rnds kT W s k 0) <<< ((nI 36).toInt64 &&& 63))) ^^^ ((((rnds kT W s k 0).toUInt64 >>> ((nI 34).toInt64.toUInt64 &&& Int64.toUInt64 63)).toInt64) ||| ((rnds kT W s k 0) <<< ((nI 30).toInt64 &&& 63)))) ^^^ ((((rnds kT W s k 0).toUInt64 >>> ((nI 39).toInt64.toUInt64 &&& Int64.toUInt64 63)).toInt64) ||| ((rnds kT W s k 0) <<< ((nI 25).toInt64 &&& 63)))) + ((((rnds kT W s k 0) &&& (rnds kT W s k 1)) ^^^ ((rnds kT W s k 0) &&& (rnds kT W s k 2))) ^^^ ((rnds kT W s k 1) &&& (rnds kT W s k 2))))), (18, .long ((((((rnds kT W s k 0).toUInt64 >>> ((nI 28).toInt64.toUInt64 &&& Int64.toUInt64 63)).toInt64) ||| ((rnds kT W s k 0) <<< ((nI 36).toInt64 &&& 63))) ^^^ ((((rnds kT W s k 0).toUInt64 >>> ((nI 34).toInt64.toUInt64 &&& Int64.toUInt64 63)).toInt64) ||| ((rnds kT W s k 0) <<< ((nI 30).toInt64 &&& 63)))) ^^^ ((((rnds kT W s k 0).toUInt64 >>> ((nI 39).toInt64.toUInt64 &&& Int64.toUInt64 63)).toInt64) ||| ((rnds kT W s k 0) <<< ((nI 25).toInt64 &&& 63))))), (20, .long (((((rnds kT W s k 7) + ((((((rnds kT W s k 4).toUInt64 >>> ((nI 14).toInt64.toUInt64 &&& Int64.toUInt64 63)).toInt64) ||| ((rnds kT W s k 4) <<< ((nI 50).toInt64 &&& 63))) ^^^ ((((rnds kT W s k 4).toUInt64 >>> ((nI 18).toInt64.toUInt64 &&& Int64.toUInt64 63)).toInt64) ||| ((rnds kT W s k 4) <<< ((nI 46).toInt64 &&& 63)))) ^^^ ((((rnds kT W s k 4).toUInt64 >>> ((nI 41).toInt64.toUInt64 &&& Int64.toUInt64 63)).toInt64) ||| ((rnds kT W s k 4) <<< ((nI 23).toInt64 &&& 63))))) + (((rnds kT W s k 4) &&& (rnds kT W s k 5)) ^^^ (((rnds kT W s k 4) ^^^ (-1)) &&& (rnds kT W s k 6)))) + ((fun j => tb_1.getD j 0) k)) + (W k))), (17, .int (nI k)), (1, .long (rnds kT W s k 0)), (3, .long (rnds kT W s k 1)), (5, .long (rnds kT W s k 2)), (0, .ref o)]) d_Dig_mix_338 (by decide) rfl ?_
    refine T_lload_n d_Dig_mix_340 rfl ?_
    refine T_lstore (L' := [(5, .long (rnds kT W s k 1)), (7, .long (rnds kT W s k 2)), (9, .long ((rnds kT W s k 3) + (((((rnds kT W s k 7) + ((((((rnds kT W s k 4).toUInt64 >>> ((nI 14).toInt64.toUInt64 &&& Int64.toUInt64 63)).toInt64) ||| ((rnds kT W s k 4) <<< ((nI 50).toInt64 &&& 63))) ^^^ ((((rnds kT W s k 4).toUInt64 >>> ((nI 18).toInt64.toUInt64 &&& Int64.toUInt64 63)).toInt64) ||| ((rnds kT W s k 4) <<< ((nI 46).toInt64 &&& 63)))) ^^^ ((((rnds kT W s k 4).toUInt64 >>> ((nI 41).toInt64.toUInt64 &&& Int64.toUInt64 63)).toInt64) ||| ((rnds kT W s k 4) <<< ((nI 23).toInt64 &&& 63))))) + (((rnds kT W s k 4) &&& (rnds kT W s k 5)) ^^^ (((rnds kT W s k 4) ^^^ (-1)) &&& (rnds kT W s k 6)))) + ((fun j => tb_1.getD j 0) k)) + (W k)))), (11, .long (rnds kT W s k 4)), (13, .long (rnds kT W s k 5)), (15, .long (rnds kT W s k 6)), (22, .long (((((((rnds kT W s k 0).toUInt64 >>> ((nI 28).toInt64.toUInt64 &&& Int64.toUInt64 63)).toInt64) ||| ((rnds kT W s k 0) <<< ((nI 36).toInt64 &&& 63))) ^^^ ((((rnds kT W s k 0).toUInt64 >>> ((nI 34).toInt64.toUInt64 &&& Int64.toUInt64 63)).toInt64) ||| ((rnds kT W s k 0) <<< ((nI 30).toInt64 &&& 63)))) ^^^ ((((rnds kT W s k 0).toUInt64 >>> ((nI 39).toInt64.toUInt64 &&& Int64.toUInt64 63)).toInt64) ||| ((rnds kT W s k 0) <<< ((nI 25).toInt64 &&& 63)))) + ((((rnds kT W s k 0) &&& (rnds kT W s k 1)) ^^^ ((rnds kT W s k 0) &&& (rnds kT W s k 2))) ^^^ ((rnds kT W s k 1) &&& (rnds kT W s k 2))))), (18, .long ((((((rnds kT W s k 0).toUInt64 >>> ((nI 28).toInt64.toUInt64 &&& Int64.toUInt64 63)).toInt64) ||| ((rnds kT W s k 0) <<< ((nI 36).toInt64 &&& 63))) ^^^ ((((rnds kT W s k 0).toUInt64 >>> ((nI 34).toInt64.toUInt64 &&& Int64.toUInt64 63)).toInt64) ||| ((rnds kT W s k 0) <<< ((nI 30).toInt64 &&& 63)))) ^^^ ((((rnds kT W s k 0).toUInt64 >>> ((nI 39).toInt64.toUInt64 &&& Int64.toUInt64 63)).toInt64) ||| ((rnds kT W s k 0) <<< ((nI 25).toInt64 &&& 63))))), (20, .long (((((rnds kT W s k 7) + ((((((rnds kT W s k 4).toUInt64 >>> ((nI 14).toInt64.toUInt64 &&& Int64.toUInt64 63)).toInt64) ||| ((rnds kT W s k 4) <<< ((nI 50).toInt64 &&& 63))) ^^^ ((((rnds kT W s k 4).toUInt64 >>> ((nI 18).toInt64.toUInt64 &&& Int64.toUInt64 63)).toInt64) ||| ((rnds kT W s k 4) <<< ((nI 46).toInt64 &&& 63)))) ^^^ ((((rnds kT W s k 4).toUInt64 >>> ((nI 41).toInt64.toUInt64 &&& Int64.toUInt64 63)).toInt64) ||| ((rnds kT W s k 4) <<< ((nI 23).toInt64 &&& 63))))) + (((rnds kT W s k 4) &&& (rnds kT W s k 5)) ^^^ (((rnds kT W s k 4) ^^^ (-1)) &&& (rnds kT W s k 6)))) + ((fun j => tb_1.getD j 0) k)) + (W k))), (17, .int (nI k)), (1, .long (rnds kT W s k 0)), (3, .long (rnds kT W s k 1)), (0, .ref o)]) d_Dig_mix_341 (by decide) rfl ?_
    refine T_lload_n d_Dig_mix_343 rfl ?_
    refine T_lstore_n (L' := [(3, .long (rnds kT W s k 0)), (5, .long (rnds kT W s k 1)), (7, .long (rnds kT W s k 2)), (9, .long ((rnds kT W s k 3) + (((((rnds kT W s k 7) + ((((((rnds kT W s k 4).toUInt64 >>> ((nI 14).toInt64.toUInt64 &&& Int64.toUInt64 63)).toInt64) ||| ((rnds kT W s k 4) <<< ((nI 50).toInt64 &&& 63))) ^^^ ((((rnds kT W s k 4).toUInt64 >>> ((nI 18).toInt64.toUInt64 &&& Int64.toUInt64 63)).toInt64) ||| ((rnds kT W s k 4) <<< ((nI 46).toInt64 &&& 63)))) ^^^ ((((rnds kT W s k 4).toUInt64 >>> ((nI 41).toInt64.toUInt64 &&& Int64.toUInt64 63)).toInt64) ||| ((rnds kT W s k 4) <<< ((nI 23).toInt64 &&& 63))))) + (((rnds kT W s k 4) &&& (rnds kT W s k 5)) ^^^ (((rnds kT W s k 4) ^^^ (-1)) &&& (rnds kT W s k 6)))) + ((fun j => tb_1.getD j 0) k)) + (W k)))), (11, .long (rnds kT W s k 4)), (13, .long (rnds kT W s k 5)), (15, .long (rnds kT W s k 6)), (22, .long (((((((rnds kT W s k 0).toUInt64 >>> ((nI 28).toInt64.toUInt64 &&& Int64.toUInt64 63)).toInt64) ||| ((rnds kT W s k 0) <<< ((nI 36).toInt64 &&& 63))) ^^^ ((((rnds kT W s k 0).toUInt64 >>> ((nI 34).toInt64.toUInt64 &&& Int64.toUInt64 63)).toInt64) ||| ((rnds kT W s k 0) <<< ((nI 30).toInt64 &&& 63)))) ^^^ ((((rnds kT W s k 0).toUInt64 >>> ((nI 39).toInt64.toUInt64 &&& Int64.toUInt64 63)).toInt64) ||| ((rnds kT W s k 0) <<< ((nI 25).toInt64 &&& 63)))) + ((((rnds kT W s k 0) &&& (rnds kT W s k 1)) ^^^ ((rnds kT W s k 0) &&& (rnds kT W s k 2))) ^^^ ((rnds kT W s k 1) &&& (rnds kT W s k 2))))), (18, .long ((((((rnds kT W s k 0).toUInt64 >>> ((nI 28).toInt64.toUInt64 &&& Int64.toUInt64 63)).toInt64) ||| ((rnds kT W s k 0) <<< ((nI 36).toInt64 &&& 63))) ^^^ ((((rnds kT W s k 0).toUInt64 >>> ((nI 34).toInt64.toUInt64 &&& Int64.toUInt64 63)).toInt64) ||| ((rnds kT W s k 0) <<< ((nI 30).toInt64 &&& 63)))) ^^^ ((((rnds kT W s k 0).toUInt64 >>> ((nI 39).toInt64.toUInt64 &&& Int64.toUInt64 63)).toInt64) ||| ((rnds kT W s k 0) <<< ((nI 25).toInt64 &&& 63))))), (20, .long (((((rnds kT W s k 7) + ((((((rnds kT W s k 4).toUInt64 >>> ((nI 14).toInt64.toUInt64 &&& Int64.toUInt64 63)).toInt64) ||| ((rnds kT W s k 4) <<< ((nI 50).toInt64 &&& 63))) ^^^ ((((rnds kT W s k 4).toUInt64 >>> ((nI 18).toInt64.toUInt64 &&& Int64.toUInt64 63)).toInt64) ||| ((rnds kT W s k 4) <<< ((nI 46).toInt64 &&& 63)))) ^^^ ((((rnds kT W s k 4).toUInt64 >>> ((nI 41).toInt64.toUInt64 &&& Int64.toUInt64 63)).toInt64) ||| ((rnds kT W s k 4) <<< ((nI 23).toInt64 &&& 63))))) + (((rnds kT W s k 4) &&& (rnds kT W s k 5)) ^^^ (((rnds kT W s k 4) ^^^ (-1)) &&& (rnds kT W s k 6)))) + ((fun j => tb_1.getD j 0) k)) + (W k))), (17, .int (nI k)), (1, .long (rnds kT W s k 0)), (0, .ref o)]) d_Dig_mix_344 (by decide) rfl ?_
    refine T_lload d_Dig_mix_345 rfl ?_
    refine T_lload d_Dig_mix_347 rfl ?_
    refine T_ladd d_Dig_mix_349 ?_
    refine T_lstore_n (L' := [(1, .long ((((((rnds kT W s k 7) + ((((((rnds kT W s k 4).toUInt64 >>> ((nI 14).toInt64.toUInt64 &&& Int64.toUInt64 63)).toInt64) ||| ((rnds kT W s k 4) <<< ((nI 50).toInt64 &&& 63))) ^^^ ((((rnds kT W s k 4).toUInt64 >>> ((nI 18).toInt64.toUInt64 &&& Int64.toUInt64 63)).toInt64) ||| ((rnds kT W s k 4) <<< ((nI 46).toInt64 &&& 63)))) ^^^ ((((rnds kT W s k 4).toUInt64 >>> ((nI 41).toInt64.toUInt64 &&& Int64.toUInt64 63)).toInt64) ||| ((rnds kT W s k 4) <<< ((nI 23).toInt64 &&& 63))))) + (((rnds kT W s k 4) &&& (rnds kT W s k 5)) ^^^ (((rnds kT W s k 4) ^^^ (-1)) &&& (rnds kT W s k 6)))) + ((fun j => tb_1.getD j 0) k)) + (W k)) + (((((((rnds kT W s k 0).toUInt64 >>> ((nI 28).toInt64.toUInt64 &&& Int64.toUInt64 63)).toInt64) ||| ((rnds kT W s k 0) <<< ((nI 36).toInt64 &&& 63))) ^^^ ((((rnds kT W s k 0).toUInt64 >>> ((nI 34).toInt64.toUInt64 &&& Int64.toUInt64 63)).toInt64) ||| ((rnds kT W s k 0) <<< ((nI 30).toInt64 &&& 63)))) ^^^ ((((rnds kT W s k 0).toUInt64 >>> ((nI 39).toInt64.toUInt64 &&& Int64.toUInt64 63)).toInt64) ||| ((rnds kT W s k 0) <<< ((nI 25).toInt64 &&& 63)))) + ((((rnds kT W s k 0) &&& (rnds kT W s k 1)) ^^^ ((rnds kT W s k 0) &&& (rnds kT W s k 2))) ^^^ ((rnds kT W s k 1) &&& (rnds kT W s k 2)))))), (3, .long (rnds kT W s k 0)), (5, .long (rnds kT W s k 1)), (7, .long (rnds kT W s k 2)), (9, .long ((rnds kT W s k 3) + (((((rnds kT W s k 7) + ((((((rnds kT W s k 4).toUInt64 >>> ((nI 14).toInt64.toUInt64 &&& Int64.toUInt64 63)).toInt64) ||| ((rnds kT W s k 4) <<< ((nI 50).toInt64 &&& 63))) ^^^ ((((rnds kT W s k 4).toUInt64 >>> ((nI 18).toInt64.toUInt64 &&& Int64.toUInt64 63)).toInt64) ||| ((rnds kT W s k 4) <<< ((nI 46).toInt64 &&& 63)))) ^^^ ((((rnds kT W s k 4).toUInt64 >>> ((nI 41).toInt64.toUInt64 &&& Int64.toUInt64 63)).toInt64) ||| ((rnds kT W s k 4) <<< ((nI 23).toInt64 &&& 63))))) + (((rnds kT W s k 4) &&& (rnds kT W s k 5)) ^^^ (((rnds kT W s k 4) ^^^ (-1)) &&& (rnds kT W s k 6)))) + ((fun j => tb_1.getD j 0) k)) + (W k)))), (11, .long (rnds kT W s k 4)), (13, .long (rnds kT W s k 5)), (15, .long (rnds kT W s k 6)), (22, .long (((((((rnds kT W s k 0).toUInt64 >>> ((nI 28).toInt64.toUInt64 &&& Int64.toUInt64 63)).toInt64) ||| ((rnds kT W s k 0) <<< ((nI 36).toInt64 &&& 63))) ^^^ ((((rnds kT W s k 0).toUInt64 >>> ((nI 34).toInt64.toUInt64 &&& Int64.toUInt64 63)).toInt64) ||| ((rnds kT W s k 0) <<< ((nI 30).toInt64 &&& 63)))) ^^^ ((((rnds kT W s k 0).toUInt64 >>> ((nI 39).toInt64.toUInt64 &&& Int64.toUInt64 63)).toInt64) ||| ((rnds kT W s k 0) <<< ((nI 25).toInt64 &&& 63)))) + ((((rnds kT W s k 0) &&& (rnds kT W s k 1)) ^^^ ((rnds kT W s k 0) &&& (rnds kT W s k 2))) ^^^ ((rnds kT W s k 1) &&& (rnds kT W s k 2))))), (18, .long ((((((rnds kT W s k 0).toUInt64 >>> ((nI 28).toInt64.toUInt64 &&& Int64.toUInt64 63)).toInt64) ||| ((rnds kT W s k 0) <<< ((nI 36).toInt64 &&& 63))) ^^^ ((((rnds kT W s k 0).toUInt64 >>> ((nI 34).toInt64.toUInt64 &&& Int64.toUInt64 63)).toInt64) ||| ((rnds kT W s k 0) <<< ((nI 30).toInt64 &&& 63)))) ^^^ ((((rnds kT W s k 0).toUInt64 >>> ((nI 39).toInt64.toUInt64 &&& Int64.toUInt64 63)).toInt64) ||| ((rnds kT W s k 0) <<< ((nI 25).toInt64 &&& 63))))), (20, .long (((((rnds kT W s k 7) + ((((((rnds kT W s k 4).toUInt64 >>> ((nI 14).toInt64.toUInt64 &&& Int64.toUInt64 63)).toInt64) ||| ((rnds kT W s k 4) <<< ((nI 50).toInt64 &&& 63))) ^^^ ((((rnds kT W s k 4).toUInt64 >>> ((nI 18).toInt64.toUInt64 &&& Int64.toUInt64 63)).toInt64) ||| ((rnds kT W s k 4) <<< ((nI 46).toInt64 &&& 63)))) ^^^ ((((rnds kT W s k 4).toUInt64 >>> ((nI 41).toInt64.toUInt64 &&& Int64.toUInt64 63)).toInt64) ||| ((rnds kT W s k 4) <<< ((nI 23).toInt64 &&& 63))))) + (((rnds kT W s k 4) &&& (rnds kT W s k 5)) ^^^ (((rnds kT W s k 4) ^^^ (-1)) &&& (rnds kT W s k 6)))) + ((fun j => tb_1.getD j 0) k)) + (W k))), (17, .int (nI k)), (0, .ref o)]) d_Dig_mix_350 (by decide) rfl ?_
    refine T_eq (pc' := 351) (L' := [(1, .long (rnds kT W s (k + 1) 0)), (3, .long (rnds kT W s (k + 1) 1)), (5, .long (rnds kT W s (k + 1) 2)), (7, .long (rnds kT W s (k + 1) 3)), (9, .long (rnds kT W s (k + 1) 4)), (11, .long (rnds kT W s (k + 1) 5)), (13, .long (rnds kT W s (k + 1) 6)), (15, .long (rnds kT W s (k + 1) 7)), (22, .long (((((((rnds kT W s k 0).toUInt64 >>> ((nI 28).toInt64.toUInt64 &&& Int64.toUInt64 63)).toInt64) ||| ((rnds kT W s k 0) <<< ((nI 36).toInt64 &&& 63))) ^^^ ((((rnds kT W s k 0).toUInt64 >>> ((nI 34).toInt64.toUInt64 &&& Int64.toUInt64 63)).toInt64) ||| ((rnds kT W s k 0) <<< ((nI 30).toInt64 &&& 63)))) ^^^ ((((rnds kT W s k 0).toUInt64 >>> ((nI 39).toInt64.toUInt64 &&& Int64.toUInt64 63)).toInt64) ||| ((rnds kT W s k 0) <<< ((nI 25).toInt64 &&& 63)))) + ((((rnds kT W s k 0) &&& (rnds kT W s k 1)) ^^^ ((rnds kT W s k 0) &&& (rnds kT W s k 2))) ^^^ ((rnds kT W s k 1) &&& (rnds kT W s k 2))))), (18, .long ((((((rnds kT W s k 0).toUInt64 >>> ((nI 28).toInt64.toUInt64 &&& Int64.toUInt64 63)).toInt64) ||| ((rnds kT W s k 0) <<< ((nI 36).toInt64 &&& 63))) ^^^ ((((rnds kT W s k 0).toUInt64 >>> ((nI 34).toInt64.toUInt64 &&& Int64.toUInt64 63)).toInt64) ||| ((rnds kT W s k 0) <<< ((nI 30).toInt64 &&& 63)))) ^^^ ((((rnds kT W s k 0).toUInt64 >>> ((nI 39).toInt64.toUInt64 &&& Int64.toUInt64 63)).toInt64) ||| ((rnds kT W s k 0) <<< ((nI 25).toInt64 &&& 63))))), (20, .long (((((rnds kT W s k 7) + ((((((rnds kT W s k 4).toUInt64 >>> ((nI 14).toInt64.toUInt64 &&& Int64.toUInt64 63)).toInt64) ||| ((rnds kT W s k 4) <<< ((nI 50).toInt64 &&& 63))) ^^^ ((((rnds kT W s k 4).toUInt64 >>> ((nI 18).toInt64.toUInt64 &&& Int64.toUInt64 63)).toInt64) ||| ((rnds kT W s k 4) <<< ((nI 46).toInt64 &&& 63)))) ^^^ ((((rnds kT W s k 4).toUInt64 >>> ((nI 41).toInt64.toUInt64 &&& Int64.toUInt64 63)).toInt64) ||| ((rnds kT W s k 4) <<< ((nI 23).toInt64 &&& 63))))) + (((rnds kT W s k 4) &&& (rnds kT W s k 5)) ^^^ (((rnds kT W s k 4) ^^^ (-1)) &&& (rnds kT W s k 6)))) + ((fun j => tb_1.getD j 0) k)) + (W k))), (17, .int (nI k)), (0, .ref o)]) (st' := []) (M' := M0) rfl rfl rfl rfl ?_
    refine N_iinc (k := k) (m := 1) (c := (k + 1)) (L' := [(17, .int (nI ((k + 1)))), (1, .long (rnds kT W s (k + 1) 0)), (3, .long (rnds kT W s (k + 1) 1)), (5, .long (rnds kT W s (k + 1) 2)), (7, .long (rnds kT W s (k + 1) 3)), (9, .long (rnds kT W s (k + 1) 4)), (11, .long (rnds kT W s (k + 1) 5)), (13, .long (rnds kT W s (k + 1) 6)), (15, .long (rnds kT W s (k + 1) 7)), (22, .long (((((((rnds kT W s k 0).toUInt64 >>> ((nI 28).toInt64.toUInt64 &&& Int64.toUInt64 63)).toInt64) ||| ((rnds kT W s k 0) <<< ((nI 36).toInt64 &&& 63))) ^^^ ((((rnds kT W s k 0).toUInt64 >>> ((nI 34).toInt64.toUInt64 &&& Int64.toUInt64 63)).toInt64) ||| ((rnds kT W s k 0) <<< ((nI 30).toInt64 &&& 63)))) ^^^ ((((rnds kT W s k 0).toUInt64 >>> ((nI 39).toInt64.toUInt64 &&& Int64.toUInt64 63)).toInt64) ||| ((rnds kT W s k 0) <<< ((nI 25).toInt64 &&& 63)))) + ((((rnds kT W s k 0) &&& (rnds kT W s k 1)) ^^^ ((rnds kT W s k 0) &&& (rnds kT W s k 2))) ^^^ ((rnds kT W s k 1) &&& (rnds kT W s k 2))))), (18, .long ((((((rnds kT W s k 0).toUInt64 >>> ((nI 28).toInt64.toUInt64 &&& Int64.toUInt64 63)).toInt64) ||| ((rnds kT W s k 0) <<< ((nI 36).toInt64 &&& 63))) ^^^ ((((rnds kT W s k 0).toUInt64 >>> ((nI 34).toInt64.toUInt64 &&& Int64.toUInt64 63)).toInt64) ||| ((rnds kT W s k 0) <<< ((nI 30).toInt64 &&& 63)))) ^^^ ((((rnds kT W s k 0).toUInt64 >>> ((nI 39).toInt64.toUInt64 &&& Int64.toUInt64 63)).toInt64) ||| ((rnds kT W s k 0) <<< ((nI 25).toInt64 &&& 63))))), (20, .long (((((rnds kT W s k 7) + ((((((rnds kT W s k 4).toUInt64 >>> ((nI 14).toInt64.toUInt64 &&& Int64.toUInt64 63)).toInt64) ||| ((rnds kT W s k 4) <<< ((nI 50).toInt64 &&& 63))) ^^^ ((((rnds kT W s k 4).toUInt64 >>> ((nI 18).toInt64.toUInt64 &&& Int64.toUInt64 63)).toInt64) ||| ((rnds kT W s k 4) <<< ((nI 46).toInt64 &&& 63)))) ^^^ ((((rnds kT W s k 4).toUInt64 >>> ((nI 41).toInt64.toUInt64 &&& Int64.toUInt64 63)).toInt64) ||| ((rnds kT W s k 4) <<< ((nI 23).toInt64 &&& 63))))) + (((rnds kT W s k 4) &&& (rnds kT W s k 5)) ^^^ (((rnds kT W s k 4) ^^^ (-1)) &&& (rnds kT W s k 6)))) + ((fun j => tb_1.getD j 0) k)) + (W k))), (0, .ref o)]) d_Dig_mix_351 (by decide) rfl (by decide) rfl rfl ?_
    refine T_goto (tgt := 186) d_Dig_mix_354 rfl ?_
    exact T_sub (L' := [(17, .int (nI ((k + 1)))), (1, .long (rnds kT W s (k + 1) 0)), (3, .long (rnds kT W s (k + 1) 1)), (5, .long (rnds kT W s (k + 1) 2)), (7, .long (rnds kT W s (k + 1) 3)), (9, .long (rnds kT W s (k + 1) 4)), (11, .long (rnds kT W s (k + 1) 5)), (13, .long (rnds kT W s (k + 1) 6)), (15, .long (rnds kT W s (k + 1) 7)), (0, .ref o)]) (fun q hq => by simp only [List.mem_cons, List.not_mem_nil, or_false] at hq ⊢; rcases hq with rfl | rfl | rfl | rfl | rfl | rfl | rfl | rfl | rfl | rfl <;> simp) (ih (k + 1) (by omega))
set_option maxHeartbeats 8000000 in
set_option maxRecDepth 20000 in
theorem y_Dig_mix {G : GX} {M : List va_E} {o ps pw : Nat} {s w : Nat → Int64} (ho : M[o]? = some (diO ps pw)) (hs : M[ps]? = some (lr 8 s)) (hw : M[pw]? = some (lr 80 w)) (h_o_ps : o ≠ ps) (h_o_pw : o ≠ pw) (h_ps_pw : ps ≠ pw) (k_ps : K0 ≤ ps) (k_pw : K0 ≤ pw) : CT G mi_Dig_mix [.ref o] M (fun r M' => r = none ∧ (∃ S, M'[ps]? = some (lr 8 S) ∧ ∀ j, j < 8 → S j = comp s w j) ∧ (∃ S, M'[pw]? = some (lr 80 S)) ∧ Kp [ps, pw] M M') := by
  refine CT.of (by decide) (Nat.le_of_ble_eq_true rfl) ?_
  show TT G mi_Dig_mix 0 [(0, .ref o)] [] M 0 0 _
  refine T_know (fun hK0 => ?_)
  have ht : M[1]? = some (lr 80 (fun j => tb_1.getD j 0)) := hK0 1 (by decide)
  have h_1_pw : 1 ≠ pw := fun c => absurd k_pw (by rw [← c]; decide)
  have h_1_ps : 1 ≠ ps := fun c => absurd k_ps (by rw [← c]; decide)
  refine T_bipush (v := nI 16) d_Dig_mix_0 (by decide) ?_
  refine T_istore_n (L' := [(1, .int (nI 16)), (0, .ref o)]) d_Dig_mix_2 (by decide) rfl ?_
  refine mx_w G ho h_o_pw k_pw (fun Ma hI => ?_) 64 16 M rfl ⟨by decide, hw, Kp.rf⟩
  obtain ⟨-, h1, hK⟩ := hI
  refine T_aload_n (v := .ref o) d_Dig_mix_119 rfl (Or.inr ⟨_, rfl⟩) ?_
  have h_1 := (hK o (by simp only [List.mem_cons, List.not_mem_nil, or_false]; exact h_o_pw)).trans (ho)
  refine T_getfield (v := .ref ps) d_Dig_mix_120 fg_Dig_7 h_1 rfl ?_
  refine T_iconst (v := nI 0) d_Dig_mix_123 (by decide) ?_
  have h_2 := (hK ps (by simp only [List.mem_cons, List.not_mem_nil, or_false]; exact h_ps_pw)).trans (hs)
  refine N_laload (k := 0) (x := (s 0)) d_Dig_mix_124 h_2 (by omega) (by decide) rfl ?_
  refine T_lstore_n (L' := [(1, .long (s 0)), (0, .ref o)]) d_Dig_mix_125 (by decide) rfl ?_
  refine T_aload_n (v := .ref o) d_Dig_mix_126 rfl (Or.inr ⟨_, rfl⟩) ?_
  refine T_getfield (v := .ref ps) d_Dig_mix_127 fg_Dig_7 h_1 rfl ?_
  refine T_iconst (v := nI 1) d_Dig_mix_130 (by decide) ?_
  refine N_laload (k := 1) (x := (s 1)) d_Dig_mix_131 h_2 (by omega) (by decide) rfl ?_
  refine T_lstore_n (L' := [(3, .long (s 1)), (1, .long (s 0)), (0, .ref o)]) d_Dig_mix_132 (by decide) rfl ?_
  refine T_aload_n (v := .ref o) d_Dig_mix_133 rfl (Or.inr ⟨_, rfl⟩) ?_
  refine T_getfield (v := .ref ps) d_Dig_mix_134 fg_Dig_7 h_1 rfl ?_
  refine T_iconst (v := nI 2) d_Dig_mix_137 (by decide) ?_
  refine N_laload (k := 2) (x := (s 2)) d_Dig_mix_138 h_2 (by omega) (by decide) rfl ?_
  refine T_lstore (L' := [(5, .long (s 2)), (3, .long (s 1)), (1, .long (s 0)), (0, .ref o)]) d_Dig_mix_139 (by decide) rfl ?_
  refine T_aload_n (v := .ref o) d_Dig_mix_141 rfl (Or.inr ⟨_, rfl⟩) ?_
  refine T_getfield (v := .ref ps) d_Dig_mix_142 fg_Dig_7 h_1 rfl ?_
  refine T_iconst (v := nI 3) d_Dig_mix_145 (by decide) ?_
  refine N_laload (k := 3) (x := (s 3)) d_Dig_mix_146 h_2 (by omega) (by decide) rfl ?_
  refine T_lstore (L' := [(7, .long (s 3)), (5, .long (s 2)), (3, .long (s 1)), (1, .long (s 0)), (0, .ref o)]) d_Dig_mix_147 (by decide) rfl ?_
  refine T_aload_n (v := .ref o) d_Dig_mix_149 rfl (Or.inr ⟨_, rfl⟩) ?_
  refine T_getfield (v := .ref ps) d_Dig_mix_150 fg_Dig_7 h_1 rfl ?_
  refine T_iconst (v := nI 4) d_Dig_mix_153 (by decide) ?_
  refine N_laload (k := 4) (x := (s 4)) d_Dig_mix_154 h_2 (by omega) (by decide) rfl ?_
  refine T_lstore (L' := [(9, .long (s 4)), (7, .long (s 3)), (5, .long (s 2)), (3, .long (s 1)), (1, .long (s 0)), (0, .ref o)]) d_Dig_mix_155 (by decide) rfl ?_
  refine T_aload_n (v := .ref o) d_Dig_mix_157 rfl (Or.inr ⟨_, rfl⟩) ?_
  refine T_getfield (v := .ref ps) d_Dig_mix_158 fg_Dig_7 h_1 rfl ?_
  refine T_iconst (v := nI 5) d_Dig_mix_161 (by decide) ?_
  refine N_laload (k := 5) (x := (s 5)) d_Dig_mix_162 h_2 (by omega) (by decide) rfl ?_
  refine T_lstore (L' := [(11, .long (s 5)), (9, .long (s 4)), (7, .long (s 3)), (5, .long (s 2)), (3, .long (s 1)), (1, .long (s 0)), (0, .ref o)]) d_Dig_mix_163 (by decide) rfl ?_
  refine T_aload_n (v := .ref o) d_Dig_mix_165 rfl (Or.inr ⟨_, rfl⟩) ?_
  refine T_getfield (v := .ref ps) d_Dig_mix_166 fg_Dig_7 h_1 rfl ?_
  refine T_bipush (v := nI 6) d_Dig_mix_169 (by decide) ?_
  refine N_laload (k := 6) (x := (s 6)) d_Dig_mix_171 h_2 (by omega) (by decide) rfl ?_
  refine T_lstore (L' := [(13, .long (s 6)), (11, .long (s 5)), (9, .long (s 4)), (7, .long (s 3)), (5, .long (s 2)), (3, .long (s 1)), (1, .long (s 0)), (0, .ref o)]) d_Dig_mix_172 (by decide) rfl ?_
  refine T_aload_n (v := .ref o) d_Dig_mix_174 rfl (Or.inr ⟨_, rfl⟩) ?_
  refine T_getfield (v := .ref ps) d_Dig_mix_175 fg_Dig_7 h_1 rfl ?_
  refine T_bipush (v := nI 7) d_Dig_mix_178 (by decide) ?_
  refine N_laload (k := 7) (x := (s 7)) d_Dig_mix_180 h_2 (by omega) (by decide) rfl ?_
  refine T_lstore (L' := [(15, .long (s 7)), (13, .long (s 6)), (11, .long (s 5)), (9, .long (s 4)), (7, .long (s 3)), (5, .long (s 2)), (3, .long (s 1)), (1, .long (s 0)), (0, .ref o)]) d_Dig_mix_181 (by decide) rfl ?_
  refine T_iconst (v := nI 0) d_Dig_mix_183 (by decide) ?_
  refine T_istore (L' := [(17, .int (nI 0)), (15, .long (s 7)), (13, .long (s 6)), (11, .long (s 5)), (9, .long (s 4)), (7, .long (s 3)), (5, .long (s 2)), (3, .long (s 1)), (1, .long (s 0)), (0, .ref o)]) d_Dig_mix_184 (by decide) rfl ?_
  refine T_sub (L' := [(17, .int (nI 0)), (1, .long (rnds kT (sch w 64) s 0 0)), (3, .long (rnds kT (sch w 64) s 0 1)), (5, .long (rnds kT (sch w 64) s 0 2)), (7, .long (rnds kT (sch w 64) s 0 3)), (9, .long (rnds kT (sch w 64) s 0 4)), (11, .long (rnds kT (sch w 64) s 0 5)), (13, .long (rnds kT (sch w 64) s 0 6)), (15, .long (rnds kT (sch w 64) s 0 7)), (0, .ref o)]) (fun q hq => ?_) ?_
  · simp only [List.mem_cons, List.not_mem_nil, or_false] at hq ⊢; rcases hq with rfl | rfl | rfl | rfl | rfl | rfl | rfl | rfl | rfl | rfl <;> simp [rnds]
  have h_3 := (hK 1 (by simp only [List.mem_cons, List.not_mem_nil, or_false]; exact h_1_pw)).trans (ht)
  refine mx_r G h_1 h1 h_3 ?_ 80 0 rfl
  refine T_aload_n (v := .ref o) d_Dig_mix_357 rfl (Or.inr ⟨_, rfl⟩) ?_
  refine T_getfield (v := .ref ps) d_Dig_mix_358 fg_Dig_7 h_1 rfl ?_
  refine T_iconst (v := nI 0) d_Dig_mix_361 (by decide) ?_
  refine T_dup2 d_Dig_mix_362 rfl rfl ?_
  refine N_laload (k := 0) (x := (s 0)) d_Dig_mix_363 h_2 (by omega) (by decide) rfl ?_
  refine T_lload_n d_Dig_mix_364 rfl ?_
  refine T_ladd d_Dig_mix_365 ?_
  refine N_lastore (k := 0) d_Dig_mix_366 k_ps h_2 (by omega) (by decide) rfl (fun M_4 h_5 s_6 => ?_)
  refine T_aload_n (v := .ref o) d_Dig_mix_367 rfl (Or.inr ⟨_, rfl⟩) ?_
  have h_7 := (s_6 o h_o_ps).trans (h_1)
  refine T_getfield (v := .ref ps) d_Dig_mix_368 fg_Dig_7 h_7 rfl ?_
  refine T_iconst (v := nI 1) d_Dig_mix_371 (by decide) ?_
  refine T_dup2 d_Dig_mix_372 rfl rfl ?_
  refine N_laload (k := 1) (x := (s 1)) d_Dig_mix_373 h_5 (by omega) (by decide) rfl ?_
  refine T_lload_n d_Dig_mix_374 rfl ?_
  refine T_ladd d_Dig_mix_375 ?_
  refine N_lastore (k := 1) d_Dig_mix_376 k_ps h_5 (by omega) (by decide) rfl (fun M_8 h_9 s_10 => ?_)
  refine T_aload_n (v := .ref o) d_Dig_mix_377 rfl (Or.inr ⟨_, rfl⟩) ?_
  have h_11 := (s_10 o h_o_ps).trans (h_7)
  refine T_getfield (v := .ref ps) d_Dig_mix_378 fg_Dig_7 h_11 rfl ?_
  refine T_iconst (v := nI 2) d_Dig_mix_381 (by decide) ?_
  refine T_dup2 d_Dig_mix_382 rfl rfl ?_
  refine N_laload (k := 2) (x := (s 2)) d_Dig_mix_383 h_9 (by omega) (by decide) rfl ?_
  refine T_lload d_Dig_mix_384 rfl ?_
  refine T_ladd d_Dig_mix_386 ?_
  refine N_lastore (k := 2) d_Dig_mix_387 k_ps h_9 (by omega) (by decide) rfl (fun M_12 h_13 s_14 => ?_)
  refine T_aload_n (v := .ref o) d_Dig_mix_388 rfl (Or.inr ⟨_, rfl⟩) ?_
  have h_15 := (s_14 o h_o_ps).trans (h_11)
  refine T_getfield (v := .ref ps) d_Dig_mix_389 fg_Dig_7 h_15 rfl ?_
  refine T_iconst (v := nI 3) d_Dig_mix_392 (by decide) ?_
  refine T_dup2 d_Dig_mix_393 rfl rfl ?_
  refine N_laload (k := 3) (x := (s 3)) d_Dig_mix_394 h_13 (by omega) (by decide) rfl ?_
  refine T_lload d_Dig_mix_395 rfl ?_
  refine T_ladd d_Dig_mix_397 ?_
  refine N_lastore (k := 3) d_Dig_mix_398 k_ps h_13 (by omega) (by decide) rfl (fun M_16 h_17 s_18 => ?_)
  refine T_aload_n (v := .ref o) d_Dig_mix_399 rfl (Or.inr ⟨_, rfl⟩) ?_
  have h_19 := (s_18 o h_o_ps).trans (h_15)
  refine T_getfield (v := .ref ps) d_Dig_mix_400 fg_Dig_7 h_19 rfl ?_
  refine T_iconst (v := nI 4) d_Dig_mix_403 (by decide) ?_
  refine T_dup2 d_Dig_mix_404 rfl rfl ?_
  refine N_laload (k := 4) (x := (s 4)) d_Dig_mix_405 h_17 (by omega) (by decide) rfl ?_
  refine T_lload d_Dig_mix_406 rfl ?_
  refine T_ladd d_Dig_mix_408 ?_
  refine N_lastore (k := 4) d_Dig_mix_409 k_ps h_17 (by omega) (by decide) rfl (fun M_20 h_21 s_22 => ?_)
  refine T_aload_n (v := .ref o) d_Dig_mix_410 rfl (Or.inr ⟨_, rfl⟩) ?_
  have h_23 := (s_22 o h_o_ps).trans (h_19)
  refine T_getfield (v := .ref ps) d_Dig_mix_411 fg_Dig_7 h_23 rfl ?_
  refine T_iconst (v := nI 5) d_Dig_mix_414 (by decide) ?_
  refine T_dup2 d_Dig_mix_415 rfl rfl ?_
  refine N_laload (k := 5) (x := (s 5)) d_Dig_mix_416 h_21 (by omega) (by decide) rfl ?_
  refine T_lload d_Dig_mix_417 rfl ?_
  refine T_ladd d_Dig_mix_419 ?_
  refine N_lastore (k := 5) d_Dig_mix_420 k_ps h_21 (by omega) (by decide) rfl (fun M_24 h_25 s_26 => ?_)
  refine T_aload_n (v := .ref o) d_Dig_mix_421 rfl (Or.inr ⟨_, rfl⟩) ?_
  have h_27 := (s_26 o h_o_ps).trans (h_23)
  refine T_getfield (v := .ref ps) d_Dig_mix_422 fg_Dig_7 h_27 rfl ?_
  refine T_bipush (v := nI 6) d_Dig_mix_425 (by decide) ?_
  refine T_dup2 d_Dig_mix_427 rfl rfl ?_
  refine N_laload (k := 6) (x := (s 6)) d_Dig_mix_428 h_25 (by omega) (by decide) rfl ?_
  refine T_lload d_Dig_mix_429 rfl ?_
  refine T_ladd d_Dig_mix_431 ?_
  refine N_lastore (k := 6) d_Dig_mix_432 k_ps h_25 (by omega) (by decide) rfl (fun M_28 h_29 s_30 => ?_)
  refine T_aload_n (v := .ref o) d_Dig_mix_433 rfl (Or.inr ⟨_, rfl⟩) ?_
  have h_31 := (s_30 o h_o_ps).trans (h_27)
  refine T_getfield (v := .ref ps) d_Dig_mix_434 fg_Dig_7 h_31 rfl ?_
  refine T_bipush (v := nI 7) d_Dig_mix_437 (by decide) ?_
  refine T_dup2 d_Dig_mix_439 rfl rfl ?_
  refine N_laload (k := 7) (x := (s 7)) d_Dig_mix_440 h_29 (by omega) (by decide) rfl ?_
  refine T_lload d_Dig_mix_441 rfl ?_
  refine T_ladd d_Dig_mix_443 ?_
  refine N_lastore (k := 7) d_Dig_mix_444 k_ps h_29 (by omega) (by decide) rfl (fun M_32 h_33 s_34 => ?_)
  have h_35 := (s_34 pw (Ne.symm h_ps_pw)).trans ((s_30 pw (Ne.symm h_ps_pw)).trans ((s_26 pw (Ne.symm h_ps_pw)).trans ((s_22 pw (Ne.symm h_ps_pw)).trans ((s_18 pw (Ne.symm h_ps_pw)).trans ((s_14 pw (Ne.symm h_ps_pw)).trans ((s_10 pw (Ne.symm h_ps_pw)).trans ((s_6 pw (Ne.symm h_ps_pw)).trans (h1))))))))
  refine T_vret d_Dig_mix_445 rfl (by decide) (by decide) ⟨rfl, ⟨_, h_33, fun j hj => ?_⟩, ⟨_, h_35⟩, (Kp.ex (Kp.ex (Kp.ex (Kp.ex (Kp.ex (Kp.ex (Kp.ex (Kp.ex (Kp.tr (Kp.rf : Kp [ps, pw] M M) (Kp.mono hK (by simp))) s_6 (by simp)) s_10 (by simp)) s_14 (by simp)) s_18 (by simp)) s_22 (by simp)) s_26 (by simp)) s_30 (by simp)) s_34 (by simp))⟩
  match j, hj with
  | 0, _ => rfl
  | 1, _ => rfl
  | 2, _ => rfl
  | 3, _ => rfl
  | 4, _ => rfl
  | 5, _ => rfl
  | 6, _ => rfl
  | 7, _ => rfl
set_option maxHeartbeats 8000000 in
theorem ld_in (G : GX) {M0 : List va_E} {o q d n st0 t : Nat} {l : List UInt8} {f : Nat → Int32} (hq : M0[q]? = some (byO d l.length)) (hf : M0[d]? = some (br n f)) (hl : l.length ≤ n) (hn : n < 2 ^ 30) (hv : ∀ i, i < l.length → f i = cB (gd l i)) (ht : t < 16) (hs : st0 < 2 ^ 30) {Q : Option Value → List va_E → Prop} (kk : TT G mi_Dig_load 91 [(4, .long (wd8 l (st0 + 8 * t) 8)), (3, .int (nI t)), (0, .ref o), (1, .ref q), (2, .int (nI st0))] [] M0 0 0 Q) : ∀ j k, k + j = (st0 + 8 * t + 8) → (st0 + 8 * t) ≤ k → TT G mi_Dig_load 19 [(6, .int (nI k)), (4, .long (wd8 l (st0 + 8 * t) (k - (st0 + 8 * t)))), (3, .int (nI t)), (0, .ref o), (1, .ref q), (2, .int (nI st0))] [] M0 0 0 Q := by
  intro j
  induction j with
  | zero =>
    intro k hk hk2
    obtain rfl : k = (st0 + 8 * t + 8) := by omega
    refine T_iload d_Dig_load_19 rfl ?_
    refine T_iload_n d_Dig_load_21 rfl ?_
    refine T_bipush (v := nI 8) d_Dig_load_22 (by decide) ?_
    refine T_iload_n d_Dig_load_24 rfl ?_
    refine N_imul (a := t) (b := 8) (c := (8 * t)) d_Dig_load_25 rfl ?_
    refine N_iadd (a := (8 * t)) (b := st0) (c := (st0 + (8 * t))) d_Dig_load_26 rfl ?_
    refine T_bipush (v := nI 8) d_Dig_load_27 (by decide) ?_
    refine N_iadd (a := 8) (b := (st0 + (8 * t))) (c := ((st0 + (8 * t)) + 8)) d_Dig_load_29 rfl ?_
    refine N_icmp_ge_t (a := ((st0 + (8 * t)) + 8)) (b := (st0 + 8 * t + 8)) d_Dig_load_30 (tgt := 91) rfl (by omega) (by omega) (by omega) ?_
    refine T_eq (pc' := 91) (L' := [(6, .int (nI ((st0 + 8 * t + 8)))), (4, .long (wd8 l (st0 + 8 * t) 8)), (3, .int (nI t)), (0, .ref o), (1, .ref q), (2, .int (nI st0))]) (st' := []) (M' := M0) rfl (by rw [show (st0 + 8 * t + 8) - (st0 + 8 * t) = 8 by omega]) rfl rfl ?_
    exact T_sub (fun q hq => List.mem_cons_of_mem _ hq) kk
  | succ j ih =>
    intro k hk hk2
    refine T_iload d_Dig_load_19 rfl ?_
    refine T_iload_n d_Dig_load_21 rfl ?_
    refine T_bipush (v := nI 8) d_Dig_load_22 (by decide) ?_
    refine T_iload_n d_Dig_load_24 rfl ?_
    refine N_imul (a := t) (b := 8) (c := (8 * t)) d_Dig_load_25 rfl ?_
    refine N_iadd (a := (8 * t)) (b := st0) (c := (st0 + (8 * t))) d_Dig_load_26 rfl ?_
    refine T_bipush (v := nI 8) d_Dig_load_27 (by decide) ?_
    refine N_iadd (a := 8) (b := (st0 + (8 * t))) (c := ((st0 + (8 * t)) + 8)) d_Dig_load_29 rfl ?_
    refine N_icmp_ge_f (a := ((st0 + (8 * t)) + 8)) (b := k) d_Dig_load_30 (tgt := 91) rfl (by omega) (by omega) (by omega) ?_
    refine T_iload d_Dig_load_33 rfl ?_
    refine T_aload_n (v := .ref q) d_Dig_load_35 rfl (Or.inr ⟨_, rfl⟩) ?_
    refine T_getfield (v := .int (nI (l.length))) d_Dig_load_36 fg_Dig_25 hq rfl ?_
    refine N_icmp_ge (a := l.length) (b := k) d_Dig_load_39 (tgt := 56) rfl (by omega) (by omega) (fun hlt => ?_) (fun hlt => ?_)
    ·
      refine T_iload d_Dig_load_56 rfl ?_
      refine T_aload_n (v := .ref q) d_Dig_load_58 rfl (Or.inr ⟨_, rfl⟩) ?_
      refine T_getfield (v := .int (nI (l.length))) d_Dig_load_59 fg_Dig_25 hq rfl ?_
      refine N_icmp_ne (a := l.length) (b := k) d_Dig_load_62 (tgt := 71) rfl (by omega) (by omega) (fun heq => ?_) (fun heq => ?_)
      ·
        refine T_iconst (v := nI 0) d_Dig_load_71 (by decide) ?_
        refine N_topi (y := (oc l k)) (by unfold oc; rw [if_neg (by omega), if_neg (by omega)]) ?_
        refine T_istore (L' := [(7, .int (oc l k)), (6, .int (nI k)), (4, .long (wd8 l (st0 + 8 * t) (k - (st0 + 8 * t)))), (3, .int (nI t)), (0, .ref o), (1, .ref q), (2, .int (nI st0))]) d_Dig_load_72 (by decide) rfl ?_
        refine T_lload d_Dig_load_74 rfl ?_
        refine T_bipush (v := nI 8) d_Dig_load_76 (by decide) ?_
        refine T_lshl d_Dig_load_78 ?_
        refine T_iload d_Dig_load_79 rfl ?_
        refine T_i2l d_Dig_load_81 ?_
        refine T_lor d_Dig_load_82 ?_
        refine T_lstore (L' := [(4, .long (((wd8 l (st0 + 8 * t) (k - (st0 + 8 * t))) <<< ((nI 8).toInt64 &&& 63)) ||| ((oc l k).toInt64))), (7, .int (oc l k)), (6, .int (nI k)), (3, .int (nI t)), (0, .ref o), (1, .ref q), (2, .int (nI st0))]) d_Dig_load_83 (by decide) rfl ?_
        refine T_eq (pc' := 85) (L' := [(4, .long (wd8 l (st0 + 8 * t) (k + 1 - (st0 + 8 * t)))), (7, .int (oc l k)), (6, .int (nI k)), (3, .int (nI t)), (0, .ref o), (1, .ref q), (2, .int (nI st0))]) (st' := []) (M' := M0) rfl (by rw [show k + 1 - (st0 + 8 * t) = (k - (st0 + 8 * t)) + 1 by omega, wd8_s, show (st0 + 8 * t) + (k - (st0 + 8 * t)) = k by omega]; rfl) rfl rfl ?_
        refine N_iinc (k := k) (m := 1) (c := (k + 1)) (L' := [(6, .int (nI ((k + 1)))), (4, .long (wd8 l (st0 + 8 * t) (k + 1 - (st0 + 8 * t)))), (7, .int (oc l k)), (3, .int (nI t)), (0, .ref o), (1, .ref q), (2, .int (nI st0))]) d_Dig_load_85 (by decide) rfl (by decide) rfl rfl ?_
        refine T_goto (tgt := 19) d_Dig_load_88 rfl ?_
        exact T_sub (L' := [(6, .int (nI ((k + 1)))), (4, .long (wd8 l (st0 + 8 * t) ((k + 1) - (st0 + 8 * t)))), (3, .int (nI t)), (0, .ref o), (1, .ref q), (2, .int (nI st0))]) (fun q hq => by simp only [List.mem_cons, List.not_mem_nil, or_false] at hq ⊢; rcases hq with rfl | rfl | rfl | rfl | rfl | rfl <;> simp) (ih (k + 1) (by omega) (by omega))
      ·
        refine T_sipush (v := nI 128) d_Dig_load_65 (by decide) ?_
        refine T_goto (tgt := 72) d_Dig_load_68 rfl ?_
        refine N_topi (y := (oc l k)) (by unfold oc; rw [if_neg (by omega), if_pos (by omega)]) ?_
        refine T_istore (L' := [(7, .int (oc l k)), (6, .int (nI k)), (4, .long (wd8 l (st0 + 8 * t) (k - (st0 + 8 * t)))), (3, .int (nI t)), (0, .ref o), (1, .ref q), (2, .int (nI st0))]) d_Dig_load_72 (by decide) rfl ?_
        refine T_lload d_Dig_load_74 rfl ?_
        refine T_bipush (v := nI 8) d_Dig_load_76 (by decide) ?_
        refine T_lshl d_Dig_load_78 ?_
        refine T_iload d_Dig_load_79 rfl ?_
        refine T_i2l d_Dig_load_81 ?_
        refine T_lor d_Dig_load_82 ?_
        refine T_lstore (L' := [(4, .long (((wd8 l (st0 + 8 * t) (k - (st0 + 8 * t))) <<< ((nI 8).toInt64 &&& 63)) ||| ((oc l k).toInt64))), (7, .int (oc l k)), (6, .int (nI k)), (3, .int (nI t)), (0, .ref o), (1, .ref q), (2, .int (nI st0))]) d_Dig_load_83 (by decide) rfl ?_
        refine T_eq (pc' := 85) (L' := [(4, .long (wd8 l (st0 + 8 * t) (k + 1 - (st0 + 8 * t)))), (7, .int (oc l k)), (6, .int (nI k)), (3, .int (nI t)), (0, .ref o), (1, .ref q), (2, .int (nI st0))]) (st' := []) (M' := M0) rfl (by rw [show k + 1 - (st0 + 8 * t) = (k - (st0 + 8 * t)) + 1 by omega, wd8_s, show (st0 + 8 * t) + (k - (st0 + 8 * t)) = k by omega]; rfl) rfl rfl ?_
        refine N_iinc (k := k) (m := 1) (c := (k + 1)) (L' := [(6, .int (nI ((k + 1)))), (4, .long (wd8 l (st0 + 8 * t) (k + 1 - (st0 + 8 * t)))), (7, .int (oc l k)), (3, .int (nI t)), (0, .ref o), (1, .ref q), (2, .int (nI st0))]) d_Dig_load_85 (by decide) rfl (by decide) rfl rfl ?_
        refine T_goto (tgt := 19) d_Dig_load_88 rfl ?_
        exact T_sub (L' := [(6, .int (nI ((k + 1)))), (4, .long (wd8 l (st0 + 8 * t) ((k + 1) - (st0 + 8 * t)))), (3, .int (nI t)), (0, .ref o), (1, .ref q), (2, .int (nI st0))]) (fun q hq => by simp only [List.mem_cons, List.not_mem_nil, or_false] at hq ⊢; rcases hq with rfl | rfl | rfl | rfl | rfl | rfl <;> simp) (ih (k + 1) (by omega) (by omega))
    ·
      refine T_aload_n (v := .ref q) d_Dig_load_42 rfl (Or.inr ⟨_, rfl⟩) ?_
      refine T_getfield (v := .ref d) d_Dig_load_43 fg_Dig_40 hq rfl ?_
      refine T_iload d_Dig_load_46 rfl ?_
      refine N_baload (k := k) (x := (cB (gd l k))) d_Dig_load_48 hf (by omega) (by omega) (hv k (by omega)) ?_
      refine T_sipush (v := nI 255) d_Dig_load_49 (by decide) ?_
      refine T_iand d_Dig_load_52 ?_
      refine T_goto (tgt := 72) d_Dig_load_53 rfl ?_
      refine N_topi (y := (oc l k)) (by unfold oc; rw [if_pos (by omega)]; exact cB_255 _) ?_
      refine T_istore (L' := [(7, .int (oc l k)), (6, .int (nI k)), (4, .long (wd8 l (st0 + 8 * t) (k - (st0 + 8 * t)))), (3, .int (nI t)), (0, .ref o), (1, .ref q), (2, .int (nI st0))]) d_Dig_load_72 (by decide) rfl ?_
      refine T_lload d_Dig_load_74 rfl ?_
      refine T_bipush (v := nI 8) d_Dig_load_76 (by decide) ?_
      refine T_lshl d_Dig_load_78 ?_
      refine T_iload d_Dig_load_79 rfl ?_
      refine T_i2l d_Dig_load_81 ?_
      refine T_lor d_Dig_load_82 ?_
      refine T_lstore (L' := [(4, .long (((wd8 l (st0 + 8 * t) (k - (st0 + 8 * t))) <<< ((nI 8).toInt64 &&& 63)) ||| ((oc l k).toInt64))), (7, .int (oc l k)), (6, .int (nI k)), (3, .int (nI t)), (0, .ref o), (1, .ref q), (2, .int (nI st0))]) d_Dig_load_83 (by decide) rfl ?_
      refine T_eq (pc' := 85) (L' := [(4, .long (wd8 l (st0 + 8 * t) (k + 1 - (st0 + 8 * t)))), (7, .int (oc l k)), (6, .int (nI k)), (3, .int (nI t)), (0, .ref o), (1, .ref q), (2, .int (nI st0))]) (st' := []) (M' := M0) rfl (by rw [show k + 1 - (st0 + 8 * t) = (k - (st0 + 8 * t)) + 1 by omega, wd8_s, show (st0 + 8 * t) + (k - (st0 + 8 * t)) = k by omega]; rfl) rfl rfl ?_
      refine N_iinc (k := k) (m := 1) (c := (k + 1)) (L' := [(6, .int (nI ((k + 1)))), (4, .long (wd8 l (st0 + 8 * t) (k + 1 - (st0 + 8 * t)))), (7, .int (oc l k)), (3, .int (nI t)), (0, .ref o), (1, .ref q), (2, .int (nI st0))]) d_Dig_load_85 (by decide) rfl (by decide) rfl rfl ?_
      refine T_goto (tgt := 19) d_Dig_load_88 rfl ?_
      exact T_sub (L' := [(6, .int (nI ((k + 1)))), (4, .long (wd8 l (st0 + 8 * t) ((k + 1) - (st0 + 8 * t)))), (3, .int (nI t)), (0, .ref o), (1, .ref q), (2, .int (nI st0))]) (fun q hq => by simp only [List.mem_cons, List.not_mem_nil, or_false] at hq ⊢; rcases hq with rfl | rfl | rfl | rfl | rfl | rfl <;> simp) (ih (k + 1) (by omega) (by omega))
set_option maxHeartbeats 8000000 in
theorem ld_lp (G : GX) {M0 : List va_E} {o ps pw q d n st0 : Nat} {l : List UInt8} {f : Nat → Int32} (ho : M0[o]? = some (diO ps pw)) (hq : M0[q]? = some (byO d l.length)) (hf : M0[d]? = some (br n f)) (hl : l.length ≤ n) (hn : n < 2 ^ 30) (hv : ∀ i, i < l.length → f i = cB (gd l i)) (hs : st0 < 2 ^ 30) (h_o_pw : o ≠ pw) (h_q_pw : q ≠ pw) (h_d_pw : d ≠ pw) (k_pw : K0 ≤ pw) {Q : Option Value → List va_E → Prop} (kk : ∀ M, (∃ W, M[pw]? = some (lr 80 W) ∧ ∀ i, i < 16 → W i = wd8 l (st0 + 8 * i) 8) ∧ Kp [pw] M0 M → TT G mi_Dig_load 105 [(0, .ref o), (1, .ref q), (2, .int (nI st0))] [] M 0 0 Q) : ∀ j k M, k + j = 16 → (∃ W, M[pw]? = some (lr 80 W) ∧ ∀ i, i < k → W i = wd8 l (st0 + 8 * i) 8) ∧ Kp [pw] M0 M → TT G mi_Dig_load 2 [(3, .int (nI k)), (0, .ref o), (1, .ref q), (2, .int (nI st0))] [] M 0 0 Q := by
  intro j
  induction j with
  | zero =>
    intro k M hk hI
    obtain rfl : 16 = k := by omega
    refine T_iload_n d_Dig_load_2 rfl ?_
    refine T_bipush (v := nI 16) d_Dig_load_3 (by decide) ?_
    refine N_icmp_ge_t (a := 16) (b := 16) d_Dig_load_5 (tgt := 105) rfl (by omega) (by omega) (by omega) ?_
    exact T_sub (fun q hq => List.mem_cons_of_mem _ hq) (kk M hI)
  | succ j ih =>
    intro k M hk hI
    obtain ⟨⟨W, h1, h2⟩, hK⟩ := hI
    refine T_iload_n d_Dig_load_2 rfl ?_
    refine T_bipush (v := nI 16) d_Dig_load_3 (by decide) ?_
    refine N_icmp_ge_f (a := 16) (b := k) d_Dig_load_5 (tgt := 105) rfl (by omega) (by omega) (by omega) ?_
    refine T_lconst (v := 0) d_Dig_load_8 (by decide) ?_
    refine T_lstore (L' := [(4, .long 0), (3, .int (nI k)), (0, .ref o), (1, .ref q), (2, .int (nI st0))]) d_Dig_load_9 (by decide) rfl ?_
    refine T_iload_n d_Dig_load_11 rfl ?_
    refine T_bipush (v := nI 8) d_Dig_load_12 (by decide) ?_
    refine T_iload_n d_Dig_load_14 rfl ?_
    refine N_imul (a := k) (b := 8) (c := (8 * k)) d_Dig_load_15 rfl ?_
    refine N_iadd (a := (8 * k)) (b := st0) (c := (st0 + (8 * k))) d_Dig_load_16 rfl ?_
    refine T_istore (L' := [(6, .int (nI ((st0 + (8 * k))))), (4, .long 0), (3, .int (nI k)), (0, .ref o), (1, .ref q), (2, .int (nI st0))]) d_Dig_load_17 (by decide) rfl ?_
    refine T_eq (pc' := 19) (L' := [(6, .int (nI ((st0 + 8 * k)))), (4, .long (wd8 l (st0 + 8 * k) ((st0 + 8 * k) - (st0 + 8 * k)))), (3, .int (nI k)), (0, .ref o), (1, .ref q), (2, .int (nI st0))]) (st' := []) (M' := M) rfl (by rw [show (st0 + 8 * k) - (st0 + 8 * k) = 0 by omega]; rfl) rfl rfl ?_
    have h_1 := (hK q (by simp only [List.mem_cons, List.not_mem_nil, or_false]; exact h_q_pw)).trans (hq)
    have h_2 := (hK d (by simp only [List.mem_cons, List.not_mem_nil, or_false]; exact h_d_pw)).trans (hf)
    refine ld_in G h_1 h_2 hl hn hv (t := k) (by omega) hs ?_ 8 (st0 + 8 * k) rfl (Nat.le_refl _)
    refine T_aload_n (v := .ref o) d_Dig_load_91 rfl (Or.inr ⟨_, rfl⟩) ?_
    have h_3 := (hK o (by simp only [List.mem_cons, List.not_mem_nil, or_false]; exact h_o_pw)).trans (ho)
    refine T_getfield (v := .ref pw) d_Dig_load_92 fg_Dig_13 h_3 rfl ?_
    refine T_iload_n d_Dig_load_95 rfl ?_
    refine T_lload d_Dig_load_96 rfl ?_
    refine N_lastore (k := k) d_Dig_load_98 k_pw h1 (by omega) (by decide) rfl (fun M_4 h_5 s_6 => ?_)
    refine N_iinc (k := k) (m := 1) (c := (k + 1)) (L' := [(3, .int (nI ((k + 1)))), (4, .long (wd8 l (st0 + 8 * k) 8)), (0, .ref o), (1, .ref q), (2, .int (nI st0))]) d_Dig_load_99 (by decide) rfl (by decide) rfl rfl ?_
    refine T_goto (tgt := 2) d_Dig_load_102 rfl ?_
    exact T_sub (L' := [(3, .int (nI ((k + 1)))), (0, .ref o), (1, .ref q), (2, .int (nI st0))]) (fun q hq => by simp only [List.mem_cons, List.not_mem_nil, or_false] at hq ⊢; rcases hq with rfl | rfl | rfl | rfl <;> simp) (ih (k + 1) M_4 (by omega) ⟨⟨_, h_5, fun i hi => by unfold vp_updL; by_cases e : i = k; rw [if_pos e, e]; rw [if_neg e]; exact h2 i (by omega)⟩, (Kp.ex (Kp.tr (Kp.rf : Kp [pw] M0 M0) (Kp.mono hK (by simp))) s_6 (by simp))⟩)
set_option maxHeartbeats 8000000 in
theorem y_Dig_load {G : GX} {M : List va_E} {o ps pw q d n st0 : Nat} {l : List UInt8} {w : Nat → Int64} (ho : M[o]? = some (diO ps pw)) (hq : BY M q d n l) (hw : M[pw]? = some (lr 80 w)) (hn : n < 2 ^ 30) (hs : st0 < 2 ^ 30) (h_o_pw : o ≠ pw) (h_q_pw : q ≠ pw) (h_d_pw : d ≠ pw) (k_pw : K0 ≤ pw) : CT G mi_Dig_load [.ref o, .ref q, .int (nI st0)] M (fun r M' => r = none ∧ (∃ W, M'[pw]? = some (lr 80 W) ∧ ∀ i, i < 16 → W i = wd8 l (st0 + 8 * i) 8) ∧ Kp [pw] M M') := by
  obtain ⟨hq, f, hf, hl, hv⟩ := hq
  refine CT.of (by decide) (Nat.le_of_ble_eq_true rfl) ?_
  show TT G mi_Dig_load 0 [(0, .ref o), (1, .ref q), (2, .int (nI st0))] [] M 0 0 _
  refine T_iconst (v := nI 0) d_Dig_load_0 (by decide) ?_
  refine T_istore_n (L' := [(3, .int (nI 0)), (0, .ref o), (1, .ref q), (2, .int (nI st0))]) d_Dig_load_1 (by decide) rfl ?_
  refine ld_lp G ho hq hf hl hn hv hs h_o_pw h_q_pw h_d_pw k_pw (fun Ma hI => ?_) 16 0 M rfl ⟨⟨w, hw, fun i hi => absurd hi (by omega)⟩, Kp.rf⟩
  obtain ⟨h1, hK⟩ := hI
  exact T_vret d_Dig_load_105 rfl (by decide) (by decide) ⟨rfl, h1, hK⟩
theorem comp_w {l : List UInt8} {i : Nat} {h h' w : Nat → Int64} (hh : ∀ j, j < 8 → h j = h' j) (hw : ∀ t, t < 16 → w t = wdB l i t) : ∀ j, j < 8 → comp h w j = comp h' (wdB l i) j := comp_c hh hw
theorem nb_lt {l : List UInt8} {n : Nat} (hl : l.length ≤ n) (hn : n < 2 ^ 20) : nb l < 2 ^ 20 := by unfold nb; omega
set_option maxHeartbeats 8000000 in
theorem rn_b (G : GX) {M0 : List va_E} {o ps pw q d n to : Nat} {l : List UInt8} (ho : M0[o]? = some (diO ps pw)) (hq : BY M0 q d n l) (hn : n < 2 ^ 20) (h_o_ps : o ≠ ps) (h_o_pw : o ≠ pw) (h_ps_pw : ps ≠ pw) (h_q_ps : q ≠ ps) (h_q_pw : q ≠ pw) (h_d_ps : d ≠ ps) (h_d_pw : d ≠ pw) (k_ps : K0 ≤ ps) (k_pw : K0 ≤ pw) {Q : Option Value → List va_E → Prop} (kk : ∀ M, (∃ S, M[ps]? = some (lr 8 S) ∧ ∀ j, j < 8 → S j = hs l (nb l) j) ∧ (∃ W, M[pw]? = some (lr 80 W)) ∧ Kp [ps, pw] M0 M → TT G mi_Dig_run 82 [(3, .int (nI ((nb l)))), (0, .ref o), (1, .ref q), (2, .ref to)] [] M 0 0 Q) : ∀ j k M, k + j = (nb l) → (∃ S, M[ps]? = some (lr 8 S) ∧ ∀ j, j < 8 → S j = hs l k j) ∧ (∃ W, M[pw]? = some (lr 80 W)) ∧ Kp [ps, pw] M0 M → TT G mi_Dig_run 31 [(4, .int (nI k)), (3, .int (nI ((nb l)))), (0, .ref o), (1, .ref q), (2, .ref to)] [] M 0 0 Q := by
  intro j
  induction j with
  | zero =>
    intro k M hk hI
    obtain rfl : (nb l) = k := by omega
    have hnb := nb_lt hq.2.le hn
    refine T_iload d_Dig_run_31 rfl ?_
    refine T_iload_n d_Dig_run_33 rfl ?_
    refine N_icmp_ge_t (a := (nb l)) (b := (nb l)) d_Dig_run_34 (tgt := 82) rfl (by omega) (by omega) (by omega) ?_
    exact T_sub (fun q hq => List.mem_cons_of_mem _ hq) (kk M hI)
  | succ j ih =>
    intro k M hk hI
    obtain ⟨⟨S, h1, h2⟩, ⟨W, h3⟩, hK⟩ := hI
    have hnb := nb_lt hq.2.le hn
    have hnb2 : nb l = (l.length + 16) / 128 + 1 := rfl
    have hle := hq.2.le
    refine T_iload d_Dig_run_31 rfl ?_
    refine T_iload_n d_Dig_run_33 rfl ?_
    refine N_icmp_ge_f (a := (nb l)) (b := k) d_Dig_run_34 (tgt := 82) rfl (by omega) (by omega) (by omega) ?_
    refine T_aload_n (v := .ref o) d_Dig_run_37 rfl (Or.inr ⟨_, rfl⟩) ?_
    refine T_aload_n (v := .ref q) d_Dig_run_38 rfl (Or.inr ⟨_, rfl⟩) ?_
    refine T_iload d_Dig_run_39 rfl ?_
    refine T_sipush (v := nI 128) d_Dig_run_41 (by decide) ?_
    refine N_imul (a := 128) (b := k) (c := (k * 128)) d_Dig_run_44 rfl ?_
    have hb_1 := hq.kp hK (by simp [h_q_ps, h_q_pw]) (by simp [h_d_ps, h_d_pw])
    have z128 : k * 128 = 128 * k := Nat.mul_comm _ _
    have h_2 := (hK o (by simp only [List.mem_cons, List.not_mem_nil, or_false, not_or]; exact ⟨h_o_ps, h_o_pw⟩)).trans (ho)
    refine T_virtual (as := [.ref q, .int (nI ((k * 128)))]) (rest := []) (b := o) d_Dig_run_45 rfl (jw_Dig_load.jo (by decide)) lm_Dig_31 ji_Dig_load js_Dig_load h_2 rfl rfl rfl (Nat.le_of_ble_eq_true rfl) (by decide) (by decide) (y_Dig_load (st0 := k * 128) h_2 hb_1 h3 (by omega) (by omega) h_o_pw h_q_pw h_d_pw k_pw) (fun r Mb hr => ?_)
    obtain ⟨rfl, ⟨Wb, hb1, hb2⟩, hkb⟩ := hr
    refine T_eq (pc' := 48) (L' := [(4, .int (nI k)), (3, .int (nI ((nb l)))), (0, .ref o), (1, .ref q), (2, .ref to)]) (st' := []) (M' := Mb) rfl rfl rfl rfl ?_
    refine T_iload d_Dig_run_48 rfl ?_
    refine T_iload_n d_Dig_run_50 rfl ?_
    refine T_iconst (v := nI 1) d_Dig_run_51 (by decide) ?_
    refine N_isub (a := 1) (b := (nb l)) (c := ((nb l) - 1)) d_Dig_run_52 (by omega) rfl ?_
    refine N_icmp_ne (a := ((nb l) - 1)) (b := k) d_Dig_run_53 (tgt := 72) rfl (by omega) (by omega) (fun hlast => ?_) (fun hlast => ?_)
    ·
      refine T_aload_n (v := .ref o) d_Dig_run_72 rfl (Or.inr ⟨_, rfl⟩) ?_
      have h_3 := (hkb o (by simp only [List.mem_cons, List.not_mem_nil, or_false]; exact h_o_pw)).trans (h_2)
      have h_4 := (hkb ps (by simp only [List.mem_cons, List.not_mem_nil, or_false]; exact h_ps_pw)).trans (h1)
      refine T_virtual (as := []) (rest := []) (b := o) d_Dig_run_73 rfl (jw_Dig_mix.jo (by decide)) lm_Dig_37 ji_Dig_mix js_Dig_mix h_3 rfl rfl rfl (Nat.le_of_ble_eq_true rfl) (by decide) (by decide) (y_Dig_mix h_3 h_4 hb1 h_o_ps h_o_pw h_ps_pw k_ps k_pw) (fun r Mc hr => ?_)
      obtain ⟨rfl, ⟨Sc, hc1, hc2⟩, ⟨Wc, hc3⟩, hkc⟩ := hr
      have hS : ∀ j, j < 8 → Sc j = hs l (k + 1) j := fun j hj => (hc2 j hj).trans (comp_w h2 (fun t ht => by unfold wdB; rw [if_neg (fun c => by omega), hb2 t ht, z128]) j hj)
      refine T_eq (pc' := 76) (L' := [(4, .int (nI k)), (3, .int (nI ((nb l)))), (0, .ref o), (1, .ref q), (2, .ref to)]) (st' := []) (M' := Mc) rfl rfl rfl rfl ?_
      refine N_iinc (k := k) (m := 1) (c := (k + 1)) (L' := [(4, .int (nI ((k + 1)))), (3, .int (nI ((nb l)))), (0, .ref o), (1, .ref q), (2, .ref to)]) d_Dig_run_76 (by decide) rfl (by decide) rfl rfl ?_
      refine T_goto (tgt := 31) d_Dig_run_79 rfl ?_
      exact ih (k + 1) Mc (by omega) ⟨⟨_, hc1, hS⟩, ⟨_, hc3⟩, (Kp.tr (Kp.tr (Kp.tr (Kp.rf : Kp [ps, pw] M0 M0) (Kp.mono hK (by simp))) (Kp.mono hkb (by simp))) (Kp.mono hkc (by simp)))⟩
    ·
      refine T_aload_n (v := .ref o) d_Dig_run_56 rfl (Or.inr ⟨_, rfl⟩) ?_
      have h_5 := (hkb o (by simp only [List.mem_cons, List.not_mem_nil, or_false]; exact h_o_pw)).trans (h_2)
      refine T_getfield (v := .ref pw) d_Dig_run_57 fg_Dig_13 h_5 rfl ?_
      refine T_bipush (v := nI 15) d_Dig_run_60 (by decide) ?_
      refine T_ldc2 d_Dig_run_62 kJ_Dig_35 ?_
      refine T_aload_n (v := .ref q) d_Dig_run_65 rfl (Or.inr ⟨_, rfl⟩) ?_
      have h_6 := (hkb q (by simp only [List.mem_cons, List.not_mem_nil, or_false]; exact h_q_pw)).trans ((hK q (by simp only [List.mem_cons, List.not_mem_nil, or_false, not_or]; exact ⟨h_q_ps, h_q_pw⟩)).trans (hq.1))
      refine T_getfield (v := .int (nI (l.length))) d_Dig_run_66 fg_Dig_25 h_6 rfl ?_
      refine T_i2l d_Dig_run_69 ?_
      refine T_lmul d_Dig_run_70 ?_
      refine N_lastore (k := 15) d_Dig_run_71 k_pw hb1 (by omega) (by decide) rfl (fun M_7 h_8 s_9 => ?_)
      refine T_aload_n (v := .ref o) d_Dig_run_72 rfl (Or.inr ⟨_, rfl⟩) ?_
      have h_10 := (s_9 o h_o_pw).trans (h_5)
      have h_11 := (s_9 ps h_ps_pw).trans ((hkb ps (by simp only [List.mem_cons, List.not_mem_nil, or_false]; exact h_ps_pw)).trans (h1))
      refine T_virtual (as := []) (rest := []) (b := o) d_Dig_run_73 rfl (jw_Dig_mix.jo (by decide)) lm_Dig_37 ji_Dig_mix js_Dig_mix h_10 rfl rfl rfl (Nat.le_of_ble_eq_true rfl) (by decide) (by decide) (y_Dig_mix h_10 h_11 h_8 h_o_ps h_o_pw h_ps_pw k_ps k_pw) (fun r Mc hr => ?_)
      obtain ⟨rfl, ⟨Sc, hc1, hc2⟩, ⟨Wc, hc3⟩, hkc⟩ := hr
      have hS : ∀ j, j < 8 → Sc j = hs l (k + 1) j := fun j hj => (hc2 j hj).trans (comp_w h2 (fun t ht => by unfold wdB vp_updL; by_cases e : t = 15; rw [if_pos e, if_pos ⟨e, by omega⟩]; rw [if_neg e, if_neg (fun c => e c.1), hb2 t ht, z128]) j hj)
      refine T_eq (pc' := 76) (L' := [(4, .int (nI k)), (3, .int (nI ((nb l)))), (0, .ref o), (1, .ref q), (2, .ref to)]) (st' := []) (M' := Mc) rfl rfl rfl rfl ?_
      refine N_iinc (k := k) (m := 1) (c := (k + 1)) (L' := [(4, .int (nI ((k + 1)))), (3, .int (nI ((nb l)))), (0, .ref o), (1, .ref q), (2, .ref to)]) d_Dig_run_76 (by decide) rfl (by decide) rfl rfl ?_
      refine T_goto (tgt := 31) d_Dig_run_79 rfl ?_
      exact ih (k + 1) Mc (by omega) ⟨⟨_, hc1, hS⟩, ⟨_, hc3⟩, (Kp.tr (Kp.ex (Kp.tr (Kp.tr (Kp.rf : Kp [ps, pw] M0 M0) (Kp.mono hK (by simp))) (Kp.mono hkb (by simp))) s_9 (by simp)) (Kp.mono hkc (by simp)))⟩
theorem and7 {k : Nat} (h : k < 64) : nI k &&& nI 7 = nI (k % 8) := by
  have : ∀ k, k < 64 → nI k &&& nI 7 = nI (k % 8) := by decide
  exact this k h
theorem shr3 {k : Nat} (h : k < 64) : nI k >>> (nI 3 &&& 31) = nI (k / 8) := by
  have : ∀ k, k < 64 → nI k >>> (nI 3 &&& 31) = nI (k / 8) := by decide
  exact this k h
set_option maxHeartbeats 8000000 in
theorem rn_o (G : GX) {M0 : List va_E} {o ps pw q to m : Nat} {l : List UInt8} {S : Nat → Int64} (ho : M0[o]? = some (diO ps pw)) (hS : M0[ps]? = some (lr 8 S)) (hm : 64 ≤ m) (hm2 : m < 2 ^ 30) (h_o_to : o ≠ to) (h_to_ps : to ≠ ps) (k_to : K0 ≤ to) {Q : Option Value → List va_E → Prop} (kk : ∀ M, (∃ f, M[to]? = some (br m f) ∧ ∀ i, i < 64 → f i = cB (shb (S (i / 8)) (i % 8))) ∧ Kp [to] M0 M → TT G mi_Dig_run 125 [(3, .int (nI ((nb l)))), (0, .ref o), (1, .ref q), (2, .ref to)] [] M 0 0 Q) : ∀ j k M, k + j = 64 → (∃ f, M[to]? = some (br m f) ∧ ∀ i, i < k → f i = cB (shb (S (i / 8)) (i % 8))) ∧ Kp [to] M0 M → TT G mi_Dig_run 85 [(4, .int (nI k)), (3, .int (nI ((nb l)))), (0, .ref o), (1, .ref q), (2, .ref to)] [] M 0 0 Q := by
  intro j
  induction j with
  | zero =>
    intro k M hk hI
    obtain rfl : 64 = k := by omega
    refine T_iload d_Dig_run_85 rfl ?_
    refine T_bipush (v := nI 64) d_Dig_run_87 (by decide) ?_
    refine N_icmp_ge_t (a := 64) (b := 64) d_Dig_run_89 (tgt := 125) rfl (by omega) (by omega) (by omega) ?_
    exact T_sub (fun q hq => List.mem_cons_of_mem _ hq) (kk M hI)
  | succ j ih =>
    intro k M hk hI
    obtain ⟨⟨f, h1, h2⟩, hK⟩ := hI
    refine T_iload d_Dig_run_85 rfl ?_
    refine T_bipush (v := nI 64) d_Dig_run_87 (by decide) ?_
    refine N_icmp_ge_f (a := 64) (b := k) d_Dig_run_89 (tgt := 125) rfl (by omega) (by omega) (by omega) ?_
    refine T_aload_n (v := .ref to) d_Dig_run_92 rfl (Or.inr ⟨_, rfl⟩) ?_
    refine T_iload d_Dig_run_93 rfl ?_
    refine T_aload_n (v := .ref o) d_Dig_run_95 rfl (Or.inr ⟨_, rfl⟩) ?_
    have h_1 := (hK o (by simp only [List.mem_cons, List.not_mem_nil, or_false]; exact h_o_to)).trans (ho)
    refine T_getfield (v := .ref ps) d_Dig_run_96 fg_Dig_7 h_1 rfl ?_
    refine T_iload d_Dig_run_99 rfl ?_
    refine T_iconst (v := nI 3) d_Dig_run_101 (by decide) ?_
    refine T_ishr d_Dig_run_102 ?_
    refine N_topi (y := (nI ((k / 8)))) (shr3 (k := k) (by omega)) ?_
    have h_2 := (hK ps (by simp only [List.mem_cons, List.not_mem_nil, or_false]; exact (Ne.symm h_to_ps))).trans (hS)
    refine N_laload (k := (k / 8)) (x := (S (k / 8))) d_Dig_run_103 h_2 (by omega) (by decide) rfl ?_
    refine T_bipush (v := nI 56) d_Dig_run_104 (by decide) ?_
    refine T_bipush (v := nI 8) d_Dig_run_106 (by decide) ?_
    refine T_iload d_Dig_run_108 rfl ?_
    refine T_bipush (v := nI 7) d_Dig_run_110 (by decide) ?_
    refine T_iand d_Dig_run_112 ?_
    refine N_topi (y := (nI ((k % 8)))) (and7 (k := k) (by omega)) ?_
    refine N_imul (a := (k % 8)) (b := 8) (c := (8 * (k % 8))) d_Dig_run_113 rfl ?_
    refine N_isub (a := (8 * (k % 8))) (b := 56) (c := (56 - (8 * (k % 8)))) d_Dig_run_114 (by omega) rfl ?_
    refine T_lushr d_Dig_run_115 ?_
    refine T_l2i d_Dig_run_116 ?_
    refine T_i2b d_Dig_run_117 ?_
    refine N_bastore (k := k) d_Dig_run_118 k_to h1 (by omega) (by omega) rfl (fun M_3 h_4 s_5 => ?_)
    refine N_iinc (k := k) (m := 1) (c := (k + 1)) (L' := [(4, .int (nI ((k + 1)))), (3, .int (nI ((nb l)))), (0, .ref o), (1, .ref q), (2, .ref to)]) d_Dig_run_119 (by decide) rfl (by decide) rfl rfl ?_
    refine T_goto (tgt := 85) d_Dig_run_122 rfl ?_
    exact ih (k + 1) M_3 (by omega) ⟨⟨_, h_4, fun i hi => by unfold upd; by_cases e : i = k; rw [if_pos e, e, pk_vb, cB_u8]; rfl; rw [if_neg e]; exact h2 i (by omega)⟩, (Kp.ex (Kp.tr (Kp.rf : Kp [to] M0 M0) (Kp.mono hK (by simp))) s_5 (by simp))⟩
set_option maxHeartbeats 8000000 in
theorem y_Dig_run {G : GX} {M : List va_E} {o ps pw q d n to m : Nat} {l : List UInt8} {s0 w0 : Nat → Int64} {t0 : Nat → Int32} (ho : M[o]? = some (diO ps pw)) (hq : BY M q d n l) (hn : n < 2 ^ 20) (h_o_ps : o ≠ ps) (h_o_pw : o ≠ pw) (h_ps_pw : ps ≠ pw) (h_q_ps : q ≠ ps) (h_q_pw : q ≠ pw) (h_d_ps : d ≠ ps) (h_d_pw : d ≠ pw) (k_ps : K0 ≤ ps) (k_pw : K0 ≤ pw) (hs0 : M[ps]? = some (lr 8 s0)) (hw0 : M[pw]? = some (lr 80 w0)) (ht0 : M[to]? = some (br m t0)) (hm : 64 ≤ m) (hm2 : m < 2 ^ 30) (h_o_to : o ≠ to) (h_to_ps : to ≠ ps) (h_to_pw : to ≠ pw) (k_to : K0 ≤ to) : CT G mi_Dig_run [.ref o, .ref q, .ref to] M (fun r M' => r = none ∧ BA M' to m (sha l) ∧ (∃ S, M'[ps]? = some (lr 8 S)) ∧ (∃ S, M'[pw]? = some (lr 80 S)) ∧ Kp [ps, pw, to] M M') := by
  refine CT.of (by decide) (Nat.le_of_ble_eq_true rfl) ?_
  show TT G mi_Dig_run 0 [(0, .ref o), (1, .ref q), (2, .ref to)] [] M 0 0 _
  refine T_know (fun hK0 => ?_)
  have ht : M[0]? = some (lr 8 (fun j => tb_0.getD j 0)) := hK0 0 (by decide)
  have hnb := nb_lt hq.2.le hn
  have hle := hq.2.le
  refine T_getstatic (q := ("PasswordGate$Digest", "FIRST", "[J", .ref 0)) d_Dig_run_0 (List.mem_of_getElem? (i := 0) rfl) gs_Dig_16 (show 0 < K0 by decide) ?_
  refine T_iconst (v := nI 0) d_Dig_run_3 (by decide) ?_
  refine T_aload_n (v := .ref o) d_Dig_run_4 rfl (Or.inr ⟨_, rfl⟩) ?_
  refine T_getfield (v := .ref ps) d_Dig_run_5 fg_Dig_7 ho rfl ?_
  refine T_iconst (v := nI 0) d_Dig_run_8 (by decide) ?_
  refine T_bipush (v := nI 8) d_Dig_run_9 (by decide) ?_
  refine N_copyF (n0 := 8) (sp := 0) (dp := 0) (n := 8) d_Dig_run_11 lm_Dig_19 (by decide) k_ps ht hs0 (by decide) (by decide) (by decide) (by decide) (by decide) (Nat.le_of_ble_eq_true rfl) (fun Ma ha hea => ?_)
  refine T_aload_n (v := .ref q) d_Dig_run_14 rfl (Or.inr ⟨_, rfl⟩) ?_
  have h_1 := (hea q h_q_ps).trans (hq.1)
  refine T_getfield (v := .int (nI (l.length))) d_Dig_run_15 fg_Dig_25 h_1 rfl ?_
  refine T_bipush (v := nI 16) d_Dig_run_18 (by decide) ?_
  refine N_iadd (a := 16) (b := l.length) (c := (l.length + 16)) d_Dig_run_20 rfl ?_
  refine T_sipush (v := nI 128) d_Dig_run_21 (by decide) ?_
  refine N_idiv (a := 128) (b := (l.length + 16)) (c := ((l.length + 16) / 128)) d_Dig_run_24 (by omega) (by omega) (by omega) rfl ?_
  refine T_iconst (v := nI 1) d_Dig_run_25 (by decide) ?_
  refine N_iadd (a := 1) (b := ((l.length + 16) / 128)) (c := (((l.length + 16) / 128) + 1)) d_Dig_run_26 rfl ?_
  refine T_istore_n (L' := [(3, .int (nI ((((l.length + 16) / 128) + 1)))), (0, .ref o), (1, .ref q), (2, .ref to)]) d_Dig_run_27 (by decide) rfl ?_
  refine T_iconst (v := nI 0) d_Dig_run_28 (by decide) ?_
  refine T_istore (L' := [(4, .int (nI 0)), (3, .int (nI ((((l.length + 16) / 128) + 1)))), (0, .ref o), (1, .ref q), (2, .ref to)]) d_Dig_run_29 (by decide) rfl ?_
  refine T_eq (pc' := 31) (L' := [(4, .int (nI 0)), (3, .int (nI ((nb l)))), (0, .ref o), (1, .ref q), (2, .ref to)]) (st' := []) (M' := Ma) rfl rfl rfl rfl ?_
  have hqa := hq.kp (Kp.ex (W := [ps]) Kp.rf hea (by simp)) (by simpa using h_q_ps) (by simpa using h_d_ps)
  have h_2 := (hea o h_o_ps).trans (ho)
  have h_3 := (hea pw (Ne.symm h_ps_pw)).trans (hw0)
  refine rn_b G h_2 hqa hn h_o_ps h_o_pw h_ps_pw h_q_ps h_q_pw h_d_ps h_d_pw k_ps k_pw (fun Mb hI => ?_) (nb l) 0 Ma (Nat.zero_add _) ⟨⟨_, ha, fun j hj => by rw [pk_cpy_in (by omega) (by omega)]; show tb_0.getD (0 + (j - 0)) 0 = hs l 0 j; rw [show 0 + (j - 0) = j by omega]; rfl⟩, ⟨_, h_3⟩, Kp.rf⟩
  obtain ⟨⟨S, hS1, hS2⟩, ⟨W, hW⟩, hKb⟩ := hI
  refine T_iconst (v := nI 0) d_Dig_run_82 (by decide) ?_
  refine T_istore (L' := [(4, .int (nI 0)), (3, .int (nI ((nb l)))), (0, .ref o), (1, .ref q), (2, .ref to)]) d_Dig_run_83 (by decide) rfl ?_
  have h_4 := (hKb o (by simp only [List.mem_cons, List.not_mem_nil, or_false, not_or]; exact ⟨h_o_ps, h_o_pw⟩)).trans (h_2)
  have h_5 := (hKb to (by simp only [List.mem_cons, List.not_mem_nil, or_false, not_or]; exact ⟨h_to_ps, h_to_pw⟩)).trans ((hea to h_to_ps).trans (ht0))
  refine rn_o G (l := l) h_4 hS1 hm hm2 h_o_to h_to_ps k_to (fun Mc hI => ?_) 64 0 Mb rfl ⟨⟨_, h_5, fun i hi => absurd hi (by omega)⟩, Kp.rf⟩
  obtain ⟨⟨f, hf1, hf2⟩, hKc⟩ := hI
  have h_6 := (hKc ps (by simp only [List.mem_cons, List.not_mem_nil, or_false]; exact (Ne.symm h_to_ps))).trans (hS1)
  have h_7 := (hKc pw (by simp only [List.mem_cons, List.not_mem_nil, or_false]; exact (Ne.symm h_to_pw))).trans (hW)
  exact T_vret d_Dig_run_125 rfl (by decide) (by decide) ⟨rfl, ⟨f, hf1, by rw [sha_len]; exact hm, fun i hi => by rw [sha_len] at hi; rw [hf2 i hi, sha_gd l hi, hS2 _ (by omega)]⟩, ⟨_, h_6⟩, ⟨_, h_7⟩, (Kp.tr (Kp.tr (Kp.ex (Kp.rf : Kp [ps, pw, to] M M) hea (by simp)) (Kp.mono hKb (by simp))) (Kp.mono hKc (by simp)))⟩
def TX (s d : Nat) (T : List UInt8) : Prop := fxc[s]? = some (.inr (100, [.ref d, .int 0])) ∧ (∃ f, fxc[d]? = some (br T.length f) ∧ ∀ i, i < T.length → f i = cB (gd T i)) ∧ s < K0 ∧ d < K0 ∧ T.length ≤ 100
theorem ch_c (b : UInt8) : ((nI b.toNat).toUInt32 % 65536).toInt32 = bR b := u8_all (P := fun b => ((nI b.toNat).toUInt32 % 65536).toInt32 = bR b) (by decide +kernel) b
section STR
variable {G : GX} {M : List va_E} {s d : Nat} {T : List UInt8}
theorem y_jS_coder (h : TX s d T) : CT G mi_jS_coder [.ref s] M (fun r M' => r = some (.int (nI 0)) ∧ M' = M) := by
  refine CT.of (by decide) (Nat.le_of_ble_eq_true rfl) ?_
  show TT G mi_jS_coder 0 [(0, .ref s)] [] M 0 0 _
  refine T_know (fun hK => ?_)
  refine T_getstatic (q := ("java/lang/String", "COMPACT_STRINGS", "Z", .int 1)) d_jS_coder_0 (List.mem_of_getElem? (i := 14) rfl) gs_jS_38 trivial ?_
  refine T_if_eq d_jS_coder_3 (tgt := 13) rfl (fun c => absurd c (by decide)) (fun _ => ?_)
  refine T_aload_n (v := .ref s) d_jS_coder_6 rfl (Or.inr ⟨_, rfl⟩) ?_
  refine T_getS (k := 1) (x := .int 0) d_jS_coder_7 gf_jS_15 h.2.2.1 ((hK s h.2.2.1).trans h.1) (Or.inr ⟨rfl, rfl, rfl⟩) rfl trivial ?_
  refine T_goto (tgt := 14) d_jS_coder_10 rfl ?_
  exact T_ret d_jS_coder_14 rfl (by decide) (by decide) (by decide) ⟨rfl, rfl⟩
set_option maxHeartbeats 8000000 in
theorem y_jS_isLatin1 (h : TX s d T) : CT G mi_jS_isLatin1 [.ref s] M (fun r M' => r = some (.int (nI 1)) ∧ M' = M) := by
  refine CT.of (by decide) (Nat.le_of_ble_eq_true rfl) ?_
  show TT G mi_jS_isLatin1 0 [(0, .ref s)] [] M 0 0 _
  refine T_know (fun hK => ?_)
  refine T_getstatic (q := ("java/lang/String", "COMPACT_STRINGS", "Z", .int 1)) d_jS_isLatin1_0 (List.mem_of_getElem? (i := 14) rfl) gs_jS_38 trivial ?_
  refine T_if_eq d_jS_isLatin1_3 (tgt := 17) rfl (fun c => absurd c (by decide)) (fun _ => ?_)
  refine T_aload_n (v := .ref s) d_jS_isLatin1_6 rfl (Or.inr ⟨_, rfl⟩) ?_
  refine T_getS (k := 1) (x := .int 0) d_jS_isLatin1_7 gf_jS_15 h.2.2.1 ((hK s h.2.2.1).trans h.1) (Or.inr ⟨rfl, rfl, rfl⟩) rfl trivial ?_
  refine T_if_ne d_jS_isLatin1_10 (tgt := 17) rfl (fun c => absurd rfl c) (fun _ => ?_)
  refine T_iconst (v := nI 1) d_jS_isLatin1_13 (by decide) ?_
  refine T_goto (tgt := 18) d_jS_isLatin1_14 rfl ?_
  exact T_ret d_jS_isLatin1_18 rfl (by decide) (by decide) (by decide) ⟨rfl, rfl⟩
theorem shr0 (x : Int32) : x >>> (nI 0 &&& 31) = x := by
  rw [show nI 0 &&& 31 = 0 by decide]; exact Int32.shiftRight_zero
set_option maxHeartbeats 8000000 in
theorem y_jS_length (h : TX s d T) : CT G mi_jS_length [.ref s] M (fun r M' => r = some (.int (nI T.length)) ∧ M' = M) := by
  obtain ⟨f, f1, f2⟩ := h.2.1
  refine CT.of (by decide) (Nat.le_of_ble_eq_true rfl) ?_
  show TT G mi_jS_length 0 [(0, .ref s)] [] M 0 0 _
  refine T_know (fun hK => ?_)
  have hs := (hK s h.2.2.1).trans h.1
  refine T_aload_n (v := .ref s) d_jS_length_0 rfl (Or.inr ⟨_, rfl⟩) ?_
  refine T_getS (k := 0) (x := .ref d) d_jS_length_1 gf_jS_9 h.2.2.1 hs (Or.inl ⟨rfl, rfl, rfl⟩) rfl h.2.2.2.1 ?_
  refine T_alenF (v := nI T.length) d_jS_length_4 (by have := h.2.2.2.1; omega) ((hK d h.2.2.2.1).trans f1) rfl ?_
  refine T_aload_n (v := .ref s) d_jS_length_5 rfl (Or.inr ⟨_, rfl⟩) ?_
  refine T_virtualS (as := []) (rest := [.int (nI T.length)]) (b := s) d_jS_length_6 rfl (jw_jS_coder.jo (by decide)) lm_jS_335 ji_jS_coder js_jS_coder h.2.2.1 hs rfl rfl (Nat.le_of_ble_eq_true rfl) (by decide) (by decide) (y_jS_coder h) (fun r M' hq => ?_)
  obtain ⟨rfl, rfl⟩ := hq
  refine T_eq (pc' := 9) (L' := [(0, .ref s)]) (st' := [.int (nI 0), .int (nI T.length)]) rfl rfl rfl rfl ?_
  refine T_ishr d_jS_length_9 ?_
  refine N_topi (y := nI T.length) (shr0 _) ?_
  exact T_ret d_jS_length_10 rfl rfl (by decide) (by decide) ⟨rfl, rfl⟩
theorem y_jP_checkIndex {i n : Nat} {v : Value} (hv : v = .null ∨ v = .ref 58) (hi : i < n) (hn : n ≤ 1000) : CT G mi_jP_checkIndex [.int (nI i), .int (nI n), v] M (fun r M' => r = some (.int (nI i)) ∧ M' = M) := by
  refine CT.of (by decide) (by rcases hv with rfl | rfl <;> exact Nat.le_of_ble_eq_true rfl) ?_
  have e : lv_args 0 [.int (nI i), .int (nI n), v] = [(0, .int (nI i)), (1, .int (nI n)), (2, v)] := by rcases hv with rfl | rfl <;> rfl
  rw [e]
  refine T_iload_n d_jP_checkIndex_0 rfl ?_
  refine N_if_lt_f (b := i) d_jP_checkIndex_1 (tgt := 9) rfl (by omega) (by omega) ?_
  refine T_iload_n d_jP_checkIndex_4 rfl ?_
  refine T_iload_n d_jP_checkIndex_5 rfl ?_
  refine N_icmp_lt_t (a := n) (b := i) d_jP_checkIndex_6 (tgt := 16) rfl (by omega) (by omega) (by omega) ?_
  refine T_iload_n d_jP_checkIndex_16 rfl ?_
  exact T_ret d_jP_checkIndex_17 rfl rfl (by decide) (by decide) ⟨rfl, rfl⟩
set_option maxHeartbeats 8000000 in
theorem y_jS_checkIndex {i n : Nat} (hi : i < n) (hn : n ≤ 1000) : CT G mi_jS_checkIndex [.int (nI i), .int (nI n)] M (fun r M' => r = none ∧ M' = M) := by
  refine CT.of (by decide) (Nat.le_of_ble_eq_true rfl) ?_
  show TT G mi_jS_checkIndex 0 [(0, .int (nI i)), (1, .int (nI n))] [] M 0 0 _
  refine T_iload_n d_jS_checkIndex_0 rfl ?_
  refine T_iload_n d_jS_checkIndex_1 rfl ?_
  refine T_getstatic (q := ("jdk/internal/util/Preconditions", "SIOOBE_FORMATTER", "Ljava/util/function/BiFunction;", unV G.2.2.2.2.2 0)) d_jS_checkIndex_2 (List.mem_of_getElem? (i := 18) rfl) gs_jS_1053 (unV_ok _) ?_
  have hv : unV G.2.2.2.2.2 0 = .null ∨ unV G.2.2.2.2.2 0 = .ref 58 := by unfold unV; split <;> simp
  refine T_static (as := [.int (nI i), .int (nI n), unV G.2.2.2.2.2 0]) (rest := []) d_jS_checkIndex_5 rfl (jw_jP_checkIndex.jo (by decide)) lm_jS_1059 jt_jP_checkIndex rfl (Nat.le_of_ble_eq_true rfl) (by decide) (by decide) (y_jP_checkIndex hv hi hn) (fun r M' hq => ?_)
  obtain ⟨rfl, rfl⟩ := hq
  refine T_eq (pc' := 8) (L' := [(0, .int (nI i)), (1, .int (nI n))]) (st' := [.int (nI i)]) rfl rfl rfl rfl ?_
  refine T_pop d_jS_checkIndex_8 rfl ?_
  exact T_vret d_jS_checkIndex_9 rfl (by decide) (by decide) ⟨rfl, rfl⟩
set_option maxHeartbeats 8000000 in
theorem y_jL_charAt (h : TX s d T) {i : Nat} (hi : i < T.length) : CT G mi_jL_charAt [.ref d, .int (nI i)] M (fun r M' => r = some (.int (bR (gd T i))) ∧ M' = M) := by
  obtain ⟨f, f1, f2⟩ := h.2.1
  have hl := h.2.2.2.2
  refine CT.of (by decide) (Nat.le_of_ble_eq_true rfl) ?_
  show TT G mi_jL_charAt 0 [(0, .ref d), (1, .int (nI i))] [] M 0 0 _
  refine T_know (fun hK => ?_)
  have hd := (hK d h.2.2.2.1).trans f1
  refine T_iload_n d_jL_charAt_0 rfl ?_
  refine T_aload_n (v := .ref d) d_jL_charAt_1 rfl (Or.inr ⟨_, rfl⟩) ?_
  refine T_alenF (v := nI T.length) d_jL_charAt_2 (by have := h.2.2.2.1; omega) hd rfl ?_
  refine T_static (as := [.int (nI i), .int (nI T.length)]) (rest := []) d_jL_charAt_3 rfl (jw_jS_checkIndex.jo (by decide)) lm_jL_9 jt_jS_checkIndex rfl (Nat.le_of_ble_eq_true rfl) (by decide) (by decide) (y_jS_checkIndex hi (by omega)) (fun r M' hq => ?_)
  obtain ⟨rfl, rfl⟩ := hq
  refine T_eq (pc' := 6) (L' := [(0, .ref d), (1, .int (nI i))]) (st' := []) rfl rfl rfl rfl ?_
  refine T_aload_n (v := .ref d) d_jL_charAt_6 rfl (Or.inr ⟨_, rfl⟩) ?_
  refine T_iload_n d_jL_charAt_7 rfl ?_
  refine N_baload (k := i) (x := cB (gd T i)) d_jL_charAt_8 hd hi (by omega) (f2 i hi) ?_
  refine T_sipush (v := nI 255) d_jL_charAt_9 (by decide) ?_
  refine T_iand d_jL_charAt_12 ?_
  refine N_topi (y := nI (gd T i).toNat) (cB_255 _) ?_
  refine T_i2c d_jL_charAt_13 ?_
  have e := pk_nc (nI (gd T i).toNat)
  rw [ch_c] at e ⊢
  exact T_ret d_jL_charAt_14 rfl e (by decide) (by decide) ⟨rfl, rfl⟩
set_option maxHeartbeats 8000000 in
theorem y_jS_charAt (h : TX s d T) {i : Nat} (hi : i < T.length) : CT G mi_jS_charAt [.ref s, .int (nI i)] M (fun r M' => r = some (.int (bR (gd T i))) ∧ M' = M) := by
  have hl := h.2.2.2.2
  refine CT.of (by decide) (Nat.le_of_ble_eq_true rfl) ?_
  show TT G mi_jS_charAt 0 [(0, .ref s), (1, .int (nI i))] [] M 0 0 _
  refine T_know (fun hK => ?_)
  have hs := (hK s h.2.2.1).trans h.1
  refine T_aload_n (v := .ref s) d_jS_charAt_0 rfl (Or.inr ⟨_, rfl⟩) ?_
  refine T_virtualS (as := []) (rest := []) (b := s) d_jS_charAt_1 rfl (jw_jS_isLatin1.jo (by decide)) lm_jS_492 ji_jS_isLatin1 js_jS_isLatin1 h.2.2.1 hs rfl rfl (Nat.le_of_ble_eq_true rfl) (by decide) (by decide) (y_jS_isLatin1 h) (fun r M' hq => ?_)
  obtain ⟨rfl, rfl⟩ := hq
  refine T_eq (pc' := 4) (L' := [(0, .ref s), (1, .int (nI i))]) (st' := [.int (nI 1)]) rfl rfl rfl rfl ?_
  refine T_if_eq d_jS_charAt_4 (tgt := 16) rfl (fun c => absurd c (by decide)) (fun _ => ?_)
  refine T_aload_n (v := .ref s) d_jS_charAt_7 rfl (Or.inr ⟨_, rfl⟩) ?_
  refine T_getS (k := 0) (x := .ref d) d_jS_charAt_8 gf_jS_9 h.2.2.1 hs (Or.inl ⟨rfl, rfl, rfl⟩) rfl h.2.2.2.1 ?_
  refine T_iload_n d_jS_charAt_11 rfl ?_
  refine T_static (as := [.ref d, .int (nI i)]) (rest := []) d_jS_charAt_12 rfl (jw_jL_charAt.jo (by decide)) lm_jS_495 jt_jL_charAt rfl (Nat.le_of_ble_eq_true rfl) (by decide) (by decide) (y_jL_charAt h hi) (fun r M' hq => ?_)
  obtain ⟨rfl, rfl⟩ := hq
  refine T_eq (pc' := 15) (L' := [(0, .ref s), (1, .int (nI i))]) (st' := [.int (bR (gd T i))]) rfl rfl rfl rfl ?_
  have e := pk_nc (nI (gd T i).toNat)
  rw [ch_c] at e
  exact T_ret d_jS_charAt_15 rfl e (by decide) (by decide) ⟨rfl, rfl⟩
end STR
theorem take_s {l : List UInt8} {k : Nat} (h : k < l.length) : l.take (k + 1) = l.take k ++ [gd l k] := by
  rw [List.take_add_one]
  unfold gd
  rw [List.getD_eq_getElem?_getD, List.getElem?_eq_getElem h]; rfl
set_option maxHeartbeats 8000000 in
theorem pt_lp (G : GX) {M0 : List va_E} {q d n s sd : Nat} {l T : List UInt8} (hT : TX s sd T) (hl : l.length + T.length ≤ n) (hn : n < 2 ^ 30) (k_d : K0 ≤ d) (hne : q ≠ d) {Q : Option Value → List va_E → Prop} (kk : ∀ M, BY M q d n (l ++ T.take T.length) ∧ Kp [q, d] M0 M → TT G mi_By_putText 25 [(0, .ref q), (1, .ref s)] [] M 0 0 Q) : ∀ j k M, k + j = T.length → BY M q d n (l ++ T.take k) ∧ Kp [q, d] M0 M → TT G mi_By_putText 2 [(2, .int (nI k)), (0, .ref q), (1, .ref s)] [] M 0 0 Q := by
  intro j
  induction j with
  | zero =>
    intro k M hk hI
    obtain rfl : T.length = k := by omega
    have hlT := hT.2.2.2.2
    refine T_iload_n d_By_putText_2 rfl ?_
    refine T_aload_n (v := .ref s) d_By_putText_3 rfl (Or.inr ⟨_, rfl⟩) ?_
    refine T_know (fun hK_1 => ?_)
    refine T_virtualS (as := []) (rest := [.int (nI (T.length))]) (b := s) d_By_putText_4 rfl (jw_jS_length.jo (by decide)) lm_By_31 ji_jS_length js_jS_length hT.2.2.1 ((hK_1 s hT.2.2.1).trans hT.1) rfl rfl (Nat.le_of_ble_eq_true rfl) (by decide) (by decide) (y_jS_length hT) (fun r M_1 hq => ?_)
    obtain ⟨rfl, he⟩ := hq
    obtain rfl := he.symm
    refine T_eq (pc' := 7) (L' := [(2, .int (nI (T.length))), (0, .ref q), (1, .ref s)]) (st' := [.int (nI (T.length)), .int (nI (T.length))]) (M' := M) rfl rfl rfl rfl ?_
    refine N_icmp_ge_t (a := T.length) (b := T.length) d_By_putText_7 (tgt := 25) rfl (by omega) (by omega) (by omega) ?_
    exact T_sub (fun q hq => List.mem_cons_of_mem _ hq) (kk M hI)
  | succ j ih =>
    intro k M hk hI
    obtain ⟨hb, hK⟩ := hI
    have hlT := hT.2.2.2.2
    refine T_iload_n d_By_putText_2 rfl ?_
    refine T_aload_n (v := .ref s) d_By_putText_3 rfl (Or.inr ⟨_, rfl⟩) ?_
    refine T_know (fun hK_1 => ?_)
    refine T_virtualS (as := []) (rest := [.int (nI k)]) (b := s) d_By_putText_4 rfl (jw_jS_length.jo (by decide)) lm_By_31 ji_jS_length js_jS_length hT.2.2.1 ((hK_1 s hT.2.2.1).trans hT.1) rfl rfl (Nat.le_of_ble_eq_true rfl) (by decide) (by decide) (y_jS_length hT) (fun r M_1 hq => ?_)
    obtain ⟨rfl, he⟩ := hq
    obtain rfl := he.symm
    refine T_eq (pc' := 7) (L' := [(2, .int (nI k)), (0, .ref q), (1, .ref s)]) (st' := [.int (nI (T.length)), .int (nI k)]) (M' := M) rfl rfl rfl rfl ?_
    refine N_icmp_ge_f (a := T.length) (b := k) d_By_putText_7 (tgt := 25) rfl (by omega) (by omega) (by omega) ?_
    refine T_aload_n (v := .ref q) d_By_putText_10 rfl (Or.inr ⟨_, rfl⟩) ?_
    refine T_aload_n (v := .ref s) d_By_putText_11 rfl (Or.inr ⟨_, rfl⟩) ?_
    refine T_iload_n d_By_putText_12 rfl ?_
    refine T_know (fun hK_2 => ?_)
    refine T_virtualS (as := [.int (nI k)]) (rest := [.ref q]) (b := s) d_By_putText_13 rfl (jw_jS_charAt.jo (by decide)) lm_By_36 ji_jS_charAt js_jS_charAt hT.2.2.1 ((hK_2 s hT.2.2.1).trans hT.1) rfl rfl (Nat.le_of_ble_eq_true rfl) (by decide) (by decide) (y_jS_charAt hT (i := k) (by omega)) (fun r M_2 hq => ?_)
    obtain ⟨rfl, he⟩ := hq
    obtain rfl := he.symm
    refine T_eq (pc' := 16) (L' := [(2, .int (nI k)), (0, .ref q), (1, .ref s)]) (st' := [.int (bR (gd T k)), .ref q]) (M' := M) rfl rfl rfl rfl ?_
    refine T_virtual (as := [.int (bR (gd T k))]) (rest := []) (b := q) d_By_putText_16 rfl (jw_By_putByte.jo (by decide)) lm_By_27 ji_By_putByte js_By_putByte hb.1 rfl rfl rfl (Nat.le_of_ble_eq_true rfl) (by decide) (by decide) (y_By_putByte (x := (bR (gd T k))) hb (by rw [List.length_append, List.length_take]; omega) (by omega) k_d hne) (fun r M_3 hq => ?_)
    obtain ⟨rfl, p_3_0, kp_3⟩ := hq
    refine T_eq (pc' := 19) (L' := [(2, .int (nI k)), (0, .ref q), (1, .ref s)]) (st' := []) (M' := M_3) rfl rfl rfl rfl ?_
    refine N_iinc (k := k) (m := 1) (c := (k + 1)) (L' := [(2, .int (nI ((k + 1)))), (0, .ref q), (1, .ref s)]) d_By_putText_19 (by decide) rfl (by decide) rfl rfl ?_
    refine T_goto (tgt := 2) d_By_putText_22 rfl ?_
    exact ih (k + 1) M_3 (by omega) ⟨by rw [take_s (by omega), ← List.append_assoc, ← u8_bR (gd T k)]; exact p_3_0, (Kp.tr (Kp.tr (Kp.rf : Kp [q, d] M0 M0) (Kp.mono hK (by simp))) (Kp.mono kp_3 (by simp)))⟩
theorem y_By_putText {G : GX} {M : List va_E} {q d n s sd : Nat} {l T : List UInt8} (h : BY M q d n l) (hT : TX s sd T) (hl : l.length + T.length ≤ n) (hn : n < 2 ^ 30) (k_d : K0 ≤ d) (hne : q ≠ d) : CT G mi_By_putText [.ref q, .ref s] M (fun r M' => r = none ∧ BY M' q d n (l ++ T) ∧ Kp [q, d] M M') := by
  refine CT.of (by decide) (Nat.le_of_ble_eq_true rfl) ?_
  show TT G mi_By_putText 0 [(0, .ref q), (1, .ref s)] [] M 0 0 _
  refine T_iconst (v := nI 0) d_By_putText_0 (by decide) ?_
  refine T_istore_n (L' := [(2, .int (nI 0)), (0, .ref q), (1, .ref s)]) d_By_putText_1 (by decide) rfl ?_
  refine pt_lp G hT hl hn k_d hne (fun Ma hI => ?_) T.length 0 M (Nat.zero_add _) ⟨by rw [List.take_zero, List.append_nil]; exact h, Kp.rf⟩
  rw [List.take_length] at hI
  exact T_vret d_By_putText_25 rfl (by decide) (by decide) ⟨rfl, hI.1, hI.2⟩
def W0 : List UInt8 := [72, 97, 115, 104, 84, 111, 71, 114, 111, 117, 112, 45]
theorem W0_len : W0.length = 12 := rfl
theorem tx_14_ : TX 14 15 W0 := ⟨rfl, ⟨_, rfl, by decide⟩, by decide, by decide, by decide⟩
def W1 : List UInt8 := [79, 80, 82, 70, 86, 49, 45]
theorem W1_len : W1.length = 7 := rfl
theorem tx_16_ : TX 16 17 W1 := ⟨rfl, ⟨_, rfl, by decide⟩, by decide, by decide, by decide⟩
def W2 : List UInt8 := [45, 114, 105, 115, 116, 114, 101, 116, 116, 111, 50, 53, 53, 45, 83, 72, 65, 53, 49, 50]
theorem W2_len : W2.length = 20 := rfl
theorem tx_18_ : TX 18 19 W2 := ⟨rfl, ⟨_, rfl, by decide⟩, by decide, by decide, by decide⟩
def W3 : List UInt8 := [99, 104, 97, 110, 99, 101]
theorem W3_len : W3.length = 6 := rfl
theorem tx_20_ : TX 20 21 W3 := ⟨rfl, ⟨_, rfl, by decide⟩, by decide, by decide, by decide⟩
def W4 : List UInt8 := [79, 80, 65, 81, 85, 69, 45, 68, 101, 114, 105, 118, 101, 68, 105, 102, 102, 105, 101, 72, 101, 108, 108, 109, 97, 110, 75, 101, 121, 80, 97, 105, 114]
theorem W4_len : W4.length = 33 := rfl
theorem tx_22_ : TX 22 23 W4 := ⟨rfl, ⟨_, rfl, by decide⟩, by decide, by decide, by decide⟩
def W5 : List UInt8 := [68, 101, 114, 105, 118, 101, 75, 101, 121, 80, 97, 105, 114]
theorem W5_len : W5.length = 13 := rfl
theorem tx_24_ : TX 24 25 W5 := ⟨rfl, ⟨_, rfl, by decide⟩, by decide, by decide, by decide⟩
def W6 : List UInt8 := [117, 115, 101, 114]
theorem W6_len : W6.length = 4 := rfl
theorem tx_26_ : TX 26 27 W6 := ⟨rfl, ⟨_, rfl, by decide⟩, by decide, by decide, by decide⟩
def W7 : List UInt8 := [79, 112, 114, 102, 75, 101, 121]
theorem W7_len : W7.length = 7 := rfl
theorem tx_28_ : TX 28 29 W7 := ⟨rfl, ⟨_, rfl, by decide⟩, by decide, by decide, by decide⟩
def W8 : List UInt8 := [79, 80, 65, 81, 85, 69, 45, 68, 101, 114, 105, 118, 101, 75, 101, 121, 80, 97, 105, 114]
theorem W8_len : W8.length = 20 := rfl
theorem tx_30_ : TX 30 31 W8 := ⟨rfl, ⟨_, rfl, by decide⟩, by decide, by decide, by decide⟩
def W9 : List UInt8 := [70, 105, 110, 97, 108, 105, 122, 101]
theorem W9_len : W9.length = 8 := rfl
theorem tx_32_ : TX 32 33 W9 := ⟨rfl, ⟨_, rfl, by decide⟩, by decide, by decide, by decide⟩
def W10 : List UInt8 := [77, 97, 115, 107, 105, 110, 103, 75, 101, 121]
theorem W10_len : W10.length = 10 := rfl
theorem tx_34_ : TX 34 35 W10 := ⟨rfl, ⟨_, rfl, by decide⟩, by decide, by decide, by decide⟩
def W11 : List UInt8 := [80, 114, 105, 118, 97, 116, 101, 75, 101, 121]
theorem W11_len : W11.length = 10 := rfl
theorem tx_36_ : TX 36 37 W11 := ⟨rfl, ⟨_, rfl, by decide⟩, by decide, by decide, by decide⟩
def W12 : List UInt8 := [79, 80, 65, 81, 85, 69, 45, 68, 101, 114, 105, 118, 101, 68, 105, 102, 102, 105, 101, 72, 101, 108, 108, 109, 97, 110, 75, 101, 121, 80, 97, 105, 114]
theorem W12_len : W12.length = 33 := rfl
theorem tx_38_ : TX 38 39 W12 := ⟨rfl, ⟨_, rfl, by decide⟩, by decide, by decide, by decide⟩
def W13 : List UInt8 := [69, 120, 112, 111, 114, 116, 75, 101, 121]
theorem W13_len : W13.length = 9 := rfl
theorem tx_40_ : TX 40 41 W13 := ⟨rfl, ⟨_, rfl, by decide⟩, by decide, by decide, by decide⟩
def W14 : List UInt8 := [65, 117, 116, 104, 75, 101, 121]
theorem W14_len : W14.length = 7 := rfl
theorem tx_42_ : TX 42 43 W14 := ⟨rfl, ⟨_, rfl, by decide⟩, by decide, by decide, by decide⟩
def W15 : List UInt8 := [67, 114, 101, 100, 101, 110, 116, 105, 97, 108, 82, 101, 115, 112, 111, 110, 115, 101, 80, 97, 100]
theorem W15_len : W15.length = 21 := rfl
theorem tx_44_ : TX 44 45 W15 := ⟨rfl, ⟨_, rfl, by decide⟩, by decide, by decide, by decide⟩
def W16 : List UInt8 := [79, 80, 65, 81, 85, 69, 118, 49, 45]
theorem W16_len : W16.length = 9 := rfl
theorem tx_46_ : TX 46 47 W16 := ⟨rfl, ⟨_, rfl, by decide⟩, by decide, by decide, by decide⟩
def W17 : List UInt8 := [72, 97, 110, 100, 115, 104, 97, 107, 101, 83, 101, 99, 114, 101, 116]
theorem W17_len : W17.length = 15 := rfl
theorem tx_48_ : TX 48 49 W17 := ⟨rfl, ⟨_, rfl, by decide⟩, by decide, by decide, by decide⟩
def W18 : List UInt8 := [79, 80, 65, 81, 85, 69, 45]
theorem W18_len : W18.length = 7 := rfl
theorem tx_50_ : TX 50 51 W18 := ⟨rfl, ⟨_, rfl, by decide⟩, by decide, by decide, by decide⟩
def W19 : List UInt8 := [83, 101, 115, 115, 105, 111, 110, 75, 101, 121]
theorem W19_len : W19.length = 10 := rfl
theorem tx_52_ : TX 52 53 W19 := ⟨rfl, ⟨_, rfl, by decide⟩, by decide, by decide, by decide⟩
def W20 : List UInt8 := [83, 101, 114, 118, 101, 114, 77, 65, 67]
theorem W20_len : W20.length = 9 := rfl
theorem tx_54_ : TX 54 55 W20 := ⟨rfl, ⟨_, rfl, by decide⟩, by decide, by decide, by decide⟩
def W21 : List UInt8 := [67, 108, 105, 101, 110, 116, 77, 65, 67]
theorem W21_len : W21.length = 9 := rfl
theorem tx_56_ : TX 56 57 W21 := ⟨rfl, ⟨_, rfl, by decide⟩, by decide, by decide, by decide⟩
def xk (k : List UInt8) (m : UInt8) : List UInt8 := (List.range 128).map fun i => (if i < 64 then gd k i else 0) ^^^ m
theorem xk_len (k : List UInt8) (m : UInt8) : (xk k m).length = 128 := by unfold xk; simp
def hmac (k a : List UInt8) : List UInt8 := sha (xk k 92 ++ sha (xk k 54 ++ a))
theorem hmac_len (k a : List UInt8) : (hmac k a).length = 64 := sha_len _
def zer8 (n : Nat) : List UInt8 := List.replicate n 0
def ex1 (k info : List UInt8) : List UInt8 := hmac k (info ++ [1])
def ex2 (k info : List UInt8) : List UInt8 := hmac k (ex1 k info ++ info ++ [2])
theorem ex1_len (k info : List UInt8) : (ex1 k info).length = 64 := sha_len _
theorem ex2_len (k info : List UInt8) : (ex2 k info).length = 64 := sha_len _
def tC (tag : List UInt8) : List UInt8 := (tag ++ [79, 80, 82, 70, 86, 49, 45]) ++ [0] ++ [45, 114, 105, 115, 116, 114, 101, 116, 116, 111, 50, 53, 53, 45, 83, 72, 65, 53, 49, 50]
theorem tC_len (tag : List UInt8) : (tC tag).length = tag.length + 28 := by unfold tC; simp
def tag1 (tag : List UInt8) : List UInt8 := tC tag ++ [UInt8.ofNat (tag.length + 28)]
theorem tag1_len (tag : List UInt8) : (tag1 tag).length = tag.length + 29 := by unfold tag1; rw [List.length_append, tC_len]; rfl
def stretch (a tag : List UInt8) : List UInt8 := sha (sha (zer8 128 ++ a ++ [0, 64] ++ [0] ++ tag1 tag) ++ [1] ++ tag1 tag)
theorem stretch_len (a tag : List UInt8) : (stretch a tag).length = 64 := sha_len _
theorem gr_ni {q : Nat} {L W : List Nat} (h : ∀ z ∈ L, q ≠ z) (s : ∀ z ∈ W, z ∈ L) : q ∉ W := fun c => h q (s q c) rfl
def BQ (M : List va_E) (p n : Nat) : Prop := ∃ f, M[p]? = some (br n f)
theorem BQ.kp {M M' : List va_E} {W : List Nat} {p n : Nat} (h : BQ M p n) (s : Kp W M M') (hn : p ∉ W) : BQ M' p n := by obtain ⟨f, h⟩ := h; exact ⟨f, (s _ hn).trans h⟩
theorem BA.bq {M : List va_E} {p n : Nat} {l : List UInt8} (h : BA M p n l) : BQ M p n := by obtain ⟨f, h, -⟩ := h; exact ⟨f, h⟩
def LQ (M : List va_E) (p n : Nat) : Prop := ∃ f, M[p]? = some (lr n f)
theorem LQ.kp {M M' : List va_E} {W : List Nat} {p n : Nat} (h : LQ M p n) (s : Kp W M M') (hn : p ∉ W) : LQ M' p n := by obtain ⟨f, h⟩ := h; exact ⟨f, (s _ hn).trans h⟩
def DQ (M : List va_E) (o s w : Nat) : Prop := M[o]? = some (diO s w) ∧ LQ M s 8 ∧ LQ M w 80
theorem DQ.kp {M M' : List va_E} {W : List Nat} {o s w : Nat} (h : DQ M o s w) (k : Kp W M M') (h1 : o ∉ W) (h2 : s ∉ W) (h3 : w ∉ W) : DQ M' o s w := ⟨(k _ h1).trans h.1, h.2.1.kp k h2, h.2.2.kp k h3⟩
theorem y_run {G : GX} {M : List va_E} {o ps pw q d n to m : Nat} {l : List UInt8} (hd : DQ M o ps pw) (hq : BY M q d n l) (ht : BQ M to m) (hn : n < 2 ^ 20) (hm : 64 ≤ m) (hm2 : m < 2 ^ 30) (h_o_ps : o ≠ ps) (h_o_pw : o ≠ pw) (h_ps_pw : ps ≠ pw) (h_q_ps : q ≠ ps) (h_q_pw : q ≠ pw) (h_d_ps : d ≠ ps) (h_d_pw : d ≠ pw) (k_ps : K0 ≤ ps) (k_pw : K0 ≤ pw) (h_o_to : o ≠ to) (h_to_ps : to ≠ ps) (h_to_pw : to ≠ pw) (k_to : K0 ≤ to) : CT G mi_Dig_run [.ref o, .ref q, .ref to] M (fun r M' => r = none ∧ DQ M' o ps pw ∧ BA M' to m (sha l) ∧ Kp [ps, pw, to] M M') := by
  obtain ⟨d1, ⟨s0, d2⟩, w0, d3⟩ := hd
  obtain ⟨t0, ht⟩ := ht
  refine (y_Dig_run d1 hq hn h_o_ps h_o_pw h_ps_pw h_q_ps h_q_pw h_d_ps h_d_pw k_ps k_pw d2 d3 ht hm hm2 h_o_to h_to_ps h_to_pw k_to).post fun r M' h => ?_
  obtain ⟨rfl, h1, h2, h3, h4⟩ := h
  exact ⟨rfl, ⟨(h4 _ (by simp; exact ⟨h_o_ps, h_o_pw, h_o_to⟩)).trans d1, h2, h3⟩, h1, h4⟩
theorem xk_54 (b : UInt8) : u8 (cB b ^^^ nI 54) = b ^^^ 54 := u8_all (P := fun b => u8 (cB b ^^^ nI 54) = b ^^^ 54) (by decide +kernel) b
theorem xk_92 (b : UInt8) : u8 (cB b ^^^ nI 92) = b ^^^ 92 := u8_all (P := fun b => u8 (cB b ^^^ nI 92) = b ^^^ 92) (by decide +kernel) b
theorem xk_gd (k : List UInt8) (m : UInt8) {i : Nat} (h : i < 128) : gd (xk k m) i = (if i < 64 then gd k i else 0) ^^^ m := mr_gd h
def keO : va_E := .inr (3, [.ref 67, .ref 70, .ref 72, .ref 74, .ref 75, .ref 76])
set_option maxHeartbeats 8000000 in
theorem ob_54 (G : GX) {M0 : List va_E} {kp mk : Nat} {k0 : List UInt8} (hke : M0[66]? = some keO) (hky : BA M0 kp mk k0) (hl : k0.length = 64) (hmk : mk < 2 ^ 30) (gr : ∀ w ∈ [kp], ∀ z ∈ [66, 67, 68, 69, 70, 71, 74], w ≠ z) {Q : Option Value → List va_E → Prop} (kk : ∀ M, BY M 70 71 400 ((xk k0 54).take 128) ∧ Kp [70, 71] M0 M → TT G mi_Key_openBody 44 [(0, .ref 66), (1, .ref kp), (2, .int (nI 54))] [] M 0 0 Q) : ∀ j k M, k + j = 128 → BY M 70 71 400 ((xk k0 54).take k) ∧ Kp [70, 71] M0 M → TT G mi_Key_openBody 9 [(3, .int (nI k)), (0, .ref 66), (1, .ref kp), (2, .int (nI 54))] [] M 0 0 Q := by
  intro j
  induction j with
  | zero =>
    intro k M hk hI
    obtain rfl : 128 = k := by omega
    refine T_iload_n d_Key_openBody_9 rfl ?_
    refine T_sipush (v := nI 128) d_Key_openBody_10 (by decide) ?_
    refine N_icmp_ge_t (a := 128) (b := 128) d_Key_openBody_13 (tgt := 44) rfl (by omega) (by omega) (by omega) ?_
    exact T_sub (fun q hq => List.mem_cons_of_mem _ hq) (kk M hI)
  | succ j ih =>
    intro k M hk hI
    obtain ⟨hb, hK⟩ := hI
    refine T_iload_n d_Key_openBody_9 rfl ?_
    refine T_sipush (v := nI 128) d_Key_openBody_10 (by decide) ?_
    refine N_icmp_ge_f (a := 128) (b := k) d_Key_openBody_13 (tgt := 44) rfl (by omega) (by omega) (by omega) ?_
    refine T_aload_n (v := .ref 66) d_Key_openBody_16 rfl (Or.inr ⟨_, rfl⟩) ?_
    have h_1 := (hK 66 (by decide)).trans (hke)
    refine T_getfield (v := .ref 70) d_Key_openBody_17 fg_Key_21 h_1 rfl ?_
    refine T_iload_n d_Key_openBody_20 rfl ?_
    refine T_bipush (v := nI 64) d_Key_openBody_21 (by decide) ?_
    refine N_icmp_ge (a := 64) (b := k) d_Key_openBody_23 (tgt := 34) rfl (by omega) (by omega) (fun h64 => ?_) (fun h64 => ?_)
    ·
      refine T_iload_n d_Key_openBody_34 rfl ?_
      refine T_virtual (as := [.int (nI 54)]) (rest := []) (b := 70) d_Key_openBody_35 rfl (jw_By_putByte.jo (by decide)) lm_Key_60 ji_By_putByte js_By_putByte hb.1 rfl rfl rfl (Nat.le_of_ble_eq_true rfl) (by decide) (by decide) (y_By_putByte (x := (nI 54)) hb (by rw [List.length_take, xk_len]; omega) (by decide) (by decide) (by decide)) (fun r M_2 hq => ?_)
      obtain ⟨rfl, p_2_0, kp_2⟩ := hq
      refine T_eq (pc' := 38) (L' := [(3, .int (nI k)), (0, .ref 66), (1, .ref kp), (2, .int (nI 54))]) (st' := []) (M' := M_2) rfl rfl rfl rfl ?_
      refine N_iinc (k := k) (m := 1) (c := (k + 1)) (L' := [(3, .int (nI ((k + 1)))), (0, .ref 66), (1, .ref kp), (2, .int (nI 54))]) d_Key_openBody_38 (by decide) rfl (by decide) rfl rfl ?_
      refine T_goto (tgt := 9) d_Key_openBody_41 rfl ?_
      have e : gd (xk k0 54) k = ((0 : UInt8) ^^^ 54) := by rw [xk_gd _ _ (by omega), if_neg (by omega)]
      have hb2 : BY M_2 70 71 400 ((xk k0 54).take (k + 1)) := by rw [take_s (by rw [xk_len]; omega), e]; exact p_2_0
      exact ih (k + 1) M_2 (by omega) ⟨hb2, (Kp.tr (Kp.tr (Kp.rf : Kp [70, 71] M0 M0) (Kp.mono hK (by decide))) (Kp.mono kp_2 (by decide)))⟩
    ·
      refine T_aload_n (v := .ref kp) d_Key_openBody_26 rfl (Or.inr ⟨_, rfl⟩) ?_
      refine T_iload_n d_Key_openBody_27 rfl ?_
      have p_3 := (BA.kp (hky) hK (gr_ni (gr kp (by simp)) (by decide)))
      obtain ⟨f_4, hf_5, hl_6, hv_7⟩ := id p_3
      refine N_baload (k := k) (x := (cB (gd k0 k))) d_Key_openBody_28 hf_5 (by omega) (by omega) (hv_7 k (by first | omega | (simp only [List.length_append, List.length_cons, List.length_nil, List.length_replicate, sl_len, be_len, sha_len]; omega))) ?_
      refine T_iload_n d_Key_openBody_29 rfl ?_
      refine T_ixor d_Key_openBody_30 ?_
      refine T_goto (tgt := 35) d_Key_openBody_31 rfl ?_
      refine T_virtual (as := [.int ((cB (gd k0 k)) ^^^ (nI 54))]) (rest := []) (b := 70) d_Key_openBody_35 rfl (jw_By_putByte.jo (by decide)) lm_Key_60 ji_By_putByte js_By_putByte hb.1 rfl rfl rfl (Nat.le_of_ble_eq_true rfl) (by decide) (by decide) (y_By_putByte (x := ((cB (gd k0 k)) ^^^ (nI 54))) hb (by rw [List.length_take, xk_len]; omega) (by decide) (by decide) (by decide)) (fun r M_8 hq => ?_)
      obtain ⟨rfl, p_8_0, kp_8⟩ := hq
      refine T_eq (pc' := 38) (L' := [(3, .int (nI k)), (0, .ref 66), (1, .ref kp), (2, .int (nI 54))]) (st' := []) (M' := M_8) rfl rfl rfl rfl ?_
      refine N_iinc (k := k) (m := 1) (c := (k + 1)) (L' := [(3, .int (nI ((k + 1)))), (0, .ref 66), (1, .ref kp), (2, .int (nI 54))]) d_Key_openBody_38 (by decide) rfl (by decide) rfl rfl ?_
      refine T_goto (tgt := 9) d_Key_openBody_41 rfl ?_
      have e : gd (xk k0 54) k = (gd k0 k ^^^ 54) := by rw [xk_gd _ _ (by omega), if_pos (by omega)]
      have hb2 : BY M_8 70 71 400 ((xk k0 54).take (k + 1)) := by rw [take_s (by rw [xk_len]; omega), e]; rw [← xk_54]; exact p_8_0
      exact ih (k + 1) M_8 (by omega) ⟨hb2, (Kp.tr (Kp.tr (Kp.rf : Kp [70, 71] M0 M0) (Kp.mono hK (by decide))) (Kp.mono kp_8 (by decide)))⟩
set_option maxHeartbeats 8000000 in
theorem y_Key_open_54 {G : GX} {M : List va_E} {kp mk : Nat} {k0 l : List UInt8} (hke : M[66]? = some keO) (hb : BY M 70 71 400 l) (hk : BA M kp mk k0) (hl : k0.length = 64) (hmk : mk < 2 ^ 30) (gr : ∀ w ∈ [kp], ∀ z ∈ [66, 67, 68, 69, 70, 71, 74], w ≠ z) : CT G mi_Key_openBody [.ref 66, .ref kp, .int (nI 54)] M (fun r M' => r = none ∧ BY M' 70 71 400 (xk k0 54) ∧ Kp [70, 71] M M') := by
  refine CT.of (by decide) (Nat.le_of_ble_eq_true rfl) ?_
  show TT G mi_Key_openBody 0 [(0, .ref 66), (1, .ref kp), (2, .int (nI 54))] [] M 0 0 _
  refine T_aload_n (v := .ref 66) d_Key_openBody_0 rfl (Or.inr ⟨_, rfl⟩) ?_
  refine T_getfield (v := .ref 70) d_Key_openBody_1 fg_Key_21 hke rfl ?_
  refine T_virtual (as := []) (rest := []) (b := 70) d_Key_openBody_4 rfl (jw_By_clear.jo (by decide)) lm_Key_57 ji_By_clear js_By_clear hb.1 rfl rfl rfl (Nat.le_of_ble_eq_true rfl) (by decide) (by decide) (y_By_clear hb (by decide)) (fun r M_1 hq => ?_)
  obtain ⟨rfl, p_1_0, kp_1⟩ := hq
  refine T_eq (pc' := 7) (L' := [(0, .ref 66), (1, .ref kp), (2, .int (nI 54))]) (st' := []) (M' := M_1) rfl rfl rfl rfl ?_
  refine T_iconst (v := nI 0) d_Key_openBody_7 (by decide) ?_
  refine T_istore_n (L' := [(3, .int (nI 0)), (0, .ref 66), (1, .ref kp), (2, .int (nI 54))]) d_Key_openBody_8 (by decide) rfl ?_
  have h_2 := (kp_1 66 (by decide)).trans (hke)
  refine ob_54 G h_2 (hk.kp kp_1 (gr_ni (gr kp (by simp)) (by decide))) hl hmk gr (fun Ma hI => ?_) 128 0 M_1 rfl ⟨by rw [List.take_zero]; exact p_1_0, Kp.rf⟩
  rw [List.take_of_length_le (by rw [xk_len]; exact Nat.le_refl _)] at hI
  exact T_vret d_Key_openBody_44 rfl (by decide) (by decide) ⟨rfl, hI.1, (Kp.tr (Kp.tr (Kp.rf : Kp [70, 71] M M) (Kp.mono kp_1 (by decide))) (Kp.mono hI.2 (by decide)))⟩
set_option maxHeartbeats 8000000 in
theorem ob_92 (G : GX) {M0 : List va_E} {kp mk : Nat} {k0 : List UInt8} (hke : M0[66]? = some keO) (hky : BA M0 kp mk k0) (hl : k0.length = 64) (hmk : mk < 2 ^ 30) (gr : ∀ w ∈ [kp], ∀ z ∈ [66, 67, 68, 69, 70, 71, 74], w ≠ z) {Q : Option Value → List va_E → Prop} (kk : ∀ M, BY M 70 71 400 ((xk k0 92).take 128) ∧ Kp [70, 71] M0 M → TT G mi_Key_openBody 44 [(0, .ref 66), (1, .ref kp), (2, .int (nI 92))] [] M 0 0 Q) : ∀ j k M, k + j = 128 → BY M 70 71 400 ((xk k0 92).take k) ∧ Kp [70, 71] M0 M → TT G mi_Key_openBody 9 [(3, .int (nI k)), (0, .ref 66), (1, .ref kp), (2, .int (nI 92))] [] M 0 0 Q := by
  intro j
  induction j with
  | zero =>
    intro k M hk hI
    obtain rfl : 128 = k := by omega
    refine T_iload_n d_Key_openBody_9 rfl ?_
    refine T_sipush (v := nI 128) d_Key_openBody_10 (by decide) ?_
    refine N_icmp_ge_t (a := 128) (b := 128) d_Key_openBody_13 (tgt := 44) rfl (by omega) (by omega) (by omega) ?_
    exact T_sub (fun q hq => List.mem_cons_of_mem _ hq) (kk M hI)
  | succ j ih =>
    intro k M hk hI
    obtain ⟨hb, hK⟩ := hI
    refine T_iload_n d_Key_openBody_9 rfl ?_
    refine T_sipush (v := nI 128) d_Key_openBody_10 (by decide) ?_
    refine N_icmp_ge_f (a := 128) (b := k) d_Key_openBody_13 (tgt := 44) rfl (by omega) (by omega) (by omega) ?_
    refine T_aload_n (v := .ref 66) d_Key_openBody_16 rfl (Or.inr ⟨_, rfl⟩) ?_
    have h_1 := (hK 66 (by decide)).trans (hke)
    refine T_getfield (v := .ref 70) d_Key_openBody_17 fg_Key_21 h_1 rfl ?_
    refine T_iload_n d_Key_openBody_20 rfl ?_
    refine T_bipush (v := nI 64) d_Key_openBody_21 (by decide) ?_
    refine N_icmp_ge (a := 64) (b := k) d_Key_openBody_23 (tgt := 34) rfl (by omega) (by omega) (fun h64 => ?_) (fun h64 => ?_)
    ·
      refine T_iload_n d_Key_openBody_34 rfl ?_
      refine T_virtual (as := [.int (nI 92)]) (rest := []) (b := 70) d_Key_openBody_35 rfl (jw_By_putByte.jo (by decide)) lm_Key_60 ji_By_putByte js_By_putByte hb.1 rfl rfl rfl (Nat.le_of_ble_eq_true rfl) (by decide) (by decide) (y_By_putByte (x := (nI 92)) hb (by rw [List.length_take, xk_len]; omega) (by decide) (by decide) (by decide)) (fun r M_2 hq => ?_)
      obtain ⟨rfl, p_2_0, kp_2⟩ := hq
      refine T_eq (pc' := 38) (L' := [(3, .int (nI k)), (0, .ref 66), (1, .ref kp), (2, .int (nI 92))]) (st' := []) (M' := M_2) rfl rfl rfl rfl ?_
      refine N_iinc (k := k) (m := 1) (c := (k + 1)) (L' := [(3, .int (nI ((k + 1)))), (0, .ref 66), (1, .ref kp), (2, .int (nI 92))]) d_Key_openBody_38 (by decide) rfl (by decide) rfl rfl ?_
      refine T_goto (tgt := 9) d_Key_openBody_41 rfl ?_
      have e : gd (xk k0 92) k = ((0 : UInt8) ^^^ 92) := by rw [xk_gd _ _ (by omega), if_neg (by omega)]
      have hb2 : BY M_2 70 71 400 ((xk k0 92).take (k + 1)) := by rw [take_s (by rw [xk_len]; omega), e]; exact p_2_0
      exact ih (k + 1) M_2 (by omega) ⟨hb2, (Kp.tr (Kp.tr (Kp.rf : Kp [70, 71] M0 M0) (Kp.mono hK (by decide))) (Kp.mono kp_2 (by decide)))⟩
    ·
      refine T_aload_n (v := .ref kp) d_Key_openBody_26 rfl (Or.inr ⟨_, rfl⟩) ?_
      refine T_iload_n d_Key_openBody_27 rfl ?_
      have p_3 := (BA.kp (hky) hK (gr_ni (gr kp (by simp)) (by decide)))
      obtain ⟨f_4, hf_5, hl_6, hv_7⟩ := id p_3
      refine N_baload (k := k) (x := (cB (gd k0 k))) d_Key_openBody_28 hf_5 (by omega) (by omega) (hv_7 k (by first | omega | (simp only [List.length_append, List.length_cons, List.length_nil, List.length_replicate, sl_len, be_len, sha_len]; omega))) ?_
      refine T_iload_n d_Key_openBody_29 rfl ?_
      refine T_ixor d_Key_openBody_30 ?_
      refine T_goto (tgt := 35) d_Key_openBody_31 rfl ?_
      refine T_virtual (as := [.int ((cB (gd k0 k)) ^^^ (nI 92))]) (rest := []) (b := 70) d_Key_openBody_35 rfl (jw_By_putByte.jo (by decide)) lm_Key_60 ji_By_putByte js_By_putByte hb.1 rfl rfl rfl (Nat.le_of_ble_eq_true rfl) (by decide) (by decide) (y_By_putByte (x := ((cB (gd k0 k)) ^^^ (nI 92))) hb (by rw [List.length_take, xk_len]; omega) (by decide) (by decide) (by decide)) (fun r M_8 hq => ?_)
      obtain ⟨rfl, p_8_0, kp_8⟩ := hq
      refine T_eq (pc' := 38) (L' := [(3, .int (nI k)), (0, .ref 66), (1, .ref kp), (2, .int (nI 92))]) (st' := []) (M' := M_8) rfl rfl rfl rfl ?_
      refine N_iinc (k := k) (m := 1) (c := (k + 1)) (L' := [(3, .int (nI ((k + 1)))), (0, .ref 66), (1, .ref kp), (2, .int (nI 92))]) d_Key_openBody_38 (by decide) rfl (by decide) rfl rfl ?_
      refine T_goto (tgt := 9) d_Key_openBody_41 rfl ?_
      have e : gd (xk k0 92) k = (gd k0 k ^^^ 92) := by rw [xk_gd _ _ (by omega), if_pos (by omega)]
      have hb2 : BY M_8 70 71 400 ((xk k0 92).take (k + 1)) := by rw [take_s (by rw [xk_len]; omega), e]; rw [← xk_92]; exact p_8_0
      exact ih (k + 1) M_8 (by omega) ⟨hb2, (Kp.tr (Kp.tr (Kp.rf : Kp [70, 71] M0 M0) (Kp.mono hK (by decide))) (Kp.mono kp_8 (by decide)))⟩
set_option maxHeartbeats 8000000 in
theorem y_Key_open_92 {G : GX} {M : List va_E} {kp mk : Nat} {k0 l : List UInt8} (hke : M[66]? = some keO) (hb : BY M 70 71 400 l) (hk : BA M kp mk k0) (hl : k0.length = 64) (hmk : mk < 2 ^ 30) (gr : ∀ w ∈ [kp], ∀ z ∈ [66, 67, 68, 69, 70, 71, 74], w ≠ z) : CT G mi_Key_openBody [.ref 66, .ref kp, .int (nI 92)] M (fun r M' => r = none ∧ BY M' 70 71 400 (xk k0 92) ∧ Kp [70, 71] M M') := by
  refine CT.of (by decide) (Nat.le_of_ble_eq_true rfl) ?_
  show TT G mi_Key_openBody 0 [(0, .ref 66), (1, .ref kp), (2, .int (nI 92))] [] M 0 0 _
  refine T_aload_n (v := .ref 66) d_Key_openBody_0 rfl (Or.inr ⟨_, rfl⟩) ?_
  refine T_getfield (v := .ref 70) d_Key_openBody_1 fg_Key_21 hke rfl ?_
  refine T_virtual (as := []) (rest := []) (b := 70) d_Key_openBody_4 rfl (jw_By_clear.jo (by decide)) lm_Key_57 ji_By_clear js_By_clear hb.1 rfl rfl rfl (Nat.le_of_ble_eq_true rfl) (by decide) (by decide) (y_By_clear hb (by decide)) (fun r M_1 hq => ?_)
  obtain ⟨rfl, p_1_0, kp_1⟩ := hq
  refine T_eq (pc' := 7) (L' := [(0, .ref 66), (1, .ref kp), (2, .int (nI 92))]) (st' := []) (M' := M_1) rfl rfl rfl rfl ?_
  refine T_iconst (v := nI 0) d_Key_openBody_7 (by decide) ?_
  refine T_istore_n (L' := [(3, .int (nI 0)), (0, .ref 66), (1, .ref kp), (2, .int (nI 92))]) d_Key_openBody_8 (by decide) rfl ?_
  have h_2 := (kp_1 66 (by decide)).trans (hke)
  refine ob_92 G h_2 (hk.kp kp_1 (gr_ni (gr kp (by simp)) (by decide))) hl hmk gr (fun Ma hI => ?_) 128 0 M_1 rfl ⟨by rw [List.take_zero]; exact p_1_0, Kp.rf⟩
  rw [List.take_of_length_le (by rw [xk_len]; exact Nat.le_refl _)] at hI
  exact T_vret d_Key_openBody_44 rfl (by decide) (by decide) ⟨rfl, hI.1, (Kp.tr (Kp.tr (Kp.rf : Kp [70, 71] M M) (Kp.mono kp_1 (by decide))) (Kp.mono hI.2 (by decide)))⟩
set_option maxHeartbeats 8000000 in
theorem y_Key_mac {G : GX} {M : List va_E} {kp mk q d n to m : Nat} {k0 l lb : List UInt8} (hke : M[66]? = some keO) (hdg : DQ M 67 68 69) (hb : BY M 70 71 400 lb) (h74 : BQ M 74 64) (hk : BA M kp mk k0) (hq : BY M q d n l) (ht : BQ M to m) (hl0 : k0.length = 64) (hmk : mk < 2 ^ 30) (hl : l.length ≤ 272) (hn : n < 2 ^ 20) (hm : 64 ≤ m) (hm2 : m < 2 ^ 30) (gr : ∀ w ∈ [kp, q, d, to], ∀ z ∈ [66, 67, 68, 69, 70, 71, 74], w ≠ z) (k_to : K0 ≤ to) (k_d : K0 ≤ d) : CT G mi_Key_mac [.ref 66, .ref kp, .ref q, .ref to] M (fun r M' => r = none ∧ DQ M' 67 68 69 ∧ (∃ l, BY M' 70 71 400 l) ∧ BQ M' 74 64 ∧ BA M' to m (hmac k0 l) ∧ Kp [68, 69, 70, 71, 74, to] M M') := by
  refine CT.of (by decide) (Nat.le_of_ble_eq_true rfl) ?_
  show TT G mi_Key_mac 0 [(0, .ref 66), (1, .ref kp), (2, .ref q), (3, .ref to)] [] M 0 0 _
  refine T_aload_n (v := .ref 66) d_Key_mac_0 rfl (Or.inr ⟨_, rfl⟩) ?_
  refine T_aload_n (v := .ref kp) d_Key_mac_1 rfl (Or.inr ⟨_, rfl⟩) ?_
  refine T_bipush (v := nI 54) d_Key_mac_2 (by decide) ?_
  refine T_virtual (as := [.ref kp, .int (nI 54)]) (rest := []) (b := 66) d_Key_mac_4 rfl (jw_Key_openBody.jo (by decide)) lm_Key_38 ji_Key_openBody js_Key_openBody hke rfl rfl rfl (Nat.le_of_ble_eq_true rfl) (by decide) (by decide) (y_Key_open_54 hke hb hk hl0 hmk (fun w hw z hz => gr w (by simp only [List.mem_cons, List.not_mem_nil, or_false] at hw; subst hw; simp) z hz)) (fun r M_1 hq => ?_)
  obtain ⟨rfl, p_1, kp_1⟩ := hq
  refine T_eq (pc' := 7) (L' := [(0, .ref 66), (1, .ref kp), (2, .ref q), (3, .ref to)]) (st' := []) (M' := M_1) rfl rfl rfl rfl ?_
  refine T_aload_n (v := .ref 66) d_Key_mac_7 rfl (Or.inr ⟨_, rfl⟩) ?_
  have h_2 := (kp_1 66 (by decide)).trans (hke)
  refine T_getfield (v := .ref 70) d_Key_mac_8 fg_Key_21 h_2 rfl ?_
  refine T_aload_n (v := .ref q) d_Key_mac_11 rfl (Or.inr ⟨_, rfl⟩) ?_
  have p_3 := (BY.kp (hq) kp_1 (gr_ni (gr q (by simp)) (by decide)) (gr_ni (gr d (by simp)) (by decide)))
  refine T_getfield (v := .ref d) d_Key_mac_12 fg_Key_42 p_3.1 rfl ?_
  refine T_iconst (v := nI 0) d_Key_mac_15 (by decide) ?_
  refine T_aload_n (v := .ref q) d_Key_mac_16 rfl (Or.inr ⟨_, rfl⟩) ?_
  refine T_getfield (v := .int (nI (l.length))) d_Key_mac_17 fg_Key_45 p_3.1 rfl ?_
  refine T_virtual (as := [.ref d, .int (nI 0), .int (nI (l.length))]) (rest := []) (b := 70) d_Key_mac_20 rfl (jw_By_put.jo (by decide)) lm_Key_49 ji_By_put js_By_put p_1.1 rfl rfl rfl (Nat.le_of_ble_eq_true rfl) (by decide) (by decide) (y_By_put (at0 := 0) (k := l.length) p_1 p_3.2 (by first | omega | (simp only [List.length_append, List.length_cons, List.length_nil, List.length_replicate, sl_len, be_len, sha_len, xk_len, hmac_len, ex1_len, ex2_len, tag1_len, tC_len, stretch_len]; done) | (simp only [List.length_append, List.length_cons, List.length_nil, List.length_replicate, sl_len, be_len, sha_len, xk_len, hmac_len, ex1_len, ex2_len, tag1_len, tC_len, stretch_len]; omega)) (by first | omega | (simp only [List.length_append, List.length_cons, List.length_nil, List.length_replicate, sl_len, be_len, sha_len, xk_len, hmac_len, ex1_len, ex2_len, tag1_len, tC_len, stretch_len]; done) | (simp only [List.length_append, List.length_cons, List.length_nil, List.length_replicate, sl_len, be_len, sha_len, xk_len, hmac_len, ex1_len, ex2_len, tag1_len, tC_len, stretch_len]; omega)) (by decide) (by omega) (by decide) k_d (by decide)) (fun r M_4 hq => ?_)
  obtain ⟨rfl, p_4_0, kp_4⟩ := hq
  refine T_eq (pc' := 23) (L' := [(0, .ref 66), (1, .ref kp), (2, .ref q), (3, .ref to)]) (st' := []) (M' := M_4) rfl rfl rfl rfl ?_
  refine T_aload_n (v := .ref 66) d_Key_mac_23 rfl (Or.inr ⟨_, rfl⟩) ?_
  have h_5 := (kp_4 66 (by decide)).trans (h_2)
  refine T_getfield (v := .ref 67) d_Key_mac_24 fg_Key_10 h_5 rfl ?_
  refine T_aload_n (v := .ref 66) d_Key_mac_27 rfl (Or.inr ⟨_, rfl⟩) ?_
  refine T_getfield (v := .ref 70) d_Key_mac_28 fg_Key_21 h_5 rfl ?_
  refine T_aload_n (v := .ref 66) d_Key_mac_31 rfl (Or.inr ⟨_, rfl⟩) ?_
  refine T_getfield (v := .ref 74) d_Key_mac_32 fg_Key_28 h_5 rfl ?_
  have p_6 := (DQ.kp ((DQ.kp (hdg) kp_1 (by decide) (by decide) (by decide))) kp_4 (by decide) (by decide) (by decide))
  have p_7 := (BQ.kp ((BQ.kp (h74) kp_1 (by decide))) kp_4 (by decide))
  refine T_virtual (as := [.ref 70, .ref 74]) (rest := []) (b := 67) d_Key_mac_35 rfl (jw_Dig_run.jo (by decide)) lm_Key_53 ji_Dig_run js_Dig_run p_6.1 rfl rfl rfl (Nat.le_of_ble_eq_true rfl) (by decide) (by decide) (y_run p_6 p_4_0 p_7 (by decide) (by decide) (by decide) (by decide) (by decide) (by decide) (by decide) (by decide) (by decide) (by decide) (by decide) (by decide) (by decide) (by decide) (by decide) (by decide)) (fun r M_8 hq => ?_)
  obtain ⟨rfl, p_8_0, p_8_1, kp_8⟩ := hq
  refine T_eq (pc' := 38) (L' := [(0, .ref 66), (1, .ref kp), (2, .ref q), (3, .ref to)]) (st' := []) (M' := M_8) rfl rfl rfl rfl ?_
  refine T_aload_n (v := .ref 66) d_Key_mac_38 rfl (Or.inr ⟨_, rfl⟩) ?_
  refine T_aload_n (v := .ref kp) d_Key_mac_39 rfl (Or.inr ⟨_, rfl⟩) ?_
  refine T_bipush (v := nI 92) d_Key_mac_40 (by decide) ?_
  have p_10 := (BY.kp (p_4_0) kp_8 (by decide) (by decide))
  have p_11 := (BA.kp ((BA.kp ((BA.kp (hk) kp_1 (gr_ni (gr kp (by simp)) (by decide)))) kp_4 (gr_ni (gr kp (by simp)) (by decide)))) kp_8 (gr_ni (gr kp (by simp)) (by decide)))
  have h_12 := (kp_8 66 (by decide)).trans (h_5)
  refine T_virtual (as := [.ref kp, .int (nI 92)]) (rest := []) (b := 66) d_Key_mac_42 rfl (jw_Key_openBody.jo (by decide)) lm_Key_38 ji_Key_openBody js_Key_openBody h_12 rfl rfl rfl (Nat.le_of_ble_eq_true rfl) (by decide) (by decide) (y_Key_open_92 h_12 p_10 p_11 hl0 hmk (fun w hw z hz => gr w (by simp only [List.mem_cons, List.not_mem_nil, or_false] at hw; subst hw; simp) z hz)) (fun r M_9 hq => ?_)
  obtain ⟨rfl, p_9, kp_9⟩ := hq
  refine T_eq (pc' := 45) (L' := [(0, .ref 66), (1, .ref kp), (2, .ref q), (3, .ref to)]) (st' := []) (M' := M_9) rfl rfl rfl rfl ?_
  refine T_aload_n (v := .ref 66) d_Key_mac_45 rfl (Or.inr ⟨_, rfl⟩) ?_
  have h_13 := (kp_9 66 (by decide)).trans (h_12)
  refine T_getfield (v := .ref 70) d_Key_mac_46 fg_Key_21 h_13 rfl ?_
  refine T_aload_n (v := .ref 66) d_Key_mac_49 rfl (Or.inr ⟨_, rfl⟩) ?_
  refine T_getfield (v := .ref 74) d_Key_mac_50 fg_Key_28 h_13 rfl ?_
  refine T_iconst (v := nI 0) d_Key_mac_53 (by decide) ?_
  refine T_bipush (v := nI 64) d_Key_mac_54 (by decide) ?_
  have p_14 := (BA.kp (p_8_1) kp_9 (by decide))
  refine T_virtual (as := [.ref 74, .int (nI 0), .int (nI 64)]) (rest := []) (b := 70) d_Key_mac_56 rfl (jw_By_put.jo (by decide)) lm_Key_49 ji_By_put js_By_put p_9.1 rfl rfl rfl (Nat.le_of_ble_eq_true rfl) (by decide) (by decide) (y_By_put (at0 := 0) (k := 64) p_9 p_14 (by first | omega | (simp only [List.length_append, List.length_cons, List.length_nil, List.length_replicate, sl_len, be_len, sha_len, xk_len, hmac_len, ex1_len, ex2_len, tag1_len, tC_len, stretch_len]; done) | (simp only [List.length_append, List.length_cons, List.length_nil, List.length_replicate, sl_len, be_len, sha_len, xk_len, hmac_len, ex1_len, ex2_len, tag1_len, tC_len, stretch_len]; omega)) (by first | omega | (simp only [List.length_append, List.length_cons, List.length_nil, List.length_replicate, sl_len, be_len, sha_len, xk_len, hmac_len, ex1_len, ex2_len, tag1_len, tC_len, stretch_len]; done) | (simp only [List.length_append, List.length_cons, List.length_nil, List.length_replicate, sl_len, be_len, sha_len, xk_len, hmac_len, ex1_len, ex2_len, tag1_len, tC_len, stretch_len]; omega)) (by decide) (by decide) (by decide) (by decide) (by decide)) (fun r M_15 hq => ?_)
  obtain ⟨rfl, p_15_0, kp_15⟩ := hq
  refine T_eq (pc' := 59) (L' := [(0, .ref 66), (1, .ref kp), (2, .ref q), (3, .ref to)]) (st' := []) (M' := M_15) rfl rfl rfl rfl ?_
  refine T_aload_n (v := .ref 66) d_Key_mac_59 rfl (Or.inr ⟨_, rfl⟩) ?_
  have h_16 := (kp_15 66 (by decide)).trans (h_13)
  refine T_getfield (v := .ref 67) d_Key_mac_60 fg_Key_10 h_16 rfl ?_
  refine T_aload_n (v := .ref 66) d_Key_mac_63 rfl (Or.inr ⟨_, rfl⟩) ?_
  refine T_getfield (v := .ref 70) d_Key_mac_64 fg_Key_21 h_16 rfl ?_
  refine T_aload_n (v := .ref to) d_Key_mac_67 rfl (Or.inr ⟨_, rfl⟩) ?_
  have p_17 := (DQ.kp ((DQ.kp (p_8_0) kp_9 (by decide) (by decide) (by decide))) kp_15 (by decide) (by decide) (by decide))
  have p_18 := (BQ.kp ((BQ.kp ((BQ.kp ((BQ.kp ((BQ.kp (ht) kp_1 (gr_ni (gr to (by simp)) (by decide)))) kp_4 (gr_ni (gr to (by simp)) (by decide)))) kp_8 (gr_ni (gr to (by simp)) (by decide)))) kp_9 (gr_ni (gr to (by simp)) (by decide)))) kp_15 (gr_ni (gr to (by simp)) (by decide)))
  refine T_virtual (as := [.ref 70, .ref to]) (rest := []) (b := 67) d_Key_mac_68 rfl (jw_Dig_run.jo (by decide)) lm_Key_53 ji_Dig_run js_Dig_run p_17.1 rfl rfl rfl (Nat.le_of_ble_eq_true rfl) (by decide) (by decide) (y_run p_17 p_15_0 p_18 (by decide) hm hm2 (by decide) (by decide) (by decide) (by decide) (by decide) (by decide) (by decide) (by decide) (by decide) (Ne.symm (gr to (by simp) 67 (by decide))) (gr to (by simp) 68 (by decide)) (gr to (by simp) 69 (by decide)) k_to) (fun r M_19 hq => ?_)
  obtain ⟨rfl, p_19_0, p_19_1, kp_19⟩ := hq
  refine T_eq (pc' := 71) (L' := [(0, .ref 66), (1, .ref kp), (2, .ref q), (3, .ref to)]) (st' := []) (M' := M_19) rfl rfl rfl rfl ?_
  have hto := p_19_1
  have e1 : sl l 0 l.length = l := sl_all l
  have e2 : ∀ a : List UInt8, sl (sha a) 0 64 = sha a := fun a => by have := sl_all (sha a); rw [sha_len] at this; exact this
  rw [e2, e1] at hto
  have p_20 := (BY.kp (p_15_0) kp_19 (by simp only [List.mem_cons, List.not_mem_nil, or_false, not_or]; exact ⟨(by decide), (by decide), (Ne.symm (gr to (by simp) 70 (by decide)))⟩) (by simp only [List.mem_cons, List.not_mem_nil, or_false, not_or]; exact ⟨(by decide), (by decide), (Ne.symm (gr to (by simp) 71 (by decide)))⟩))
  have p_21 := (BA.kp ((BA.kp (p_14) kp_15 (by decide))) kp_19 (by simp only [List.mem_cons, List.not_mem_nil, or_false, not_or]; exact ⟨(by decide), (by decide), (Ne.symm (gr to (by simp) 74 (by decide)))⟩))
  exact T_vret d_Key_mac_71 rfl (by decide) (by decide) ⟨rfl, p_19_0, ⟨_, p_20⟩, BA.bq p_21, hto, (Kp.tr (Kp.tr (Kp.tr (Kp.tr (Kp.tr (Kp.tr (Kp.rf : Kp [68, 69, 70, 71, 74, to] M M) (Kp.mono kp_1 (by simp))) (Kp.mono kp_4 (by simp))) (Kp.mono kp_8 (by simp))) (Kp.mono kp_9 (by simp))) (Kp.mono kp_15 (by simp))) (Kp.mono kp_19 (by simp)))⟩
def KY (M : List va_E) : Prop := M[66]? = some keO ∧ DQ M 67 68 69 ∧ (∃ l, BY M 70 71 400 l) ∧ (∃ l, BY M 72 73 200 l) ∧ BQ M 74 64 ∧ BQ M 75 64 ∧ BA M 76 64 (zer8 64)
abbrev kyW : List Nat := [66, 67, 68, 69, 70, 71, 72, 73, 74, 75, 76]
theorem KY.kp {M M' : List va_E} {W : List Nat} (h : KY M) (s : Kp W M M') (hn : ∀ q ∈ W, q < 66 ∨ 76 < q) : KY M' := by
  have n : ∀ q, 66 ≤ q → q ≤ 76 → q ∉ W := fun q h1 h2 c => by have := hn q c; omega
  obtain ⟨a1, a2, ⟨l3, a3⟩, ⟨l4, a4⟩, a5, a6, a7⟩ := h
  exact ⟨(s _ (n _ (by decide) (by decide))).trans a1, a2.kp s (n _ (by decide) (by decide)) (n _ (by decide) (by decide)) (n _ (by decide) (by decide)), ⟨l3, a3.kp s (n _ (by decide) (by decide)) (n _ (by decide) (by decide))⟩, ⟨l4, a4.kp s (n _ (by decide) (by decide)) (n _ (by decide) (by decide))⟩, a5.kp s (n _ (by decide) (by decide)), a6.kp s (n _ (by decide) (by decide)), a7.kp s (n _ (by decide) (by decide))⟩
theorem zer8_len (n : Nat) : (zer8 n).length = n := List.length_replicate
theorem be64 : be (nI 64) 2 = [0, 64] := by decide
theorem be32 : be (nI 32) 2 = [0, 32] := by decide
theorem be0 : be (nI 0) 2 = [0, 0] := by decide
def lab (T a : List UInt8) : List UInt8 := ((((([0, 64] ++ [UInt8.ofNat (7 + T.length)]) ++ W18) ++ T) ++ [UInt8.ofNat a.length]) ++ a)
theorem sl64 {l : List UInt8} {n : Nat} (h : l.length = n) : sl l 0 n = l := by rw [← h]; exact sl_all l
theorem sl0 (l : List UInt8) (a : Nat) : sl l a 0 = [] := rfl
set_option maxHeartbeats 8000000 in
theorem y_ky_mac {G : GX} {M : List va_E} {kp mk q d n to m : Nat} {k0 l : List UInt8} (h : KY M) (hk : BA M kp mk k0) (hq : BY M q d n l) (ht : BQ M to m) (hl0 : k0.length = 64) (hmk : mk < 2 ^ 30) (hl : l.length ≤ 272) (hn : n < 2 ^ 20) (hm : 64 ≤ m) (hm2 : m < 2 ^ 30) (gr : ∀ w ∈ [kp, q, d, to], ∀ z ∈ kyW, w ≠ z) (k_to : K0 ≤ to) (k_d : K0 ≤ d) : CT G mi_Key_mac [.ref 66, .ref kp, .ref q, .ref to] M (fun r M' => r = none ∧ KY M' ∧ BA M' to m (hmac k0 l) ∧ Kp (to :: kyW) M M') := by
  obtain ⟨a1, a2, ⟨l3, a3⟩, ⟨l4, a4⟩, a5, a6, a7⟩ := h
  have gr2 : ∀ w ∈ [kp, q, d, to], ∀ z ∈ [66, 67, 68, 69, 70, 71, 74], w ≠ z := fun w hw z hz => gr w hw z ((by decide : ∀ z ∈ [66, 67, 68, 69, 70, 71, 74], z ∈ kyW) z hz)
  refine (y_Key_mac a1 a2 a3 a5 hk hq ht hl0 hmk hl hn hm hm2 gr2 k_to k_d).post fun r M' hq => ?_
  obtain ⟨rfl, b1, b2, b3, b4, b5⟩ := hq
  have nt : ∀ z ∈ kyW, z ≠ to := fun z hz => Ne.symm (gr to (by simp) z hz)
  have n : ∀ z, z ∈ [66, 72, 73, 75, 76] → z ∉ [68, 69, 70, 71, 74, to] := fun z hz c => by
    have h1 := nt z ((by decide : ∀ z ∈ [66, 72, 73, 75, 76], z ∈ kyW) z hz)
    simp only [List.mem_cons, List.not_mem_nil, or_false] at hz c
    omega
  exact ⟨rfl, ⟨(b5 _ (n 66 (by decide))).trans a1, b1, b2, ⟨l4, a4.kp b5 (n 72 (by decide)) (n 73 (by decide))⟩, b3, a6.kp b5 (n 75 (by decide)), a7.kp b5 (n 76 (by decide))⟩, b4, b5.mono (fun z hz => by
    simp only [List.mem_cons, List.not_mem_nil, or_false] at hz ⊢; omega)⟩
