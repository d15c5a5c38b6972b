/-! The logic over skeletons: memory is the world WS v, arrays of numbers hold anything, and X behind it stays as it is. -/
def sk : va_E → va_E
  | .inl (t, n, .inl _) => .inl (t, n, .inl fun _ => 0)
  | .inl (t, n, .inr (.inl _)) => .inl (t, n, .inr (.inl fun _ => 0))
  | e => e
theorem sk_long {e : va_E} {t n : Nat} (h : sk e = .inl (t, n, .inr (.inl fun _ => 0))) : ∃ f, e = .inl (t, n, .inr (.inl f)) := by
  match e, h with
  | .inl (t, n, .inr (.inl f)), h => cases h; exact ⟨f, rfl⟩
theorem sk_ints {e : va_E} {t n : Nat} (h : sk e = .inl (t, n, .inl fun _ => 0)) : ∃ f, e = .inl (t, n, .inl f) := by
  match e, h with
  | .inl (t, n, .inl f), h => cases h; exact ⟨f, rfl⟩
theorem sk_obj {e : va_E} {x : Nat × List Value} (h : sk e = .inr x) : e = .inr x := by
  match e, h with
  | .inr y, h => exact h
theorem sk_refs {e : va_E} {t n : Nat} {f : Nat → Option Nat} (h : sk e = .inl (t, n, .inr (.inr (.inr (.inr f))))) : e = .inl (t, n, .inr (.inr (.inr (.inr f)))) := by
  match e, h with
  | .inl (t, n, .inr (.inr (.inr (.inr f)))), h => exact h
def Wd (v : Nat → Int32) (M1 : List va_E) : Prop := M1.map sk = WS v
theorem Wd.at {v : Nat → Int32} {M1 : List va_E} (h : Wd v M1) {a : Nat} {e : va_E} (he : (WS v)[a]? = some e) (X : List va_E) : ∃ e', (M1 ++ X)[a]? = some e' ∧ sk e' = e ∧ a < M1.length := by
  unfold Wd at h
  rw [← h, List.getElem?_map] at he
  cases hm : M1[a]? with
  | none => rw [hm] at he; cases he
  | some e' =>
    rw [hm] at he
    have hl : a < M1.length := (List.getElem?_eq_some_iff.mp hm).1
    exact ⟨e', by rw [List.getElem?_append_left hl]; exact hm, Option.some.inj he, hl⟩
theorem Wd.set {v v' : Nat → Int32} {M1 : List va_E} (h : Wd v M1) {a : Nat} {e : va_E} (X : List va_E) (ha : a < M1.length) (he : (WS v).set a (sk e) = WS v') : (M1 ++ X).set a e = M1.set a e ++ X ∧ Wd v' (M1.set a e) := by
  refine ⟨List.set_append_left a e ha, ?_⟩
  unfold Wd at *
  rw [List.map_set, h, he]
theorem WS_same {v : Nat → Int32} {a : Nat} {e : va_E} (h : (WS v)[a]? = some e) : (WS v).set a e = WS v := by
  obtain ⟨hl, he⟩ := List.getElem?_eq_some_iff.mp h
  rw [← he, List.set_getElem_self]
def SQ (X : List va_E) (Q : Option Value → (Nat → Int32) → Prop) : Option Value → List va_E → Prop := fun r M' => ∃ M1' v', M' = M1' ++ X ∧ Wd v' M1' ∧ Q r v'
def ST (G : GX) (mi : MI) (pc : Nat) (L : List (Nat × Value)) (st : List Value) (v : Nat → Int32) (kc ks : Nat) (Q : Option Value → (Nat → Int32) → Prop) : Prop :=
  ∀ X M1, Wd v M1 → TT G mi pc L st (M1 ++ X) kc ks (SQ X Q)
def CS (G : GX) (mi : MI) (as : List Value) (v : Nat → Int32) (Q : Option Value → (Nat → Int32) → Prop) : Prop :=
  ∀ X M1, Wd v M1 → CT G mi as (M1 ++ X) (SQ X Q)
theorem CS.of {G : GX} {mi : MI} {as : List Value} {v : Nat → Int32} {Q : Option Value → (Nat → Int32) → Prop} (hy : plainName (mY mi).cls = true) (hn : (lg_sl as).length ≤ mL mi) (h : ST G mi 0 (lv_args 0 as) [] v 0 0 Q) : CS G mi as v Q :=
  fun X M1 hW => CT.of hy hn (h X M1 hW)
theorem CS.post {G : GX} {mi : MI} {as : List Value} {v : Nat → Int32} {Q Q' : Option Value → (Nat → Int32) → Prop} (h : CS G mi as v Q') (hq : ∀ r v', Q' r v' → Q r v') : CS G mi as v Q := by
  intro X M1 hW ad
  have H := h X M1 hW ad
  intro p e ha hc hk s m args below hf hpre hPc hK
  obtain ⟨k, oc, h1, h2, h3, ⟨⟨r, M', ad', c1, ⟨M1', v', c2, c3, c4⟩, c5⟩, h5⟩⟩ := H p e ha hc hk s m args below hf hpre hPc hK
  exact ⟨k, oc, h1, h2, h3, ⟨⟨r, M', ad', c1, ⟨M1', v', c2, c3, hq r v' c4⟩, c5⟩, h5⟩⟩
/-- arrays by their kind and length, objects by their class and fields -/
def aL (a n : Nat) : Prop := ∀ v, (WS v)[a]? = some (.inl (0, n, .inr (.inl fun _ => 0)))
def aT (t a n : Nat) : Prop := ∀ v, (WS v)[a]? = some (.inl (t, n, .inl fun _ => 0))
abbrev aB (a n : Nat) : Prop := aT 1 a n
abbrev aI (a n : Nat) : Prop := aT 2 a n
abbrev aZ (a n : Nat) : Prop := aT 3 a n
section S
variable {G : GX} {mi : MI} {pc : Nat} {L : List (Nat × Value)} {st : List Value} {v : Nat → Int32} {kc ks : Nat} {Q : Option Value → (Nat → Int32) → Prop}
theorem ST.lift {pc' : Nat} {L' : List (Nat × Value)} {st' : List Value} {kc' ks' : Nat} (f : ∀ M Q, TT G mi pc' L' st' M kc' ks' Q → TT G mi pc L st M kc ks Q) (k : ST G mi pc' L' st' v kc' ks' Q) : ST G mi pc L st v kc ks Q := fun X M1 h => f _ _ (k X M1 h)
theorem S_anyi {x : Int32} (k : ∀ z : Int32, ST G mi pc L (.int z :: st) v kc ks Q) : ST G mi pc L (.int x :: st) v kc ks Q := k x
theorem S_anyl {x : Int64} (k : ∀ z : Int64, ST G mi pc L (.long z :: st) v kc ks Q) : ST G mi pc L (.long x :: st) v kc ks Q := k x
theorem S_topi {x y : Int32} (h : x = y) (k : ST G mi pc L (.int y :: st) v kc ks Q) : ST G mi pc L (.int x :: st) v kc ks Q := by subst h; exact k
theorem S_loc {L' : List (Nat × Value)} (h : L = L') (k : ST G mi pc L' st v kc ks Q) : ST G mi pc L st v kc ks Q := by subst h; exact k
theorem S_post {Q' : Option Value → (Nat → Int32) → Prop} (h : ∀ r v', Q' r v' → Q r v') (k : ST G mi pc L st v kc ks Q') : ST G mi pc L st v kc ks Q :=
  fun X M1 hW => T_post (fun r M' hq => by obtain ⟨a, b, c, d, e⟩ := hq; exact ⟨a, b, c, d, h r b e⟩) (k X M1 hW)
theorem S_iaddN {a b : Nat} (hd : decode (mC mi) pc = .ok (.iadd, 1)) (k : ST G mi (pc + 1) L (.int (nI (a + b)) :: st) v kc ks Q) : ST G mi pc L (.int (nI b) :: .int (nI a) :: st) v kc ks Q :=
  ST.lift (fun _ _ k => T_iadd hd k) (S_topi (nI_add a b) k)
theorem S_imulN {a b : Nat} (hd : decode (mC mi) pc = .ok (.imul, 1)) (k : ST G mi (pc + 1) L (.int (nI (a * b)) :: st) v kc ks Q) : ST G mi pc L (.int (nI b) :: .int (nI a) :: st) v kc ks Q :=
  ST.lift (fun _ _ k => T_imul hd k) (S_topi (pk_mul a b) k)
theorem S_isubN {a b : Nat} (hd : decode (mC mi) pc = .ok (.isub, 1)) (h : b ≤ a) (k : ST G mi (pc + 1) L (.int (nI (a - b)) :: st) v kc ks Q) : ST G mi pc L (.int (nI b) :: .int (nI a) :: st) v kc ks Q :=
  ST.lift (fun _ _ k => T_isub hd k) (S_topi (pk_sub h) k)
theorem S_idivN {a b : Nat} (hd : decode (mC mi) pc = .ok (.idiv, 1)) (ha : a < 2 ^ 31) (h0 : 0 < b) (hb : b < 2 ^ 31) (k : ST G mi (pc + 1) L (.int (nI (a / b)) :: st) v kc ks Q) : ST G mi pc L (.int (nI b) :: .int (nI a) :: st) v kc ks Q :=
  ST.lift (fun _ _ k => T_idiv hd (nI_ne0 h0 hb) k) (S_topi (pk_div ha h0 hb) k)
theorem S_iremN {a b : Nat} (hd : decode (mC mi) pc = .ok (.irem, 1)) (ha : a < 2 ^ 31) (h0 : 0 < b) (hb : b < 2 ^ 31) (k : ST G mi (pc + 1) L (.int (nI (a % b)) :: st) v kc ks Q) : ST G mi pc L (.int (nI b) :: .int (nI a) :: st) v kc ks Q :=
  ST.lift (fun _ _ k => T_irem hd (nI_ne0 h0 hb) k) (S_topi (pk_rem ha h0 hb) k)
theorem and31 {s : Nat} (h : s < 32) : (nI s &&& 31 : Int32) = nI s := by
  rw [show (31 : Int32) = 31 from rfl, pk_andN (by omega) (m := 31) 5 (by decide), Nat.mod_eq_of_lt h]
theorem S_ishrN {a s : Nat} (hd : decode (mC mi) pc = .ok (.ishr, 1)) (ha : a < 2 ^ 31) (hs : s < 32) (k : ST G mi (pc + 1) L (.int (nI (a / 2 ^ s)) :: st) v kc ks Q) : ST G mi pc L (.int (nI s) :: .int (nI a) :: st) v kc ks Q :=
  ST.lift (fun _ _ k => T_ishr hd k) (S_topi (by rw [and31 hs]; refine pk_shrN ha (nI s) s ?_; have : ∀ s, s < 32 → ((nI s).toBitVec.smod 32).toNat = s := by decide
                                                 exact this s hs) k)
theorem S_iandN {a b : Nat} (n : Nat) (hd : decode (mC mi) pc = .ok (.iand, 1)) (ha : a < 2 ^ 31) (hb : b = 2 ^ n - 1) (hn : n ≤ 30) (k : ST G mi (pc + 1) L (.int (nI (a % 2 ^ n)) :: st) v kc ks Q) : ST G mi pc L (.int (nI b) :: .int (nI a) :: st) v kc ks Q := by
  have h2 : 2 ^ n ≤ 2 ^ 30 := Nat.pow_le_pow_right (by decide) hn
  exact ST.lift (fun _ _ k => T_iand hd k) (S_topi (pk_andN (by omega) n (by rw [pk_tn (by omega)]; exact hb)) k)
/-- and with a mask of low bits: a small number comes out of any -/
theorem S_iandM {b : Nat} {x : Int32} (n : Nat) (hd : decode (mC mi) pc = .ok (.iand, 1)) (hb : b = 2 ^ n - 1) (hn : n ≤ 30) (k : ∀ j, j < 2 ^ n → ST G mi (pc + 1) L (.int (nI j) :: st) v kc ks Q) : ST G mi pc L (.int (nI b) :: .int x :: st) v kc ks Q := by
  have h2 : 2 ^ n ≤ 2 ^ 30 := Nat.pow_le_pow_right (by decide) hn
  obtain ⟨j, hj, e⟩ := pk_andE x (m := nI b) n (by rw [pk_tn (by omega)]; exact hb)
  exact ST.lift (fun _ _ k => T_iand hd k) (S_topi e (k j hj))
theorem S_iincN {i a b : Nat} {n : Int} {L' : List (Nat × Value)} (hd : decode (mC mi) pc = .ok (.iinc i n, 3)) (hn : i < mL mi) (hx : lk L i = some (.int (nI a))) (hb : n = (b : Int)) (hl : st1 L i (.int (nI (a + b))) = L') (k : ST G mi (pc + 3) L' st v kc ks Q) : ST G mi pc L st v kc ks Q := by
  subst hb
  exact ST.lift (fun _ _ k => T_iinc hd hn hx (by rw [show Int32.ofInt (b : Int) = nI b from rfl, nI_add]; exact hl) k) k
/-- a counter that goes down: nI a - 1 -/
theorem S_iincD {i a : Nat} {L' : List (Nat × Value)} (hd : decode (mC mi) pc = .ok (.iinc i (-1), 3)) (hn : i < mL mi) (hx : lk L i = some (.int (nI a))) (hl : st1 L i (.int (nI a - 1)) = L') (k : ST G mi (pc + 3) L' st v kc ks Q) : ST G mi pc L st v kc ks Q :=
  ST.lift (fun _ _ k => T_iinc hd hn hx (by rw [show nI a + Int32.ofInt (-1) = nI a - 1 from by rw [Int32.sub_eq_add_neg]; rfl]; exact hl) k) k
theorem S_if_eq {x : Int32} {off : Int} {tgt : Nat} (hd : decode (mC mi) pc = .ok (.ifCond .eq off, 3)) (ht : (pc : Int) + off = (tgt : Int)) (kt : x = 0 → ST G mi tgt L st v kc ks Q) (kf : ¬ x = 0 → ST G mi (pc + 3) L st v kc ks Q) : ST G mi pc L (.int x :: st) v kc ks Q :=
  fun X M1 h => T_if_eq hd ht (fun c => kt c X M1 h) (fun c => kf c X M1 h)
theorem S_icmp_eq {x y : Int32} {off : Int} {tgt : Nat} (hd : decode (mC mi) pc = .ok (.if_icmp .eq off, 3)) (ht : (pc : Int) + off = (tgt : Int)) (kt : x = y → ST G mi tgt L st v kc ks Q) (kf : ¬ x = y → ST G mi (pc + 3) L st v kc ks Q) : ST G mi pc L (.int y :: .int x :: st) v kc ks Q :=
  fun X M1 h => T_icmp_eq hd ht (fun c => kt c X M1 h) (fun c => kf c X M1 h)
theorem S_icmp_eqN {a b : Nat} {off : Int} {tgt : Nat} (hd : decode (mC mi) pc = .ok (.if_icmp .eq off, 3)) (ht : (pc : Int) + off = (tgt : Int)) (ha : a < 2 ^ 31) (hb : b < 2 ^ 31) (kt : a = b → ST G mi tgt L st v kc ks Q) (kf : ¬ a = b → ST G mi (pc + 3) L st v kc ks Q) : ST G mi pc L (.int (nI b) :: .int (nI a) :: st) v kc ks Q := by
  have e1 := nI_eq ha hb; have e2 := nI_ltI ha hb; have e3 := nI_leI ha hb; have e4 := nI_ltI hb ha; have e5 := nI_leI hb ha
  refine S_icmp_eq hd ht (fun c => kt ?_) (fun c => kf ?_)
  · first | exact e1.mp c | exact e2.mp c | exact e3.mp c | exact e4.mp c | exact e5.mp c | exact fun h => c (e1.mpr h) | exact Nat.not_lt.mp fun h => c (e2.mpr h) | exact Nat.not_lt.mp fun h => c (e4.mpr h) | exact Nat.not_le.mp fun h => c (e3.mpr h) | exact Nat.not_le.mp fun h => c (e5.mpr h)
  · first | exact e1.mp c | exact e2.mp c | exact e3.mp c | exact e4.mp c | exact e5.mp c | exact fun h => c (e1.mpr h) | exact Nat.not_lt.mp fun h => c (e2.mpr h) | exact Nat.not_lt.mp fun h => c (e4.mpr h) | exact Nat.not_le.mp fun h => c (e3.mpr h) | exact Nat.not_le.mp fun h => c (e5.mpr h)
theorem S_if_eqN {a : Nat} {off : Int} {tgt : Nat} (hd : decode (mC mi) pc = .ok (.ifCond .eq off, 3)) (ht : (pc : Int) + off = (tgt : Int)) (ha : a < 2 ^ 31) (kt : a = 0 → ST G mi tgt L st v kc ks Q) (kf : ¬ a = 0 → ST G mi (pc + 3) L st v kc ks Q) : ST G mi pc L (.int (nI a) :: st) v kc ks Q := by
  have e1 := nI_eq ha (b := 0) (by decide); have e2 := nI_ltI ha (b := 0) (by decide); have e3 := nI_leI ha (b := 0) (by decide); have e4 := nI_ltI (a := 0) (by decide) ha; have e5 := nI_leI (a := 0) (by decide) ha
  rw [nI_0] at e1 e2 e3 e4 e5
  refine S_if_eq hd ht (fun c => kt ?_) (fun c => kf ?_)
  · first | trivial | exact e1.mp c | exact e2.mp c | exact e4.mp c | exact fun h => c (e1.mpr h) | exact absurd (e2.mp c) (by omega) | exact (c (e5.mpr (by omega))).elim | (have := e3.mp c; omega) | (have : ¬ a < 0 := fun h => c (e2.mpr h); omega) | (have : ¬ 0 < a := fun h => c (e4.mpr h); omega) | (have : ¬ a ≤ 0 := fun h => c (e3.mpr h); omega)
  · first | trivial | exact e1.mp c | exact e2.mp c | exact e4.mp c | exact fun h => c (e1.mpr h) | exact absurd (e2.mp c) (by omega) | exact (c (e5.mpr (by omega))).elim | (have := e3.mp c; omega) | (have : ¬ a < 0 := fun h => c (e2.mpr h); omega) | (have : ¬ 0 < a := fun h => c (e4.mpr h); omega) | (have : ¬ a ≤ 0 := fun h => c (e3.mpr h); omega)
theorem S_if_ne {x : Int32} {off : Int} {tgt : Nat} (hd : decode (mC mi) pc = .ok (.ifCond .ne off, 3)) (ht : (pc : Int) + off = (tgt : Int)) (kt : ¬ x = 0 → ST G mi tgt L st v kc ks Q) (kf : x = 0 → ST G mi (pc + 3) L st v kc ks Q) : ST G mi pc L (.int x :: st) v kc ks Q :=
  fun X M1 h => T_if_ne hd ht (fun c => kt c X M1 h) (fun c => kf c X M1 h)
theorem S_icmp_ne {x y : Int32} {off : Int} {tgt : Nat} (hd : decode (mC mi) pc = .ok (.if_icmp .ne off, 3)) (ht : (pc : Int) + off = (tgt : Int)) (kt : ¬ x = y → ST G mi tgt L st v kc ks Q) (kf : x = y → ST G mi (pc + 3) L st v kc ks Q) : ST G mi pc L (.int y :: .int x :: st) v kc ks Q :=
  fun X M1 h => T_icmp_ne hd ht (fun c => kt c X M1 h) (fun c => kf c X M1 h)
theorem S_icmp_neN {a b : Nat} {off : Int} {tgt : Nat} (hd : decode (mC mi) pc = .ok (.if_icmp .ne off, 3)) (ht : (pc : Int) + off = (tgt : Int)) (ha : a < 2 ^ 31) (hb : b < 2 ^ 31) (kt : ¬ a = b → ST G mi tgt L st v kc ks Q) (kf : a = b → ST G mi (pc + 3) L st v kc ks Q) : ST G mi pc L (.int (nI b) :: .int (nI a) :: st) v kc ks Q := by
  have e1 := nI_eq ha hb; have e2 := nI_ltI ha hb; have e3 := nI_leI ha hb; have e4 := nI_ltI hb ha; have e5 := nI_leI hb ha
  refine S_icmp_ne hd ht (fun c => kt ?_) (fun c => kf ?_)
  · first | exact e1.mp c | exact e2.mp c | exact e3.mp c | exact e4.mp c | exact e5.mp c | exact fun h => c (e1.mpr h) | exact Nat.not_lt.mp fun h => c (e2.mpr h) | exact Nat.not_lt.mp fun h => c (e4.mpr h) | exact Nat.not_le.mp fun h => c (e3.mpr h) | exact Nat.not_le.mp fun h => c (e5.mpr h)
  · first | exact e1.mp c | exact e2.mp c | exact e3.mp c | exact e4.mp c | exact e5.mp c | exact fun h => c (e1.mpr h) | exact Nat.not_lt.mp fun h => c (e2.mpr h) | exact Nat.not_lt.mp fun h => c (e4.mpr h) | exact Nat.not_le.mp fun h => c (e3.mpr h) | exact Nat.not_le.mp fun h => c (e5.mpr h)
theorem S_if_neN {a : Nat} {off : Int} {tgt : Nat} (hd : decode (mC mi) pc = .ok (.ifCond .ne off, 3)) (ht : (pc : Int) + off = (tgt : Int)) (ha : a < 2 ^ 31) (kt : ¬ a = 0 → ST G mi tgt L st v kc ks Q) (kf : a = 0 → ST G mi (pc + 3) L st v kc ks Q) : ST G mi pc L (.int (nI a) :: st) v kc ks Q := by
  have e1 := nI_eq ha (b := 0) (by decide); have e2 := nI_ltI ha (b := 0) (by decide); have e3 := nI_leI ha (b := 0) (by decide); have e4 := nI_ltI (a := 0) (by decide) ha; have e5 := nI_leI (a := 0) (by decide) ha
  rw [nI_0] at e1 e2 e3 e4 e5
  refine S_if_ne hd ht (fun c => kt ?_) (fun c => kf ?_)
  · first | trivial | exact e1.mp c | exact e2.mp c | exact e4.mp c | exact fun h => c (e1.mpr h) | exact absurd (e2.mp c) (by omega) | exact (c (e5.mpr (by omega))).elim | (have := e3.mp c; omega) | (have : ¬ a < 0 := fun h => c (e2.mpr h); omega) | (have : ¬ 0 < a := fun h => c (e4.mpr h); omega) | (have : ¬ a ≤ 0 := fun h => c (e3.mpr h); omega)
  · first | trivial | exact e1.mp c | exact e2.mp c | exact e4.mp c | exact fun h => c (e1.mpr h) | exact absurd (e2.mp c) (by omega) | exact (c (e5.mpr (by omega))).elim | (have := e3.mp c; omega) | (have : ¬ a < 0 := fun h => c (e2.mpr h); omega) | (have : ¬ 0 < a := fun h => c (e4.mpr h); omega) | (have : ¬ a ≤ 0 := fun h => c (e3.mpr h); omega)
theorem S_if_lt {x : Int32} {off : Int} {tgt : Nat} (hd : decode (mC mi) pc = .ok (.ifCond .lt off, 3)) (ht : (pc : Int) + off = (tgt : Int)) (kt : x < 0 → ST G mi tgt L st v kc ks Q) (kf : ¬ x < 0 → ST G mi (pc + 3) L st v kc ks Q) : ST G mi pc L (.int x :: st) v kc ks Q :=
  fun X M1 h => T_if_lt hd ht (fun c => kt c X M1 h) (fun c => kf c X M1 h)
theorem S_icmp_lt {x y : Int32} {off : Int} {tgt : Nat} (hd : decode (mC mi) pc = .ok (.if_icmp .lt off, 3)) (ht : (pc : Int) + off = (tgt : Int)) (kt : x < y → ST G mi tgt L st v kc ks Q) (kf : ¬ x < y → ST G mi (pc + 3) L st v kc ks Q) : ST G mi pc L (.int y :: .int x :: st) v kc ks Q :=
  fun X M1 h => T_icmp_lt hd ht (fun c => kt c X M1 h) (fun c => kf c X M1 h)
theorem S_icmp_ltN {a b : Nat} {off : Int} {tgt : Nat} (hd : decode (mC mi) pc = .ok (.if_icmp .lt off, 3)) (ht : (pc : Int) + off = (tgt : Int)) (ha : a < 2 ^ 31) (hb : b < 2 ^ 31) (kt : a < b → ST G mi tgt L st v kc ks Q) (kf : b ≤ a → ST G mi (pc + 3) L st v kc ks Q) : ST G mi pc L (.int (nI b) :: .int (nI a) :: st) v kc ks Q := by
  have e1 := nI_eq ha hb; have e2 := nI_ltI ha hb; have e3 := nI_leI ha hb; have e4 := nI_ltI hb ha; have e5 := nI_leI hb ha
  refine S_icmp_lt hd ht (fun c => kt ?_) (fun c => kf ?_)
  · first | exact e1.mp c | exact e2.mp c | exact e3.mp c | exact e4.mp c | exact e5.mp c | exact fun h => c (e1.mpr h) | exact Nat.not_lt.mp fun h => c (e2.mpr h) | exact Nat.not_lt.mp fun h => c (e4.mpr h) | exact Nat.not_le.mp fun h => c (e3.mpr h) | exact Nat.not_le.mp fun h => c (e5.mpr h)
  · first | exact e1.mp c | exact e2.mp c | exact e3.mp c | exact e4.mp c | exact e5.mp c | exact fun h => c (e1.mpr h) | exact Nat.not_lt.mp fun h => c (e2.mpr h) | exact Nat.not_lt.mp fun h => c (e4.mpr h) | exact Nat.not_le.mp fun h => c (e3.mpr h) | exact Nat.not_le.mp fun h => c (e5.mpr h)
theorem S_if_ltN {a : Nat} {off : Int} {tgt : Nat} (hd : decode (mC mi) pc = .ok (.ifCond .lt off, 3)) (ht : (pc : Int) + off = (tgt : Int)) (ha : a < 2 ^ 31) (kt : False → ST G mi tgt L st v kc ks Q) (kf : True → ST G mi (pc + 3) L st v kc ks Q) : ST G mi pc L (.int (nI a) :: st) v kc ks Q := by
  have e1 := nI_eq ha (b := 0) (by decide); have e2 := nI_ltI ha (b := 0) (by decide); have e3 := nI_leI ha (b := 0) (by decide); have e4 := nI_ltI (a := 0) (by decide) ha; have e5 := nI_leI (a := 0) (by decide) ha
  rw [nI_0] at e1 e2 e3 e4 e5
  refine S_if_lt hd ht (fun c => kt ?_) (fun c => kf ?_)
  · first | trivial | exact e1.mp c | exact e2.mp c | exact e4.mp c | exact fun h => c (e1.mpr h) | exact absurd (e2.mp c) (by omega) | exact (c (e5.mpr (by omega))).elim | (have := e3.mp c; omega) | (have : ¬ a < 0 := fun h => c (e2.mpr h); omega) | (have : ¬ 0 < a := fun h => c (e4.mpr h); omega) | (have : ¬ a ≤ 0 := fun h => c (e3.mpr h); omega)
  · first | trivial | exact e1.mp c | exact e2.mp c | exact e4.mp c | exact fun h => c (e1.mpr h) | exact absurd (e2.mp c) (by omega) | exact (c (e5.mpr (by omega))).elim | (have := e3.mp c; omega) | (have : ¬ a < 0 := fun h => c (e2.mpr h); omega) | (have : ¬ 0 < a := fun h => c (e4.mpr h); omega) | (have : ¬ a ≤ 0 := fun h => c (e3.mpr h); omega)
theorem S_if_ge {x : Int32} {off : Int} {tgt : Nat} (hd : decode (mC mi) pc = .ok (.ifCond .ge off, 3)) (ht : (pc : Int) + off = (tgt : Int)) (kt : 0 ≤ x → ST G mi tgt L st v kc ks Q) (kf : ¬ 0 ≤ x → ST G mi (pc + 3) L st v kc ks Q) : ST G mi pc L (.int x :: st) v kc ks Q :=
  fun X M1 h => T_if_ge hd ht (fun c => kt c X M1 h) (fun c => kf c X M1 h)
theorem S_icmp_ge {x y : Int32} {off : Int} {tgt : Nat} (hd : decode (mC mi) pc = .ok (.if_icmp .ge off, 3)) (ht : (pc : Int) + off = (tgt : Int)) (kt : y ≤ x → ST G mi tgt L st v kc ks Q) (kf : ¬ y ≤ x → ST G mi (pc + 3) L st v kc ks Q) : ST G mi pc L (.int y :: .int x :: st) v kc ks Q :=
  fun X M1 h => T_icmp_ge hd ht (fun c => kt c X M1 h) (fun c => kf c X M1 h)
theorem S_icmp_geN {a b : Nat} {off : Int} {tgt : Nat} (hd : decode (mC mi) pc = .ok (.if_icmp .ge off, 3)) (ht : (pc : Int) + off = (tgt : Int)) (ha : a < 2 ^ 31) (hb : b < 2 ^ 31) (kt : b ≤ a → ST G mi tgt L st v kc ks Q) (kf : a < b → ST G mi (pc + 3) L st v kc ks Q) : ST G mi pc L (.int (nI b) :: .int (nI a) :: st) v kc ks Q := by
  have e1 := nI_eq ha hb; have e2 := nI_ltI ha hb; have e3 := nI_leI ha hb; have e4 := nI_ltI hb ha; have e5 := nI_leI hb ha
  refine S_icmp_ge hd ht (fun c => kt ?_) (fun c => kf ?_)
  · first | exact e1.mp c | exact e2.mp c | exact e3.mp c | exact e4.mp c | exact e5.mp c | exact fun h => c (e1.mpr h) | exact Nat.not_lt.mp fun h => c (e2.mpr h) | exact Nat.not_lt.mp fun h => c (e4.mpr h) | exact Nat.not_le.mp fun h => c (e3.mpr h) | exact Nat.not_le.mp fun h => c (e5.mpr h)
  · first | exact e1.mp c | exact e2.mp c | exact e3.mp c | exact e4.mp c | exact e5.mp c | exact fun h => c (e1.mpr h) | exact Nat.not_lt.mp fun h => c (e2.mpr h) | exact Nat.not_lt.mp fun h => c (e4.mpr h) | exact Nat.not_le.mp fun h => c (e3.mpr h) | exact Nat.not_le.mp fun h => c (e5.mpr h)
theorem S_if_geN {a : Nat} {off : Int} {tgt : Nat} (hd : decode (mC mi) pc = .ok (.ifCond .ge off, 3)) (ht : (pc : Int) + off = (tgt : Int)) (ha : a < 2 ^ 31) (kt : True → ST G mi tgt L st v kc ks Q) (kf : False → ST G mi (pc + 3) L st v kc ks Q) : ST G mi pc L (.int (nI a) :: st) v kc ks Q := by
  have e1 := nI_eq ha (b := 0) (by decide); have e2 := nI_ltI ha (b := 0) (by decide); have e3 := nI_leI ha (b := 0) (by decide); have e4 := nI_ltI (a := 0) (by decide) ha; have e5 := nI_leI (a := 0) (by decide) ha
  rw [nI_0] at e1 e2 e3 e4 e5
  refine S_if_ge hd ht (fun c => kt ?_) (fun c => kf ?_)
  · first | trivial | exact e1.mp c | exact e2.mp c | exact e4.mp c | exact fun h => c (e1.mpr h) | exact absurd (e2.mp c) (by omega) | exact (c (e5.mpr (by omega))).elim | (have := e3.mp c; omega) | (have : ¬ a < 0 := fun h => c (e2.mpr h); omega) | (have : ¬ 0 < a := fun h => c (e4.mpr h); omega) | (have : ¬ a ≤ 0 := fun h => c (e3.mpr h); omega)
  · first | trivial | exact e1.mp c | exact e2.mp c | exact e4.mp c | exact fun h => c (e1.mpr h) | exact absurd (e2.mp c) (by omega) | exact (c (e5.mpr (by omega))).elim | (have := e3.mp c; omega) | (have : ¬ a < 0 := fun h => c (e2.mpr h); omega) | (have : ¬ 0 < a := fun h => c (e4.mpr h); omega) | (have : ¬ a ≤ 0 := fun h => c (e3.mpr h); omega)
theorem S_if_gt {x : Int32} {off : Int} {tgt : Nat} (hd : decode (mC mi) pc = .ok (.ifCond .gt off, 3)) (ht : (pc : Int) + off = (tgt : Int)) (kt : 0 < x → ST G mi tgt L st v kc ks Q) (kf : ¬ 0 < x → ST G mi (pc + 3) L st v kc ks Q) : ST G mi pc L (.int x :: st) v kc ks Q :=
  fun X M1 h => T_if_gt hd ht (fun c => kt c X M1 h) (fun c => kf c X M1 h)
theorem S_icmp_gt {x y : Int32} {off : Int} {tgt : Nat} (hd : decode (mC mi) pc = .ok (.if_icmp .gt off, 3)) (ht : (pc : Int) + off = (tgt : Int)) (kt : y < x → ST G mi tgt L st v kc ks Q) (kf : ¬ y < x → ST G mi (pc + 3) L st v kc ks Q) : ST G mi pc L (.int y :: .int x :: st) v kc ks Q :=
  fun X M1 h => T_icmp_gt hd ht (fun c => kt c X M1 h) (fun c => kf c X M1 h)
theorem S_icmp_gtN {a b : Nat} {off : Int} {tgt : Nat} (hd : decode (mC mi) pc = .ok (.if_icmp .gt off, 3)) (ht : (pc : Int) + off = (tgt : Int)) (ha : a < 2 ^ 31) (hb : b < 2 ^ 31) (kt : b < a → ST G mi tgt L st v kc ks Q) (kf : a ≤ b → ST G mi (pc + 3) L st v kc ks Q) : ST G mi pc L (.int (nI b) :: .int (nI a) :: st) v kc ks Q := by
  have e1 := nI_eq ha hb; have e2 := nI_ltI ha hb; have e3 := nI_leI ha hb; have e4 := nI_ltI hb ha; have e5 := nI_leI hb ha
  refine S_icmp_gt hd ht (fun c => kt ?_) (fun c => kf ?_)
  · first | exact e1.mp c | exact e2.mp c | exact e3.mp c | exact e4.mp c | exact e5.mp c | exact fun h => c (e1.mpr h) | exact Nat.not_lt.mp fun h => c (e2.mpr h) | exact Nat.not_lt.mp fun h => c (e4.mpr h) | exact Nat.not_le.mp fun h => c (e3.mpr h) | exact Nat.not_le.mp fun h => c (e5.mpr h)
  · first | exact e1.mp c | exact e2.mp c | exact e3.mp c | exact e4.mp c | exact e5.mp c | exact fun h => c (e1.mpr h) | exact Nat.not_lt.mp fun h => c (e2.mpr h) | exact Nat.not_lt.mp fun h => c (e4.mpr h) | exact Nat.not_le.mp fun h => c (e3.mpr h) | exact Nat.not_le.mp fun h => c (e5.mpr h)
theorem S_if_gtN {a : Nat} {off : Int} {tgt : Nat} (hd : decode (mC mi) pc = .ok (.ifCond .gt off, 3)) (ht : (pc : Int) + off = (tgt : Int)) (ha : a < 2 ^ 31) (kt : 0 < a → ST G mi tgt L st v kc ks Q) (kf : a = 0 → ST G mi (pc + 3) L st v kc ks Q) : ST G mi pc L (.int (nI a) :: st) v kc ks Q := by
  have e1 := nI_eq ha (b := 0) (by decide); have e2 := nI_ltI ha (b := 0) (by decide); have e3 := nI_leI ha (b := 0) (by decide); have e4 := nI_ltI (a := 0) (by decide) ha; have e5 := nI_leI (a := 0) (by decide) ha
  rw [nI_0] at e1 e2 e3 e4 e5
  refine S_if_gt hd ht (fun c => kt ?_) (fun c => kf ?_)
  · first | trivial | exact e1.mp c | exact e2.mp c | exact e4.mp c | exact fun h => c (e1.mpr h) | exact absurd (e2.mp c) (by omega) | exact (c (e5.mpr (by omega))).elim | (have := e3.mp c; omega) | (have : ¬ a < 0 := fun h => c (e2.mpr h); omega) | (have : ¬ 0 < a := fun h => c (e4.mpr h); omega) | (have : ¬ a ≤ 0 := fun h => c (e3.mpr h); omega)
  · first | trivial | exact e1.mp c | exact e2.mp c | exact e4.mp c | exact fun h => c (e1.mpr h) | exact absurd (e2.mp c) (by omega) | exact (c (e5.mpr (by omega))).elim | (have := e3.mp c; omega) | (have : ¬ a < 0 := fun h => c (e2.mpr h); omega) | (have : ¬ 0 < a := fun h => c (e4.mpr h); omega) | (have : ¬ a ≤ 0 := fun h => c (e3.mpr h); omega)
theorem S_if_le {x : Int32} {off : Int} {tgt : Nat} (hd : decode (mC mi) pc = .ok (.ifCond .le off, 3)) (ht : (pc : Int) + off = (tgt : Int)) (kt : x ≤ 0 → ST G mi tgt L st v kc ks Q) (kf : ¬ x ≤ 0 → ST G mi (pc + 3) L st v kc ks Q) : ST G mi pc L (.int x :: st) v kc ks Q :=
  fun X M1 h => T_if_le hd ht (fun c => kt c X M1 h) (fun c => kf c X M1 h)
theorem S_icmp_le {x y : Int32} {off : Int} {tgt : Nat} (hd : decode (mC mi) pc = .ok (.if_icmp .le off, 3)) (ht : (pc : Int) + off = (tgt : Int)) (kt : x ≤ y → ST G mi tgt L st v kc ks Q) (kf : ¬ x ≤ y → ST G mi (pc + 3) L st v kc ks Q) : ST G mi pc L (.int y :: .int x :: st) v kc ks Q :=
  fun X M1 h => T_icmp_le hd ht (fun c => kt c X M1 h) (fun c => kf c X M1 h)
theorem S_icmp_leN {a b : Nat} {off : Int} {tgt : Nat} (hd : decode (mC mi) pc = .ok (.if_icmp .le off, 3)) (ht : (pc : Int) + off = (tgt : Int)) (ha : a < 2 ^ 31) (hb : b < 2 ^ 31) (kt : a ≤ b → ST G mi tgt L st v kc ks Q) (kf : b < a → ST G mi (pc + 3) L st v kc ks Q) : ST G mi pc L (.int (nI b) :: .int (nI a) :: st) v kc ks Q := by
  have e1 := nI_eq ha hb; have e2 := nI_ltI ha hb; have e3 := nI_leI ha hb; have e4 := nI_ltI hb ha; have e5 := nI_leI hb ha
  refine S_icmp_le hd ht (fun c => kt ?_) (fun c => kf ?_)
  · first | exact e1.mp c | exact e2.mp c | exact e3.mp c | exact e4.mp c | exact e5.mp c | exact fun h => c (e1.mpr h) | exact Nat.not_lt.mp fun h => c (e2.mpr h) | exact Nat.not_lt.mp fun h => c (e4.mpr h) | exact Nat.not_le.mp fun h => c (e3.mpr h) | exact Nat.not_le.mp fun h => c (e5.mpr h)
  · first | exact e1.mp c | exact e2.mp c | exact e3.mp c | exact e4.mp c | exact e5.mp c | exact fun h => c (e1.mpr h) | exact Nat.not_lt.mp fun h => c (e2.mpr h) | exact Nat.not_lt.mp fun h => c (e4.mpr h) | exact Nat.not_le.mp fun h => c (e3.mpr h) | exact Nat.not_le.mp fun h => c (e5.mpr h)
theorem S_if_leN {a : Nat} {off : Int} {tgt : Nat} (hd : decode (mC mi) pc = .ok (.ifCond .le off, 3)) (ht : (pc : Int) + off = (tgt : Int)) (ha : a < 2 ^ 31) (kt : a = 0 → ST G mi tgt L st v kc ks Q) (kf : 0 < a → ST G mi (pc + 3) L st v kc ks Q) : ST G mi pc L (.int (nI a) :: st) v kc ks Q := by
  have e1 := nI_eq ha (b := 0) (by decide); have e2 := nI_ltI ha (b := 0) (by decide); have e3 := nI_leI ha (b := 0) (by decide); have e4 := nI_ltI (a := 0) (by decide) ha; have e5 := nI_leI (a := 0) (by decide) ha
  rw [nI_0] at e1 e2 e3 e4 e5
  refine S_if_le hd ht (fun c => kt ?_) (fun c => kf ?_)
  · first | trivial | exact e1.mp c | exact e2.mp c | exact e4.mp c | exact fun h => c (e1.mpr h) | exact absurd (e2.mp c) (by omega) | exact (c (e5.mpr (by omega))).elim | (have := e3.mp c; omega) | (have : ¬ a < 0 := fun h => c (e2.mpr h); omega) | (have : ¬ 0 < a := fun h => c (e4.mpr h); omega) | (have : ¬ a ≤ 0 := fun h => c (e3.mpr h); omega)
  · first | trivial | exact e1.mp c | exact e2.mp c | exact e4.mp c | exact fun h => c (e1.mpr h) | exact absurd (e2.mp c) (by omega) | exact (c (e5.mpr (by omega))).elim | (have := e3.mp c; omega) | (have : ¬ a < 0 := fun h => c (e2.mpr h); omega) | (have : ¬ 0 < a := fun h => c (e4.mpr h); omega) | (have : ¬ a ≤ 0 := fun h => c (e3.mpr h); omega)
theorem nD0 : (nI 0 - 1 : Int32) < 0 := by decide
theorem S_if_geD {a : Nat} {off : Int} {tgt : Nat} (hd : decode (mC mi) pc = .ok (.ifCond .ge off, 3)) (ht : (pc : Int) + off = (tgt : Int)) (ha : a < 2 ^ 31) (kt : ∀ b, a = b + 1 → ST G mi tgt L st v kc ks Q) (kf : a = 0 → ST G mi (pc + 3) L st v kc ks Q) : ST G mi pc L (.int (nI a - 1) :: st) v kc ks Q := by
  cases a with
  | zero => exact S_if_ge hd ht (fun c => absurd nD0 (by first | exact c | exact Int32.not_lt.mpr c)) (fun _ => kf rfl)
  | succ b =>
    rw [nI_pred]
    exact S_if_geN hd ht (by omega) (fun _ => kt b rfl) (fun h => h.elim)
theorem S_if_ltD {a : Nat} {off : Int} {tgt : Nat} (hd : decode (mC mi) pc = .ok (.ifCond .lt off, 3)) (ht : (pc : Int) + off = (tgt : Int)) (ha : a < 2 ^ 31) (kt : a = 0 → ST G mi tgt L st v kc ks Q) (kf : ∀ b, a = b + 1 → ST G mi (pc + 3) L st v kc ks Q) : ST G mi pc L (.int (nI a - 1) :: st) v kc ks Q := by
  cases a with
  | zero => exact S_if_lt hd ht (fun _ => kt rfl) (fun c => absurd nD0 c)
  | succ b =>
    rw [nI_pred]
    exact S_if_ltN hd ht (by omega) (fun h => h.elim) (fun _ => kf b rfl)
theorem S_getfield {idx ci k a : Nat} {fs : List Value} {x : Value} (hd : decode (mC mi) pc = .ok (.getfield idx, 3)) (hf : FG mi idx ci k) (hm : (WS v)[a]? = some (.inr (ci, fs))) (hv : fs[k]? = some x) (kk : ST G mi (pc + 3) L (x :: st) v kc ks Q) : ST G mi pc L (.ref a :: st) v kc ks Q := by
  intro X M1 h
  obtain ⟨e, h1, h2, -⟩ := h.at hm X
  rw [sk_obj h2] at h1
  exact T_getfield hd hf h1 hv (kk X M1 h)
theorem S_putfield {idx ci k a : Nat} {fs : List Value} {x : Value} {ty : FieldType} {v' : Nat → Int32} (hd : decode (mC mi) pc = .ok (.putfield idx, 3)) (hf : FP mi idx ci k ty) (hm : (WS v)[a]? = some (.inr (ci, fs))) (hl : k < fs.length) (hv : fitV ty x) (hu : (WS v).set a (.inr (ci, fs.set k x)) = WS v') (kk : ST G mi (pc + 3) L st v' kc ks Q) : ST G mi pc L (x :: .ref a :: st) v kc ks Q := by
  intro X M1 h
  obtain ⟨e, h1, h2, h3⟩ := h.at hm X
  rw [sk_obj h2] at h1
  obtain ⟨e1, h4⟩ := h.set (e := .inr (ci, fs.set k x)) X h3 hu
  exact T_putfield hd hf h1 hl hv e1 (kk X _ h4)
theorem S_laload {a n : Nat} {i : Int32} (hd : decode (mC mi) pc = .ok (.laload, 1)) (hm : aL a n) (hi : vp_in i n) (kk : ∀ z : Int64, ST G mi (pc + 1) L (.long z :: st) v kc ks Q) : ST G mi pc L (.int i :: .ref a :: st) v kc ks Q := by
  intro X M1 h
  obtain ⟨e, h1, h2, -⟩ := h.at (hm v) X
  obtain ⟨f, rfl⟩ := sk_long h2
  exact T_laload hd h1 hi (kk _ X M1 h)
theorem S_baload {a n : Nat} {i : Int32} (hd : decode (mC mi) pc = .ok (.baload, 1)) (hm : aB a n) (hi : vp_in i n) (kk : ∀ z : Int32, fits .byte (.int z) = true → ST G mi (pc + 1) L (.int z :: st) v kc ks Q) : ST G mi pc L (.int i :: .ref a :: st) v kc ks Q := by
  intro X M1 h
  obtain ⟨e, h1, h2, -⟩ := h.at (hm v) X
  obtain ⟨f, rfl⟩ := sk_ints h2
  exact T_baload hd h1 hi (fun hb => kk _ hb X M1 h)
theorem S_zaload {a n : Nat} {i : Int32} (hd : decode (mC mi) pc = .ok (.baload, 1)) (hm : aZ a n) (hi : vp_in i n) (kk : ∀ z : Int32, fits .boolean (.int z) = true → ST G mi (pc + 1) L (.int z :: st) v kc ks Q) : ST G mi pc L (.int i :: .ref a :: st) v kc ks Q := by
  intro X M1 h
  obtain ⟨e, h1, h2, -⟩ := h.at (hm v) X
  obtain ⟨f, rfl⟩ := sk_ints h2
  exact T_zaload hd h1 hi (fun hb => kk _ hb X M1 h)
theorem S_iaload {a n : Nat} {i : Int32} (hd : decode (mC mi) pc = .ok (.iaload, 1)) (hm : aI a n) (hi : vp_in i n) (kk : ∀ z : Int32, ST G mi (pc + 1) L (.int z :: st) v kc ks Q) : ST G mi pc L (.int i :: .ref a :: st) v kc ks Q := by
  intro X M1 h
  obtain ⟨e, h1, h2, -⟩ := h.at (hm v) X
  obtain ⟨f, rfl⟩ := sk_ints h2
  exact T_iaload hd h1 hi (kk _ X M1 h)
theorem S_lastore {a n : Nat} {i : Int32} {x : Int64} (hd : decode (mC mi) pc = .ok (.lastore, 1)) (ha : K0 ≤ a) (hm : aL a n) (hi : vp_in i n) (kk : ST G mi (pc + 1) L st v kc ks Q) : ST G mi pc L (.long x :: .int i :: .ref a :: st) v kc ks Q := by
  intro X M1 h
  obtain ⟨e, h1, h2, h3⟩ := h.at (hm v) X
  obtain ⟨f, rfl⟩ := sk_long h2
  have hs := fun e (he : sk e = _) => h.set (e := e) X h3 (by rw [he]; exact WS_same (hm v))
  exact T_lastore hd ha h1 hi (hs _ rfl).1 (kk X _ (hs _ rfl).2)
theorem S_bastore {a n : Nat} {i : Int32} {x : Int32} (hd : decode (mC mi) pc = .ok (.bastore, 1)) (ha : K0 ≤ a) (hm : aB a n) (hi : vp_in i n) (kk : ST G mi (pc + 1) L st v kc ks Q) : ST G mi pc L (.int x :: .int i :: .ref a :: st) v kc ks Q := by
  intro X M1 h
  obtain ⟨e, h1, h2, h3⟩ := h.at (hm v) X
  obtain ⟨f, rfl⟩ := sk_ints h2
  have hs := fun e (he : sk e = _) => h.set (e := e) X h3 (by rw [he]; exact WS_same (hm v))
  exact T_bastore hd ha h1 hi (hs _ rfl).1 (kk X _ (hs _ rfl).2)
theorem S_iastore {a n : Nat} {i : Int32} {x : Int32} (hd : decode (mC mi) pc = .ok (.iastore, 1)) (ha : K0 ≤ a) (hm : aI a n) (hi : vp_in i n) (kk : ST G mi (pc + 1) L st v kc ks Q) : ST G mi pc L (.int x :: .int i :: .ref a :: st) v kc ks Q := by
  intro X M1 h
  obtain ⟨e, h1, h2, h3⟩ := h.at (hm v) X
  obtain ⟨f, rfl⟩ := sk_ints h2
  have hs := fun e (he : sk e = _) => h.set (e := e) X h3 (by rw [he]; exact WS_same (hm v))
  exact T_iastore hd ha h1 hi (hs _ rfl).1 (kk X _ (hs _ rfl).2)
theorem S_zastore {a n : Nat} {i : Int32} {x : Int32} (hd : decode (mC mi) pc = .ok (.bastore, 1)) (ha : K0 ≤ a) (hm : aZ a n) (hi : vp_in i n) (kk : ST G mi (pc + 1) L st v kc ks Q) : ST G mi pc L (.int x :: .int i :: .ref a :: st) v kc ks Q := by
  intro X M1 h
  obtain ⟨e, h1, h2, h3⟩ := h.at (hm v) X
  obtain ⟨f, rfl⟩ := sk_ints h2
  have hs := fun e (he : sk e = _) => h.set (e := e) X h3 (by rw [he]; exact WS_same (hm v))
  exact T_zastore hd ha h1 hi (hs _ rfl).1 (kk X _ (hs _ rfl).2)
theorem S_aaload {a t n : Nat} {f : Nat → Option Nat} {C0 : String} {i : Int32} (hd : decode (mC mi) pc = .ok (.aaload, 1)) (ha : K0 ≤ a) (hm : (WS v)[a]? = some (.inl (t, n, .inr (.inr (.inr (.inr f)))))) (ht : tyl[t]? = some (.object C0)) (hi : vp_in i n) (kk : ST G mi (pc + 1) L (va_rf (f i.toNatClampNeg) :: st) v kc ks Q) : ST G mi pc L (.int i :: .ref a :: st) v kc ks Q := by
  intro X M1 h
  obtain ⟨e, h1, h2, -⟩ := h.at hm X
  rw [sk_refs h2] at h1
  exact T_aaload hd ha h1 ht hi (kk X M1 h)
theorem S_alenL {a n : Nat} (hd : decode (mC mi) pc = .ok (.arraylength, 1)) (ha : K0 ≤ a) (hm : aL a n) (kk : ST G mi (pc + 1) L (.int (nI n) :: st) v kc ks Q) : ST G mi pc L (.ref a :: st) v kc ks Q := by
  intro X M1 h
  obtain ⟨e, h1, h2, -⟩ := h.at (hm v) X
  obtain ⟨f, rfl⟩ := sk_long h2
  exact T_alen hd ha h1 (ty := .long) rfl rfl (kk X M1 h)
theorem S_alenB {a n : Nat} (hd : decode (mC mi) pc = .ok (.arraylength, 1)) (hm : aB a n) (kk : ST G mi (pc + 1) L (.int (nI n) :: st) v kc ks Q) : ST G mi pc L (.ref a :: st) v kc ks Q := by
  intro X M1 h
  obtain ⟨e, h1, h2, -⟩ := h.at (hm v) X
  obtain ⟨f, rfl⟩ := sk_ints h2
  by_cases ha : K0 ≤ a
  · exact T_alen hd ha h1 (ty := .byte) rfl rfl (kk X M1 h)
  · exact T_alenF hd ha h1 rfl (kk X M1 h)
theorem S_ret {x : Int32} {ty : FieldType} (hd : decode (mC mi) pc = .ok (.ireturn, 1)) (hT : mT mi = some ty) (hn : narrow ty (.int x) = .int x) (hkc : kc ≤ (mRm mi).cells) (hks : ks ≤ (mRm mi).slots) (hQ : Q (some (.int x)) v) : ST G mi pc L [.int x] v kc ks Q :=
  fun _ M1 h => T_ret hd hT hn hkc hks ⟨M1, v, rfl, h, hQ⟩
theorem S_lret {x : Int64} (hd : decode (mC mi) pc = .ok (.lreturn, 1)) (hT : mT mi = some .long) (hkc : kc ≤ (mRm mi).cells) (hks : ks ≤ (mRm mi).slots) (hQ : Q (some (.long x)) v) : ST G mi pc L [.long x] v kc ks Q :=
  fun _ M1 h => T_lret hd hT hkc hks ⟨M1, v, rfl, h, hQ⟩
theorem S_vret (hd : decode (mC mi) pc = .ok (.return_, 1)) (hT : mT mi = none) (hkc : kc ≤ (mRm mi).cells) (hks : ks ≤ (mRm mi).slots) (hQ : Q none v) : ST G mi pc L [] v kc ks Q :=
  fun _ M1 h => T_vret hd hT hkc hks ⟨M1, v, rfl, h, hQ⟩
theorem S_static {idx n : Nat} {mj : MI} {as rest : List Value} {Qc : Option Value → (Nat → Int32) → Prop} (hd : decode (mC mi) pc = .ok (.invokestatic idx, 3)) (hst : st = as.reverse ++ rest) (hj : JO mi mj n) (hl : Cond.methodLink (mY mi).cls idx (mY mj) ∈ gtb) (hs : Cond.static (mY mj) ∈ gtb) (hn : as.length = n) (hw : (rest.map fun v => v.category).sum ≤ 8) (hkc : kc + (mRm mj).cells ≤ (mRm mi).cells) (hks : ks + (mRm mj).slots ≤ (mRm mi).slots)
    (hM : CS G mj as v Qc) (kk : ∀ r v', Qc r v' → ST G mi (pc + 3) L (r.toList ++ rest) v' (kc + (mRm mj).cells) (ks + (mRm mj).slots) Q) : ST G mi pc L st v kc ks Q :=
  fun X M1 h => T_static hd hst hj hl hs hn hw hkc hks (hM X M1 h) (fun r _ hq => by obtain ⟨M1', v', rfl, hW, hq⟩ := hq; exact kk r v' hq X M1' hW)
theorem S_virtual {idx n b ci : Nat} {mj : MI} {as rest fs : List Value} {q : vw_C} {Qc : Option Value → (Nat → Int32) → Prop} (hd : decode (mC mi) pc = .ok (.invokevirtual idx, 3)) (hst : st = as.reverse ++ .ref b :: rest) (hj : JO mi mj n) (hl : Cond.methodLink (mY mi).cls idx (mY mj) ∈ gtb) (hi : Cond.instanceMethod (mY mj) ∈ gtb) (hse : Cond.selects (mY mj).cls (mY mj) (mY mj) ∈ gtb) (hm : (WS v)[b]? = some (.inr (ci, fs))) (hc : classes[ci]? = some q) (hq : q.1 = (mY mj).cls) (hn : as.length = n) (hw : (rest.map fun v => v.category).sum ≤ 8) (hkc : kc + (mRm mj).cells ≤ (mRm mi).cells) (hks : ks + (mRm mj).slots ≤ (mRm mi).slots)
    (hM : CS G mj (.ref b :: as) v Qc) (kk : ∀ r v', Qc r v' → ST G mi (pc + 3) L (r.toList ++ rest) v' (kc + (mRm mj).cells) (ks + (mRm mj).slots) Q) : ST G mi pc L st v kc ks Q := by
  intro X M1 h
  obtain ⟨e, h1, h2, -⟩ := h.at hm X
  rw [sk_obj h2] at h1
  exact T_virtual hd hst hj hl hi hse h1 hc hq hn hw hkc hks (hM X M1 h) (fun r _ hq => by obtain ⟨M1', v', rfl, hW, hq⟩ := hq; exact kk r v' hq X M1' hW)
theorem S_pick {L' : List (Nat × Value)} (is : List Nat) (h : lv_pick L is = L') (k : ST G mi pc L' st v kc ks Q) : ST G mi pc L st v kc ks Q := by
  intro X M1 hW p e R s m args below meth c H locs ls ad ad0 n0 C D
  obtain ⟨d1, d2, d3, d4, d5, d6, d7⟩ := D
  have hsub : ∀ q ∈ L', q ∈ L := by
    intro q hq
    rw [← h] at hq
    obtain ⟨i, -, hi⟩ := List.mem_filterMap.mp hq
    exact List.mem_of_getElem? hi
  refine k X M1 hW p e R s m args below meth c H locs ls ad ad0 n0 C ⟨d1, ⟨d2.1, d2.2.1, fun q hq => ?_⟩, d3, d4, d5, fun q hq => d6 q (hsub q hq), d7⟩
  obtain ⟨q', hq', rfl⟩ := List.mem_map.mp hq
  exact d2.2.2 _ (List.mem_map.mpr ⟨q', hsub q' hq', rfl⟩)
end S
/-- what any caller asks of a callee -/
def JW (mj : MI) (n : Nat) : Prop := Cond.code (mY mj) (mC mj) (mL mj) (mT mj) ∈ gtb ∧ Cond.initialized (mY mj).cls ∈ gtb ∧ ((mY mj).cls ≠ "java/lang/invoke/MethodHandle" ∧ (mY mj).cls ≠ "java/lang/invoke/VarHandle" ∧ (parseMethodDescriptor (mY mj).desc).map (fun d => d.parameters.length) = some n)
theorem JW.jo {mi mj : MI} {n : Nat} (h : JW mj n) (hr : (mRm mj).frames + 1 ≤ (mRm mi).frames ∧ 8 + (mL mj + 11) + (mRm mj).locals ≤ (mRm mi).locals) : JO mi mj n := ⟨h.1, h.2.1, h.2.2, hr⟩
