/-! The logic over skeletons: memory is the world WS v, arrays of numbers hold anything, and X behind it stays as it is. -/
def sk : va_E → va_E
  | .inl (t, n, .inl _) => .inl (t, n, .inl fun _ => 0)
  | .inl (t, n, .inr (.inl _)) => .inl (t, n, .inr (.inl fun _ => 0))
  | e => e
theorem sk_long {e : va_E} {t n : Nat} (h : sk e = .inl (t, n, .inr (.inl fun _ => 0))) : ∃ f, e = .inl (t, n, .inr (.inl f)) := by
  match e, h with
  | .inl (t, n, .inr (.inl f)), h => cases h; exact ⟨f, rfl⟩
theorem sk_ints {e : va_E} {t n : Nat} (h : sk e = .inl (t, n, .inl fun _ => 0)) : ∃ f, e = .inl (t, n, .inl f) := by
  match e, h with
  | .inl (t, n, .inl f), h => cases h; exact ⟨f, rfl⟩
theorem sk_obj {e : va_E} {x : Nat × List Value} (h : sk e = .inr x) : e = .inr x := by
  match e, h with
  | .inr y, h => exact h
theorem sk_refs {e : va_E} {t n : Nat} {f : Nat → Option Nat} (h : sk e = .inl (t, n, .inr (.inr (.inr (.inr f))))) : e = .inl (t, n, .inr (.inr (.inr (.inr f)))) := by
  match e, h with
  | .inl (t, n, .inr (.inr (.inr (.inr f)))), h => exact h
/-- the skeleton of the cell at a place -/
def skI (i : Nat) (e : va_E) : va_E := if exl i then e else sk e
theorem skI_off {i : Nat} (h : exl i = false) (e : va_E) : skI i e = sk e := by simp [skI, h]
theorem skI_on {i : Nat} (h : exl i = true) (e : va_E) : skI i e = e := by simp [skI, h]
theorem skI_obj {i : Nat} {e : va_E} {x : Nat × List Value} (h : skI i e = .inr x) : e = .inr x := by
  unfold skI at h
  split at h
  · exact h
  · exact sk_obj h
theorem skI_refs {i : Nat} {e : va_E} {t n : Nat} {f : Nat → Option Nat} (h : skI i e = .inl (t, n, .inr (.inr (.inr (.inr f))))) : e = .inl (t, n, .inr (.inr (.inr (.inr f)))) := by
  unfold skI at h
  split at h
  · exact h
  · exact sk_refs h
theorem skI_long {i : Nat} {e : va_E} {t n : Nat} (h : skI i e = .inl (t, n, .inr (.inl fun _ => 0))) : ∃ f, e = .inl (t, n, .inr (.inl f)) := by
  unfold skI at h
  split at h
  · exact ⟨_, h⟩
  · exact sk_long h
theorem skI_ints {i : Nat} {e : va_E} {t n : Nat} (h : skI i e = .inl (t, n, .inl fun _ => 0)) : ∃ f, e = .inl (t, n, .inl f) := by
  unfold skI at h
  split at h
  · exact ⟨_, h⟩
  · exact sk_ints h
theorem skI_rr (i : Nat) (x : Nat × List Value) : skI i (.inr x) = .inr x := by
  unfold skI
  split <;> rfl
def Wd (v : Nat → Int32) (M1 : List va_E) : Prop := M1.mapIdx skI = WS v
theorem Wd.at {v : Nat → Int32} {M1 : List va_E} (h : Wd v M1) {a : Nat} {e : va_E} (he : (WS v)[a]? = some e) (X : List va_E) : ∃ e', (M1 ++ X)[a]? = some e' ∧ skI a e' = e ∧ a < M1.length := by
  unfold Wd at h
  rw [← h, List.getElem?_mapIdx] at he
  cases hm : M1[a]? with
  | none => rw [hm] at he; cases he
  | some e' =>
    rw [hm] at he
    have hl : a < M1.length := (List.getElem?_eq_some_iff.mp hm).1
    exact ⟨e', by rw [List.getElem?_append_left hl]; exact hm, Option.some.inj he, hl⟩
theorem Wd.set {v v' : Nat → Int32} {M1 : List va_E} (h : Wd v M1) {a : Nat} {e : va_E} (X : List va_E) (ha : a < M1.length) (he : (WS v).set a (skI a e) = WS v') : (M1 ++ X).set a e = M1.set a e ++ X ∧ Wd v' (M1.set a e) := by
  refine ⟨List.set_append_left a e ha, ?_⟩
  unfold Wd at *
  rw [← he, ← h]
  apply List.ext_getElem?
  intro k
  rw [List.getElem?_mapIdx, List.getElem?_set, List.getElem?_set, List.getElem?_mapIdx, List.length_mapIdx]
  by_cases hk : a = k
  · subst hk
    simp [ha]
  · simp [hk]
theorem WS_same {v : Nat → Int32} {a : Nat} {e : va_E} (h : (WS v)[a]? = some e) : (WS v).set a e = WS v := by
  obtain ⟨hl, he⟩ := List.getElem?_eq_some_iff.mp h
  rw [← he, List.set_getElem_self]
def SQ (X : List va_E) (Q : Option Value → (Nat → Int32) → Prop) : Option Value → List va_E → Prop := fun r M' => ∃ M1' v', M' = M1' ++ X ∧ Wd v' M1' ∧ Q r v'
def ST (G : GX) (mi : MI) (pc : Nat) (L : List (Nat × Value)) (st : List Value) (v : Nat → Int32) (kc ks : Nat) (Q : Option Value → (Nat → Int32) → Prop) : Prop :=
  ∀ X M1, Wd v M1 → TT G mi pc L st (M1 ++ X) kc ks (SQ X Q)
def CS (G : GX) (mi : MI) (as : List Value) (v : Nat → Int32) (Q : Option Value → (Nat → Int32) → Prop) : Prop :=
  ∀ X M1, Wd v M1 → CT G mi as (M1 ++ X) (SQ X Q)
theorem CS.of {G : GX} {mi : MI} {as : List Value} {v : Nat → Int32} {Q : Option Value → (Nat → Int32) → Prop} (hy : plainName (mY mi).cls = true) (hn : (lg_sl as).length ≤ mL mi) (h : ST G mi 0 (lv_args 0 as) [] v 0 0 Q) : CS G mi as v Q :=
  fun X M1 hW => CT.of hy hn (h X M1 hW)
theorem CS.post {G : GX} {mi : MI} {as : List Value} {v : Nat → Int32} {Q Q' : Option Value → (Nat → Int32) → Prop} (h : CS G mi as v Q') (hq : ∀ r v', Q' r v' → Q r v') : CS G mi as v Q := by
  intro X M1 hW ad
  have H := h X M1 hW ad
  intro p e ha hc hk s m args below hf hpre hPc hK
  obtain ⟨k, oc, h1, h2, h3, ⟨⟨r, M', ad', c1, ⟨M1', v', c2, c3, c4⟩, c5⟩, h5⟩⟩ := H p e ha hc hk s m args below hf hpre hPc hK
  exact ⟨k, oc, h1, h2, h3, ⟨⟨r, M', ad', c1, ⟨M1', v', c2, c3, hq r v' c4⟩, c5⟩, h5⟩⟩
/-- arrays by their kind and length, objects by their class and fields -/
def aL (a n : Nat) : Prop := exl a = false ∧ ∀ v, (WS v)[a]? = some (.inl (0, n, .inr (.inl fun _ => 0)))
def aT (t a n : Nat) : Prop := exl a = false ∧ ∀ v, (WS v)[a]? = some (.inl (t, n, .inl fun _ => 0))
abbrev aB (a n : Nat) : Prop := aT 1 a n
abbrev aI (a n : Nat) : Prop := aT 2 a n
abbrev aZ (a n : Nat) : Prop := aT 3 a n
section S
variable {G : GX} {mi : MI} {pc : Nat} {L : List (Nat × Value)} {st : List Value} {v : Nat → Int32} {kc ks : Nat} {Q : Option Value → (Nat → Int32) → Prop}
theorem ST.lift {pc' : Nat} {L' : List (Nat × Value)} {st' : List Value} {kc' ks' : Nat} (f : ∀ M Q, TT G mi pc' L' st' M kc' ks' Q → TT G mi pc L st M kc ks Q) (k : ST G mi pc' L' st' v kc' ks' Q) : ST G mi pc L st v kc ks Q := fun X M1 h => f _ _ (k X M1 h)
theorem S_anyi {x : Int32} (k : ∀ z : Int32, ST G mi pc L (.int z :: st) v kc ks Q) : ST G mi pc L (.int x :: st) v kc ks Q := k x
theorem S_anyl {x : Int64} (k : ∀ z : Int64, ST G mi pc L (.long z :: st) v kc ks Q) : ST G mi pc L (.long x :: st) v kc ks Q := k x
theorem S_topi {x y : Int32} (h : x = y) (k : ST G mi pc L (.int y :: st) v kc ks Q) : ST G mi pc L (.int x :: st) v kc ks Q := by subst h; exact k
theorem S_loc {L' : List (Nat × Value)} (h : L = L') (k : ST G mi pc L' st v kc ks Q) : ST G mi pc L st v kc ks Q := by subst h; exact k
theorem S_post {Q' : Option Value → (Nat → Int32) → Prop} (h : ∀ r v', Q' r v' → Q r v') (k : ST G mi pc L st v kc ks Q') : ST G mi pc L st v kc ks Q :=
  fun X M1 hW => T_post (fun r M' hq => by obtain ⟨a, b, c, d, e⟩ := hq; exact ⟨a, b, c, d, h r b e⟩) (k X M1 hW)
theorem S_iaddN {a b : Nat} (hd : decode (mC mi) pc = .ok (.iadd, 1)) (k : ST G mi (pc + 1) L (.int (nI (a + b)) :: st) v kc ks Q) : ST G mi pc L (.int (nI b) :: .int (nI a) :: st) v kc ks Q :=
  ST.lift (fun _ _ k => T_iadd hd k) (S_topi (nI_add a b) k)
theorem S_imulN {a b : Nat} (hd : decode (mC mi) pc = .ok (.imul, 1)) (k : ST G mi (pc + 1) L (.int (nI (a * b)) :: st) v kc ks Q) : ST G mi pc L (.int (nI b) :: .int (nI a) :: st) v kc ks Q :=
  ST.lift (fun _ _ k => T_imul hd k) (S_topi (pk_mul a b) k)
theorem S_isubN {a b : Nat} (hd : decode (mC mi) pc = .ok (.isub, 1)) (h : b ≤ a) (k : ST G mi (pc + 1) L (.int (nI (a - b)) :: st) v kc ks Q) : ST G mi pc L (.int (nI b) :: .int (nI a) :: st) v kc ks Q :=
  ST.lift (fun _ _ k => T_isub hd k) (S_topi (pk_sub h) k)
theorem S_idivN {a b : Nat} (hd : decode (mC mi) pc = .ok (.idiv, 1)) (ha : a < 2 ^ 31) (h0 : 0 < b) (hb : b < 2 ^ 31) (k : ST G mi (pc + 1) L (.int (nI (a / b)) :: st) v kc ks Q) : ST G mi pc L (.int (nI b) :: .int (nI a) :: st) v kc ks Q :=
  ST.lift (fun _ _ k => T_idiv hd (nI_ne0 h0 hb) k) (S_topi (pk_div ha h0 hb) k)
theorem S_iremN {a b : Nat} (hd : decode (mC mi) pc = .ok (.irem, 1)) (ha : a < 2 ^ 31) (h0 : 0 < b) (hb : b < 2 ^ 31) (k : ST G mi (pc + 1) L (.int (nI (a % b)) :: st) v kc ks Q) : ST G mi pc L (.int (nI b) :: .int (nI a) :: st) v kc ks Q :=
  ST.lift (fun _ _ k => T_irem hd (nI_ne0 h0 hb) k) (S_topi (pk_rem ha h0 hb) k)
theorem and31 {s : Nat} (h : s < 32) : (nI s &&& 31 : Int32) = nI s := by
  rw [show (31 : Int32) = 31 from rfl, pk_andN (by omega) (m := 31) 5 (by decide), Nat.mod_eq_of_lt h]
theorem S_ishrN {a s : Nat} (hd : decode (mC mi) pc = .ok (.ishr, 1)) (ha : a < 2 ^ 31) (hs : s < 32) (k : ST G mi (pc + 1) L (.int (nI (a / 2 ^ s)) :: st) v kc ks Q) : ST G mi pc L (.int (nI s) :: .int (nI a) :: st) v kc ks Q :=
  ST.lift (fun _ _ k => T_ishr hd k) (S_topi (by rw [and31 hs]; refine pk_shrN ha (nI s) s ?_; have : ∀ s, s < 32 → ((nI s).toBitVec.smod 32).toNat = s := by decide
                                                 exact this s hs) k)
theorem S_iandN {a b : Nat} (n : Nat) (hd : decode (mC mi) pc = .ok (.iand, 1)) (ha : a < 2 ^ 31) (hb : b = 2 ^ n - 1) (hn : n ≤ 30) (k : ST G mi (pc + 1) L (.int (nI (a % 2 ^ n)) :: st) v kc ks Q) : ST G mi pc L (.int (nI b) :: .int (nI a) :: st) v kc ks Q := by
  have h2 : 2 ^ n ≤ 2 ^ 30 := Nat.pow_le_pow_right (by decide) hn
  exact ST.lift (fun _ _ k => T_iand hd k) (S_topi (pk_andN (by omega) n (by rw [pk_tn (by omega)]; exact hb)) k)
/-- and with a mask of low bits: a small number comes out of any -/
theorem S_iandM {b : Nat} {x : Int32} (n : Nat) (hd : decode (mC mi) pc = .ok (.iand, 1)) (hb : b = 2 ^ n - 1) (hn : n ≤ 30) (k : ∀ j, j < 2 ^ n → ST G mi (pc + 1) L (.int (nI j) :: st) v kc ks Q) : ST G mi pc L (.int (nI b) :: .int x :: st) v kc ks Q := by
  have h2 : 2 ^ n ≤ 2 ^ 30 := Nat.pow_le_pow_right (by decide) hn
  obtain ⟨j, hj, e⟩ := pk_andE x (m := nI b) n (by rw [pk_tn (by omega)]; exact hb)
  exact ST.lift (fun _ _ k => T_iand hd k) (S_topi e (k j hj))
theorem S_iincN {i a b : Nat} {n : Int} {L' : List (Nat × Value)} (hd : decode (mC mi) pc = .ok (.iinc i n, 3)) (hn : i < mL mi) (hx : lk L i = some (.int (nI a))) (hb : n = (b : Int)) (hl : st1 L i (.int (nI (a + b))) = L') (k : ST G mi (pc + 3) L' st v kc ks Q) : ST G mi pc L st v kc ks Q := by
  subst hb
  exact ST.lift (fun _ _ k => T_iinc hd hn hx (by rw [show Int32.ofInt (b : Int) = nI b from rfl, nI_add]; exact hl) k) k
/-- a counter that goes down: nI a - 1 -/
theorem S_iincD {i a : Nat} {L' : List (Nat × Value)} (hd : decode (mC mi) pc = .ok (.iinc i (-1), 3)) (hn : i < mL mi) (hx : lk L i = some (.int (nI a))) (hl : st1 L i (.int (nI a - 1)) = L') (k : ST G mi (pc + 3) L' st v kc ks Q) : ST G mi pc L st v kc ks Q :=
  ST.lift (fun _ _ k => T_iinc hd hn hx (by rw [show nI a + Int32.ofInt (-1) = nI a - 1 from by rw [Int32.sub_eq_add_neg]; rfl]; exact hl) k) k
theorem S_if_eq {x : Int32} {off : Int} {tgt : Nat} (hd : decode (mC mi) pc = .ok (.ifCond .eq off, 3)) (ht : (pc : Int) + off = (tgt : Int)) (kt : x = 0 → ST G mi tgt L st v kc ks Q) (kf : ¬ x = 0 → ST G mi (pc + 3) L st v kc ks Q) : ST G mi pc L (.int x :: st) v kc ks Q :=
  fun X M1 h => T_if_eq hd ht (fun c => kt c X M1 h) (fun c => kf c X M1 h)
theorem S_icmp_eq {x y : Int32} {off : Int} {tgt : Nat} (hd : decode (mC mi) pc = .ok (.if_icmp .eq off, 3)) (ht : (pc : Int) + off = (tgt : Int)) (kt : x = y → ST G mi tgt L st v kc ks Q) (kf : ¬ x = y → ST G mi (pc + 3) L st v kc ks Q) : ST G mi pc L (.int y :: .int x :: st) v kc ks Q :=
  fun X M1 h => T_icmp_eq hd ht (fun c => kt c X M1 h) (fun c => kf c X M1 h)
theorem S_icmp_eqN {a b : Nat} {off : Int} {tgt : Nat} (hd : decode (mC mi) pc = .ok (.if_icmp .eq off, 3)) (ht : (pc : Int) + off = (tgt : Int)) (ha : a < 2 ^ 31) (hb : b < 2 ^ 31) (kt : a = b → ST G mi tgt L st v kc ks Q) (kf : ¬ a = b → ST G mi (pc + 3) L st v kc ks Q) : ST G mi pc L (.int (nI b) :: .int (nI a) :: st) v kc ks Q := by
  have e1 := nI_eq ha hb; have e2 := nI_ltI ha hb; have e3 := nI_leI ha hb; have e4 := nI_ltI hb ha; have e5 := nI_leI hb ha
  refine S_icmp_eq hd ht (fun c => kt ?_) (fun c => kf ?_)
  · first | exact e1.mp c | exact e2.mp c | exact e3.mp c | exact e4.mp c | exact e5.mp c | exact fun h => c (e1.mpr h) | exact Nat.not_lt.mp fun h => c (e2.mpr h) | exact Nat.not_lt.mp fun h => c (e4.mpr h) | exact Nat.not_le.mp fun h => c (e3.mpr h) | exact Nat.not_le.mp fun h => c (e5.mpr h)
  · first | exact e1.mp c | exact e2.mp c | exact e3.mp c | exact e4.mp c | exact e5.mp c | exact fun h => c (e1.mpr h) | exact Nat.not_lt.mp fun h => c (e2.mpr h) | exact Nat.not_lt.mp fun h => c (e4.mpr h) | exact Nat.not_le.mp fun h => c (e3.mpr h) | exact Nat.not_le.mp fun h => c (e5.mpr h)
theorem S_if_eqN {a : Nat} {off : Int} {tgt : Nat} (hd : decode (mC mi) pc = .ok (.ifCond .eq off, 3)) (ht : (pc : Int) + off = (tgt : Int)) (ha : a < 2 ^ 31) (kt : a = 0 → ST G mi tgt L st v kc ks Q) (kf : ¬ a = 0 → ST G mi (pc + 3) L st v kc ks Q) : ST G mi pc L (.int (nI a) :: st) v kc ks Q := by
  have e1 := nI_eq ha (b := 0) (by decide); have e2 := nI_ltI ha (b := 0) (by decide); have e3 := nI_leI ha (b := 0) (by decide); have e4 := nI_ltI (a := 0) (by decide) ha; have e5 := nI_leI (a := 0) (by decide) ha
  rw [nI_0] at e1 e2 e3 e4 e5
  refine S_if_eq hd ht (fun c => kt ?_) (fun c => kf ?_)
  · first | trivial | exact e1.mp c | exact e2.mp c | exact e4.mp c | exact fun h => c (e1.mpr h) | exact absurd (e2.mp c) (by omega) | exact (c (e5.mpr (by omega))).elim | (have := e3.mp c; omega) | (have : ¬ a < 0 := fun h => c (e2.mpr h); omega) | (have : ¬ 0 < a := fun h => c (e4.mpr h); omega) | (have : ¬ a ≤ 0 := fun h => c (e3.mpr h); omega)
  · first | trivial | exact e1.mp c | exact e2.mp c | exact e4.mp c | exact fun h => c (e1.mpr h) | exact absurd (e2.mp c) (by omega) | exact (c (e5.mpr (by omega))).elim | (have := e3.mp c; omega) | (have : ¬ a < 0 := fun h => c (e2.mpr h); omega) | (have : ¬ 0 < a := fun h => c (e4.mpr h); omega) | (have : ¬ a ≤ 0 := fun h => c (e3.mpr h); omega)
theorem S_if_ne {x : Int32} {off : Int} {tgt : Nat} (hd : decode (mC mi) pc = .ok (.ifCond .ne off, 3)) (ht : (pc : Int) + off = (tgt : Int)) (kt : ¬ x = 0 → ST G mi tgt L st v kc ks Q) (kf : x = 0 → ST G mi (pc + 3) L st v kc ks Q) : ST G mi pc L (.int x :: st) v kc ks Q :=
  fun X M1 h => T_if_ne hd ht (fun c => kt c X M1 h) (fun c => kf c X M1 h)
theorem S_icmp_ne {x y : Int32} {off : Int} {tgt : Nat} (hd : decode (mC mi) pc = .ok (.if_icmp .ne off, 3)) (ht : (pc : Int) + off = (tgt : Int)) (kt : ¬ x = y → ST G mi tgt L st v kc ks Q) (kf : x = y → ST G mi (pc + 3) L st v kc ks Q) : ST G mi pc L (.int y :: .int x :: st) v kc ks Q :=
  fun X M1 h => T_icmp_ne hd ht (fun c => kt c X M1 h) (fun c => kf c X M1 h)
theorem S_icmp_neN {a b : Nat} {off : Int} {tgt : Nat} (hd : decode (mC mi) pc = .ok (.if_icmp .ne off, 3)) (ht : (pc : Int) + off = (tgt : Int)) (ha : a < 2 ^ 31) (hb : b < 2 ^ 31) (kt : ¬ a = b → ST G mi tgt L st v kc ks Q) (kf : a = b → ST G mi (pc + 3) L st v kc ks Q) : ST G mi pc L (.int (nI b) :: .int (nI a) :: st) v kc ks Q := by
  have e1 := nI_eq ha hb; have e2 := nI_ltI ha hb; have e3 := nI_leI ha hb; have e4 := nI_ltI hb ha; have e5 := nI_leI hb ha
  refine S_icmp_ne hd ht (fun c => kt ?_) (fun c => kf ?_)
  · first | exact e1.mp c | exact e2.mp c | exact e3.mp c | exact e4.mp c | exact e5.mp c | exact fun h => c (e1.mpr h) | exact Nat.not_lt.mp fun h => c (e2.mpr h) | exact Nat.not_lt.mp fun h => c (e4.mpr h) | exact Nat.not_le.mp fun h => c (e3.mpr h) | exact Nat.not_le.mp fun h => c (e5.mpr h)
  · first | exact e1.mp c | exact e2.mp c | exact e3.mp c | exact e4.mp c | exact e5.mp c | exact fun h => c (e1.mpr h) | exact Nat.not_lt.mp fun h => c (e2.mpr h) | exact Nat.not_lt.mp fun h => c (e4.mpr h) | exact Nat.not_le.mp fun h => c (e3.mpr h) | exact Nat.not_le.mp fun h => c (e5.mpr h)
theorem S_if_neN {a : Nat} {off : Int} {tgt : Nat} (hd : decode (mC mi) pc = .ok (.ifCond .ne off, 3)) (ht : (pc : Int) + off = (tgt : Int)) (ha : a < 2 ^ 31) (kt : ¬ a = 0 → ST G mi tgt L st v kc ks Q) (kf : a = 0 → ST G mi (pc + 3) L st v kc ks Q) : ST G mi pc L (.int (nI a) :: st) v kc ks Q := by
  have e1 := nI_eq ha (b := 0) (by decide); have e2 := nI_ltI ha (b := 0) (by decide); have e3 := nI_leI ha (b := 0) (by decide); have e4 := nI_ltI (a := 0) (by decide) ha; have e5 := nI_leI (a := 0) (by decide) ha
  rw [nI_0] at e1 e2 e3 e4 e5
  refine S_if_ne hd ht (fun c => kt ?_) (fun c => kf ?_)
  · first | trivial | exact e1.mp c | exact e2.mp c | exact e4.mp c | exact fun h => c (e1.mpr h) | exact absurd (e2.mp c) (by omega) | exact (c (e5.mpr (by omega))).elim | (have := e3.mp c; omega) | (have : ¬ a < 0 := fun h => c (e2.mpr h); omega) | (have : ¬ 0 < a := fun h => c (e4.mpr h); omega) | (have : ¬ a ≤ 0 := fun h => c (e3.mpr h); omega)
  · first | trivial | exact e1.mp c | exact e2.mp c | exact e4.mp c | exact fun h => c (e1.mpr h) | exact absurd (e2.mp c) (by omega) | exact (c (e5.mpr (by omega))).elim | (have := e3.mp c; omega) | (have : ¬ a < 0 := fun h => c (e2.mpr h); omega) | (have : ¬ 0 < a := fun h => c (e4.mpr h); omega) | (have : ¬ a ≤ 0 := fun h => c (e3.mpr h); omega)
theorem S_if_lt {x : Int32} {off : Int} {tgt : Nat} (hd : decode (mC mi) pc = .ok (.ifCond .lt off, 3)) (ht : (pc : Int) + off = (tgt : Int)) (kt : x < 0 → ST G mi tgt L st v kc ks Q) (kf : ¬ x < 0 → ST G mi (pc + 3) L st v kc ks Q) : ST G mi pc L (.int x :: st) v kc ks Q :=
  fun X M1 h => T_if_lt hd ht (fun c => kt c X M1 h) (fun c => kf c X M1 h)
theorem S_icmp_lt {x y : Int32} {off : Int} {tgt : Nat} (hd : decode (mC mi) pc = .ok (.if_icmp .lt off, 3)) (ht : (pc : Int) + off = (tgt : Int)) (kt : x < y → ST G mi tgt L st v kc ks Q) (kf : ¬ x < y → ST G mi (pc + 3) L st v kc ks Q) : ST G mi pc L (.int y :: .int x :: st) v kc ks Q :=
  fun X M1 h => T_icmp_lt hd ht (fun c => kt c X M1 h) (fun c => kf c X M1 h)
theorem S_icmp_ltN {a b : Nat} {off : Int} {tgt : Nat} (hd : decode (mC mi) pc = .ok (.if_icmp .lt off, 3)) (ht : (pc : Int) + off = (tgt : Int)) (ha : a < 2 ^ 31) (hb : b < 2 ^ 31) (kt : a < b → ST G mi tgt L st v kc ks Q) (kf : b ≤ a → ST G mi (pc + 3) L st v kc ks Q) : ST G mi pc L (.int (nI b) :: .int (nI a) :: st) v kc ks Q := by
  have e1 := nI_eq ha hb; have e2 := nI_ltI ha hb; have e3 := nI_leI ha hb; have e4 := nI_ltI hb ha; have e5 := nI_leI hb ha
  refine S_icmp_lt hd ht (fun c => kt ?_) (fun c => kf ?_)
  · first | exact e1.mp c | exact e2.mp c | exact e3.mp c | exact e4.mp c | exact e5.mp c | exact fun h => c (e1.mpr h) | exact Nat.not_lt.mp fun h => c (e2.mpr h) | exact Nat.not_lt.mp fun h => c (e4.mpr h) | exact Nat.not_le.mp fun h => c (e3.mpr h) | exact Nat.not_le.mp fun h => c (e5.mpr h)
  · first | exact e1.mp c | exact e2.mp c | exact e3.mp c | exact e4.mp c | exact e5.mp c | exact fun h => c (e1.mpr h) | exact Nat.not_lt.mp fun h => c (e2.mpr h) | exact Nat.not_lt.mp fun h => c (e4.mpr h) | exact Nat.not_le.mp fun h => c (e3.mpr h) | exact Nat.not_le.mp fun h => c (e5.mpr h)
theorem S_if_ltN {a : Nat} {off : Int} {tgt : Nat} (hd : decode (mC mi) pc = .ok (.ifCond .lt off, 3)) (ht : (pc : Int) + off = (tgt : Int)) (ha : a < 2 ^ 31) (kt : False → ST G mi tgt L st v kc ks Q) (kf : True → ST G mi (pc + 3) L st v kc ks Q) : ST G mi pc L (.int (nI a) :: st) v kc ks Q := by
  have e1 := nI_eq ha (b := 0) (by decide); have e2 := nI_ltI ha (b := 0) (by decide); have e3 := nI_leI ha (b := 0) (by decide); have e4 := nI_ltI (a := 0) (by decide) ha; have e5 := nI_leI (a := 0) (by decide) ha
  rw [nI_0] at e1 e2 e3 e4 e5
  refine S_if_lt hd ht (fun c => kt ?_) (fun c => kf ?_)
  · first | trivial | exact e1.mp c | exact e2.mp c | exact e4.mp c | exact fun h => c (e1.mpr h) | exact absurd (e2.mp c) (by omega) | exact (c (e5.mpr (by omega))).elim | (have := e3.mp c; omega) | (have : ¬ a < 0 := fun h => c (e2.mpr h); omega) | (have : ¬ 0 < a := fun h => c (e4.mpr h); omega) | (have : ¬ a ≤ 0 := fun h => c (e3.mpr h); omega)
  · first | trivial | exact e1.mp c | exact e2.mp c | exact e4.mp c | exact fun h => c (e1.mpr h) | exact absurd (e2.mp c) (by omega) | exact (c (e5.mpr (by omega))).elim | (have := e3.mp c; omega) | (have : ¬ a < 0 := fun h => c (e2.mpr h); omega) | (have : ¬ 0 < a := fun h => c (e4.mpr h); omega) | (have : ¬ a ≤ 0 := fun h => c (e3.mpr h); omega)
theorem S_if_ge {x : Int32} {off : Int} {tgt : Nat} (hd : decode (mC mi) pc = .ok (.ifCond .ge off, 3)) (ht : (pc : Int) + off = (tgt : Int)) (kt : 0 ≤ x → ST G mi tgt L st v kc ks Q) (kf : ¬ 0 ≤ x → ST G mi (pc + 3) L st v kc ks Q) : ST G mi pc L (.int x :: st) v kc ks Q :=
  fun X M1 h => T_if_ge hd ht (fun c => kt c X M1 h) (fun c => kf c X M1 h)
theorem S_icmp_ge {x y : Int32} {off : Int} {tgt : Nat} (hd : decode (mC mi) pc = .ok (.if_icmp .ge off, 3)) (ht : (pc : Int) + off = (tgt : Int)) (kt : y ≤ x → ST G mi tgt L st v kc ks Q) (kf : ¬ y ≤ x → ST G mi (pc + 3) L st v kc ks Q) : ST G mi pc L (.int y :: .int x :: st) v kc ks Q :=
  fun X M1 h => T_icmp_ge hd ht (fun c => kt c X M1 h) (fun c => kf c X M1 h)
theorem S_icmp_geN {a b : Nat} {off : Int} {tgt : Nat} (hd : decode (mC mi) pc = .ok (.if_icmp .ge off, 3)) (ht : (pc : Int) + off = (tgt : Int)) (ha : a < 2 ^ 31) (hb : b < 2 ^ 31) (kt : b ≤ a → ST G mi tgt L st v kc ks Q) (kf : a < b → ST G mi (pc + 3) L st v kc ks Q) : ST G mi pc L (.int (nI b) :: .int (nI a) :: st) v kc ks Q := by
  have e1 := nI_eq ha hb; have e2 := nI_ltI ha hb; have e3 := nI_leI ha hb; have e4 := nI_ltI hb ha; have e5 := nI_leI hb ha
  refine S_icmp_ge hd ht (fun c => kt ?_) (fun c => kf ?_)
  · first | exact e1.mp c | exact e2.mp c | exact e3.mp c | exact e4.mp c | exact e5.mp c | exact fun h => c (e1.mpr h) | exact Nat.not_lt.mp fun h => c (e2.mpr h) | exact Nat.not_lt.mp fun h => c (e4.mpr h) | exact Nat.not_le.mp fun h => c (e3.mpr h) | exact Nat.not_le.mp fun h => c (e5.mpr h)
  · first | exact e1.mp c | exact e2.mp c | exact e3.mp c | exact e4.mp c | exact e5.mp c | exact fun h => c (e1.mpr h) | exact Nat.not_lt.mp fun h => c (e2.mpr h) | exact Nat.not_lt.mp fun h => c (e4.mpr h) | exact Nat.not_le.mp fun h => c (e3.mpr h) | exact Nat.not_le.mp fun h => c (e5.mpr h)
theorem S_if_geN {a : Nat} {off : Int} {tgt : Nat} (hd : decode (mC mi) pc = .ok (.ifCond .ge off, 3)) (ht : (pc : Int) + off = (tgt : Int)) (ha : a < 2 ^ 31) (kt : True → ST G mi tgt L st v kc ks Q) (kf : False → ST G mi (pc + 3) L st v kc ks Q) : ST G mi pc L (.int (nI a) :: st) v kc ks Q := by
  have e1 := nI_eq ha (b := 0) (by decide); have e2 := nI_ltI ha (b := 0) (by decide); have e3 := nI_leI ha (b := 0) (by decide); have e4 := nI_ltI (a := 0) (by decide) ha; have e5 := nI_leI (a := 0) (by decide) ha
  rw [nI_0] at e1 e2 e3 e4 e5
  refine S_if_ge hd ht (fun c => kt ?_) (fun c => kf ?_)
  · first | trivial | exact e1.mp c | exact e2.mp c | exact e4.mp c | exact fun h => c (e1.mpr h) | exact absurd (e2.mp c) (by omega) | exact (c (e5.mpr (by omega))).elim | (have := e3.mp c; omega) | (have : ¬ a < 0 := fun h => c (e2.mpr h); omega) | (have : ¬ 0 < a := fun h => c (e4.mpr h); omega) | (have : ¬ a ≤ 0 := fun h => c (e3.mpr h); omega)
  · first | trivial | exact e1.mp c | exact e2.mp c | exact e4.mp c | exact fun h => c (e1.mpr h) | exact absurd (e2.mp c) (by omega) | exact (c (e5.mpr (by omega))).elim | (have := e3.mp c; omega) | (have : ¬ a < 0 := fun h => c (e2.mpr h); omega) | (have : ¬ 0 < a := fun h => c (e4.mpr h); omega) | (have : ¬ a ≤ 0 := fun h => c (e3.mpr h); omega)
theorem S_if_gt {x : Int32} {off : Int} {tgt : Nat} (hd : decode (mC mi) pc = .ok (.ifCond .gt off, 3)) (ht : (pc : Int) + off = (tgt : Int)) (kt : 0 < x → ST G mi tgt L st v kc ks Q) (kf : ¬ 0 < x → ST G mi (pc + 3) L st v kc ks Q) : ST G mi pc L (.int x :: st) v kc ks Q :=
  fun X M1 h => T_if_gt hd ht (fun c => kt c X M1 h) (fun c => kf c X M1 h)
theorem S_icmp_gt {x y : Int32} {off : Int} {tgt : Nat} (hd : decode (mC mi) pc = .ok (.if_icmp .gt off, 3)) (ht : (pc : Int) + off = (tgt : Int)) (kt : y < x → ST G mi tgt L st v kc ks Q) (kf : ¬ y < x → ST G mi (pc + 3) L st v kc ks Q) : ST G mi pc L (.int y :: .int x :: st) v kc ks Q :=
  fun X M1 h => T_icmp_gt hd ht (fun c => kt c X M1 h) (fun c => kf c X M1 h)
theorem S_icmp_gtN {a b : Nat} {off : Int} {tgt : Nat} (hd : decode (mC mi) pc = .ok (.if_icmp .gt off, 3)) (ht : (pc : Int) + off = (tgt : Int)) (ha : a < 2 ^ 31) (hb : b < 2 ^ 31) (kt : b < a → ST G mi tgt L st v kc ks Q) (kf : a ≤ b → ST G mi (pc + 3) L st v kc ks Q) : ST G mi pc L (.int (nI b) :: .int (nI a) :: st) v kc ks Q := by
  have e1 := nI_eq ha hb; have e2 := nI_ltI ha hb; have e3 := nI_leI ha hb; have e4 := nI_ltI hb ha; have e5 := nI_leI hb ha
  refine S_icmp_gt hd ht (fun c => kt ?_) (fun c => kf ?_)
  · first | exact e1.mp c | exact e2.mp c | exact e3.mp c | exact e4.mp c | exact e5.mp c | exact fun h => c (e1.mpr h) | exact Nat.not_lt.mp fun h => c (e2.mpr h) | exact Nat.not_lt.mp fun h => c (e4.mpr h) | exact Nat.not_le.mp fun h => c (e3.mpr h) | exact Nat.not_le.mp fun h => c (e5.mpr h)
  · first | exact e1.mp c | exact e2.mp c | exact e3.mp c | exact e4.mp c | exact e5.mp c | exact fun h => c (e1.mpr h) | exact Nat.not_lt.mp fun h => c (e2.mpr h) | exact Nat.not_lt.mp fun h => c (e4.mpr h) | exact Nat.not_le.mp fun h => c (e3.mpr h) | exact Nat.not_le.mp fun h => c (e5.mpr h)
theorem S_if_gtN {a : Nat} {off : Int} {tgt : Nat} (hd : decode (mC mi) pc = .ok (.ifCond .gt off, 3)) (ht : (pc : Int) + off = (tgt : Int)) (ha : a < 2 ^ 31) (kt : 0 < a → ST G mi tgt L st v kc ks Q) (kf : a = 0 → ST G mi (pc + 3) L st v kc ks Q) : ST G mi pc L (.int (nI a) :: st) v kc ks Q := by
  have e1 := nI_eq ha (b := 0) (by decide); have e2 := nI_ltI ha (b := 0) (by decide); have e3 := nI_leI ha (b := 0) (by decide); have e4 := nI_ltI (a := 0) (by decide) ha; have e5 := nI_leI (a := 0) (by decide) ha
  rw [nI_0] at e1 e2 e3 e4 e5
  refine S_if_gt hd ht (fun c => kt ?_) (fun c => kf ?_)
  · first | trivial | exact e1.mp c | exact e2.mp c | exact e4.mp c | exact fun h => c (e1.mpr h) | exact absurd (e2.mp c) (by omega) | exact (c (e5.mpr (by omega))).elim | (have := e3.mp c; omega) | (have : ¬ a < 0 := fun h => c (e2.mpr h); omega) | (have : ¬ 0 < a := fun h => c (e4.mpr h); omega) | (have : ¬ a ≤ 0 := fun h => c (e3.mpr h); omega)
  · first | trivial | exact e1.mp c | exact e2.mp c | exact e4.mp c | exact fun h => c (e1.mpr h) | exact absurd (e2.mp c) (by omega) | exact (c (e5.mpr (by omega))).elim | (have := e3.mp c; omega) | (have : ¬ a < 0 := fun h => c (e2.mpr h); omega) | (have : ¬ 0 < a := fun h => c (e4.mpr h); omega) | (have : ¬ a ≤ 0 := fun h => c (e3.mpr h); omega)
theorem S_if_le {x : Int32} {off : Int} {tgt : Nat} (hd : decode (mC mi) pc = .ok (.ifCond .le off, 3)) (ht : (pc : Int) + off = (tgt : Int)) (kt : x ≤ 0 → ST G mi tgt L st v kc ks Q) (kf : ¬ x ≤ 0 → ST G mi (pc + 3) L st v kc ks Q) : ST G mi pc L (.int x :: st) v kc ks Q :=
  fun X M1 h => T_if_le hd ht (fun c => kt c X M1 h) (fun c => kf c X M1 h)
theorem S_icmp_le {x y : Int32} {off : Int} {tgt : Nat} (hd : decode (mC mi) pc = .ok (.if_icmp .le off, 3)) (ht : (pc : Int) + off = (tgt : Int)) (kt : x ≤ y → ST G mi tgt L st v kc ks Q) (kf : ¬ x ≤ y → ST G mi (pc + 3) L st v kc ks Q) : ST G mi pc L (.int y :: .int x :: st) v kc ks Q :=
  fun X M1 h => T_icmp_le hd ht (fun c => kt c X M1 h) (fun c => kf c X M1 h)
theorem S_icmp_leN {a b : Nat} {off : Int} {tgt : Nat} (hd : decode (mC mi) pc = .ok (.if_icmp .le off, 3)) (ht : (pc : Int) + off = (tgt : Int)) (ha : a < 2 ^ 31) (hb : b < 2 ^ 31) (kt : a ≤ b → ST G mi tgt L st v kc ks Q) (kf : b < a → ST G mi (pc + 3) L st v kc ks Q) : ST G mi pc L (.int (nI b) :: .int (nI a) :: st) v kc ks Q := by
  have e1 := nI_eq ha hb; have e2 := nI_ltI ha hb; have e3 := nI_leI ha hb; have e4 := nI_ltI hb ha; have e5 := nI_leI hb ha
  refine S_icmp_le hd ht (fun c => kt ?_) (fun c => kf ?_)
  · first | exact e1.mp c | exact e2.mp c | exact e3.mp c | exact e4.mp c | exact e5.mp c | exact fun h => c (e1.mpr h) | exact Nat.not_lt.mp fun h => c (e2.mpr h) | exact Nat.not_lt.mp fun h => c (e4.mpr h) | exact Nat.not_le.mp fun h => c (e3.mpr h) | exact Nat.not_le.mp fun h => c (e5.mpr h)
  · first | exact e1.mp c | exact e2.mp c | exact e3.mp c | exact e4.mp c | exact e5.mp c | exact fun h => c (e1.mpr h) | exact Nat.not_lt.mp fun h => c (e2.mpr h) | exact Nat.not_lt.mp fun h => c (e4.mpr h) | exact Nat.not_le.mp fun h => c (e3.mpr h) | exact Nat.not_le.mp fun h => c (e5.mpr h)
theorem S_if_leN {a : Nat} {off : Int} {tgt : Nat} (hd : decode (mC mi) pc = .ok (.ifCond .le off, 3)) (ht : (pc : Int) + off = (tgt : Int)) (ha : a < 2 ^ 31) (kt : a = 0 → ST G mi tgt L st v kc ks Q) (kf : 0 < a → ST G mi (pc + 3) L st v kc ks Q) : ST G mi pc L (.int (nI a) :: st) v kc ks Q := by
  have e1 := nI_eq ha (b := 0) (by decide); have e2 := nI_ltI ha (b := 0) (by decide); have e3 := nI_leI ha (b := 0) (by decide); have e4 := nI_ltI (a := 0) (by decide) ha; have e5 := nI_leI (a := 0) (by decide) ha
  rw [nI_0] at e1 e2 e3 e4 e5
  refine S_if_le hd ht (fun c => kt ?_) (fun c => kf ?_)
  · first | trivial | exact e1.mp c | exact e2.mp c | exact e4.mp c | exact fun h => c (e1.mpr h) | exact absurd (e2.mp c) (by omega) | exact (c (e5.mpr (by omega))).elim | (have := e3.mp c; omega) | (have : ¬ a < 0 := fun h => c (e2.mpr h); omega) | (have : ¬ 0 < a := fun h => c (e4.mpr h); omega) | (have : ¬ a ≤ 0 := fun h => c (e3.mpr h); omega)
  · first | trivial | exact e1.mp c | exact e2.mp c | exact e4.mp c | exact fun h => c (e1.mpr h) | exact absurd (e2.mp c) (by omega) | exact (c (e5.mpr (by omega))).elim | (have := e3.mp c; omega) | (have : ¬ a < 0 := fun h => c (e2.mpr h); omega) | (have : ¬ 0 < a := fun h => c (e4.mpr h); omega) | (have : ¬ a ≤ 0 := fun h => c (e3.mpr h); omega)
theorem nD0 : (nI 0 - 1 : Int32) < 0 := by decide
theorem S_if_geD {a : Nat} {off : Int} {tgt : Nat} (hd : decode (mC mi) pc = .ok (.ifCond .ge off, 3)) (ht : (pc : Int) + off = (tgt : Int)) (ha : a < 2 ^ 31) (kt : ∀ b, a = b + 1 → ST G mi tgt L st v kc ks Q) (kf : a = 0 → ST G mi (pc + 3) L st v kc ks Q) : ST G mi pc L (.int (nI a - 1) :: st) v kc ks Q := by
  cases a with
  | zero => exact S_if_ge hd ht (fun c => absurd nD0 (by first | exact c | exact Int32.not_lt.mpr c)) (fun _ => kf rfl)
  | succ b =>
    rw [nI_pred]
    exact S_if_geN hd ht (by omega) (fun _ => kt b rfl) (fun h => h.elim)
theorem S_if_ltD {a : Nat} {off : Int} {tgt : Nat} (hd : decode (mC mi) pc = .ok (.ifCond .lt off, 3)) (ht : (pc : Int) + off = (tgt : Int)) (ha : a < 2 ^ 31) (kt : a = 0 → ST G mi tgt L st v kc ks Q) (kf : ∀ b, a = b + 1 → ST G mi (pc + 3) L st v kc ks Q) : ST G mi pc L (.int (nI a - 1) :: st) v kc ks Q := by
  cases a with
  | zero => exact S_if_lt hd ht (fun _ => kt rfl) (fun c => absurd nD0 c)
  | succ b =>
    rw [nI_pred]
    exact S_if_ltN hd ht (by omega) (fun h => h.elim) (fun _ => kf b rfl)
theorem S_getfield {idx ci k a : Nat} {fs : List Value} {x : Value} (hd : decode (mC mi) pc = .ok (.getfield idx, 3)) (hf : FG mi idx ci k) (hm : (WS v)[a]? = some (.inr (ci, fs))) (hv : fs[k]? = some x) (kk : ST G mi (pc + 3) L (x :: st) v kc ks Q) : ST G mi pc L (.ref a :: st) v kc ks Q := by
  intro X M1 h
  obtain ⟨e, h1, h2, -⟩ := h.at hm X
  rw [skI_obj h2] at h1
  exact T_getfield hd hf h1 hv (kk X M1 h)
theorem S_putfield {idx ci k a : Nat} {fs : List Value} {x : Value} {ty : FieldType} {v' : Nat → Int32} (hd : decode (mC mi) pc = .ok (.putfield idx, 3)) (hf : FP mi idx ci k ty) (hm : (WS v)[a]? = some (.inr (ci, fs))) (hl : k < fs.length) (hv : fitV ty x) (hu : (WS v).set a (.inr (ci, fs.set k x)) = WS v') (kk : ST G mi (pc + 3) L st v' kc ks Q) : ST G mi pc L (x :: .ref a :: st) v kc ks Q := by
  intro X M1 h
  obtain ⟨e, h1, h2, h3⟩ := h.at hm X
  rw [skI_obj h2] at h1
  obtain ⟨e1, h4⟩ := h.set (e := .inr (ci, fs.set k x)) X h3 (by rw [skI_rr]; exact hu)
  exact T_putfield hd hf h1 hl hv e1 (kk X _ h4)
theorem S_laload {a n : Nat} {i : Int32} (hd : decode (mC mi) pc = .ok (.laload, 1)) (hm : aL a n) (hi : vp_in i n) (kk : ∀ z : Int64, ST G mi (pc + 1) L (.long z :: st) v kc ks Q) : ST G mi pc L (.int i :: .ref a :: st) v kc ks Q := by
  intro X M1 h
  obtain ⟨e, h1, h2, -⟩ := h.at (hm.2 v) X
  obtain ⟨f, rfl⟩ := skI_long h2
  exact T_laload hd h1 hi (kk _ X M1 h)
theorem S_baload {a n : Nat} {i : Int32} (hd : decode (mC mi) pc = .ok (.baload, 1)) (hm : aB a n) (hi : vp_in i n) (kk : ∀ z : Int32, fits .byte (.int z) = true → ST G mi (pc + 1) L (.int z :: st) v kc ks Q) : ST G mi pc L (.int i :: .ref a :: st) v kc ks Q := by
  intro X M1 h
  obtain ⟨e, h1, h2, -⟩ := h.at (hm.2 v) X
  obtain ⟨f, rfl⟩ := skI_ints h2
  exact T_baload hd h1 hi (fun hb => kk _ hb X M1 h)
theorem S_zaload {a n : Nat} {i : Int32} (hd : decode (mC mi) pc = .ok (.baload, 1)) (hm : aZ a n) (hi : vp_in i n) (kk : ∀ z : Int32, fits .boolean (.int z) = true → ST G mi (pc + 1) L (.int z :: st) v kc ks Q) : ST G mi pc L (.int i :: .ref a :: st) v kc ks Q := by
  intro X M1 h
  obtain ⟨e, h1, h2, -⟩ := h.at (hm.2 v) X
  obtain ⟨f, rfl⟩ := skI_ints h2
  exact T_zaload hd h1 hi (fun hb => kk _ hb X M1 h)
theorem S_iaload {a n : Nat} {i : Int32} (hd : decode (mC mi) pc = .ok (.iaload, 1)) (hm : aI a n) (hi : vp_in i n) (kk : ∀ z : Int32, ST G mi (pc + 1) L (.int z :: st) v kc ks Q) : ST G mi pc L (.int i :: .ref a :: st) v kc ks Q := by
  intro X M1 h
  obtain ⟨e, h1, h2, -⟩ := h.at (hm.2 v) X
  obtain ⟨f, rfl⟩ := skI_ints h2
  exact T_iaload hd h1 hi (kk _ X M1 h)
theorem S_lastore {a n : Nat} {i : Int32} {x : Int64} (hd : decode (mC mi) pc = .ok (.lastore, 1)) (ha : K0 ≤ a) (hm : aL a n) (hi : vp_in i n) (kk : ST G mi (pc + 1) L st v kc ks Q) : ST G mi pc L (.long x :: .int i :: .ref a :: st) v kc ks Q := by
  intro X M1 h
  obtain ⟨e, h1, h2, h3⟩ := h.at (hm.2 v) X
  obtain ⟨f, rfl⟩ := skI_long h2
  have hs := fun e (he : sk e = _) => h.set (e := e) X h3 (by rw [skI_off hm.1, he]; exact WS_same (hm.2 v))
  exact T_lastore hd ha h1 hi (hs _ rfl).1 (kk X _ (hs _ rfl).2)
theorem S_bastore {a n : Nat} {i : Int32} {x : Int32} (hd : decode (mC mi) pc = .ok (.bastore, 1)) (ha : K0 ≤ a) (hm : aB a n) (hi : vp_in i n) (kk : ST G mi (pc + 1) L st v kc ks Q) : ST G mi pc L (.int x :: .int i :: .ref a :: st) v kc ks Q := by
  intro X M1 h
  obtain ⟨e, h1, h2, h3⟩ := h.at (hm.2 v) X
  obtain ⟨f, rfl⟩ := skI_ints h2
  have hs := fun e (he : sk e = _) => h.set (e := e) X h3 (by rw [skI_off hm.1, he]; exact WS_same (hm.2 v))
  exact T_bastore hd ha h1 hi (hs _ rfl).1 (kk X _ (hs _ rfl).2)
theorem S_iastore {a n : Nat} {i : Int32} {x : Int32} (hd : decode (mC mi) pc = .ok (.iastore, 1)) (ha : K0 ≤ a) (hm : aI a n) (hi : vp_in i n) (kk : ST G mi (pc + 1) L st v kc ks Q) : ST G mi pc L (.int x :: .int i :: .ref a :: st) v kc ks Q := by
  intro X M1 h
  obtain ⟨e, h1, h2, h3⟩ := h.at (hm.2 v) X
  obtain ⟨f, rfl⟩ := skI_ints h2
  have hs := fun e (he : sk e = _) => h.set (e := e) X h3 (by rw [skI_off hm.1, he]; exact WS_same (hm.2 v))
  exact T_iastore hd ha h1 hi (hs _ rfl).1 (kk X _ (hs _ rfl).2)
theorem S_zastore {a n : Nat} {i : Int32} {x : Int32} (hd : decode (mC mi) pc = .ok (.bastore, 1)) (ha : K0 ≤ a) (hm : aZ a n) (hi : vp_in i n) (kk : ST G mi (pc + 1) L st v kc ks Q) : ST G mi pc L (.int x :: .int i :: .ref a :: st) v kc ks Q := by
  intro X M1 h
  obtain ⟨e, h1, h2, h3⟩ := h.at (hm.2 v) X
  obtain ⟨f, rfl⟩ := skI_ints h2
  have hs := fun e (he : sk e = _) => h.set (e := e) X h3 (by rw [skI_off hm.1, he]; exact WS_same (hm.2 v))
  exact T_zastore hd ha h1 hi (hs _ rfl).1 (kk X _ (hs _ rfl).2)
theorem S_aaload {a t n : Nat} {f : Nat → Option Nat} {C0 : String} {i : Int32} (hd : decode (mC mi) pc = .ok (.aaload, 1)) (ha : K0 ≤ a) (hm : (WS v)[a]? = some (.inl (t, n, .inr (.inr (.inr (.inr f)))))) (ht : tyl[t]? = some (.object C0)) (hi : vp_in i n) (kk : ST G mi (pc + 1) L (va_rf (f i.toNatClampNeg) :: st) v kc ks Q) : ST G mi pc L (.int i :: .ref a :: st) v kc ks Q := by
  intro X M1 h
  obtain ⟨e, h1, h2, -⟩ := h.at hm X
  rw [skI_refs h2] at h1
  exact T_aaload hd ha h1 ht hi (kk X M1 h)
theorem S_alenL {a n : Nat} (hd : decode (mC mi) pc = .ok (.arraylength, 1)) (ha : K0 ≤ a) (hm : aL a n) (kk : ST G mi (pc + 1) L (.int (nI n) :: st) v kc ks Q) : ST G mi pc L (.ref a :: st) v kc ks Q := by
  intro X M1 h
  obtain ⟨e, h1, h2, -⟩ := h.at (hm.2 v) X
  obtain ⟨f, rfl⟩ := skI_long h2
  exact T_alen hd ha h1 (ty := .long) rfl rfl (kk X M1 h)
theorem S_alenB {a n : Nat} (hd : decode (mC mi) pc = .ok (.arraylength, 1)) (hm : aB a n) (kk : ST G mi (pc + 1) L (.int (nI n) :: st) v kc ks Q) : ST G mi pc L (.ref a :: st) v kc ks Q := by
  intro X M1 h
  obtain ⟨e, h1, h2, -⟩ := h.at (hm.2 v) X
  obtain ⟨f, rfl⟩ := skI_ints h2
  by_cases ha : K0 ≤ a
  · exact T_alen hd ha h1 (ty := .byte) rfl rfl (kk X M1 h)
  · exact T_alenF hd ha h1 rfl (kk X M1 h)
theorem S_ret {x : Int32} {ty : FieldType} (hd : decode (mC mi) pc = .ok (.ireturn, 1)) (hT : mT mi = some ty) (hn : narrow ty (.int x) = .int x) (hkc : kc ≤ (mRm mi).cells) (hks : ks ≤ (mRm mi).slots) (hQ : Q (some (.int x)) v) : ST G mi pc L [.int x] v kc ks Q :=
  fun _ M1 h => T_ret hd hT hn hkc hks ⟨M1, v, rfl, h, hQ⟩
theorem S_lret {x : Int64} (hd : decode (mC mi) pc = .ok (.lreturn, 1)) (hT : mT mi = some .long) (hkc : kc ≤ (mRm mi).cells) (hks : ks ≤ (mRm mi).slots) (hQ : Q (some (.long x)) v) : ST G mi pc L [.long x] v kc ks Q :=
  fun _ M1 h => T_lret hd hT hkc hks ⟨M1, v, rfl, h, hQ⟩
theorem S_vret (hd : decode (mC mi) pc = .ok (.return_, 1)) (hT : mT mi = none) (hkc : kc ≤ (mRm mi).cells) (hks : ks ≤ (mRm mi).slots) (hQ : Q none v) : ST G mi pc L [] v kc ks Q :=
  fun _ M1 h => T_vret hd hT hkc hks ⟨M1, v, rfl, h, hQ⟩
theorem S_static {idx n : Nat} {mj : MI} {as rest : List Value} {Qc : Option Value → (Nat → Int32) → Prop} (hd : decode (mC mi) pc = .ok (.invokestatic idx, 3)) (hst : st = as.reverse ++ rest) (hj : JO mi mj n) (hl : Cond.methodLink (mY mi).cls idx (mY mj) ∈ gtb) (hs : Cond.static (mY mj) ∈ gtb) (hn : as.length = n) (hw : (rest.map fun v => v.category).sum ≤ 8) (hkc : kc + (mRm mj).cells ≤ (mRm mi).cells) (hks : ks + (mRm mj).slots ≤ (mRm mi).slots)
    (hM : CS G mj as v Qc) (kk : ∀ r v', Qc r v' → ST G mi (pc + 3) L (r.toList ++ rest) v' (kc + (mRm mj).cells) (ks + (mRm mj).slots) Q) : ST G mi pc L st v kc ks Q :=
  fun X M1 h => T_static hd hst hj hl hs hn hw hkc hks (hM X M1 h) (fun r _ hq => by obtain ⟨M1', v', rfl, hW, hq⟩ := hq; exact kk r v' hq X M1' hW)
theorem S_virtual {idx n b ci : Nat} {mj : MI} {as rest fs : List Value} {q : vw_C} {Qc : Option Value → (Nat → Int32) → Prop} (hd : decode (mC mi) pc = .ok (.invokevirtual idx, 3)) (hst : st = as.reverse ++ .ref b :: rest) (hj : JO mi mj n) (hl : Cond.methodLink (mY mi).cls idx (mY mj) ∈ gtb) (hi : Cond.instanceMethod (mY mj) ∈ gtb) (hse : Cond.selects (mY mj).cls (mY mj) (mY mj) ∈ gtb) (hm : (WS v)[b]? = some (.inr (ci, fs))) (hc : classes[ci]? = some q) (hq : q.1 = (mY mj).cls) (hn : as.length = n) (hw : (rest.map fun v => v.category).sum ≤ 8) (hkc : kc + (mRm mj).cells ≤ (mRm mi).cells) (hks : ks + (mRm mj).slots ≤ (mRm mi).slots)
    (hM : CS G mj (.ref b :: as) v Qc) (kk : ∀ r v', Qc r v' → ST G mi (pc + 3) L (r.toList ++ rest) v' (kc + (mRm mj).cells) (ks + (mRm mj).slots) Q) : ST G mi pc L st v kc ks Q := by
  intro X M1 h
  obtain ⟨e, h1, h2, -⟩ := h.at hm X
  rw [skI_obj h2] at h1
  exact T_virtual hd hst hj hl hi hse h1 hc hq hn hw hkc hks (hM X M1 h) (fun r _ hq => by obtain ⟨M1', v', rfl, hW, hq⟩ := hq; exact kk r v' hq X M1' hW)
theorem S_pick {L' : List (Nat × Value)} (is : List Nat) (h : lv_pick L is = L') (k : ST G mi pc L' st v kc ks Q) : ST G mi pc L st v kc ks Q := by
  intro X M1 hW p e R s m args below meth c H locs ls ad ad0 n0 C D
  obtain ⟨d1, d2, d3, d4, d5, d6, d7⟩ := D
  have hsub : ∀ q ∈ L', q ∈ L := by
    intro q hq
    rw [← h] at hq
    obtain ⟨i, -, hi⟩ := List.mem_filterMap.mp hq
    exact List.mem_of_getElem? hi
  refine k X M1 hW p e R s m args below meth c H locs ls ad ad0 n0 C ⟨d1, ⟨d2.1, d2.2.1, fun q hq => ?_⟩, d3, d4, d5, fun q hq => d6 q (hsub q hq), d7⟩
  obtain ⟨q', hq', rfl⟩ := List.mem_map.mp hq
  exact d2.2.2 _ (List.mem_map.mpr ⟨q', hsub q' hq', rfl⟩)
theorem S_xload {a t n k : Nat} {f : Nat → Int32} (ht : (t = 2 ∧ decode (mC mi) pc = .ok (.iaload, 1)) ∨ (t = 3 ∧ decode (mC mi) pc = .ok (.baload, 1))) (hx : exl a = true) (hm : (WS v)[a]? = some (.inl (t, n, .inl f))) (hk : k < n) (hn : n < 2 ^ 31) (kk : ST G mi (pc + 1) L (.int (f k) :: st) v kc ks Q) : ST G mi pc L (.int (nI k) :: .ref a :: st) v kc ks Q := by
  intro X M1 h
  obtain ⟨e, h1, h2, -⟩ := h.at hm X
  rw [skI_on hx] at h2
  subst h2
  have K := kk X M1 h
  rw [← nI_clamp (n := k) (by omega)] at K
  rcases ht with ⟨rfl, hd⟩ | ⟨rfl, hd⟩
  · exact T_iaload hd h1 (vp_in_nI hk hn) K
  · exact T_zaload hd h1 (vp_in_nI hk hn) (fun _ => K)
theorem S_xstore {a t n k : Nat} {f : Nat → Int32} {x y : Int32} {v' : Nat → Int32} (ht : (t = 2 ∧ y = x ∧ decode (mC mi) pc = .ok (.iastore, 1)) ∨ (t = 3 ∧ y = vp_nar .boolean x ∧ decode (mC mi) pc = .ok (.bastore, 1))) (ha : K0 ≤ a) (hx : exl a = true) (hm : (WS v)[a]? = some (.inl (t, n, .inl f))) (hk : k < n) (hn : n < 2 ^ 31) (hu : (WS v).set a (.inl (t, n, .inl (upd f k y))) = WS v') (kk : ST G mi (pc + 1) L st v' kc ks Q) : ST G mi pc L (.int x :: .int (nI k) :: .ref a :: st) v kc ks Q := by
  intro X M1 h
  obtain ⟨e, h1, h2, h3⟩ := h.at hm X
  rw [skI_on hx] at h2
  subst h2
  obtain ⟨e1, h4⟩ := h.set (e := .inl (t, n, .inl (upd f k y))) X h3 (by rw [skI_on hx]; exact hu)
  have hc := nI_clamp (n := k) (by omega)
  rcases ht with ⟨rfl, rfl, hd⟩ | ⟨rfl, rfl, hd⟩
  · exact T_iastore hd ha h1 (vp_in_nI hk hn) (by rw [hc]; exact e1) (kk X _ h4)
  · exact T_zastore hd ha h1 (vp_in_nI hk hn) (by rw [hc]; exact e1) (kk X _ h4)
end S

theorem a0 : aL 0 8 := ⟨rfl, w0⟩
theorem a1 : aL 1 80 := ⟨rfl, w1⟩
theorem a2 : aL 2 10 := ⟨rfl, w2⟩
theorem a3 : aL 3 10 := ⟨rfl, w3⟩
theorem a4 : aL 4 10 := ⟨rfl, w4⟩
theorem a5 : aL 5 10 := ⟨rfl, w5⟩
theorem a6 : aL 6 10 := ⟨rfl, w6⟩
theorem a7 : aL 7 10 := ⟨rfl, w7⟩
theorem a8 : aL 8 10 := ⟨rfl, w8⟩
theorem a9 : aL 9 10 := ⟨rfl, w9⟩
theorem a10 : aL 10 10 := ⟨rfl, w10⟩
theorem a11 : aL 11 10 := ⟨rfl, w11⟩
theorem a12 : aL 12 10 := ⟨rfl, w12⟩
theorem a13 : aL 13 10 := ⟨rfl, w13⟩
theorem a15 : aT 1 15 12 := ⟨rfl, w15⟩
theorem a17 : aT 1 17 7 := ⟨rfl, w17⟩
theorem a19 : aT 1 19 20 := ⟨rfl, w19⟩
theorem a21 : aT 1 21 6 := ⟨rfl, w21⟩
theorem a23 : aT 1 23 33 := ⟨rfl, w23⟩
theorem a25 : aT 1 25 13 := ⟨rfl, w25⟩
theorem a27 : aT 1 27 4 := ⟨rfl, w27⟩
theorem a29 : aT 1 29 7 := ⟨rfl, w29⟩
theorem a31 : aT 1 31 20 := ⟨rfl, w31⟩
theorem a33 : aT 1 33 8 := ⟨rfl, w33⟩
theorem a35 : aT 1 35 10 := ⟨rfl, w35⟩
theorem a37 : aT 1 37 10 := ⟨rfl, w37⟩
theorem a39 : aT 1 39 33 := ⟨rfl, w39⟩
theorem a41 : aT 1 41 9 := ⟨rfl, w41⟩
theorem a43 : aT 1 43 7 := ⟨rfl, w43⟩
theorem a45 : aT 1 45 21 := ⟨rfl, w45⟩
theorem a47 : aT 1 47 9 := ⟨rfl, w47⟩
theorem a49 : aT 1 49 15 := ⟨rfl, w49⟩
theorem a51 : aT 1 51 7 := ⟨rfl, w51⟩
theorem a53 : aT 1 53 10 := ⟨rfl, w53⟩
theorem a55 : aT 1 55 9 := ⟨rfl, w55⟩
theorem a57 : aT 1 57 9 := ⟨rfl, w57⟩
theorem a64 : aL 64 8 := ⟨rfl, w64⟩
theorem a65 : aL 65 80 := ⟨rfl, w65⟩
theorem a68 : aL 68 8 := ⟨rfl, w68⟩
theorem a69 : aL 69 80 := ⟨rfl, w69⟩
theorem a71 : aT 1 71 400 := ⟨rfl, w71⟩
theorem a73 : aT 1 73 200 := ⟨rfl, w73⟩
theorem a74 : aT 1 74 64 := ⟨rfl, w74⟩
theorem a75 : aT 1 75 64 := ⟨rfl, w75⟩
theorem a76 : aT 1 76 64 := ⟨rfl, w76⟩
theorem a79 : aL 79 10 := ⟨rfl, w79⟩
theorem a80 : aL 80 10 := ⟨rfl, w80⟩
theorem a81 : aL 81 10 := ⟨rfl, w81⟩
theorem a82 : aL 82 10 := ⟨rfl, w82⟩
theorem a83 : aL 83 10 := ⟨rfl, w83⟩
theorem a84 : aL 84 10 := ⟨rfl, w84⟩
theorem a85 : aL 85 10 := ⟨rfl, w85⟩
theorem a88 : aL 88 10 := ⟨rfl, w88⟩
theorem a89 : aL 89 10 := ⟨rfl, w89⟩
theorem a90 : aL 90 10 := ⟨rfl, w90⟩
theorem a91 : aL 91 10 := ⟨rfl, w91⟩
theorem a93 : aT 1 93 32 := ⟨rfl, w93⟩
theorem a94 : aL 94 10 := ⟨rfl, w94⟩
theorem a95 : aL 95 10 := ⟨rfl, w95⟩
theorem a96 : aL 96 10 := ⟨rfl, w96⟩
theorem a97 : aL 97 10 := ⟨rfl, w97⟩
theorem a98 : aL 98 10 := ⟨rfl, w98⟩
theorem a99 : aL 99 10 := ⟨rfl, w99⟩
theorem a100 : aL 100 10 := ⟨rfl, w100⟩
theorem a101 : aL 101 10 := ⟨rfl, w101⟩
theorem a102 : aL 102 10 := ⟨rfl, w102⟩
theorem a104 : aL 104 10 := ⟨rfl, w104⟩
theorem a105 : aL 105 10 := ⟨rfl, w105⟩
theorem a106 : aL 106 10 := ⟨rfl, w106⟩
theorem a107 : aL 107 10 := ⟨rfl, w107⟩
theorem a109 : aL 109 10 := ⟨rfl, w109⟩
theorem a110 : aL 110 10 := ⟨rfl, w110⟩
theorem a111 : aL 111 10 := ⟨rfl, w111⟩
theorem a112 : aL 112 10 := ⟨rfl, w112⟩
theorem a114 : aL 114 10 := ⟨rfl, w114⟩
theorem a115 : aL 115 10 := ⟨rfl, w115⟩
theorem a116 : aL 116 10 := ⟨rfl, w116⟩
theorem a117 : aL 117 10 := ⟨rfl, w117⟩
theorem a119 : aL 119 10 := ⟨rfl, w119⟩
theorem a120 : aL 120 10 := ⟨rfl, w120⟩
theorem a121 : aL 121 10 := ⟨rfl, w121⟩
theorem a122 : aL 122 10 := ⟨rfl, w122⟩
theorem a124 : aL 124 10 := ⟨rfl, w124⟩
theorem a125 : aL 125 10 := ⟨rfl, w125⟩
theorem a126 : aL 126 10 := ⟨rfl, w126⟩
theorem a127 : aL 127 10 := ⟨rfl, w127⟩
theorem a129 : aL 129 10 := ⟨rfl, w129⟩
theorem a130 : aL 130 10 := ⟨rfl, w130⟩
theorem a131 : aL 131 10 := ⟨rfl, w131⟩
theorem a132 : aL 132 10 := ⟨rfl, w132⟩
theorem a134 : aL 134 10 := ⟨rfl, w134⟩
theorem a135 : aL 135 10 := ⟨rfl, w135⟩
theorem a136 : aL 136 10 := ⟨rfl, w136⟩
theorem a137 : aL 137 10 := ⟨rfl, w137⟩
theorem a139 : aL 139 10 := ⟨rfl, w139⟩
theorem a140 : aL 140 10 := ⟨rfl, w140⟩
theorem a141 : aL 141 10 := ⟨rfl, w141⟩
theorem a142 : aL 142 10 := ⟨rfl, w142⟩
theorem a144 : aL 144 10 := ⟨rfl, w144⟩
theorem a145 : aL 145 10 := ⟨rfl, w145⟩
theorem a146 : aL 146 10 := ⟨rfl, w146⟩
theorem a147 : aL 147 10 := ⟨rfl, w147⟩
theorem a149 : aL 149 10 := ⟨rfl, w149⟩
theorem a150 : aL 150 10 := ⟨rfl, w150⟩
theorem a151 : aL 151 10 := ⟨rfl, w151⟩
theorem a152 : aL 152 10 := ⟨rfl, w152⟩
theorem a154 : aL 154 10 := ⟨rfl, w154⟩
theorem a155 : aL 155 10 := ⟨rfl, w155⟩
theorem a156 : aL 156 10 := ⟨rfl, w156⟩
theorem a157 : aL 157 10 := ⟨rfl, w157⟩
theorem a159 : aL 159 10 := ⟨rfl, w159⟩
theorem a160 : aL 160 10 := ⟨rfl, w160⟩
theorem a161 : aL 161 10 := ⟨rfl, w161⟩
theorem a162 : aL 162 10 := ⟨rfl, w162⟩
theorem a164 : aL 164 10 := ⟨rfl, w164⟩
theorem a165 : aL 165 10 := ⟨rfl, w165⟩
theorem a166 : aL 166 10 := ⟨rfl, w166⟩
theorem a167 : aL 167 10 := ⟨rfl, w167⟩
theorem a169 : aL 169 10 := ⟨rfl, w169⟩
theorem a170 : aL 170 10 := ⟨rfl, w170⟩
theorem a171 : aL 171 10 := ⟨rfl, w171⟩
theorem a172 : aL 172 10 := ⟨rfl, w172⟩
theorem a174 : aL 174 10 := ⟨rfl, w174⟩
theorem a175 : aL 175 10 := ⟨rfl, w175⟩
theorem a176 : aL 176 10 := ⟨rfl, w176⟩
theorem a177 : aL 177 10 := ⟨rfl, w177⟩
theorem a179 : aL 179 10 := ⟨rfl, w179⟩
theorem a180 : aL 180 10 := ⟨rfl, w180⟩
theorem a181 : aL 181 10 := ⟨rfl, w181⟩
theorem a182 : aL 182 10 := ⟨rfl, w182⟩
theorem a184 : aL 184 20 := ⟨rfl, w184⟩
theorem a185 : aL 185 20 := ⟨rfl, w185⟩
theorem a186 : aL 186 20 := ⟨rfl, w186⟩
theorem a187 : aL 187 20 := ⟨rfl, w187⟩
theorem a189 : aL 189 10 := ⟨rfl, w189⟩
theorem a190 : aL 190 10 := ⟨rfl, w190⟩
theorem a191 : aL 191 10 := ⟨rfl, w191⟩
theorem a192 : aL 192 10 := ⟨rfl, w192⟩
theorem a194 : aL 194 10 := ⟨rfl, w194⟩
theorem a195 : aL 195 10 := ⟨rfl, w195⟩
theorem a196 : aL 196 10 := ⟨rfl, w196⟩
theorem a197 : aL 197 10 := ⟨rfl, w197⟩
theorem a198 : aT 1 198 32 := ⟨rfl, w198⟩
theorem a199 : aT 1 199 64 := ⟨rfl, w199⟩
theorem a200 : aT 1 200 64 := ⟨rfl, w200⟩
theorem a201 : aT 1 201 64 := ⟨rfl, w201⟩
theorem a202 : aT 1 202 32 := ⟨rfl, w202⟩
theorem a204 : aT 1 204 32 := ⟨rfl, w204⟩
theorem a205 : aT 1 205 64 := ⟨rfl, w205⟩
theorem a206 : aT 1 206 64 := ⟨rfl, w206⟩
theorem a208 : aL 208 10 := ⟨rfl, w208⟩
theorem a209 : aL 209 10 := ⟨rfl, w209⟩
theorem a210 : aL 210 10 := ⟨rfl, w210⟩
theorem a211 : aL 211 10 := ⟨rfl, w211⟩
theorem a212 : aT 1 212 128 := ⟨rfl, w212⟩
theorem a214 : aT 1 214 400 := ⟨rfl, w214⟩
theorem a216 : aT 1 216 150 := ⟨rfl, w216⟩
theorem a218 : aT 1 218 64 := ⟨rfl, w218⟩
theorem a219 : aT 1 219 64 := ⟨rfl, w219⟩
theorem a220 : aT 1 220 64 := ⟨rfl, w220⟩
theorem a222 : aT 1 222 500 := ⟨rfl, w222⟩
theorem a224 : aT 1 224 96 := ⟨rfl, w224⟩
theorem a226 : aT 1 226 64 := ⟨rfl, w226⟩
theorem a227 : aT 1 227 64 := ⟨rfl, w227⟩
theorem a228 : aT 1 228 64 := ⟨rfl, w228⟩
theorem a229 : aT 1 229 64 := ⟨rfl, w229⟩
theorem a230 : aT 1 230 64 := ⟨rfl, w230⟩
theorem a234 : aT 1 234 192 := ⟨rfl, w234⟩
theorem a236 : aT 1 236 128 := ⟨rfl, w236⟩
theorem a238 : aT 1 238 32 := ⟨rfl, w238⟩
theorem a240 : aT 1 240 20 := ⟨rfl, w240⟩
theorem a241 : aT 1 241 64 := ⟨rfl, w241⟩
theorem a242 : aT 1 242 32 := ⟨rfl, w242⟩
theorem a244 : aT 1 244 32 := ⟨rfl, w244⟩
theorem a245 : aT 1 245 32 := ⟨rfl, w245⟩
theorem a246 : aT 1 246 32 := ⟨rfl, w246⟩
theorem a247 : aT 1 247 64 := ⟨rfl, w247⟩
theorem a249 : aT 1 249 192 := ⟨rfl, w249⟩
theorem a251 : aT 1 251 192 := ⟨rfl, w251⟩
theorem a253 : aT 1 253 192 := ⟨rfl, w253⟩
theorem a255 : aT 1 255 192 := ⟨rfl, w255⟩
theorem a257 : aT 1 257 192 := ⟨rfl, w257⟩
theorem a259 : aT 1 259 192 := ⟨rfl, w259⟩
theorem a261 : aT 1 261 192 := ⟨rfl, w261⟩
theorem a263 : aT 1 263 192 := ⟨rfl, w263⟩
theorem a268 : aT 1 268 64 := ⟨rfl, w268⟩
theorem a269 : aT 1 269 64 := ⟨rfl, w269⟩
set_option maxRecDepth 100000 in
theorem x270_0 : ∀ v x, (WS v).set 270 (.inl (3, 3, .inl (upd (fun q => [v 76, v 77, v 78].getD q 0) 0 x))) = WS (va_up v 76 x) := by
  intro v x
  rw [show upd (fun q => [v 76, v 77, v 78].getD q 0) 0 x = (fun q => [x, v 77, v 78].getD q 0) from funext fun q => by rcases q with _ | _ | _ | _ <;> rfl]
  rfl
set_option maxRecDepth 100000 in
theorem x270_1 : ∀ v x, (WS v).set 270 (.inl (3, 3, .inl (upd (fun q => [v 76, v 77, v 78].getD q 0) 1 x))) = WS (va_up v 77 x) := by
  intro v x
  rw [show upd (fun q => [v 76, v 77, v 78].getD q 0) 1 x = (fun q => [v 76, x, v 78].getD q 0) from funext fun q => by rcases q with _ | _ | _ | _ <;> rfl]
  rfl
set_option maxRecDepth 100000 in
theorem x270_2 : ∀ v x, (WS v).set 270 (.inl (3, 3, .inl (upd (fun q => [v 76, v 77, v 78].getD q 0) 2 x))) = WS (va_up v 78 x) := by
  intro v x
  rw [show upd (fun q => [v 76, v 77, v 78].getD q 0) 2 x = (fun q => [v 76, v 77, x].getD q 0) from funext fun q => by rcases q with _ | _ | _ | _ <;> rfl]
  rfl
theorem a272 : aT 1 272 200 := ⟨rfl, w272⟩
theorem a274 : aT 1 274 96 := ⟨rfl, w274⟩
theorem a276 : aT 1 276 128 := ⟨rfl, w276⟩
theorem a277 : aT 1 277 32 := ⟨rfl, w277⟩
theorem a278 : aT 1 278 32 := ⟨rfl, w278⟩
theorem a280 : aT 1 280 96 := ⟨rfl, w280⟩
theorem a282 : aT 1 282 320 := ⟨rfl, w282⟩
theorem a284 : aT 1 284 64 := ⟨rfl, w284⟩
theorem a286 : aT 1 286 64 := ⟨rfl, w286⟩
theorem a288 : aT 1 288 64 := ⟨rfl, w288⟩
theorem a290 : aT 1 290 64 := ⟨rfl, w290⟩
theorem a294 : aT 1 294 64 := ⟨rfl, w294⟩
theorem a295 : aT 1 295 64 := ⟨rfl, w295⟩
set_option maxRecDepth 100000 in
theorem x296_0 : ∀ v x, (WS v).set 296 (.inl (3, 3, .inl (upd (fun q => [v 79, v 80, v 81].getD q 0) 0 x))) = WS (va_up v 79 x) := by
  intro v x
  rw [show upd (fun q => [v 79, v 80, v 81].getD q 0) 0 x = (fun q => [x, v 80, v 81].getD q 0) from funext fun q => by rcases q with _ | _ | _ | _ <;> rfl]
  rfl
set_option maxRecDepth 100000 in
theorem x296_1 : ∀ v x, (WS v).set 296 (.inl (3, 3, .inl (upd (fun q => [v 79, v 80, v 81].getD q 0) 1 x))) = WS (va_up v 80 x) := by
  intro v x
  rw [show upd (fun q => [v 79, v 80, v 81].getD q 0) 1 x = (fun q => [v 79, x, v 81].getD q 0) from funext fun q => by rcases q with _ | _ | _ | _ <;> rfl]
  rfl
set_option maxRecDepth 100000 in
theorem x296_2 : ∀ v x, (WS v).set 296 (.inl (3, 3, .inl (upd (fun q => [v 79, v 80, v 81].getD q 0) 2 x))) = WS (va_up v 81 x) := by
  intro v x
  rw [show upd (fun q => [v 79, v 80, v 81].getD q 0) 2 x = (fun q => [v 79, v 80, x].getD q 0) from funext fun q => by rcases q with _ | _ | _ | _ <;> rfl]
  rfl
theorem a298 : aT 1 298 200 := ⟨rfl, w298⟩
theorem a300 : aT 1 300 96 := ⟨rfl, w300⟩
theorem a302 : aT 1 302 128 := ⟨rfl, w302⟩
theorem a303 : aT 1 303 32 := ⟨rfl, w303⟩
theorem a304 : aT 1 304 32 := ⟨rfl, w304⟩
theorem a306 : aT 1 306 96 := ⟨rfl, w306⟩
theorem a308 : aT 1 308 320 := ⟨rfl, w308⟩
theorem a310 : aT 1 310 64 := ⟨rfl, w310⟩
theorem a312 : aT 1 312 64 := ⟨rfl, w312⟩
theorem a314 : aT 1 314 64 := ⟨rfl, w314⟩
theorem a316 : aT 1 316 64 := ⟨rfl, w316⟩
theorem a320 : aT 1 320 64 := ⟨rfl, w320⟩
theorem a321 : aT 1 321 64 := ⟨rfl, w321⟩
set_option maxRecDepth 100000 in
theorem x322_0 : ∀ v x, (WS v).set 322 (.inl (3, 3, .inl (upd (fun q => [v 82, v 83, v 84].getD q 0) 0 x))) = WS (va_up v 82 x) := by
  intro v x
  rw [show upd (fun q => [v 82, v 83, v 84].getD q 0) 0 x = (fun q => [x, v 83, v 84].getD q 0) from funext fun q => by rcases q with _ | _ | _ | _ <;> rfl]
  rfl
set_option maxRecDepth 100000 in
theorem x322_1 : ∀ v x, (WS v).set 322 (.inl (3, 3, .inl (upd (fun q => [v 82, v 83, v 84].getD q 0) 1 x))) = WS (va_up v 83 x) := by
  intro v x
  rw [show upd (fun q => [v 82, v 83, v 84].getD q 0) 1 x = (fun q => [v 82, x, v 84].getD q 0) from funext fun q => by rcases q with _ | _ | _ | _ <;> rfl]
  rfl
set_option maxRecDepth 100000 in
theorem x322_2 : ∀ v x, (WS v).set 322 (.inl (3, 3, .inl (upd (fun q => [v 82, v 83, v 84].getD q 0) 2 x))) = WS (va_up v 84 x) := by
  intro v x
  rw [show upd (fun q => [v 82, v 83, v 84].getD q 0) 2 x = (fun q => [v 82, v 83, x].getD q 0) from funext fun q => by rcases q with _ | _ | _ | _ <;> rfl]
  rfl
theorem a324 : aT 1 324 200 := ⟨rfl, w324⟩
theorem a326 : aT 1 326 96 := ⟨rfl, w326⟩
theorem a328 : aT 1 328 128 := ⟨rfl, w328⟩
theorem a329 : aT 1 329 32 := ⟨rfl, w329⟩
theorem a330 : aT 1 330 32 := ⟨rfl, w330⟩
theorem a332 : aT 1 332 96 := ⟨rfl, w332⟩
theorem a334 : aT 1 334 320 := ⟨rfl, w334⟩
theorem a336 : aT 1 336 64 := ⟨rfl, w336⟩
theorem a338 : aT 1 338 64 := ⟨rfl, w338⟩
theorem a340 : aT 1 340 64 := ⟨rfl, w340⟩
theorem a342 : aT 1 342 64 := ⟨rfl, w342⟩
theorem a346 : aT 1 346 64 := ⟨rfl, w346⟩
theorem a347 : aT 1 347 64 := ⟨rfl, w347⟩
set_option maxRecDepth 100000 in
theorem x348_0 : ∀ v x, (WS v).set 348 (.inl (3, 3, .inl (upd (fun q => [v 85, v 86, v 87].getD q 0) 0 x))) = WS (va_up v 85 x) := by
  intro v x
  rw [show upd (fun q => [v 85, v 86, v 87].getD q 0) 0 x = (fun q => [x, v 86, v 87].getD q 0) from funext fun q => by rcases q with _ | _ | _ | _ <;> rfl]
  rfl
set_option maxRecDepth 100000 in
theorem x348_1 : ∀ v x, (WS v).set 348 (.inl (3, 3, .inl (upd (fun q => [v 85, v 86, v 87].getD q 0) 1 x))) = WS (va_up v 86 x) := by
  intro v x
  rw [show upd (fun q => [v 85, v 86, v 87].getD q 0) 1 x = (fun q => [v 85, x, v 87].getD q 0) from funext fun q => by rcases q with _ | _ | _ | _ <;> rfl]
  rfl
set_option maxRecDepth 100000 in
theorem x348_2 : ∀ v x, (WS v).set 348 (.inl (3, 3, .inl (upd (fun q => [v 85, v 86, v 87].getD q 0) 2 x))) = WS (va_up v 87 x) := by
  intro v x
  rw [show upd (fun q => [v 85, v 86, v 87].getD q 0) 2 x = (fun q => [v 85, v 86, x].getD q 0) from funext fun q => by rcases q with _ | _ | _ | _ <;> rfl]
  rfl
theorem a350 : aT 1 350 200 := ⟨rfl, w350⟩
theorem a352 : aT 1 352 96 := ⟨rfl, w352⟩
theorem a354 : aT 1 354 128 := ⟨rfl, w354⟩
theorem a355 : aT 1 355 32 := ⟨rfl, w355⟩
theorem a356 : aT 1 356 32 := ⟨rfl, w356⟩
theorem a358 : aT 1 358 96 := ⟨rfl, w358⟩
theorem a360 : aT 1 360 320 := ⟨rfl, w360⟩
theorem a362 : aT 1 362 64 := ⟨rfl, w362⟩
theorem a364 : aT 1 364 64 := ⟨rfl, w364⟩
theorem a366 : aT 1 366 64 := ⟨rfl, w366⟩
theorem a368 : aT 1 368 64 := ⟨rfl, w368⟩
theorem a370 : aT 1 370 200 := ⟨rfl, w370⟩
theorem a372 : aT 1 372 64 := ⟨rfl, w372⟩
theorem a374 : aT 2 374 4000 := ⟨rfl, w374⟩
theorem a375 : aL 375 80 := ⟨rfl, w375⟩
theorem a376 : aL 376 8 := ⟨rfl, w376⟩
theorem a377 : aL 377 5 := ⟨rfl, w377⟩
theorem a378 : aL 378 12 := ⟨rfl, w378⟩
theorem a379 : aL 379 20 := ⟨rfl, w379⟩
theorem a380 : aL 380 80 := ⟨rfl, w380⟩
theorem a381 : aL 381 8 := ⟨rfl, w381⟩
theorem a382 : aL 382 8 := ⟨rfl, w382⟩
theorem a383 : aT 2 383 64 := ⟨rfl, w383⟩
theorem a384 : aT 2 384 2000 := ⟨rfl, w384⟩
theorem a385 : aT 2 385 64 := ⟨rfl, w385⟩
theorem a386 : aT 2 386 64 := ⟨rfl, w386⟩
theorem a387 : aT 2 387 400 := ⟨rfl, w387⟩
theorem a388 : aT 2 388 192 := ⟨rfl, w388⟩
theorem a389 : aT 2 389 100 := ⟨rfl, w389⟩
theorem a390 : aL 390 1024 := ⟨rfl, w390⟩
theorem a391 : aL 391 31 := ⟨rfl, w391⟩
theorem a392 : aL 392 16 := ⟨rfl, w392⟩
theorem a393 : aL 393 16 := ⟨rfl, w393⟩
theorem a394 : aT 2 394 32 := ⟨rfl, w394⟩
theorem a395 : aL 395 16 := ⟨rfl, w395⟩
theorem a396 : aL 396 17 := ⟨rfl, w396⟩
theorem a397 : aL 397 17 := ⟨rfl, w397⟩
theorem a398 : aL 398 32 := ⟨rfl, w398⟩
theorem a399 : aL 399 16 := ⟨rfl, w399⟩
theorem a400 : aL 400 16 := ⟨rfl, w400⟩
theorem a401 : aT 2 401 400 := ⟨rfl, w401⟩
theorem a402 : aT 2 402 64 := ⟨rfl, w402⟩
theorem a403 : aL 403 16 := ⟨rfl, w403⟩
theorem a404 : aT 2 404 32 := ⟨rfl, w404⟩
theorem a405 : aT 3 405 8 := ⟨rfl, w405⟩
theorem a406 : aT 2 406 1536 := ⟨rfl, w406⟩
theorem a407 : aT 2 407 192 := ⟨rfl, w407⟩
theorem a408 : aT 2 408 400 := ⟨rfl, w408⟩
theorem a409 : aT 2 409 200 := ⟨rfl, w409⟩
theorem a410 : aT 2 410 64 := ⟨rfl, w410⟩
theorem a411 : aT 2 411 64 := ⟨rfl, w411⟩
theorem a412 : aT 2 412 32 := ⟨rfl, w412⟩
theorem a413 : aT 2 413 32 := ⟨rfl, w413⟩
theorem a414 : aL 414 16 := ⟨rfl, w414⟩
theorem a415 : aT 2 415 64 := ⟨rfl, w415⟩
theorem a416 : aT 2 416 64 := ⟨rfl, w416⟩
theorem a417 : aT 2 417 64 := ⟨rfl, w417⟩
theorem a418 : aL 418 16 := ⟨rfl, w418⟩
set_option maxRecDepth 100000 in
theorem x419_0 : ∀ v x, (WS v).set 419 (.inl (2, 4, .inl (upd (fun q => [v 88, v 89, v 90, v 91].getD q 0) 0 x))) = WS (va_up v 88 x) := by
  intro v x
  rw [show upd (fun q => [v 88, v 89, v 90, v 91].getD q 0) 0 x = (fun q => [x, v 89, v 90, v 91].getD q 0) from funext fun q => by rcases q with _ | _ | _ | _ | _ <;> rfl]
  rfl
set_option maxRecDepth 100000 in
theorem x419_1 : ∀ v x, (WS v).set 419 (.inl (2, 4, .inl (upd (fun q => [v 88, v 89, v 90, v 91].getD q 0) 1 x))) = WS (va_up v 89 x) := by
  intro v x
  rw [show upd (fun q => [v 88, v 89, v 90, v 91].getD q 0) 1 x = (fun q => [v 88, x, v 90, v 91].getD q 0) from funext fun q => by rcases q with _ | _ | _ | _ | _ <;> rfl]
  rfl
set_option maxRecDepth 100000 in
theorem x419_2 : ∀ v x, (WS v).set 419 (.inl (2, 4, .inl (upd (fun q => [v 88, v 89, v 90, v 91].getD q 0) 2 x))) = WS (va_up v 90 x) := by
  intro v x
  rw [show upd (fun q => [v 88, v 89, v 90, v 91].getD q 0) 2 x = (fun q => [v 88, v 89, x, v 91].getD q 0) from funext fun q => by rcases q with _ | _ | _ | _ | _ <;> rfl]
  rfl
set_option maxRecDepth 100000 in
theorem x419_3 : ∀ v x, (WS v).set 419 (.inl (2, 4, .inl (upd (fun q => [v 88, v 89, v 90, v 91].getD q 0) 3 x))) = WS (va_up v 91 x) := by
  intro v x
  rw [show upd (fun q => [v 88, v 89, v 90, v 91].getD q 0) 3 x = (fun q => [v 88, v 89, v 90, x].getD q 0) from funext fun q => by rcases q with _ | _ | _ | _ | _ <;> rfl]
  rfl
theorem a420 : aT 2 420 800 := ⟨rfl, w420⟩
set_option maxRecDepth 100000 in
theorem x421_0 : ∀ v x, (WS v).set 421 (.inl (2, 4, .inl (upd (fun q => [v 92, v 93, v 94, v 95].getD q 0) 0 x))) = WS (va_up v 92 x) := by
  intro v x
  rw [show upd (fun q => [v 92, v 93, v 94, v 95].getD q 0) 0 x = (fun q => [x, v 93, v 94, v 95].getD q 0) from funext fun q => by rcases q with _ | _ | _ | _ | _ <;> rfl]
  rfl
set_option maxRecDepth 100000 in
theorem x421_1 : ∀ v x, (WS v).set 421 (.inl (2, 4, .inl (upd (fun q => [v 92, v 93, v 94, v 95].getD q 0) 1 x))) = WS (va_up v 93 x) := by
  intro v x
  rw [show upd (fun q => [v 92, v 93, v 94, v 95].getD q 0) 1 x = (fun q => [v 92, x, v 94, v 95].getD q 0) from funext fun q => by rcases q with _ | _ | _ | _ | _ <;> rfl]
  rfl
set_option maxRecDepth 100000 in
theorem x421_2 : ∀ v x, (WS v).set 421 (.inl (2, 4, .inl (upd (fun q => [v 92, v 93, v 94, v 95].getD q 0) 2 x))) = WS (va_up v 94 x) := by
  intro v x
  rw [show upd (fun q => [v 92, v 93, v 94, v 95].getD q 0) 2 x = (fun q => [v 92, v 93, x, v 95].getD q 0) from funext fun q => by rcases q with _ | _ | _ | _ | _ <;> rfl]
  rfl
set_option maxRecDepth 100000 in
theorem x421_3 : ∀ v x, (WS v).set 421 (.inl (2, 4, .inl (upd (fun q => [v 92, v 93, v 94, v 95].getD q 0) 3 x))) = WS (va_up v 95 x) := by
  intro v x
  rw [show upd (fun q => [v 92, v 93, v 94, v 95].getD q 0) 3 x = (fun q => [v 92, v 93, v 94, x].getD q 0) from funext fun q => by rcases q with _ | _ | _ | _ | _ <;> rfl]
  rfl
theorem a422 : aL 422 64 := ⟨rfl, w422⟩
theorem a423 : aL 423 64 := ⟨rfl, w423⟩
set_option maxRecDepth 100000 in
theorem x424_0 : ∀ v x, (WS v).set 424 (.inl (3, 4, .inl (upd (fun q => [v 96, v 97, v 98, v 99].getD q 0) 0 x))) = WS (va_up v 96 x) := by
  intro v x
  rw [show upd (fun q => [v 96, v 97, v 98, v 99].getD q 0) 0 x = (fun q => [x, v 97, v 98, v 99].getD q 0) from funext fun q => by rcases q with _ | _ | _ | _ | _ <;> rfl]
  rfl
set_option maxRecDepth 100000 in
theorem x424_1 : ∀ v x, (WS v).set 424 (.inl (3, 4, .inl (upd (fun q => [v 96, v 97, v 98, v 99].getD q 0) 1 x))) = WS (va_up v 97 x) := by
  intro v x
  rw [show upd (fun q => [v 96, v 97, v 98, v 99].getD q 0) 1 x = (fun q => [v 96, x, v 98, v 99].getD q 0) from funext fun q => by rcases q with _ | _ | _ | _ | _ <;> rfl]
  rfl
set_option maxRecDepth 100000 in
theorem x424_2 : ∀ v x, (WS v).set 424 (.inl (3, 4, .inl (upd (fun q => [v 96, v 97, v 98, v 99].getD q 0) 2 x))) = WS (va_up v 98 x) := by
  intro v x
  rw [show upd (fun q => [v 96, v 97, v 98, v 99].getD q 0) 2 x = (fun q => [v 96, v 97, x, v 99].getD q 0) from funext fun q => by rcases q with _ | _ | _ | _ | _ <;> rfl]
  rfl
set_option maxRecDepth 100000 in
theorem x424_3 : ∀ v x, (WS v).set 424 (.inl (3, 4, .inl (upd (fun q => [v 96, v 97, v 98, v 99].getD q 0) 3 x))) = WS (va_up v 99 x) := by
  intro v x
  rw [show upd (fun q => [v 96, v 97, v 98, v 99].getD q 0) 3 x = (fun q => [v 96, v 97, v 98, x].getD q 0) from funext fun q => by rcases q with _ | _ | _ | _ | _ <;> rfl]
  rfl
set_option maxRecDepth 100000 in
theorem x425_0 : ∀ v x, (WS v).set 425 (.inl (3, 4, .inl (upd (fun q => [v 100, v 101, v 102, v 103].getD q 0) 0 x))) = WS (va_up v 100 x) := by
  intro v x
  rw [show upd (fun q => [v 100, v 101, v 102, v 103].getD q 0) 0 x = (fun q => [x, v 101, v 102, v 103].getD q 0) from funext fun q => by rcases q with _ | _ | _ | _ | _ <;> rfl]
  rfl
set_option maxRecDepth 100000 in
theorem x425_1 : ∀ v x, (WS v).set 425 (.inl (3, 4, .inl (upd (fun q => [v 100, v 101, v 102, v 103].getD q 0) 1 x))) = WS (va_up v 101 x) := by
  intro v x
  rw [show upd (fun q => [v 100, v 101, v 102, v 103].getD q 0) 1 x = (fun q => [v 100, x, v 102, v 103].getD q 0) from funext fun q => by rcases q with _ | _ | _ | _ | _ <;> rfl]
  rfl
set_option maxRecDepth 100000 in
theorem x425_2 : ∀ v x, (WS v).set 425 (.inl (3, 4, .inl (upd (fun q => [v 100, v 101, v 102, v 103].getD q 0) 2 x))) = WS (va_up v 102 x) := by
  intro v x
  rw [show upd (fun q => [v 100, v 101, v 102, v 103].getD q 0) 2 x = (fun q => [v 100, v 101, x, v 103].getD q 0) from funext fun q => by rcases q with _ | _ | _ | _ | _ <;> rfl]
  rfl
set_option maxRecDepth 100000 in
theorem x425_3 : ∀ v x, (WS v).set 425 (.inl (3, 4, .inl (upd (fun q => [v 100, v 101, v 102, v 103].getD q 0) 3 x))) = WS (va_up v 103 x) := by
  intro v x
  rw [show upd (fun q => [v 100, v 101, v 102, v 103].getD q 0) 3 x = (fun q => [v 100, v 101, v 102, x].getD q 0) from funext fun q => by rcases q with _ | _ | _ | _ | _ <;> rfl]
  rfl
set_option maxRecDepth 100000 in
theorem x426_0 : ∀ v x, (WS v).set 426 (.inl (3, 4, .inl (upd (fun q => [v 104, v 105, v 106, v 107].getD q 0) 0 x))) = WS (va_up v 104 x) := by
  intro v x
  rw [show upd (fun q => [v 104, v 105, v 106, v 107].getD q 0) 0 x = (fun q => [x, v 105, v 106, v 107].getD q 0) from funext fun q => by rcases q with _ | _ | _ | _ | _ <;> rfl]
  rfl
set_option maxRecDepth 100000 in
theorem x426_1 : ∀ v x, (WS v).set 426 (.inl (3, 4, .inl (upd (fun q => [v 104, v 105, v 106, v 107].getD q 0) 1 x))) = WS (va_up v 105 x) := by
  intro v x
  rw [show upd (fun q => [v 104, v 105, v 106, v 107].getD q 0) 1 x = (fun q => [v 104, x, v 106, v 107].getD q 0) from funext fun q => by rcases q with _ | _ | _ | _ | _ <;> rfl]
  rfl
set_option maxRecDepth 100000 in
theorem x426_2 : ∀ v x, (WS v).set 426 (.inl (3, 4, .inl (upd (fun q => [v 104, v 105, v 106, v 107].getD q 0) 2 x))) = WS (va_up v 106 x) := by
  intro v x
  rw [show upd (fun q => [v 104, v 105, v 106, v 107].getD q 0) 2 x = (fun q => [v 104, v 105, x, v 107].getD q 0) from funext fun q => by rcases q with _ | _ | _ | _ | _ <;> rfl]
  rfl
set_option maxRecDepth 100000 in
theorem x426_3 : ∀ v x, (WS v).set 426 (.inl (3, 4, .inl (upd (fun q => [v 104, v 105, v 106, v 107].getD q 0) 3 x))) = WS (va_up v 107 x) := by
  intro v x
  rw [show upd (fun q => [v 104, v 105, v 106, v 107].getD q 0) 3 x = (fun q => [v 104, v 105, v 106, x].getD q 0) from funext fun q => by rcases q with _ | _ | _ | _ | _ <;> rfl]
  rfl
set_option maxRecDepth 100000 in
theorem x427_0 : ∀ v x, (WS v).set 427 (.inl (3, 4, .inl (upd (fun q => [v 108, v 109, v 110, v 111].getD q 0) 0 x))) = WS (va_up v 108 x) := by
  intro v x
  rw [show upd (fun q => [v 108, v 109, v 110, v 111].getD q 0) 0 x = (fun q => [x, v 109, v 110, v 111].getD q 0) from funext fun q => by rcases q with _ | _ | _ | _ | _ <;> rfl]
  rfl
set_option maxRecDepth 100000 in
theorem x427_1 : ∀ v x, (WS v).set 427 (.inl (3, 4, .inl (upd (fun q => [v 108, v 109, v 110, v 111].getD q 0) 1 x))) = WS (va_up v 109 x) := by
  intro v x
  rw [show upd (fun q => [v 108, v 109, v 110, v 111].getD q 0) 1 x = (fun q => [v 108, x, v 110, v 111].getD q 0) from funext fun q => by rcases q with _ | _ | _ | _ | _ <;> rfl]
  rfl
set_option maxRecDepth 100000 in
theorem x427_2 : ∀ v x, (WS v).set 427 (.inl (3, 4, .inl (upd (fun q => [v 108, v 109, v 110, v 111].getD q 0) 2 x))) = WS (va_up v 110 x) := by
  intro v x
  rw [show upd (fun q => [v 108, v 109, v 110, v 111].getD q 0) 2 x = (fun q => [v 108, v 109, x, v 111].getD q 0) from funext fun q => by rcases q with _ | _ | _ | _ | _ <;> rfl]
  rfl
set_option maxRecDepth 100000 in
theorem x427_3 : ∀ v x, (WS v).set 427 (.inl (3, 4, .inl (upd (fun q => [v 108, v 109, v 110, v 111].getD q 0) 3 x))) = WS (va_up v 111 x) := by
  intro v x
  rw [show upd (fun q => [v 108, v 109, v 110, v 111].getD q 0) 3 x = (fun q => [v 108, v 109, v 110, x].getD q 0) from funext fun q => by rcases q with _ | _ | _ | _ | _ <;> rfl]
  rfl
set_option maxRecDepth 100000 in
theorem x428_0 : ∀ v x, (WS v).set 428 (.inl (3, 4, .inl (upd (fun q => [v 112, v 113, v 114, v 115].getD q 0) 0 x))) = WS (va_up v 112 x) := by
  intro v x
  rw [show upd (fun q => [v 112, v 113, v 114, v 115].getD q 0) 0 x = (fun q => [x, v 113, v 114, v 115].getD q 0) from funext fun q => by rcases q with _ | _ | _ | _ | _ <;> rfl]
  rfl
set_option maxRecDepth 100000 in
theorem x428_1 : ∀ v x, (WS v).set 428 (.inl (3, 4, .inl (upd (fun q => [v 112, v 113, v 114, v 115].getD q 0) 1 x))) = WS (va_up v 113 x) := by
  intro v x
  rw [show upd (fun q => [v 112, v 113, v 114, v 115].getD q 0) 1 x = (fun q => [v 112, x, v 114, v 115].getD q 0) from funext fun q => by rcases q with _ | _ | _ | _ | _ <;> rfl]
  rfl
set_option maxRecDepth 100000 in
theorem x428_2 : ∀ v x, (WS v).set 428 (.inl (3, 4, .inl (upd (fun q => [v 112, v 113, v 114, v 115].getD q 0) 2 x))) = WS (va_up v 114 x) := by
  intro v x
  rw [show upd (fun q => [v 112, v 113, v 114, v 115].getD q 0) 2 x = (fun q => [v 112, v 113, x, v 115].getD q 0) from funext fun q => by rcases q with _ | _ | _ | _ | _ <;> rfl]
  rfl
set_option maxRecDepth 100000 in
theorem x428_3 : ∀ v x, (WS v).set 428 (.inl (3, 4, .inl (upd (fun q => [v 112, v 113, v 114, v 115].getD q 0) 3 x))) = WS (va_up v 115 x) := by
  intro v x
  rw [show upd (fun q => [v 112, v 113, v 114, v 115].getD q 0) 3 x = (fun q => [v 112, v 113, v 114, x].getD q 0) from funext fun q => by rcases q with _ | _ | _ | _ | _ <;> rfl]
  rfl
set_option maxRecDepth 100000 in
theorem x429_0 : ∀ v x, (WS v).set 429 (.inl (3, 4, .inl (upd (fun q => [v 116, v 117, v 118, v 119].getD q 0) 0 x))) = WS (va_up v 116 x) := by
  intro v x
  rw [show upd (fun q => [v 116, v 117, v 118, v 119].getD q 0) 0 x = (fun q => [x, v 117, v 118, v 119].getD q 0) from funext fun q => by rcases q with _ | _ | _ | _ | _ <;> rfl]
  rfl
set_option maxRecDepth 100000 in
theorem x429_1 : ∀ v x, (WS v).set 429 (.inl (3, 4, .inl (upd (fun q => [v 116, v 117, v 118, v 119].getD q 0) 1 x))) = WS (va_up v 117 x) := by
  intro v x
  rw [show upd (fun q => [v 116, v 117, v 118, v 119].getD q 0) 1 x = (fun q => [v 116, x, v 118, v 119].getD q 0) from funext fun q => by rcases q with _ | _ | _ | _ | _ <;> rfl]
  rfl
set_option maxRecDepth 100000 in
theorem x429_2 : ∀ v x, (WS v).set 429 (.inl (3, 4, .inl (upd (fun q => [v 116, v 117, v 118, v 119].getD q 0) 2 x))) = WS (va_up v 118 x) := by
  intro v x
  rw [show upd (fun q => [v 116, v 117, v 118, v 119].getD q 0) 2 x = (fun q => [v 116, v 117, x, v 119].getD q 0) from funext fun q => by rcases q with _ | _ | _ | _ | _ <;> rfl]
  rfl
set_option maxRecDepth 100000 in
theorem x429_3 : ∀ v x, (WS v).set 429 (.inl (3, 4, .inl (upd (fun q => [v 116, v 117, v 118, v 119].getD q 0) 3 x))) = WS (va_up v 119 x) := by
  intro v x
  rw [show upd (fun q => [v 116, v 117, v 118, v 119].getD q 0) 3 x = (fun q => [v 116, v 117, v 118, x].getD q 0) from funext fun q => by rcases q with _ | _ | _ | _ | _ <;> rfl]
  rfl
set_option maxRecDepth 100000 in
theorem x430_0 : ∀ v x, (WS v).set 430 (.inl (3, 4, .inl (upd (fun q => [v 120, v 121, v 122, v 123].getD q 0) 0 x))) = WS (va_up v 120 x) := by
  intro v x
  rw [show upd (fun q => [v 120, v 121, v 122, v 123].getD q 0) 0 x = (fun q => [x, v 121, v 122, v 123].getD q 0) from funext fun q => by rcases q with _ | _ | _ | _ | _ <;> rfl]
  rfl
set_option maxRecDepth 100000 in
theorem x430_1 : ∀ v x, (WS v).set 430 (.inl (3, 4, .inl (upd (fun q => [v 120, v 121, v 122, v 123].getD q 0) 1 x))) = WS (va_up v 121 x) := by
  intro v x
  rw [show upd (fun q => [v 120, v 121, v 122, v 123].getD q 0) 1 x = (fun q => [v 120, x, v 122, v 123].getD q 0) from funext fun q => by rcases q with _ | _ | _ | _ | _ <;> rfl]
  rfl
set_option maxRecDepth 100000 in
theorem x430_2 : ∀ v x, (WS v).set 430 (.inl (3, 4, .inl (upd (fun q => [v 120, v 121, v 122, v 123].getD q 0) 2 x))) = WS (va_up v 122 x) := by
  intro v x
  rw [show upd (fun q => [v 120, v 121, v 122, v 123].getD q 0) 2 x = (fun q => [v 120, v 121, x, v 123].getD q 0) from funext fun q => by rcases q with _ | _ | _ | _ | _ <;> rfl]
  rfl
set_option maxRecDepth 100000 in
theorem x430_3 : ∀ v x, (WS v).set 430 (.inl (3, 4, .inl (upd (fun q => [v 120, v 121, v 122, v 123].getD q 0) 3 x))) = WS (va_up v 123 x) := by
  intro v x
  rw [show upd (fun q => [v 120, v 121, v 122, v 123].getD q 0) 3 x = (fun q => [v 120, v 121, v 122, x].getD q 0) from funext fun q => by rcases q with _ | _ | _ | _ | _ <;> rfl]
  rfl
set_option maxRecDepth 100000 in
theorem x431_0 : ∀ v x, (WS v).set 431 (.inl (3, 4, .inl (upd (fun q => [v 124, v 125, v 126, v 127].getD q 0) 0 x))) = WS (va_up v 124 x) := by
  intro v x
  rw [show upd (fun q => [v 124, v 125, v 126, v 127].getD q 0) 0 x = (fun q => [x, v 125, v 126, v 127].getD q 0) from funext fun q => by rcases q with _ | _ | _ | _ | _ <;> rfl]
  rfl
set_option maxRecDepth 100000 in
theorem x431_1 : ∀ v x, (WS v).set 431 (.inl (3, 4, .inl (upd (fun q => [v 124, v 125, v 126, v 127].getD q 0) 1 x))) = WS (va_up v 125 x) := by
  intro v x
  rw [show upd (fun q => [v 124, v 125, v 126, v 127].getD q 0) 1 x = (fun q => [v 124, x, v 126, v 127].getD q 0) from funext fun q => by rcases q with _ | _ | _ | _ | _ <;> rfl]
  rfl
set_option maxRecDepth 100000 in
theorem x431_2 : ∀ v x, (WS v).set 431 (.inl (3, 4, .inl (upd (fun q => [v 124, v 125, v 126, v 127].getD q 0) 2 x))) = WS (va_up v 126 x) := by
  intro v x
  rw [show upd (fun q => [v 124, v 125, v 126, v 127].getD q 0) 2 x = (fun q => [v 124, v 125, x, v 127].getD q 0) from funext fun q => by rcases q with _ | _ | _ | _ | _ <;> rfl]
  rfl
set_option maxRecDepth 100000 in
theorem x431_3 : ∀ v x, (WS v).set 431 (.inl (3, 4, .inl (upd (fun q => [v 124, v 125, v 126, v 127].getD q 0) 3 x))) = WS (va_up v 127 x) := by
  intro v x
  rw [show upd (fun q => [v 124, v 125, v 126, v 127].getD q 0) 3 x = (fun q => [v 124, v 125, v 126, x].getD q 0) from funext fun q => by rcases q with _ | _ | _ | _ | _ <;> rfl]
  rfl
theorem a432 : aT 2 432 384 := ⟨rfl, w432⟩
theorem a433 : aT 2 433 384 := ⟨rfl, w433⟩
theorem a434 : aT 2 434 1280 := ⟨rfl, w434⟩
theorem a435 : aT 2 435 256 := ⟨rfl, w435⟩
theorem a436 : aT 2 436 256 := ⟨rfl, w436⟩
theorem a437 : aT 2 437 256 := ⟨rfl, w437⟩
theorem a438 : aT 2 438 256 := ⟨rfl, w438⟩
theorem a439 : aT 2 439 256 := ⟨rfl, w439⟩
theorem a440 : aT 2 440 96 := ⟨rfl, w440⟩
theorem a441 : aT 2 441 500 := ⟨rfl, w441⟩
theorem a442 : aT 2 442 64 := ⟨rfl, w442⟩
theorem a443 : aT 2 443 64 := ⟨rfl, w443⟩
theorem a444 : aT 2 444 64 := ⟨rfl, w444⟩
theorem a445 : aT 2 445 64 := ⟨rfl, w445⟩
theorem a446 : aT 2 446 64 := ⟨rfl, w446⟩
theorem a447 : aT 2 447 64 := ⟨rfl, w447⟩
theorem a448 : aT 2 448 128 := ⟨rfl, w448⟩
theorem a449 : aL 449 16 := ⟨rfl, w449⟩
theorem a450 : aT 2 450 128 := ⟨rfl, w450⟩
