abbrev ne8 (l : List UInt8) : Bool := decide (l ≠ [])
def upf {α : Type} (f : Nat → α) (s : Nat) (a : α) : Nat → α := fun i => if i = s then a else f i
theorem upf_s {α : Type} (f : Nat → α) (s : Nat) (a : α) : upf f s a s = a := if_pos rfl
theorem upf_n {α : Type} {f : Nat → α} {s i : Nat} {a : α} (h : i ≠ s) : upf f s a i = f i := if_neg h
def CSt (M : List va_E) (sd : Int32) (ch : Nat) (tx rs : List UInt8) (rec : Nat → List UInt8) (us : Nat → Nat) (t : Nat → Nat → Bool) (C : Nat → List (List UInt8)) (b x : Nat → Nat) : Prop :=
  GO M 61 264 ∧ KS M sd ch ∧ EXS M ∧ SVS M ∧ SVD M sd ∧ BY M 369 370 200 tx ∧ BY M 371 372 64 rs ∧ (∀ u, u < 8 → BY M (248 + 2 * u) (249 + 2 * u) 192 (rec u)) ∧ ∀ s, s < 4 → SES M s (us s) (t s) (C s) (b s) (x s)
def RSt (M : List va_E) (sd : Int32) (ch : Nat) (tx rs : List UInt8) (rec : Nat → List UInt8) (us : Nat → Nat) (t : Nat → Nat → Bool) (C : Nat → List (List UInt8)) (b x : Nat → Nat) (th : Nat) : Prop :=
  MS M ∧ NB M sd ch tx.length rs.length th ∧ (IA M 402 64 (chance sd (nI 0)) ∧ SC M 403 16 0 (ownK sd) ∧ IA M 404 32 (pub (ownK sd))) ∧ IA M 409 200 tx ∧ IA M 410 64 rs ∧ (ZR M 405 8 (fun u => ne8 (rec u)) ∧ SL M 406 1536 192 8 rec) ∧ NR M 419 4 us ∧ SL M 420 800 200 4 (fun s => cg (C s) 8) ∧ NR M 421 4 (fun s => (cg (C s) 8).length) ∧ LR M 422 b ∧ LR M 423 x ∧ ZR M 424 4 (fun s => ne8 (cg (C s) 0)) ∧ ZR M 425 4 (fun s => ne8 (cg (C s) 1)) ∧ ZR M 426 4 (fun s => ne8 (cg (C s) 2)) ∧ ZR M 427 4 (fun s => t s 0) ∧ ZR M 428 4 (fun s => t s 1) ∧ ZR M 429 4 (fun s => t s 2) ∧ ZR M 430 4 (fun s => ne8 (cg (C s) 3)) ∧ ZR M 431 4 (fun s => ne8 (cg (C s) 4)) ∧ SL M 432 384 96 4 (fun s => cg (C s) 9) ∧ SL M 433 384 96 4 (fun s => cg (C s) 0) ∧ SL M 434 1280 320 4 (fun s => cg (C s) 1) ∧ SL M 435 256 64 4 (fun s => cg (C s) 2) ∧ SL M 436 256 64 4 (fun s => cg (C s) 6) ∧ SL M 437 256 64 4 (fun s => cg (C s) 3) ∧ SL M 438 256 64 4 (fun s => cg (C s) 7) ∧ SL M 439 256 64 4 (fun s => cg (C s) 5)
def SIv (us : Nat) (t : Nat → Bool) (C : List (List UInt8)) (b x : Nat) : Prop :=
  us < 8 ∧ b < qN ∧ x < qN ∧ (cg C 8).length ≤ 200 ∧ (cg C 0 = [] ∨ (cg C 0).length = 96 ∧ (cg C 9).length = 96) ∧ (cg C 1 = [] ∨ (cg C 1).length = 320 ∧ (cg C 9).length = 96 ∧ (cg C 6).length = 64 ∧ (cg C 7).length = 64) ∧ (cg C 2 = [] ∨ (cg C 2).length = 64 ∧ (cg C 6).length = 64 ∧ (cg C 7).length = 64) ∧ (cg C 3 = [] ∧ cg C 5 = [] ∨ (cg C 3).length = 64 ∧ (cg C 5).length = 64) ∧ (cg C 4 = [] ∨ cg C 4 = cg C 7 ∧ (cg C 7).length = 64) ∧ (t 0 = false → cg C 1 = [] ∧ cg C 2 = [] ∧ cg C 4 = []) ∧ (t 1 = false → cg C 2 = [] ∧ cg C 3 = [] ∧ cg C 5 = []) ∧ (t 2 = false → cg C 4 = [])
def RCv (r : List UInt8) : Prop := r = [] ∨ r.length = 192 ∧ dec (nB r 0)
def RL (M : List va_E) : Prop := ∃ sd ch tx rs rec us t C b x th, CSt M sd ch tx rs rec us t C b x ∧ RSt M sd ch tx rs rec us t C b x th ∧ (∀ s, s < 4 → SIv (us s) (t s) (C s) (b s) (x s)) ∧ (∀ u, u < 8 → RCv (rec u)) ∧ ∃ f, M[451]? = some (.inl (0, 1, .inr (.inl f)))
section RELs
variable {M M' : List va_E} {W : List Nat} {sd : Int32} {ch : Nat} {tx rs : List UInt8} {rec : Nat → List UInt8} {us : Nat → Nat} {t : Nat → Nat → Bool} {C : Nat → List (List UInt8)} {b x : Nat → Nat} {th : Nat}
theorem CSt.kp (h : CSt M sd ch tx rs rec us t C b x) (k : Kp W M M') (hw : ∀ q ∈ W, 373 ≤ q) : CSt M' sd ch tx rs rec us t C b x := by
  obtain ⟨h1, h2, h3, h4, h5, h6, h7, h8, h9⟩ := h
  have n : ∀ q, q < 373 → q ∉ W := fun q hq c => absurd (hw q c) (by omega)
  exact ⟨h1.kp k (n _ (by decide)) (n _ (by decide)), h2.kp k (fun q hq => by have := hw q hq; omega), h3.kp k (fun q hq => by have := hw q hq; omega), h4.kp k (fun q hq => by have := hw q hq; omega), h5.kp k (n _ (by decide)) (n _ (by decide)) (n _ (by decide)) (n _ (by decide)), h6.kp k (n _ (by decide)) (n _ (by decide)), h7.kp k (n _ (by decide)) (n _ (by decide)), fun u hu => (h8 u hu).kp k (n _ (by omega)) (n _ (by omega)), fun s hs => (h9 s hs).kp k (fun q hq => by have := hw q hq; omega)⟩
set_option maxHeartbeats 8000000 in
theorem RSt.kp (h : RSt M sd ch tx rs rec us t C b x th) (k : Kp W M M') (hw : ∀ q ∈ W, q < 373 ∨ 450 < q) : RSt M' sd ch tx rs rec us t C b x th := by
  obtain ⟨h1, h2, ⟨h3, h4, h5⟩, h6, h7, ⟨h8, h9⟩, i1, i2, i3, i4, i5, i6, i7, i8, i9, j1, j2, j3, j4, j5, j6, j7, j8, j9, k1, k2, k3⟩ := h
  have n : ∀ q, (373 ≤ q ∧ q ≤ 450) → q ∉ W := fun q hq c => absurd (hw q c) (by omega)
  exact ⟨h1.kp k (fun q hq c => absurd (hw q hq) (by have := (by decide +kernel : ∀ q ∈ msP, 373 ≤ q ∧ q ≤ 450) q c; omega)), h2.kp k (n _ (by decide)) (n _ (by decide)), ⟨h3.kp k (n _ (by decide)), h4.kp k (n _ (by decide)), h5.kp k (n _ (by decide))⟩, h6.kp k (n _ (by decide)), h7.kp k (n _ (by decide)), ⟨h8.kp k (n _ (by decide)), h9.kp k (n _ (by decide))⟩, i1.kp k (n _ (by decide)), i2.kp k (n _ (by decide)), i3.kp k (n _ (by decide)), i4.kp k (n _ (by decide)), i5.kp k (n _ (by decide)), i6.kp k (n _ (by decide)), i7.kp k (n _ (by decide)), i8.kp k (n _ (by decide)), i9.kp k (n _ (by decide)), j1.kp k (n _ (by decide)), j2.kp k (n _ (by decide)), j3.kp k (n _ (by decide)), j4.kp k (n _ (by decide)), j5.kp k (n _ (by decide)), j6.kp k (n _ (by decide)), j7.kp k (n _ (by decide)), j8.kp k (n _ (by decide)), j9.kp k (n _ (by decide)), k1.kp k (n _ (by decide)), k2.kp k (n _ (by decide)), k3.kp k (n _ (by decide))⟩
theorem RSt.mo (h : RSt M sd ch tx rs rec us t C b x th) : ∃ w, M[373]? = some (moO w) := by
  obtain ⟨-, ⟨w, ⟨v, hv, -⟩, -⟩, -⟩ := h
  exact ⟨v, hv⟩
end RELs
section RELt
variable {M : List va_E} {p n c s i : Nat} {C : Nat → List (List UInt8)} {D : List (List UInt8)}
theorem SL.mo {k : Nat} {X Y : Nat → List UInt8} (h : SL M p n c k X) (e : ∀ j, j < k → Y j = X j ∨ Y j = []) : SL M p n c k Y := by
  obtain ⟨L, h1, h2, h3⟩ := h
  refine ⟨L, h1, h2, fun j hj => ?_⟩
  rcases e j hj with q | q
  · rw [q]; exact h3 j hj
  · rw [q]; exact ⟨Nat.zero_le _, fun i hi => absurd hi (Nat.not_lt_zero i)⟩
theorem SL.kg (h : SL M p n c 4 (fun j => cg (C j) i)) (e : cg D i = cg (C s) i ∨ cg D i = []) : SL M p n c 4 (fun j => cg (upf C s D j) i) := h.mo fun j _ => by
  unfold upf
  by_cases q : j = s
  · subst q; rw [if_pos rfl]; exact e
  · rw [if_neg q]; exact Or.inl rfl
theorem SL.cs {l : List UInt8} (h : SL M p n c 4 (updT (fun j => cg (C j) i) s l)) (e : cg D i = l) : SL M p n c 4 (fun j => cg (upf C s D j) i) := h.mo fun j _ => by
  unfold upf updT
  by_cases q : j = s
  · rw [if_pos q, if_pos q]; exact Or.inl e
  · rw [if_neg q, if_neg q]; exact Or.inl rfl
theorem ZR.mo {k : Nat} {t u : Nat → Bool} (h : ZR M p k t) (e : ∀ j, j < k → u j = t j) : ZR M p k u := by obtain ⟨f, h1, h2⟩ := h; exact ⟨f, h1, fun j hj => by rw [e j hj]; exact h2 j hj⟩
theorem NR.mo {k : Nat} {t u : Nat → Nat} (h : NR M p k t) (e : ∀ j, j < k → u j = t j) : NR M p k u := by obtain ⟨f, h1, h2⟩ := h; exact ⟨f, h1, fun j hj => by rw [e j hj]; exact h2 j hj⟩
theorem ZR.kg (h : ZR M p 4 (fun j => ne8 (cg (C j) i))) (e : cg D i = cg (C s) i) : ZR M p 4 (fun j => ne8 (cg (upf C s D j) i)) := h.mo fun j _ => by
  unfold upf
  by_cases q : j = s
  · subst q; rw [if_pos rfl, e]
  · rw [if_neg q]
theorem ZR.cs {z : Bool} (h : ZR M p 4 (updB (fun j => ne8 (cg (C j) i)) s z)) (e : ne8 (cg D i) = z) : ZR M p 4 (fun j => ne8 (cg (upf C s D j) i)) := h.mo fun j _ => by
  unfold upf updB
  by_cases q : j = s
  · rw [if_pos q, if_pos q]; exact e
  · rw [if_neg q, if_neg q]
theorem ZR.ts {t : Nat → Nat → Bool} {z : Bool} {u : Nat → Bool} (h : ZR M p 4 (updB (fun j => t j i) s z)) (e : u i = z) : ZR M p 4 (fun j => upf t s u j i) := h.mo fun j _ => by
  unfold upf updB
  by_cases q : j = s
  · rw [if_pos q, if_pos q]; exact e
  · rw [if_neg q, if_neg q]
theorem ZR.tg {t : Nat → Nat → Bool} {u : Nat → Bool} (h : ZR M p 4 (fun j => t j i)) (e : u i = t s i) : ZR M p 4 (fun j => upf t s u j i) := h.mo fun j _ => by
  unfold upf
  by_cases q : j = s
  · subst q; rw [if_pos rfl]; exact e
  · rw [if_neg q]
theorem uN_f (f : Nat → Nat) (s a : Nat) : uN f s a = upf f s a := rfl
end RELt
def PRm (G : GX) (m1 m2 : MI) (as : List Value) (M : List va_E) : Prop := ∃ (r : Int32) (Q1 : List va_E → Prop), (∀ M', Q1 M' → ∃ w, M'[373]? = some (moO w)) ∧ CT G m1 (.ref 61 :: as) M (fun r' M' => r' = some (.int r) ∧ Q1 M') ∧ ∀ M', Q1 M' → CT G m2 (.ref 373 :: as) M' (fun r' M'' => r' = some (.int r) ∧ RL M'')
theorem ix_z (x : Int32) : x < 0 ∨ ∃ n : Nat, n < 2147483648 ∧ x = nI n := by
  rcases Int.lt_or_le x.toInt 0 with h | h
  · exact Or.inl (Int32.lt_iff_toInt_lt.mpr h)
  · refine Or.inr ⟨x.toInt.toNat, ?_, ?_⟩
    · have := Int32.toInt_lt x; omega
    · apply Int32.toInt_inj.mp
      unfold nI
      rw [Int32.toInt_ofNat_of_lt (by have := Int32.toInt_lt x; omega)]; omega
theorem ix_3 (x : Int32) {n : Nat} (hn : n < 1000) : x < 0 ∨ (¬ x < 0 ∧ nI n ≤ x) ∨ ∃ k : Nat, k < n ∧ x = nI k := by
  rcases ix_z x with h | ⟨k, hk, rfl⟩
  · exact Or.inl h
  · by_cases c : k < n
    · exact Or.inr (Or.inr ⟨k, c, rfl⟩)
    · refine Or.inr (Or.inl ⟨?_, ?_⟩)
      · rw [Int32.lt_iff_toInt_lt]; unfold nI; rw [Int32.toInt_ofNat_of_lt (by omega)]; exact fun h => absurd (show ((k : Int) < 0) from h) (by omega)
      · rw [Int32.le_iff_toInt_le]; unfold nI; rw [Int32.toInt_ofNat_of_lt (by omega), Int32.toInt_ofNat_of_lt (by omega)]; omega
theorem fd5_len (a b c d e : Int32) : (fd5 a b c d e).length = 20 := by unfold fd5; simp only [List.length_append, be_len]
theorem gd_take {l : List UInt8} {n i : Nat} (h : i < n) : gd (l.take n) i = gd l i := by unfold gd; rw [List.getD_eq_getElem?_getD, List.getD_eq_getElem?_getD, List.getElem?_take, if_pos h]
set_option maxHeartbeats 8000000 in
theorem rl_feed (G : GX) {M : List va_E} (h : RL M) (x1 : Int32) (x2 : Int32) (x3 : Int32) (x4 : Int32) (x5 : Int32) : PRm G mi_PG_feed mi_Mo_feed [.int x1, .int x2, .int x3, .int x4, .int x5] M := by
  obtain ⟨sd, ch, tx, rs, rec, us, t, C, b, x, th, hc0, hr, hi, hv, f, hf⟩ := h
  obtain ⟨h1, h2, h3, h4, h5, h6, h7, h8, h9⟩ := id hc0
  have lt := h6.2.le
  by_cases hl : tx.length + 20 ≤ 200
  ·
    refine ⟨(nI 1), fun M1 => CSt M1 sd ch (tx ++ fd5 x1 x2 x3 x4 x5) rs rec us t C b x ∧ RSt M1 sd ch tx rs rec us t C b x th ∧ M1[451]? = some (.inl (0, 1, .inr (.inl f))), fun M1 q => q.2.1.mo, (y_PG_feed_yes h1 h6 hl).post fun r1 M1 q => ?_, fun M1 q => ?_⟩
    · obtain ⟨ha, hb, kw⟩ := q
      have hw : ∀ q ∈ [369, 370], q ∈ [369, 370] := fun _ h => h
      exact ⟨by first | exact ha | rw [ha], ⟨h1.kp kw (fun c => by have z := hw _ c; simp only [List.mem_cons, List.not_mem_nil, or_false] at z; omega) (fun c => by have z := hw _ c; simp only [List.mem_cons, List.not_mem_nil, or_false] at z; omega), h2.kp kw (fun q hq => by have z := hw q hq; simp only [List.mem_cons, List.not_mem_nil, or_false] at z; omega), h3.kp kw (fun q hq => by have z := hw q hq; simp only [List.mem_cons, List.not_mem_nil, or_false] at z; omega), h4.kp kw (fun q hq => by have z := hw q hq; simp only [List.mem_cons, List.not_mem_nil, or_false] at z; omega), h5.kp kw (fun c => by have z := hw _ c; simp only [List.mem_cons, List.not_mem_nil, or_false] at z; omega) (fun c => by have z := hw _ c; simp only [List.mem_cons, List.not_mem_nil, or_false] at z; omega) (fun c => by have z := hw _ c; simp only [List.mem_cons, List.not_mem_nil, or_false] at z; omega) (fun c => by have z := hw _ c; simp only [List.mem_cons, List.not_mem_nil, or_false] at z; omega), hb, h7.kp kw (fun c => by have z := hw _ c; simp only [List.mem_cons, List.not_mem_nil, or_false] at z; omega) (fun c => by have z := hw _ c; simp only [List.mem_cons, List.not_mem_nil, or_false] at z; omega), fun u hu => (h8 u hu).kp kw (fun c => by have z := hw _ c; simp only [List.mem_cons, List.not_mem_nil, or_false] at z; omega) (fun c => by have z := hw _ c; simp only [List.mem_cons, List.not_mem_nil, or_false] at z; omega), fun s hs => (h9 s hs).kp kw (fun q hq => by have z := hw q hq; simp only [List.mem_cons, List.not_mem_nil, or_false] at z; omega)⟩, hr.kp kw (fun q hq => by have z := hw q hq; simp only [List.mem_cons, List.not_mem_nil, or_false] at z; omega), (kw 451 (fun c => by have z := hw _ c; simp only [List.mem_cons, List.not_mem_nil, or_false] at z; omega)).trans hf⟩
    · obtain ⟨cM, rM, hf1⟩ := q
      obtain ⟨g1, g2, ⟨g3, g4, g5⟩, g6, g7, ⟨g8, g9⟩, i1, i2, i3, i4, i5, i6, i7, i8, i9, j1, j2, j3, j4, j5, j6, j7, j8, j9, k1, k2, k3⟩ := id rM
      refine (p_Mo_feed_yes g2 g6 rfl hl).post fun r2 M2 z => ?_
      obtain ⟨ha, hn, ht, kp⟩ := z
      exact ⟨by first | exact ha | rw [ha], sd, ch, tx ++ fd5 x1 x2 x3 x4 x5, rs, rec, us, t, C, b, x, 0, cM.kp kp (by decide), ⟨g1.kp kp (by decide), by rw [List.length_append, fd5_len]; exact hn, ⟨g3.kp kp (by decide), g4.kp kp (by decide), g5.kp kp (by decide)⟩, ht, g7.kp kp (by decide), ⟨g8.kp kp (by decide), g9.kp kp (by decide)⟩, i1.kp kp (by decide), i2.kp kp (by decide), i3.kp kp (by decide), i4.kp kp (by decide), i5.kp kp (by decide), i6.kp kp (by decide), i7.kp kp (by decide), i8.kp kp (by decide), i9.kp kp (by decide), j1.kp kp (by decide), j2.kp kp (by decide), j3.kp kp (by decide), j4.kp kp (by decide), j5.kp kp (by decide), j6.kp kp (by decide), j7.kp kp (by decide), j8.kp kp (by decide), j9.kp kp (by decide), k1.kp kp (by decide), k2.kp kp (by decide), k3.kp kp (by decide)⟩, hi, hv, f, (kp 451 (by decide)).trans hf1⟩
  ·
    refine ⟨(nI 0), fun M1 => CSt M1 sd ch tx rs rec us t C b x ∧ RSt M1 sd ch tx rs rec us t C b x th ∧ M1[451]? = some (.inl (0, 1, .inr (.inl f))), fun M1 q => q.2.1.mo, (y_PG_feed_no h1 h6 (by omega)).post fun r1 M1 q => ?_, fun M1 q => ?_⟩
    · obtain ⟨ha, he⟩ := q
      subst he; exact ⟨by first | exact ha | rw [ha], hc0, hr, hf⟩
    · obtain ⟨cM, rM, hf1⟩ := q
      obtain ⟨g1, g2, ⟨g3, g4, g5⟩, g6, g7, ⟨g8, g9⟩, i1, i2, i3, i4, i5, i6, i7, i8, i9, j1, j2, j3, j4, j5, j6, j7, j8, j9, k1, k2, k3⟩ := id rM
      refine (p_Mo_feed_no (tx := tx) g2 (by omega) lt).post fun r2 M2 z => ?_
      obtain ⟨ha, hn, kp⟩ := z
      exact ⟨by first | exact ha | rw [ha], sd, ch, tx, rs, rec, us, t, C, b, x, 0, cM.kp kp (by decide), ⟨g1.kp kp (by decide), hn, ⟨g3.kp kp (by decide), g4.kp kp (by decide), g5.kp kp (by decide)⟩, g6.kp kp (by decide), g7.kp kp (by decide), ⟨g8.kp kp (by decide), g9.kp kp (by decide)⟩, i1.kp kp (by decide), i2.kp kp (by decide), i3.kp kp (by decide), i4.kp kp (by decide), i5.kp kp (by decide), i6.kp kp (by decide), i7.kp kp (by decide), i8.kp kp (by decide), i9.kp kp (by decide), j1.kp kp (by decide), j2.kp kp (by decide), j3.kp kp (by decide), j4.kp kp (by decide), j5.kp kp (by decide), j6.kp kp (by decide), j7.kp kp (by decide), j8.kp kp (by decide), j9.kp kp (by decide), k1.kp kp (by decide), k2.kp kp (by decide), k3.kp kp (by decide)⟩, hi, hv, f, (kp 451 (by decide)).trans hf1⟩
set_option maxHeartbeats 8000000 in
theorem rl_end (G : GX) {M : List va_E} (h : RL M) (y : Int32) : PRm G mi_PG_end mi_Mo_end [.int y] M := by
  obtain ⟨sd, ch, tx, rs, rec, us, t, C, b, x, th, hc0, hr, hi, hv, f, hf⟩ := h
  obtain ⟨h1, h2, h3, h4, h5, h6, h7, h8, h9⟩ := id hc0
  have lt := h6.2.le
  rcases ix_z y with hy | ⟨n, hn, rfl⟩
  ·
    refine ⟨(nI 0), fun M1 => CSt M1 sd ch tx rs rec us t C b x ∧ RSt M1 sd ch tx rs rec us t C b x th ∧ M1[451]? = some (.inl (0, 1, .inr (.inl f))), fun M1 q => q.2.1.mo, (y_PG_end_neg hy).post fun r1 M1 q => ?_, fun M1 q => ?_⟩
    · obtain ⟨ha, he⟩ := q
      subst he; exact ⟨by first | exact ha | rw [ha], hc0, hr, hf⟩
    · obtain ⟨cM, rM, hf1⟩ := q
      obtain ⟨g1, g2, ⟨g3, g4, g5⟩, g6, g7, ⟨g8, g9⟩, i1, i2, i3, i4, i5, i6, i7, i8, i9, j1, j2, j3, j4, j5, j6, j7, j8, j9, k1, k2, k3⟩ := id rM
      refine (p_Mo_end_neg g2 hy).post fun r2 M2 z => ?_
      obtain ⟨ha, hn, kp⟩ := z
      exact ⟨by first | exact ha | rw [ha], sd, ch, tx, rs, rec, us, t, C, b, x, 0, cM.kp kp (by decide), ⟨g1.kp kp (by decide), hn, ⟨g3.kp kp (by decide), g4.kp kp (by decide), g5.kp kp (by decide)⟩, g6.kp kp (by decide), g7.kp kp (by decide), ⟨g8.kp kp (by decide), g9.kp kp (by decide)⟩, i1.kp kp (by decide), i2.kp kp (by decide), i3.kp kp (by decide), i4.kp kp (by decide), i5.kp kp (by decide), i6.kp kp (by decide), i7.kp kp (by decide), i8.kp kp (by decide), i9.kp kp (by decide), j1.kp kp (by decide), j2.kp kp (by decide), j3.kp kp (by decide), j4.kp kp (by decide), j5.kp kp (by decide), j6.kp kp (by decide), j7.kp kp (by decide), j8.kp kp (by decide), j9.kp kp (by decide), k1.kp kp (by decide), k2.kp kp (by decide), k3.kp kp (by decide)⟩, hi, hv, f, (kp 451 (by decide)).trans hf1⟩
  · by_cases hk : n ≤ tx.length
    ·
      refine ⟨(nI 1), fun M1 => CSt M1 sd ch (tx.take n) rs rec us t C b x ∧ RSt M1 sd ch tx rs rec us t C b x th ∧ M1[451]? = some (.inl (0, 1, .inr (.inl f))), fun M1 q => q.2.1.mo, (y_PG_end_in h1 h6 hk).post fun r1 M1 q => ?_, fun M1 q => ?_⟩
      · obtain ⟨ha, hb, kw⟩ := q
        have hw : ∀ q ∈ [369], q ∈ [369] := fun _ h => h
        exact ⟨by first | exact ha | rw [ha], ⟨h1.kp kw (fun c => by have z := hw _ c; simp only [List.mem_cons, List.not_mem_nil, or_false] at z; omega) (fun c => by have z := hw _ c; simp only [List.mem_cons, List.not_mem_nil, or_false] at z; omega), h2.kp kw (fun q hq => by have z := hw q hq; simp only [List.mem_cons, List.not_mem_nil, or_false] at z; omega), h3.kp kw (fun q hq => by have z := hw q hq; simp only [List.mem_cons, List.not_mem_nil, or_false] at z; omega), h4.kp kw (fun q hq => by have z := hw q hq; simp only [List.mem_cons, List.not_mem_nil, or_false] at z; omega), h5.kp kw (fun c => by have z := hw _ c; simp only [List.mem_cons, List.not_mem_nil, or_false] at z; omega) (fun c => by have z := hw _ c; simp only [List.mem_cons, List.not_mem_nil, or_false] at z; omega) (fun c => by have z := hw _ c; simp only [List.mem_cons, List.not_mem_nil, or_false] at z; omega) (fun c => by have z := hw _ c; simp only [List.mem_cons, List.not_mem_nil, or_false] at z; omega), hb, h7.kp kw (fun c => by have z := hw _ c; simp only [List.mem_cons, List.not_mem_nil, or_false] at z; omega) (fun c => by have z := hw _ c; simp only [List.mem_cons, List.not_mem_nil, or_false] at z; omega), fun u hu => (h8 u hu).kp kw (fun c => by have z := hw _ c; simp only [List.mem_cons, List.not_mem_nil, or_false] at z; omega) (fun c => by have z := hw _ c; simp only [List.mem_cons, List.not_mem_nil, or_false] at z; omega), fun s hs => (h9 s hs).kp kw (fun q hq => by have z := hw q hq; simp only [List.mem_cons, List.not_mem_nil, or_false] at z; omega)⟩, hr.kp kw (fun q hq => by have z := hw q hq; simp only [List.mem_cons, List.not_mem_nil, or_false] at z; omega), (kw 451 (fun c => by have z := hw _ c; simp only [List.mem_cons, List.not_mem_nil, or_false] at z; omega)).trans hf⟩
      · obtain ⟨cM, rM, hf1⟩ := q
        obtain ⟨g1, g2, ⟨g3, g4, g5⟩, g6, g7, ⟨g8, g9⟩, i1, i2, i3, i4, i5, i6, i7, i8, i9, j1, j2, j3, j4, j5, j6, j7, j8, j9, k1, k2, k3⟩ := id rM
        refine (p_Mo_end_in g2 hk (by omega)).post fun r2 M2 z => ?_
        obtain ⟨ha, hn2, kp⟩ := z
        exact ⟨by first | exact ha | rw [ha], sd, ch, tx.take n, rs, rec, us, t, C, b, x, 0, cM.kp kp (by decide), ⟨g1.kp kp (by decide), by rw [List.length_take, Nat.min_eq_left hk]; exact hn2, ⟨g3.kp kp (by decide), g4.kp kp (by decide), g5.kp kp (by decide)⟩, (g6.kp kp (by decide)).cut (by rw [List.length_take]; omega) (fun i hi => by rw [List.length_take] at hi; exact gd_take (by omega)), g7.kp kp (by decide), ⟨g8.kp kp (by decide), g9.kp kp (by decide)⟩, i1.kp kp (by decide), i2.kp kp (by decide), i3.kp kp (by decide), i4.kp kp (by decide), i5.kp kp (by decide), i6.kp kp (by decide), i7.kp kp (by decide), i8.kp kp (by decide), i9.kp kp (by decide), j1.kp kp (by decide), j2.kp kp (by decide), j3.kp kp (by decide), j4.kp kp (by decide), j5.kp kp (by decide), j6.kp kp (by decide), j7.kp kp (by decide), j8.kp kp (by decide), j9.kp kp (by decide), k1.kp kp (by decide), k2.kp kp (by decide), k3.kp kp (by decide)⟩, hi, hv, f, (kp 451 (by decide)).trans hf1⟩
    ·
      refine ⟨(nI 0), fun M1 => CSt M1 sd ch tx rs rec us t C b x ∧ RSt M1 sd ch tx rs rec us t C b x th ∧ M1[451]? = some (.inl (0, 1, .inr (.inl f))), fun M1 q => q.2.1.mo, (y_PG_end_big h1 h6 (by omega) hn).post fun r1 M1 q => ?_, fun M1 q => ?_⟩
      · obtain ⟨ha, he⟩ := q
        subst he; exact ⟨by first | exact ha | rw [ha], hc0, hr, hf⟩
      · obtain ⟨cM, rM, hf1⟩ := q
        obtain ⟨g1, g2, ⟨g3, g4, g5⟩, g6, g7, ⟨g8, g9⟩, i1, i2, i3, i4, i5, i6, i7, i8, i9, j1, j2, j3, j4, j5, j6, j7, j8, j9, k1, k2, k3⟩ := id rM
        refine (p_Mo_end_big g2 (by omega) hn).post fun r2 M2 z => ?_
        obtain ⟨ha, hn2, kp⟩ := z
        exact ⟨by first | exact ha | rw [ha], sd, ch, tx, rs, rec, us, t, C, b, x, 0, cM.kp kp (by decide), ⟨g1.kp kp (by decide), hn2, ⟨g3.kp kp (by decide), g4.kp kp (by decide), g5.kp kp (by decide)⟩, g6.kp kp (by decide), g7.kp kp (by decide), ⟨g8.kp kp (by decide), g9.kp kp (by decide)⟩, i1.kp kp (by decide), i2.kp kp (by decide), i3.kp kp (by decide), i4.kp kp (by decide), i5.kp kp (by decide), i6.kp kp (by decide), i7.kp kp (by decide), i8.kp kp (by decide), i9.kp kp (by decide), j1.kp kp (by decide), j2.kp kp (by decide), j3.kp kp (by decide), j4.kp kp (by decide), j5.kp kp (by decide), j6.kp kp (by decide), j7.kp kp (by decide), j8.kp kp (by decide), j9.kp kp (by decide), k1.kp kp (by decide), k2.kp kp (by decide), k3.kp kp (by decide)⟩, hi, hv, f, (kp 451 (by decide)).trans hf1⟩
set_option maxHeartbeats 8000000 in
theorem rl_hash (G : GX) {M : List va_E} (h : RL M) : PRm G mi_PG_hash mi_Mo_hash [] M := by
  obtain ⟨sd, ch, tx, rs, rec, us, t, C, b, x, th, hc0, hr, hi, hv, f, hf⟩ := h
  obtain ⟨h1, h2, h3, h4, h5, h6, h7, h8, h9⟩ := id hc0
  refine ⟨(nI 64), fun M1 => CSt M1 sd ch ([]) (sha tx) rec us t C b x ∧ RSt M1 sd ch tx rs rec us t C b x th ∧ M1[451]? = some (.inl (0, 1, .inr (.inl f))), fun M1 q => q.2.1.mo, (y_PG_hash h1 h2 h6 h7).post fun r1 M1 q => ?_, fun M1 q => ?_⟩
  · obtain ⟨ha, hk, hb, hd, kr⟩ := q
    obtain ⟨W, kw, hw⟩ := kr
    exact ⟨by first | exact ha | rw [ha], ⟨h1.kp kw (fun c => by have z := hw _ c; simp only [InP] at z; omega) (fun c => by have z := hw _ c; simp only [InP] at z; omega), hk, h3.kp kw (fun q hq => by have z := hw q hq; simp only [InP] at z; omega), h4.kp kw (fun q hq => by have z := hw q hq; simp only [InP] at z; omega), h5.kp kw (fun c => by have z := hw _ c; simp only [InP] at z; omega) (fun c => by have z := hw _ c; simp only [InP] at z; omega) (fun c => by have z := hw _ c; simp only [InP] at z; omega) (fun c => by have z := hw _ c; simp only [InP] at z; omega), hb, hd, fun u hu => (h8 u hu).kp kw (fun c => by have z := hw _ c; simp only [InP] at z; omega) (fun c => by have z := hw _ c; simp only [InP] at z; omega), fun s hs => (h9 s hs).kp kw (fun q hq => by have z := hw q hq; simp only [InP] at z; omega)⟩, hr.kp kw (fun q hq => by have z := hw q hq; simp only [InP] at z; omega), (kw 451 (fun c => by have z := hw _ c; simp only [InP] at z; omega)).trans hf⟩
  · obtain ⟨cM, rM, hf1⟩ := q
    obtain ⟨g1, g2, ⟨g3, g4, g5⟩, g6, g7, ⟨g8, g9⟩, i1, i2, i3, i4, i5, i6, i7, i8, i9, j1, j2, j3, j4, j5, j6, j7, j8, j9, k1, k2, k3⟩ := id rM
    refine (p_Mo_hash g1 g2 g6 rfl g7).post fun r2 M2 z => ?_
    obtain ⟨ha, hm, hn, hd, kp⟩ := z
    exact ⟨by first | exact ha | rw [ha], sd, ch, [], sha tx, rec, us, t, C, b, x, 0, cM.kp kp (by decide), ⟨hm, by rw [sha_len]; exact hn, ⟨g3.kp kp (by decide), g4.kp kp (by decide), g5.kp kp (by decide)⟩, (g6.kp kp (by decide)).iq.ia, hd, ⟨g8.kp kp (by decide), g9.kp kp (by decide)⟩, i1.kp kp (by decide), i2.kp kp (by decide), i3.kp kp (by decide), i4.kp kp (by decide), i5.kp kp (by decide), i6.kp kp (by decide), i7.kp kp (by decide), i8.kp kp (by decide), i9.kp kp (by decide), j1.kp kp (by decide), j2.kp kp (by decide), j3.kp kp (by decide), j4.kp kp (by decide), j5.kp kp (by decide), j6.kp kp (by decide), j7.kp kp (by decide), j8.kp kp (by decide), j9.kp kp (by decide), k1.kp kp (by decide), k2.kp kp (by decide), k3.kp kp (by decide)⟩, hi, hv, f, (kp 451 (by decide)).trans hf1⟩
set_option maxHeartbeats 8000000 in
theorem rl_group (G : GX) {M : List va_E} (h : RL M) : PRm G mi_PG_group mi_Mo_group [] M := by
  obtain ⟨sd, ch, tx, rs, rec, us, t, C, b, x, th, hc0, hr, hi, hv, f, hf⟩ := h
  obtain ⟨h1, h2, h3, h4, h5, h6, h7, h8, h9⟩ := id hc0
  refine ⟨(nI 32), fun M1 => CSt M1 sd ch ([]) (enc (grp tx)) rec us t C b x ∧ RSt M1 sd ch tx rs rec us t C b x th ∧ M1[451]? = some (.inl (0, 1, .inr (.inl f))), fun M1 q => q.2.1.mo, (y_PG_group h1 h2 h6 h7).post fun r1 M1 q => ?_, fun M1 q => ?_⟩
  · obtain ⟨ha, hk, hb, hd, kr⟩ := q
    obtain ⟨W, kw, hw⟩ := kr
    exact ⟨by first | exact ha | rw [ha], ⟨h1.kp kw (fun c => by have z := hw _ c; simp only [InP] at z; omega) (fun c => by have z := hw _ c; simp only [InP] at z; omega), hk, h3.kp kw (fun q hq => by have z := hw q hq; simp only [InP] at z; omega), h4.kp kw (fun q hq => by have z := hw q hq; simp only [InP] at z; omega), h5.kp kw (fun c => by have z := hw _ c; simp only [InP] at z; omega) (fun c => by have z := hw _ c; simp only [InP] at z; omega) (fun c => by have z := hw _ c; simp only [InP] at z; omega) (fun c => by have z := hw _ c; simp only [InP] at z; omega), hb, hd, fun u hu => (h8 u hu).kp kw (fun c => by have z := hw _ c; simp only [InP] at z; omega) (fun c => by have z := hw _ c; simp only [InP] at z; omega), fun s hs => (h9 s hs).kp kw (fun q hq => by have z := hw q hq; simp only [InP] at z; omega)⟩, hr.kp kw (fun q hq => by have z := hw q hq; simp only [InP] at z; omega), (kw 451 (fun c => by have z := hw _ c; simp only [InP] at z; omega)).trans hf⟩
  · obtain ⟨cM, rM, hf1⟩ := q
    obtain ⟨g1, g2, ⟨g3, g4, g5⟩, g6, g7, ⟨g8, g9⟩, i1, i2, i3, i4, i5, i6, i7, i8, i9, j1, j2, j3, j4, j5, j6, j7, j8, j9, k1, k2, k3⟩ := id rM
    refine (p_Mo_group g1 g2 g6 rfl g7).post fun r2 M2 z => ?_
    obtain ⟨ha, hm, hn, hd, kp⟩ := z
    exact ⟨by first | exact ha | rw [ha], sd, ch, [], enc (grp tx), rec, us, t, C, b, x, 0, cM.kp kp (by decide), ⟨hm, by rw [enc_len]; exact hn, ⟨g3.kp kp (by decide), g4.kp kp (by decide), g5.kp kp (by decide)⟩, (g6.kp kp (by decide)).iq.ia, hd, ⟨g8.kp kp (by decide), g9.kp kp (by decide)⟩, i1.kp kp (by decide), i2.kp kp (by decide), i3.kp kp (by decide), i4.kp kp (by decide), i5.kp kp (by decide), i6.kp kp (by decide), i7.kp kp (by decide), i8.kp kp (by decide), i9.kp kp (by decide), j1.kp kp (by decide), j2.kp kp (by decide), j3.kp kp (by decide), j4.kp kp (by decide), j5.kp kp (by decide), j6.kp kp (by decide), j7.kp kp (by decide), j8.kp kp (by decide), j9.kp kp (by decide), k1.kp kp (by decide), k2.kp kp (by decide), k3.kp kp (by decide)⟩, hi, hv, f, (kp 451 (by decide)).trans hf1⟩
set_option maxHeartbeats 8000000 in
theorem rl_times (G : GX) {M : List va_E} (h : RL M) : PRm G mi_PG_times mi_Mo_times [] M := by
  obtain ⟨sd, ch, tx, rs, rec, us, t, C, b, x, th, hc0, hr, hi, hv, f, hf⟩ := h
  obtain ⟨h1, h2, h3, h4, h5, h6, h7, h8, h9⟩ := id hc0
  by_cases hd0 : 64 ≤ tx.length ∧ dec (nB tx 32)
  ·
    refine ⟨(nI 32), fun M1 => CSt M1 sd ch ([]) (enc (emul fD (dPt (nB tx 32)) (leN tx 32 % qN))) rec us t C b x ∧ RSt M1 sd ch tx rs rec us t C b x th ∧ M1[451]? = some (.inl (0, 1, .inr (.inl f))), fun M1 q => q.2.1.mo, (y_PG_times_ok h1 h2 h6 h7 hd0.1 hd0.2).post fun r1 M1 q => ?_, fun M1 q => ?_⟩
    · obtain ⟨ha, hk, hb, hd, kr⟩ := q
      obtain ⟨W, kw, hw⟩ := kr
      exact ⟨by first | exact ha | rw [ha], ⟨h1.kp kw (fun c => by have z := hw _ c; simp only [InP] at z; omega) (fun c => by have z := hw _ c; simp only [InP] at z; omega), hk, h3.kp kw (fun q hq => by have z := hw q hq; simp only [InP] at z; omega), h4.kp kw (fun q hq => by have z := hw q hq; simp only [InP] at z; omega), h5.kp kw (fun c => by have z := hw _ c; simp only [InP] at z; omega) (fun c => by have z := hw _ c; simp only [InP] at z; omega) (fun c => by have z := hw _ c; simp only [InP] at z; omega) (fun c => by have z := hw _ c; simp only [InP] at z; omega), hb, hd, fun u hu => (h8 u hu).kp kw (fun c => by have z := hw _ c; simp only [InP] at z; omega) (fun c => by have z := hw _ c; simp only [InP] at z; omega), fun s hs => (h9 s hs).kp kw (fun q hq => by have z := hw q hq; simp only [InP] at z; omega)⟩, hr.kp kw (fun q hq => by have z := hw q hq; simp only [InP] at z; omega), (kw 451 (fun c => by have z := hw _ c; simp only [InP] at z; omega)).trans hf⟩
    · obtain ⟨cM, rM, hf1⟩ := q
      obtain ⟨g1, g2, ⟨g3, g4, g5⟩, g6, g7, ⟨g8, g9⟩, i1, i2, i3, i4, i5, i6, i7, i8, i9, j1, j2, j3, j4, j5, j6, j7, j8, j9, k1, k2, k3⟩ := id rM
      refine (p_Mo_times_ok g1 g2 g6 rfl g7 hd0.1 hd0.2).post fun r2 M2 z => ?_
      obtain ⟨ha, hm, hn, hd, kp⟩ := z
      exact ⟨by first | exact ha | rw [ha], sd, ch, [], enc (emul fD (dPt (nB tx 32)) (leN tx 32 % qN)), rec, us, t, C, b, x, 0, cM.kp kp (by decide), ⟨hm, by rw [enc_len]; exact hn, ⟨g3.kp kp (by decide), g4.kp kp (by decide), g5.kp kp (by decide)⟩, (g6.kp kp (by decide)).iq.ia, hd, ⟨g8.kp kp (by decide), g9.kp kp (by decide)⟩, i1.kp kp (by decide), i2.kp kp (by decide), i3.kp kp (by decide), i4.kp kp (by decide), i5.kp kp (by decide), i6.kp kp (by decide), i7.kp kp (by decide), i8.kp kp (by decide), i9.kp kp (by decide), j1.kp kp (by decide), j2.kp kp (by decide), j3.kp kp (by decide), j4.kp kp (by decide), j5.kp kp (by decide), j6.kp kp (by decide), j7.kp kp (by decide), j8.kp kp (by decide), j9.kp kp (by decide), k1.kp kp (by decide), k2.kp kp (by decide), k3.kp kp (by decide)⟩, hi, hv, f, (kp 451 (by decide)).trans hf1⟩
  ·
    refine ⟨(-1), fun M1 => CSt M1 sd ch ([]) rs rec us t C b x ∧ RSt M1 sd ch tx rs rec us t C b x th ∧ M1[451]? = some (.inl (0, 1, .inr (.inl f))), fun M1 q => q.2.1.mo, (y_PG_times_no h1 h2 h6 h7 hd0).post fun r1 M1 q => ?_, fun M1 q => ?_⟩
    · obtain ⟨ha, hk, hb, hd, kr⟩ := q
      obtain ⟨W, kw, hw⟩ := kr
      exact ⟨by first | exact ha | rw [ha], ⟨h1.kp kw (fun c => by have z := hw _ c; simp only [InP] at z; omega) (fun c => by have z := hw _ c; simp only [InP] at z; omega), hk, h3.kp kw (fun q hq => by have z := hw q hq; simp only [InP] at z; omega), h4.kp kw (fun q hq => by have z := hw q hq; simp only [InP] at z; omega), h5.kp kw (fun c => by have z := hw _ c; simp only [InP] at z; omega) (fun c => by have z := hw _ c; simp only [InP] at z; omega) (fun c => by have z := hw _ c; simp only [InP] at z; omega) (fun c => by have z := hw _ c; simp only [InP] at z; omega), hb, hd, fun u hu => (h8 u hu).kp kw (fun c => by have z := hw _ c; simp only [InP] at z; omega) (fun c => by have z := hw _ c; simp only [InP] at z; omega), fun s hs => (h9 s hs).kp kw (fun q hq => by have z := hw q hq; simp only [InP] at z; omega)⟩, hr.kp kw (fun q hq => by have z := hw q hq; simp only [InP] at z; omega), (kw 451 (fun c => by have z := hw _ c; simp only [InP] at z; omega)).trans hf⟩
    · obtain ⟨cM, rM, hf1⟩ := q
      obtain ⟨g1, g2, ⟨g3, g4, g5⟩, g6, g7, ⟨g8, g9⟩, i1, i2, i3, i4, i5, i6, i7, i8, i9, j1, j2, j3, j4, j5, j6, j7, j8, j9, k1, k2, k3⟩ := id rM
      refine (p_Mo_times_no g1 g2 g6 rfl g7 hd0).post fun r2 M2 z => ?_
      obtain ⟨ha, hm, hn, hd, kp⟩ := z
      exact ⟨by first | exact ha | rw [ha], sd, ch, [], rs, rec, us, t, C, b, x, 0, cM.kp kp (by decide), ⟨hm, hn, ⟨g3.kp kp (by decide), g4.kp kp (by decide), g5.kp kp (by decide)⟩, (g6.kp kp (by decide)).iq.ia, hd, ⟨g8.kp kp (by decide), g9.kp kp (by decide)⟩, i1.kp kp (by decide), i2.kp kp (by decide), i3.kp kp (by decide), i4.kp kp (by decide), i5.kp kp (by decide), i6.kp kp (by decide), i7.kp kp (by decide), i8.kp kp (by decide), i9.kp kp (by decide), j1.kp kp (by decide), j2.kp kp (by decide), j3.kp kp (by decide), j4.kp kp (by decide), j5.kp kp (by decide), j6.kp kp (by decide), j7.kp kp (by decide), j8.kp kp (by decide), j9.kp kp (by decide), k1.kp kp (by decide), k2.kp kp (by decide), k3.kp kp (by decide)⟩, hi, hv, f, (kp 451 (by decide)).trans hf1⟩
theorem ph_valF (a : Fp) : ph ((a.val : Nat) : Int) = a := by
  have h := ph_val ((a.val : Nat) : Int)
  have l : ((a.val : Nat) : Int) % pP = ((a.val : Nat) : Int) := by
    have := a.isLt
    exact Int.emod_eq_of_lt (by omega) (by have e : (pN : Int) = pP := by decide +kernel
                                           omega)
  exact Fin.ext (Int.ofNat.inj (h.trans l))
theorem nB_lbF (a : Fp) : nB (lbF a) 0 = ((a.val : Nat) : Int) := by
  unfold nB
  have hp : ((a.val : Nat) : Int) < 2 ^ 256 := by
    have := a.isLt
    have e : pN < 2 ^ 256 := by decide +kernel
    omega
  rw [← num32_dig (Y := ((a.val : Nat) : Int)) (by omega) hp]
  apply num32_congr
  intro k hk
  rw [Nat.zero_add, lbF_gd hk]
  have e : (UInt8.ofNat (byF a k)).toNat = byF a k := Nat.mod_eq_of_lt (byF_lt a k)
  rw [e]
  unfold byF
  rw [Int.natCast_emod, Int.natCast_ediv, Int.natCast_pow]
  rfl
theorem dec_enc {P : Fp × Fp} (h : qOK (cP P)) (ho : ¬ od (cP P)) : dec (nB (enc P) 0) := by
  unfold enc
  rw [nB_lbF]
  refine ⟨?_, by rw [ph_valF]; exact ho, by rw [ph_valF]; exact h⟩
  have l := (cP P).isLt
  have e : (pN : Int) = pP := by decide +kernel
  have e2 : pP < n255 := by decide +kernel
  have l2 : (((cP P).val : Nat) : Int) < pP := by omega
  have r1 : (((cP P).val : Nat) : Int) % n255 = (((cP P).val : Nat) : Int) := Int.emod_eq_of_lt (by omega) (by omega)
  rw [r1]
  exact Int.emod_eq_of_lt (by omega) l2
theorem cP_ev (P : Fp × Fp) : ¬ od (cP P) := by unfold cP cF; exact ab_ev _
theorem dec_pub (x : Nat) : dec (nB (pub x) 0) := by
  refine dec_enc ?_ (cP_ev _)
  exact base_ok (n := x) (pj_pl' (emul fD (bX, bY) x).1 (emul fD (bX, bY) x).2)
theorem nB_pre {l m : List UInt8} (h : ∀ i, i < 32 → gd m i = gd l (0 + i)) : nB l 0 = nB m 0 := by
  unfold nB
  apply num32_congr
  intro k hk
  rw [← h k hk, Nat.zero_add]
theorem dec_rec (sd : Int32) (R n : List UInt8) : dec (nB (recN sd R n) 0) := by rw [nB_pre (fun i hi => recN_0 sd R n i hi)]; exact dec_pub _
theorem dec_mkU (sd : Int32) (ch : Nat) : dec (nB (mkU sd ch) 0) := by rw [nB_pre (fun i hi => mkU_0 sd ch i hi)]; exact dec_pub _
theorem qN_256 : qN < 256 ^ 32 := by decide
theorem recS_e (sd : Int32) (ch u : Nat) (lt : List UInt8) : recS sd ch u lt = recN sd (sec8 lt (emul fD (grp lt) (usK sd u))) (sl (chance sd (nI ch)) 0 32) := by
  unfold recS
  have hu : usK sd u < 256 ^ 32 := Nat.lt_trans (keyN_lt _ _) qN_256
  rw [leN_lbN (Nat.le_refl 32), Nat.mod_eq_of_lt hu]
theorem inv_e {b : Nat} (h : b < qN) : leN (lbN ((leN (lbN b) 32 % qN) ^ (qN - 2) % qN)) 32 = b ^ (qN - 2) % qN := by
  rw [leN_lbN (Nat.le_refl 32), leN_lbN (Nat.le_refl 32), Nat.mod_eq_of_lt (Nat.lt_trans h qN_256), Nat.mod_eq_of_lt h, Nat.mod_eq_of_lt (Nat.lt_trans (Nat.mod_lt _ (by decide)) qN_256)]
theorem ne_len {l : List UInt8} {n : Nat} (h : l.length = n) (hn : 0 < n) : ne8 l = true := by
  unfold ne8; rw [decide_eq_true_iff]; intro c; rw [c] at h; exact absurd h (by rw [List.length_nil]; omega)
theorem ne_t {l : List UInt8} (h : ne8 l = true) : l ≠ [] := of_decide_eq_true h
theorem upf_T (f : Nat → List UInt8) (s : Nat) (l : List UInt8) : updT f s l = upf f s l := rfl
set_option maxHeartbeats 8000000 in
theorem rl_enroll (G : GX) {M : List va_E} (h : RL M) (y : Int32) : PRm G mi_PG_enroll mi_Mo_enroll [.int y] M := by
  obtain ⟨sd, ch, tx, rs, rec, us, t, C, b, x, th, hc0, hr, hi, hv, f, hf⟩ := h
  obtain ⟨h1, h2, h3, h4, h5, h6, h7, h8, h9⟩ := id hc0
  have lt := h6.2.le
  rcases ix_3 y (n := 8) (by decide) with hy | ⟨hy0, hy⟩ | ⟨u, hu, rfl⟩
  ·
    refine ⟨(-1), fun M1 => CSt M1 sd ch ([]) rs rec us t C b x ∧ RSt M1 sd ch tx rs rec us t C b x th ∧ M1[451]? = some (.inl (0, 1, .inr (.inl f))), fun M1 q => q.2.1.mo, (y_PG_enroll_neg hy h1 h6).post fun r1 M1 q => ?_, fun M1 q => ?_⟩
    · obtain ⟨ha, hb, kr⟩ := q
      obtain ⟨W, kw, hw⟩ := kr
      exact ⟨by first | exact ha | rw [ha], ⟨h1.kp kw (fun c => by have z := hw _ c; simp only [InT] at z; omega) (fun c => by have z := hw _ c; simp only [InT] at z; omega), h2.kp kw (fun q hq => by have z := hw q hq; simp only [InT] at z; omega), h3.kp kw (fun q hq => by have z := hw q hq; simp only [InT] at z; omega), h4.kp kw (fun q hq => by have z := hw q hq; simp only [InT] at z; omega), h5.kp kw (fun c => by have z := hw _ c; simp only [InT] at z; omega) (fun c => by have z := hw _ c; simp only [InT] at z; omega) (fun c => by have z := hw _ c; simp only [InT] at z; omega) (fun c => by have z := hw _ c; simp only [InT] at z; omega), hb, h7.kp kw (fun c => by have z := hw _ c; simp only [InT] at z; omega) (fun c => by have z := hw _ c; simp only [InT] at z; omega), fun u hu => (h8 u hu).kp kw (fun c => by have z := hw _ c; simp only [InT] at z; omega) (fun c => by have z := hw _ c; simp only [InT] at z; omega), fun s hs => (h9 s hs).kp kw (fun q hq => by have z := hw q hq; simp only [InT] at z; omega)⟩, hr.kp kw (fun q hq => by have z := hw q hq; simp only [InT] at z; omega), (kw 451 (fun c => by have z := hw _ c; simp only [InT] at z; omega)).trans hf⟩
    · obtain ⟨cM, rM, hf1⟩ := q
      obtain ⟨g1, g2, ⟨g3, g4, g5⟩, g6, g7, ⟨g8, g9⟩, i1, i2, i3, i4, i5, i6, i7, i8, i9, j1, j2, j3, j4, j5, j6, j7, j8, j9, k1, k2, k3⟩ := id rM
      refine (p_Mo_enroll_neg g2 hy).post fun r2 M2 z => ?_
      obtain ⟨ha, hn, kp⟩ := z
      exact ⟨by first | exact ha | rw [ha], sd, ch, [], rs, rec, us, t, C, b, x, 0, cM.kp kp (by decide), ⟨g1.kp kp (by decide), hn, ⟨g3.kp kp (by decide), g4.kp kp (by decide), g5.kp kp (by decide)⟩, (g6.kp kp (by decide)).iq.ia, g7.kp kp (by decide), ⟨g8.kp kp (by decide), g9.kp kp (by decide)⟩, i1.kp kp (by decide), i2.kp kp (by decide), i3.kp kp (by decide), i4.kp kp (by decide), i5.kp kp (by decide), i6.kp kp (by decide), i7.kp kp (by decide), i8.kp kp (by decide), i9.kp kp (by decide), j1.kp kp (by decide), j2.kp kp (by decide), j3.kp kp (by decide), j4.kp kp (by decide), j5.kp kp (by decide), j6.kp kp (by decide), j7.kp kp (by decide), j8.kp kp (by decide), j9.kp kp (by decide), k1.kp kp (by decide), k2.kp kp (by decide), k3.kp kp (by decide)⟩, hi, hv, f, (kp 451 (by decide)).trans hf1⟩
  ·
    refine ⟨(-1), fun M1 => CSt M1 sd ch ([]) rs rec us t C b x ∧ RSt M1 sd ch tx rs rec us t C b x th ∧ M1[451]? = some (.inl (0, 1, .inr (.inl f))), fun M1 q => q.2.1.mo, (y_PG_enroll_big hy0 hy h1 h6).post fun r1 M1 q => ?_, fun M1 q => ?_⟩
    · obtain ⟨ha, hb, kr⟩ := q
      obtain ⟨W, kw, hw⟩ := kr
      exact ⟨by first | exact ha | rw [ha], ⟨h1.kp kw (fun c => by have z := hw _ c; simp only [InT] at z; omega) (fun c => by have z := hw _ c; simp only [InT] at z; omega), h2.kp kw (fun q hq => by have z := hw q hq; simp only [InT] at z; omega), h3.kp kw (fun q hq => by have z := hw q hq; simp only [InT] at z; omega), h4.kp kw (fun q hq => by have z := hw q hq; simp only [InT] at z; omega), h5.kp kw (fun c => by have z := hw _ c; simp only [InT] at z; omega) (fun c => by have z := hw _ c; simp only [InT] at z; omega) (fun c => by have z := hw _ c; simp only [InT] at z; omega) (fun c => by have z := hw _ c; simp only [InT] at z; omega), hb, h7.kp kw (fun c => by have z := hw _ c; simp only [InT] at z; omega) (fun c => by have z := hw _ c; simp only [InT] at z; omega), fun u hu => (h8 u hu).kp kw (fun c => by have z := hw _ c; simp only [InT] at z; omega) (fun c => by have z := hw _ c; simp only [InT] at z; omega), fun s hs => (h9 s hs).kp kw (fun q hq => by have z := hw q hq; simp only [InT] at z; omega)⟩, hr.kp kw (fun q hq => by have z := hw q hq; simp only [InT] at z; omega), (kw 451 (fun c => by have z := hw _ c; simp only [InT] at z; omega)).trans hf⟩
    · obtain ⟨cM, rM, hf1⟩ := q
      obtain ⟨g1, g2, ⟨g3, g4, g5⟩, g6, g7, ⟨g8, g9⟩, i1, i2, i3, i4, i5, i6, i7, i8, i9, j1, j2, j3, j4, j5, j6, j7, j8, j9, k1, k2, k3⟩ := id rM
      refine (p_Mo_enroll_big g2 hy0 hy).post fun r2 M2 z => ?_
      obtain ⟨ha, hn, kp⟩ := z
      exact ⟨by first | exact ha | rw [ha], sd, ch, [], rs, rec, us, t, C, b, x, 0, cM.kp kp (by decide), ⟨g1.kp kp (by decide), hn, ⟨g3.kp kp (by decide), g4.kp kp (by decide), g5.kp kp (by decide)⟩, (g6.kp kp (by decide)).iq.ia, g7.kp kp (by decide), ⟨g8.kp kp (by decide), g9.kp kp (by decide)⟩, i1.kp kp (by decide), i2.kp kp (by decide), i3.kp kp (by decide), i4.kp kp (by decide), i5.kp kp (by decide), i6.kp kp (by decide), i7.kp kp (by decide), i8.kp kp (by decide), i9.kp kp (by decide), j1.kp kp (by decide), j2.kp kp (by decide), j3.kp kp (by decide), j4.kp kp (by decide), j5.kp kp (by decide), j6.kp kp (by decide), j7.kp kp (by decide), j8.kp kp (by decide), j9.kp kp (by decide), k1.kp kp (by decide), k2.kp kp (by decide), k3.kp kp (by decide)⟩, hi, hv, f, (kp 451 (by decide)).trans hf1⟩
  ·
    refine ⟨(nI 0), fun M1 => CSt M1 sd (ch + 1) ([]) rs (upf rec u (recS sd ch u tx)) us t C b x ∧ RSt M1 sd ch tx rs rec us t C b x th ∧ M1[451]? = some (.inl (0, 1, .inr (.inl f))), fun M1 q => q.2.1.mo, (y_PG_enroll_in hu h1 h2 h4 h5 h6 (h8 u hu)).post fun r1 M1 q => ?_, fun M1 q => ?_⟩
    · obtain ⟨ha, hk, hs, ho, hrc, hb, kr⟩ := q
      obtain ⟨W, kw, hw⟩ := kr
      exact ⟨by first | exact ha | rw [ha], ⟨h1.kp kw (fun c => by have z := hw _ c; simp only [InE, InG] at z; omega) (fun c => by have z := hw _ c; simp only [InE, InG] at z; omega), hk, h3.kp kw (fun q hq => by have z := hw q hq; simp only [InE, InG] at z; omega), hs, Or.inl ho, hb, h7.kp kw (fun c => by have z := hw _ c; simp only [InE, InG] at z; omega) (fun c => by have z := hw _ c; simp only [InE, InG] at z; omega), fun u2 hu2 => by
        by_cases e : u2 = u
        · subst e; rw [upf_s]; exact hrc
        · rw [upf_n e]; exact (h8 u2 hu2).kp kw (fun c => by have z := hw _ c; simp only [InE, InG] at z; omega) (fun c => by have z := hw _ c; simp only [InE, InG] at z; omega), fun s hs => (h9 s hs).kp kw (fun q hq => by have z := hw q hq; simp only [InE, InG] at z; omega)⟩, hr.kp kw (fun q hq => by have z := hw q hq; simp only [InE, InG] at z; omega), (kw 451 (fun c => by have z := hw _ c; simp only [InE, InG] at z; omega)).trans hf⟩
    · obtain ⟨cM, rM, hf1⟩ := q
      obtain ⟨g1, g2, ⟨g3, g4, g5⟩, g6, g7, ⟨g8, g9⟩, i1, i2, i3, i4, i5, i6, i7, i8, i9, j1, j2, j3, j4, j5, j6, j7, j8, j9, k1, k2, k3⟩ := id rM
      refine (p_Mo_enroll hu g1 g2 g6 rfl g3 g5 g8 g9).post fun r2 M2 z => ?_
      obtain ⟨ha, hm, hn, hz, hs, kp⟩ := z
      exact ⟨by first | exact ha | rw [ha], sd, ch + 1, [], rs, upf rec u (recS sd ch u tx), us, t, C, b, x, 0, cM.kp kp (by decide), ⟨hm, hn, ⟨g3.kp kp (by decide), g4.kp kp (by decide), g5.kp kp (by decide)⟩, (g6.kp kp (by decide)).iq.ia, g7.kp kp (by decide), ⟨hz.mo (fun j hj => by unfold upf updB; by_cases e : j = u; rw [if_pos e, if_pos e]; exact ne_len (recS_len sd ch u tx) (by decide); rw [if_neg e, if_neg e]), by rw [recS_e]; exact hs⟩, i1.kp kp (by decide), i2.kp kp (by decide), i3.kp kp (by decide), i4.kp kp (by decide), i5.kp kp (by decide), i6.kp kp (by decide), i7.kp kp (by decide), i8.kp kp (by decide), i9.kp kp (by decide), j1.kp kp (by decide), j2.kp kp (by decide), j3.kp kp (by decide), j4.kp kp (by decide), j5.kp kp (by decide), j6.kp kp (by decide), j7.kp kp (by decide), j8.kp kp (by decide), j9.kp kp (by decide), k1.kp kp (by decide), k2.kp kp (by decide), k3.kp kp (by decide)⟩, hi, (fun u2 hu2 => by by_cases e : u2 = u; subst e; rw [upf_s]; exact Or.inr ⟨recS_len _ _ _ _, by rw [recS_e]; exact dec_rec _ _ _⟩; rw [upf_n e]; exact hv u2 hu2), f, (kp 451 (by decide)).trans hf1⟩
set_option maxHeartbeats 8000000 in
theorem rl_begin (G : GX) {M : List va_E} (h : RL M) (y : Int32) (z : Int32) : PRm G mi_PG_begin mi_Mo_begin [.int y, .int z] M := by
  obtain ⟨sd, ch, tx, rs, rec, us, t, C, b, x, th, hc0, hr, hi, hv, f, hf⟩ := h
  obtain ⟨h1, h2, h3, h4, h5, h6, h7, h8, h9⟩ := id hc0
  have lt := h6.2.le
  rcases ix_3 y (n := 4) (by decide) with hy | ⟨hy0, hy⟩ | ⟨s, hs, rfl⟩
  ·
    refine ⟨(-1), fun M1 => CSt M1 sd ch ([]) rs rec us t C b x ∧ RSt M1 sd ch tx rs rec us t C b x th ∧ M1[451]? = some (.inl (0, 1, .inr (.inl f))), fun M1 q => q.2.1.mo, (y_PG_begin_sneg hy h1 h6).post fun r1 M1 q => ?_, fun M1 q => ?_⟩
    · obtain ⟨ha, hb, kr⟩ := q
      obtain ⟨W, kw, hw⟩ := kr
      exact ⟨by first | exact ha | rw [ha], ⟨h1.kp kw (fun c => by have z := hw _ c; simp only [InT] at z; omega) (fun c => by have z := hw _ c; simp only [InT] at z; omega), h2.kp kw (fun q hq => by have z := hw q hq; simp only [InT] at z; omega), h3.kp kw (fun q hq => by have z := hw q hq; simp only [InT] at z; omega), h4.kp kw (fun q hq => by have z := hw q hq; simp only [InT] at z; omega), h5.kp kw (fun c => by have z := hw _ c; simp only [InT] at z; omega) (fun c => by have z := hw _ c; simp only [InT] at z; omega) (fun c => by have z := hw _ c; simp only [InT] at z; omega) (fun c => by have z := hw _ c; simp only [InT] at z; omega), hb, h7.kp kw (fun c => by have z := hw _ c; simp only [InT] at z; omega) (fun c => by have z := hw _ c; simp only [InT] at z; omega), fun u hu => (h8 u hu).kp kw (fun c => by have z := hw _ c; simp only [InT] at z; omega) (fun c => by have z := hw _ c; simp only [InT] at z; omega), fun s hs => (h9 s hs).kp kw (fun q hq => by have z := hw q hq; simp only [InT] at z; omega)⟩, hr.kp kw (fun q hq => by have z := hw q hq; simp only [InT] at z; omega), (kw 451 (fun c => by have z := hw _ c; simp only [InT] at z; omega)).trans hf⟩
    · obtain ⟨cM, rM, hf1⟩ := q
      obtain ⟨g1, g2, ⟨g3, g4, g5⟩, g6, g7, ⟨g8, g9⟩, i1, i2, i3, i4, i5, i6, i7, i8, i9, j1, j2, j3, j4, j5, j6, j7, j8, j9, k1, k2, k3⟩ := id rM
      refine (p_Mo_begin_sneg g2 hy).post fun r2 M2 z => ?_
      obtain ⟨ha, hn, kp⟩ := z
      exact ⟨by first | exact ha | rw [ha], sd, ch, [], rs, rec, us, t, C, b, x, 0, cM.kp kp (by decide), ⟨g1.kp kp (by decide), hn, ⟨g3.kp kp (by decide), g4.kp kp (by decide), g5.kp kp (by decide)⟩, (g6.kp kp (by decide)).iq.ia, g7.kp kp (by decide), ⟨g8.kp kp (by decide), g9.kp kp (by decide)⟩, i1.kp kp (by decide), i2.kp kp (by decide), i3.kp kp (by decide), i4.kp kp (by decide), i5.kp kp (by decide), i6.kp kp (by decide), i7.kp kp (by decide), i8.kp kp (by decide), i9.kp kp (by decide), j1.kp kp (by decide), j2.kp kp (by decide), j3.kp kp (by decide), j4.kp kp (by decide), j5.kp kp (by decide), j6.kp kp (by decide), j7.kp kp (by decide), j8.kp kp (by decide), j9.kp kp (by decide), k1.kp kp (by decide), k2.kp kp (by decide), k3.kp kp (by decide)⟩, hi, hv, f, (kp 451 (by decide)).trans hf1⟩
  ·
    refine ⟨(-1), fun M1 => CSt M1 sd ch ([]) rs rec us t C b x ∧ RSt M1 sd ch tx rs rec us t C b x th ∧ M1[451]? = some (.inl (0, 1, .inr (.inl f))), fun M1 q => q.2.1.mo, (y_PG_begin_sbig hy0 hy h1 h6).post fun r1 M1 q => ?_, fun M1 q => ?_⟩
    · obtain ⟨ha, hb, kr⟩ := q
      obtain ⟨W, kw, hw⟩ := kr
      exact ⟨by first | exact ha | rw [ha], ⟨h1.kp kw (fun c => by have z := hw _ c; simp only [InT] at z; omega) (fun c => by have z := hw _ c; simp only [InT] at z; omega), h2.kp kw (fun q hq => by have z := hw q hq; simp only [InT] at z; omega), h3.kp kw (fun q hq => by have z := hw q hq; simp only [InT] at z; omega), h4.kp kw (fun q hq => by have z := hw q hq; simp only [InT] at z; omega), h5.kp kw (fun c => by have z := hw _ c; simp only [InT] at z; omega) (fun c => by have z := hw _ c; simp only [InT] at z; omega) (fun c => by have z := hw _ c; simp only [InT] at z; omega) (fun c => by have z := hw _ c; simp only [InT] at z; omega), hb, h7.kp kw (fun c => by have z := hw _ c; simp only [InT] at z; omega) (fun c => by have z := hw _ c; simp only [InT] at z; omega), fun u hu => (h8 u hu).kp kw (fun c => by have z := hw _ c; simp only [InT] at z; omega) (fun c => by have z := hw _ c; simp only [InT] at z; omega), fun s hs => (h9 s hs).kp kw (fun q hq => by have z := hw q hq; simp only [InT] at z; omega)⟩, hr.kp kw (fun q hq => by have z := hw q hq; simp only [InT] at z; omega), (kw 451 (fun c => by have z := hw _ c; simp only [InT] at z; omega)).trans hf⟩
    · obtain ⟨cM, rM, hf1⟩ := q
      obtain ⟨g1, g2, ⟨g3, g4, g5⟩, g6, g7, ⟨g8, g9⟩, i1, i2, i3, i4, i5, i6, i7, i8, i9, j1, j2, j3, j4, j5, j6, j7, j8, j9, k1, k2, k3⟩ := id rM
      refine (p_Mo_begin_sbig g2 hy0 hy).post fun r2 M2 z => ?_
      obtain ⟨ha, hn, kp⟩ := z
      exact ⟨by first | exact ha | rw [ha], sd, ch, [], rs, rec, us, t, C, b, x, 0, cM.kp kp (by decide), ⟨g1.kp kp (by decide), hn, ⟨g3.kp kp (by decide), g4.kp kp (by decide), g5.kp kp (by decide)⟩, (g6.kp kp (by decide)).iq.ia, g7.kp kp (by decide), ⟨g8.kp kp (by decide), g9.kp kp (by decide)⟩, i1.kp kp (by decide), i2.kp kp (by decide), i3.kp kp (by decide), i4.kp kp (by decide), i5.kp kp (by decide), i6.kp kp (by decide), i7.kp kp (by decide), i8.kp kp (by decide), i9.kp kp (by decide), j1.kp kp (by decide), j2.kp kp (by decide), j3.kp kp (by decide), j4.kp kp (by decide), j5.kp kp (by decide), j6.kp kp (by decide), j7.kp kp (by decide), j8.kp kp (by decide), j9.kp kp (by decide), k1.kp kp (by decide), k2.kp kp (by decide), k3.kp kp (by decide)⟩, hi, hv, f, (kp 451 (by decide)).trans hf1⟩
  · rcases ix_3 z (n := 8) (by decide) with hz | ⟨hz0, hz⟩ | ⟨u, hu, rfl⟩
    ·
      refine ⟨(-1), fun M1 => CSt M1 sd ch ([]) rs rec us t C b x ∧ RSt M1 sd ch tx rs rec us t C b x th ∧ M1[451]? = some (.inl (0, 1, .inr (.inl f))), fun M1 q => q.2.1.mo, (y_PG_begin_uneg hs hz h1 h6).post fun r1 M1 q => ?_, fun M1 q => ?_⟩
      · obtain ⟨ha, hb, kr⟩ := q
        obtain ⟨W, kw, hw⟩ := kr
        exact ⟨by first | exact ha | rw [ha], ⟨h1.kp kw (fun c => by have z := hw _ c; simp only [InT] at z; omega) (fun c => by have z := hw _ c; simp only [InT] at z; omega), h2.kp kw (fun q hq => by have z := hw q hq; simp only [InT] at z; omega), h3.kp kw (fun q hq => by have z := hw q hq; simp only [InT] at z; omega), h4.kp kw (fun q hq => by have z := hw q hq; simp only [InT] at z; omega), h5.kp kw (fun c => by have z := hw _ c; simp only [InT] at z; omega) (fun c => by have z := hw _ c; simp only [InT] at z; omega) (fun c => by have z := hw _ c; simp only [InT] at z; omega) (fun c => by have z := hw _ c; simp only [InT] at z; omega), hb, h7.kp kw (fun c => by have z := hw _ c; simp only [InT] at z; omega) (fun c => by have z := hw _ c; simp only [InT] at z; omega), fun u hu => (h8 u hu).kp kw (fun c => by have z := hw _ c; simp only [InT] at z; omega) (fun c => by have z := hw _ c; simp only [InT] at z; omega), fun s hs => (h9 s hs).kp kw (fun q hq => by have z := hw q hq; simp only [InT] at z; omega)⟩, hr.kp kw (fun q hq => by have z := hw q hq; simp only [InT] at z; omega), (kw 451 (fun c => by have z := hw _ c; simp only [InT] at z; omega)).trans hf⟩
      · obtain ⟨cM, rM, hf1⟩ := q
        obtain ⟨g1, g2, ⟨g3, g4, g5⟩, g6, g7, ⟨g8, g9⟩, i1, i2, i3, i4, i5, i6, i7, i8, i9, j1, j2, j3, j4, j5, j6, j7, j8, j9, k1, k2, k3⟩ := id rM
        refine (p_Mo_begin_uneg g2 hs hz).post fun r2 M2 z => ?_
        obtain ⟨ha, hn, kp⟩ := z
        exact ⟨by first | exact ha | rw [ha], sd, ch, [], rs, rec, us, t, C, b, x, 0, cM.kp kp (by decide), ⟨g1.kp kp (by decide), hn, ⟨g3.kp kp (by decide), g4.kp kp (by decide), g5.kp kp (by decide)⟩, (g6.kp kp (by decide)).iq.ia, g7.kp kp (by decide), ⟨g8.kp kp (by decide), g9.kp kp (by decide)⟩, i1.kp kp (by decide), i2.kp kp (by decide), i3.kp kp (by decide), i4.kp kp (by decide), i5.kp kp (by decide), i6.kp kp (by decide), i7.kp kp (by decide), i8.kp kp (by decide), i9.kp kp (by decide), j1.kp kp (by decide), j2.kp kp (by decide), j3.kp kp (by decide), j4.kp kp (by decide), j5.kp kp (by decide), j6.kp kp (by decide), j7.kp kp (by decide), j8.kp kp (by decide), j9.kp kp (by decide), k1.kp kp (by decide), k2.kp kp (by decide), k3.kp kp (by decide)⟩, hi, hv, f, (kp 451 (by decide)).trans hf1⟩
    ·
      refine ⟨(-1), fun M1 => CSt M1 sd ch ([]) rs rec us t C b x ∧ RSt M1 sd ch tx rs rec us t C b x th ∧ M1[451]? = some (.inl (0, 1, .inr (.inl f))), fun M1 q => q.2.1.mo, (y_PG_begin_ubig hs hz0 hz h1 h6).post fun r1 M1 q => ?_, fun M1 q => ?_⟩
      · obtain ⟨ha, hb, kr⟩ := q
        obtain ⟨W, kw, hw⟩ := kr
        exact ⟨by first | exact ha | rw [ha], ⟨h1.kp kw (fun c => by have z := hw _ c; simp only [InT] at z; omega) (fun c => by have z := hw _ c; simp only [InT] at z; omega), h2.kp kw (fun q hq => by have z := hw q hq; simp only [InT] at z; omega), h3.kp kw (fun q hq => by have z := hw q hq; simp only [InT] at z; omega), h4.kp kw (fun q hq => by have z := hw q hq; simp only [InT] at z; omega), h5.kp kw (fun c => by have z := hw _ c; simp only [InT] at z; omega) (fun c => by have z := hw _ c; simp only [InT] at z; omega) (fun c => by have z := hw _ c; simp only [InT] at z; omega) (fun c => by have z := hw _ c; simp only [InT] at z; omega), hb, h7.kp kw (fun c => by have z := hw _ c; simp only [InT] at z; omega) (fun c => by have z := hw _ c; simp only [InT] at z; omega), fun u hu => (h8 u hu).kp kw (fun c => by have z := hw _ c; simp only [InT] at z; omega) (fun c => by have z := hw _ c; simp only [InT] at z; omega), fun s hs => (h9 s hs).kp kw (fun q hq => by have z := hw q hq; simp only [InT] at z; omega)⟩, hr.kp kw (fun q hq => by have z := hw q hq; simp only [InT] at z; omega), (kw 451 (fun c => by have z := hw _ c; simp only [InT] at z; omega)).trans hf⟩
      · obtain ⟨cM, rM, hf1⟩ := q
        obtain ⟨g1, g2, ⟨g3, g4, g5⟩, g6, g7, ⟨g8, g9⟩, i1, i2, i3, i4, i5, i6, i7, i8, i9, j1, j2, j3, j4, j5, j6, j7, j8, j9, k1, k2, k3⟩ := id rM
        refine (p_Mo_begin_ubig g2 hs hz0 hz).post fun r2 M2 z => ?_
        obtain ⟨ha, hn, kp⟩ := z
        exact ⟨by first | exact ha | rw [ha], sd, ch, [], rs, rec, us, t, C, b, x, 0, cM.kp kp (by decide), ⟨g1.kp kp (by decide), hn, ⟨g3.kp kp (by decide), g4.kp kp (by decide), g5.kp kp (by decide)⟩, (g6.kp kp (by decide)).iq.ia, g7.kp kp (by decide), ⟨g8.kp kp (by decide), g9.kp kp (by decide)⟩, i1.kp kp (by decide), i2.kp kp (by decide), i3.kp kp (by decide), i4.kp kp (by decide), i5.kp kp (by decide), i6.kp kp (by decide), i7.kp kp (by decide), i8.kp kp (by decide), i9.kp kp (by decide), j1.kp kp (by decide), j2.kp kp (by decide), j3.kp kp (by decide), j4.kp kp (by decide), j5.kp kp (by decide), j6.kp kp (by decide), j7.kp kp (by decide), j8.kp kp (by decide), j9.kp kp (by decide), k1.kp kp (by decide), k2.kp kp (by decide), k3.kp kp (by decide)⟩, hi, hv, f, (kp 451 (by decide)).trans hf1⟩
    ·
      refine ⟨(nI 0), fun M1 => CSt M1 sd (ch + 3) ([]) rs rec (upf us s u) (upf t s (fun _ => false)) (upf C s [msg1 sd ch tx, [], [], [], [], [], cg (C s) 6, cg (C s) 7, tx, msg1 sd ch tx]) (upf b s (scal (chance sd (nI ch)))) (upf x s (scal (chance sd (nI (ch + 2))))) ∧ RSt M1 sd ch tx rs rec us t C b x th ∧ M1[451]? = some (.inl (0, 1, .inr (.inl f))), fun M1 q => q.2.1.mo, (y_PG_begin_in hs hu h1 h2 (h9 s hs) h6).post fun r1 M1 q => ?_, fun M1 q => ?_⟩
      · obtain ⟨ha, hk, hse, hb, kr⟩ := q
        obtain ⟨W, kw, hw⟩ := kr
        exact ⟨by first | exact ha | rw [ha], ⟨h1.kp kw (fun c => by have z := hw _ c; simp only [InB, InR] at z; omega) (fun c => by have z := hw _ c; simp only [InB, InR] at z; omega), hk, h3.kp kw (fun q hq => by have z := hw q hq; simp only [InB, InR] at z; omega), h4.kp kw (fun q hq => by have z := hw q hq; simp only [InB, InR] at z; omega), h5.kp kw (fun c => by have z := hw _ c; simp only [InB, InR] at z; omega) (fun c => by have z := hw _ c; simp only [InB, InR] at z; omega) (fun c => by have z := hw _ c; simp only [InB, InR] at z; omega) (fun c => by have z := hw _ c; simp only [InB, InR] at z; omega), hb, h7.kp kw (fun c => by have z := hw _ c; simp only [InB, InR] at z; omega) (fun c => by have z := hw _ c; simp only [InB, InR] at z; omega), fun u hu => (h8 u hu).kp kw (fun c => by have z := hw _ c; simp only [InB, InR] at z; omega) (fun c => by have z := hw _ c; simp only [InB, InR] at z; omega), fun s2 hs2 => by
          by_cases e : s2 = s
          · subst e; simp only [upf_s]; exact hse
          · simp only [upf_n e]; exact (h9 s2 hs2).kp kw (fun q hq => by have z := hw q hq; simp only [InB, InR] at z; omega)⟩, hr.kp kw (fun q hq => by have z := hw q hq; simp only [InB, InR] at z; omega), (kw 451 (fun c => by have z := hw _ c; simp only [InB, InR] at z; omega)).trans hf⟩
      · obtain ⟨cM, rM, hf1⟩ := q
        obtain ⟨g1, g2, ⟨g3, g4, g5⟩, g6, g7, ⟨g8, g9⟩, i1, i2, i3, i4, i5, i6, i7, i8, i9, j1, j2, j3, j4, j5, j6, j7, j8, j9, k1, k2, k3⟩ := id rM
        refine (p_Mo_begin hs hu g1 g2 g6 rfl i1 i3 i2 i6 i7 i8 i9 j1 j2 j3 j4 i4 i5 j5 j6).post fun r2 M2 z => ?_
        obtain ⟨ha, hm, hn, q19, q21, q20, q24, q25, q26, q27, q28, q29, q30, q31, q22, q23, q32, q33, kp⟩ := z
        exact ⟨by first | exact ha | rw [ha], sd, ch + 3, [], rs, rec, upf us s u, upf t s (fun _ => false), upf C s [msg1 sd ch tx, [], [], [], [], [], cg (C s) 6, cg (C s) 7, tx, msg1 sd ch tx], upf b s (scal (chance sd (nI ch))), upf x s (scal (chance sd (nI (ch + 2)))), 0, cM.kp kp (by decide), ⟨hm, hn, ⟨g3.kp kp (by decide), g4.kp kp (by decide), g5.kp kp (by decide)⟩, (g6.kp kp (by decide)).iq.ia, g7.kp kp (by decide), ⟨g8.kp kp (by decide), g9.kp kp (by decide)⟩, q19, q20.cs rfl, q21.mo (fun j hj => by unfold upf uN; by_cases e : j = s; rw [if_pos e, if_pos e]; rfl; rw [if_neg e, if_neg e]), q22, q23, q24.cs (ne_len (msg1_len sd ch tx) (by decide)), q25.cs rfl, q26.cs rfl, q27.ts rfl, q28.ts rfl, q29.ts rfl, q30.cs rfl, q31.cs rfl, q32.cs rfl, q33.cs rfl, (j7.kp kp (by decide)).kg (Or.inr rfl), (j8.kp kp (by decide)).kg (Or.inr rfl), (j9.kp kp (by decide)).kg (Or.inl rfl), (k1.kp kp (by decide)).kg (Or.inr rfl), (k2.kp kp (by decide)).kg (Or.inl rfl), (k3.kp kp (by decide)).kg (Or.inr rfl)⟩, (fun s2 hs2 => by
          by_cases e : s2 = s
          · subst e; simp only [upf_s]; exact ⟨hu, scal_lt _, scal_lt _, lt, Or.inr ⟨msg1_len _ _ _, msg1_len _ _ _⟩, Or.inl rfl, Or.inl rfl, Or.inl ⟨rfl, rfl⟩, Or.inl rfl, fun _ => ⟨rfl, rfl, rfl⟩, fun _ => ⟨rfl, rfl, rfl⟩, fun _ => rfl⟩
          · simp only [upf_n e]; exact hi s2 hs2), hv, f, (kp 451 (by decide)).trans hf1⟩
set_option maxHeartbeats 8000000 in
theorem rl_accept (G : GX) {M : List va_E} (h : RL M) (y : Int32) : PRm G mi_PG_accept mi_Mo_accept [.int y] M := by
  obtain ⟨sd, ch, tx, rs, rec, us, t, C, b, x, th, hc0, hr, hi, hv, f, hf⟩ := h
  obtain ⟨h1, h2, h3, h4, h5, h6, h7, h8, h9⟩ := id hc0
  rcases ix_3 y (n := 4) (by decide) with hy | ⟨hy0, hy⟩ | ⟨s, hs, rfl⟩
  ·
    refine ⟨(-1), fun M1 => CSt M1 sd ch tx rs rec us t C b x ∧ RSt M1 sd ch tx rs rec us t C b x th ∧ M1[451]? = some (.inl (0, 1, .inr (.inl f))), fun M1 q => q.2.1.mo, (y_PG_accept_neg hy).post fun r1 M1 q => ?_, fun M1 q => ?_⟩
    · obtain ⟨ha, he⟩ := q
      subst he; exact ⟨by first | exact ha | rw [ha], hc0, hr, hf⟩
    · obtain ⟨cM, rM, hf1⟩ := q
      obtain ⟨g1, g2, ⟨g3, g4, g5⟩, g6, g7, ⟨g8, g9⟩, i1, i2, i3, i4, i5, i6, i7, i8, i9, j1, j2, j3, j4, j5, j6, j7, j8, j9, k1, k2, k3⟩ := id rM
      refine (p_Mo_accept_neg g2 hy).post fun r2 M2 z => ?_
      obtain ⟨ha, hn, kp⟩ := z
      exact ⟨by first | exact ha | rw [ha], sd, ch, tx, rs, rec, us, t, C, b, x, 0, cM.kp kp (by decide), ⟨g1.kp kp (by decide), hn, ⟨g3.kp kp (by decide), g4.kp kp (by decide), g5.kp kp (by decide)⟩, g6.kp kp (by decide), g7.kp kp (by decide), ⟨g8.kp kp (by decide), g9.kp kp (by decide)⟩, i1.kp kp (by decide), i2.kp kp (by decide), i3.kp kp (by decide), i4.kp kp (by decide), i5.kp kp (by decide), i6.kp kp (by decide), i7.kp kp (by decide), i8.kp kp (by decide), i9.kp kp (by decide), j1.kp kp (by decide), j2.kp kp (by decide), j3.kp kp (by decide), j4.kp kp (by decide), j5.kp kp (by decide), j6.kp kp (by decide), j7.kp kp (by decide), j8.kp kp (by decide), j9.kp kp (by decide), k1.kp kp (by decide), k2.kp kp (by decide), k3.kp kp (by decide)⟩, hi, hv, f, (kp 451 (by decide)).trans hf1⟩
  ·
    refine ⟨(-1), fun M1 => CSt M1 sd ch tx rs rec us t C b x ∧ RSt M1 sd ch tx rs rec us t C b x th ∧ M1[451]? = some (.inl (0, 1, .inr (.inl f))), fun M1 q => q.2.1.mo, (y_PG_accept_big hy0 hy).post fun r1 M1 q => ?_, fun M1 q => ?_⟩
    · obtain ⟨ha, he⟩ := q
      subst he; exact ⟨by first | exact ha | rw [ha], hc0, hr, hf⟩
    · obtain ⟨cM, rM, hf1⟩ := q
      obtain ⟨g1, g2, ⟨g3, g4, g5⟩, g6, g7, ⟨g8, g9⟩, i1, i2, i3, i4, i5, i6, i7, i8, i9, j1, j2, j3, j4, j5, j6, j7, j8, j9, k1, k2, k3⟩ := id rM
      refine (p_Mo_accept_big g2 hy0 hy).post fun r2 M2 z => ?_
      obtain ⟨ha, hn, kp⟩ := z
      exact ⟨by first | exact ha | rw [ha], sd, ch, tx, rs, rec, us, t, C, b, x, 0, cM.kp kp (by decide), ⟨g1.kp kp (by decide), hn, ⟨g3.kp kp (by decide), g4.kp kp (by decide), g5.kp kp (by decide)⟩, g6.kp kp (by decide), g7.kp kp (by decide), ⟨g8.kp kp (by decide), g9.kp kp (by decide)⟩, i1.kp kp (by decide), i2.kp kp (by decide), i3.kp kp (by decide), i4.kp kp (by decide), i5.kp kp (by decide), i6.kp kp (by decide), i7.kp kp (by decide), i8.kp kp (by decide), i9.kp kp (by decide), j1.kp kp (by decide), j2.kp kp (by decide), j3.kp kp (by decide), j4.kp kp (by decide), j5.kp kp (by decide), j6.kp kp (by decide), j7.kp kp (by decide), j8.kp kp (by decide), j9.kp kp (by decide), k1.kp kp (by decide), k2.kp kp (by decide), k3.kp kp (by decide)⟩, hi, hv, f, (kp 451 (by decide)).trans hf1⟩
  · obtain ⟨v1, v2, v3, v4, v5, v6, v7, v8, v9, va, vb, vc⟩ := hi s hs
    cases hdue : (decide (cg (C s) 2 ≠ []) && !(t s) 2) with
    | false =>
      refine ⟨(nI 2), fun M1 => CSt M1 sd ch tx rs rec us t C b x ∧ RSt M1 sd ch tx rs rec us t C b x th ∧ M1[451]? = some (.inl (0, 1, .inr (.inl f))), fun M1 q => q.2.1.mo, (y_PG_accept_idle hs hdue h1 (h9 s hs)).post fun r1 M1 q => ?_, fun M1 q => ?_⟩
      · obtain ⟨ha, hse, kr⟩ := q
        obtain ⟨W, kw, hw⟩ := kr
        exact ⟨by first | exact ha | rw [ha], ⟨h1.kp kw (fun c => by have z := hw _ c; simp only [InS] at z; omega) (fun c => by have z := hw _ c; simp only [InS] at z; omega), h2.kp kw (fun q hq => by have z := hw q hq; simp only [InS] at z; omega), h3.kp kw (fun q hq => by have z := hw q hq; simp only [InS] at z; omega), h4.kp kw (fun q hq => by have z := hw q hq; simp only [InS] at z; omega), h5.kp kw (fun c => by have z := hw _ c; simp only [InS] at z; omega) (fun c => by have z := hw _ c; simp only [InS] at z; omega) (fun c => by have z := hw _ c; simp only [InS] at z; omega) (fun c => by have z := hw _ c; simp only [InS] at z; omega), h6.kp kw (fun c => by have z := hw _ c; simp only [InS] at z; omega) (fun c => by have z := hw _ c; simp only [InS] at z; omega), h7.kp kw (fun c => by have z := hw _ c; simp only [InS] at z; omega) (fun c => by have z := hw _ c; simp only [InS] at z; omega), fun u hu => (h8 u hu).kp kw (fun c => by have z := hw _ c; simp only [InS] at z; omega) (fun c => by have z := hw _ c; simp only [InS] at z; omega), fun s2 hs2 => by
          by_cases e : s2 = s
          · subst e; exact hse
          · exact (h9 s2 hs2).kp kw (fun q hq => by have z := hw q hq; simp only [InS] at z; omega)⟩, hr.kp kw (fun q hq => by have z := hw q hq; simp only [InS] at z; omega), (kw 451 (fun c => by have z := hw _ c; simp only [InS] at z; omega)).trans hf⟩
      · obtain ⟨cM, rM, hf1⟩ := q
        obtain ⟨g1, g2, ⟨g3, g4, g5⟩, g6, g7, ⟨g8, g9⟩, i1, i2, i3, i4, i5, i6, i7, i8, i9, j1, j2, j3, j4, j5, j6, j7, j8, j9, k1, k2, k3⟩ := id rM
        refine (p_Mo_accept_idle hs hdue g2 i8 j2).post fun r2 M2 z => ?_
        obtain ⟨ha, hn, kp⟩ := z
        exact ⟨by first | exact ha | rw [ha], sd, ch, tx, rs, rec, us, t, C, b, x, 0, cM.kp kp (by decide), ⟨g1.kp kp (by decide), hn, ⟨g3.kp kp (by decide), g4.kp kp (by decide), g5.kp kp (by decide)⟩, g6.kp kp (by decide), g7.kp kp (by decide), ⟨g8.kp kp (by decide), g9.kp kp (by decide)⟩, i1.kp kp (by decide), i2.kp kp (by decide), i3.kp kp (by decide), i4.kp kp (by decide), i5.kp kp (by decide), i6.kp kp (by decide), i7.kp kp (by decide), i8.kp kp (by decide), i9.kp kp (by decide), j1.kp kp (by decide), j2.kp kp (by decide), j3.kp kp (by decide), j4.kp kp (by decide), j5.kp kp (by decide), j6.kp kp (by decide), j7.kp kp (by decide), j8.kp kp (by decide), j9.kp kp (by decide), k1.kp kp (by decide), k2.kp kp (by decide), k3.kp kp (by decide)⟩, hi, hv, f, (kp 451 (by decide)).trans hf1⟩
    | true =>
      obtain ⟨hd1_, hd2_⟩ := Bool.and_eq_true_iff.mp hdue
      have hne := of_decide_eq_true hd1_
      have htf : t s 2 = false := by cases z : t s 2; rfl; rw [z] at hd2_; exact absurd hd2_ (by decide)
      obtain ⟨l2, l6, l7⟩ := v7.resolve_left hne
      by_cases hel : elB (cg (C s) 2) (cg (C s) 6) 0 0 = true
      ·
        refine ⟨(nI 0), fun M1 => CSt M1 sd ch tx rs rec us (upf t s (updB (t s) 2 true)) (upf C s [cg (C s) 0, cg (C s) 1, cg (C s) 2, cg (C s) 3, cg (C s) 7, cg (C s) 5, cg (C s) 6, cg (C s) 7, cg (C s) 8, cg (C s) 9]) b x ∧ RSt M1 sd ch tx rs rec us t C b x th ∧ M1[451]? = some (.inl (0, 1, .inr (.inl f))), fun M1 q => q.2.1.mo, (y_PG_accept_due hs hdue h1 (h9 s hs) l6 l7 (vc htf)).post fun r1 M1 q => ?_, fun M1 q => ?_⟩
        · obtain ⟨ha, hse, kr⟩ := q
          obtain ⟨W, kw, hw⟩ := kr
          exact ⟨by first | exact ha | (rw [ha, if_pos hel]), ⟨h1.kp kw (fun c => by have z := hw _ c; simp only [InS] at z; omega) (fun c => by have z := hw _ c; simp only [InS] at z; omega), h2.kp kw (fun q hq => by have z := hw q hq; simp only [InS] at z; omega), h3.kp kw (fun q hq => by have z := hw q hq; simp only [InS] at z; omega), h4.kp kw (fun q hq => by have z := hw q hq; simp only [InS] at z; omega), h5.kp kw (fun c => by have z := hw _ c; simp only [InS] at z; omega) (fun c => by have z := hw _ c; simp only [InS] at z; omega) (fun c => by have z := hw _ c; simp only [InS] at z; omega) (fun c => by have z := hw _ c; simp only [InS] at z; omega), h6.kp kw (fun c => by have z := hw _ c; simp only [InS] at z; omega) (fun c => by have z := hw _ c; simp only [InS] at z; omega), h7.kp kw (fun c => by have z := hw _ c; simp only [InS] at z; omega) (fun c => by have z := hw _ c; simp only [InS] at z; omega), fun u hu => (h8 u hu).kp kw (fun c => by have z := hw _ c; simp only [InS] at z; omega) (fun c => by have z := hw _ c; simp only [InS] at z; omega), fun s2 hs2 => by
          by_cases e : s2 = s
          · subst e; simp only [upf_s]; exact by rw [if_pos hel] at hse; exact hse
          · simp only [upf_n e]; exact (h9 s2 hs2).kp kw (fun q hq => by have z := hw q hq; simp only [InS] at z; omega)⟩, hr.kp kw (fun q hq => by have z := hw q hq; simp only [InS] at z; omega), (kw 451 (fun c => by have z := hw _ c; simp only [InS] at z; omega)).trans hf⟩
        · obtain ⟨cM, rM, hf1⟩ := q
          obtain ⟨g1, g2, ⟨g3, g4, g5⟩, g6, g7, ⟨g8, g9⟩, i1, i2, i3, i4, i5, i6, i7, i8, i9, j1, j2, j3, j4, j5, j6, j7, j8, j9, k1, k2, k3⟩ := id rM
          refine (p_Mo_accept hs hdue l2 l6 g2 i8 j2 j4 j8 j9).post fun r2 M2 z => ?_
          obtain ⟨ha, hn, q29, q31, q31n, kp⟩ := z
          exact ⟨by first | exact ha | (rw [ha, if_pos hel]), sd, ch, tx, rs, rec, us, upf t s (updB (t s) 2 true), upf C s [cg (C s) 0, cg (C s) 1, cg (C s) 2, cg (C s) 3, cg (C s) 7, cg (C s) 5, cg (C s) 6, cg (C s) 7, cg (C s) 8, cg (C s) 9], b, x, 0, cM.kp kp (by decide), ⟨g1.kp kp (by decide), hn, ⟨g3.kp kp (by decide), g4.kp kp (by decide), g5.kp kp (by decide)⟩, g6.kp kp (by decide), g7.kp kp (by decide), ⟨g8.kp kp (by decide), g9.kp kp (by decide)⟩, i1.kp kp (by decide), (i2.kp kp (by decide)).kg (Or.inl rfl), (i3.kp kp (by decide)).mo (fun j hj => by unfold upf; by_cases e : j = s; rw [if_pos e, e]; rfl; rw [if_neg e]), i4.kp kp (by decide), i5.kp kp (by decide), (i6.kp kp (by decide)).kg rfl, (i7.kp kp (by decide)).kg rfl, (i8.kp kp (by decide)).kg rfl, (i9.kp kp (by decide)).tg rfl, (j1.kp kp (by decide)).tg rfl, q29.ts rfl, (j3.kp kp (by decide)).kg rfl, (q31 hel).cs (ne_len l7 (by decide)), (j5.kp kp (by decide)).kg (Or.inl rfl), (j6.kp kp (by decide)).kg (Or.inl rfl), (j7.kp kp (by decide)).kg (Or.inl rfl), (j8.kp kp (by decide)).kg (Or.inl rfl), (j9.kp kp (by decide)).kg (Or.inl rfl), (k1.kp kp (by decide)).kg (Or.inl rfl), (k2.kp kp (by decide)).kg (Or.inl rfl), (k3.kp kp (by decide)).kg (Or.inl rfl)⟩, (fun s2 hs2 => by
          by_cases e : s2 = s
          · subst e; simp only [upf_s]; exact ⟨v1, v2, v3, v4, v5, v6, v7, v8, Or.inr ⟨rfl, l7⟩, fun c => absurd (va c).2.1 hne, vb, fun c => absurd (c.symm.trans (show updB _ 2 true 2 = true from rfl)) (by decide)⟩
          · simp only [upf_n e]; exact hi s2 hs2), hv, f, (kp 451 (by decide)).trans hf1⟩
      ·
        refine ⟨(nI 5), fun M1 => CSt M1 sd ch tx rs rec us (upf t s (updB (t s) 2 true)) (upf C s [cg (C s) 0, cg (C s) 1, cg (C s) 2, cg (C s) 3, cg (C s) 4, cg (C s) 5, cg (C s) 6, cg (C s) 7, cg (C s) 8, cg (C s) 9]) b x ∧ RSt M1 sd ch tx rs rec us t C b x th ∧ M1[451]? = some (.inl (0, 1, .inr (.inl f))), fun M1 q => q.2.1.mo, (y_PG_accept_due hs hdue h1 (h9 s hs) l6 l7 (vc htf)).post fun r1 M1 q => ?_, fun M1 q => ?_⟩
        · obtain ⟨ha, hse, kr⟩ := q
          obtain ⟨W, kw, hw⟩ := kr
          exact ⟨by first | exact ha | (rw [ha, if_neg hel]), ⟨h1.kp kw (fun c => by have z := hw _ c; simp only [InS] at z; omega) (fun c => by have z := hw _ c; simp only [InS] at z; omega), h2.kp kw (fun q hq => by have z := hw q hq; simp only [InS] at z; omega), h3.kp kw (fun q hq => by have z := hw q hq; simp only [InS] at z; omega), h4.kp kw (fun q hq => by have z := hw q hq; simp only [InS] at z; omega), h5.kp kw (fun c => by have z := hw _ c; simp only [InS] at z; omega) (fun c => by have z := hw _ c; simp only [InS] at z; omega) (fun c => by have z := hw _ c; simp only [InS] at z; omega) (fun c => by have z := hw _ c; simp only [InS] at z; omega), h6.kp kw (fun c => by have z := hw _ c; simp only [InS] at z; omega) (fun c => by have z := hw _ c; simp only [InS] at z; omega), h7.kp kw (fun c => by have z := hw _ c; simp only [InS] at z; omega) (fun c => by have z := hw _ c; simp only [InS] at z; omega), fun u hu => (h8 u hu).kp kw (fun c => by have z := hw _ c; simp only [InS] at z; omega) (fun c => by have z := hw _ c; simp only [InS] at z; omega), fun s2 hs2 => by
          by_cases e : s2 = s
          · subst e; simp only [upf_s]; exact by rw [if_neg hel] at hse; exact hse
          · simp only [upf_n e]; exact (h9 s2 hs2).kp kw (fun q hq => by have z := hw q hq; simp only [InS] at z; omega)⟩, hr.kp kw (fun q hq => by have z := hw q hq; simp only [InS] at z; omega), (kw 451 (fun c => by have z := hw _ c; simp only [InS] at z; omega)).trans hf⟩
        · obtain ⟨cM, rM, hf1⟩ := q
          obtain ⟨g1, g2, ⟨g3, g4, g5⟩, g6, g7, ⟨g8, g9⟩, i1, i2, i3, i4, i5, i6, i7, i8, i9, j1, j2, j3, j4, j5, j6, j7, j8, j9, k1, k2, k3⟩ := id rM
          refine (p_Mo_accept hs hdue l2 l6 g2 i8 j2 j4 j8 j9).post fun r2 M2 z => ?_
          obtain ⟨ha, hn, q29, q31, q31n, kp⟩ := z
          exact ⟨by first | exact ha | (rw [ha, if_neg hel]), sd, ch, tx, rs, rec, us, upf t s (updB (t s) 2 true), upf C s [cg (C s) 0, cg (C s) 1, cg (C s) 2, cg (C s) 3, cg (C s) 4, cg (C s) 5, cg (C s) 6, cg (C s) 7, cg (C s) 8, cg (C s) 9], b, x, 0, cM.kp kp (by decide), ⟨g1.kp kp (by decide), hn, ⟨g3.kp kp (by decide), g4.kp kp (by decide), g5.kp kp (by decide)⟩, g6.kp kp (by decide), g7.kp kp (by decide), ⟨g8.kp kp (by decide), g9.kp kp (by decide)⟩, i1.kp kp (by decide), (i2.kp kp (by decide)).kg (Or.inl rfl), (i3.kp kp (by decide)).mo (fun j hj => by unfold upf; by_cases e : j = s; rw [if_pos e, e]; rfl; rw [if_neg e]), i4.kp kp (by decide), i5.kp kp (by decide), (i6.kp kp (by decide)).kg rfl, (i7.kp kp (by decide)).kg rfl, (i8.kp kp (by decide)).kg rfl, (i9.kp kp (by decide)).tg rfl, (j1.kp kp (by decide)).tg rfl, q29.ts rfl, (j3.kp kp (by decide)).kg rfl, (j4.kp (q31n hel) (by decide)).kg rfl, (j5.kp kp (by decide)).kg (Or.inl rfl), (j6.kp kp (by decide)).kg (Or.inl rfl), (j7.kp kp (by decide)).kg (Or.inl rfl), (j8.kp kp (by decide)).kg (Or.inl rfl), (j9.kp kp (by decide)).kg (Or.inl rfl), (k1.kp kp (by decide)).kg (Or.inl rfl), (k2.kp kp (by decide)).kg (Or.inl rfl), (k3.kp kp (by decide)).kg (Or.inl rfl)⟩, (fun s2 hs2 => by
          by_cases e : s2 = s
          · subst e; simp only [upf_s]; exact ⟨v1, v2, v3, v4, v5, v6, v7, v8, v9, fun c => absurd (va c).2.1 hne, vb, fun c => absurd (c.symm.trans (show updB _ 2 true 2 = true from rfl)) (by decide)⟩
          · simp only [upf_n e]; exact hi s2 hs2), hv, f, (kp 451 (by decide)).trans hf1⟩
set_option maxHeartbeats 8000000 in
theorem rl_answer (G : GX) {M : List va_E} (h : RL M) (y : Int32) : PRm G mi_PG_answer mi_Mo_answer [.int y] M := by
  obtain ⟨sd, ch, tx, rs, rec, us, t, C, b, x, th, hc0, hr, hi, hv, f, hf⟩ := h
  obtain ⟨h1, h2, h3, h4, h5, h6, h7, h8, h9⟩ := id hc0
  rcases ix_3 y (n := 4) (by decide) with hy | ⟨hy0, hy⟩ | ⟨s, hs, rfl⟩
  ·
    refine ⟨(-1), fun M1 => CSt M1 sd ch tx rs rec us t C b x ∧ RSt M1 sd ch tx rs rec us t C b x th ∧ M1[451]? = some (.inl (0, 1, .inr (.inl f))), fun M1 q => q.2.1.mo, (y_PG_answer_neg hy).post fun r1 M1 q => ?_, fun M1 q => ?_⟩
    · obtain ⟨ha, he⟩ := q
      subst he; exact ⟨by first | exact ha | rw [ha], hc0, hr, hf⟩
    · obtain ⟨cM, rM, hf1⟩ := q
      obtain ⟨g1, g2, ⟨g3, g4, g5⟩, g6, g7, ⟨g8, g9⟩, i1, i2, i3, i4, i5, i6, i7, i8, i9, j1, j2, j3, j4, j5, j6, j7, j8, j9, k1, k2, k3⟩ := id rM
      refine (p_Mo_answer_neg g2 hy).post fun r2 M2 z => ?_
      obtain ⟨ha, hn, kp⟩ := z
      exact ⟨by first | exact ha | rw [ha], sd, ch, tx, rs, rec, us, t, C, b, x, 0, cM.kp kp (by decide), ⟨g1.kp kp (by decide), hn, ⟨g3.kp kp (by decide), g4.kp kp (by decide), g5.kp kp (by decide)⟩, g6.kp kp (by decide), g7.kp kp (by decide), ⟨g8.kp kp (by decide), g9.kp kp (by decide)⟩, i1.kp kp (by decide), i2.kp kp (by decide), i3.kp kp (by decide), i4.kp kp (by decide), i5.kp kp (by decide), i6.kp kp (by decide), i7.kp kp (by decide), i8.kp kp (by decide), i9.kp kp (by decide), j1.kp kp (by decide), j2.kp kp (by decide), j3.kp kp (by decide), j4.kp kp (by decide), j5.kp kp (by decide), j6.kp kp (by decide), j7.kp kp (by decide), j8.kp kp (by decide), j9.kp kp (by decide), k1.kp kp (by decide), k2.kp kp (by decide), k3.kp kp (by decide)⟩, hi, hv, f, (kp 451 (by decide)).trans hf1⟩
  ·
    refine ⟨(-1), fun M1 => CSt M1 sd ch tx rs rec us t C b x ∧ RSt M1 sd ch tx rs rec us t C b x th ∧ M1[451]? = some (.inl (0, 1, .inr (.inl f))), fun M1 q => q.2.1.mo, (y_PG_answer_big hy0 hy).post fun r1 M1 q => ?_, fun M1 q => ?_⟩
    · obtain ⟨ha, he⟩ := q
      subst he; exact ⟨by first | exact ha | rw [ha], hc0, hr, hf⟩
    · obtain ⟨cM, rM, hf1⟩ := q
      obtain ⟨g1, g2, ⟨g3, g4, g5⟩, g6, g7, ⟨g8, g9⟩, i1, i2, i3, i4, i5, i6, i7, i8, i9, j1, j2, j3, j4, j5, j6, j7, j8, j9, k1, k2, k3⟩ := id rM
      refine (p_Mo_answer_big g2 hy0 hy).post fun r2 M2 z => ?_
      obtain ⟨ha, hn, kp⟩ := z
      exact ⟨by first | exact ha | rw [ha], sd, ch, tx, rs, rec, us, t, C, b, x, 0, cM.kp kp (by decide), ⟨g1.kp kp (by decide), hn, ⟨g3.kp kp (by decide), g4.kp kp (by decide), g5.kp kp (by decide)⟩, g6.kp kp (by decide), g7.kp kp (by decide), ⟨g8.kp kp (by decide), g9.kp kp (by decide)⟩, i1.kp kp (by decide), i2.kp kp (by decide), i3.kp kp (by decide), i4.kp kp (by decide), i5.kp kp (by decide), i6.kp kp (by decide), i7.kp kp (by decide), i8.kp kp (by decide), i9.kp kp (by decide), j1.kp kp (by decide), j2.kp kp (by decide), j3.kp kp (by decide), j4.kp kp (by decide), j5.kp kp (by decide), j6.kp kp (by decide), j7.kp kp (by decide), j8.kp kp (by decide), j9.kp kp (by decide), k1.kp kp (by decide), k2.kp kp (by decide), k3.kp kp (by decide)⟩, hi, hv, f, (kp 451 (by decide)).trans hf1⟩
  · obtain ⟨v1, v2, v3, v4, v5, v6, v7, v8, v9, va, vb, vc⟩ := hi s hs
    cases hdue : (decide (cg (C s) 0 ≠ []) && !(t s) 0) with
    | false =>
      refine ⟨(nI 2), fun M1 => CSt M1 sd ch tx rs rec us t C b x ∧ RSt M1 sd ch tx rs rec us t C b x th ∧ M1[451]? = some (.inl (0, 1, .inr (.inl f))), fun M1 q => q.2.1.mo, (y_PG_answer_idle hs hdue h1 (h9 s hs)).post fun r1 M1 q => ?_, fun M1 q => ?_⟩
      · obtain ⟨ha, hse, kr⟩ := q
        obtain ⟨W, kw, hw⟩ := kr
        exact ⟨by first | exact ha | rw [ha], ⟨h1.kp kw (fun c => by have z := hw _ c; simp only [InS] at z; omega) (fun c => by have z := hw _ c; simp only [InS] at z; omega), h2.kp kw (fun q hq => by have z := hw q hq; simp only [InS] at z; omega), h3.kp kw (fun q hq => by have z := hw q hq; simp only [InS] at z; omega), h4.kp kw (fun q hq => by have z := hw q hq; simp only [InS] at z; omega), h5.kp kw (fun c => by have z := hw _ c; simp only [InS] at z; omega) (fun c => by have z := hw _ c; simp only [InS] at z; omega) (fun c => by have z := hw _ c; simp only [InS] at z; omega) (fun c => by have z := hw _ c; simp only [InS] at z; omega), h6.kp kw (fun c => by have z := hw _ c; simp only [InS] at z; omega) (fun c => by have z := hw _ c; simp only [InS] at z; omega), h7.kp kw (fun c => by have z := hw _ c; simp only [InS] at z; omega) (fun c => by have z := hw _ c; simp only [InS] at z; omega), fun u hu => (h8 u hu).kp kw (fun c => by have z := hw _ c; simp only [InS] at z; omega) (fun c => by have z := hw _ c; simp only [InS] at z; omega), fun s2 hs2 => by
          by_cases e : s2 = s
          · subst e; exact hse
          · exact (h9 s2 hs2).kp kw (fun q hq => by have z := hw q hq; simp only [InS] at z; omega)⟩, hr.kp kw (fun q hq => by have z := hw q hq; simp only [InS] at z; omega), (kw 451 (fun c => by have z := hw _ c; simp only [InS] at z; omega)).trans hf⟩
      · obtain ⟨cM, rM, hf1⟩ := q
        obtain ⟨g1, g2, ⟨g3, g4, g5⟩, g6, g7, ⟨g8, g9⟩, i1, i2, i3, i4, i5, i6, i7, i8, i9, j1, j2, j3, j4, j5, j6, j7, j8, j9, k1, k2, k3⟩ := id rM
        refine (p_Mo_answer_idle hs hdue g2 i6 i9).post fun r2 M2 z => ?_
        obtain ⟨ha, hn, kp⟩ := z
        exact ⟨by first | exact ha | rw [ha], sd, ch, tx, rs, rec, us, t, C, b, x, 0, cM.kp kp (by decide), ⟨g1.kp kp (by decide), hn, ⟨g3.kp kp (by decide), g4.kp kp (by decide), g5.kp kp (by decide)⟩, g6.kp kp (by decide), g7.kp kp (by decide), ⟨g8.kp kp (by decide), g9.kp kp (by decide)⟩, i1.kp kp (by decide), i2.kp kp (by decide), i3.kp kp (by decide), i4.kp kp (by decide), i5.kp kp (by decide), i6.kp kp (by decide), i7.kp kp (by decide), i8.kp kp (by decide), i9.kp kp (by decide), j1.kp kp (by decide), j2.kp kp (by decide), j3.kp kp (by decide), j4.kp kp (by decide), j5.kp kp (by decide), j6.kp kp (by decide), j7.kp kp (by decide), j8.kp kp (by decide), j9.kp kp (by decide), k1.kp kp (by decide), k2.kp kp (by decide), k3.kp kp (by decide)⟩, hi, hv, f, (kp 451 (by decide)).trans hf1⟩
    | true =>
      obtain ⟨hd1_, hd2_⟩ := Bool.and_eq_true_iff.mp hdue
      have hne := of_decide_eq_true hd1_
      have htf : t s 0 = false := by cases z : t s 0; rfl; rw [z] at hd2_; exact absurd hd2_ (by decide)
      have l0 := (v5.resolve_left hne)
      by_cases hdd : dec (nB (cg (C s) 0) 0) ∧ dec (nB (cg (C s) 0) 64)
      · have hu8 := v1
        have h4e : cg (C s) 4 = [] := (va htf).2.2
        rcases hv (us s) hu8 with hre | ⟨hrl, hrd⟩
        ·
          obtain ⟨c2, hC⟩ : ∃ z, crd (enc (emul fD (dPt (nB (cg (C s) 0) 0)) (usK sd (us s))) ++ sl (chance sd (nI (ch + 2))) 0 32) (pub (ownK sd) ++ sl (mkU sd ch) 96 96) (sl (mkU sd ch) 32 64) = z := ⟨_, rfl⟩
          obtain ⟨xs, hX⟩ : ∃ z, scal (chance sd (nI (ch + 4))) = z := ⟨_, rfl⟩
          obtain ⟨m2, hM⟩ : ∃ z, (c2 ++ sl (chance sd (nI (ch + 3))) 0 32) ++ pub xs = z := ⟨_, rfl⟩
          obtain ⟨J, hJ⟩ : ∃ z, (([] ++ enc (emul fD (dPt (nB (cg (C s) 0) 64)) xs)) ++ enc (emul fD (dPt (nB (cg (C s) 0) 64)) (ownK sd))) ++ enc (emul fD (dPt (nB (mkU sd ch) 0)) xs) = z := ⟨_, rfl⟩
          obtain ⟨P, hP⟩ : ∃ z, pre8 (mkU sd ch) (cg (C s) 0) (pub (ownK sd)) m2 = z := ⟨_, rfl⟩
          have lc2 : c2.length = 192 := by rw [← hC]; unfold crd; simp only [List.length_append, enc_len, sl_len, xr_len]
          have lm2 : (m2 ++ xSrv J P).length = 320 := by rw [← hM]; simp only [List.length_append, lc2, sl_len, pub_len', xSrv_len]
          refine ⟨(nI 0), fun M1 => CSt M1 sd (ch + 5) tx rs rec us (upf t s (updB (t s) 0 true)) (upf C s [cg (C s) 0, m2 ++ xSrv J P, cg (C s) 2, cg (C s) 3, cg (C s) 4, cg (C s) 5, xCli J P, xSess J P, cg (C s) 8, cg (C s) 9]) b x ∧ RSt M1 sd ch tx rs rec us t C b x th ∧ M1[451]? = some (.inl (0, 1, .inr (.inl f))), fun M1 q => q.2.1.mo, (y_PG_answer_A hs hu8 hdue hdd.1 hdd.2 rfl rfl (dec_mkU sd ch) hC hX hM hJ hP h1 h2 h3 h4 h5 (by have z := h8 (us s) hu8; rw [hre] at z; exact z) (h9 s hs) l0.1 (va htf).1).post fun r1 M1 q => ?_, fun M1 q => ?_⟩
          · obtain ⟨ha, hk, hx, hvs, hvo, hse, kr⟩ := q
            obtain ⟨W, kw, hw⟩ := kr
            exact ⟨by first | exact ha | rw [ha], ⟨h1.kp kw (fun c => by have z := hw _ c; simp only [InZ] at z; omega) (fun c => by have z := hw _ c; simp only [InZ] at z; omega), hk, hx, hvs, Or.inl hvo, h6.kp kw (fun c => by have z := hw _ c; simp only [InZ] at z; omega) (fun c => by have z := hw _ c; simp only [InZ] at z; omega), h7.kp kw (fun c => by have z := hw _ c; simp only [InZ] at z; omega) (fun c => by have z := hw _ c; simp only [InZ] at z; omega), fun u hu => (h8 u hu).kp kw (fun c => by have z := hw _ c; simp only [InZ] at z; omega) (fun c => by have z := hw _ c; simp only [InZ] at z; omega), fun s2 hs2 => by
          by_cases e : s2 = s
          · subst e; simp only [upf_s]; exact hse
          · simp only [upf_n e]; exact (h9 s2 hs2).kp kw (fun q hq => by have z := hw q hq; simp only [InZ] at z; omega)⟩, hr.kp kw (fun q hq => by have z := hw q hq; simp only [InZ] at z; omega), (kw 451 (fun c => by have z := hw _ c; simp only [InZ] at z; omega)).trans hf⟩
          · obtain ⟨cM, rM, hf1⟩ := q
            obtain ⟨g1, g2, ⟨g3, g4, g5⟩, g6, g7, ⟨g8, g9⟩, i1, i2, i3, i4, i5, i6, i7, i8, i9, j1, j2, j3, j4, j5, j6, j7, j8, j9, k1, k2, k3⟩ := id rM
            refine (p_Mo_answer_A (s := s) (u := us s) (us := us) (w1 := fun s => cg (C s) 0) (w2 := fun s => cg (C s) 1) (xp := fun s => cg (C s) 6) (ss := fun s => cg (C s) 7) (rc := rec) (h1 := fun s => ne8 (cg (C s) 0)) (h2 := fun s => ne8 (cg (C s) 1)) (r1 := fun s => t s 0) (en := fun u => ne8 (rec u)) hs hdue l0.1 hu8 rfl hdd.1 hdd.2 (by show ne8 (rec (us s)) = false; rw [hre]; rfl) (dec_mkU sd ch) hC hX hM hJ hP g1 g2 i6 i9 j6 i7 i1 g3 g4 g5 g8 g9 j7 j9 k2).post fun r2 M2 z => ?_
            obtain ⟨ha, hm, hn, q27, q25, q34, q36, q38, kp⟩ := z
            exact ⟨by first | exact ha | rw [ha], sd, ch + 5, tx, rs, rec, us, upf t s (updB (t s) 0 true), upf C s [cg (C s) 0, m2 ++ xSrv J P, cg (C s) 2, cg (C s) 3, cg (C s) 4, cg (C s) 5, xCli J P, xSess J P, cg (C s) 8, cg (C s) 9], b, x, 0, cM.kp kp (by decide), ⟨hm, hn, ⟨g3.kp kp (by decide), g4.kp kp (by decide), g5.kp kp (by decide)⟩, g6.kp kp (by decide), g7.kp kp (by decide), ⟨g8.kp kp (by decide), g9.kp kp (by decide)⟩, i1.kp kp (by decide), (i2.kp kp (by decide)).kg (Or.inl rfl), (i3.kp kp (by decide)).mo (fun j hj => by unfold upf; by_cases e : j = s; rw [if_pos e, e]; rfl; rw [if_neg e]), i4.kp kp (by decide), i5.kp kp (by decide), (i6.kp kp (by decide)).kg rfl, q25.cs (ne_len lm2 (by decide)), (i8.kp kp (by decide)).kg rfl, q27.ts rfl, (j1.kp kp (by decide)).tg rfl, (j2.kp kp (by decide)).tg rfl, (j3.kp kp (by decide)).kg rfl, (j4.kp kp (by decide)).kg rfl, (j5.kp kp (by decide)).kg (Or.inl rfl), (j6.kp kp (by decide)).kg (Or.inl rfl), q34.cs rfl, (j8.kp kp (by decide)).kg (Or.inl rfl), q36.cs rfl, (k1.kp kp (by decide)).kg (Or.inl rfl), q38.cs rfl, (k3.kp kp (by decide)).kg (Or.inl rfl)⟩, (fun s2 hs2 => by
          by_cases e : s2 = s
          · subst e; simp only [upf_s]; exact ⟨v1, v2, v3, v4, v5, Or.inr ⟨lm2, l0.2, xCli_len _ _, xSess_len _ _⟩, v7.imp_right (fun z => ⟨z.1, xCli_len _ _, xSess_len _ _⟩), v8, Or.inl h4e, fun c => absurd (c.symm.trans (show updB _ 0 true 0 = true from rfl)) (by decide), vb, fun _ => h4e⟩
          · simp only [upf_n e]; exact hi s2 hs2), hv, f, (kp 451 (by decide)).trans hf1⟩
        ·
          obtain ⟨c2, hC⟩ : ∃ z, crd (enc (emul fD (dPt (nB (cg (C s) 0) 0)) (usK sd (us s))) ++ sl (chance sd (nI ch)) 0 32) (pub (ownK sd) ++ sl (rec (us s)) 96 96) (sl (rec (us s)) 32 64) = z := ⟨_, rfl⟩
          obtain ⟨xs, hX⟩ : ∃ z, scal (chance sd (nI (ch + 2))) = z := ⟨_, rfl⟩
          obtain ⟨m2, hM⟩ : ∃ z, (c2 ++ sl (chance sd (nI (ch + 1))) 0 32) ++ pub xs = z := ⟨_, rfl⟩
          obtain ⟨J, hJ⟩ : ∃ z, (([] ++ enc (emul fD (dPt (nB (cg (C s) 0) 64)) xs)) ++ enc (emul fD (dPt (nB (cg (C s) 0) 64)) (ownK sd))) ++ enc (emul fD (dPt (nB (rec (us s)) 0)) xs) = z := ⟨_, rfl⟩
          obtain ⟨P, hP⟩ : ∃ z, pre8 (rec (us s)) (cg (C s) 0) (pub (ownK sd)) m2 = z := ⟨_, rfl⟩
          have lc2 : c2.length = 192 := by rw [← hC]; unfold crd; simp only [List.length_append, enc_len, sl_len, xr_len]
          have lm2 : (m2 ++ xSrv J P).length = 320 := by rw [← hM]; simp only [List.length_append, lc2, sl_len, pub_len', xSrv_len]
          refine ⟨(nI 0), fun M1 => CSt M1 sd (ch + 3) tx rs rec us (upf t s (updB (t s) 0 true)) (upf C s [cg (C s) 0, m2 ++ xSrv J P, cg (C s) 2, cg (C s) 3, cg (C s) 4, cg (C s) 5, xCli J P, xSess J P, cg (C s) 8, cg (C s) 9]) b x ∧ RSt M1 sd ch tx rs rec us t C b x th ∧ M1[451]? = some (.inl (0, 1, .inr (.inl f))), fun M1 q => q.2.1.mo, (y_PG_answer_B hs hu8 hdue hdd.1 hdd.2 rfl hrl hrd hC hX hM hJ hP h1 h2 h3 h4 h5 (h8 (us s) hu8) (h9 s hs) l0.1 (va htf).1).post fun r1 M1 q => ?_, fun M1 q => ?_⟩
          · obtain ⟨ha, hk, hx, hvs, hvo, hse, kr⟩ := q
            obtain ⟨W, kw, hw⟩ := kr
            exact ⟨by first | exact ha | rw [ha], ⟨h1.kp kw (fun c => by have z := hw _ c; simp only [InZ] at z; omega) (fun c => by have z := hw _ c; simp only [InZ] at z; omega), hk, hx, hvs, Or.inl hvo, h6.kp kw (fun c => by have z := hw _ c; simp only [InZ] at z; omega) (fun c => by have z := hw _ c; simp only [InZ] at z; omega), h7.kp kw (fun c => by have z := hw _ c; simp only [InZ] at z; omega) (fun c => by have z := hw _ c; simp only [InZ] at z; omega), fun u hu => (h8 u hu).kp kw (fun c => by have z := hw _ c; simp only [InZ] at z; omega) (fun c => by have z := hw _ c; simp only [InZ] at z; omega), fun s2 hs2 => by
          by_cases e : s2 = s
          · subst e; simp only [upf_s]; exact hse
          · simp only [upf_n e]; exact (h9 s2 hs2).kp kw (fun q hq => by have z := hw q hq; simp only [InZ] at z; omega)⟩, hr.kp kw (fun q hq => by have z := hw q hq; simp only [InZ] at z; omega), (kw 451 (fun c => by have z := hw _ c; simp only [InZ] at z; omega)).trans hf⟩
          · obtain ⟨cM, rM, hf1⟩ := q
            obtain ⟨g1, g2, ⟨g3, g4, g5⟩, g6, g7, ⟨g8, g9⟩, i1, i2, i3, i4, i5, i6, i7, i8, i9, j1, j2, j3, j4, j5, j6, j7, j8, j9, k1, k2, k3⟩ := id rM
            refine (p_Mo_answer_B (s := s) (u := us s) (us := us) (w1 := fun s => cg (C s) 0) (w2 := fun s => cg (C s) 1) (xp := fun s => cg (C s) 6) (ss := fun s => cg (C s) 7) (rc := rec) (h1 := fun s => ne8 (cg (C s) 0)) (h2 := fun s => ne8 (cg (C s) 1)) (r1 := fun s => t s 0) (en := fun u => ne8 (rec u)) hs hdue l0.1 hu8 rfl hdd.1 hdd.2 (ne_len hrl (by decide)) hrl hrd hC hX hM hJ hP g1 g2 i6 i9 j6 i7 i1 g3 g4 g5 g8 g9 j7 j9 k2).post fun r2 M2 z => ?_
            obtain ⟨ha, hm, hn, q27, q25, q34, q36, q38, kp⟩ := z
            exact ⟨by first | exact ha | rw [ha], sd, ch + 3, tx, rs, rec, us, upf t s (updB (t s) 0 true), upf C s [cg (C s) 0, m2 ++ xSrv J P, cg (C s) 2, cg (C s) 3, cg (C s) 4, cg (C s) 5, xCli J P, xSess J P, cg (C s) 8, cg (C s) 9], b, x, 0, cM.kp kp (by decide), ⟨hm, hn, ⟨g3.kp kp (by decide), g4.kp kp (by decide), g5.kp kp (by decide)⟩, g6.kp kp (by decide), g7.kp kp (by decide), ⟨g8.kp kp (by decide), g9.kp kp (by decide)⟩, i1.kp kp (by decide), (i2.kp kp (by decide)).kg (Or.inl rfl), (i3.kp kp (by decide)).mo (fun j hj => by unfold upf; by_cases e : j = s; rw [if_pos e, e]; rfl; rw [if_neg e]), i4.kp kp (by decide), i5.kp kp (by decide), (i6.kp kp (by decide)).kg rfl, q25.cs (ne_len lm2 (by decide)), (i8.kp kp (by decide)).kg rfl, q27.ts rfl, (j1.kp kp (by decide)).tg rfl, (j2.kp kp (by decide)).tg rfl, (j3.kp kp (by decide)).kg rfl, (j4.kp kp (by decide)).kg rfl, (j5.kp kp (by decide)).kg (Or.inl rfl), (j6.kp kp (by decide)).kg (Or.inl rfl), q34.cs rfl, (j8.kp kp (by decide)).kg (Or.inl rfl), q36.cs rfl, (k1.kp kp (by decide)).kg (Or.inl rfl), q38.cs rfl, (k3.kp kp (by decide)).kg (Or.inl rfl)⟩, (fun s2 hs2 => by
          by_cases e : s2 = s
          · subst e; simp only [upf_s]; exact ⟨v1, v2, v3, v4, v5, Or.inr ⟨lm2, l0.2, xCli_len _ _, xSess_len _ _⟩, v7.imp_right (fun z => ⟨z.1, xCli_len _ _, xSess_len _ _⟩), v8, Or.inl h4e, fun c => absurd (c.symm.trans (show updB _ 0 true 0 = true from rfl)) (by decide), vb, fun _ => h4e⟩
          · simp only [upf_n e]; exact hi s2 hs2), hv, f, (kp 451 (by decide)).trans hf1⟩
      ·
        refine ⟨(nI 1), fun M1 => CSt M1 sd ch tx rs rec us (upf t s (updB (t s) 0 true)) C b x ∧ RSt M1 sd ch tx rs rec us t C b x th ∧ M1[451]? = some (.inl (0, 1, .inr (.inl f))), fun M1 q => q.2.1.mo, (y_PG_answer_no hs hdue hdd h1 h2 h4.1 (h9 s hs) l0.1).post fun r1 M1 q => ?_, fun M1 q => ?_⟩
        · obtain ⟨ha, hk, hse, kr⟩ := q
          obtain ⟨W, kw, hw⟩ := kr
          exact ⟨by first | exact ha | rw [ha], ⟨h1.kp kw (fun c => by have z := hw _ c; simp only [InR] at z; omega) (fun c => by have z := hw _ c; simp only [InR] at z; omega), hk, h3.kp kw (fun q hq => by have z := hw q hq; simp only [InR] at z; omega), h4.kp kw (fun q hq => by have z := hw q hq; simp only [InR] at z; omega), h5.kp kw (fun c => by have z := hw _ c; simp only [InR] at z; omega) (fun c => by have z := hw _ c; simp only [InR] at z; omega) (fun c => by have z := hw _ c; simp only [InR] at z; omega) (fun c => by have z := hw _ c; simp only [InR] at z; omega), h6.kp kw (fun c => by have z := hw _ c; simp only [InR] at z; omega) (fun c => by have z := hw _ c; simp only [InR] at z; omega), h7.kp kw (fun c => by have z := hw _ c; simp only [InR] at z; omega) (fun c => by have z := hw _ c; simp only [InR] at z; omega), fun u hu => (h8 u hu).kp kw (fun c => by have z := hw _ c; simp only [InR] at z; omega) (fun c => by have z := hw _ c; simp only [InR] at z; omega), fun s2 hs2 => by
          by_cases e : s2 = s
          · subst e; simp only [upf_s]; exact hse
          · simp only [upf_n e]; exact (h9 s2 hs2).kp kw (fun q hq => by have z := hw q hq; simp only [InR] at z; omega)⟩, hr.kp kw (fun q hq => by have z := hw q hq; simp only [InR] at z; omega), (kw 451 (fun c => by have z := hw _ c; simp only [InR] at z; omega)).trans hf⟩
        · obtain ⟨cM, rM, hf1⟩ := q
          obtain ⟨g1, g2, ⟨g3, g4, g5⟩, g6, g7, ⟨g8, g9⟩, i1, i2, i3, i4, i5, i6, i7, i8, i9, j1, j2, j3, j4, j5, j6, j7, j8, j9, k1, k2, k3⟩ := id rM
          refine (p_Mo_answer_no (u := 0) (xs := 0) (us := us) (w2 := fun _ => []) (xp := fun _ => []) (ss := fun _ => []) (rc := rec) (c2 := []) (m2 := []) (J := []) (P := []) (w1 := fun s => cg (C s) 0) (h1 := fun s => ne8 (cg (C s) 0)) (r1 := fun s => t s 0) (h2 := fun _ => false) (en := fun _ => false) hs hdue l0.1 hdd g1 g2 i6 i9 j6).post fun r2 M2 z => ?_
          obtain ⟨ha, hm, hn, q27, kp⟩ := z
          exact ⟨by first | exact ha | rw [ha], sd, ch, tx, rs, rec, us, upf t s (updB (t s) 0 true), C, b, x, 0, cM.kp kp (by decide), ⟨hm, hn, ⟨g3.kp kp (by decide), g4.kp kp (by decide), g5.kp kp (by decide)⟩, g6.kp kp (by decide), g7.kp kp (by decide), ⟨g8.kp kp (by decide), g9.kp kp (by decide)⟩, i1.kp kp (by decide), i2.kp kp (by decide), i3.kp kp (by decide), i4.kp kp (by decide), i5.kp kp (by decide), i6.kp kp (by decide), i7.kp kp (by decide), i8.kp kp (by decide), q27.ts rfl, (j1.kp kp (by decide)).tg rfl, (j2.kp kp (by decide)).tg rfl, j3.kp kp (by decide), j4.kp kp (by decide), j5.kp kp (by decide), j6.kp kp (by decide), j7.kp kp (by decide), j8.kp kp (by decide), j9.kp kp (by decide), k1.kp kp (by decide), k2.kp kp (by decide), k3.kp kp (by decide)⟩, (fun s2 hs2 => by
          by_cases e : s2 = s
          · subst e; simp only [upf_s]; exact ⟨v1, v2, v3, v4, v5, v6, v7, v8, v9, fun c => absurd (c.symm.trans (show updB _ 0 true 0 = true from rfl)) (by decide), vb, vc⟩
          · simp only [upf_n e]; exact hi s2 hs2), hv, f, (kp 451 (by decide)).trans hf1⟩
set_option maxHeartbeats 8000000 in
theorem rl_finish (G : GX) {M : List va_E} (h : RL M) (y : Int32) : PRm G mi_PG_finish mi_Mo_finish [.int y] M := by
  obtain ⟨sd, ch, tx, rs, rec, us, t, C, b, x, th, hc0, hr, hi, hv, f, hf⟩ := h
  obtain ⟨h1, h2, h3, h4, h5, h6, h7, h8, h9⟩ := id hc0
  rcases ix_3 y (n := 4) (by decide) with hy | ⟨hy0, hy⟩ | ⟨s, hs, rfl⟩
  ·
    refine ⟨(-1), fun M1 => CSt M1 sd ch tx rs rec us t C b x ∧ RSt M1 sd ch tx rs rec us t C b x th ∧ M1[451]? = some (.inl (0, 1, .inr (.inl f))), fun M1 q => q.2.1.mo, (y_PG_finish_neg hy).post fun r1 M1 q => ?_, fun M1 q => ?_⟩
    · obtain ⟨ha, he⟩ := q
      subst he; exact ⟨by first | exact ha | rw [ha], hc0, hr, hf⟩
    · obtain ⟨cM, rM, hf1⟩ := q
      obtain ⟨g1, g2, ⟨g3, g4, g5⟩, g6, g7, ⟨g8, g9⟩, i1, i2, i3, i4, i5, i6, i7, i8, i9, j1, j2, j3, j4, j5, j6, j7, j8, j9, k1, k2, k3⟩ := id rM
      refine (p_Mo_finish_neg g2 hy).post fun r2 M2 z => ?_
      obtain ⟨ha, hn, kp⟩ := z
      exact ⟨by first | exact ha | rw [ha], sd, ch, tx, rs, rec, us, t, C, b, x, 0, cM.kp kp (by decide), ⟨g1.kp kp (by decide), hn, ⟨g3.kp kp (by decide), g4.kp kp (by decide), g5.kp kp (by decide)⟩, g6.kp kp (by decide), g7.kp kp (by decide), ⟨g8.kp kp (by decide), g9.kp kp (by decide)⟩, i1.kp kp (by decide), i2.kp kp (by decide), i3.kp kp (by decide), i4.kp kp (by decide), i5.kp kp (by decide), i6.kp kp (by decide), i7.kp kp (by decide), i8.kp kp (by decide), i9.kp kp (by decide), j1.kp kp (by decide), j2.kp kp (by decide), j3.kp kp (by decide), j4.kp kp (by decide), j5.kp kp (by decide), j6.kp kp (by decide), j7.kp kp (by decide), j8.kp kp (by decide), j9.kp kp (by decide), k1.kp kp (by decide), k2.kp kp (by decide), k3.kp kp (by decide)⟩, hi, hv, f, (kp 451 (by decide)).trans hf1⟩
  ·
    refine ⟨(-1), fun M1 => CSt M1 sd ch tx rs rec us t C b x ∧ RSt M1 sd ch tx rs rec us t C b x th ∧ M1[451]? = some (.inl (0, 1, .inr (.inl f))), fun M1 q => q.2.1.mo, (y_PG_finish_big hy0 hy).post fun r1 M1 q => ?_, fun M1 q => ?_⟩
    · obtain ⟨ha, he⟩ := q
      subst he; exact ⟨by first | exact ha | rw [ha], hc0, hr, hf⟩
    · obtain ⟨cM, rM, hf1⟩ := q
      obtain ⟨g1, g2, ⟨g3, g4, g5⟩, g6, g7, ⟨g8, g9⟩, i1, i2, i3, i4, i5, i6, i7, i8, i9, j1, j2, j3, j4, j5, j6, j7, j8, j9, k1, k2, k3⟩ := id rM
      refine (p_Mo_finish_big g2 hy0 hy).post fun r2 M2 z => ?_
      obtain ⟨ha, hn, kp⟩ := z
      exact ⟨by first | exact ha | rw [ha], sd, ch, tx, rs, rec, us, t, C, b, x, 0, cM.kp kp (by decide), ⟨g1.kp kp (by decide), hn, ⟨g3.kp kp (by decide), g4.kp kp (by decide), g5.kp kp (by decide)⟩, g6.kp kp (by decide), g7.kp kp (by decide), ⟨g8.kp kp (by decide), g9.kp kp (by decide)⟩, i1.kp kp (by decide), i2.kp kp (by decide), i3.kp kp (by decide), i4.kp kp (by decide), i5.kp kp (by decide), i6.kp kp (by decide), i7.kp kp (by decide), i8.kp kp (by decide), i9.kp kp (by decide), j1.kp kp (by decide), j2.kp kp (by decide), j3.kp kp (by decide), j4.kp kp (by decide), j5.kp kp (by decide), j6.kp kp (by decide), j7.kp kp (by decide), j8.kp kp (by decide), j9.kp kp (by decide), k1.kp kp (by decide), k2.kp kp (by decide), k3.kp kp (by decide)⟩, hi, hv, f, (kp 451 (by decide)).trans hf1⟩
  · obtain ⟨v1, v2, v3, v4, v5, v6, v7, v8, v9, va, vb, vc⟩ := hi s hs
    cases hdue : (decide (cg (C s) 1 ≠ []) && !(t s) 1) with
    | false =>
      refine ⟨(nI 2), fun M1 => CSt M1 sd ch tx rs rec us t C b x ∧ RSt M1 sd ch tx rs rec us t C b x th ∧ M1[451]? = some (.inl (0, 1, .inr (.inl f))), fun M1 q => q.2.1.mo, (y_PG_finish_idle hs hdue h1 (h9 s hs)).post fun r1 M1 q => ?_, fun M1 q => ?_⟩
      · obtain ⟨ha, hse, kr⟩ := q
        obtain ⟨W, kw, hw⟩ := kr
        exact ⟨by first | exact ha | rw [ha], ⟨h1.kp kw (fun c => by have z := hw _ c; simp only [InS] at z; omega) (fun c => by have z := hw _ c; simp only [InS] at z; omega), h2.kp kw (fun q hq => by have z := hw q hq; simp only [InS] at z; omega), h3.kp kw (fun q hq => by have z := hw q hq; simp only [InS] at z; omega), h4.kp kw (fun q hq => by have z := hw q hq; simp only [InS] at z; omega), h5.kp kw (fun c => by have z := hw _ c; simp only [InS] at z; omega) (fun c => by have z := hw _ c; simp only [InS] at z; omega) (fun c => by have z := hw _ c; simp only [InS] at z; omega) (fun c => by have z := hw _ c; simp only [InS] at z; omega), h6.kp kw (fun c => by have z := hw _ c; simp only [InS] at z; omega) (fun c => by have z := hw _ c; simp only [InS] at z; omega), h7.kp kw (fun c => by have z := hw _ c; simp only [InS] at z; omega) (fun c => by have z := hw _ c; simp only [InS] at z; omega), fun u hu => (h8 u hu).kp kw (fun c => by have z := hw _ c; simp only [InS] at z; omega) (fun c => by have z := hw _ c; simp only [InS] at z; omega), fun s2 hs2 => by
          by_cases e : s2 = s
          · subst e; exact hse
          · exact (h9 s2 hs2).kp kw (fun q hq => by have z := hw q hq; simp only [InS] at z; omega)⟩, hr.kp kw (fun q hq => by have z := hw q hq; simp only [InS] at z; omega), (kw 451 (fun c => by have z := hw _ c; simp only [InS] at z; omega)).trans hf⟩
      · obtain ⟨cM, rM, hf1⟩ := q
        obtain ⟨g1, g2, ⟨g3, g4, g5⟩, g6, g7, ⟨g8, g9⟩, i1, i2, i3, i4, i5, i6, i7, i8, i9, j1, j2, j3, j4, j5, j6, j7, j8, j9, k1, k2, k3⟩ := id rM
        refine (p_Mo_finish_idle hs hdue g2 i7 j1).post fun r2 M2 z => ?_
        obtain ⟨ha, hn, kp⟩ := z
        exact ⟨by first | exact ha | rw [ha], sd, ch, tx, rs, rec, us, t, C, b, x, 0, cM.kp kp (by decide), ⟨g1.kp kp (by decide), hn, ⟨g3.kp kp (by decide), g4.kp kp (by decide), g5.kp kp (by decide)⟩, g6.kp kp (by decide), g7.kp kp (by decide), ⟨g8.kp kp (by decide), g9.kp kp (by decide)⟩, i1.kp kp (by decide), i2.kp kp (by decide), i3.kp kp (by decide), i4.kp kp (by decide), i5.kp kp (by decide), i6.kp kp (by decide), i7.kp kp (by decide), i8.kp kp (by decide), i9.kp kp (by decide), j1.kp kp (by decide), j2.kp kp (by decide), j3.kp kp (by decide), j4.kp kp (by decide), j5.kp kp (by decide), j6.kp kp (by decide), j7.kp kp (by decide), j8.kp kp (by decide), j9.kp kp (by decide), k1.kp kp (by decide), k2.kp kp (by decide), k3.kp kp (by decide)⟩, hi, hv, f, (kp 451 (by decide)).trans hf1⟩
    | true =>
      obtain ⟨hd1_, hd2_⟩ := Bool.and_eq_true_iff.mp hdue
      have hne := of_decide_eq_true hd1_
      have htf : t s 1 = false := by cases z : t s 1; rfl; rw [z] at hd2_; exact absurd hd2_ (by decide)
      obtain ⟨l1, l9, l6, l7⟩ := v6.resolve_left hne
      obtain ⟨n2, n3, n5⟩ := vb htf
      obtain ⟨E, hE⟩ : ∃ z, emul fD (dPt (nB (cg (C s) 1) 0)) (leN (lbN ((leN (lbN (b s)) 32 % qN) ^ (qN - 2) % qN)) 32) = z := ⟨_, rfl⟩
      have hEr : emul fD (dPt (nB (cg (C s) 1) 0)) ((b s) ^ (qN - 2) % qN) = E := by rw [← hE, inv_e v2]
      obtain ⟨R, hR⟩ : ∃ z, sec8 (cg (C s) 8) E = z := ⟨_, rfl⟩
      obtain ⟨O, hO⟩ : ∃ z, xr (sl (cg (C s) 1) 64 128) (ex1 (ex1 R W10) (sl (cg (C s) 1) 32 32 ++ W15) ++ ex2 (ex1 R W10) (sl (cg (C s) 1) 32 32 ++ W15)) = z := ⟨_, rfl⟩
      obtain ⟨K, hK⟩ : ∃ z, cKey R (sl O 32 32) = z := ⟨_, rfl⟩
      obtain ⟨J, hJ⟩ : ∃ z, (([] ++ enc (emul fD (dPt (nB (cg (C s) 1) 224)) (x s))) ++ enc (emul fD (dPt (nB O 0)) (x s))) ++ enc (emul fD (dPt (nB (cg (C s) 1) 224)) K) = z := ⟨_, rfl⟩
      obtain ⟨P, hP⟩ : ∃ z, pre8 (pub K) (cg (C s) 9) O (cg (C s) 1) = z := ⟨_, rfl⟩
      by_cases hcs : csR (cg (C s) 1) O (seal8 R (sl O 32 32) (sl O 0 32)) (xSrv J P) = 0
      ·
        refine ⟨(nI (csR (cg (C s) 1) O (seal8 R (sl O 32 32) (sl O 0 32)) (xSrv J P))), fun M1 => CSt M1 sd ch tx rs rec us (upf t s (updB (t s) 1 true)) (upf C s [cg (C s) 0, cg (C s) 1, xCli J P, xSess J P, cg (C s) 4, ex1 R (sl O 32 32 ++ W13), cg (C s) 6, cg (C s) 7, cg (C s) 8, cg (C s) 9]) b x ∧ RSt M1 sd ch tx rs rec us t C b x th ∧ M1[451]? = some (.inl (0, 1, .inr (.inl f))), fun M1 q => q.2.1.mo, (y_PG_finish_due hs hdue hE hR hO hK hJ hP v3 h1 h2 h3 (h9 s hs) l1 l9 n2 n3 n5).post fun r1 M1 q => ?_, fun M1 q => ?_⟩
        · obtain ⟨ha, hk, hx, hse, kr⟩ := q
          obtain ⟨W, kw, hw⟩ := kr
          exact ⟨by first | exact ha | rw [ha], ⟨h1.kp kw (fun c => by have z := hw _ c; simp only [InX] at z; omega) (fun c => by have z := hw _ c; simp only [InX] at z; omega), hk, hx, h4.kp kw (fun q hq => by have z := hw q hq; simp only [InX] at z; omega), h5.kp kw (fun c => by have z := hw _ c; simp only [InX] at z; omega) (fun c => by have z := hw _ c; simp only [InX] at z; omega) (fun c => by have z := hw _ c; simp only [InX] at z; omega) (fun c => by have z := hw _ c; simp only [InX] at z; omega), h6.kp kw (fun c => by have z := hw _ c; simp only [InX] at z; omega) (fun c => by have z := hw _ c; simp only [InX] at z; omega), h7.kp kw (fun c => by have z := hw _ c; simp only [InX] at z; omega) (fun c => by have z := hw _ c; simp only [InX] at z; omega), fun u hu => (h8 u hu).kp kw (fun c => by have z := hw _ c; simp only [InX] at z; omega) (fun c => by have z := hw _ c; simp only [InX] at z; omega), fun s2 hs2 => by
          by_cases e : s2 = s
          · subst e; simp only [upf_s]; exact by rw [if_pos hcs] at hse; exact hse
          · simp only [upf_n e]; exact (h9 s2 hs2).kp kw (fun q hq => by have z := hw q hq; simp only [InX] at z; omega)⟩, hr.kp kw (fun q hq => by have z := hw q hq; simp only [InX] at z; omega), (kw 451 (fun c => by have z := hw _ c; simp only [InX] at z; omega)).trans hf⟩
        · obtain ⟨cM, rM, hf1⟩ := q
          obtain ⟨g1, g2, ⟨g3, g4, g5⟩, g6, g7, ⟨g8, g9⟩, i1, i2, i3, i4, i5, i6, i7, i8, i9, j1, j2, j3, j4, j5, j6, j7, j8, j9, k1, k2, k3⟩ := id rM
          refine (p_Mo_finish (s := s) (bl := b) (ep := x) (ps := fun s => (cg (C s) 8).length) (pw := fun s => cg (C s) 8) (sn := fun s => cg (C s) 9) (w2 := fun s => cg (C s) 1) (w3 := fun s => cg (C s) 2) (cs := fun s => cg (C s) 3) (xs := fun s => cg (C s) 5) (h2 := fun s => ne8 (cg (C s) 1)) (h3 := fun s => ne8 (cg (C s) 2)) (r2 := fun s => t s 1) (cd := fun s => ne8 (cg (C s) 3)) hs hdue l1 l9 rfl v4 v2 v3 hEr hR hO hK hJ hP g1 g2 i7 j1 i8 j3 i4 i5 i2 i3 j5 j7 j8 k1 k3).post fun r2 M2 z => ?_
          obtain ⟨ha, hm, hn, q28, qy, qn, kp⟩ := z
          exact ⟨by first | exact ha | rw [ha], sd, ch, tx, rs, rec, us, upf t s (updB (t s) 1 true), upf C s [cg (C s) 0, cg (C s) 1, xCli J P, xSess J P, cg (C s) 4, ex1 R (sl O 32 32 ++ W13), cg (C s) 6, cg (C s) 7, cg (C s) 8, cg (C s) 9], b, x, 0, cM.kp kp (by decide), ⟨hm, hn, ⟨g3.kp kp (by decide), g4.kp kp (by decide), g5.kp kp (by decide)⟩, g6.kp kp (by decide), g7.kp kp (by decide), ⟨g8.kp kp (by decide), g9.kp kp (by decide)⟩, i1.kp kp (by decide), (i2.kp kp (by decide)).kg (Or.inl rfl), (i3.kp kp (by decide)).mo (fun j hj => by unfold upf; by_cases e : j = s; rw [if_pos e, e]; rfl; rw [if_neg e]), i4.kp kp (by decide), i5.kp kp (by decide), (i6.kp kp (by decide)).kg rfl, (i7.kp kp (by decide)).kg rfl, (qy hcs).2.1.cs (ne_len (xCli_len _ _) (by decide)), (i9.kp kp (by decide)).tg rfl, q28.ts rfl, (j2.kp kp (by decide)).tg rfl, (qy hcs).1.cs (ne_len (xSess_len _ _) (by decide)), (j4.kp kp (by decide)).kg rfl, (j5.kp kp (by decide)).kg (Or.inl rfl), (j6.kp kp (by decide)).kg (Or.inl rfl), (j7.kp kp (by decide)).kg (Or.inl rfl), (qy hcs).2.2.1.cs rfl, (j9.kp kp (by decide)).kg (Or.inl rfl), (qy hcs).2.2.2.1.cs rfl, (k2.kp kp (by decide)).kg (Or.inl rfl), (qy hcs).2.2.2.2.cs rfl⟩, (fun s2 hs2 => by
          by_cases e : s2 = s
          · subst e; simp only [upf_s]; exact ⟨v1, v2, v3, v4, v5, v6, Or.inr ⟨xCli_len _ _, l6, l7⟩, Or.inr ⟨xSess_len _ _, ex1_len _ _⟩, v9, fun c => absurd (va c).1 hne, fun c => absurd (c.symm.trans (show updB _ 1 true 1 = true from rfl)) (by decide), vc⟩
          · simp only [upf_n e]; exact hi s2 hs2), hv, f, (kp 451 (by decide)).trans hf1⟩
      ·
        refine ⟨(nI (csR (cg (C s) 1) O (seal8 R (sl O 32 32) (sl O 0 32)) (xSrv J P))), fun M1 => CSt M1 sd ch tx rs rec us (upf t s (updB (t s) 1 true)) (upf C s [cg (C s) 0, cg (C s) 1, cg (C s) 2, cg (C s) 3, cg (C s) 4, cg (C s) 5, cg (C s) 6, cg (C s) 7, cg (C s) 8, cg (C s) 9]) b x ∧ RSt M1 sd ch tx rs rec us t C b x th ∧ M1[451]? = some (.inl (0, 1, .inr (.inl f))), fun M1 q => q.2.1.mo, (y_PG_finish_due hs hdue hE hR hO hK hJ hP v3 h1 h2 h3 (h9 s hs) l1 l9 n2 n3 n5).post fun r1 M1 q => ?_, fun M1 q => ?_⟩
        · obtain ⟨ha, hk, hx, hse, kr⟩ := q
          obtain ⟨W, kw, hw⟩ := kr
          exact ⟨by first | exact ha | rw [ha], ⟨h1.kp kw (fun c => by have z := hw _ c; simp only [InX] at z; omega) (fun c => by have z := hw _ c; simp only [InX] at z; omega), hk, hx, h4.kp kw (fun q hq => by have z := hw q hq; simp only [InX] at z; omega), h5.kp kw (fun c => by have z := hw _ c; simp only [InX] at z; omega) (fun c => by have z := hw _ c; simp only [InX] at z; omega) (fun c => by have z := hw _ c; simp only [InX] at z; omega) (fun c => by have z := hw _ c; simp only [InX] at z; omega), h6.kp kw (fun c => by have z := hw _ c; simp only [InX] at z; omega) (fun c => by have z := hw _ c; simp only [InX] at z; omega), h7.kp kw (fun c => by have z := hw _ c; simp only [InX] at z; omega) (fun c => by have z := hw _ c; simp only [InX] at z; omega), fun u hu => (h8 u hu).kp kw (fun c => by have z := hw _ c; simp only [InX] at z; omega) (fun c => by have z := hw _ c; simp only [InX] at z; omega), fun s2 hs2 => by
          by_cases e : s2 = s
          · subst e; simp only [upf_s]; exact by rw [if_neg hcs] at hse; exact hse
          · simp only [upf_n e]; exact (h9 s2 hs2).kp kw (fun q hq => by have z := hw q hq; simp only [InX] at z; omega)⟩, hr.kp kw (fun q hq => by have z := hw q hq; simp only [InX] at z; omega), (kw 451 (fun c => by have z := hw _ c; simp only [InX] at z; omega)).trans hf⟩
        · obtain ⟨cM, rM, hf1⟩ := q
          obtain ⟨g1, g2, ⟨g3, g4, g5⟩, g6, g7, ⟨g8, g9⟩, i1, i2, i3, i4, i5, i6, i7, i8, i9, j1, j2, j3, j4, j5, j6, j7, j8, j9, k1, k2, k3⟩ := id rM
          refine (p_Mo_finish (s := s) (bl := b) (ep := x) (ps := fun s => (cg (C s) 8).length) (pw := fun s => cg (C s) 8) (sn := fun s => cg (C s) 9) (w2 := fun s => cg (C s) 1) (w3 := fun s => cg (C s) 2) (cs := fun s => cg (C s) 3) (xs := fun s => cg (C s) 5) (h2 := fun s => ne8 (cg (C s) 1)) (h3 := fun s => ne8 (cg (C s) 2)) (r2 := fun s => t s 1) (cd := fun s => ne8 (cg (C s) 3)) hs hdue l1 l9 rfl v4 v2 v3 hEr hR hO hK hJ hP g1 g2 i7 j1 i8 j3 i4 i5 i2 i3 j5 j7 j8 k1 k3).post fun r2 M2 z => ?_
          obtain ⟨ha, hm, hn, q28, qy, qn, kp⟩ := z
          exact ⟨by first | exact ha | rw [ha], sd, ch, tx, rs, rec, us, upf t s (updB (t s) 1 true), upf C s [cg (C s) 0, cg (C s) 1, cg (C s) 2, cg (C s) 3, cg (C s) 4, cg (C s) 5, cg (C s) 6, cg (C s) 7, cg (C s) 8, cg (C s) 9], b, x, 0, cM.kp kp (by decide), ⟨hm, hn, ⟨g3.kp kp (by decide), g4.kp kp (by decide), g5.kp kp (by decide)⟩, g6.kp kp (by decide), g7.kp kp (by decide), ⟨g8.kp kp (by decide), g9.kp kp (by decide)⟩, i1.kp kp (by decide), (i2.kp kp (by decide)).kg (Or.inl rfl), (i3.kp kp (by decide)).mo (fun j hj => by unfold upf; by_cases e : j = s; rw [if_pos e, e]; rfl; rw [if_neg e]), i4.kp kp (by decide), i5.kp kp (by decide), (i6.kp kp (by decide)).kg rfl, (i7.kp kp (by decide)).kg rfl, (i8.kp (qn hcs) (by decide)).kg rfl, (i9.kp kp (by decide)).tg rfl, q28.ts rfl, (j2.kp kp (by decide)).tg rfl, (j3.kp (qn hcs) (by decide)).kg rfl, (j4.kp kp (by decide)).kg rfl, (j5.kp kp (by decide)).kg (Or.inl rfl), (j6.kp kp (by decide)).kg (Or.inl rfl), (j7.kp kp (by decide)).kg (Or.inl rfl), (j8.kp (qn hcs) (by decide)).kg (Or.inl rfl), (j9.kp kp (by decide)).kg (Or.inl rfl), (k1.kp (qn hcs) (by decide)).kg (Or.inl rfl), (k2.kp kp (by decide)).kg (Or.inl rfl), (k3.kp (qn hcs) (by decide)).kg (Or.inl rfl)⟩, (fun s2 hs2 => by
          by_cases e : s2 = s
          · subst e; simp only [upf_s]; exact ⟨v1, v2, v3, v4, v5, v6, v7, v8, v9, va, fun c => absurd (c.symm.trans (show updB _ 1 true 1 = true from rfl)) (by decide), vc⟩
          · simp only [upf_n e]; exact hi s2 hs2), hv, f, (kp 451 (by decide)).trans hf1⟩
theorem NG_aaload {Z : GZ} {G : GX} {mi : MI} {pc : Nat} {L : List (Nat × Value)} {st : List Value} {M : List va_E} {kc ks : Nat} {Q : Option Value → List va_E → Prop} {a t n k p : Nat} {f : Nat → Option Nat} {C0 : String} (hd : decode (mC mi) pc = .ok (.aaload, 1)) (ha : K0 ≤ a) (hm : M[a]? = some (rr t n f)) (ht : tyl[t]? = some (.object C0)) (hk : k < n) (hn : n < 2 ^ 31) (hx : f k = some p) (kk : TG Z G mi (pc + 1) L (.ref p :: st) M kc ks Q) : TG Z G mi pc L (.int (nI k) :: .ref a :: st) M kc ks Q :=
  G_aaload hd ha hm ht (vp_in_nI hk hn) (by rw [nI_clamp (by omega), hx]; exact kk)
set_option maxHeartbeats 8000000 in
theorem x_PG_result_neg {G : GX} {M : List va_E} {lo : List UInt8} (hNT : G.1.stackTraces = false) (hgo : GO M 61 264) (hou : BY M 371 372 64 lo) {x : Int32} (hx : x < 0) : CTx G mt_PG_result [.ref 61, .int x] M (fun _ M' => M' = M) := by
  refine CTx.of hNT (by decide) (Nat.le_of_ble_eq_true rfl) ?_
  show TG ZX G mt_PG_result 0 [(0, .ref 61), (1, .int x)] [] M 0 0 _
  refine G_aload_n (v := .ref 61) d_PG_result_0 rfl (Or.inr ⟨_, rfl⟩) ?_
  refine G_getfield d_PG_result_1 fg_PG_46 hgo.1 rfl ?_
  refine G_iload_n d_PG_result_4 rfl ?_
  refine G_virtual (as := [.int x]) (rest := []) (b := 371) d_PG_result_5 rfl (jw_By_has.jo (by decide)) lm_PG_119 ji_By_has js_By_has hou.1 rfl rfl rfl (Nat.le_of_ble_eq_true rfl) (by decide) (by decide) (y_By_has_neg hou hx) (fun r M1 hq => ?_)
  obtain ⟨rfl, he⟩ := hq
  obtain rfl := he.symm
  show TG ZX G mt_PG_result 8 [(0, .ref 61), (1, .int x)] [.int (nI 0)] M 0 0 _
  refine G_if_ne d_PG_result_8 (tgt := 19) rfl (fun c => absurd (show nI 0 = 0 from rfl) c) (fun _ => ?_)
  exact G_throw rfl d_PG_result_11 d_PG_result_14 d_PG_result_15 d_PG_result_18 th_cl th_in (by decide) (Nat.le_of_ble_eq_true rfl) (by decide) (by decide) rfl
set_option maxHeartbeats 8000000 in
theorem x_PG_result_out {G : GX} {M : List va_E} {lo : List UInt8} (hNT : G.1.stackTraces = false) (hgo : GO M 61 264) (hou : BY M 371 372 64 lo) {i : Nat} (hi : lo.length ≤ i) (hi2 : i < 2147483648) : CTx G mt_PG_result [.ref 61, .int (nI i)] M (fun _ M' => M' = M) := by
  refine CTx.of hNT (by decide) (Nat.le_of_ble_eq_true rfl) ?_
  show TG ZX G mt_PG_result 0 [(0, .ref 61), (1, .int (nI i))] [] M 0 0 _
  refine G_aload_n (v := .ref 61) d_PG_result_0 rfl (Or.inr ⟨_, rfl⟩) ?_
  refine G_getfield d_PG_result_1 fg_PG_46 hgo.1 rfl ?_
  refine G_iload_n d_PG_result_4 rfl ?_
  refine G_virtual (as := [.int (nI i)]) (rest := []) (b := 371) d_PG_result_5 rfl (jw_By_has.jo (by decide)) lm_PG_119 ji_By_has js_By_has hou.1 rfl rfl rfl (Nat.le_of_ble_eq_true rfl) (by decide) (by decide) (y_By_has_out hou hi hi2 (by decide)) (fun r M1 hq => ?_)
  obtain ⟨rfl, he⟩ := hq
  obtain rfl := he.symm
  show TG ZX G mt_PG_result 8 [(0, .ref 61), (1, .int (nI i))] [.int (nI 0)] M 0 0 _
  refine G_if_ne d_PG_result_8 (tgt := 19) rfl (fun c => absurd (show nI 0 = 0 from rfl) c) (fun _ => ?_)
  exact G_throw rfl d_PG_result_11 d_PG_result_14 d_PG_result_15 d_PG_result_18 th_cl th_in (by decide) (Nat.le_of_ble_eq_true rfl) (by decide) (by decide) rfl
set_option maxHeartbeats 8000000 in
theorem x_PG_wire_sneg {G : GX} {M : List va_E} (hNT : G.1.stackTraces = false) (hgo : GO M 61 264) {x y z : Int32} (hx : x < 0) : CTx G mt_PG_wire [.ref 61, .int x, .int y, .int z] M (fun _ M' => M' = M) := by
  refine CTx.of hNT (by decide) (Nat.le_of_ble_eq_true rfl) ?_
  show TG ZX G mt_PG_wire 0 [(0, .ref 61), (1, .int x), (2, .int y), (3, .int z)] [] M 0 0 _
  refine G_aload_n (v := .ref 61) d_PG_wire_0 rfl (Or.inr ⟨_, rfl⟩) ?_
  refine G_iload_n d_PG_wire_1 rfl ?_
  refine G_iload_n d_PG_wire_2 rfl ?_
  refine G_iload_n d_PG_wire_3 rfl ?_
  refine G_virtual (as := [.int x, .int y, .int z]) (rest := []) (b := 61) d_PG_wire_4 rfl (jw_PG_isOnWire.jo (by decide)) lm_PG_154 ji_PG_isOnWire js_PG_isOnWire hgo.1 rfl rfl rfl (Nat.le_of_ble_eq_true rfl) (by decide) (by decide) (y_PG_isOnWire_sneg hx) (fun r M1 hq => ?_)
  obtain ⟨rfl, he⟩ := hq
  obtain rfl := he.symm
  show TG ZX G mt_PG_wire 7 [(0, .ref 61), (1, .int x), (2, .int y), (3, .int z)] [.int (nI 0)] M 0 0 _
  refine G_if_ne d_PG_wire_7 (tgt := 18) rfl (fun c => absurd (show nI 0 = 0 from rfl) c) (fun _ => ?_)
  exact G_throw rfl d_PG_wire_10 d_PG_wire_13 d_PG_wire_14 d_PG_wire_17 th_cl th_in (by decide) (Nat.le_of_ble_eq_true rfl) (by decide) (by decide) rfl
set_option maxHeartbeats 8000000 in
theorem x_PG_wire_sbig {G : GX} {M : List va_E} (hNT : G.1.stackTraces = false) (hgo : GO M 61 264) {x y z : Int32} (h0 : ¬ x < 0) (hx : nI 4 ≤ x) : CTx G mt_PG_wire [.ref 61, .int x, .int y, .int z] M (fun _ M' => M' = M) := by
  refine CTx.of hNT (by decide) (Nat.le_of_ble_eq_true rfl) ?_
  show TG ZX G mt_PG_wire 0 [(0, .ref 61), (1, .int x), (2, .int y), (3, .int z)] [] M 0 0 _
  refine G_aload_n (v := .ref 61) d_PG_wire_0 rfl (Or.inr ⟨_, rfl⟩) ?_
  refine G_iload_n d_PG_wire_1 rfl ?_
  refine G_iload_n d_PG_wire_2 rfl ?_
  refine G_iload_n d_PG_wire_3 rfl ?_
  refine G_virtual (as := [.int x, .int y, .int z]) (rest := []) (b := 61) d_PG_wire_4 rfl (jw_PG_isOnWire.jo (by decide)) lm_PG_154 ji_PG_isOnWire js_PG_isOnWire hgo.1 rfl rfl rfl (Nat.le_of_ble_eq_true rfl) (by decide) (by decide) (y_PG_isOnWire_sbig h0 hx) (fun r M1 hq => ?_)
  obtain ⟨rfl, he⟩ := hq
  obtain rfl := he.symm
  show TG ZX G mt_PG_wire 7 [(0, .ref 61), (1, .int x), (2, .int y), (3, .int z)] [.int (nI 0)] M 0 0 _
  refine G_if_ne d_PG_wire_7 (tgt := 18) rfl (fun c => absurd (show nI 0 = 0 from rfl) c) (fun _ => ?_)
  exact G_throw rfl d_PG_wire_10 d_PG_wire_13 d_PG_wire_14 d_PG_wire_17 th_cl th_in (by decide) (Nat.le_of_ble_eq_true rfl) (by decide) (by decide) rfl
set_option maxHeartbeats 8000000 in
theorem x_PG_wire_mlt {G : GX} {M : List va_E} (hNT : G.1.stackTraces = false) (hgo : GO M 61 264) {s : Nat} {y z : Int32} (hs : s < 4) (hy : y < nI 1) : CTx G mt_PG_wire [.ref 61, .int (nI s), .int y, .int z] M (fun _ M' => M' = M) := by
  refine CTx.of hNT (by decide) (Nat.le_of_ble_eq_true rfl) ?_
  show TG ZX G mt_PG_wire 0 [(0, .ref 61), (1, .int (nI s)), (2, .int y), (3, .int z)] [] M 0 0 _
  refine G_aload_n (v := .ref 61) d_PG_wire_0 rfl (Or.inr ⟨_, rfl⟩) ?_
  refine G_iload_n d_PG_wire_1 rfl ?_
  refine G_iload_n d_PG_wire_2 rfl ?_
  refine G_iload_n d_PG_wire_3 rfl ?_
  refine G_virtual (as := [.int (nI s), .int y, .int z]) (rest := []) (b := 61) d_PG_wire_4 rfl (jw_PG_isOnWire.jo (by decide)) lm_PG_154 ji_PG_isOnWire js_PG_isOnWire hgo.1 rfl rfl rfl (Nat.le_of_ble_eq_true rfl) (by decide) (by decide) (y_PG_isOnWire_mlt hs hy) (fun r M1 hq => ?_)
  obtain ⟨rfl, he⟩ := hq
  obtain rfl := he.symm
  show TG ZX G mt_PG_wire 7 [(0, .ref 61), (1, .int (nI s)), (2, .int y), (3, .int z)] [.int (nI 0)] M 0 0 _
  refine G_if_ne d_PG_wire_7 (tgt := 18) rfl (fun c => absurd (show nI 0 = 0 from rfl) c) (fun _ => ?_)
  exact G_throw rfl d_PG_wire_10 d_PG_wire_13 d_PG_wire_14 d_PG_wire_17 th_cl th_in (by decide) (Nat.le_of_ble_eq_true rfl) (by decide) (by decide) rfl
set_option maxHeartbeats 8000000 in
theorem x_PG_wire_mgt {G : GX} {M : List va_E} (hNT : G.1.stackTraces = false) (hgo : GO M 61 264) {s : Nat} {y z : Int32} (hs : s < 4) (hy1 : ¬ y < nI 1) (hy : nI 3 < y) : CTx G mt_PG_wire [.ref 61, .int (nI s), .int y, .int z] M (fun _ M' => M' = M) := by
  refine CTx.of hNT (by decide) (Nat.le_of_ble_eq_true rfl) ?_
  show TG ZX G mt_PG_wire 0 [(0, .ref 61), (1, .int (nI s)), (2, .int y), (3, .int z)] [] M 0 0 _
  refine G_aload_n (v := .ref 61) d_PG_wire_0 rfl (Or.inr ⟨_, rfl⟩) ?_
  refine G_iload_n d_PG_wire_1 rfl ?_
  refine G_iload_n d_PG_wire_2 rfl ?_
  refine G_iload_n d_PG_wire_3 rfl ?_
  refine G_virtual (as := [.int (nI s), .int y, .int z]) (rest := []) (b := 61) d_PG_wire_4 rfl (jw_PG_isOnWire.jo (by decide)) lm_PG_154 ji_PG_isOnWire js_PG_isOnWire hgo.1 rfl rfl rfl (Nat.le_of_ble_eq_true rfl) (by decide) (by decide) (y_PG_isOnWire_mgt hs hy1 hy) (fun r M1 hq => ?_)
  obtain ⟨rfl, he⟩ := hq
  obtain rfl := he.symm
  show TG ZX G mt_PG_wire 7 [(0, .ref 61), (1, .int (nI s)), (2, .int y), (3, .int z)] [.int (nI 0)] M 0 0 _
  refine G_if_ne d_PG_wire_7 (tgt := 18) rfl (fun c => absurd (show nI 0 = 0 from rfl) c) (fun _ => ?_)
  exact G_throw rfl d_PG_wire_10 d_PG_wire_13 d_PG_wire_14 d_PG_wire_17 th_cl th_in (by decide) (Nat.le_of_ble_eq_true rfl) (by decide) (by decide) rfl
set_option maxHeartbeats 8000000 in
theorem x_PG_wire_1_out {G : GX} {M : List va_E} (hNT : G.1.stackTraces = false) (hgo : GO M 61 264) {s us b x : Nat} {t : Nat → Bool} {C : List (List UInt8)} {i : Nat} (hs : s < 4) (hi : (cg C 0).length ≤ i) (hi2 : i < 2147483648) (hse : SES M s us t C b x) : CTx G mt_PG_wire [.ref 61, .int (nI s), .int (nI 1), .int (nI i)] M (fun _ M' => M' = M) := by
  refine CTx.of hNT (by decide) (Nat.le_of_ble_eq_true rfl) ?_
  show TG ZX G mt_PG_wire 0 [(0, .ref 61), (1, .int (nI s)), (2, .int (nI 1)), (3, .int (nI i))] [] M 0 0 _
  refine G_aload_n (v := .ref 61) d_PG_wire_0 rfl (Or.inr ⟨_, rfl⟩) ?_
  refine G_iload_n d_PG_wire_1 rfl ?_
  refine G_iload_n d_PG_wire_2 rfl ?_
  refine G_iload_n d_PG_wire_3 rfl ?_
  refine G_virtual (as := [.int (nI s), .int (nI 1), .int (nI i)]) (rest := []) (b := 61) d_PG_wire_4 rfl (jw_PG_isOnWire.jo (by decide)) lm_PG_154 ji_PG_isOnWire js_PG_isOnWire hgo.1 rfl rfl rfl (Nat.le_of_ble_eq_true rfl) (by decide) (by decide) (y_PG_isOnWire_1_out hs hi hi2 hgo hse) (fun r M1 hq => ?_)
  obtain ⟨rfl, he⟩ := hq
  obtain rfl := he.symm
  show TG ZX G mt_PG_wire 7 [(0, .ref 61), (1, .int (nI s)), (2, .int (nI 1)), (3, .int (nI i))] [.int (nI 0)] M 0 0 _
  refine G_if_ne d_PG_wire_7 (tgt := 18) rfl (fun c => absurd (show nI 0 = 0 from rfl) c) (fun _ => ?_)
  exact G_throw rfl d_PG_wire_10 d_PG_wire_13 d_PG_wire_14 d_PG_wire_17 th_cl th_in (by decide) (Nat.le_of_ble_eq_true rfl) (by decide) (by decide) rfl
set_option maxHeartbeats 8000000 in
theorem x_PG_wire_1_neg {G : GX} {M : List va_E} (hNT : G.1.stackTraces = false) (hgo : GO M 61 264) {s us b x : Nat} {t : Nat → Bool} {C : List (List UInt8)} {z : Int32} (hs : s < 4) (hz : z < 0) (hse : SES M s us t C b x) : CTx G mt_PG_wire [.ref 61, .int (nI s), .int (nI 1), .int z] M (fun _ M' => M' = M) := by
  refine CTx.of hNT (by decide) (Nat.le_of_ble_eq_true rfl) ?_
  show TG ZX G mt_PG_wire 0 [(0, .ref 61), (1, .int (nI s)), (2, .int (nI 1)), (3, .int z)] [] M 0 0 _
  refine G_aload_n (v := .ref 61) d_PG_wire_0 rfl (Or.inr ⟨_, rfl⟩) ?_
  refine G_iload_n d_PG_wire_1 rfl ?_
  refine G_iload_n d_PG_wire_2 rfl ?_
  refine G_iload_n d_PG_wire_3 rfl ?_
  refine G_virtual (as := [.int (nI s), .int (nI 1), .int z]) (rest := []) (b := 61) d_PG_wire_4 rfl (jw_PG_isOnWire.jo (by decide)) lm_PG_154 ji_PG_isOnWire js_PG_isOnWire hgo.1 rfl rfl rfl (Nat.le_of_ble_eq_true rfl) (by decide) (by decide) (y_PG_isOnWire_1_neg hs hz hgo hse) (fun r M1 hq => ?_)
  obtain ⟨rfl, he⟩ := hq
  obtain rfl := he.symm
  show TG ZX G mt_PG_wire 7 [(0, .ref 61), (1, .int (nI s)), (2, .int (nI 1)), (3, .int z)] [.int (nI 0)] M 0 0 _
  refine G_if_ne d_PG_wire_7 (tgt := 18) rfl (fun c => absurd (show nI 0 = 0 from rfl) c) (fun _ => ?_)
  exact G_throw rfl d_PG_wire_10 d_PG_wire_13 d_PG_wire_14 d_PG_wire_17 th_cl th_in (by decide) (Nat.le_of_ble_eq_true rfl) (by decide) (by decide) rfl
set_option maxHeartbeats 8000000 in
theorem x_PG_wire_2_out {G : GX} {M : List va_E} (hNT : G.1.stackTraces = false) (hgo : GO M 61 264) {s us b x : Nat} {t : Nat → Bool} {C : List (List UInt8)} {i : Nat} (hs : s < 4) (hi : (cg C 1).length ≤ i) (hi2 : i < 2147483648) (hse : SES M s us t C b x) : CTx G mt_PG_wire [.ref 61, .int (nI s), .int (nI 2), .int (nI i)] M (fun _ M' => M' = M) := by
  refine CTx.of hNT (by decide) (Nat.le_of_ble_eq_true rfl) ?_
  show TG ZX G mt_PG_wire 0 [(0, .ref 61), (1, .int (nI s)), (2, .int (nI 2)), (3, .int (nI i))] [] M 0 0 _
  refine G_aload_n (v := .ref 61) d_PG_wire_0 rfl (Or.inr ⟨_, rfl⟩) ?_
  refine G_iload_n d_PG_wire_1 rfl ?_
  refine G_iload_n d_PG_wire_2 rfl ?_
  refine G_iload_n d_PG_wire_3 rfl ?_
  refine G_virtual (as := [.int (nI s), .int (nI 2), .int (nI i)]) (rest := []) (b := 61) d_PG_wire_4 rfl (jw_PG_isOnWire.jo (by decide)) lm_PG_154 ji_PG_isOnWire js_PG_isOnWire hgo.1 rfl rfl rfl (Nat.le_of_ble_eq_true rfl) (by decide) (by decide) (y_PG_isOnWire_2_out hs hi hi2 hgo hse) (fun r M1 hq => ?_)
  obtain ⟨rfl, he⟩ := hq
  obtain rfl := he.symm
  show TG ZX G mt_PG_wire 7 [(0, .ref 61), (1, .int (nI s)), (2, .int (nI 2)), (3, .int (nI i))] [.int (nI 0)] M 0 0 _
  refine G_if_ne d_PG_wire_7 (tgt := 18) rfl (fun c => absurd (show nI 0 = 0 from rfl) c) (fun _ => ?_)
  exact G_throw rfl d_PG_wire_10 d_PG_wire_13 d_PG_wire_14 d_PG_wire_17 th_cl th_in (by decide) (Nat.le_of_ble_eq_true rfl) (by decide) (by decide) rfl
set_option maxHeartbeats 8000000 in
theorem x_PG_wire_2_neg {G : GX} {M : List va_E} (hNT : G.1.stackTraces = false) (hgo : GO M 61 264) {s us b x : Nat} {t : Nat → Bool} {C : List (List UInt8)} {z : Int32} (hs : s < 4) (hz : z < 0) (hse : SES M s us t C b x) : CTx G mt_PG_wire [.ref 61, .int (nI s), .int (nI 2), .int z] M (fun _ M' => M' = M) := by
  refine CTx.of hNT (by decide) (Nat.le_of_ble_eq_true rfl) ?_
  show TG ZX G mt_PG_wire 0 [(0, .ref 61), (1, .int (nI s)), (2, .int (nI 2)), (3, .int z)] [] M 0 0 _
  refine G_aload_n (v := .ref 61) d_PG_wire_0 rfl (Or.inr ⟨_, rfl⟩) ?_
  refine G_iload_n d_PG_wire_1 rfl ?_
  refine G_iload_n d_PG_wire_2 rfl ?_
  refine G_iload_n d_PG_wire_3 rfl ?_
  refine G_virtual (as := [.int (nI s), .int (nI 2), .int z]) (rest := []) (b := 61) d_PG_wire_4 rfl (jw_PG_isOnWire.jo (by decide)) lm_PG_154 ji_PG_isOnWire js_PG_isOnWire hgo.1 rfl rfl rfl (Nat.le_of_ble_eq_true rfl) (by decide) (by decide) (y_PG_isOnWire_2_neg hs hz hgo hse) (fun r M1 hq => ?_)
  obtain ⟨rfl, he⟩ := hq
  obtain rfl := he.symm
  show TG ZX G mt_PG_wire 7 [(0, .ref 61), (1, .int (nI s)), (2, .int (nI 2)), (3, .int z)] [.int (nI 0)] M 0 0 _
  refine G_if_ne d_PG_wire_7 (tgt := 18) rfl (fun c => absurd (show nI 0 = 0 from rfl) c) (fun _ => ?_)
  exact G_throw rfl d_PG_wire_10 d_PG_wire_13 d_PG_wire_14 d_PG_wire_17 th_cl th_in (by decide) (Nat.le_of_ble_eq_true rfl) (by decide) (by decide) rfl
set_option maxHeartbeats 8000000 in
theorem x_PG_wire_3_out {G : GX} {M : List va_E} (hNT : G.1.stackTraces = false) (hgo : GO M 61 264) {s us b x : Nat} {t : Nat → Bool} {C : List (List UInt8)} {i : Nat} (hs : s < 4) (hi : (cg C 2).length ≤ i) (hi2 : i < 2147483648) (hse : SES M s us t C b x) : CTx G mt_PG_wire [.ref 61, .int (nI s), .int (nI 3), .int (nI i)] M (fun _ M' => M' = M) := by
  refine CTx.of hNT (by decide) (Nat.le_of_ble_eq_true rfl) ?_
  show TG ZX G mt_PG_wire 0 [(0, .ref 61), (1, .int (nI s)), (2, .int (nI 3)), (3, .int (nI i))] [] M 0 0 _
  refine G_aload_n (v := .ref 61) d_PG_wire_0 rfl (Or.inr ⟨_, rfl⟩) ?_
  refine G_iload_n d_PG_wire_1 rfl ?_
  refine G_iload_n d_PG_wire_2 rfl ?_
  refine G_iload_n d_PG_wire_3 rfl ?_
  refine G_virtual (as := [.int (nI s), .int (nI 3), .int (nI i)]) (rest := []) (b := 61) d_PG_wire_4 rfl (jw_PG_isOnWire.jo (by decide)) lm_PG_154 ji_PG_isOnWire js_PG_isOnWire hgo.1 rfl rfl rfl (Nat.le_of_ble_eq_true rfl) (by decide) (by decide) (y_PG_isOnWire_3_out hs hi hi2 hgo hse) (fun r M1 hq => ?_)
  obtain ⟨rfl, he⟩ := hq
  obtain rfl := he.symm
  show TG ZX G mt_PG_wire 7 [(0, .ref 61), (1, .int (nI s)), (2, .int (nI 3)), (3, .int (nI i))] [.int (nI 0)] M 0 0 _
  refine G_if_ne d_PG_wire_7 (tgt := 18) rfl (fun c => absurd (show nI 0 = 0 from rfl) c) (fun _ => ?_)
  exact G_throw rfl d_PG_wire_10 d_PG_wire_13 d_PG_wire_14 d_PG_wire_17 th_cl th_in (by decide) (Nat.le_of_ble_eq_true rfl) (by decide) (by decide) rfl
set_option maxHeartbeats 8000000 in
theorem x_PG_wire_3_neg {G : GX} {M : List va_E} (hNT : G.1.stackTraces = false) (hgo : GO M 61 264) {s us b x : Nat} {t : Nat → Bool} {C : List (List UInt8)} {z : Int32} (hs : s < 4) (hz : z < 0) (hse : SES M s us t C b x) : CTx G mt_PG_wire [.ref 61, .int (nI s), .int (nI 3), .int z] M (fun _ M' => M' = M) := by
  refine CTx.of hNT (by decide) (Nat.le_of_ble_eq_true rfl) ?_
  show TG ZX G mt_PG_wire 0 [(0, .ref 61), (1, .int (nI s)), (2, .int (nI 3)), (3, .int z)] [] M 0 0 _
  refine G_aload_n (v := .ref 61) d_PG_wire_0 rfl (Or.inr ⟨_, rfl⟩) ?_
  refine G_iload_n d_PG_wire_1 rfl ?_
  refine G_iload_n d_PG_wire_2 rfl ?_
  refine G_iload_n d_PG_wire_3 rfl ?_
  refine G_virtual (as := [.int (nI s), .int (nI 3), .int z]) (rest := []) (b := 61) d_PG_wire_4 rfl (jw_PG_isOnWire.jo (by decide)) lm_PG_154 ji_PG_isOnWire js_PG_isOnWire hgo.1 rfl rfl rfl (Nat.le_of_ble_eq_true rfl) (by decide) (by decide) (y_PG_isOnWire_3_neg hs hz hgo hse) (fun r M1 hq => ?_)
  obtain ⟨rfl, he⟩ := hq
  obtain rfl := he.symm
  show TG ZX G mt_PG_wire 7 [(0, .ref 61), (1, .int (nI s)), (2, .int (nI 3)), (3, .int z)] [.int (nI 0)] M 0 0 _
  refine G_if_ne d_PG_wire_7 (tgt := 18) rfl (fun c => absurd (show nI 0 = 0 from rfl) c) (fun _ => ?_)
  exact G_throw rfl d_PG_wire_10 d_PG_wire_13 d_PG_wire_14 d_PG_wire_17 th_cl th_in (by decide) (Nat.le_of_ble_eq_true rfl) (by decide) (by decide) rfl
set_option maxHeartbeats 8000000 in
theorem x_PG_key_sneg {G : GX} {M : List va_E} (hNT : G.1.stackTraces = false) (hgo : GO M 61 264) {x y z : Int32} (hx : x < 0) : CTx G mt_PG_key [.ref 61, .int x, .int y, .int z] M (fun _ M' => M' = M) := by
  refine CTx.of hNT (by decide) (Nat.le_of_ble_eq_true rfl) ?_
  show TG ZX G mt_PG_key 0 [(0, .ref 61), (1, .int x), (2, .int y), (3, .int z)] [] M 0 0 _
  refine G_iload_n d_PG_key_0 rfl ?_
  refine G_static (as := [.int x]) (rest := []) d_PG_key_1 rfl (jw_PG_isSession.jo (by decide)) lm_PG_133 jt_PG_isSession rfl (Nat.le_of_ble_eq_true rfl) (by decide) (by decide) (y_PG_isSession_neg hx) (fun r M1 hq => ?_)
  obtain ⟨rfl, he⟩ := hq
  obtain rfl := he.symm
  show TG ZX G mt_PG_key 4 [(0, .ref 61), (1, .int x), (2, .int y), (3, .int z)] [.int (nI 0)] M 0 0 _
  refine G_if_eq d_PG_key_4 (tgt := 34) rfl (fun _ => ?_) (fun c => absurd (show nI 0 = 0 from rfl) c)
  exact G_throw rfl d_PG_key_34 d_PG_key_37 d_PG_key_38 d_PG_key_41 th_cl th_in (by decide) (Nat.le_of_ble_eq_true rfl) (by decide) (by decide) rfl
set_option maxHeartbeats 8000000 in
theorem x_PG_key_sbig {G : GX} {M : List va_E} (hNT : G.1.stackTraces = false) (hgo : GO M 61 264) {x y z : Int32} (h0 : ¬ x < 0) (hx : nI 4 ≤ x) : CTx G mt_PG_key [.ref 61, .int x, .int y, .int z] M (fun _ M' => M' = M) := by
  refine CTx.of hNT (by decide) (Nat.le_of_ble_eq_true rfl) ?_
  show TG ZX G mt_PG_key 0 [(0, .ref 61), (1, .int x), (2, .int y), (3, .int z)] [] M 0 0 _
  refine G_iload_n d_PG_key_0 rfl ?_
  refine G_static (as := [.int x]) (rest := []) d_PG_key_1 rfl (jw_PG_isSession.jo (by decide)) lm_PG_133 jt_PG_isSession rfl (Nat.le_of_ble_eq_true rfl) (by decide) (by decide) (y_PG_isSession_big h0 hx) (fun r M1 hq => ?_)
  obtain ⟨rfl, he⟩ := hq
  obtain rfl := he.symm
  show TG ZX G mt_PG_key 4 [(0, .ref 61), (1, .int x), (2, .int y), (3, .int z)] [.int (nI 0)] M 0 0 _
  refine G_if_eq d_PG_key_4 (tgt := 34) rfl (fun _ => ?_) (fun c => absurd (show nI 0 = 0 from rfl) c)
  exact G_throw rfl d_PG_key_34 d_PG_key_37 d_PG_key_38 d_PG_key_41 th_cl th_in (by decide) (Nat.le_of_ble_eq_true rfl) (by decide) (by decide) rfl
set_option maxHeartbeats 8000000 in
theorem x_PG_key_dneg {G : GX} {M : List va_E} (hNT : G.1.stackTraces = false) (hgo : GO M 61 264) {s : Nat} {y z : Int32} (hs : s < 4) (hy : y < 0) : CTx G mt_PG_key [.ref 61, .int (nI s), .int y, .int z] M (fun _ M' => M' = M) := by
  refine CTx.of hNT (by decide) (Nat.le_of_ble_eq_true rfl) ?_
  show TG ZX G mt_PG_key 0 [(0, .ref 61), (1, .int (nI s)), (2, .int y), (3, .int z)] [] M 0 0 _
  refine G_iload_n d_PG_key_0 rfl ?_
  refine G_static (as := [.int (nI s)]) (rest := []) d_PG_key_1 rfl (jw_PG_isSession.jo (by decide)) lm_PG_133 jt_PG_isSession rfl (Nat.le_of_ble_eq_true rfl) (by decide) (by decide) (y_PG_isSession_in hs) (fun r M1 hq => ?_)
  obtain ⟨rfl, he⟩ := hq
  obtain rfl := he.symm
  show TG ZX G mt_PG_key 4 [(0, .ref 61), (1, .int (nI s)), (2, .int y), (3, .int z)] [.int (nI 1)] M 0 0 _
  refine G_if_eq d_PG_key_4 (tgt := 34) rfl (fun c => absurd c (by decide)) (fun _ => ?_)
  refine G_iload_n d_PG_key_7 rfl ?_
  refine G_if_lt d_PG_key_8 (tgt := 34) rfl (fun _ => ?_) (fun c => absurd hy c)
  exact G_throw rfl d_PG_key_34 d_PG_key_37 d_PG_key_38 d_PG_key_41 th_cl th_in (by decide) (Nat.le_of_ble_eq_true rfl) (by decide) (by decide) rfl
set_option maxHeartbeats 8000000 in
theorem x_PG_key_dbig {G : GX} {M : List va_E} (hNT : G.1.stackTraces = false) (hgo : GO M 61 264) {s : Nat} {y z : Int32} (hs : s < 4) (hy0 : ¬ y < 0) (hy : nI 2 < y) : CTx G mt_PG_key [.ref 61, .int (nI s), .int y, .int z] M (fun _ M' => M' = M) := by
  refine CTx.of hNT (by decide) (Nat.le_of_ble_eq_true rfl) ?_
  show TG ZX G mt_PG_key 0 [(0, .ref 61), (1, .int (nI s)), (2, .int y), (3, .int z)] [] M 0 0 _
  refine G_iload_n d_PG_key_0 rfl ?_
  refine G_static (as := [.int (nI s)]) (rest := []) d_PG_key_1 rfl (jw_PG_isSession.jo (by decide)) lm_PG_133 jt_PG_isSession rfl (Nat.le_of_ble_eq_true rfl) (by decide) (by decide) (y_PG_isSession_in hs) (fun r M1 hq => ?_)
  obtain ⟨rfl, he⟩ := hq
  obtain rfl := he.symm
  show TG ZX G mt_PG_key 4 [(0, .ref 61), (1, .int (nI s)), (2, .int y), (3, .int z)] [.int (nI 1)] M 0 0 _
  refine G_if_eq d_PG_key_4 (tgt := 34) rfl (fun c => absurd c (by decide)) (fun _ => ?_)
  refine G_iload_n d_PG_key_7 rfl ?_
  refine G_if_lt d_PG_key_8 (tgt := 34) rfl (fun c => absurd c hy0) (fun _ => ?_)
  refine G_iload_n d_PG_key_11 rfl ?_
  refine G_iconst (v := nI 2) d_PG_key_12 (by decide) ?_
  refine G_icmp_gt d_PG_key_13 (tgt := 34) rfl (fun _ => ?_) (fun c => absurd hy c)
  exact G_throw rfl d_PG_key_34 d_PG_key_37 d_PG_key_38 d_PG_key_41 th_cl th_in (by decide) (Nat.le_of_ble_eq_true rfl) (by decide) (by decide) rfl
set_option maxHeartbeats 8000000 in
theorem x_PG_key_0_out {G : GX} {M : List va_E} (hNT : G.1.stackTraces = false) (hgo : GO M 61 264) {s us b x : Nat} {t : Nat → Bool} {C : List (List UInt8)} {i : Nat} (hs : s < 4) (hi : (cg C 3).length ≤ i) (hi2 : i < 2147483648) (hse : SES M s us t C b x) : CTx G mt_PG_key [.ref 61, .int (nI s), .int (nI 0), .int (nI i)] M (fun _ M' => M' = M) := by
  refine CTx.of hNT (by decide) (Nat.le_of_ble_eq_true rfl) ?_
  show TG ZX G mt_PG_key 0 [(0, .ref 61), (1, .int (nI s)), (2, .int (nI 0)), (3, .int (nI i))] [] M 0 0 _
  refine G_iload_n d_PG_key_0 rfl ?_
  refine G_static (as := [.int (nI s)]) (rest := []) d_PG_key_1 rfl (jw_PG_isSession.jo (by decide)) lm_PG_133 jt_PG_isSession rfl (Nat.le_of_ble_eq_true rfl) (by decide) (by decide) (y_PG_isSession_in hs) (fun r M1 hq => ?_)
  obtain ⟨rfl, he⟩ := hq
  obtain rfl := he.symm
  show TG ZX G mt_PG_key 4 [(0, .ref 61), (1, .int (nI s)), (2, .int (nI 0)), (3, .int (nI i))] [.int (nI 1)] M 0 0 _
  refine G_if_eq d_PG_key_4 (tgt := 34) rfl (fun c => absurd c (by decide)) (fun _ => ?_)
  refine G_iload_n d_PG_key_7 rfl ?_
  refine G_if_lt d_PG_key_8 (tgt := 34) rfl (fun c => absurd c (by decide)) (fun _ => ?_)
  refine G_iload_n d_PG_key_11 rfl ?_
  refine G_iconst (v := nI 2) d_PG_key_12 (by decide) ?_
  refine G_icmp_gt d_PG_key_13 (tgt := 34) rfl (fun c => absurd c (by decide)) (fun _ => ?_)
  refine G_aload_n (v := .ref 61) d_PG_key_16 rfl (Or.inr ⟨_, rfl⟩) ?_
  refine G_getfield d_PG_key_17 fg_PG_34 hgo.1 rfl ?_
  refine G_iload_n d_PG_key_20 rfl ?_
  refine NG_aaload (k := s) (p := 265 + 26 * s) (C0 := "PasswordGate$Session") d_PG_key_21 (by decide) hgo.2 rfl hs (by decide) (by unfold seF; rw [if_pos hs]) ?_
  refine G_getfield d_PG_key_22 fg_PG_162 hse.1.1 rfl ?_
  refine G_iload_n d_PG_key_25 rfl ?_
  refine NG_aaload (k := 0) (p := 285 + 26 * s) (C0 := "PasswordGate$Bytes") d_PG_key_26 (show K0 ≤ 267 + 26 * s from Nat.le_trans (by decide) (Nat.le_add_right 267 _)) hse.1.2.2 rfl (by decide) (by decide) rfl ?_
  refine G_iload_n d_PG_key_27 rfl ?_
  refine G_virtual (as := [.int (nI i)]) (rest := []) (b := 285 + 26 * s) d_PG_key_28 rfl (jw_By_has.jo (by decide)) lm_PG_119 ji_By_has js_By_has hse.2.2.2.2.1.1 rfl rfl rfl (Nat.le_of_ble_eq_true rfl) (by decide) (by decide) (y_By_has_out hse.2.2.2.2.1 hi hi2 (by decide)) (fun r M1 hq => ?_)
  obtain ⟨rfl, he⟩ := hq
  obtain rfl := he.symm
  show TG ZX G mt_PG_key 31 [(0, .ref 61), (1, .int (nI s)), (2, .int (nI 0)), (3, .int (nI i))] [.int (nI 0)] M 0 0 _
  refine G_if_ne d_PG_key_31 (tgt := 42) rfl (fun c => absurd (show nI 0 = 0 from rfl) c) (fun _ => ?_)
  exact G_throw rfl d_PG_key_34 d_PG_key_37 d_PG_key_38 d_PG_key_41 th_cl th_in (by decide) (Nat.le_of_ble_eq_true rfl) (by decide) (by decide) rfl
set_option maxHeartbeats 8000000 in
theorem x_PG_key_0_neg {G : GX} {M : List va_E} (hNT : G.1.stackTraces = false) (hgo : GO M 61 264) {s us b x : Nat} {t : Nat → Bool} {C : List (List UInt8)} {z : Int32} (hs : s < 4) (hz : z < 0) (hse : SES M s us t C b x) : CTx G mt_PG_key [.ref 61, .int (nI s), .int (nI 0), .int z] M (fun _ M' => M' = M) := by
  refine CTx.of hNT (by decide) (Nat.le_of_ble_eq_true rfl) ?_
  show TG ZX G mt_PG_key 0 [(0, .ref 61), (1, .int (nI s)), (2, .int (nI 0)), (3, .int z)] [] M 0 0 _
  refine G_iload_n d_PG_key_0 rfl ?_
  refine G_static (as := [.int (nI s)]) (rest := []) d_PG_key_1 rfl (jw_PG_isSession.jo (by decide)) lm_PG_133 jt_PG_isSession rfl (Nat.le_of_ble_eq_true rfl) (by decide) (by decide) (y_PG_isSession_in hs) (fun r M1 hq => ?_)
  obtain ⟨rfl, he⟩ := hq
  obtain rfl := he.symm
  show TG ZX G mt_PG_key 4 [(0, .ref 61), (1, .int (nI s)), (2, .int (nI 0)), (3, .int z)] [.int (nI 1)] M 0 0 _
  refine G_if_eq d_PG_key_4 (tgt := 34) rfl (fun c => absurd c (by decide)) (fun _ => ?_)
  refine G_iload_n d_PG_key_7 rfl ?_
  refine G_if_lt d_PG_key_8 (tgt := 34) rfl (fun c => absurd c (by decide)) (fun _ => ?_)
  refine G_iload_n d_PG_key_11 rfl ?_
  refine G_iconst (v := nI 2) d_PG_key_12 (by decide) ?_
  refine G_icmp_gt d_PG_key_13 (tgt := 34) rfl (fun c => absurd c (by decide)) (fun _ => ?_)
  refine G_aload_n (v := .ref 61) d_PG_key_16 rfl (Or.inr ⟨_, rfl⟩) ?_
  refine G_getfield d_PG_key_17 fg_PG_34 hgo.1 rfl ?_
  refine G_iload_n d_PG_key_20 rfl ?_
  refine NG_aaload (k := s) (p := 265 + 26 * s) (C0 := "PasswordGate$Session") d_PG_key_21 (by decide) hgo.2 rfl hs (by decide) (by unfold seF; rw [if_pos hs]) ?_
  refine G_getfield d_PG_key_22 fg_PG_162 hse.1.1 rfl ?_
  refine G_iload_n d_PG_key_25 rfl ?_
  refine NG_aaload (k := 0) (p := 285 + 26 * s) (C0 := "PasswordGate$Bytes") d_PG_key_26 (show K0 ≤ 267 + 26 * s from Nat.le_trans (by decide) (Nat.le_add_right 267 _)) hse.1.2.2 rfl (by decide) (by decide) rfl ?_
  refine G_iload_n d_PG_key_27 rfl ?_
  refine G_virtual (as := [.int z]) (rest := []) (b := 285 + 26 * s) d_PG_key_28 rfl (jw_By_has.jo (by decide)) lm_PG_119 ji_By_has js_By_has hse.2.2.2.2.1.1 rfl rfl rfl (Nat.le_of_ble_eq_true rfl) (by decide) (by decide) (y_By_has_neg hse.2.2.2.2.1 hz) (fun r M1 hq => ?_)
  obtain ⟨rfl, he⟩ := hq
  obtain rfl := he.symm
  show TG ZX G mt_PG_key 31 [(0, .ref 61), (1, .int (nI s)), (2, .int (nI 0)), (3, .int z)] [.int (nI 0)] M 0 0 _
  refine G_if_ne d_PG_key_31 (tgt := 42) rfl (fun c => absurd (show nI 0 = 0 from rfl) c) (fun _ => ?_)
  exact G_throw rfl d_PG_key_34 d_PG_key_37 d_PG_key_38 d_PG_key_41 th_cl th_in (by decide) (Nat.le_of_ble_eq_true rfl) (by decide) (by decide) rfl
set_option maxHeartbeats 8000000 in
theorem x_PG_key_1_out {G : GX} {M : List va_E} (hNT : G.1.stackTraces = false) (hgo : GO M 61 264) {s us b x : Nat} {t : Nat → Bool} {C : List (List UInt8)} {i : Nat} (hs : s < 4) (hi : (cg C 4).length ≤ i) (hi2 : i < 2147483648) (hse : SES M s us t C b x) : CTx G mt_PG_key [.ref 61, .int (nI s), .int (nI 1), .int (nI i)] M (fun _ M' => M' = M) := by
  refine CTx.of hNT (by decide) (Nat.le_of_ble_eq_true rfl) ?_
  show TG ZX G mt_PG_key 0 [(0, .ref 61), (1, .int (nI s)), (2, .int (nI 1)), (3, .int (nI i))] [] M 0 0 _
  refine G_iload_n d_PG_key_0 rfl ?_
  refine G_static (as := [.int (nI s)]) (rest := []) d_PG_key_1 rfl (jw_PG_isSession.jo (by decide)) lm_PG_133 jt_PG_isSession rfl (Nat.le_of_ble_eq_true rfl) (by decide) (by decide) (y_PG_isSession_in hs) (fun r M1 hq => ?_)
  obtain ⟨rfl, he⟩ := hq
  obtain rfl := he.symm
  show TG ZX G mt_PG_key 4 [(0, .ref 61), (1, .int (nI s)), (2, .int (nI 1)), (3, .int (nI i))] [.int (nI 1)] M 0 0 _
  refine G_if_eq d_PG_key_4 (tgt := 34) rfl (fun c => absurd c (by decide)) (fun _ => ?_)
  refine G_iload_n d_PG_key_7 rfl ?_
  refine G_if_lt d_PG_key_8 (tgt := 34) rfl (fun c => absurd c (by decide)) (fun _ => ?_)
  refine G_iload_n d_PG_key_11 rfl ?_
  refine G_iconst (v := nI 2) d_PG_key_12 (by decide) ?_
  refine G_icmp_gt d_PG_key_13 (tgt := 34) rfl (fun c => absurd c (by decide)) (fun _ => ?_)
  refine G_aload_n (v := .ref 61) d_PG_key_16 rfl (Or.inr ⟨_, rfl⟩) ?_
  refine G_getfield d_PG_key_17 fg_PG_34 hgo.1 rfl ?_
  refine G_iload_n d_PG_key_20 rfl ?_
  refine NG_aaload (k := s) (p := 265 + 26 * s) (C0 := "PasswordGate$Session") d_PG_key_21 (by decide) hgo.2 rfl hs (by decide) (by unfold seF; rw [if_pos hs]) ?_
  refine G_getfield d_PG_key_22 fg_PG_162 hse.1.1 rfl ?_
  refine G_iload_n d_PG_key_25 rfl ?_
  refine NG_aaload (k := 1) (p := 287 + 26 * s) (C0 := "PasswordGate$Bytes") d_PG_key_26 (show K0 ≤ 267 + 26 * s from Nat.le_trans (by decide) (Nat.le_add_right 267 _)) hse.1.2.2 rfl (by decide) (by decide) rfl ?_
  refine G_iload_n d_PG_key_27 rfl ?_
  refine G_virtual (as := [.int (nI i)]) (rest := []) (b := 287 + 26 * s) d_PG_key_28 rfl (jw_By_has.jo (by decide)) lm_PG_119 ji_By_has js_By_has hse.2.2.2.2.2.1.1 rfl rfl rfl (Nat.le_of_ble_eq_true rfl) (by decide) (by decide) (y_By_has_out hse.2.2.2.2.2.1 hi hi2 (by decide)) (fun r M1 hq => ?_)
  obtain ⟨rfl, he⟩ := hq
  obtain rfl := he.symm
  show TG ZX G mt_PG_key 31 [(0, .ref 61), (1, .int (nI s)), (2, .int (nI 1)), (3, .int (nI i))] [.int (nI 0)] M 0 0 _
  refine G_if_ne d_PG_key_31 (tgt := 42) rfl (fun c => absurd (show nI 0 = 0 from rfl) c) (fun _ => ?_)
  exact G_throw rfl d_PG_key_34 d_PG_key_37 d_PG_key_38 d_PG_key_41 th_cl th_in (by decide) (Nat.le_of_ble_eq_true rfl) (by decide) (by decide) rfl
set_option maxHeartbeats 8000000 in
theorem x_PG_key_1_neg {G : GX} {M : List va_E} (hNT : G.1.stackTraces = false) (hgo : GO M 61 264) {s us b x : Nat} {t : Nat → Bool} {C : List (List UInt8)} {z : Int32} (hs : s < 4) (hz : z < 0) (hse : SES M s us t C b x) : CTx G mt_PG_key [.ref 61, .int (nI s), .int (nI 1), .int z] M (fun _ M' => M' = M) := by
  refine CTx.of hNT (by decide) (Nat.le_of_ble_eq_true rfl) ?_
  show TG ZX G mt_PG_key 0 [(0, .ref 61), (1, .int (nI s)), (2, .int (nI 1)), (3, .int z)] [] M 0 0 _
  refine G_iload_n d_PG_key_0 rfl ?_
  refine G_static (as := [.int (nI s)]) (rest := []) d_PG_key_1 rfl (jw_PG_isSession.jo (by decide)) lm_PG_133 jt_PG_isSession rfl (Nat.le_of_ble_eq_true rfl) (by decide) (by decide) (y_PG_isSession_in hs) (fun r M1 hq => ?_)
  obtain ⟨rfl, he⟩ := hq
  obtain rfl := he.symm
  show TG ZX G mt_PG_key 4 [(0, .ref 61), (1, .int (nI s)), (2, .int (nI 1)), (3, .int z)] [.int (nI 1)] M 0 0 _
  refine G_if_eq d_PG_key_4 (tgt := 34) rfl (fun c => absurd c (by decide)) (fun _ => ?_)
  refine G_iload_n d_PG_key_7 rfl ?_
  refine G_if_lt d_PG_key_8 (tgt := 34) rfl (fun c => absurd c (by decide)) (fun _ => ?_)
  refine G_iload_n d_PG_key_11 rfl ?_
  refine G_iconst (v := nI 2) d_PG_key_12 (by decide) ?_
  refine G_icmp_gt d_PG_key_13 (tgt := 34) rfl (fun c => absurd c (by decide)) (fun _ => ?_)
  refine G_aload_n (v := .ref 61) d_PG_key_16 rfl (Or.inr ⟨_, rfl⟩) ?_
  refine G_getfield d_PG_key_17 fg_PG_34 hgo.1 rfl ?_
  refine G_iload_n d_PG_key_20 rfl ?_
  refine NG_aaload (k := s) (p := 265 + 26 * s) (C0 := "PasswordGate$Session") d_PG_key_21 (by decide) hgo.2 rfl hs (by decide) (by unfold seF; rw [if_pos hs]) ?_
  refine G_getfield d_PG_key_22 fg_PG_162 hse.1.1 rfl ?_
  refine G_iload_n d_PG_key_25 rfl ?_
  refine NG_aaload (k := 1) (p := 287 + 26 * s) (C0 := "PasswordGate$Bytes") d_PG_key_26 (show K0 ≤ 267 + 26 * s from Nat.le_trans (by decide) (Nat.le_add_right 267 _)) hse.1.2.2 rfl (by decide) (by decide) rfl ?_
  refine G_iload_n d_PG_key_27 rfl ?_
  refine G_virtual (as := [.int z]) (rest := []) (b := 287 + 26 * s) d_PG_key_28 rfl (jw_By_has.jo (by decide)) lm_PG_119 ji_By_has js_By_has hse.2.2.2.2.2.1.1 rfl rfl rfl (Nat.le_of_ble_eq_true rfl) (by decide) (by decide) (y_By_has_neg hse.2.2.2.2.2.1 hz) (fun r M1 hq => ?_)
  obtain ⟨rfl, he⟩ := hq
  obtain rfl := he.symm
  show TG ZX G mt_PG_key 31 [(0, .ref 61), (1, .int (nI s)), (2, .int (nI 1)), (3, .int z)] [.int (nI 0)] M 0 0 _
  refine G_if_ne d_PG_key_31 (tgt := 42) rfl (fun c => absurd (show nI 0 = 0 from rfl) c) (fun _ => ?_)
  exact G_throw rfl d_PG_key_34 d_PG_key_37 d_PG_key_38 d_PG_key_41 th_cl th_in (by decide) (Nat.le_of_ble_eq_true rfl) (by decide) (by decide) rfl
set_option maxHeartbeats 8000000 in
theorem x_PG_key_2_out {G : GX} {M : List va_E} (hNT : G.1.stackTraces = false) (hgo : GO M 61 264) {s us b x : Nat} {t : Nat → Bool} {C : List (List UInt8)} {i : Nat} (hs : s < 4) (hi : (cg C 5).length ≤ i) (hi2 : i < 2147483648) (hse : SES M s us t C b x) : CTx G mt_PG_key [.ref 61, .int (nI s), .int (nI 2), .int (nI i)] M (fun _ M' => M' = M) := by
  refine CTx.of hNT (by decide) (Nat.le_of_ble_eq_true rfl) ?_
  show TG ZX G mt_PG_key 0 [(0, .ref 61), (1, .int (nI s)), (2, .int (nI 2)), (3, .int (nI i))] [] M 0 0 _
  refine G_iload_n d_PG_key_0 rfl ?_
  refine G_static (as := [.int (nI s)]) (rest := []) d_PG_key_1 rfl (jw_PG_isSession.jo (by decide)) lm_PG_133 jt_PG_isSession rfl (Nat.le_of_ble_eq_true rfl) (by decide) (by decide) (y_PG_isSession_in hs) (fun r M1 hq => ?_)
  obtain ⟨rfl, he⟩ := hq
  obtain rfl := he.symm
  show TG ZX G mt_PG_key 4 [(0, .ref 61), (1, .int (nI s)), (2, .int (nI 2)), (3, .int (nI i))] [.int (nI 1)] M 0 0 _
  refine G_if_eq d_PG_key_4 (tgt := 34) rfl (fun c => absurd c (by decide)) (fun _ => ?_)
  refine G_iload_n d_PG_key_7 rfl ?_
  refine G_if_lt d_PG_key_8 (tgt := 34) rfl (fun c => absurd c (by decide)) (fun _ => ?_)
  refine G_iload_n d_PG_key_11 rfl ?_
  refine G_iconst (v := nI 2) d_PG_key_12 (by decide) ?_
  refine G_icmp_gt d_PG_key_13 (tgt := 34) rfl (fun c => absurd c (by decide)) (fun _ => ?_)
  refine G_aload_n (v := .ref 61) d_PG_key_16 rfl (Or.inr ⟨_, rfl⟩) ?_
  refine G_getfield d_PG_key_17 fg_PG_34 hgo.1 rfl ?_
  refine G_iload_n d_PG_key_20 rfl ?_
  refine NG_aaload (k := s) (p := 265 + 26 * s) (C0 := "PasswordGate$Session") d_PG_key_21 (by decide) hgo.2 rfl hs (by decide) (by unfold seF; rw [if_pos hs]) ?_
  refine G_getfield d_PG_key_22 fg_PG_162 hse.1.1 rfl ?_
  refine G_iload_n d_PG_key_25 rfl ?_
  refine NG_aaload (k := 2) (p := 289 + 26 * s) (C0 := "PasswordGate$Bytes") d_PG_key_26 (show K0 ≤ 267 + 26 * s from Nat.le_trans (by decide) (Nat.le_add_right 267 _)) hse.1.2.2 rfl (by decide) (by decide) rfl ?_
  refine G_iload_n d_PG_key_27 rfl ?_
  refine G_virtual (as := [.int (nI i)]) (rest := []) (b := 289 + 26 * s) d_PG_key_28 rfl (jw_By_has.jo (by decide)) lm_PG_119 ji_By_has js_By_has hse.2.2.2.2.2.2.1.1 rfl rfl rfl (Nat.le_of_ble_eq_true rfl) (by decide) (by decide) (y_By_has_out hse.2.2.2.2.2.2.1 hi hi2 (by decide)) (fun r M1 hq => ?_)
  obtain ⟨rfl, he⟩ := hq
  obtain rfl := he.symm
  show TG ZX G mt_PG_key 31 [(0, .ref 61), (1, .int (nI s)), (2, .int (nI 2)), (3, .int (nI i))] [.int (nI 0)] M 0 0 _
  refine G_if_ne d_PG_key_31 (tgt := 42) rfl (fun c => absurd (show nI 0 = 0 from rfl) c) (fun _ => ?_)
  exact G_throw rfl d_PG_key_34 d_PG_key_37 d_PG_key_38 d_PG_key_41 th_cl th_in (by decide) (Nat.le_of_ble_eq_true rfl) (by decide) (by decide) rfl
set_option maxHeartbeats 8000000 in
theorem x_PG_key_2_neg {G : GX} {M : List va_E} (hNT : G.1.stackTraces = false) (hgo : GO M 61 264) {s us b x : Nat} {t : Nat → Bool} {C : List (List UInt8)} {z : Int32} (hs : s < 4) (hz : z < 0) (hse : SES M s us t C b x) : CTx G mt_PG_key [.ref 61, .int (nI s), .int (nI 2), .int z] M (fun _ M' => M' = M) := by
  refine CTx.of hNT (by decide) (Nat.le_of_ble_eq_true rfl) ?_
  show TG ZX G mt_PG_key 0 [(0, .ref 61), (1, .int (nI s)), (2, .int (nI 2)), (3, .int z)] [] M 0 0 _
  refine G_iload_n d_PG_key_0 rfl ?_
  refine G_static (as := [.int (nI s)]) (rest := []) d_PG_key_1 rfl (jw_PG_isSession.jo (by decide)) lm_PG_133 jt_PG_isSession rfl (Nat.le_of_ble_eq_true rfl) (by decide) (by decide) (y_PG_isSession_in hs) (fun r M1 hq => ?_)
  obtain ⟨rfl, he⟩ := hq
  obtain rfl := he.symm
  show TG ZX G mt_PG_key 4 [(0, .ref 61), (1, .int (nI s)), (2, .int (nI 2)), (3, .int z)] [.int (nI 1)] M 0 0 _
  refine G_if_eq d_PG_key_4 (tgt := 34) rfl (fun c => absurd c (by decide)) (fun _ => ?_)
  refine G_iload_n d_PG_key_7 rfl ?_
  refine G_if_lt d_PG_key_8 (tgt := 34) rfl (fun c => absurd c (by decide)) (fun _ => ?_)
  refine G_iload_n d_PG_key_11 rfl ?_
  refine G_iconst (v := nI 2) d_PG_key_12 (by decide) ?_
  refine G_icmp_gt d_PG_key_13 (tgt := 34) rfl (fun c => absurd c (by decide)) (fun _ => ?_)
  refine G_aload_n (v := .ref 61) d_PG_key_16 rfl (Or.inr ⟨_, rfl⟩) ?_
  refine G_getfield d_PG_key_17 fg_PG_34 hgo.1 rfl ?_
  refine G_iload_n d_PG_key_20 rfl ?_
  refine NG_aaload (k := s) (p := 265 + 26 * s) (C0 := "PasswordGate$Session") d_PG_key_21 (by decide) hgo.2 rfl hs (by decide) (by unfold seF; rw [if_pos hs]) ?_
  refine G_getfield d_PG_key_22 fg_PG_162 hse.1.1 rfl ?_
  refine G_iload_n d_PG_key_25 rfl ?_
  refine NG_aaload (k := 2) (p := 289 + 26 * s) (C0 := "PasswordGate$Bytes") d_PG_key_26 (show K0 ≤ 267 + 26 * s from Nat.le_trans (by decide) (Nat.le_add_right 267 _)) hse.1.2.2 rfl (by decide) (by decide) rfl ?_
  refine G_iload_n d_PG_key_27 rfl ?_
  refine G_virtual (as := [.int z]) (rest := []) (b := 289 + 26 * s) d_PG_key_28 rfl (jw_By_has.jo (by decide)) lm_PG_119 ji_By_has js_By_has hse.2.2.2.2.2.2.1.1 rfl rfl rfl (Nat.le_of_ble_eq_true rfl) (by decide) (by decide) (y_By_has_neg hse.2.2.2.2.2.2.1 hz) (fun r M1 hq => ?_)
  obtain ⟨rfl, he⟩ := hq
  obtain rfl := he.symm
  show TG ZX G mt_PG_key 31 [(0, .ref 61), (1, .int (nI s)), (2, .int (nI 2)), (3, .int z)] [.int (nI 0)] M 0 0 _
  refine G_if_ne d_PG_key_31 (tgt := 42) rfl (fun c => absurd (show nI 0 = 0 from rfl) c) (fun _ => ?_)
  exact G_throw rfl d_PG_key_34 d_PG_key_37 d_PG_key_38 d_PG_key_41 th_cl th_in (by decide) (Nat.le_of_ble_eq_true rfl) (by decide) (by decide) rfl
def RLt (th : Nat) (M : List va_E) : Prop := ∃ sd ch tx rs rec us t C b x, CSt M sd ch tx rs rec us t C b x ∧ RSt M sd ch tx rs rec us t C b x th ∧ (∀ s, s < 4 → SIv (us s) (t s) (C s) (b s) (x s)) ∧ (∀ u, u < 8 → RCv (rec u)) ∧ ∃ f, M[451]? = some (.inl (0, 1, .inr (.inl f)))
theorem RLt.rl {th : Nat} {M : List va_E} (h : RLt th M) : RL M := by
  obtain ⟨sd, ch, tx, rs, rec, us, t, C, b, x, h⟩ := h
  exact ⟨sd, ch, tx, rs, rec, us, t, C, b, x, th, h⟩
def PXm (G : GX) (mt m1 m2 : MI) (as : List Value) (M : List va_E) : Prop :=
  (CTx G mt (.ref 61 :: as) M (fun _ M' => M' = M) ∧ CT G m2 (.ref 373 :: as) M (fun r' M'' => (∃ z : Int32, r' = some (.int z)) ∧ RLt 1 M'')) ∨ ∃ r : Int32, CT G m1 (.ref 61 :: as) M (fun r' M' => r' = some (.int r) ∧ M' = M) ∧ ∀ M' f, Kp [451] M M' → M'[451]? = some (.inl (0, 1, .inr (.inl f))) → CT G m2 (.ref 373 :: as) M' (fun r' M'' => r' = some (.int r) ∧ M''[451]? = some (.inl (0, 1, .inr (.inl f))) ∧ RLt 0 M'')
theorem ix_m (y : Int32) : y < nI 1 ∨ (¬ y < nI 1 ∧ nI 3 < y) ∨ y = nI 1 ∨ y = nI 2 ∨ y = nI 3 := by
  rcases ix_z y with h | ⟨n, hn, rfl⟩
  · exact Or.inl (Int32.lt_trans h (by decide))
  · have e : ∀ k, k < 2147483648 → (nI k).toInt = (k : Int) := fun k hk => by unfold nI; exact Int32.toInt_ofNat_of_lt hk
    have h5 : n = 0 ∨ n = 1 ∨ n = 2 ∨ n = 3 ∨ 3 < n := by omega
    rcases h5 with rfl | rfl | rfl | rfl | h
    · exact Or.inl (by decide)
    · exact Or.inr (Or.inr (Or.inl rfl))
    · exact Or.inr (Or.inr (Or.inr (Or.inl rfl)))
    · exact Or.inr (Or.inr (Or.inr (Or.inr rfl)))
    · refine Or.inr (Or.inl ⟨?_, ?_⟩)
      · rw [Int32.lt_iff_toInt_lt, e n hn, e 1 (by decide)]; omega
      · rw [Int32.lt_iff_toInt_lt, e n hn, e 3 (by decide)]; omega
theorem ym_ne {y : Int32} (h : y < nI 1 ∨ nI 3 < y) : ¬ y = nI 1 ∧ ¬ y = nI 2 ∧ ¬ y = nI 3 := by
  refine ⟨?_, ?_, ?_⟩ <;> intro c <;> subst c <;> rcases h with h | h <;> exact absurd h (by decide)
