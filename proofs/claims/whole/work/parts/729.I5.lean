def wdg (g : Nat → UInt8) : Nat → Int64
  | 0 => 0
  | k + 1 => lsh (wdg g k) 8 ||| (bR (g k)).toInt64
theorem wdb_g (B : List UInt8) (a : Nat) (g : Nat → UInt8) (h : ∀ i, i < 8 → gd B (a + i) = g i) : ∀ k, k ≤ 8 → wdb B a k = wdg g k := by
  intro k
  induction k with
  | zero => intro _; rfl
  | succ k ih => intro hk; show lsh (wdb B a k) 8 ||| (bR (gd B (a + k))).toInt64 = lsh (wdg g k) 8 ||| (bR (g k)).toInt64; rw [ih (by omega), h k (by omega)]
theorem wdb_o (B l : List UInt8) (a : Nat) (h : ∀ i, i < 8 → bR (gd B (a + i)) = oc l (a + i)) : ∀ k, k ≤ 8 → wdb B a k = wd8 l a k := by
  intro k
  induction k with
  | zero => intro _; rfl
  | succ k ih => intro hk; show lsh (wdb B a k) 8 ||| (bR (gd B (a + k))).toInt64 = lsh (wd8 l a k) 8 ||| (oc l (a + k)).toInt64; rw [ih (by omega), h k (by omega)]
theorem bits_w0 : ∀ a, a < 63 → ∀ b, b < 64 → wdg (fun i => ltc (8 * (nI (64 * a + b)).toInt64) (7 - i)) 8 = 8 * (nI (64 * a + b)).toInt64 := by decide +kernel
theorem bits_w {n : Nat} (h : n < 4000) : wdg (fun i => ltc (8 * (nI n).toInt64) (7 - i)) 8 = 8 * (nI n).toInt64 := by
  have e := bits_w0 (n / 64) (by omega) (n % 64) (Nat.mod_lt _ (by decide))
  rw [Nat.div_add_mod] at e
  exact e
