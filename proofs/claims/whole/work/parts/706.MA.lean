def pm (n : Nat) : Nat → Nat → Nat → Nat
  | 0, _, _ => 1 % n
  | k + 1, a, e => if e % 2 = 1 then a * pm n k (a * a % n) (e / 2) % n else pm n k (a * a % n) (e / 2)
theorem pm_eq (n : Nat) : ∀ k a e, e < 2 ^ k → pm n k a e = a ^ e % n := by
  intro k
  induction k with
  | zero => intro a e h; obtain rfl : e = 0 := by omega
            rfl
  | succ k ih =>
    intro a e h
    have h2 : e / 2 < 2 ^ k := by rw [Nat.pow_succ] at h; omega
    have e2 : (a * a % n) ^ (e / 2) % n = a ^ (2 * (e / 2)) % n := by
      rw [← Nat.pow_mod, Nat.pow_mul, Nat.pow_two]
    unfold pm
    rw [ih _ _ h2, e2]
    by_cases c : e % 2 = 1
    · rw [if_pos c]
      rw [Nat.mul_mod, Nat.mod_mod, ← Nat.mul_mod, ← Nat.pow_succ']
      congr 2; omega
    · rw [if_neg c]; congr 2; omega
def Pr (n : Nat) : Prop := 2 ≤ n ∧ ∀ m, m ∣ n → m = 1 ∨ m = n
theorem Pr.co {p a : Nat} (h : Pr p) (n : ¬ p ∣ a) : Nat.Coprime p a := by
  rcases h.2 _ (Nat.gcd_dvd_left p a) with e | e
  · exact e
  · exact absurd (e ▸ Nat.gcd_dvd_right p a) n
theorem Pr.eu {p a b : Nat} (h : Pr p) (d : p ∣ a * b) : p ∣ a ∨ p ∣ b := by
  by_cases c : p ∣ a
  · exact Or.inl c
  · exact Or.inr ((h.co c).dvd_of_dvd_mul_left d)
theorem Pr.ex : ∀ n, 2 ≤ n → ∃ p, Pr p ∧ p ∣ n := by
  intro n
  induction n using Nat.strongRecOn with
  | _ n ih =>
    intro h
    by_cases c : Pr n
    · exact ⟨n, c, Nat.dvd_refl n⟩
    · have : ∃ m, m ∣ n ∧ m ≠ 1 ∧ m ≠ n := by
        refine Classical.byContradiction fun z => c ⟨h, fun m hm => ?_⟩
        by_cases a : m = 1
        · exact Or.inl a
        · by_cases b : m = n
          · exact Or.inr b
          · exact absurd ⟨m, hm, a, b⟩ z
      obtain ⟨m, hm, a, b⟩ := this
      have l := Nat.le_of_dvd (by omega) hm
      have : m ≠ 0 := fun z => by subst z; obtain ⟨w, e⟩ := hm; omega
      obtain ⟨p, hp, hd⟩ := ih m (by omega) (by omega)
      exact ⟨p, hp, Nat.dvd_trans hd hm⟩
theorem Pr.of {n : Nat} (h2 : 2 ≤ n) (h : ∀ p, Pr p → p ∣ n → n < p * p) : Pr n := by
  refine ⟨h2, fun m hm => ?_⟩
  by_cases a : m = 1
  · exact Or.inl a
  · obtain ⟨w, e⟩ := hm
    have m0 : m ≠ 0 := fun z => by subst z; omega
    have w0 : w ≠ 0 := fun z => by subst z; omega
    by_cases b : w = 1
    · right; subst b; omega
    · exfalso
      obtain ⟨p, hp, hd⟩ := Pr.ex m (by omega)
      obtain ⟨q, hq, he⟩ := Pr.ex w (by omega)
      have l1 := Nat.le_of_dvd (by omega) hd
      have l2 := Nat.le_of_dvd (by omega) he
      have b1 := h p hp (e ▸ Nat.dvd_mul_right_of_dvd hd w)
      have b2 := h q hq (e ▸ Nat.dvd_mul_left_of_dvd he m)
      rcases Nat.le_total p q with c | c
      · have := Nat.mul_le_mul l1 l2
        have := Nat.mul_le_mul (Nat.le_refl p) c
        omega
      · have := Nat.mul_le_mul l1 l2
        have := Nat.mul_le_mul c (Nat.le_refl q)
        omega
def ch : Nat → Nat → Nat
  | _, 0 => 1
  | 0, _ + 1 => 0
  | n + 1, k + 1 => ch n k + ch n (k + 1)
theorem ch_id : ∀ n k, (k + 1) * ch (n + 1) (k + 1) = (n + 1) * ch n k := by
  intro n
  induction n with
  | zero => intro k; cases k <;> simp [ch]
  | succ n ih =>
    intro k
    cases k with
    | zero =>
      have := ih 0
      rw [show ch (n + 1 + 1) (0 + 1) = ch (n + 1) 0 + ch (n + 1) (0 + 1) from rfl]
      simp only [ch] at *
      omega
    | succ k =>
      have a := ih k
      have b := ih (k + 1)
      rw [show ch (n + 1 + 1) (k + 1 + 1) = ch (n + 1) (k + 1) + ch (n + 1) (k + 1 + 1) from rfl]
      have c : ch (n + 1) (k + 1) = ch n k + ch n (k + 1) := rfl
      grind
theorem ch_0 : ∀ n k, n < k → ch n k = 0 := by
  intro n
  induction n with
  | zero => intro k h; cases k with | zero => omega | succ k => rfl
  | succ n ih => intro k h; cases k with | zero => omega | succ k => show ch n k + ch n (k + 1) = 0; rw [ih k (by omega), ih (k + 1) (by omega)]
theorem ch_n : ∀ n, ch n n = 1 := by
  intro n
  induction n with
  | zero => rfl
  | succ n ih => show ch n n + ch n (n + 1) = 1; rw [ih, ch_0 _ _ (by omega)]
def bs (a n : Nat) : Nat → Nat
  | 0 => 0
  | k + 1 => bs a n k + ch n k * a ^ k
theorem bs_up (a n : Nat) : ∀ k, bs a (n + 1) (k + 1) + ch n k * a ^ (k + 1) = (a + 1) * bs a n (k + 1) := by
  intro k
  induction k with
  | zero => simp [bs, ch]; omega
  | succ k ih =>
    rw [show bs a (n + 1) (k + 1 + 1) = bs a (n + 1) (k + 1) + ch (n + 1) (k + 1) * a ^ (k + 1) from rfl, show bs a n (k + 1 + 1) = bs a n (k + 1) + ch n (k + 1) * a ^ (k + 1) from rfl, show ch (n + 1) (k + 1) = ch n k + ch n (k + 1) from rfl]
    have e : a ^ (k + 1 + 1) = a ^ (k + 1) * a := rfl
    rw [e]
    generalize a ^ (k + 1) = A at *
    grind
theorem bs_eq (a : Nat) : ∀ n, bs a n (n + 1) = (a + 1) ^ n := by
  intro n
  induction n with
  | zero => rfl
  | succ n ih =>
    have := bs_up a n (n + 1)
    rw [ch_0 n (n + 1) (by omega), Nat.zero_mul, Nat.add_zero] at this
    rw [this, show bs a n (n + 1 + 1) = bs a n (n + 1) + ch n (n + 1) * a ^ (n + 1) from rfl, ch_0 n (n + 1) (by omega), ih, Nat.pow_succ]
    grind
theorem bs_mod {p : Nat} (h : Pr p) (a : Nat) : ∀ k, 1 ≤ k → k ≤ p → bs a p k % p = 1 % p := by
  intro k
  induction k with
  | zero => intro h1; omega
  | succ k ih =>
    intro _ hk
    by_cases c : k = 0
    · subst c; show (0 + ch p 0 * a ^ 0) % p = _; cases p <;> simp [ch]
    · have d : p ∣ ch p k := by
        obtain ⟨m, rfl⟩ : ∃ m, k = m + 1 := ⟨k - 1, by omega⟩
        obtain ⟨n, rfl⟩ : ∃ n, p = n + 1 := ⟨p - 1, by have := h.1; omega⟩
        rcases h.eu (⟨_, ch_id n m⟩ : (n + 1) ∣ (m + 1) * ch (n + 1) (m + 1)) with z | z
        · have := Nat.le_of_dvd (by omega) z; omega
        · exact z
      show (bs a p k + ch p k * a ^ k) % p = _
      rw [Nat.add_mod, Nat.mod_eq_zero_of_dvd (Nat.dvd_mul_right_of_dvd d _), Nat.add_zero, Nat.mod_mod]
      exact ih (by omega) (by omega)
theorem fermat {p : Nat} (h : Pr p) : ∀ a, a ^ p % p = a % p := by
  intro a
  induction a with
  | zero => have := h.1; rw [Nat.zero_pow (by omega)]
  | succ a ih =>
    rw [← bs_eq, show bs a p (p + 1) = bs a p p + ch p p * a ^ p from rfl, ch_n, Nat.one_mul, Nat.add_mod, ih, bs_mod h a p (by have := h.1; omega) (Nat.le_refl p), ← Nat.add_mod, Nat.add_comm]
theorem fermat1 {p a : Nat} (h : Pr p) (n : ¬ p ∣ a) : a ^ (p - 1) % p = 1 := by
  have h2 := h.1
  have e := fermat h a
  have l : 1 ≤ a ^ (p - 1) := Nat.pos_of_ne_zero fun z => n (by have := Nat.pow_eq_zero.mp z; rw [this.1]; exact Nat.dvd_zero p)
  have d : p ∣ a * (a ^ (p - 1) - 1) := by
    rw [Nat.mul_sub, Nat.mul_one, ← Nat.pow_succ', show (p - 1).succ = p by omega]
    exact Nat.dvd_of_mod_eq_zero (Nat.sub_mod_eq_zero_of_mod_eq e)
  rcases h.eu d with z | z
  · exact absurd z n
  · obtain ⟨w, hw⟩ := z
    rw [show a ^ (p - 1) = 1 + p * w by omega, Nat.add_mul_mod_self_left, Nat.mod_eq_of_lt (by omega)]
theorem pw_gcd {b P : Nat} (hP : 2 ≤ P) (m n : Nat) : b ^ m % P = 1 → b ^ n % P = 1 → b ^ (Nat.gcd m n) % P = 1 := by
  induction m, n using Nat.gcd.induction with
  | H0 n => intro _ h; rw [Nat.gcd_zero_left]; exact h
  | H1 m n hm ih =>
    intro h1 h2
    rw [Nat.gcd_rec]
    refine ih ?_ h1
    have e : b ^ n = (b ^ m) ^ (n / m) * b ^ (n % m) := by rw [← Nat.pow_mul, ← Nat.pow_add, Nat.div_add_mod]
    rw [e, Nat.mul_mod, Nat.pow_mod, h1, Nat.one_pow, Nat.mod_eq_of_lt (by omega : 1 < P), Nat.one_mul, Nat.mod_mod] at h2
    exact h2
set_option maxHeartbeats 8000000 in
theorem pock1 {n q R a P : Nat} (hq : Pr q) (hn : n - 1 = q * R) (h1 : a ^ (n - 1) % n = 1) (n2 : 2 ≤ n) (hg : Nat.gcd (a ^ R % n + (n - 1)) n = 1) (hP : Pr P) (hd : P ∣ n) : q ∣ P - 1 := by
  have p2 := hP.1
  have m1 : ∀ x, x % n = 1 → x % P = 1 := fun x h => by
    have := Nat.mod_mod_of_dvd x hd
    rw [h, Nat.mod_eq_of_lt (by omega : 1 < P)] at this; exact this.symm
  have hb : (a ^ R) ^ q % P = 1 := by rw [← Nat.pow_mul, Nat.mul_comm, ← hn]; exact m1 _ h1
  have nP : ¬ P ∣ a ^ R := fun z => by
    have : P ∣ (a ^ R) ^ q := by have := hq.1; obtain ⟨w, rfl⟩ : ∃ w, q = w + 1 := ⟨q - 1, by omega⟩; rw [Nat.pow_succ]; exact Nat.dvd_mul_left_of_dvd z _
    rw [Nat.mod_eq_zero_of_dvd this] at hb; omega
  have hf := fermat1 hP nP
  have g := pw_gcd p2 q (P - 1) hb hf
  rcases hq.2 _ (Nat.gcd_dvd_left q (P - 1)) with e | e
  · exfalso
    rw [e, Nat.pow_one] at g
    have d : P ∣ a ^ R % n + (n - 1) := by
      apply Nat.dvd_of_mod_eq_zero
      rw [Nat.add_mod, Nat.mod_mod_of_dvd _ hd, g]
      obtain ⟨w, e⟩ := hd
      have : w ≠ 0 := fun z => by subst z; omega
      obtain ⟨v, rfl⟩ : ∃ v, w = v + 1 := ⟨w - 1, by omega⟩
      rw [e, Nat.mul_add, Nat.mul_one, Nat.add_sub_assoc (by omega), Nat.mul_add_mod, Nat.mod_eq_of_lt (by omega : P - 1 < P), show 1 + (P - 1) = P by omega, Nat.mod_self]
    have := Nat.dvd_gcd d hd
    rw [hg] at this
    have := Nat.le_of_dvd (by omega) this
    omega
  · rw [← e]; exact Nat.gcd_dvd_right q (P - 1)
theorem pockA {n q R k : Nat} (hq : Pr q) (n2 : 2 ≤ n) (hn : n - 1 = q * R) (hb : n < (q + 1) * (q + 1)) (hk : n - 1 < 2 ^ k) (hR : R < 2 ^ k) (h1 : pm n k 2 (n - 1) = 1) (hg : Nat.gcd (pm n k 2 R + (n - 1)) n = 1) : Pr n := by
  rw [pm_eq n k 2 _ hk] at h1
  rw [pm_eq n k 2 _ hR] at hg
  refine Pr.of n2 fun P hP hd => ?_
  have d := pock1 hq hn h1 n2 hg hP hd
  have := hP.1
  have l := Nat.le_of_dvd (by omega) d
  have := Nat.mul_le_mul (show q + 1 ≤ P by omega) (show q + 1 ≤ P by omega)
  omega
theorem pockB {n q R q' R' k : Nat} (hq : Pr q) (hq' : Pr q') (hne : ¬ q ∣ q') (n2 : 2 ≤ n) (hn : n - 1 = q * R) (hn' : n - 1 = q' * R') (hb : n < (q * q' + 1) * (q * q' + 1)) (hk : n - 1 < 2 ^ k) (hR : R < 2 ^ k) (hR' : R' < 2 ^ k) (h1 : pm n k 2 (n - 1) = 1) (hg : Nat.gcd (pm n k 2 R + (n - 1)) n = 1) (hg' : Nat.gcd (pm n k 2 R' + (n - 1)) n = 1) : Pr n := by
  rw [pm_eq n k 2 _ hk] at h1
  rw [pm_eq n k 2 _ hR] at hg
  rw [pm_eq n k 2 _ hR'] at hg'
  refine Pr.of n2 fun P hP hd => ?_
  have d := pock1 hq hn h1 n2 hg hP hd
  have d' := pock1 hq' hn' h1 n2 hg' hP hd
  have dd := (hq.co hne).mul_dvd_of_dvd_of_dvd d d'
  have := hP.1
  have l := Nat.le_of_dvd (by omega) dd
  have := Nat.mul_le_mul (show q * q' + 1 ≤ P by omega) (show q * q' + 1 ≤ P by omega)
  omega
theorem pr_small {n : Nat} (h2 : 2 ≤ n) (hn : n < 2025) (h : ∀ m, m < 45 → 2 ≤ m → n % m ≠ 0 ∨ n = m) : Pr n := by
  refine Pr.of h2 fun p hp hd => ?_
  have := hp.1
  by_cases c : p < 45
  · rcases h p c hp.1 with e | e
    · exact absurd (Nat.mod_eq_zero_of_dvd hd) e
    · subst e
      have := Nat.mul_le_mul (show 2 ≤ n by omega) (Nat.le_refl n)
      omega
  · have := Nat.mul_le_mul (show 45 ≤ p by omega) (show 45 ≤ p by omega)
    omega
theorem pr_991 : Pr 991 := pr_small (by decide) (by decide) (by decide)
theorem pr_103 : Pr 103 := pr_small (by decide) (by decide) (by decide)
theorem pr_8574133 : Pr 8574133 := pockB (q := 991) (R := 8652) (q' := 103) (R' := 83244) (k := 24) pr_991 pr_103 (by decide +kernel) (by decide +kernel) (by decide +kernel) (by decide +kernel) (by decide +kernel) (by decide +kernel) (by decide +kernel) (by decide +kernel) (by decide +kernel) (by decide +kernel) (by decide +kernel)
theorem pr_127 : Pr 127 := pr_small (by decide) (by decide) (by decide)
theorem pr_1919519569386763 : Pr 1919519569386763 := pockB (q := 8574133) (R := 223873314) (q' := 127) (R' := 15114327318006) (k := 51) pr_8574133 pr_127 (by decide +kernel) (by decide +kernel) (by decide +kernel) (by decide +kernel) (by decide +kernel) (by decide +kernel) (by decide +kernel) (by decide +kernel) (by decide +kernel) (by decide +kernel) (by decide +kernel)
theorem pr_419 : Pr 419 := pr_small (by decide) (by decide) (by decide)
theorem pr_97 : Pr 97 := pr_small (by decide) (by decide) (by decide)
theorem pr_569003 : Pr 569003 := pockB (q := 419) (R := 1358) (q' := 97) (R' := 5866) (k := 20) pr_419 pr_97 (by decide +kernel) (by decide +kernel) (by decide +kernel) (by decide +kernel) (by decide +kernel) (by decide +kernel) (by decide +kernel) (by decide +kernel) (by decide +kernel) (by decide +kernel) (by decide +kernel)
theorem pr_2773320623 : Pr 2773320623 := pockA (q := 569003) (R := 4874) (k := 32) pr_569003 (by decide +kernel) (by decide +kernel) (by decide +kernel) (by decide +kernel) (by decide +kernel) (by decide +kernel) (by decide +kernel)
theorem pr_72106336199 : Pr 72106336199 := pockA (q := 2773320623) (R := 26) (k := 37) pr_2773320623 (by decide +kernel) (by decide +kernel) (by decide +kernel) (by decide +kernel) (by decide +kernel) (by decide +kernel) (by decide +kernel)
theorem pr_75445702479781427272750846543864801 : Pr 75445702479781427272750846543864801 := pockB (q := 1919519569386763) (R := 39304471641247389600) (q' := 72106336199) (R' := 1046311689884858398375200) (k := 116) pr_1919519569386763 pr_72106336199 (by decide +kernel) (by decide +kernel) (by decide +kernel) (by decide +kernel) (by decide +kernel) (by decide +kernel) (by decide +kernel) (by decide +kernel) (by decide +kernel) (by decide +kernel) (by decide +kernel)
theorem pr_1723 : Pr 1723 := pr_small (by decide) (by decide) (by decide)
theorem pr_430751 : Pr 430751 := pockA (q := 1723) (R := 250) (k := 19) pr_1723 (by decide +kernel) (by decide +kernel) (by decide +kernel) (by decide +kernel) (by decide +kernel) (by decide +kernel) (by decide +kernel)
theorem pr_173 : Pr 173 := pr_small (by decide) (by decide) (by decide)
theorem pr_4153 : Pr 4153 := pockA (q := 173) (R := 24) (k := 13) pr_173 (by decide +kernel) (by decide +kernel) (by decide +kernel) (by decide +kernel) (by decide +kernel) (by decide +kernel) (by decide +kernel)
theorem pr_31757755568855353 : Pr 31757755568855353 := pockB (q := 430751) (R := 73726481352) (q' := 4153) (R' := 7646943310584) (k := 55) pr_430751 pr_4153 (by decide +kernel) (by decide +kernel) (by decide +kernel) (by decide +kernel) (by decide +kernel) (by decide +kernel) (by decide +kernel) (by decide +kernel) (by decide +kernel) (by decide +kernel) (by decide +kernel)
theorem pr_74058212732561358302231226437062788676166966415465897661863160754340907 : Pr 74058212732561358302231226437062788676166966415465897661863160754340907 := pockB (q := 75445702479781427272750846543864801) (R := 981609426360740691344999861639072106) (q' := 31757755568855353) (R' := 2331972502653487852620185443007392165117953542933313402) (k := 236) pr_75445702479781427272750846543864801 pr_31757755568855353 (by decide +kernel) (by decide +kernel) (by decide +kernel) (by decide +kernel) (by decide +kernel) (by decide +kernel) (by decide +kernel) (by decide +kernel) (by decide +kernel) (by decide +kernel) (by decide +kernel)
theorem pr_57896044618658097711785492504343953926634992332820282019728792003956564819949 : Pr 57896044618658097711785492504343953926634992332820282019728792003956564819949 := pockA (q := 74058212732561358302231226437062788676166966415465897661863160754340907) (R := 781764) (k := 255) pr_74058212732561358302231226437062788676166966415465897661863160754340907 (by decide +kernel) (by decide +kernel) (by decide +kernel) (by decide +kernel) (by decide +kernel) (by decide +kernel) (by decide +kernel)
theorem pr_p : Pr (2 ^ 255 - 19) := pr_57896044618658097711785492504343953926634992332820282019728792003956564819949
abbrev pN : Nat := 57896044618658097711785492504343953926634992332820282019728792003956564819949
theorem pN_P : (pN : Int) = pP := by decide
abbrev Fp : Type := Fin pN
def ph (x : Int) : Fp := @Int.cast Fp Lean.Grind.Ring.intCast x
def nph (x : Nat) : Fp := @Nat.cast Fp Lean.Grind.Semiring.natCast x
theorem ph_add (x y : Int) : ph (x + y) = ph x + ph y := Lean.Grind.Ring.intCast_add x y
theorem ph_sub (x y : Int) : ph (x - y) = ph x - ph y := Lean.Grind.Ring.intCast_sub x y
theorem ph_mul (x y : Int) : ph (x * y) = ph x * ph y := Lean.Grind.Ring.intCast_mul x y
theorem ph_neg (x : Int) : ph (-x) = - ph x := Lean.Grind.Ring.intCast_neg x
theorem ph_pow (x : Int) (k : Nat) : ph (x ^ k) = ph x ^ k := Lean.Grind.Ring.intCast_pow x k
theorem ph_0 : ph 0 = 0 := Lean.Grind.Ring.intCast_zero
theorem ph_1 : ph 1 = 1 := Lean.Grind.Ring.intCast_one
theorem ph_eq {x y : Int} : ph x = ph y ↔ eqP x y := by
  rw [eqP.em, ← pN_P]; exact Lean.Grind.IsCharP.intCast_ext_iff (α := Fp) pN
theorem ph_z {x : Int} : ph x = 0 ↔ x % pP = 0 := by
  rw [← pN_P]; exact Lean.Grind.IsCharP.intCast_eq_zero_iff (α := Fp) pN x
theorem ph_sur (a : Fp) : ∃ x : Int, 0 ≤ x ∧ x < pP ∧ ph x = a := by
  refine ⟨(a.val : Int), by omega, ?_, ?_⟩
  · rw [← pN_P]; have := a.isLt; omega
  · show @Int.cast Fp Lean.Grind.Ring.intCast (a.val : Int) = a
    rw [Lean.Grind.Ring.intCast_natCast]
    show Fin.ofNat pN a.val = a
    exact Fin.ofNat_val_eq_self a
theorem pr_pN : Pr pN := pr_57896044618658097711785492504343953926634992332820282019728792003956564819949
theorem fp_fermat {a : Fp} (h : a ≠ 0) : a ^ (pN - 1) = 1 := by
  obtain ⟨x, h0, -, rfl⟩ := ph_sur a
  have n : ¬ pN ∣ x.toNat := fun z => h (by rw [ph_z, ← pN_P]; obtain ⟨w, e⟩ := z; have : x = pN * (w : Int) := by rw [← Int.toNat_of_nonneg h0, e]; simp
                                            rw [this, Int.mul_emod_right])
  have f := fermat1 pr_pN n
  have e : ph x = nph x.toNat := by
    unfold ph nph
    rw [← Lean.Grind.Ring.intCast_natCast, Int.toNat_of_nonneg h0]
  rw [e]; unfold nph; rw [← Lean.Grind.Semiring.natCast_pow]
  refine (Lean.Grind.IsCharP.natCast_ext pN (y := 1) ?_).trans Lean.Grind.Semiring.natCast_one
  rw [f]; rfl
theorem fp_01 : (0 : Fp) ≠ 1 := by
  intro h
  rw [← ph_0, ← ph_1, ph_eq, eqP.em] at h
  exact absurd h (by decide)
theorem fp_ex {a : Fp} (h : a ≠ 0) : a * a ^ (pN - 2) = 1 := by
  rw [Lean.Grind.CommSemiring.mul_comm, ← Lean.Grind.Semiring.pow_succ]
  exact fp_fermat h
theorem fp_un {a b c : Fp} (h : a * b = 1) (h' : a * c = 1) : b = c := by grind
theorem fp_0p {k : Nat} (h : k ≠ 0) : (0 : Fp) ^ k = 0 := by
  obtain ⟨m, rfl⟩ : ∃ m, k = m + 1 := ⟨k - 1, by omega⟩
  rw [Lean.Grind.Semiring.pow_succ, Lean.Grind.Semiring.mul_zero]
def fpi (a : Fp) : Fp := a ^ (pN - 2)
theorem fpi_0 : fpi 0 = 0 := fp_0p (by decide)
theorem fpi_n {a : Fp} (h : a ≠ 0) : fpi a ≠ 0 := fun z => by
  have := fp_ex h
  rw [show a ^ (pN - 2) = 0 from z, Lean.Grind.Semiring.mul_zero] at this
  exact fp_01 this
theorem fpi_i (a : Fp) : fpi (fpi a) = a := by
  by_cases h : a = 0
  · rw [h, fpi_0, fpi_0]
  · refine fp_un (a := fpi a) (fp_ex (fpi_n h)) ?_
    rw [Lean.Grind.CommSemiring.mul_comm]; exact fp_ex h
def dv (a b : Fp) : Fp := a * fpi b
theorem fpi_m {a : Fp} (h : a ≠ 0) : fpi a * a = 1 := by rw [Lean.Grind.CommSemiring.mul_comm]; exact fp_ex h
theorem fpi_1 : fpi 1 = 1 := fp_un (a := 1) (fp_ex (Ne.symm fp_01)) (by rw [Lean.Grind.Semiring.mul_one])
theorem k_zero {a b : Fp} (h : a * b = 0) : a = 0 ∨ b = 0 := by
  by_cases ha : a = 0
  · exact Or.inl ha
  · have e := fpi_m ha
    have : b = fpi a * (a * b) := by rw [← Lean.Grind.Semiring.mul_assoc, e, Lean.Grind.Semiring.one_mul]
    rw [h, Lean.Grind.Semiring.mul_zero] at this
    exact Or.inr this
theorem k_ne {a b : Fp} (ha : a ≠ 0) (hb : b ≠ 0) : a * b ≠ 0 := fun h => (k_zero h).elim ha hb
theorem k_can {a b c : Fp} (hc : c ≠ 0) (h : a * c = b * c) : a = b := by
  have : (a - b) * c = 0 := by grind -lia -linarith
  rcases k_zero this with e | e
  · grind -lia -linarith
  · exact absurd e hc
theorem k_dv {a b : Fp} (hb : b ≠ 0) : (dv a b) * b = a := by
  unfold dv; rw [Lean.Grind.Semiring.mul_assoc, fpi_m hb, Lean.Grind.Semiring.mul_one]
def On (d x y : Fp) : Prop := y * y - x * x = 1 + d * (x * x) * (y * y)
def Cv (d i : Fp) : Prop := i * i = -1 ∧ (∀ z : Fp, z * z ≠ d) ∧ (2 : Fp) ≠ 0
theorem Cv.hi {d i : Fp} (c : Cv d i) : i * i = -1 := c.1
theorem Cv.hd {d i : Fp} (c : Cv d i) : ∀ z : Fp, z * z ≠ d := c.2.1
theorem Cv.two {d i : Fp} (c : Cv d i) : (2 : Fp) ≠ 0 := c.2.2
set_option maxHeartbeats 8000000 in
theorem Cv.no {d i : Fp} (c : Cv d i) {x1 y1 x2 y2 : Fp} (h1 : On d x1 y1) (h2 : On d x2 y2) (hs : (d * x1 * x2 * y1 * y2) * (d * x1 * x2 * y1 * y2) = 1) : False := by
  unfold On at h1 h2
  have hi := c.hi
  have one : (0 : Fp) ≠ 1 := fp_01
  have key : ∀ j : Fp, j * j = 1 → (i * x1 + j * (d * x1 * x2 * y1 * y2) * y1) * (i * x1 + j * (d * x1 * x2 * y1 * y2) * y1) = d * ((x1 * y1 * (i * x2 + j * y2)) * (x1 * y1 * (i * x2 + j * y2))) := by intro j hj; grind -lia -linarith
  have z : ∀ j : Fp, j * j = 1 → x1 * y1 * (i * x2 + j * y2) = 0 := by
    intro j hj
    refine Classical.byContradiction fun n => ?_
    refine c.hd ((dv (i * x1 + j * (d * x1 * x2 * y1 * y2) * y1) (x1 * y1 * (i * x2 + j * y2)))) ?_
    have e := k_dv (a := i * x1 + j * (d * x1 * x2 * y1 * y2) * y1) n
    have k := key j hj
    generalize (dv (i * x1 + j * (d * x1 * x2 * y1 * y2) * y1) (x1 * y1 * (i * x2 + j * y2))) = w at *
    generalize x1 * y1 * (i * x2 + j * y2) = u at *
    generalize i * x1 + j * (d * x1 * x2 * y1 * y2) * y1 = t at *
    refine k_can (k_ne n n) ?_
    rw [← k, ← e]; grind -lia -linarith
  have z1 := z 1 (by grind -lia -linarith)
  have z2 := z (-1) (by grind -lia -linarith)
  have e1 : 2 * (x1 * y1 * y2) = 0 := by grind -lia -linarith
  rcases k_zero e1 with e | e
  · exact c.two e
  · have : d * x1 * x2 * y1 * y2 = 0 := by grind -lia -linarith
    rw [this] at hs
    exact one (by grind -lia -linarith)
theorem Cv.dp {d i : Fp} (c : Cv d i) {x1 y1 x2 y2 : Fp} (h1 : On d x1 y1) (h2 : On d x2 y2) : 1 + d * x1 * x2 * y1 * y2 ≠ 0 := fun e => c.no h1 h2 (by grind -lia -linarith)
theorem Cv.dm {d i : Fp} (c : Cv d i) {x1 y1 x2 y2 : Fp} (h1 : On d x1 y1) (h2 : On d x2 y2) : 1 - d * x1 * x2 * y1 * y2 ≠ 0 := fun e => c.no h1 h2 (by grind -lia -linarith)
def ax (d x1 y1 x2 y2 : Fp) : Fp := (dv (x1 * y2 + y1 * x2) (1 + d * x1 * x2 * y1 * y2))
def ay (d x1 y1 x2 y2 : Fp) : Fp := (dv (y1 * y2 + x1 * x2) (1 - d * x1 * x2 * y1 * y2))
set_option maxHeartbeats 8000000 in
theorem on_id (d x1 y1 x2 y2 : Fp) : ((y1 * y2 + x1 * x2) * (1 + d * x1 * x2 * y1 * y2)) ^ 2 - ((x1 * y2 + y1 * x2) * (1 - d * x1 * x2 * y1 * y2)) ^ 2 - (((1 + d * x1 * x2 * y1 * y2) * (1 - d * x1 * x2 * y1 * y2)) ^ 2 + d * ((x1 * y2 + y1 * x2) * (y1 * y2 + x1 * x2)) ^ 2) = ((d*d*d)*(x1*x1)*(x2*x2*x2*x2)*(y1*y1)*(y2*y2*y2*y2) - (d*d)*(x1*x1)*(x2*x2*x2*x2)*(y2*y2*y2*y2) + (d*d)*(x2*x2*x2*x2)*(y1*y1)*(y2*y2*y2*y2) - (d*d)*(x2*x2*x2*x2)*(y2*y2*y2*y2) - d*(x1*x1)*(x2*x2*x2*x2)*(y2*y2) + d*(x1*x1)*(x2*x2)*(y2*y2*y2*y2) + d*(x2*x2*x2*x2)*(y1*y1)*(y2*y2) - 2*d*(x2*x2*x2*x2)*(y2*y2*y2*y2) - d*(x2*x2)*(y1*y1)*(y2*y2*y2*y2) - 2*d*(x2*x2)*(y2*y2) - 2*(x2*x2*x2*x2)*(y2*y2) + (x2*x2*x2*x2) + 2*(x2*x2)*(y2*y2*y2*y2) - 4*(x2*x2)*(y2*y2) + (y2*y2*y2*y2)) * (y1 * y1 - x1 * x1 - (1 + d * (x1 * x1) * (y1 * y1))) + (d*(x1*x1*x1*x1)*(x2*x2)*(y2*y2) + 2*d*(x1*x1)*(x2*x2)*(y2*y2) + d*(x2*x2)*(y1*y1*y1*y1)*(y2*y2) - 2*d*(x2*x2)*(y1*y1)*(y2*y2) + d*(x2*x2)*(y2*y2) + 2*(x1*x1)*(x2*x2)*(y2*y2) - (x1*x1)*(x2*x2) + (x1*x1)*(y2*y2) - 2*(x2*x2)*(y1*y1)*(y2*y2) + (x2*x2)*(y1*y1) + 2*(x2*x2)*(y2*y2) - (x2*x2) - (y1*y1)*(y2*y2) + (y2*y2) + 1) * (y2 * y2 - x2 * x2 - (1 + d * (x2 * x2) * (y2 * y2))) := by grind -lia -linarith
set_option maxHeartbeats 8000000 in
theorem Cv.on {d i : Fp} (c : Cv d i) {x1 y1 x2 y2 : Fp} (h1 : On d x1 y1) (h2 : On d x2 y2) : On d (ax d x1 y1 x2 y2) (ay d x1 y1 x2 y2) := by
  have p := c.dp h1 h2
  have m := c.dm h1 h2
  have e1 := k_dv (a := x1 * y2 + y1 * x2) p
  have e2 := k_dv (a := y1 * y2 + x1 * x2) m
  have id := on_id d x1 y1 x2 y2
  unfold On at h1 h2
  have z1 : (y1 * y1 - x1 * x1 - (1 + d * (x1 * x1) * (y1 * y1))) = 0 := by rw [h1]; grind -lia -linarith
  have z2 : (y2 * y2 - x2 * x2 - (1 + d * (x2 * x2) * (y2 * y2))) = 0 := by rw [h2]; grind -lia -linarith
  rw [z1, z2] at id
  clear h1 h2 z1 z2
  unfold On ax ay
  generalize (dv (x1 * y2 + y1 * x2) (1 + d * x1 * x2 * y1 * y2)) = X at *
  generalize (dv (y1 * y2 + x1 * x2) (1 - d * x1 * x2 * y1 * y2)) = Y at *
  rw [← e1, ← e2] at id
  generalize 1 + d * x1 * x2 * y1 * y2 = a at *
  generalize 1 - d * x1 * x2 * y1 * y2 = b at *
  have : (Y * Y - X * X - (1 + d * (X * X) * (Y * Y))) * ((a * b) * (a * b)) = 0 := by grind -lia -linarith
  rcases k_zero this with e | e
  · grind -lia -linarith
  · exact absurd e (k_ne (k_ne p m) (k_ne p m))
set_option maxHeartbeats 8000000 in
theorem as_x (d x1 y1 x2 y2 x3 y3 : Fp) : ((x1 * y2 + y1 * x2) * (1 - d * x1 * x2 * y1 * y2) * y3 + (y1 * y2 + x1 * x2) * (1 + d * x1 * x2 * y1 * y2) * x3) * ((1 + d * x2 * x3 * y2 * y3) * (1 - d * x2 * x3 * y2 * y3) + d * (x2 * y3 + y2 * x3) * (y2 * y3 + x2 * x3) * x1 * y1) - ((x2 * y3 + y2 * x3) * (1 - d * x2 * x3 * y2 * y3) * y1 + (y2 * y3 + x2 * x3) * (1 + d * x2 * x3 * y2 * y3) * x1) * ((1 + d * x1 * x2 * y1 * y2) * (1 - d * x1 * x2 * y1 * y2) + d * (x1 * y2 + y1 * x2) * (y1 * y2 + x1 * x2) * x3 * y3) = (-(d*d)*x1*(x2*x2*x2*x2)*(x3*x3)*(y2*y2*y2)*y3 - (d*d)*x1*(x2*x2*x2)*x3*(y2*y2*y2*y2)*(y3*y3) + (d*d)*(x2*x2*x2*x2)*x3*y1*(y2*y2*y2)*(y3*y3) + (d*d)*(x2*x2*x2)*(x3*x3)*y1*(y2*y2*y2*y2)*y3 - d*x1*(x2*x2*x2*x2)*(x3*x3)*y2*y3 - d*x1*(x2*x2*x2)*(x3*x3*x3)*(y2*y2) - d*x1*(x2*x2*x2)*x3*(y2*y2) + d*x1*(x2*x2)*(y2*y2*y2)*(y3*y3*y3) - d*x1*(x2*x2)*(y2*y2*y2)*y3 + d*x1*x2*x3*(y2*y2*y2*y2)*(y3*y3) + d*(x2*x2*x2*x2)*x3*y1*y2*(y3*y3) + d*(x2*x2*x2)*y1*(y2*y2)*(y3*y3*y3) - d*(x2*x2*x2)*y1*(y2*y2)*y3 - d*(x2*x2)*(x3*x3*x3)*y1*(y2*y2*y2) - d*(x2*x2)*x3*y1*(y2*y2*y2) - d*x2*(x3*x3)*y1*(y2*y2*y2*y2)*y3) * (y1 * y1 - x1 * x1 - (1 + d * (x1 * x1) * (y1 * y1))) + ((d*d)*(x1*x1)*(x2*x2)*(x3*x3*x3)*y1*y2*(y3*y3) - (d*d)*(x1*x1)*x2*(x3*x3)*y1*(y2*y2)*(y3*y3*y3) - (d*d)*x1*(x2*x2)*(x3*x3)*(y1*y1)*y2*(y3*y3*y3) + (d*d)*x1*x2*(x3*x3*x3)*(y1*y1)*(y2*y2)*(y3*y3) + d*(x1*x1*x1)*(x2*x2)*(x3*x3)*y2*y3 + d*(x1*x1*x1)*x2*(x3*x3*x3)*(y3*y3) + d*(x1*x1*x1)*x2*x3*(y2*y2)*(y3*y3) + d*(x1*x1*x1)*(x3*x3)*y2*(y3*y3*y3) - d*(x1*x1)*(x2*x2)*x3*y1*y2*(y3*y3) - d*(x1*x1)*x2*(x3*x3)*y1*(y2*y2)*y3 + d*(x1*x1)*x2*(x3*x3)*y1*(y3*y3*y3) + d*(x1*x1)*(x3*x3*x3)*y1*y2*(y3*y3) - d*x1*(x2*x2)*(x3*x3)*(y1*y1)*y2*y3 + d*x1*(x2*x2)*(x3*x3)*y2*y3 - d*x1*x2*(x3*x3*x3)*(y1*y1)*(y3*y3) + d*x1*x2*(x3*x3*x3)*(y3*y3) - d*x1*x2*x3*(y1*y1)*(y2*y2)*(y3*y3) + d*x1*x2*x3*(y2*y2)*(y3*y3) - d*x1*(x3*x3)*(y1*y1)*y2*(y3*y3*y3) + d*x1*(x3*x3)*y2*(y3*y3*y3) + d*(x2*x2)*x3*(y1*y1*y1)*y2*(y3*y3) - d*(x2*x2)*x3*y1*y2*(y3*y3) + d*x2*(x3*x3)*(y1*y1*y1)*(y2*y2)*y3 - d*x2*(x3*x3)*(y1*y1*y1)*(y3*y3*y3) - d*x2*(x3*x3)*y1*(y2*y2)*y3 + d*x2*(x3*x3)*y1*(y3*y3*y3) - d*(x3*x3*x3)*(y1*y1*y1)*y2*(y3*y3) + d*(x3*x3*x3)*y1*y2*(y3*y3) + (x1*x1*x1)*x2*(x3*x3*x3) - (x1*x1*x1)*x2*x3*(y3*y3) + (x1*x1*x1)*x2*x3 + (x1*x1*x1)*(x3*x3)*y2*y3 - (x1*x1*x1)*y2*(y3*y3*y3) + (x1*x1*x1)*y2*y3 + (x1*x1)*x2*(x3*x3)*y1*y3 - (x1*x1)*x2*y1*(y3*y3*y3) + (x1*x1)*x2*y1*y3 + (x1*x1)*(x3*x3*x3)*y1*y2 - (x1*x1)*x3*y1*y2*(y3*y3) + (x1*x1)*x3*y1*y2 - x1*x2*(x3*x3*x3)*(y1*y1) + x1*x2*(x3*x3*x3) + x1*x2*x3*(y1*y1)*(y3*y3) - x1*x2*x3*(y1*y1) - x1*x2*x3*(y3*y3) + x1*x2*x3 - x1*(x3*x3)*(y1*y1)*y2*y3 + x1*(x3*x3)*y2*y3 + x1*(y1*y1)*y2*(y3*y3*y3) - x1*(y1*y1)*y2*y3 - x1*y2*(y3*y3*y3) + x1*y2*y3 - x2*(x3*x3)*(y1*y1*y1)*y3 + x2*(x3*x3)*y1*y3 + x2*(y1*y1*y1)*(y3*y3*y3) - x2*(y1*y1*y1)*y3 - x2*y1*(y3*y3*y3) + x2*y1*y3 - (x3*x3*x3)*(y1*y1*y1)*y2 + (x3*x3*x3)*y1*y2 + x3*(y1*y1*y1)*y2*(y3*y3) - x3*(y1*y1*y1)*y2 - x3*y1*y2*(y3*y3) + x3*y1*y2) * (y2 * y2 - x2 * x2 - (1 + d * (x2 * x2) * (y2 * y2))) + (-d*(x1*x1)*(x2*x2)*x3*y1*y2 + d*(x1*x1)*x2*y1*(y2*y2)*y3 + d*x1*(x2*x2)*(y1*y1)*y2*y3 - d*x1*x2*x3*(y1*y1)*(y2*y2) - (x1*x1*x1)*(x2*x2*x2)*x3 - (x1*x1*x1)*(x2*x2)*y2*y3 + (x1*x1*x1)*x2*x3*(y2*y2) - (x1*x1*x1)*x2*x3 + (x1*x1*x1)*(y2*y2*y2)*y3 - (x1*x1*x1)*y2*y3 - (x1*x1)*(x2*x2*x2)*y1*y3 - (x1*x1)*(x2*x2)*x3*y1*y2 + (x1*x1)*x2*y1*(y2*y2)*y3 - (x1*x1)*x2*y1*y3 + (x1*x1)*x3*y1*(y2*y2*y2) - (x1*x1)*x3*y1*y2 + x1*(x2*x2*x2)*x3*(y1*y1) - x1*(x2*x2*x2)*x3 + x1*(x2*x2)*(y1*y1)*y2*y3 - x1*(x2*x2)*y2*y3 - x1*x2*x3*(y1*y1)*(y2*y2) + x1*x2*x3*(y1*y1) + x1*x2*x3*(y2*y2) - x1*x2*x3 - x1*(y1*y1)*(y2*y2*y2)*y3 + x1*(y1*y1)*y2*y3 + x1*(y2*y2*y2)*y3 - x1*y2*y3 + (x2*x2*x2)*(y1*y1*y1)*y3 - (x2*x2*x2)*y1*y3 + (x2*x2)*x3*(y1*y1*y1)*y2 - (x2*x2)*x3*y1*y2 - x2*(y1*y1*y1)*(y2*y2)*y3 + x2*(y1*y1*y1)*y3 + x2*y1*(y2*y2)*y3 - x2*y1*y3 - x3*(y1*y1*y1)*(y2*y2*y2) + x3*(y1*y1*y1)*y2 + x3*y1*(y2*y2*y2) - x3*y1*y2) * (y3 * y3 - x3 * x3 - (1 + d * (x3 * x3) * (y3 * y3))) := by grind -lia -linarith
set_option maxHeartbeats 8000000 in
theorem as_y (d x1 y1 x2 y2 x3 y3 : Fp) : ((y1 * y2 + x1 * x2) * (1 + d * x1 * x2 * y1 * y2) * y3 + (x1 * y2 + y1 * x2) * (1 - d * x1 * x2 * y1 * y2) * x3) * ((1 + d * x2 * x3 * y2 * y3) * (1 - d * x2 * x3 * y2 * y3) - d * (x2 * y3 + y2 * x3) * (y2 * y3 + x2 * x3) * x1 * y1) - ((y2 * y3 + x2 * x3) * (1 + d * x2 * x3 * y2 * y3) * y1 + (x2 * y3 + y2 * x3) * (1 - d * x2 * x3 * y2 * y3) * x1) * ((1 + d * x1 * x2 * y1 * y2) * (1 - d * x1 * x2 * y1 * y2) - d * (x1 * y2 + y1 * x2) * (y1 * y2 + x1 * x2) * x3 * y3) = ((d*d)*x1*(x2*x2*x2*x2)*x3*(y2*y2*y2)*(y3*y3) + (d*d)*x1*(x2*x2*x2)*(x3*x3)*(y2*y2*y2*y2)*y3 - (d*d)*(x2*x2*x2*x2)*(x3*x3)*y1*(y2*y2*y2)*y3 - (d*d)*(x2*x2*x2)*x3*y1*(y2*y2*y2*y2)*(y3*y3) + d*x1*(x2*x2*x2*x2)*x3*y2*(y3*y3) + d*x1*(x2*x2*x2)*(y2*y2)*(y3*y3*y3) - d*x1*(x2*x2*x2)*(y2*y2)*y3 - d*x1*(x2*x2)*(x3*x3*x3)*(y2*y2*y2) - d*x1*(x2*x2)*x3*(y2*y2*y2) - d*x1*x2*(x3*x3)*(y2*y2*y2*y2)*y3 - d*(x2*x2*x2*x2)*(x3*x3)*y1*y2*y3 - d*(x2*x2*x2)*(x3*x3*x3)*y1*(y2*y2) - d*(x2*x2*x2)*x3*y1*(y2*y2) + d*(x2*x2)*y1*(y2*y2*y2)*(y3*y3*y3) - d*(x2*x2)*y1*(y2*y2*y2)*y3 + d*x2*x3*y1*(y2*y2*y2*y2)*(y3*y3)) * (y1 * y1 - x1 * x1 - (1 + d * (x1 * x1) * (y1 * y1))) + ((d*d)*(x1*x1)*(x2*x2)*(x3*x3)*y1*y2*(y3*y3*y3) - (d*d)*(x1*x1)*x2*(x3*x3*x3)*y1*(y2*y2)*(y3*y3) - (d*d)*x1*(x2*x2)*(x3*x3*x3)*(y1*y1)*y2*(y3*y3) + (d*d)*x1*x2*(x3*x3)*(y1*y1)*(y2*y2)*(y3*y3*y3) - d*(x1*x1*x1)*(x2*x2)*x3*y2*(y3*y3) - d*(x1*x1*x1)*x2*(x3*x3)*(y2*y2)*y3 + d*(x1*x1*x1)*x2*(x3*x3)*(y3*y3*y3) + d*(x1*x1*x1)*(x3*x3*x3)*y2*(y3*y3) + d*(x1*x1)*(x2*x2)*(x3*x3)*y1*y2*y3 + d*(x1*x1)*x2*(x3*x3*x3)*y1*(y3*y3) + d*(x1*x1)*x2*x3*y1*(y2*y2)*(y3*y3) + d*(x1*x1)*(x3*x3)*y1*y2*(y3*y3*y3) + d*x1*(x2*x2)*x3*(y1*y1)*y2*(y3*y3) - d*x1*(x2*x2)*x3*y2*(y3*y3) + d*x1*x2*(x3*x3)*(y1*y1)*(y2*y2)*y3 - d*x1*x2*(x3*x3)*(y1*y1)*(y3*y3*y3) - d*x1*x2*(x3*x3)*(y2*y2)*y3 + d*x1*x2*(x3*x3)*(y3*y3*y3) - d*x1*(x3*x3*x3)*(y1*y1)*y2*(y3*y3) + d*x1*(x3*x3*x3)*y2*(y3*y3) - d*(x2*x2)*(x3*x3)*(y1*y1*y1)*y2*y3 + d*(x2*x2)*(x3*x3)*y1*y2*y3 - d*x2*(x3*x3*x3)*(y1*y1*y1)*(y3*y3) + d*x2*(x3*x3*x3)*y1*(y3*y3) - d*x2*x3*(y1*y1*y1)*(y2*y2)*(y3*y3) + d*x2*x3*y1*(y2*y2)*(y3*y3) - d*(x3*x3)*(y1*y1*y1)*y2*(y3*y3*y3) + d*(x3*x3)*y1*y2*(y3*y3*y3) + (x1*x1*x1)*x2*(x3*x3)*y3 - (x1*x1*x1)*x2*(y3*y3*y3) + (x1*x1*x1)*x2*y3 + (x1*x1*x1)*(x3*x3*x3)*y2 - (x1*x1*x1)*x3*y2*(y3*y3) + (x1*x1*x1)*x3*y2 + (x1*x1)*x2*(x3*x3*x3)*y1 - (x1*x1)*x2*x3*y1*(y3*y3) + (x1*x1)*x2*x3*y1 + (x1*x1)*(x3*x3)*y1*y2*y3 - (x1*x1)*y1*y2*(y3*y3*y3) + (x1*x1)*y1*y2*y3 - x1*x2*(x3*x3)*(y1*y1)*y3 + x1*x2*(x3*x3)*y3 + x1*x2*(y1*y1)*(y3*y3*y3) - x1*x2*(y1*y1)*y3 - x1*x2*(y3*y3*y3) + x1*x2*y3 - x1*(x3*x3*x3)*(y1*y1)*y2 + x1*(x3*x3*x3)*y2 + x1*x3*(y1*y1)*y2*(y3*y3) - x1*x3*(y1*y1)*y2 - x1*x3*y2*(y3*y3) + x1*x3*y2 - x2*(x3*x3*x3)*(y1*y1*y1) + x2*(x3*x3*x3)*y1 + x2*x3*(y1*y1*y1)*(y3*y3) - x2*x3*(y1*y1*y1) - x2*x3*y1*(y3*y3) + x2*x3*y1 - (x3*x3)*(y1*y1*y1)*y2*y3 + (x3*x3)*y1*y2*y3 + (y1*y1*y1)*y2*(y3*y3*y3) - (y1*y1*y1)*y2*y3 - y1*y2*(y3*y3*y3) + y1*y2*y3) * (y2 * y2 - x2 * x2 - (1 + d * (x2 * x2) * (y2 * y2))) + (-d*(x1*x1)*(x2*x2)*y1*y2*y3 + d*(x1*x1)*x2*x3*y1*(y2*y2) + d*x1*(x2*x2)*x3*(y1*y1)*y2 - d*x1*x2*(y1*y1)*(y2*y2)*y3 - (x1*x1*x1)*(x2*x2*x2)*y3 - (x1*x1*x1)*(x2*x2)*x3*y2 + (x1*x1*x1)*x2*(y2*y2)*y3 - (x1*x1*x1)*x2*y3 + (x1*x1*x1)*x3*(y2*y2*y2) - (x1*x1*x1)*x3*y2 - (x1*x1)*(x2*x2*x2)*x3*y1 - (x1*x1)*(x2*x2)*y1*y2*y3 + (x1*x1)*x2*x3*y1*(y2*y2) - (x1*x1)*x2*x3*y1 + (x1*x1)*y1*(y2*y2*y2)*y3 - (x1*x1)*y1*y2*y3 + x1*(x2*x2*x2)*(y1*y1)*y3 - x1*(x2*x2*x2)*y3 + x1*(x2*x2)*x3*(y1*y1)*y2 - x1*(x2*x2)*x3*y2 - x1*x2*(y1*y1)*(y2*y2)*y3 + x1*x2*(y1*y1)*y3 + x1*x2*(y2*y2)*y3 - x1*x2*y3 - x1*x3*(y1*y1)*(y2*y2*y2) + x1*x3*(y1*y1)*y2 + x1*x3*(y2*y2*y2) - x1*x3*y2 + (x2*x2*x2)*x3*(y1*y1*y1) - (x2*x2*x2)*x3*y1 + (x2*x2)*(y1*y1*y1)*y2*y3 - (x2*x2)*y1*y2*y3 - x2*x3*(y1*y1*y1)*(y2*y2) + x2*x3*(y1*y1*y1) + x2*x3*y1*(y2*y2) - x2*x3*y1 - (y1*y1*y1)*(y2*y2*y2)*y3 + (y1*y1*y1)*y2*y3 + y1*(y2*y2*y2)*y3 - y1*y2*y3) * (y3 * y3 - x3 * x3 - (1 + d * (x3 * x3) * (y3 * y3))) := by grind -lia -linarith
theorem sum2 {d A B a b n1 n2 x y X : Fp} (ha : a ≠ 0) (hb : b ≠ 0) (hA : A * a = n1) (hB : B * b = n2) (hX : X * (1 + d * A * x * B * y) = A * y + B * x) : X * (a * b + d * n1 * n2 * x * y) = n1 * b * y + n2 * a * x := by
  subst hA hB; grind -lia -linarith
theorem sum2' {d A B a b n1 n2 x y X : Fp} (ha : a ≠ 0) (hb : b ≠ 0) (hA : A * a = n1) (hB : B * b = n2) (hX : X * (1 - d * A * x * B * y) = B * y + A * x) : X * (a * b - d * n1 * n2 * x * y) = n2 * a * y + n1 * b * x := by
  subst hA hB; grind -lia -linarith
theorem sumd {d A B a b n1 n2 x y : Fp} (ha : a ≠ 0) (hb : b ≠ 0) (hA : A * a = n1) (hB : B * b = n2) (h : 1 + d * A * x * B * y ≠ 0) : a * b + d * n1 * n2 * x * y ≠ 0 := by
  have : a * b + d * n1 * n2 * x * y = a * b * (1 + d * A * x * B * y) := by subst hA hB; grind -lia -linarith
  rw [this]; exact k_ne (k_ne ha hb) h
theorem sumd' {d A B a b n1 n2 x y : Fp} (ha : a ≠ 0) (hb : b ≠ 0) (hA : A * a = n1) (hB : B * b = n2) (h : 1 - d * A * x * B * y ≠ 0) : a * b - d * n1 * n2 * x * y ≠ 0 := by
  have : a * b - d * n1 * n2 * x * y = a * b * (1 - d * A * x * B * y) := by subst hA hB; grind -lia -linarith
  rw [this]; exact k_ne (k_ne ha hb) h
def ad2 (d : Fp) (P Q : Fp × Fp) : Fp × Fp := (ax d P.1 P.2 Q.1 Q.2, ay d P.1 P.2 Q.1 Q.2)
def OnP (d : Fp) (P : Fp × Fp) : Prop := On d P.1 P.2
theorem ad_comm (d : Fp) (P Q : Fp × Fp) : ad2 d P Q = ad2 d Q P := by
  unfold ad2 ax ay
  rw [show P.1 * Q.2 + P.2 * Q.1 = Q.1 * P.2 + Q.2 * P.1 by grind -lia -linarith, show d * P.1 * Q.1 * P.2 * Q.2 = d * Q.1 * P.1 * Q.2 * P.2 by grind -lia -linarith, show P.2 * Q.2 + P.1 * Q.1 = Q.2 * P.2 + Q.1 * P.1 by grind -lia -linarith]
theorem Cv.onP {d i : Fp} (c : Cv d i) {P Q : Fp × Fp} (h1 : OnP d P) (h2 : OnP d Q) : OnP d (ad2 d P Q) := c.on h1 h2
set_option maxHeartbeats 8000000 in
theorem Cv.assoc {d i : Fp} (c : Cv d i) {P Q R : Fp × Fp} (h1 : OnP d P) (h2 : OnP d Q) (h3 : OnP d R) : ad2 d (ad2 d P Q) R = ad2 d P (ad2 d Q R) := by
  rw [ad_comm d P (ad2 d Q R)]
  obtain ⟨x1, y1⟩ := P
  obtain ⟨x2, y2⟩ := Q
  obtain ⟨x3, y3⟩ := R
  have g1 := c.onP h1 h2
  have g2 := c.onP h2 h3
  have p12 := c.dp h1 h2
  have m12 := c.dm h1 h2
  have p23 := c.dp h2 h3
  have m23 := c.dm h2 h3
  have pl := c.dp g1 h3
  have ml := c.dm g1 h3
  have pr := c.dp g2 h1
  have mr := c.dm g2 h1
  have ix := as_x d x1 y1 x2 y2 x3 y3
  have iy := as_y d x1 y1 x2 y2 x3 y3
  unfold OnP On at h1 h2 h3
  dsimp only at h1 h2 h3 p12 m12 p23 m23
  have z1 : (y1 * y1 - x1 * x1 - (1 + d * (x1 * x1) * (y1 * y1))) = 0 := by rw [h1]; grind -lia -linarith
  have z2 : (y2 * y2 - x2 * x2 - (1 + d * (x2 * x2) * (y2 * y2))) = 0 := by rw [h2]; grind -lia -linarith
  have z3 : (y3 * y3 - x3 * x3 - (1 + d * (x3 * x3) * (y3 * y3))) = 0 := by rw [h3]; grind -lia -linarith
  rw [z1, z2, z3] at ix iy
  clear z1 z2 z3 h1 h2 h3 g1 g2
  have a12 : ax d x1 y1 x2 y2 * (1 + d * x1 * x2 * y1 * y2) = x1 * y2 + y1 * x2 := k_dv p12
  have b12 : ay d x1 y1 x2 y2 * (1 - d * x1 * x2 * y1 * y2) = y1 * y2 + x1 * x2 := k_dv m12
  have a23 : ax d x2 y2 x3 y3 * (1 + d * x2 * x3 * y2 * y3) = x2 * y3 + y2 * x3 := k_dv p23
  have b23 : ay d x2 y2 x3 y3 * (1 - d * x2 * x3 * y2 * y3) = y2 * y3 + x2 * x3 := k_dv m23
  unfold ad2 at *
  dsimp only at *
  generalize ax d x1 y1 x2 y2 = A at *
  generalize ay d x1 y1 x2 y2 = B at *
  generalize ax d x2 y2 x3 y3 = A' at *
  generalize ay d x2 y2 x3 y3 = B' at *
  have lx := sum2 p12 m12 a12 b12 (k_dv (a := A * y3 + B * x3) pl)
  have ly := sum2' p12 m12 a12 b12 (k_dv (a := B * y3 + A * x3) ml)
  have rx := sum2 p23 m23 a23 b23 (k_dv (a := A' * y1 + B' * x1) pr)
  have ry := sum2' p23 m23 a23 b23 (k_dv (a := B' * y1 + A' * x1) mr)
  have dl := sumd p12 m12 a12 b12 pl
  have dl' := sumd' p12 m12 a12 b12 ml
  have dr := sumd p23 m23 a23 b23 pr
  have dr' := sumd' p23 m23 a23 b23 mr
  clear a12 b12 a23 b23 p12 m12 p23 m23 pl ml pr mr
  rw [← lx, ← rx] at ix
  rw [← ly, ← ry] at iy
  clear lx ly rx ry
  unfold ax ay
  generalize (1 + d * x1 * x2 * y1 * y2) * (1 - d * x1 * x2 * y1 * y2) + d * (x1 * y2 + y1 * x2) * (y1 * y2 + x1 * x2) * x3 * y3 = D1 at *
  generalize (1 + d * x1 * x2 * y1 * y2) * (1 - d * x1 * x2 * y1 * y2) - d * (x1 * y2 + y1 * x2) * (y1 * y2 + x1 * x2) * x3 * y3 = D2 at *
  generalize (1 + d * x2 * x3 * y2 * y3) * (1 - d * x2 * x3 * y2 * y3) + d * (x2 * y3 + y2 * x3) * (y2 * y3 + x2 * x3) * x1 * y1 = D3 at *
  generalize (1 + d * x2 * x3 * y2 * y3) * (1 - d * x2 * x3 * y2 * y3) - d * (x2 * y3 + y2 * x3) * (y2 * y3 + x2 * x3) * x1 * y1 = D4 at *
  refine Prod.ext ?_ ?_
  · exact k_can (k_ne dl dr) (by grind -lia -linarith)
  · exact k_can (k_ne dl' dr') (by grind -lia -linarith)
def emul (d : Fp) (P : Fp × Fp) : Nat → Fp × Fp
  | 0 => (0, 1)
  | n + 1 => ad2 d (emul d P n) P
theorem k_d1 (a : Fp) : (dv a 1) = a := by unfold dv; rw [fpi_1, Lean.Grind.Semiring.mul_one]
theorem on_0 (d : Fp) : OnP d ((0 : Fp), 1) := by unfold OnP On; grind -lia -linarith
theorem ad_0 (d : Fp) (P : Fp × Fp) : ad2 d P (0, 1) = P := by
  unfold ad2 ax ay
  refine Prod.ext ?_ ?_
  · show (dv (P.1 * 1 + P.2 * 0) (1 + d * P.1 * 0 * P.2 * 1)) = P.1
    rw [show P.1 * 1 + P.2 * 0 = P.1 by grind -lia -linarith, show 1 + d * P.1 * 0 * P.2 * 1 = (1 : Fp) by grind -lia -linarith, k_d1]
  · show (dv (P.2 * 1 + P.1 * 0) (1 - d * P.1 * 0 * P.2 * 1)) = P.2
    rw [show P.2 * 1 + P.1 * 0 = P.2 by grind -lia -linarith, show 1 - d * P.1 * 0 * P.2 * 1 = (1 : Fp) by grind -lia -linarith, k_d1]
theorem Cv.onM {d i : Fp} (c : Cv d i) {P : Fp × Fp} (h : OnP d P) : ∀ n, OnP d (emul d P n)
  | 0 => on_0 d
  | n + 1 => c.onP (c.onM h n) h
theorem Cv.mul_add {d i : Fp} (c : Cv d i) {P : Fp × Fp} (h : OnP d P) (m : Nat) : ∀ n, emul d P (m + n) = ad2 d (emul d P m) (emul d P n)
  | 0 => (ad_0 d _).symm
  | n + 1 => by
    show ad2 d (emul d P (m + n)) P = ad2 d (emul d P m) (ad2 d (emul d P n) P)
    rw [c.mul_add h m n, c.assoc (c.onM h m) (c.onM h n) h]
theorem Cv.mul_one {d i : Fp} (c : Cv d i) {P : Fp × Fp} (h : OnP d P) : emul d P 1 = P := by
  show ad2 d (0, 1) P = P
  rw [ad_comm, ad_0]
theorem Cv.mul_mul {d i : Fp} (c : Cv d i) {P : Fp × Fp} (h : OnP d P) (m : Nat) : ∀ n, emul d (emul d P m) n = emul d P (m * n)
  | 0 => rfl
  | n + 1 => by
    show ad2 d (emul d (emul d P m) n) (emul d P m) = emul d P (m * (n + 1))
    rw [c.mul_mul h m n, Nat.mul_succ, c.mul_add h]
def Pj (P : Fp × Fp) (X Y Z T : Fp) : Prop := Z ≠ 0 ∧ X = P.1 * Z ∧ Y = P.2 * Z ∧ T = P.1 * P.2 * Z
theorem Pj.sc {P : Fp × Fp} {X Y Z T l : Fp} (h : Pj P X Y Z T) (hl : l ≠ 0) : Pj P (l * X) (l * Y) (l * Z) (l * T) := by
  obtain ⟨h1, h2, h3, h4⟩ := h
  exact ⟨k_ne hl h1, by rw [h2]; grind -lia -linarith, by rw [h3]; grind -lia -linarith, by rw [h4]; grind -lia -linarith⟩
theorem Pj.two {P : Fp × Fp} {X Y Z T X' Y' Z' T' : Fp} (h : Pj P X Y Z T) (h' : Pj P X' Y' Z' T') : ∃ l : Fp, l ≠ 0 ∧ X' = l * X ∧ Y' = l * Y ∧ Z' = l * Z ∧ T' = l * T := by
  obtain ⟨h1, h2, h3, h4⟩ := h
  obtain ⟨g1, g2, g3, g4⟩ := h'
  have e := k_dv (a := Z') h1
  refine ⟨(dv Z' Z), fun z => g1 (by rw [← e, z, Lean.Grind.Semiring.zero_mul]), ?_, ?_, e.symm, ?_⟩
  · rw [g2, h2]; generalize (dv Z' Z) = l at *; grind -lia -linarith
  · rw [g3, h3]; generalize (dv Z' Z) = l at *; grind -lia -linarith
  · rw [g4, h4]; generalize (dv Z' Z) = l at *; grind -lia -linarith
set_option maxHeartbeats 8000000 in
theorem Cv.pj_add {d i : Fp} (c : Cv d i) {P Q : Fp × Fp} (hP : OnP d P) (hQ : OnP d Q) {X Y Z T X' Y' Z' T' : Fp} (h : Pj P X Y Z T) (h' : Pj Q X' Y' Z' T') :
    Pj (ad2 d P Q) ((X * Y' + Y * X') * (Z * Z' - (T * T') * d)) ((Y * Y' + X * X') * (Z * Z' + (T * T') * d)) ((Z * Z' - (T * T') * d) * (Z * Z' + (T * T') * d)) ((X * Y' + Y * X') * (Y * Y' + X * X')) := by
  have p := c.dp hP hQ
  have m := c.dm hP hQ
  obtain ⟨x1, y1⟩ := P
  obtain ⟨x2, y2⟩ := Q
  obtain ⟨z1, rfl, rfl, rfl⟩ := h
  obtain ⟨z2, rfl, rfl, rfl⟩ := h'
  dsimp only at *
  have e1 : ax d x1 y1 x2 y2 * (1 + d * x1 * x2 * y1 * y2) = x1 * y2 + y1 * x2 := k_dv p
  have e2 : ay d x1 y1 x2 y2 * (1 - d * x1 * x2 * y1 * y2) = y1 * y2 + x1 * x2 := k_dv m
  show Pj (ax d x1 y1 x2 y2, ay d x1 y1 x2 y2) _ _ _ _
  generalize ax d x1 y1 x2 y2 = A at *
  generalize ay d x1 y1 x2 y2 = B at *
  have f : Z * Z' - (x1 * y1 * Z * (x2 * y2 * Z')) * d = Z * Z' * (1 - d * x1 * x2 * y1 * y2) := by grind -lia -linarith
  have g : Z * Z' + (x1 * y1 * Z * (x2 * y2 * Z')) * d = Z * Z' * (1 + d * x1 * x2 * y1 * y2) := by grind -lia -linarith
  have s : x1 * Z * (y2 * Z') + y1 * Z * (x2 * Z') = Z * Z' * (A * (1 + d * x1 * x2 * y1 * y2)) := by rw [e1]; grind -lia -linarith
  have t : y1 * Z * (y2 * Z') + x1 * Z * (x2 * Z') = Z * Z' * (B * (1 - d * x1 * x2 * y1 * y2)) := by rw [e2]; grind -lia -linarith
  rw [f, g, s, t]
  clear f g s t e1 e2
  generalize 1 + d * x1 * x2 * y1 * y2 = a at *
  generalize 1 - d * x1 * x2 * y1 * y2 = b at *
  refine ⟨k_ne (k_ne (k_ne z1 z2) m) (k_ne (k_ne z1 z2) p), ?_, ?_, ?_⟩ <;> dsimp only <;> grind -lia -linarith
set_option maxHeartbeats 8000000 in
theorem Cv.pj_dbl {d i : Fp} (c : Cv d i) {P : Fp × Fp} (hP : OnP d P) {X Y Z : Fp} (hz : Z ≠ 0) (hX : X = P.1 * Z) (hY : Y = P.2 * Z) :
    Pj (ad2 d P P) (((X + Y) * (X + Y) - (X * X + Y * Y)) * ((Z * Z + Z * Z) - (Y * Y - X * X))) ((Y * Y - X * X) * (X * X + Y * Y)) (((Z * Z + Z * Z) - (Y * Y - X * X)) * (Y * Y - X * X)) (((X + Y) * (X + Y) - (X * X + Y * Y)) * (X * X + Y * Y)) := by
  have p := c.dp hP hP
  have m := c.dm hP hP
  obtain ⟨x, y⟩ := P
  unfold OnP On at hP
  dsimp only at *
  subst hX hY
  have e1 : ax d x y x y * (1 + d * x * x * y * y) = x * y + y * x := k_dv p
  have e2 : ay d x y x y * (1 - d * x * x * y * y) = y * y + x * x := k_dv m
  show Pj (ax d x y x y, ay d x y x y) _ _ _ _
  generalize ax d x y x y = A at *
  generalize ay d x y x y = B at *
  have f : (Z * Z + Z * Z) - (y * Z * (y * Z) - x * Z * (x * Z)) = Z * Z * (1 - d * x * x * y * y) := by grind -lia -linarith
  have g : y * Z * (y * Z) - x * Z * (x * Z) = Z * Z * (1 + d * x * x * y * y) := by grind -lia -linarith
  have s : (x * Z + y * Z) * (x * Z + y * Z) - (x * Z * (x * Z) + y * Z * (y * Z)) = Z * Z * (A * (1 + d * x * x * y * y)) := by rw [e1]; grind -lia -linarith
  have t : x * Z * (x * Z) + y * Z * (y * Z) = Z * Z * (B * (1 - d * x * x * y * y)) := by rw [e2]; grind -lia -linarith
  rw [f, s, t, g]
  clear f g s t e1 e2 hP
  generalize 1 + d * x * x * y * y = a at *
  generalize 1 - d * x * x * y * y = b at *
  refine ⟨k_ne (k_ne (k_ne hz hz) m) (k_ne (k_ne hz hz) p), ?_, ?_, ?_⟩ <;> dsimp only <;> grind -lia -linarith
theorem fp_pm (a : Fp) (m : Nat) : ∀ n, a ^ (m * n) = (a ^ m) ^ n
  | 0 => by rw [Nat.mul_zero, Lean.Grind.Semiring.pow_zero, Lean.Grind.Semiring.pow_zero]
  | n + 1 => by rw [Nat.mul_succ, Lean.Grind.Semiring.pow_add, fp_pm a m n, Lean.Grind.Semiring.pow_succ]
abbrev od (a : Fp) : Prop := a.val % 2 = 1
theorem ph_val (x : Int) : (((show Fin pN from ph x).val : Nat) : Int) = x % pP := by
  obtain ⟨y, h0, h1, e⟩ := ph_sur (ph x)
  have : x % pP = y := by rw [← eqP.em.mp (ph_eq.mp e), Int.emod_eq_of_lt h0 h1]
  rw [this, ← e]
  have g : ph y = (Fin.ofNat pN y.toNat : Fin pN) := by
    unfold ph
    rw [show y = ((y.toNat : Nat) : Int) from (Int.toNat_of_nonneg h0).symm, Lean.Grind.Ring.intCast_natCast]
    rfl
  rw [g]
  show ((y.toNat % pN : Nat) : Int) = y
  rw [Nat.mod_eq_of_lt (by have := pN_P; omega)]
  omega
theorem od_ph {x : Int} : od (ph x) ↔ (x % pP) % 2 = 1 := by
  have := ph_val x
  show (show Fin pN from ph x).val % 2 = 1 ↔ _
  omega
theorem od_0 : ¬ od 0 := by rw [← ph_0, od_ph]; decide
theorem od_neg {a : Fp} (h : a ≠ 0) : od (-a) ↔ ¬ od a := by
  obtain ⟨x, h0, h1, rfl⟩ := ph_sur a
  have n : x ≠ 0 := fun z => h (by rw [z, ph_0])
  rw [← ph_neg, od_ph, od_ph, Int.emod_eq_of_lt h0 h1]
  have : (-x) % pP = pP - x := by
    rw [← Int.add_emod_right, Int.emod_eq_of_lt (by omega) (by omega)]; omega
  rw [this]
  have : pP % 2 = 1 := by decide
  omega
def ab (a : Fp) : Fp := if od a then -a else a
theorem ab_neg (a : Fp) : ab (-a) = ab a := by
  by_cases h : a = 0
  · rw [h, show (-(0 : Fp)) = 0 by grind -lia -linarith]
  · unfold ab
    by_cases c : od a
    · rw [if_pos c, if_neg (fun z => (od_neg h).mp z c)]
    · rw [if_neg c, if_pos ((od_neg h).mpr c)]; grind -lia -linarith
theorem ab_pm (a : Fp) : ab a = a ∨ ab a = -a := by unfold ab; split <;> simp
theorem ab_sq (a : Fp) : ab a * ab a = a * a := by rcases ab_pm a with e | e <;> rw [e]; grind -lia -linarith
theorem ab_ev (a : Fp) : ¬ od (ab a) := by
  unfold ab
  by_cases c : od a
  · rw [if_pos c]
    have h : a ≠ 0 := fun z => od_0 (z ▸ c)
    exact fun z => (od_neg h).mp z c
  · rw [if_neg c]; exact c
theorem ab_eq {a b : Fp} (h : a * a = b * b) : ab a = ab b := by
  have : (a - b) * (a + b) = 0 := by grind -lia -linarith
  rcases k_zero this with e | e
  · rw [show a = b by grind -lia -linarith]
  · rw [show a = -b by grind -lia -linarith, ab_neg]
def fI : Fp := ph 19681161376707505956807079304988542015446066515923890162744021073123829784752
theorem fI_sq : fI * fI = -1 := by
  unfold fI
  rw [← ph_mul, ← ph_1, ← ph_neg, ph_eq, eqP.em]; decide +kernel
theorem two_ne : (2 : Fp) ≠ 0 := by
  have : (2 : Fp) = ph 2 := by rw [show (2 : Int) = 1 + 1 from rfl, ph_add, ph_1]; grind -lia -linarith
  rw [this, Ne, ph_z]; decide
theorem sq_half {z a : Fp} (h : z * z = a) (n : a ≠ 0) : a ^ ((pN - 1) / 2) = 1 := by
  have hz : z ≠ 0 := fun e => n (by rw [← h, e, Lean.Grind.Semiring.mul_zero])
  rw [← h, show z * z = z ^ 2 by grind -lia -linarith, ← fp_pm]
  exact fp_fermat hz
theorem m1_odd : ∀ k : Nat, (-1 : Fp) ^ (2 * k + 1) = -1 := by
  intro k
  induction k with
  | zero => grind -lia -linarith
  | succ k ih => rw [show 2 * (k + 1) + 1 = (2 * k + 1) + 1 + 1 by omega, Lean.Grind.Semiring.pow_succ, Lean.Grind.Semiring.pow_succ, ih]; grind -lia -linarith
theorem one_ne_m1 : (1 : Fp) ≠ -1 := fun h => two_ne (by grind -lia -linarith)
theorem i_nsq (z : Fp) : z * z ≠ fI := by
  intro h
  have n : fI ≠ 0 := fun e => by have := fI_sq; rw [e, Lean.Grind.Semiring.mul_zero] at this; exact fp_01 (by grind -lia -linarith)
  have e := sq_half h n
  have c : (pN - 1) / 2 = 2 * (2 * ((pN - 5) / 8) + 1) := by decide
  rw [c, fp_pm, show fI ^ 2 = fI * fI from Lean.Grind.Semiring.pow_two fI, fI_sq, m1_odd] at e
  exact one_ne_m1 e.symm
def fD : Fp := ph 37095705934669439343138083508754565189542113879843219016388785533085940283555
theorem ph_pm (a e k : Nat) (h : e < 2 ^ k) : ph a ^ e = ph (pm pN k a e) := by
  rw [← ph_pow, pm_eq pN k a e h, ph_eq, eqP.em, ← pN_P]
  rw [show ((a ^ e % pN : Nat) : Int) = ((a : Int) ^ e) % pN by simp]
  rw [Int.emod_emod]
theorem d_nsq (z : Fp) : z * z ≠ fD := by
  intro h
  have n : fD ≠ 0 := by unfold fD; rw [Ne, ph_z]; decide
  have e := sq_half h n
  unfold fD at e
  rw [show (37095705934669439343138083508754565189542113879843219016388785533085940283555 : Int) = ((37095705934669439343138083508754565189542113879843219016388785533085940283555 : Nat) : Int) from rfl, ph_pm _ _ 255 (by decide +kernel), ← ph_1, ph_eq, eqP.em] at e
  exact absurd e (by decide +kernel)
theorem cvF : Cv fD fI := ⟨fI_sq, d_nsq, two_ne⟩
def eR : Nat := (pN - 5) / 8
def rA (u w : Fp) : Fp := ((w * w * w * (w * w * w) * w * u) ^ eR * (w * w * w)) * u
def rC (u w : Fp) : Fp := rA u w * rA u w * w
def rB (u w : Fp) : Fp := if rC u w + u = 0 ∨ rC u w + u * fI = 0 then rA u w * fI else rA u w
def rR (u w : Fp) : Fp := ab (rB u w)
abbrev rG (u w : Fp) : Prop := rC u w - u = 0 ∨ rC u w + u = 0
theorem rA_0 {u w : Fp} (h : u = 0 ∨ w = 0) : rA u w = 0 := by
  unfold rA
  rcases h with rfl | rfl
  · rw [Lean.Grind.Semiring.mul_zero]
  · grind -lia -linarith
set_option maxHeartbeats 8000000 in
theorem rC_4 {u w : Fp} (hu : u ≠ 0) (hw : w ≠ 0) : rC u w = u ∨ rC u w = -u ∨ rC u w = u * fI ∨ rC u w = -(u * fI) := by
  have n : w * w * w * (w * w * w) * w * u ≠ 0 := k_ne (k_ne (k_ne (k_ne (k_ne hw hw) hw) (k_ne (k_ne hw hw) hw)) hw) hu
  have f := fp_fermat n
  have c : pN - 1 = ((2 * eR + 1) * 2) * 2 := by decide
  have e : rC u w = u * (w * w * w * (w * w * w) * w * u) ^ (2 * eR + 1) := by
    unfold rC rA
    rw [show 2 * eR + 1 = eR + eR + 1 by omega, Lean.Grind.Semiring.pow_succ, Lean.Grind.Semiring.pow_add]
    generalize (w * w * w * (w * w * w) * w * u) ^ eR = q
    clear f
    grind -lia -linarith
  rw [c, fp_pm, fp_pm] at f
  rw [e]
  generalize (w * w * w * (w * w * w) * w * u) ^ (2 * eR + 1) = x at *
  have hi := fI_sq
  have z : ((x - 1) * (x + 1)) * ((x - fI) * (x + fI)) = 0 := by grind -lia -linarith
  rcases k_zero z with z | z <;> rcases k_zero z with z | z
  · left; rw [show x = 1 by grind -lia -linarith]; grind -lia -linarith
  · right; left; rw [show x = -1 by grind -lia -linarith]; grind -lia -linarith
  · right; right; left; rw [show x = fI by grind -lia -linarith]
  · right; right; right; rw [show x = -fI by grind -lia -linarith]; grind -lia -linarith
set_option maxHeartbeats 8000000 in
theorem rR_sq {u w : Fp} (hu : u ≠ 0) (hw : w ≠ 0) : (rG u w → rR u w * rR u w * w = u) ∧ (¬ rG u w → rR u w * rR u w * w = u * fI) := by
  have hi := fI_sq
  have fi0 : fI ≠ 0 := fun e => by rw [e, Lean.Grind.Semiring.mul_zero] at hi; exact fp_01 (by grind -lia -linarith)
  have h2 := k_ne two_ne hu
  have hui := k_ne h2 fi0
  have ne1 : fI ≠ 1 := fun e => i_nsq 1 (by rw [e]; grind -lia -linarith)
  have ne2 : fI ≠ -1 := fun e => i_nsq fI (by rw [hi, e])
  unfold rR
  rw [ab_sq]
  have cC : rA u w * rA u w * w = rC u w := rfl
  have q1 : u * fI - u ≠ 0 := fun z => by
    have : u * (fI - 1) = 0 := by grind -lia -linarith
    rcases k_zero this with z | z
    · exact hu z
    · exact ne1 (by grind -lia -linarith)
  have q2 : u * fI + u ≠ 0 := fun z => by
    have : u * (fI + 1) = 0 := by grind -lia -linarith
    rcases k_zero this with z | z
    · exact hu z
    · exact ne2 (by grind -lia -linarith)
  unfold rG rB
  rcases rC_4 hu hw with e | e | e | e <;> rw [e]
  · rw [if_neg (by intro z; rcases z with z | z; exact h2 (by grind -lia -linarith); exact q2 (by grind -lia -linarith))]
    rw [cC, e]
    exact ⟨fun _ => rfl, fun z => absurd (Or.inl (by grind -lia -linarith)) z⟩
  · rw [if_pos (Or.inl (by grind -lia -linarith))]
    rw [show rA u w * fI * (rA u w * fI) * w = (rA u w * rA u w * w) * (fI * fI) by grind -lia -linarith, cC, e, hi]
    exact ⟨fun _ => by grind -lia -linarith, fun z => absurd (Or.inr (by grind -lia -linarith)) z⟩
  · rw [if_neg (by intro z; rcases z with z | z; exact q2 z; exact hui (by grind -lia -linarith))]
    rw [cC, e]
    exact ⟨fun z => by rcases z with z | z; exact absurd z q1; exact absurd z q2, fun _ => rfl⟩
  · rw [if_pos (Or.inr (by grind -lia -linarith))]
    rw [show rA u w * fI * (rA u w * fI) * w = (rA u w * rA u w * w) * (fI * fI) by grind -lia -linarith, cC, e, hi]
    exact ⟨fun z => by rcases z with z | z; exact absurd (by grind -lia -linarith) q2; exact absurd (by grind -lia -linarith) q1, fun _ => by grind -lia -linarith⟩
theorem rR_0 {u w : Fp} (h : u = 0 ∨ w = 0) : rR u w = 0 := by
  have e := rA_0 h
  unfold rR rB
  rw [e]
  have a0 : ab 0 = 0 := by unfold ab; rw [if_neg od_0]
  split
  · rw [Lean.Grind.Semiring.zero_mul, a0]
  · exact a0
set_option maxHeartbeats 8000000 in
theorem rR_sc {u w w' l : Fp} (hl : l ≠ 0) (hw : w' * (l * l) = w) : ∃ s : Fp, (s = 1 ∨ s = -1) ∧ rR u w' = s * (l * rR u w) := by
  by_cases h0 : u = 0 ∨ w = 0
  · have h1 : u = 0 ∨ w' = 0 := by
      rcases h0 with h | h
      · exact Or.inl h
      · rw [h] at hw
        rcases k_zero hw with z | z
        · exact Or.inr z
        · exact absurd z (k_ne hl hl)
    exact ⟨1, Or.inl rfl, by rw [rR_0 h0, rR_0 h1]; grind -lia -linarith⟩
  · have hu : u ≠ 0 := fun z => h0 (Or.inl z)
    have wn : w ≠ 0 := fun z => h0 (Or.inr z)
    have wn' : w' ≠ 0 := fun z => wn (by rw [← hw, z, Lean.Grind.Semiring.zero_mul])
    obtain ⟨a1, a2⟩ := rR_sq hu wn
    obtain ⟨b1, b2⟩ := rR_sq hu wn'
    have hi := fI_sq
    have same : rR u w' * rR u w' = (l * rR u w) * (l * rR u w) := by
      refine k_can wn' ?_
      have t : (l * rR u w) * (l * rR u w) * w' = rR u w * rR u w * w := by rw [← hw]; grind -lia -linarith
      rw [t]
      by_cases g : rG u w
      · by_cases g' : rG u w'
        · rw [a1 g, b1 g']
        · exfalso
          have e1 := a1 g
          have e2 := b2 g'
          have rn : rR u w ≠ 0 := fun z => hu (by rw [← e1, z]; grind -lia -linarith)
          refine i_nsq ((dv (rR u w') (l * rR u w))) ?_
          have k := k_dv (a := rR u w') (k_ne hl rn)
          generalize (dv (rR u w') (l * rR u w)) = q at *
          refine k_can hu ?_
          rw [← k] at e2
          grind -lia -linarith
      · by_cases g' : rG u w'
        · exfalso
          have e1 := a2 g
          have e2 := b1 g'
          have rn : rR u w' ≠ 0 := fun z => hu (by rw [← e2, z]; grind -lia -linarith)
          refine i_nsq ((dv (l * rR u w) (rR u w'))) ?_
          have k := k_dv (a := l * rR u w) rn
          generalize (dv (l * rR u w) (rR u w')) = q at *
          refine k_can hu ?_
          grind -lia -linarith
        · rw [a2 g, b2 g']
    have : (rR u w' - l * rR u w) * (rR u w' + l * rR u w) = 0 := by grind -lia -linarith
    rcases k_zero this with z | z
    · exact ⟨1, Or.inl rfl, by grind -lia -linarith⟩
    · exact ⟨-1, Or.inr rfl, by grind -lia -linarith⟩
def fE : Fp := ph 54469307008909316920995813868745141605393597292927456921205312896311721017578
def cAq (Y Z : Fp) : Fp := (Z + Y) * (Z - Y)
def cR (X Y Z : Fp) : Fp := rR 1 ((X * Y) * (X * Y) * cAq Y Z)
def cS (X Y Z T : Fp) : Fp := (cAq Y Z * cR X Y Z) * (X * Y * cR X Y Z) * T
def cF (X Y Z T : Fp) : Fp :=
  let e := if od (cS X Y Z T * T) then Y * fI else X
  let f := if od (cS X Y Z T * T) then X * fI else Y
  let g := if od (cS X Y Z T * T) then (cAq Y Z * cR X Y Z) * fE else X * Y * cR X Y Z
  let f' := if od (e * cS X Y Z T) then -f else f
  ab ((Z - f') * g)
set_option maxHeartbeats 8000000 in
theorem cF_sc {X Y Z T l : Fp} (hl : l ≠ 0) : cF (l * X) (l * Y) (l * Z) (l * T) = cF X Y Z T := by
  have li := k_dv (a := (1 : Fp)) hl
  have ln : (dv (1 : Fp) l) ≠ 0 := fun z => fp_01 (by rw [← li, z]; grind -lia -linarith)
  generalize (dv (1 : Fp) l) = m at *
  have e1 : cAq (l * Y) (l * Z) = l * l * cAq Y Z := by unfold cAq; grind -lia -linarith
  obtain ⟨s, hs, e2⟩ : ∃ s : Fp, (s = 1 ∨ s = -1) ∧ cR (l * X) (l * Y) (l * Z) = s * (m * m * m * cR X Y Z) := by
    unfold cR
    refine rR_sc (l := m * m * m) (k_ne (k_ne ln ln) ln) ?_
    rw [e1]
    generalize cAq Y Z = a
    have l6 : (m * l) ^ 6 = 1 := by rw [li]; grind -lia -linarith
    have : l * X * (l * Y) * (l * X * (l * Y)) * (l * l * a) * (m * m * m * (m * m * m)) = (m * l) ^ 6 * (X * Y * (X * Y) * a) := by grind -lia -linarith
    rw [this, l6]; grind -lia -linarith
  have ss : s * s = 1 := by rcases hs with rfl | rfl <;> grind -lia -linarith
  have e3 : cS (l * X) (l * Y) (l * Z) (l * T) = m * cS X Y Z T := by
    unfold cS
    rw [e1, e2]
    generalize cR X Y Z = r
    generalize cAq Y Z = a
    have : l * l * a * (s * (m * m * m * r)) * (l * X * (l * Y) * (s * (m * m * m * r))) * (l * T) = (s * s) * (m * l) ^ 5 * (m * (a * r * (X * Y * r) * T)) := by grind -lia -linarith
    rw [this, ss, li]; grind -lia -linarith
  unfold cF
  rw [e3, e1, e2]
  have t1 : m * cS X Y Z T * (l * T) = cS X Y Z T * T := by
    rw [show m * cS X Y Z T * (l * T) = (m * l) * (cS X Y Z T * T) by grind -lia -linarith, li]; grind -lia -linarith
  rw [t1]
  generalize cS X Y Z T = S at *
  generalize cR X Y Z = r at *
  generalize cAq Y Z = a at *
  by_cases c : od (S * T)
  · rw [if_pos c, if_pos c, if_pos c, if_pos c, if_pos c, if_pos c]
    have t2 : l * Y * fI * (m * S) = Y * fI * S := by rw [show l * Y * fI * (m * S) = (m * l) * (Y * fI * S) by grind -lia -linarith, li]; grind -lia -linarith
    dsimp only
    rw [t2]
    have key : ∀ f : Fp, (l * Z - l * f) * (l * l * a * (s * (m * m * m * r)) * fE) = s * ((Z - f) * (a * r * fE)) := fun f => by
      rw [show (l * Z - l * f) * (l * l * a * (s * (m * m * m * r)) * fE) = (m * l) ^ 3 * (s * ((Z - f) * (a * r * fE))) by grind -lia -linarith, li]; grind -lia -linarith
    by_cases c2 : od (Y * fI * S)
    · rw [if_pos c2, if_pos c2, show -(l * X * fI) = l * (-(X * fI)) by grind -lia -linarith, key]
      rcases hs with rfl | rfl
      · rw [Lean.Grind.Semiring.one_mul]
      · rw [show (-1 : Fp) * ((Z - -(X * fI)) * (a * r * fE)) = -((Z - -(X * fI)) * (a * r * fE)) by grind -lia -linarith, ab_neg]
    · rw [if_neg c2, if_neg c2, show l * X * fI = l * (X * fI) by grind -lia -linarith, key]
      rcases hs with rfl | rfl
      · rw [Lean.Grind.Semiring.one_mul]
      · rw [show (-1 : Fp) * ((Z - X * fI) * (a * r * fE)) = -((Z - X * fI) * (a * r * fE)) by grind -lia -linarith, ab_neg]
  · rw [if_neg c, if_neg c, if_neg c, if_neg c, if_neg c, if_neg c]
    have t2 : l * X * (m * S) = X * S := by rw [show l * X * (m * S) = (m * l) * (X * S) by grind -lia -linarith, li]; grind -lia -linarith
    dsimp only
    rw [t2]
    have key : ∀ f : Fp, (l * Z - l * f) * (l * X * (l * Y) * (s * (m * m * m * r))) = s * ((Z - f) * (X * Y * r)) := fun f => by
      rw [show (l * Z - l * f) * (l * X * (l * Y) * (s * (m * m * m * r))) = (m * l) ^ 3 * (s * ((Z - f) * (X * Y * r))) by grind -lia -linarith, li]; grind -lia -linarith
    by_cases c2 : od (X * S)
    · rw [if_pos c2, if_pos c2, show -(l * Y) = l * (-Y) by grind -lia -linarith, key]
      rcases hs with rfl | rfl
      · rw [Lean.Grind.Semiring.one_mul]
      · rw [show (-1 : Fp) * ((Z - -Y) * (X * Y * r)) = -((Z - -Y) * (X * Y * r)) by grind -lia -linarith, ab_neg]
    · rw [if_neg c2, if_neg c2, key]
      rcases hs with rfl | rfl
      · rw [Lean.Grind.Semiring.one_mul]
      · rw [show (-1 : Fp) * ((Z - Y) * (X * Y * r)) = -((Z - Y) * (X * Y * r)) by grind -lia -linarith, ab_neg]
theorem fp_dk {a k : Fp} (h : a * a = fD * (k * k)) : k = 0 := by
  refine Classical.byContradiction fun n => ?_
  refine d_nsq ((dv a k)) ?_
  have e := k_dv (a := a) n
  generalize (dv a k) = q at *
  refine k_can (k_ne n n) ?_
  rw [← h, ← e]; grind -lia -linarith
theorem rG_0 {u : Fp} (hu : u ≠ 0) : ¬ rG u 0 := by
  have e := rA_0 (u := u) (w := 0) (Or.inr rfl)
  unfold rG rC
  rw [e]
  intro z
  rcases z with z | z <;> exact hu (by grind -lia -linarith)
theorem one_ne : (1 : Fp) ≠ 0 := fun h => fp_01 h.symm
def qA (s : Fp) : Fp := 1 - s * s
def qB (s : Fp) : Fp := 1 + s * s
def qF (s : Fp) : Fp := -(qA s * qA s * fD + qB s * qB s)
def qC (s : Fp) : Fp := qB s * qB s * qF s
def qR (s : Fp) : Fp := rR 1 (qC s)
def qE (s : Fp) : Fp := ab (s * qR s * qB s + s * qR s * qB s)
def qG (s : Fp) : Fp := qR s * qR s * qA s * qB s * qF s
set_option maxHeartbeats 8000000 in
theorem q_on {s : Fp} (h : rG 1 (qC s)) : OnP fD (qE s, qG s) := by
  have c0 : qC s ≠ 0 := fun z => rG_0 one_ne (z ▸ h)
  have hr := (rR_sq one_ne c0).1 h
  have hx : qE s * qE s = (s * qR s * qB s + s * qR s * qB s) * (s * qR s * qB s + s * qR s * qB s) := ab_sq _
  unfold OnP On
  dsimp only
  rw [hx]
  have hR : qR s * qR s * (qB s * qB s * qF s) = 1 := hr
  have hy : qG s * qB s = qA s := by
    unfold qG
    rw [show qR s * qR s * qA s * qB s * qF s * qB s = qR s * qR s * (qB s * qB s * qF s) * qA s by grind -lia -linarith, hR]; grind -lia -linarith
  generalize qG s = y at *
  generalize qR s = r at *
  have hF : qF s = -(qA s * qA s * fD + qB s * qB s) := rfl
  have hA : qA s = 1 - s * s := rfl
  have hB : qB s = 1 + s * s := rfl
  unfold qC at c0
  generalize qF s = F at *
  generalize qA s = A at *
  generalize qB s = B at *
  have nB : B ≠ 0 := fun z => c0 (by rw [z]; grind -lia -linarith)
  refine k_can (k_ne nB nB) ?_
  have f1 : (s * r * B + s * r * B) * (s * r * B + s * r * B) * F = 4 * (s * s) := by
    rw [show (s * r * B + s * r * B) * (s * r * B + s * r * B) * F = 4 * (s * s) * (r * r * (B * B * F)) by grind -lia -linarith, hR]; grind -lia -linarith
  generalize (s * r * B + s * r * B) * (s * r * B + s * r * B) = X at *
  have f2 : (y * y) * (B * B) = A * A := by rw [← hy]; grind -lia -linarith
  generalize y * y = Y at *
  have e0 : A * A = B * B - 4 * (s * s) := by rw [hA, hB]; clear hx hR hy nB c0 h hr f2 f1 hF hA hB; grind -lia -linarith
  clear hx hR hy nB c0 h hr hA hB
  rw [← f1, hF] at e0
  clear f1 hF
  have : A * A - X * (B * B) = B * B + fD * X * (A * A) := by grind -lia -linarith
  rw [show (Y - X) * (B * B) = Y * (B * B) - X * (B * B) by grind -lia -linarith, show (1 + fD * X * Y) * (B * B) = B * B + fD * X * (Y * (B * B)) by grind -lia -linarith, f2]
  exact this
def fG : Fp := ph 25063068953384623474111414158702152701244531502492656460079210482610430750235
theorem fG_sq : fG * fG = -(fD + 1) := by
  unfold fG fD
  rw [← ph_mul, ← ph_1, ← ph_add, ← ph_neg, ph_eq, eqP.em]; decide +kernel
theorem d_ne1 : fD - 1 ≠ 0 := by
  unfold fD
  rw [← ph_1, ← ph_sub, Ne, ph_z]; decide +kernel
theorem d_ne0 : fD ≠ 0 := fun h => d_nsq 0 (by rw [h]; grind -lia -linarith)
theorem fG_ne : fG ≠ 0 := by unfold fG; rw [Ne, ph_z]; decide +kernel
def gU_ (r : Fp) : Fp := (r + 1) * (1 - fD * fD)
def gV_ (r : Fp) : Fp := -(r * fD + 1) * (r + fD)
def gS_ (t r : Fp) : Fp := if rG (gU_ r) (gV_ r) then rR (gU_ r) (gV_ r) else -ab (rR (gU_ r) (gV_ r) * t)
def gC_ (t r : Fp) : Fp := if rG (gU_ r) (gV_ r) then -1 else r
def gN_ (t r : Fp) : Fp := gC_ t r * (r - 1) * ((fD - 1) * (fD - 1)) - gV_ r
set_option maxHeartbeats 8000000 in
theorem m_cases (t : Fp) {r : Fp} (hr : r = t * t * fI) : (gS_ t r = 0 ∧ (gU_ r = 0 ∨ gV_ r = 0)) ∨ (gS_ t r * gS_ t r * gV_ r = gU_ r ∧ gC_ t r = -1) ∨ (gS_ t r * gS_ t r * gV_ r = r * gU_ r ∧ gC_ t r = r) := by
  by_cases h0 : gU_ r = 0 ∨ gV_ r = 0
  · left
    refine ⟨?_, h0⟩
    unfold gS_
    rw [rR_0 h0]
    have a0 : ab 0 = 0 := by unfold ab; rw [if_neg od_0]
    split
    · rfl
    · rw [Lean.Grind.Semiring.zero_mul, a0]; grind -lia -linarith
  · right
    have hu : gU_ r ≠ 0 := fun z => h0 (Or.inl z)
    have hv : gV_ r ≠ 0 := fun z => h0 (Or.inr z)
    obtain ⟨a, b⟩ := rR_sq hu hv
    by_cases g : rG (gU_ r) (gV_ r)
    · left
      unfold gS_ gC_
      rw [if_pos g, if_pos g]; exact ⟨a g, rfl⟩
    · right
      unfold gS_ gC_
      rw [if_neg g, if_neg g]
      refine ⟨?_, rfl⟩
      have e := b g
      have q := ab_sq (rR (gU_ r) (gV_ r) * t)
      generalize rR (gU_ r) (gV_ r) = s at *
      generalize ab (s * t) = w at *
      rw [show -w * -w * gV_ r = w * w * gV_ r by grind -lia -linarith, q, show s * t * (s * t) * gV_ r = s * s * gV_ r * (t * t) by grind -lia -linarith, e, hr]
      generalize gU_ (t * t * fI) = z
      grind -lia -linarith
set_option maxHeartbeats 8000000 in
theorem m_s1 (t : Fp) {r : Fp} (hr : r = t * t * fI) : 1 + gS_ t r * gS_ t r ≠ 0 := by
  intro z
  have z' : gS_ t r * gS_ t r = -1 := by grind -lia -linarith
  have hi := fI_sq
  have hg := fG_sq
  rcases m_cases t hr with ⟨e, -⟩ | ⟨e, -⟩ | ⟨e, -⟩
  · rw [e] at z'; exact fp_01 (by grind -lia -linarith)
  · rw [z'] at e
    have k : fI * fG * (fD - 1) = 0 := by
      refine fp_dk (a := fD * r + fD * fD) ?_
      unfold gU_ gV_ at e
      have : fI * fG * (fD - 1) * (fI * fG * (fD - 1)) = (fI * fI) * (fG * fG) * ((fD - 1) * (fD - 1)) := by grind -lia -linarith
      rw [this, hi, hg]
      grind -lia -linarith
    have fi0 : fI ≠ 0 := fun e => by rw [e] at hi; exact fp_01 (by grind -lia -linarith)
    exact k_ne (k_ne fi0 fG_ne) d_ne1 k
  · rw [z'] at e
    have k : fI * fG * (fD - 1) * r = 0 := by
      refine fp_dk (a := fD * fD * r + fD) ?_
      unfold gU_ gV_ at e
      have : fI * fG * (fD - 1) * r * (fI * fG * (fD - 1) * r) = (fI * fI) * (fG * fG) * ((fD - 1) * (fD - 1)) * (r * r) := by grind -lia -linarith
      rw [this, hi, hg]
      grind -lia -linarith
    have fi0 : fI ≠ 0 := fun e => by rw [e] at hi; exact fp_01 (by grind -lia -linarith)
    rcases k_zero k with k | k
    · exact k_ne (k_ne fi0 fG_ne) d_ne1 k
    · rw [k] at e
      unfold gU_ gV_ at e
      exact d_ne0 (by grind -lia -linarith)
set_option maxHeartbeats 8000000 in
theorem m_n (t : Fp) {r : Fp} (hr : r = t * t * fI) : gN_ t r ≠ 0 := by
  intro z
  have hi := fI_sq
  have fi0 : fI ≠ 0 := fun e => by rw [e] at hi; exact fp_01 (by grind -lia -linarith)
  have hc : gC_ t r = -1 ∨ gC_ t r = r := by unfold gC_; split <;> simp
  unfold gN_ at z
  rcases hc with e | e
  · rw [e] at z
    have k : fI * (fD - 1) = 0 := by
      refine fp_dk (a := fD * r + fD) ?_
      have : fI * (fD - 1) * (fI * (fD - 1)) = (fI * fI) * ((fD - 1) * (fD - 1)) := by grind -lia -linarith
      rw [this, hi]
      unfold gV_ at z
      grind -lia -linarith
    exact k_ne fi0 d_ne1 k
  · rw [e] at z
    have k : fI * (fD - 1) * r = 0 := by
      refine fp_dk (a := fD * r + fD) ?_
      have : fI * (fD - 1) * r * (fI * (fD - 1) * r) = (fI * fI) * ((fD - 1) * (fD - 1)) * (r * r) := by grind -lia -linarith
      rw [this, hi]
      unfold gV_ at z
      grind -lia -linarith
    rcases k_zero k with k | k
    · exact k_ne fi0 d_ne1 k
    · rw [k] at z
      unfold gV_ at z
      exact d_ne0 (by grind -lia -linarith)
def gX_ (t : Fp) : Fp := ((gS_ t (t * t * fI) + gS_ t (t * t * fI)) * gV_ (t * t * fI)) * (1 + gS_ t (t * t * fI) * gS_ t (t * t * fI))
def gY_ (t : Fp) : Fp := (1 - gS_ t (t * t * fI) * gS_ t (t * t * fI)) * (gN_ t (t * t * fI) * fG)
def gZ_ (t : Fp) : Fp := (gN_ t (t * t * fI) * fG) * (1 + gS_ t (t * t * fI) * gS_ t (t * t * fI))
def gT_ (t : Fp) : Fp := ((gS_ t (t * t * fI) + gS_ t (t * t * fI)) * gV_ (t * t * fI)) * (1 - gS_ t (t * t * fI) * gS_ t (t * t * fI))
set_option maxHeartbeats 8000000 in
theorem m_pj (t : Fp) : ∃ P, OnP fD P ∧ Pj P (gX_ t) (gY_ t) (gZ_ t) (gT_ t) := by
  unfold gX_ gY_ gZ_ gT_
  obtain ⟨r, hr⟩ : ∃ r, r = t * t * fI := ⟨_, rfl⟩
  rw [← hr]
  have n1 := m_s1 t hr
  have n2 := m_n t hr
  have n3 := k_ne n2 fG_ne
  have cs := m_cases t hr
  have hN : gN_ t r = gC_ t r * (r - 1) * ((fD - 1) * (fD - 1)) - gV_ r := rfl
  have hU : gU_ r = (r + 1) * (1 - fD * fD) := rfl
  have hV : gV_ r = -(r * fD + 1) * (r + fD) := rfl
  have hg := fG_sq
  generalize gS_ t r = s at *
  generalize gC_ t r = c at *
  generalize gN_ t r = N at *
  have ex := k_dv (a := (s + s) * gV_ r) n3
  have ey := k_dv (a := 1 - s * s) n1
  refine ⟨((dv ((s + s) * gV_ r) (N * fG)), (dv (1 - s * s) (1 + s * s))), ?_, k_ne n3 n1, ?_, ?_, ?_⟩
  · show On fD _ _
    unfold On
    generalize (dv ((s + s) * gV_ r) (N * fG)) = x at *
    generalize (dv (1 - s * s) (1 + s * s)) = y at *
    refine k_can (k_ne (k_ne n3 n3) (k_ne n1 n1)) ?_
    have a1 : x * x * (N * fG * (N * fG)) = 4 * (s * s) * (gV_ r * gV_ r) := by
      rw [show x * x * (N * fG * (N * fG)) = (x * (N * fG)) * (x * (N * fG)) by grind -lia -linarith, ex]; grind -lia -linarith
    have a2 : y * y * ((1 + s * s) * (1 + s * s)) = (1 - s * s) * (1 - s * s) := by
      rw [show y * y * ((1 + s * s) * (1 + s * s)) = (y * (1 + s * s)) * (y * (1 + s * s)) by grind -lia -linarith, ey]
    have a3 : (N * fG * (N * fG)) = -(fD + 1) * (N * N) := by rw [show N * fG * (N * fG) = (fG * fG) * (N * N) by grind -lia -linarith, hg]
    have key : s * s * ((fD + 1) * (N * N)) = s * s * (gV_ r * gV_ r * ((1 + s * s) * (1 + s * s)) + fD * (gV_ r * gV_ r * ((1 - s * s) * (1 - s * s)))) := by
      rcases cs with ⟨e, -⟩ | ⟨e, e2⟩ | ⟨e, e2⟩
      · rw [e]; grind -lia -linarith
      · have b1 : gV_ r * gV_ r * ((1 + s * s) * (1 + s * s)) = (gV_ r + gU_ r) * (gV_ r + gU_ r) := by rw [← e]; grind -lia -linarith
        have b2 : gV_ r * gV_ r * ((1 - s * s) * (1 - s * s)) = (gV_ r - gU_ r) * (gV_ r - gU_ r) := by rw [← e]; grind -lia -linarith
        rw [b1, b2, hN, e2, hU, hV]
        generalize s * s = q
        grind -lia -linarith
      · have b1 : gV_ r * gV_ r * ((1 + s * s) * (1 + s * s)) = (gV_ r + r * gU_ r) * (gV_ r + r * gU_ r) := by rw [← e]; grind -lia -linarith
        have b2 : gV_ r * gV_ r * ((1 - s * s) * (1 - s * s)) = (gV_ r - r * gU_ r) * (gV_ r - r * gU_ r) := by rw [← e]; grind -lia -linarith
        rw [b1, b2, hN, e2, hU, hV]
        generalize s * s = q
        grind -lia -linarith
    have l1 : (y * y - x * x) * (N * fG * (N * fG) * ((1 + s * s) * (1 + s * s))) = (1 - s * s) * (1 - s * s) * (N * fG * (N * fG)) - 4 * (s * s) * (gV_ r * gV_ r) * ((1 + s * s) * (1 + s * s)) := by rw [← a1, ← a2]; grind -lia -linarith
    have l2 : (1 + fD * (x * x) * (y * y)) * (N * fG * (N * fG) * ((1 + s * s) * (1 + s * s))) = (N * fG * (N * fG) * ((1 + s * s) * (1 + s * s))) + fD * (4 * (s * s) * (gV_ r * gV_ r)) * ((1 - s * s) * (1 - s * s)) := by rw [← a1, ← a2]; grind -lia -linarith
    rw [l1, l2, a3]
    clear l1 l2 a1 a2 a3 ex ey cs hN hU hV hr hg
    generalize gV_ r * gV_ r = W at *
    generalize N * N = Q at *
    generalize s * s = q at *
    grind -lia -linarith
  all_goals
    dsimp only
    clear cs hN hU hV hr hg n1 n2 n3
    generalize (dv ((s + s) * gV_ r) (N * fG)) = x at *
    generalize (dv (1 - s * s) (1 + s * s)) = y at *
  · rw [← ex]; clear ex ey; grind -lia -linarith
  · rw [← ey]; clear ex ey; grind -lia -linarith
  · rw [← ex, ← ey]; clear ex ey; grind -lia -linarith
def bX : Fp := ph 15112221349535400772501151409588531511454012693041857206046113283949847762202
def bY : Fp := ph 46316835694926478169428394003475163141307993866256225615783033603165251855960
theorem b_on : OnP fD (bX, bY) := by
  show bY * bY - bX * bX = 1 + fD * (bX * bX) * (bY * bY)
  unfold bX bY fD
  rw [← ph_mul, ← ph_mul, ← ph_sub, ← ph_1, ← ph_mul, ← ph_mul, ← ph_add, ph_eq, eqP.em]; decide +kernel
theorem ab_id {a : Fp} (h : ¬ od a) : ab a = a := by unfold ab; rw [if_neg h]
theorem fp_sn (x : Fp) : 1 - -x = 1 + x := by grind -lia -linarith
theorem four_ne : (4 : Fp) ≠ 0 := by
  have := k_ne two_ne two_ne
  rwa [show (2 : Fp) * 2 = 4 by grind -lia -linarith] at this
theorem rG_sq {w k : Fp} (h : w = k * k) (hk : k ≠ 0) : rG 1 w ∧ rR 1 w * rR 1 w * w = 1 := by
  have wn : w ≠ 0 := by rw [h]; exact k_ne hk hk
  obtain ⟨a, b⟩ := rR_sq one_ne wn
  by_cases g : rG 1 w
  · exact ⟨g, a g⟩
  · exfalso
    have e := b g
    refine i_nsq (rR 1 w * k) ?_
    rw [show rR 1 w * k * (rR 1 w * k) = rR 1 w * rR 1 w * (k * k) by grind -lia -linarith, ← h, e]; grind -lia -linarith
set_option maxHeartbeats 8000000 in
theorem q_rt {s a b k : Fp} (hon : On fD a b) (hk : 1 - b * b = k * k) (hk0 : k ≠ 0) (ha : a ≠ 0) (hs : s * s * (1 + b) = 1 - b) (hev : ¬ od a) : rG 1 (qC s) ∧ qE s = a ∧ qG s = b := by
  have n : 1 + b ≠ 0 := fun z => k_ne hk0 hk0 (by rw [← hk, show 1 - b * b = (1 + b) * (1 - b) by grind -lia -linarith, z]; grind -lia -linarith)
  have hB : qB s * (1 + b) = 2 := by unfold qB; rw [show (1 + s * s) * (1 + b) = 1 + b + s * s * (1 + b) by grind -lia -linarith, hs]; grind -lia -linarith
  have hA : qA s * (1 + b) = 2 * b := by unfold qA; rw [show (1 - s * s) * (1 + b) = 1 + b - s * s * (1 + b) by grind -lia -linarith, hs]; grind -lia -linarith
  have hF : qF s * ((1 + b) * (1 + b)) * (a * a) = 4 * (k * k) := by
    unfold qF
    rw [show -(qA s * qA s * fD + qB s * qB s) * ((1 + b) * (1 + b)) * (a * a) = -((qA s * (1 + b)) * (qA s * (1 + b)) * fD + (qB s * (1 + b)) * (qB s * (1 + b))) * (a * a) by grind -lia -linarith, hA, hB, ← hk]
    unfold On at hon
    clear hA hB hk n ha hk0 hs hev
    grind -lia -linarith
  have nn := k_ne (k_ne n n) ha
  have hC : qC s = ((dv (4 * k) ((1 + b) * (1 + b) * a))) * ((dv (4 * k) ((1 + b) * (1 + b) * a))) := by
    have e := k_dv (a := 4 * k) nn
    generalize (dv (4 * k) ((1 + b) * (1 + b) * a)) = z at *
    refine k_can (k_ne nn nn) ?_
    unfold qC
    rw [show z * z * ((1 + b) * (1 + b) * a * ((1 + b) * (1 + b) * a)) = (z * ((1 + b) * (1 + b) * a)) * (z * ((1 + b) * (1 + b) * a)) by grind -lia -linarith, e, show qB s * qB s * qF s * ((1 + b) * (1 + b) * a * ((1 + b) * (1 + b) * a)) = (qB s * (1 + b)) * (qB s * (1 + b)) * (qF s * ((1 + b) * (1 + b)) * (a * a)) by grind -lia -linarith, hB, hF]
    grind -lia -linarith
  have zn : (dv (4 * k) ((1 + b) * (1 + b) * a)) ≠ 0 := fun z => by
    have e := k_dv (a := 4 * k) nn
    rw [z] at e
    exact k_ne four_ne hk0 (by rw [← e]; grind -lia -linarith)
  obtain ⟨g, hr⟩ := rG_sq hC zn
  have hR : qR s * qR s * (qB s * qB s * qF s) = 1 := hr
  refine ⟨g, ?_, ?_⟩
  · rw [← ab_id hev]
    unfold qE
    refine ab_eq ?_
    refine k_can (k_ne four_ne (k_ne hk0 hk0)) ?_
    rw [← hF]
    rw [show (s * qR s * qB s + s * qR s * qB s) * (s * qR s * qB s + s * qR s * qB s) * (qF s * ((1 + b) * (1 + b)) * (a * a)) = 4 * (qR s * qR s * (qB s * qB s * qF s)) * (s * s * (1 + b)) * (1 + b) * (a * a) by grind -lia -linarith, hR, hs, hF, ← hk]
    grind -lia -linarith
  · refine k_can two_ne ?_
    rw [← hB]
    unfold qG
    rw [show qR s * qR s * qA s * qB s * qF s * (qB s * (1 + b)) = qR s * qR s * (qB s * qB s * qF s) * (qA s * (1 + b)) by grind -lia -linarith, hR, hA, hB]
    grind -lia -linarith
theorem fE_sq : fE * fE * (fG * fG) = 1 := by
  unfold fE fG
  rw [← ph_mul, ← ph_mul, ← ph_mul, ← ph_1, ph_eq, eqP.em]; decide +kernel
abbrev qOK (s : Fp) : Prop := rG 1 (qC s) ∧ ¬ od (qE s * qG s) ∧ qG s ≠ 0
theorem qOK_z {s : Fp} (h0 : s = 0) : qOK s := by
  have hA : qA s = 1 := by unfold qA; rw [h0]; grobner
  have hB : qB s = 1 := by unfold qB; rw [h0]; grobner
  have hC : qC s = fG * fG := by rw [fG_sq]; unfold qC qF; rw [hA, hB]; grobner
  obtain ⟨g, hr⟩ := rG_sq hC fG_ne
  have e0 : qE s = 0 := by
    unfold qE
    rw [show s * qR s * qB s + s * qR s * qB s = 0 by grobner, ab_id od_0]
  have hR : qR s * qR s * (qB s * qB s * qF s) = 1 := hr
  have g1 : qG s = 1 := by
    unfold qG
    rw [← hR, hA, hB]; grobner
  refine ⟨g, ?_, ?_⟩
  · rw [e0, Lean.Grind.Semiring.zero_mul]; exact od_0
  · rw [g1]; exact one_ne
theorem qOK_0 : qOK 0 := qOK_z rfl
set_option maxHeartbeats 8000000 in
theorem code_ok {a b k : Fp} (hon : On fD a b) (hk : 1 - b * b = k * k) : qOK (cF a b 1 (a * b)) := by
  by_cases z : a * b = 0
  · have hR : cR a b 1 = 0 := by
      unfold cR; exact rR_0 (Or.inr (by rw [z]; grind -lia -linarith))
    have hS : cS a b 1 (a * b) = 0 := by unfold cS; rw [hR]; grind -lia -linarith
    have : cF a b 1 (a * b) = 0 := by
      unfold cF
      rw [hS, hR, show (0 : Fp) * (a * b) = 0 by grind -lia -linarith, if_neg od_0, if_neg od_0, if_neg od_0]
      dsimp only
      rw [show a * b * 0 = 0 by grind -lia -linarith]
      generalize (if od (a * 0) then -b else b) = f
      rw [show (1 - f) * 0 = 0 by grind -lia -linarith, ab_id od_0]
    rw [this]; exact qOK_0
  · have ha : a ≠ 0 := fun e => z (by rw [e]; grind -lia -linarith)
    have hb : b ≠ 0 := fun e => z (by rw [e]; grind -lia -linarith)
    have d1 : fD + 1 ≠ 0 := fun e => fG_ne (by
      have := fG_sq
      rw [e] at this
      rcases k_zero (show fG * fG = 0 by rw [this]; grind -lia -linarith) with q | q <;> exact q)
    have hk0 : k ≠ 0 := fun e => by
      rw [e] at hk
      have b1 : b * b = 1 := by grind -lia -linarith
      unfold On at hon
      rw [b1] at hon
      exact k_ne (k_ne ha ha) d1 (by grind -lia -linarith)
    have hcA : cAq b 1 = k * k := by unfold cAq; rw [← hk]; grind -lia -linarith
    have hw : (a * b) * (a * b) * cAq b 1 = (a * b * k) * (a * b * k) := by rw [hcA]; grind -lia -linarith
    obtain ⟨-, hr⟩ := rG_sq hw (k_ne z hk0)
    have hR : cR a b 1 * cR a b 1 * ((a * b) * (a * b) * (k * k)) = 1 := by rw [← hcA]; exact hr
    have hS : cS a b 1 (a * b) = 1 := by
      unfold cS; rw [hcA, ← hR]; grind -lia -linarith
    have hid : (1 - b * b) * (1 + a * a) = -(fD + 1) * (a * a) * (b * b) := by
      unfold On at hon
      clear hk hR hS hw hr hcA hk0 d1 hb ha z
      grind -lia -linarith
    unfold cF
    rw [hS, hcA]
    generalize cR a b 1 = R at *
    clear hS hw hr hcA d1
    rw [show (1 : Fp) * (a * b) = a * b by grind -lia -linarith]
    have fin : ∀ (x y κ : Fp) (g : Fp), On fD x y → 1 - y * y = κ * κ → κ ≠ 0 → x ≠ 0 → y ≠ 0 → ¬ od (x * y) → g * g * (1 - y * y) = 1 → qOK (ab ((1 - (if od x then -y else y)) * g)) := by
      intro x y κ g h1 h2 h3 h4 h5 h6 h7
      have hs : ∀ y', y' * y' = y * y → ab ((1 - y') * g) * ab ((1 - y') * g) * (1 + y') = 1 - y' := by
        intro y' e
        rw [ab_sq, show (1 - y') * g * ((1 - y') * g) * (1 + y') = (g * g * (1 - y' * y')) * (1 - y') by grind -lia -linarith, e, h7]; grind -lia -linarith
      by_cases o : od x
      · rw [if_pos o]
        obtain ⟨p1, p2, p3⟩ := q_rt (s := ab ((1 - -y) * g)) (a := -x) (b := -y) (k := κ) (by unfold On at *; grind -lia -linarith) (by rw [← h2]; grind -lia -linarith) h3 (fun e => h4 (by grind -lia -linarith)) (hs (-y) (by grind -lia -linarith)) (fun c => (od_neg h4).mp c o)
        exact ⟨p1, by rw [p2, p3, show -x * -y = x * y by grind -lia -linarith]; exact h6, by rw [p3]; exact fun e => h5 (by grind -lia -linarith)⟩
      · rw [if_neg o]
        obtain ⟨p1, p2, p3⟩ := q_rt (s := ab ((1 - y) * g)) h1 h2 h3 h4 (hs y rfl) o
        exact ⟨p1, by rw [p2, p3]; exact h6, by rw [p3]; exact h5⟩
    by_cases o : od (a * b)
    · rw [if_pos o, if_pos o, if_pos o]
      dsimp only
      have hi := fI_sq
      have fi0 : fI ≠ 0 := fun e => by rw [e] at hi; exact fp_01 (by grind -lia -linarith)
      rw [show b * fI * 1 = b * fI by grind -lia -linarith]
      have kn := k_dv (a := fG * a * b) hk0
      have hk2 : 1 + a * a = ((dv (fG * a * b) k)) * ((dv (fG * a * b) k)) := by
        refine k_can (k_ne hk0 hk0) ?_
        rw [show (dv (fG * a * b) k) * ((dv (fG * a * b) k)) * (k * k) = ((dv (fG * a * b) k) * k) * ((dv (fG * a * b) k) * k) by grind -lia -linarith, kn, ← hk, show fG * a * b * (fG * a * b) = (fG * fG) * (a * a) * (b * b) by grind -lia -linarith, fG_sq, ← hid]; exact Lean.Grind.CommSemiring.mul_comm _ _
      have kn0 : (dv (fG * a * b) k) ≠ 0 := fun e => by
        rw [e] at kn
        exact k_ne (k_ne fG_ne ha) hb (by rw [← kn]; grind -lia -linarith)
      have y2 : a * fI * (a * fI) = -(a * a) := by rw [show a * fI * (a * fI) = (fI * fI) * (a * a) by grind -lia -linarith, hi]; grind -lia -linarith
      have x2 : b * fI * (b * fI) = -(b * b) := by rw [show b * fI * (b * fI) = (fI * fI) * (b * b) by grind -lia -linarith, hi]; grind -lia -linarith
      have hee := fE_sq
      refine fin (b * fI) (a * fI) ((dv (fG * a * b) k)) (k * k * R * fE) ?_ ?_ kn0 (k_ne hb fi0) (k_ne ha fi0) ?_ ?_
      · unfold On at *; rw [x2, y2]; clear fin hid hR hk hk2 kn; grind -lia -linarith
      · rw [y2, ← hk2, fp_sn]
      · rw [show b * fI * (a * fI) = (fI * fI) * (a * b) by grind -lia -linarith, hi, show (-1 : Fp) * (a * b) = -(a * b) by grind -lia -linarith]
        exact fun c => (od_neg z).mp c o
      · rw [y2]
        refine k_can (k_ne (k_ne ha ha) (k_ne hb hb)) ?_
        rw [show k * k * R * fE * (k * k * R * fE) * (1 - -(a * a)) * (a * a * (b * b)) = (R * R * (a * b * (a * b) * (k * k))) * (fE * fE) * ((k * k) * (1 + a * a)) by grind -lia -linarith, hR, ← hk, hid, ← fG_sq]
        rw [show 1 * (fE * fE) * (fG * fG * (a * a) * (b * b)) = (fE * fE * (fG * fG)) * (a * a * (b * b)) by grind -lia -linarith, hee]
    · rw [if_neg o, if_neg o, if_neg o]
      dsimp only
      rw [show a * 1 = a by grind -lia -linarith]
      refine fin a b k (a * b * R) hon hk hk0 ha hb o ?_
      rw [hk, ← hR]; grind -lia -linarith
set_option maxHeartbeats 8000000 in
theorem Cv.dsq {d i g : Fp} (c : Cv d i) (hg : g * g = -(d + 1)) {x y : Fp} (h : On d x y) : ∃ k, 1 - (ay d x y x y) * (ay d x y x y) = k * k := by
  have m := c.dm h h
  have e := k_dv (a := y * y + x * x) m
  have kn := k_dv (a := 2 * g * x * y) m
  refine ⟨(dv (2 * g * x * y) (1 - d * x * x * y * y)), ?_⟩
  unfold ay
  generalize (dv (y * y + x * x) (1 - d * x * x * y * y)) = b at *
  generalize (dv (2 * g * x * y) (1 - d * x * x * y * y)) = k at *
  refine k_can (k_ne m m) ?_
  unfold On at h
  rw [show (1 - b * b) * ((1 - d * x * x * y * y) * (1 - d * x * x * y * y)) = (1 - d * x * x * y * y) * (1 - d * x * x * y * y) - (b * (1 - d * x * x * y * y)) * (b * (1 - d * x * x * y * y)) by grind -lia -linarith, e, show k * k * ((1 - d * x * x * y * y) * (1 - d * x * x * y * y)) = (k * (1 - d * x * x * y * y)) * (k * (1 - d * x * x * y * y)) by grind -lia -linarith, kn, show 2 * g * x * y * (2 * g * x * y) = 4 * (g * g) * (x * x) * (y * y) by grind -lia -linarith, hg]
  clear m e kn hg
  have f : 1 - d * x * x * y * y = 2 - (y * y - x * x) := by grind -lia -linarith
  rw [f]
  have : d * (x * x) * (y * y) = y * y - x * x - 1 := by grind -lia -linarith
  grind -lia -linarith
theorem Pj.pl (P : Fp × Fp) : Pj P P.1 P.2 1 (P.1 * P.2) := ⟨fun h => fp_01 h.symm, by grind -lia -linarith, by grind -lia -linarith, by grind -lia -linarith⟩
def hX : Fp := ph 35996269670736536800933194745072884287252082790155541032328809766063507389453
def hY : Fp := ph 50991681853204441562074798379791702070647292781544839766488688163191875246508
theorem h_on : OnP fD (hX, hY) := by
  show hY * hY - hX * hX = 1 + fD * (hX * hX) * (hY * hY)
  unfold hX hY fD
  rw [← ph_mul, ← ph_mul, ← ph_sub, ← ph_1, ← ph_mul, ← ph_mul, ← ph_add, ph_eq, eqP.em]; decide +kernel
theorem Cv.dof {d i : Fp} (c : Cv d i) {x y X Y : Fp} (h : OnP d (x, y)) (h1 : x * y + y * x = X * (1 + d * x * x * y * y)) (h2 : y * y + x * x = Y * (1 - d * x * x * y * y)) : ad2 d (x, y) (x, y) = (X, Y) := by
  have p := c.dp h h
  have m := c.dm h h
  have e1 := k_dv (a := x * y + y * x) p
  have e2 := k_dv (a := y * y + x * x) m
  unfold ad2 ax ay
  dsimp only at *
  exact Prod.ext (k_can p (e1.trans h1)) (k_can m (e2.trans h2))
theorem h_dbl : ad2 fD (hX, hY) (hX, hY) = (bX, bY) := by
  refine cvF.dof h_on ?_ ?_
  · unfold hX hY bX fD
    simp only [← ph_mul, ← ph_add, ← ph_1]
    rw [ph_eq, eqP.em]; decide +kernel
  · unfold hX hY bY fD
    simp only [← ph_mul, ← ph_add, ← ph_sub, ← ph_1]
    rw [ph_eq, eqP.em]; decide +kernel
theorem emul_b (n : Nat) : emul fD (bX, bY) n = ad2 fD (emul fD (hX, hY) n) (emul fD (hX, hY) n) := by
  have e : (bX, bY) = emul fD (hX, hY) 2 := by
    rw [← h_dbl]
    show _ = ad2 fD (emul fD (hX, hY) 1) (hX, hY)
    rw [cvF.mul_one h_on]
  rw [e, cvF.mul_mul h_on, ← cvF.mul_add h_on]; congr 1; omega
theorem base_ok {X Y Z T : Fp} {n : Nat} (h : Pj (emul fD (bX, bY) n) X Y Z T) : qOK (cF X Y Z T) := by
  have hq := cvF.onM h_on n
  have ho := cvF.onP hq hq
  rw [emul_b] at h
  obtain ⟨k, hk⟩ := cvF.dsq fG_sq hq
  have := Pj.pl (ad2 fD (emul fD (hX, hY) n) (emul fD (hX, hY) n))
  obtain ⟨l, hl, e1, e2, e3, e4⟩ := this.two h
  rw [e1, e2, e3, e4, cF_sc hl]
  exact code_ok ho hk
