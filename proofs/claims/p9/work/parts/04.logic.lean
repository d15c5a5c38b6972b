/-! A logic of pictures: memory is a list of cells, a reference is the place of its cell. 'TT' says of a method's frame, given so, that it comes to its end with Q; each instruction has one row over it. -/
/-- values: a reference by its place becomes one by its address -/
def mV (ad : Nat → Nat) : Value → Value
  | .ref i => .ref (ad i)
  | v => v
def mE (dT : Nat → ClassId) (ad : Nat → Nat) : va_E → va_E
  | .inl (t, n, .inr (.inr (.inr (.inr f)))) => .inl (dT t, n, .inr (.inr (.inr (.inr (fun j => (f j).map ad)))))
  | .inl (t, n, x) => .inl (dT t, n, x)
  | .inr (c, fs) => .inr (c, fs.map (mV ad))
def okV (n : Nat) : Value → Prop
  | .ref i => i < n
  | _ => True
def okE (n : Nat) : va_E → Prop
  | .inl (_, _, .inr (.inr (.inr (.inr f)))) => ∀ j i, f j = some i → i < n
  | .inl (t, _, .inl f) => ∀ j, (t = 1 → fits .byte (.int (f j)) = true) ∧ (t = 3 → fits .boolean (.int (f j)) = true)
  | .inl _ => True
  | .inr (_, fs) => ∀ v ∈ fs, okV n v
theorem okV.mono {n k : Nat} (h : n ≤ k) {v : Value} (hv : okV n v) : okV k v := by
  cases v with
  | ref i => exact Nat.lt_of_lt_of_le hv h
  | _ => trivial
theorem okE.mono {n k : Nat} (h : n ≤ k) {e : va_E} (he : okE n e) : okE k e := by
  match e, he with
  | .inl (_, _, .inr (.inr (.inr (.inr f)))), he => exact fun j i hj => Nat.lt_of_lt_of_le (he j i hj) h
  | .inl (_, _, .inl _), he => exact he
  | .inl (_, _, .inr (.inl _)), _ => trivial
  | .inl (_, _, .inr (.inr (.inl _))), _ => trivial
  | .inl (_, _, .inr (.inr (.inr (.inl _)))), _ => trivial
  | .inr (_, fs), he => exact fun v hv => (he v hv).mono h
theorem mV_ext {n : Nat} {ad ad' : Nat → Nat} (h : ∀ i, i < n → ad' i = ad i) {v : Value} (hv : okV n v) : mV ad' v = mV ad v := by
  cases v with
  | ref i => simp only [mV]; rw [h i hv]
  | _ => rfl
theorem mE_ext {n : Nat} {ad ad' : Nat → Nat} (h : ∀ i, i < n → ad' i = ad i) {dT : Nat → ClassId} {e : va_E} (he : okE n e) : mE dT ad' e = mE dT ad e := by
  match e, he with
  | .inl (t, k, .inr (.inr (.inr (.inr f)))), he =>
    have : (fun j => (f j).map ad') = fun j => (f j).map ad := by
      funext j
      cases hf : f j with
      | none => rfl
      | some i => simp [h i (he j i hf)]
    simp only [mE, this]
  | .inl (_, _, .inl _), _ => rfl
  | .inl (_, _, .inr (.inl _)), _ => rfl
  | .inl (_, _, .inr (.inr (.inl _))), _ => rfl
  | .inl (_, _, .inr (.inr (.inr (.inl _)))), _ => rfl
  | .inr (c, fs), he =>
    have : fs.map (mV ad') = fs.map (mV ad) := List.map_congr_left fun v hv => mV_ext h (he v hv)
    simp only [mE, this]
theorem mV_cat (ad : Nat → Nat) (v : Value) : (mV ad v).category = v.category := by cases v <;> rfl
/-- the world of the cells behind the fixed ones -/
def wl (dT : Nat → ClassId) (ad : Nat → Nat) (M : List va_E) : va_W := (M.drop K0).mapIdx fun i e => (ad (K0 + i), mE dT ad e)
theorem wl_get (dT : Nat → ClassId) (ad : Nat → Nat) (M : List va_E) (k : Nat) : (wl dT ad M)[k]? = (M[K0 + k]?).map fun e => (ad (K0 + k), mE dT ad e) := by
  simp [wl, List.getElem?_mapIdx, List.getElem?_drop]
theorem wl_at {dT : Nat → ClassId} {ad : Nat → Nat} {M : List va_E} {a : Nat} {e : va_E} (h : K0 ≤ a) (he : M[a]? = some e) : (wl dT ad M)[a - K0]? = some (ad a, mE dT ad e) := by
  rw [wl_get, show K0 + (a - K0) = a by omega, he]
  rfl
theorem wl_set {dT : Nat → ClassId} {ad : Nat → Nat} {M : List va_E} {a : Nat} (e : va_E) (h : K0 ≤ a) : (wl dT ad M).set (a - K0) (ad a, mE dT ad e) = wl dT ad (M.set a e) := by
  apply List.ext_getElem?
  intro k
  rw [wl_get, List.getElem?_set, List.getElem?_set, wl_get]
  by_cases hk : a - K0 = k
  · have hk' : a = K0 + k := by omega
    subst hk'
    simp only [show K0 + k - K0 = k by omega, if_true]
    have hlen : (wl dT ad M).length = M.length - K0 := by simp [wl]
    rw [hlen]
    by_cases hl : K0 + k < M.length
    · rw [if_pos (by omega), if_pos hl]; rfl
    · rw [if_neg (by omega), if_neg hl]; rfl
  · rw [if_neg hk, if_neg (by omega)]
theorem wl_push {dT : Nat → ClassId} {ad : Nat → Nat} {M : List va_E} (q : Nat) (e : va_E) (h : K0 ≤ M.length) (hok : ∀ x ∈ M, okE M.length x) : wl dT (va_up ad M.length q) (M ++ [e]) = wl dT ad M ++ [(q, mE dT (va_up ad M.length q) e)] := by
  apply List.ext_getElem?
  intro k
  have hlen : (wl dT ad M).length = M.length - K0 := by simp [wl]
  rw [wl_get]
  by_cases hk : K0 + k < M.length
  · rw [List.getElem?_append_left hk, List.getElem?_append_left (by rw [hlen]; omega), wl_get]
    have hm : M[K0 + k]? = some M[K0 + k] := List.getElem?_eq_getElem hk
    rw [hm]
    simp only [Option.map_some]
    rw [mE_ext (n := M.length) (ad := ad) (fun i hi => by simp [va_up]; omega) (hok _ (List.mem_of_getElem? hm))]
    simp [va_up]; omega
  · rw [List.getElem?_append_right (by omega), List.getElem?_append_right (by rw [hlen]; omega), hlen]
    by_cases hk2 : K0 + k = M.length
    · rw [show K0 + k - M.length = 0 by omega, show k - (M.length - K0) = 0 by omega]
      simp [va_up, hk2]
    · rw [List.getElem?_eq_none (by simp; omega), List.getElem?_eq_none (by simp; omega)]
      rfl
/-- what is the same for all frames of a run: launch, the classes' numbers and slots, the array classes, the old heap's size, the fixed cells' addresses, which of the unknown statics are null -/
abbrev GX : Type := Launch × va_G × (Nat → ClassId) × Nat × (Nat → Nat) × (Nat → Bool)
/-- a method: name, bytes, locals, return type, room (frames, locals), new cells and slots at most -/
abbrev MI : Type := MethodName × ByteArray × Nat × Option FieldType × (Nat × Nat) × Nat × Nat
def gA (G : GX) : Nat → Prop := fun q => G.2.2.2.1 ≤ q
def tysG (G : GX) : List (ClassId × FieldType) := tyl.mapIdx fun i t => (G.2.2.1 i, t)
theorem tysG_at {G : GX} {t : Nat} {ty : FieldType} (h : tyl[t]? = some ty) : (tysG G)[t]? = some (G.2.2.1 t, ty) := by
  simp [tysG, List.getElem?_mapIdx, h]
def mR (G : GX) (ad : Nat → Nat) (M : List va_E) (H : Heap) : Prop :=
  va_P G.2.1 classes (wl G.2.2.1 ad M) H ∧ va_D (gA G) (wl G.2.2.1 ad M) ∧ (∀ e ∈ M, okE M.length e) ∧ K0 ≤ M.length ∧ (∀ k, k < K0 → M[k]? = fxc[k]?) ∧ ∀ k, k < K0 → ad k = G.2.2.2.2.1 k
theorem mR.world {G : GX} {ad : Nat → Nat} {M : List va_E} {H : Heap} (h : mR G ad M H) : va_P G.2.1 classes (wl G.2.2.1 ad M) H := h.1
theorem mR.apart {G : GX} {ad : Nat → Nat} {M : List va_E} {H : Heap} (h : mR G ad M H) : va_D (gA G) (wl G.2.2.1 ad M) := h.2.1
theorem mR.okAt {G : GX} {ad : Nat → Nat} {M : List va_E} {H : Heap} (h : mR G ad M H) {a : Nat} {e : va_E} (he : M[a]? = some e) : okE M.length e := h.2.2.1 e (List.mem_of_getElem? he)
theorem mR.set {G : GX} {ad : Nat → Nat} {M : List va_E} {H H1 : Heap} {a : Nat} {e : va_E} (h : mR G ad M H) (ha : K0 ≤ a) (he : okE M.length e) (hP : va_P G.2.1 classes ((wl G.2.2.1 ad M).set (a - K0) (ad a, mE G.2.2.1 ad e)) H1) (hD : va_D (gA G) ((wl G.2.2.1 ad M).set (a - K0) (ad a, mE G.2.2.1 ad e))) : mR G ad (M.set a e) H1 := by
  rw [wl_set e ha] at hP hD
  refine ⟨hP, hD, fun x hx => ?_, by simpa using h.2.2.2.1, fun k hk => ?_, h.2.2.2.2.2⟩
  · rw [List.length_set]
    rcases List.mem_or_eq_of_mem_set hx with h1 | rfl
    · exact h.2.2.1 x h1
    · exact he
  · rw [List.getElem?_set_ne (by omega)]
    exact h.2.2.2.2.1 k hk
theorem mR.push {G : GX} {ad : Nat → Nat} {M : List va_E} {H H1 : Heap} {q : Nat} {e : va_E} (h : mR G ad M H) (he : okE M.length e) (hP : va_P G.2.1 classes (wl G.2.2.1 ad M ++ [(q, mE G.2.2.1 (va_up ad M.length q) e)]) H1) (hD : va_D (gA G) (wl G.2.2.1 ad M ++ [(q, mE G.2.2.1 (va_up ad M.length q) e)])) : mR G (va_up ad M.length q) (M ++ [e]) H1 := by
  rw [← wl_push q e h.2.2.2.1 h.2.2.1] at hP hD
  have h0 := h.2.2.2.1
  refine ⟨hP, hD, fun x hx => ?_, by simp; omega, fun k hk => ?_, fun k hk => ?_⟩
  · rw [List.length_append]
    rcases List.mem_append.mp hx with h1 | h1
    · exact (h.2.2.1 x h1).mono (by simp)
    · rw [List.mem_singleton.mp h1]; exact he.mono (by simp)
  · rw [List.getElem?_append_left (by omega)]
    exact h.2.2.2.2.1 k hk
  · rw [← h.2.2.2.2.2 k hk]
    simp [va_up]; omega
