/-! sums in a ring; codes and their figures -/
section Alg
def sm {K : Type} [Lean.Grind.CommRing K] : Nat → (Nat → K) → K
  | 0, _ => 0
  | n + 1, f => sm n f + f n
theorem sm_zero {K : Type} [Lean.Grind.CommRing K] (f : Nat → K) : sm 0 f = 0 := rfl
theorem sm_succ {K : Type} [Lean.Grind.CommRing K] (n : Nat) (f : Nat → K) : sm (n + 1) f = sm n f + f n := rfl
theorem sm_congr {K : Type} [Lean.Grind.CommRing K] {n : Nat} {f g : Nat → K} (h : ∀ i, i < n → f i = g i) : sm n f = sm n g := by
  induction n with
  | zero => rfl
  | succ n ih =>
    rw [sm_succ, sm_succ, ih (fun i hi => h i (by omega)), h n (by omega)]
theorem sm_add {K : Type} [Lean.Grind.CommRing K] (n : Nat) (f g : Nat → K) : sm n (fun i => f i + g i) = sm n f + sm n g := by
  induction n with
  | zero => simp only [sm_zero]; grind
  | succ n ih => simp only [sm_succ, ih]; grind
theorem sm_neg {K : Type} [Lean.Grind.CommRing K] (n : Nat) (f : Nat → K) : sm n (fun i => - f i) = - sm n f := by
  induction n with
  | zero => simp only [sm_zero]; grind
  | succ n ih => simp only [sm_succ, ih]; grind
theorem sm_sub {K : Type} [Lean.Grind.CommRing K] (n : Nat) (f g : Nat → K) : sm n (fun i => f i - g i) = sm n f - sm n g := by
  induction n with
  | zero => simp only [sm_zero]; grind
  | succ n ih => simp only [sm_succ, ih]; grind
theorem sm_mulL {K : Type} [Lean.Grind.CommRing K] (n : Nat) (c : K) (f : Nat → K) : sm n (fun i => c * f i) = c * sm n f := by
  induction n with
  | zero => simp only [sm_zero]; grind
  | succ n ih => simp only [sm_succ, ih]; grind
theorem sm_mulR {K : Type} [Lean.Grind.CommRing K] (n : Nat) (c : K) (f : Nat → K) : sm n (fun i => f i * c) = sm n f * c := by
  induction n with
  | zero => simp only [sm_zero]; grind
  | succ n ih => simp only [sm_succ, ih]; grind
theorem sm_0 {K : Type} [Lean.Grind.CommRing K] {n : Nat} {f : Nat → K} (h : ∀ i, i < n → f i = 0) : sm n f = 0 := by
  induction n with
  | zero => rfl
  | succ n ih =>
    rw [sm_succ, ih (fun i hi => h i (by omega)), h n (by omega)]; grind
theorem sm_ext {K : Type} [Lean.Grind.CommRing K] {n m : Nat} {f : Nat → K} (h : n ≤ m) (h0 : ∀ i, n ≤ i → i < m → f i = 0) : sm m f = sm n f := by
  induction m with
  | zero => rw [show n = 0 by omega]
  | succ m ih =>
    by_cases e : n = m + 1
    · rw [e]
    · rw [sm_succ, ih (by omega) (fun i h1 h2 => h0 i h1 (by omega)), h0 m (by omega) (by omega)]; grind
theorem sm_first {K : Type} [Lean.Grind.CommRing K] (n : Nat) (f : Nat → K) : sm (n + 1) f = f 0 + sm n (fun i => f (i + 1)) := by
  induction n with
  | zero => simp only [sm_succ, sm_zero]; grind
  | succ n ih => rw [sm_succ, ih, sm_succ]; grind
theorem sm_app {K : Type} [Lean.Grind.CommRing K] (n m : Nat) (f : Nat → K) : sm (n + m) f = sm n f + sm m (fun i => f (n + i)) := by
  induction m with
  | zero => simp only [sm_zero, Nat.add_zero]; grind
  | succ m ih => rw [← Nat.add_assoc, sm_succ, ih, sm_succ]; grind
theorem sm_one {K : Type} [Lean.Grind.CommRing K] {n k : Nat} {f : Nat → K} (hk : k < n) (h : ∀ i, i < n → i ≠ k → f i = 0) : sm n f = f k := by
  induction n with
  | zero => omega
  | succ n ih =>
    by_cases e : k = n
    · subst e
      rw [sm_succ, sm_0 (fun i hi => h i (by omega) (by omega))]; grind
    · rw [sm_succ, ih (by omega) (fun i h1 h2 => h i (by omega) h2), h n (by omega) (by omega)]; grind
theorem sm_comm {K : Type} [Lean.Grind.CommRing K] (n m : Nat) (f : Nat → Nat → K) : sm n (fun i => sm m (fun j => f i j)) = sm m (fun j => sm n (fun i => f i j)) := by
  induction n with
  | zero => exact (sm_0 (fun i _ => rfl)).symm
  | succ n ih =>
    rw [sm_succ, ih, ← sm_add]
    rfl
theorem sm_rev {K : Type} [Lean.Grind.CommRing K] (n : Nat) (f : Nat → K) : sm n (fun i => f (n - 1 - i)) = sm n f := by
  induction n with
  | zero => rfl
  | succ n ih =>
    rw [sm_first, sm_succ, ← ih]
    rw [sm_congr (g := fun i => f (n - 1 - i)) (fun i hi => by rw [show n + 1 - 1 - (i + 1) = n - 1 - i by omega])]
    rw [show n + 1 - 1 - 0 = n by omega]; grind
/-- a natural number in the ring -/
def nk {K : Type} [Lean.Grind.CommRing K] : Nat → K
  | 0 => 0
  | n + 1 => nk n + 1
theorem nk_0 {K : Type} [Lean.Grind.CommRing K] : nk (K := K) 0 = 0 := rfl
theorem nk_1 {K : Type} [Lean.Grind.CommRing K] : nk (K := K) 1 = 1 := by
  show (0 : K) + 1 = 1; grind
theorem nk_add {K : Type} [Lean.Grind.CommRing K] (a b : Nat) : nk (K := K) (a + b) = nk a + nk b := by
  induction b with
  | zero => show nk a = nk a + 0; grind
  | succ b ih => show nk (a + b) + 1 = nk a + (nk b + 1); rw [ih]; grind
theorem nk_mul {K : Type} [Lean.Grind.CommRing K] (a b : Nat) : nk (K := K) (a * b) = nk a * nk b := by
  induction b with
  | zero => show (0 : K) = nk a * 0; grind
  | succ b ih => rw [Nat.mul_succ, nk_add, ih]; show _ = nk a * (nk b + 1); grind
theorem nk_mod {K : Type} [Lean.Grind.CommRing K] {p : Nat} (hp : nk (K := K) p = 0) (a : Nat) : nk (K := K) (a % p) = nk a := by
  have h : nk (K := K) (p * (a / p) + a % p) = nk a := by rw [Nat.div_add_mod]
  rw [nk_add, nk_mul, hp] at h
  grind
theorem nk_sub {K : Type} [Lean.Grind.CommRing K] {a b : Nat} (h : b ≤ a) : nk (K := K) (a - b) = nk a - nk b := by
  have e : nk (K := K) (a - b + b) = nk a := by rw [Nat.sub_add_cancel h]
  rw [nk_add] at e
  grind
/-- the code of a row of figures -/
def enc (p : Nat) : Nat → (Nat → Nat) → Nat
  | 0, _ => 0
  | n + 1, f => enc p n f + f n * p ^ n
theorem enc_first (p n : Nat) (f : Nat → Nat) : enc p (n + 1) f = f 0 + p * enc p n (fun i => f (i + 1)) := by
  induction n with
  | zero => simp [enc]
  | succ n ih =>
    rw [enc, ih, enc, Nat.pow_succ, Nat.mul_add, Nat.add_assoc]
    congr 2
    rw [Nat.mul_comm (p ^ n) p, Nat.mul_left_comm]
theorem enc_congr {p n : Nat} {f g : Nat → Nat} (h : ∀ i, i < n → f i = g i) : enc p n f = enc p n g := by
  induction n with
  | zero => rfl
  | succ n ih => rw [enc, enc, ih (fun i hi => h i (by omega)), h n (by omega)]
theorem enc_lt {p n : Nat} {f : Nat → Nat} (h : ∀ i, i < n → f i < p) : enc p n f < p ^ n := by
  induction n with
  | zero => simp [enc]
  | succ n ih =>
    have h1 := ih (fun i hi => h i (by omega))
    have h2 := h n (by omega)
    rw [enc, Nat.pow_succ]
    have h3 : f n * p ^ n ≤ (p - 1) * p ^ n := Nat.mul_le_mul_right _ (by omega)
    have h4 : (p - 1) * p ^ n + p ^ n = p ^ n * p := by
      rw [← Nat.succ_mul, Nat.mul_comm]; congr 1; omega
    omega
theorem dig_0 (p a : Nat) : dig p a 0 = a % p := by simp [dig]
theorem dig_succ (p a i : Nat) : dig p a (i + 1) = dig p (a / p) i := by
  unfold dig
  rw [Nat.pow_succ, Nat.mul_comm, Nat.div_div_eq_div_mul]
theorem dig_enc {p n : Nat} {f : Nat → Nat} (h : ∀ i, i < n → f i < p) {i : Nat} (hi : i < n) : dig p (enc p n f) i = f i := by
  induction n generalizing f i with
  | zero => omega
  | succ n ih =>
    have hp : 0 < p := Nat.lt_of_le_of_lt (Nat.zero_le _) (h 0 (by omega))
    rw [enc_first]
    cases i with
    | zero => rw [dig_0, Nat.add_mul_mod_self_left, Nat.mod_eq_of_lt (h 0 (by omega))]
    | succ i =>
      rw [dig_succ, Nat.add_mul_div_left _ _ hp, Nat.div_eq_of_lt (h 0 (by omega)), Nat.zero_add]
      exact ih (fun i hi => h (i + 1) (by omega)) (by omega)
theorem enc_dig {p n a : Nat} (h : a < p ^ n) : enc p n (dig p a) = a := by
  induction n generalizing a with
  | zero => simp at h; simp [enc, h]
  | succ n ih =>
    rw [enc_first, dig_0]
    have e : (fun i => dig p a (i + 1)) = dig p (a / p) := by funext i; exact dig_succ p a i
    have hp : 0 < p := by
      apply Nat.pos_of_ne_zero
      intro z
      rw [z, Nat.pow_succ, Nat.mul_zero] at h
      omega
    rw [e, ih (by rw [Nat.pow_succ] at h; exact (Nat.div_lt_iff_lt_mul hp).mpr h)]
    have := Nat.div_add_mod a p
    omega
theorem dig_ge {p n a i : Nat} (h : a < p ^ n) (hi : n ≤ i) (hp : 0 < p) : dig p a i = 0 := by
  unfold dig
  rw [Nat.div_eq_of_lt (Nat.lt_of_lt_of_le h (Nat.pow_le_pow_right hp hi))]
  exact Nat.zero_mod p
theorem dig_inj {p n a b : Nat} (ha : a < p ^ n) (hb : b < p ^ n) (h : ∀ i, i < n → dig p a i = dig p b i) : a = b := by
  rw [← enc_dig ha, ← enc_dig hb]
  exact enc_congr h
end Alg
