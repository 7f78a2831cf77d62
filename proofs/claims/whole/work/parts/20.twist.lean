/-! SUMS OF POWERS -/
section Twist
theorem frk_S {K : Type} [Lean.Grind.CommRing K] (p : Nat) (a : K) (k : Nat) : (a ^ (p ^ k)) ^ p = a ^ (p ^ (k + 1)) := by rw [← pw_mul, ← Nat.pow_succ]
theorem frk_add {K : Type} [Lean.Grind.CommRing K] {p n : Nat} {X : K} {co : K → Nat} (hR : RO K p n X co) (a b : K) (k : Nat) : (a + b) ^ (p ^ k) = a ^ (p ^ k) + b ^ (p ^ k) := by
  induction k with
  | zero => simp only [Nat.pow_zero, Lean.Grind.Semiring.pow_one]
  | succ k ih => rw [← frk_S, ih, fr_add hR, frk_S, frk_S]
theorem frk_mul {K : Type} [Lean.Grind.CommRing K] (p : Nat) (a b : K) (k : Nat) : (a * b) ^ (p ^ k) = a ^ (p ^ k) * b ^ (p ^ k) := fr_mul _ a b
theorem frk_0 {K : Type} [Lean.Grind.CommRing K] {p n : Nat} {X : K} {co : K → Nat} (hR : RO K p n X co) (k : Nat) : (0 : K) ^ (p ^ k) = 0 := pow_0p (Nat.pow_pos (by have := RO_p hR; omega))
theorem frk_nk {K : Type} [Lean.Grind.CommRing K] {p n : Nat} {X : K} {co : K → Nat} (hR : RO K p n X co) (c k : Nat) : (nk c : K) ^ (p ^ k) = nk c := by
  induction k with
  | zero => simp only [Nat.pow_zero, Lean.Grind.Semiring.pow_one]
  | succ k ih => rw [← frk_S, ih, fr_nk hR]
theorem frk_sm {K : Type} [Lean.Grind.CommRing K] {p n : Nat} {X : K} {co : K → Nat} (hR : RO K p n X co) (m k : Nat) (f : Nat → K) : (sm m f) ^ (p ^ k) = sm m (fun i => f i ^ (p ^ k)) := by
  induction m with
  | zero => exact frk_0 hR k
  | succ m ih => rw [sm_succ, frk_add hR, ih]; rfl
theorem frk_frk {K : Type} [Lean.Grind.CommRing K] (p : Nat) (a : K) (i j : Nat) : (a ^ (p ^ i)) ^ (p ^ j) = a ^ (p ^ (i + j)) := by rw [← pw_mul, ← Nat.pow_add]
theorem frk_ne {K : Type} [Lean.Grind.CommRing K] {p n : Nat} {X : K} {co : K → Nat} (hR : RO K p n X co) {a : K} (ha : a ≠ 0) (k : Nat) : a ^ k ≠ 0 := by
  induction k with
  | zero => rw [Lean.Grind.Semiring.pow_zero]; exact RO_ne hR
  | succ k ih => rw [Lean.Grind.Semiring.pow_succ]; exact mul_ne hR ih ha
theorem sm_tri {K : Type} [Lean.Grind.CommRing K] (k : Nat) (F : Nat → Nat → K) : sm (k + 1) (fun i => sm (i + 1) (fun a => F a (i - a))) = sm (k + 1) (fun a => sm (k - a + 1) (fun b => F a b)) := by
  induction k with
  | zero => rfl
  | succ k ih =>
    rw [sm_succ, ih, sm_succ (k + 1) (fun a => sm (k + 1 - a + 1) (fun b => F a b))]
    have e1 : sm (k + 1) (fun a => sm (k + 1 - a + 1) (fun b => F a b)) = sm (k + 1) (fun a => sm (k - a + 1) (fun b => F a b)) + sm (k + 1) (fun a => F a (k + 1 - a)) := by
      rw [← sm_add]
      refine sm_congr (fun a ha => ?_)
      rw [show k + 1 - a = k - a + 1 by omega, sm_succ]
    have e2 : sm (0 + 1) (fun b => F (k + 1) b) = F (k + 1) 0 := by rw [sm_succ, sm_zero]; grind
    rw [e1, sm_succ (k + 1) (fun a => F a (k + 1 - a)), Nat.sub_self, e2]; grind
/-- u behind v -/
def cmp {K : Type} [Lean.Grind.CommRing K] (p : Nat) (u v : Nat → K) : Nat → K := fun k => sm (k + 1) (fun i => u i * v (k - i) ^ (p ^ i))
theorem cmp_assoc {K : Type} [Lean.Grind.CommRing K] {p n : Nat} {X : K} {co : K → Nat} (hR : RO K p n X co) (u v w : Nat → K) : cmp p (cmp p u v) w = cmp p u (cmp p v w) := by
  funext k
  have h := sm_tri k (fun a b => u a * v b ^ (p ^ a) * w (k - (a + b)) ^ (p ^ (a + b)))
  unfold cmp
  refine Eq.trans ?_ (h.trans ?_)
  · refine sm_congr (fun i hi => ?_)
    rw [← sm_mulR]
    refine sm_congr (fun a ha => ?_)
    rw [show a + (i - a) = i by omega]
  · refine sm_congr (fun a ha => ?_)
    rw [frk_sm hR, ← sm_mulL]
    refine sm_congr (fun b hb => ?_)
    rw [frk_mul, frk_frk, Nat.sub_sub, Nat.add_comm b a]; grind
def d0 {K : Type} [Lean.Grind.CommRing K] : Nat → K := fun k => if k = 0 then 1 else 0
theorem d0_0 {K : Type} [Lean.Grind.CommRing K] : d0 (K := K) 0 = 1 := rfl
theorem d0_ne {K : Type} [Lean.Grind.CommRing K] {k : Nat} (h : k ≠ 0) : d0 (K := K) k = 0 := if_neg h
/-- t to the power j -/
def tp {K : Type} [Lean.Grind.CommRing K] (p : Nat) (t : Nat → K) : Nat → Nat → K
  | 0 => d0
  | j + 1 => cmp p t (tp p t j)
theorem cmp_1l {K : Type} [Lean.Grind.CommRing K] (p : Nat) (v : Nat → K) : cmp p d0 v = v := by
  funext k
  unfold cmp
  rw [sm_first, sm_0 (fun i _ => by rw [d0_ne (by omega)]; grind), d0_0, Nat.pow_zero, Lean.Grind.Semiring.pow_one, Nat.sub_zero]; grind
theorem cmp_1r {K : Type} [Lean.Grind.CommRing K] {p n : Nat} {X : K} {co : K → Nat} (hR : RO K p n X co) (v : Nat → K) : cmp p v d0 = v := by
  funext k
  unfold cmp
  rw [sm_one (k := k) (by omega) (fun i hi hne => by rw [d0_ne (by omega), frk_0 hR]; grind), Nat.sub_self, d0_0, Lean.Grind.Semiring.one_pow]; grind
theorem tp_r {K : Type} [Lean.Grind.CommRing K] {p n : Nat} {X : K} {co : K → Nat} (hR : RO K p n X co) (t : Nat → K) (j : Nat) : tp p t (j + 1) = cmp p (tp p t j) t := by
  induction j with
  | zero =>
    show cmp p t d0 = cmp p d0 t
    rw [cmp_1l, cmp_1r hR]
  | succ j ih =>
    show cmp p t (tp p t (j + 1)) = cmp p (cmp p t (tp p t j)) t
    rw [cmp_assoc hR, ← ih]
theorem cmp_deg {K : Type} [Lean.Grind.CommRing K] {p n : Nat} {X : K} {co : K → Nat} (hR : RO K p n X co) {u v : Nat → K} {a b : Nat} (hu : ∀ k, a < k → u k = 0) (hv : ∀ k, b < k → v k = 0) : (∀ k, a + b < k → cmp p u v k = 0) ∧ cmp p u v (a + b) = u a * v b ^ (p ^ a) := by
  constructor
  · intro k hk
    refine sm_0 (fun i hi => ?_)
    by_cases h : a < i
    · rw [hu i h]; grind
    · rw [hv (k - i) (by omega), frk_0 hR]; grind
  · unfold cmp
    rw [sm_one (k := a) (by omega) (fun i hi hne => by
      by_cases h : a < i
      · rw [hu i h]; grind
      · rw [hv (a + b - i) (by omega), frk_0 hR]; grind), Nat.add_sub_cancel_left]
theorem tp_deg {K : Type} [Lean.Grind.CommRing K] {p n : Nat} {X : K} {co : K → Nat} (hR : RO K p n X co) {t : Nat → K} {r : Nat} (ht : ∀ k, r < k → t k = 0) (j : Nat) : ∀ k, r * j < k → tp p t j k = 0 := by
  induction j with
  | zero => intro k hk; exact d0_ne (by omega)
  | succ j ih =>
    intro k hk
    exact (cmp_deg hR ht ih).1 k (by rw [Nat.mul_succ] at hk; omega)
theorem tp_top {K : Type} [Lean.Grind.CommRing K] {p n : Nat} {X : K} {co : K → Nat} (hR : RO K p n X co) {t : Nat → K} {r : Nat} (ht : ∀ k, r < k → t k = 0) (h0 : t r ≠ 0) (j : Nat) : tp p t j (r * j) ≠ 0 := by
  induction j with
  | zero =>
    show (1 : K) ≠ 0
    exact RO_ne hR
  | succ j ih =>
    have := (cmp_deg hR ht (tp_deg hR ht j)).2
    rw [Nat.mul_succ]
    show cmp p t (tp p t j) (r * j + r) ≠ 0
    rw [Nat.add_comm (r * j) r, this]
    exact mul_ne hR h0 (frk_ne hR ih _)
/-- what a sum of powers, its first M numbers, makes of z -/
def ev {K : Type} [Lean.Grind.CommRing K] (p M : Nat) (s : Nat → K) (z : K) : K := sm M (fun k => s k * z ^ (p ^ k))
theorem ev_ext {K : Type} [Lean.Grind.CommRing K] {p M A : Nat} {s : Nat → K} (z : K) (h : A ≤ M) (h0 : ∀ k, A ≤ k → s k = 0) : ev p M s z = ev p A s z := sm_ext h (fun i h1 _ => by rw [h0 i h1]; grind)
theorem ev_add {K : Type} [Lean.Grind.CommRing K] {p n : Nat} {X : K} {co : K → Nat} (hR : RO K p n X co) (M : Nat) (s : Nat → K) (y z : K) : ev p M s (y + z) = ev p M s y + ev p M s z := by
  unfold ev
  rw [← sm_add]
  exact sm_congr (fun i _ => by rw [frk_add hR]; grind)
theorem ev_nk {K : Type} [Lean.Grind.CommRing K] {p n : Nat} {X : K} {co : K → Nat} (hR : RO K p n X co) (M : Nat) (s : Nat → K) (c : Nat) (z : K) : ev p M s (nk c * z) = nk c * ev p M s z := by
  unfold ev
  rw [← sm_mulL]
  exact sm_congr (fun i _ => by rw [frk_mul, frk_nk hR]; grind)
theorem ev_0 {K : Type} [Lean.Grind.CommRing K] {p n : Nat} {X : K} {co : K → Nat} (hR : RO K p n X co) (M : Nat) (s : Nat → K) : ev p M s 0 = 0 := sm_0 (fun i _ => by rw [frk_0 hR]; grind)
theorem ev_sm {K : Type} [Lean.Grind.CommRing K] {p n : Nat} {X : K} {co : K → Nat} (hR : RO K p n X co) (M : Nat) (s : Nat → K) (m : Nat) (c : Nat → Nat) (z : Nat → K) : ev p M s (sm m (fun i => nk (c i) * z i)) = sm m (fun i => nk (c i) * ev p M s (z i)) := by
  induction m with
  | zero => exact ev_0 hR M s
  | succ m ih => rw [sm_succ, ev_add hR, ih, ev_nk hR]; rfl
theorem ev_cmp {K : Type} [Lean.Grind.CommRing K] {p n : Nat} {X : K} {co : K → Nat} (hR : RO K p n X co) {u v : Nat → K} {A B M : Nat} (hu : ∀ k, A ≤ k → u k = 0) (hv : ∀ k, B ≤ k → v k = 0) (hM : A + B ≤ M) (z : K) : ev p M (cmp p u v) z = ev p A u (ev p B v z) := by
  cases M with
  | zero =>
    rw [show A = 0 by omega]; rfl
  | succ m =>
  have h := sm_tri m (fun i j => u i * v j ^ (p ^ i) * z ^ (p ^ (i + j)))
  unfold ev
  refine Eq.trans ?_ (h.trans ?_)
  · refine sm_congr (fun k hk => ?_)
    unfold cmp
    rw [← sm_mulR]
    refine sm_congr (fun i hi => ?_)
    rw [show i + (k - i) = k by omega]
  · rw [sm_ext (n := A) (by omega) (fun i h1 h2 => sm_0 (fun j _ => by rw [hu i h1]; grind))]
    refine sm_congr (fun i hi => ?_)
    rw [sm_ext (n := B) (by omega) (fun j h1 h2 => by rw [hv j h1, frk_0 hR]; grind), frk_sm hR, ← sm_mulL]
    refine sm_congr (fun j hj => ?_)
    rw [frk_mul, frk_frk, Nat.add_comm j i]; grind
/-- the sum of powers by which a polynomial (figures of a, D of them) acts -/
def ac {K : Type} [Lean.Grind.CommRing K] (p : Nat) (t : Nat → K) (a D : Nat) : Nat → K := fun k => sm D (fun e => nk (dig p a e) * tp p t e k)
theorem ac_ext {K : Type} [Lean.Grind.CommRing K] {p : Nat} {t : Nat → K} {a D E : Nat} (hp : 0 < p) (ha : a < p ^ D) (hE : D ≤ E) : ac p t a E = ac p t a D := by
  funext k
  exact sm_ext hE (fun i h1 _ => by rw [dig_ge ha h1 hp, nk_0]; grind)
theorem dig_top {p a D : Nat} (hp : 2 ≤ p) (h : Ln p a (D + 1)) : 0 < dig p a D ∧ dig p a D < p := by
  refine ⟨?_, dig_lt (by omega) a D⟩
  unfold dig
  have h1 := h.2 (by omega)
  rw [Nat.add_sub_cancel] at h1
  have h3 : a / p ^ D < p := (Nat.div_lt_iff_lt_mul (Nat.pow_pos (by omega))).mpr (by have := h.1; rw [Nat.pow_succ, Nat.mul_comm] at this; exact this)
  rw [Nat.mod_eq_of_lt h3]
  exact Nat.div_pos h1 (Nat.pow_pos (by omega))
theorem ac_deg {K : Type} [Lean.Grind.CommRing K] {p n : Nat} {X : K} {co : K → Nat} (hR : RO K p n X co) {t : Nat → K} {r a D : Nat} (ht : ∀ k, r < k → t k = 0) (h0 : t r ≠ 0) (hr : 0 < r) (hD : Ln p a (D + 1)) : (∀ k, r * D < k → ac p t a (D + 1) k = 0) ∧ ac p t a (D + 1) (r * D) ≠ 0 := by
  have hp := RO_p hR
  constructor
  · intro k hk
    refine sm_0 (fun e he => ?_)
    have := Nat.mul_le_mul_left r (show e ≤ D by omega)
    rw [tp_deg hR ht e k (by omega)]; grind
  · unfold ac
    rw [sm_succ, sm_0 (fun e he => by
      have := Nat.mul_lt_mul_of_pos_left he hr
      rw [tp_deg hR ht e (r * D) (by omega)]; grind)]
    have h1 : (nk (dig p a D) : K) ≠ 0 := fun e => by
      have h2 := dig_top hp.1 hD
      have := nk_inj hR h2.2 (show 0 < p by omega) (e.trans nk_0.symm)
      omega
    have := mul_ne hR h1 (tp_top hR ht h0 D)
    intro e
    exact this (by grind)
end Twist
