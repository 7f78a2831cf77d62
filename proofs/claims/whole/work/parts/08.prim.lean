/-! the field: its modulus, its elements by codes, an element of which all others are powers -/
section Prim
def mo (p n : Nat) : Nat := ([2, 7, 11, 19, 37, 67, 3, 10, 34, 86, 250, 734, 5, 27, 131, 627, 3146, 15632] : List Nat).getD ((if p = 2 then 0 else if p = 3 then 6 else 12) + n - 1) 0
def fo (p n i : Nat) : Nat := (p - dig p (mo p n) i) % p
def el {K : Type} [Lean.Grind.CommRing K] (p n : Nat) (X : K) (a : Nat) : K := sm n (fun i => nk (dig p a i) * X ^ i)
/-- what is known of the ring of codes -/
def RO (K : Type) [Lean.Grind.CommRing K] (p n : Nat) (X : K) (co : K → Nat) : Prop := (p = 2 ∨ p = 3 ∨ p = 5) ∧ 1 ≤ n ∧ n ≤ 6 ∧ nk (K := K) p = 0 ∧ X ^ n = sm n (fun i => nk (fo p n i) * X ^ i) ∧ (∀ k, co k < p ^ n) ∧ (∀ k, el p n X (co k) = k) ∧ (∀ a, a < p ^ n → co (el p n X a) = a)
theorem RO_p {K : Type} [Lean.Grind.CommRing K] {p n : Nat} {X : K} {co : K → Nat} (h : RO K p n X co) : 2 ≤ p ∧ p ≤ 5 := by
  rcases h.1 with h | h | h <;> omega
theorem el_enc {K : Type} [Lean.Grind.CommRing K] {p n : Nat} {X : K} (hp : 0 < p) (hz : nk (K := K) p = 0) (d : Nat → Nat) : el p n X (enc p n (fun i => d i % p)) = sm n (fun i => nk (d i) * X ^ i) := by
  refine sm_congr (fun i hi => ?_)
  rw [dig_enc (fun i _ => Nat.mod_lt _ hp) hi, nk_mod hz]
def cX (p n a : Nat) : Nat := enc p n (fun i => ((if i = 0 then 0 else dig p a (i - 1)) + dig p a (n - 1) * fo p n i) % p)
def cA (p n a c b : Nat) : Nat := enc p n (fun i => (dig p a i + c * dig p b i) % p)
def cMi (p n a b : Nat) : Nat → Nat
  | 0 => 0
  | i + 1 => cA p n (cX p n (cMi p n a b i)) (dig p a (n - 1 - i)) b
def cM (p n a b : Nat) : Nat := cMi p n a b n
def cPf (p n : Nat) : Nat → Nat → Nat → Nat → Nat
  | 0, _, _, r => r
  | k + 1, a, e, r => if e = 0 then r else cPf p n k (cM p n a a) (e / 2) (if e % 2 = 1 then cM p n r a else r)
def cP (p n a e : Nat) : Nat := cPf p n 17 a e 1
theorem enc_cut {p n : Nat} (hp : 0 < p) (d : Nat → Nat) : enc p n (fun i => d i % p) < p ^ n := enc_lt (fun i _ => Nat.mod_lt _ hp)
theorem el_cA {K : Type} [Lean.Grind.CommRing K] {p n : Nat} {X : K} (hp : 0 < p) (hz : nk (K := K) p = 0) (a c b : Nat) : el p n X (cA p n a c b) = el p n X a + nk c * el p n X b := by
  unfold cA
  rw [el_enc hp hz]
  unfold el
  rw [← sm_mulL, ← sm_add]
  refine sm_congr (fun i hi => ?_)
  rw [nk_add, nk_mul]; grind
theorem el_cX {K : Type} [Lean.Grind.CommRing K] {p n : Nat} {X : K} (hp : 0 < p) (hn : 1 ≤ n) (hz : nk (K := K) p = 0) (hx : X ^ n = sm n (fun i => nk (fo p n i) * X ^ i)) (a : Nat) : el p n X (cX p n a) = X * el p n X a := by
  unfold cX
  rw [el_enc hp hz]
  obtain ⟨m, rfl⟩ : ∃ m, n = m + 1 := ⟨n - 1, by omega⟩
  unfold el
  have e1 : sm (m + 1) (fun i => nk ((if i = 0 then 0 else dig p a (i - 1)) + dig p a (m + 1 - 1) * fo p (m + 1) i) * X ^ i) = sm (m + 1) (fun i => nk (if i = 0 then 0 else dig p a (i - 1)) * X ^ i) + nk (dig p a m) * X ^ (m + 1) := by
    rw [hx, ← sm_mulL, ← sm_add]
    refine sm_congr (fun i hi => ?_)
    rw [nk_add, nk_mul, show m + 1 - 1 = m by omega]; grind
  rw [e1, sm_first]
  have e2 : sm m (fun i => nk (if i + 1 = 0 then 0 else dig p a (i + 1 - 1)) * X ^ (i + 1)) = X * sm m (fun i => nk (dig p a i) * X ^ i) := by
    rw [← sm_mulL]
    refine sm_congr (fun i hi => ?_)
    rw [if_neg (by omega), show i + 1 - 1 = i by omega, Lean.Grind.Semiring.pow_succ]; grind
  rw [e2, if_pos rfl, nk_0, sm_succ, Lean.Grind.Semiring.pow_succ]; grind
theorem el_0 {K : Type} [Lean.Grind.CommRing K] {p n : Nat} {X : K} : el p n X 0 = 0 := sm_0 (fun i _ => by
  have : dig p 0 i = 0 := by unfold dig; rw [Nat.zero_div, Nat.zero_mod]
  rw [this, nk_0]; grind)
theorem dig_small {p c : Nat} (hc : c < p) (i : Nat) : dig p c i = if i = 0 then c else 0 := by
  cases i with
  | zero => rw [dig_0, Nat.mod_eq_of_lt hc]; rfl
  | succ i => rw [dig_succ, Nat.div_eq_of_lt hc, if_neg (by omega)]; unfold dig; rw [Nat.zero_div, Nat.zero_mod]
theorem el_small {K : Type} [Lean.Grind.CommRing K] {p n : Nat} {X : K} {c : Nat} (hc : c < p) (hn : 1 ≤ n) : el p n X c = nk c := by
  unfold el
  rw [sm_one (k := 0) (by omega) (fun i _ hi => by rw [dig_small hc, if_neg hi, nk_0]; grind), dig_small hc, if_pos rfl, Lean.Grind.Semiring.pow_zero]; grind
theorem cX_lt {p n : Nat} (hp : 0 < p) (a : Nat) : cX p n a < p ^ n := enc_cut hp _
theorem cA_lt {p n : Nat} (hp : 0 < p) (a c b : Nat) : cA p n a c b < p ^ n := enc_cut hp _
theorem el_cM {K : Type} [Lean.Grind.CommRing K] {p n : Nat} {X : K} (hp : 0 < p) (hn : 1 ≤ n) (hz : nk (K := K) p = 0) (hx : X ^ n = sm n (fun i => nk (fo p n i) * X ^ i)) (a b : Nat) : el p n X (cM p n a b) = el p n X a * el p n X b := by
  have h : ∀ k, el p n X (cMi p n a b k) = sm k (fun j => nk (dig p a (n - 1 - (k - 1 - j))) * X ^ j) * el p n X b := by
    intro k
    induction k with
    | zero => rw [cMi, el_0, sm_zero]; grind
    | succ k ih =>
      rw [cMi, el_cA hp hz, el_cX hp hn hz hx, ih, sm_first, Lean.Grind.Semiring.pow_zero, show k + 1 - 1 - 0 = k by omega]
      have : sm k (fun i => nk (dig p a (n - 1 - (k + 1 - 1 - (i + 1)))) * X ^ (i + 1)) = X * sm k (fun j => nk (dig p a (n - 1 - (k - 1 - j))) * X ^ j) := by
        rw [← sm_mulL]
        refine sm_congr (fun i hi => ?_)
        rw [show k + 1 - 1 - (i + 1) = k - 1 - i by omega, Lean.Grind.Semiring.pow_succ]; grind
      rw [this]; grind
  unfold cM
  rw [h n]
  congr 1
  refine sm_congr (fun i hi => ?_)
  rw [show n - 1 - (n - 1 - i) = i by omega]
theorem pw_mul {K : Type} [Lean.Grind.CommRing K] (a : K) (i j : Nat) : a ^ (i * j) = (a ^ i) ^ j := by
  induction j with
  | zero => rw [Nat.mul_zero, Lean.Grind.Semiring.pow_zero, Lean.Grind.Semiring.pow_zero]
  | succ j ih => rw [Nat.mul_succ, Lean.Grind.Semiring.pow_add, ih, Lean.Grind.Semiring.pow_succ]
theorem el_cPf {K : Type} [Lean.Grind.CommRing K] {p n : Nat} {X : K} (hp : 0 < p) (hn : 1 ≤ n) (hz : nk (K := K) p = 0) (hx : X ^ n = sm n (fun i => nk (fo p n i) * X ^ i)) (k a e r : Nat) (he : e < 2 ^ k) : el p n X (cPf p n k a e r) = el p n X r * el p n X a ^ e := by
  induction k generalizing a e r with
  | zero => rw [cPf, show e = 0 by omega, Lean.Grind.Semiring.pow_zero]; grind
  | succ k ih =>
    rw [cPf]
    by_cases h0 : e = 0
    · rw [if_pos h0, h0, Lean.Grind.Semiring.pow_zero]; grind
    · rw [if_neg h0, ih _ _ _ (by rw [Nat.pow_succ] at he; omega), el_cM hp hn hz hx]
      have h2 : (el p n X a * el p n X a) ^ (e / 2) = el p n X a ^ (2 * (e / 2)) := by
        rw [pw_mul, Lean.Grind.Semiring.pow_two]
      rw [h2]
      have h3 := Nat.div_add_mod e 2
      by_cases h1 : e % 2 = 1
      · rw [if_pos h1, el_cM hp hn hz hx]
        rw [h1] at h3
        rw [← h3, Lean.Grind.Semiring.pow_succ]
        rw [show (2 * (e / 2) + 1) / 2 = e / 2 by omega]; grind
      · rw [if_neg h1]
        rw [show 2 * (e / 2) = e by omega]
theorem el_cP {K : Type} [Lean.Grind.CommRing K] {p n : Nat} {X : K} (hp : 2 ≤ p) (hn : 1 ≤ n) (hz : nk (K := K) p = 0) (hx : X ^ n = sm n (fun i => nk (fo p n i) * X ^ i)) (a e : Nat) (he : e < 131072) : el p n X (cP p n a e) = el p n X a ^ e := by
  unfold cP
  rw [el_cPf (by omega) hn hz hx _ _ _ _ he, el_small (by omega) hn, nk_1]; grind
/-- the orders of 1, 2, .. up to the first element that has all the others as its powers -/
def ods (p n : Nat) : List Nat := ([[1], [1, 3], [1, 7], [1, 15], [1, 31], [1, 63], [1, 2], [1, 2, 4, 8], [1, 2, 26], [1, 2, 80], [1, 2, 242], [1, 2, 728], [1, 4], [1, 4, 4, 2, 8, 24], [1, 4, 4, 2, 62, 31, 62, 62, 124], [1, 4, 4, 2, 16, 624], [1, 4, 4, 2, 1562, 1562, 1562, 1562, 1562, 3124], [1, 4, 4, 2, 15624]] : List (List Nat)).getD ((if p = 2 then 0 else if p = 3 then 6 else 12) + n - 1) []
def ordB (p n g d : Nat) : Bool := decide (0 < d) && decide (g < p ^ n) && decide (cP p n g d = 1) && (List.range d).all (fun k => decide (k = 0) || (decide (d % k ≠ 0) || decide (cP p n g k ≠ 1)))
def odsB (p n : Nat) : Bool := (List.range (ods p n).length).all (fun i => ordB p n (i + 1) ((ods p n).getD i 0)) && decide (0 < (ods p n).length) && (List.range ((ods p n).length - 1)).all (fun i => decide ((ods p n).getD i 0 ≠ p ^ n - 1)) && decide ((ods p n).getD ((ods p n).length - 1) 0 = p ^ n - 1) && decide (mo p n < p ^ (n + 1)) && decide (p ^ n ≤ mo p n)
theorem ods_ok {p n : Nat} (hp : p = 2 ∨ p = 3 ∨ p = 5) (h1 : 1 ≤ n) (h6 : n ≤ 6) : odsB p n = true := by
  rcases hp with rfl | rfl | rfl <;> (rcases (show n = 1 ∨ n = 2 ∨ n = 3 ∨ n = 4 ∨ n = 5 ∨ n = 6 by omega) with rfl | rfl | rfl | rfl | rfl | rfl) <;> decide +kernel
end Prim
