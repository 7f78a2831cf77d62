/-! the class's field: times, c + e f, negative, powers -/
section COps
/-- the class's field as it stands between calls, but for its powers of x -/
def FH0 (p n : Nat) (I : gI) : Prop := FN p n (fo p n) I ∧ ∀ j, j < 12 → I 16 j = 0
theorem T16_self {I : gI} (h : ∀ j, j < 12 → I 16 j = 0) : T16 I (fun _ => 0) = I := by
  funext a j
  unfold T16
  by_cases e : a = 16 ∧ j < 12
  · rw [if_pos e, e.1, h j e.2, nI_0]
  · rw [if_neg e]
theorem cvN_le {p n e f : Nat} (hp : 2 ≤ p) (hp5 : p ≤ 5) (i k : Nat) : cvN p n e f i k ≤ 16 * i := by
  induction i with
  | zero => simp [cvN]
  | succ i ih =>
    rw [cvN]
    have h1 : dig p e i ≤ 4 := by have := dig_lt (show 0 < p by omega) e i; omega
    have h2 : dig p f (k - i) ≤ 4 := by have := dig_lt (show 0 < p by omega) f (k - i); omega
    have h3 := Nat.mul_le_mul h1 h2
    split <;> omega
theorem cvN_0 {p n e f : Nat} {i k : Nat} (hi : i ≤ n) (hk : 2 * n - 1 ≤ k) : cvN p n e f i k = 0 := by
  induction i with
  | zero => rfl
  | succ i ih => rw [cvN, ih (by omega), if_neg (by omega)]
theorem cvN_val {K : Type} [Lean.Grind.CommRing K] {p n : Nat} {X : K} (hn6 : n ≤ 6) (e f : Nat) {i : Nat} (hi : i ≤ n) : sm 12 (fun k => nk (cvN p n e f i k) * X ^ k) = sm i (fun j => nk (dig p e j) * X ^ j) * el p n X f := by
  induction i with
  | zero => rw [sm_zero, sm_0 (fun k _ => by rw [cvN, nk_0]; grind)]; grind
  | succ i ih =>
    have e1 : ∀ k, k < 12 → nk (cvN p n e f (i + 1) k) * X ^ k = nk (cvN p n e f i k) * X ^ k + (if i ≤ k ∧ k < i + n then nk (dig p e i) * X ^ i * (nk (dig p f (k - i)) * X ^ (k - i)) else 0) := by
      intro k _
      rw [cvN, nk_add]
      by_cases h : i ≤ k ∧ k < i + n
      · rw [if_pos h, if_pos h, nk_mul]
        have : X ^ k = X ^ i * X ^ (k - i) := by rw [← Lean.Grind.Semiring.pow_add]; congr 1; omega
        rw [this]; grind
      · rw [if_neg h, if_neg h, nk_0]; grind
    rw [sm_congr e1, sm_add, ih (by omega), sm_win (g := fun m => nk (dig p e i) * X ^ i * (nk (dig p f m) * X ^ m)) (by omega), sm_mulL, sm_succ]
    unfold el; grind
theorem el_val {K : Type} [Lean.Grind.CommRing K] {p n : Nat} {X : K} (hn6 : n ≤ 6) (e c : Nat) : sm 12 (fun k => nk (if k < n then 0 + dig p e k * c else 0) * X ^ k) = nk c * el p n X e := by
  rw [sm_ext (n := n) (by omega) (fun j h1 h2 => by rw [if_neg (by omega), nk_0]; grind)]
  unfold el
  rw [← sm_mulL]
  refine sm_congr (fun i hi => ?_)
  rw [if_pos hi, Nat.zero_add, nk_mul]; grind
theorem co_31 {K : Type} [Lean.Grind.CommRing K] {p n : Nat} {X : K} {co : K → Nat} (hR : RO K p n X co) (a : K) : co a < 2147483648 := by
  have := RO_lt hR a
  have := RO_q hR
  omega
theorem s_times {K : Type} [Lean.Grind.CommRing K] {p n : Nat} {X : K} {co : K → Nat} {I : gI} {R : gR} {S : gS} {N : Nat} (hR : RO K p n X co) (hF : FH0 p n I) (a b : K) (hN : 12 ≤ N) :
    f_X2_times N I R S (nI (co a)) (nI (co b)) = some (nI (co (a * b)), I) := by
  have hp := RO_p hR
  have h1 := s_addProduct (R := R) (S := S) (N := N) (t := fun _ => 0) hF.1 hp.1 hp.2 hR.2.2.1 (co_31 hR a) (co_31 hR b) (by omega)
  rw [T16_self hF.2] at h1
  unfold f_X2_times
  rw [h1]
  show (f_X2_folded N _ R S).bind _ = _
  rw [s_folded hR hF.1 (fun k => by have := cvN_le (n := n) (e := co a) (f := co b) hp.1 hp.2 n k; have := hR.2.2.1; omega) (fun k h2 _ => by rw [cvN_0 (Nat.le_refl n) h2]) hN, T16_self hF.2]
  show some _ = _
  have e : ∀ k, k < 12 → nk (K := K) (0 + cvN p n (co a) (co b) n k) * X ^ k = nk (cvN p n (co a) (co b) n k) * X ^ k := fun k _ => by rw [Nat.zero_add]
  rw [sm_congr e, cvN_val hR.2.2.1 _ _ (Nat.le_refl n)]
  show some (nI (co (el p n X (co a) * el p n X (co b))), I) = _
  rw [RO_el hR, RO_el hR]
theorem co0_iff {K : Type} [Lean.Grind.CommRing K] {p n : Nat} {X : K} {co : K → Nat} (hR : RO K p n X co) (a : K) : nI (co a) = 0 ↔ a = 0 := by
  constructor
  · intro h
    rw [← nI_0] at h
    have := (nI_eq (co_31 hR a) (by omega)).mp h
    exact RO_inj hR (by rw [this, RO_0 hR])
  · intro h
    rw [h, RO_0 hR, nI_0]
theorem s_plusTimes {K : Type} [Lean.Grind.CommRing K] {p n : Nat} {X : K} {co : K → Nat} {I : gI} {R : gR} {S : gS} {N : Nat} (hR : RO K p n X co) (hF : FH0 p n I) (c a b : K) (hN : 12 ≤ N) :
    f_X2_plusTimes N I R S (nI (co c)) (nI (co a)) (nI (co b)) = some (nI (co (c + a * b)), I) := by
  have hp := RO_p hR
  have hn6 := hR.2.2.1
  unfold f_X2_plusTimes
  by_cases ha : a = 0
  · rw [if_pos ((co0_iff hR a).mpr ha), ha, show c + 0 * b = c by grind]
  · rw [if_neg (fun z => ha ((co0_iff hR a).mp z))]
    by_cases hb : b = 0
    · rw [if_pos ((co0_iff hR b).mpr hb), hb, show c + a * 0 = c by grind]
    · rw [if_neg (fun z => hb ((co0_iff hR b).mp z))]
      have h0 := s_addTimes (R := R) (S := S) (N := N) (t := fun _ => 0) (e := co c) (c := 1) hF.1 hp.1 hp.2 hn6 (co_31 hR c) (by omega)
      rw [T16_self hF.2] at h0
      rw [show (1 : Int32) = nI 1 from rfl, h0]
      show (f_X2_addProduct N _ R S _ _).bind _ = _
      rw [s_addProduct hF.1 hp.1 hp.2 hn6 (co_31 hR a) (co_31 hR b) (by omega)]
      show (f_X2_folded N _ R S).bind _ = _
      have hd : ∀ k, dig p (co c) k ≤ 4 := fun k => by have := dig_lt (show 0 < p by omega) (co c) k; omega
      rw [s_folded hR hF.1 (fun k => by
        have := cvN_le (n := n) (e := co a) (f := co b) hp.1 hp.2 n k
        have := hd k
        show (if k < n then 0 + dig p (co c) k * 1 else 0) + cvN p n (co a) (co b) n k ≤ 100000
        split <;> omega) (fun k h2 _ => by
        show (if k < n then 0 + dig p (co c) k * 1 else 0) + cvN p n (co a) (co b) n k = 0
        have := hR.2.1
        rw [cvN_0 (Nat.le_refl n) h2]
        by_cases h3 : k < n
        · omega
        · rw [if_neg h3]) hN, T16_self hF.2]
      show some _ = _
      have e : ∀ k, k < 12 → nk (K := K) ((if k < n then 0 + dig p (co c) k * 1 else 0) + cvN p n (co a) (co b) n k) * X ^ k = nk (if k < n then 0 + dig p (co c) k * 1 else 0) * X ^ k + nk (cvN p n (co a) (co b) n k) * X ^ k := fun k _ => by rw [nk_add]; grind
      rw [sm_congr e, sm_add, el_val hn6, cvN_val hn6 _ _ (Nat.le_refl n)]
      show some (nI (co (nk 1 * el p n X (co c) + el p n X (co a) * el p n X (co b))), I) = _
      rw [RO_el hR, RO_el hR, RO_el hR, nk_1, show 1 * c + a * b = c + a * b by grind]
end COps
