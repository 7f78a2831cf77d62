/-! folding -/
section Fold
def fsN (p n : Nat) (fo t : Nat → Nat) : Nat → Nat → Nat
  | 0, j => t j
  | i + 1, j => if j = 2 * n - 2 - i then 0 else if 2 * n - 2 - i - n ≤ j ∧ j < 2 * n - 2 - i then fsN p n fo t i j + (fsN p n fo t i (2 * n - 2 - i) % p) * fo (j - (2 * n - 2 - i - n)) else fsN p n fo t i j
theorem fsN_le {p n : Nat} {fo t : Nat → Nat} {B : Nat} (hp : 2 ≤ p) (hp5 : p ≤ 5) (hf : ∀ i, fo i < p) (ht : ∀ k, t k ≤ B) (i : Nat) (j : Nat) : fsN p n fo t i j ≤ B + 16 * i := by
  induction i generalizing j with
  | zero => exact ht j
  | succ i ih =>
    rw [fsN]
    have h1 : fsN p n fo t i (2 * n - 2 - i) % p ≤ 4 := by have := Nat.mod_lt (fsN p n fo t i (2 * n - 2 - i)) (show 0 < p by omega); omega
    have h2 : fo (j - (2 * n - 2 - i - n)) ≤ 4 := by have := hf (j - (2 * n - 2 - i - n)); omega
    have h3 := Nat.mul_le_mul h1 h2
    have h4 := ih j
    split
    · omega
    · split <;> omega
theorem sm_win {K : Type} [Lean.Grind.CommRing K] {m a n : Nat} (h : a + n ≤ m) (g : Nat → K) : sm m (fun j => if a ≤ j ∧ j < a + n then g (j - a) else 0) = sm n g := by
  obtain ⟨c, rfl⟩ : ∃ c, m = a + n + c := ⟨m - (a + n), by omega⟩
  rw [sm_app, sm_app, sm_0 (n := a) (fun i hi => if_neg (by omega)), sm_0 (n := c) (fun i hi => if_neg (by omega))]
  have : sm n (fun i => if a ≤ a + i ∧ a + i < a + n then g (a + i - a) else 0) = sm n g := sm_congr (fun i hi => by rw [if_pos (by omega), Nat.add_sub_cancel_left])
  rw [this]; grind
theorem fsN_val {K : Type} [Lean.Grind.CommRing K] {p n : Nat} {X : K} {co : K → Nat} (hR : RO K p n X co) (t : Nat → Nat) {i : Nat} (hi : i < n) : sm 12 (fun k => nk (fsN p n (fo p n) t i k) * X ^ k) = sm 12 (fun k => nk (t k) * X ^ k) := by
  induction i with
  | zero => rfl
  | succ i ih =>
    rw [← ih (by omega)]
    have hn6 := hR.2.2.1
    generalize hu : fsN p n (fo p n) t i = u
    have hk : ∃ k, k = 2 * n - 2 - i := ⟨_, rfl⟩
    obtain ⟨k, hk⟩ := hk
    have e : ∀ j, j < 12 → nk (fsN p n (fo p n) t (i + 1) j) * X ^ j = nk (u j) * X ^ j + ((if j = k then - (nk (u k) * X ^ k) else 0) + (if k - n ≤ j ∧ j < k - n + n then nk (u k) * X ^ (k - n) * (nk (fo p n (j - (k - n))) * X ^ (j - (k - n))) else 0)) := by
      intro j _
      rw [fsN, hu, ← hk]
      by_cases h1 : j = k
      · rw [if_pos h1, if_pos h1, if_neg (by omega), h1, nk_0]; grind
      · rw [if_neg h1, if_neg h1]
        by_cases h2 : k - n ≤ j ∧ j < k
        · rw [if_pos h2, if_pos (by omega), nk_add, nk_mul, nk_mod (RO_z hR)]
          have : X ^ j = X ^ (k - n) * X ^ (j - (k - n)) := by rw [← Lean.Grind.Semiring.pow_add]; congr 1; omega
          rw [this]; grind
        · rw [if_neg h2, if_neg (by omega)]; grind
    rw [sm_congr e, sm_add, sm_add, sm_one (k := k) (by omega) (fun j _ hj => if_neg hj), if_pos rfl, sm_win (g := fun m => nk (u k) * X ^ (k - n) * (nk (fo p n m) * X ^ m)) (by omega), sm_mulL, ← hR.2.2.2.2.1]
    have : X ^ k = X ^ (k - n) * X ^ n := by rw [← Lean.Grind.Semiring.pow_add]; congr 1; omega
    rw [this]; grind
theorem fsN_0 {p n : Nat} {fo t : Nat → Nat} (ht : ∀ k, 2 * n - 1 ≤ k → k < 12 → t k = 0) {i : Nat} (j : Nat) (h : 2 * n - 1 - i ≤ j) (hj : j < 12) (hn : i < n) : fsN p n fo t i j = 0 := by
  induction i with
  | zero => exact ht j (by omega) hj
  | succ i ih =>
    rw [fsN]
    by_cases h1 : j = 2 * n - 2 - i
    · rw [if_pos h1]
    · rw [if_neg h1, if_neg (by omega)]
      exact ih (by omega) (by omega)
theorem T16_up0 (I : gI) (t : Nat → Nat) {k : Nat} (hk : k < 12) : gU (T16 I t) 16 k (0 : Int32) = T16 I (fun j => if j = k then 0 else t j) := by
  rw [← nI_0]; exact T16_up I t 0 hk
theorem fo_lt {p n : Nat} (hp : 0 < p) (i : Nat) : fo p n i < p := Nat.mod_lt _ hp
theorem s_folded {K : Type} [Lean.Grind.CommRing K] {p n : Nat} {X : K} {co : K → Nat} {I : gI} {R : gR} {S : gS} {N : Nat} {t : Nat → Nat} (hR : RO K p n X co) (hF : FN p n (fo p n) I) (ht : ∀ k, t k ≤ 100000) (hz : ∀ k, 2 * n - 1 ≤ k → k < 12 → t k = 0) (hN : 12 ≤ N) :
    f_X2_folded N (T16 I t) R S = some (nI (co (sm 12 (fun k => nk (t k) * X ^ k))), T16 I (fun _ => 0)) := by
  have hp := RO_p hR
  have hn1 := hR.2.1
  have hn6 := hR.2.2.1
  have h1 : ∀ t, T16 I t 6 1 = nI n := fun t => (FN_T hF t).2.1
  have h0 : ∀ t, T16 I t 6 0 = nI p := fun t => (FN_T hF t).1
  have h8 : ∀ t i, i < n → T16 I t 8 i = nI (fo p n i) := fun t => (FN_T hF t).2.2
  have hb : ∀ i j, i ≤ n → fsN p n (fo p n) t i j < 2147483648 := fun i j hi => by
    have := fsN_le (n := n) hp.1 hp.2 (fo_lt (n := n) (show 0 < p by omega)) ht i j
    omega
  unfold f_X2_folded
  refine iter_bind (fun i => (nI (2 * n - 2 - i), T16 I (fsN p n (fo p n) t i))) (n - 1) (T16 I (fsN p n (fo p n) t (n - 1))) ?_ ?_ ?_ (by omega) ?_
  · show ((2 : Int32) * T16 I t 6 1 - 2, T16 I t) = (nI (2 * n - 2 - 0), T16 I (fsN p n (fo p n) t 0))
    rw [h1, show (2 : Int32) = nI 2 from rfl, pk_mul, pk_sub (by omega)]
    rfl
  · intro i hi
    have hbi := hb i (2 * n - 2 - i) (by omega)
    have hm : fsN p n (fo p n) t i (2 * n - 2 - i) % p < p := Nat.mod_lt _ (by omega)
    simp (disch := omega) only [h1, glt_f, h0, gnz, nI_clamp, gin2, T16_at, pk_div, pk_mul, pk_rem2, T16_up0]
    by_cases hz : fsN p n (fo p n) t i (2 * n - 2 - i) % p = 0
    · refine iter_bind (fun j => (nI j, T16 I (fun j => if j = 2 * n - 2 - i then 0 else fsN p n (fo p n) t i j))) 0 (T16 I (fun j => if j = 2 * n - 2 - i then 0 else fsN p n (fo p n) t i j)) (by simp [nI_0]) (fun j hj => by omega) ?_ (by omega) ?_
      · simp (disch := omega) only [h1, gle_f, hz, g0_t]
      · rw [dn2, dn1 _ (by omega), show 2 * n - 2 - i - 1 = 2 * n - 2 - (i + 1) by omega]
        congr 4
        funext j
        rw [fsN, hz]
        simp
    · refine iter_bind (fun m => (nI m, T16 I (fun j => if j = 2 * n - 2 - i then 0 else if 2 * n - 2 - i - n ≤ j ∧ j < 2 * n - 2 - i - n + m then fsN p n (fo p n) t i j + (fsN p n (fo p n) t i (2 * n - 2 - i) % p) * fo p n (j - (2 * n - 2 - i - n)) else fsN p n (fo p n) t i j))) n (T16 I (fsN p n (fo p n) t (i + 1))) ?_ ?_ ?_ (by omega) ?_
      · rw [← nI_0]
        congr 2
        funext j
        rw [if_neg (show ¬ (2 * n - 2 - i - n ≤ j ∧ j < 2 * n - 2 - i - n + 0) by omega)]
      · intro m hm2
        simp (disch := omega) only [h1, h8, gle_f, g0_f, pk_sub, nI_add, nI_clamp, gin2, T16_at, pk_mul, T16_up, nI_1]
        congr 4
        funext j
        by_cases hj : j = 2 * n - 2 - i - n + m
        · subst hj
          rw [if_pos rfl, if_neg (by omega), if_neg (by omega), if_neg (by omega), if_pos (by omega)]
          rw [show 2 * n - 2 - i - n + m - (2 * n - 2 - i - n) = m by omega]
        · rw [if_neg hj]
          by_cases h2 : j = 2 * n - 2 - i
          · rw [if_pos h2, if_pos h2]
          · rw [if_neg h2, if_neg h2]
            by_cases h3 : 2 * n - 2 - i - n ≤ j ∧ j < 2 * n - 2 - i - n + m
            · rw [if_pos h3, if_pos (by omega)]
            · rw [if_neg h3, if_neg (by omega)]
      · simp (disch := omega) only [h1, gle_t]
        congr 3
        funext j
        rw [fsN, show 2 * n - 2 - i - n + n = 2 * n - 2 - i by omega]
      · rw [dn2, dn1 _ (by omega), show 2 * n - 2 - i - 1 = 2 * n - 2 - (i + 1) by omega]
  · simp (disch := omega) only [h1, glt_t]
  · have hbn : ∀ j, fsN p n (fo p n) t (n - 1) j < 2147483648 := fun j => hb _ j (by omega)
    have hv := fsN_val hR t (i := n - 1) (by omega)
    have hzz : ∀ j, n ≤ j → j < 12 → fsN p n (fo p n) t (n - 1) j = 0 := fun j h1 h2 => fsN_0 hz j (by omega) h2 (by omega)
    generalize fsN p n (fo p n) t (n - 1) = u at *
    refine iter_bind (fun i => (nI (enc p i (fun j => u (n - i + j) % p)), nI (n - i) - 1, T16 I (fun j => if n - i ≤ j ∧ j < n then 0 else u j))) n (nI (enc p n (fun j => u j % p)), T16 I (fun _ => 0)) ?_ ?_ ?_ (by omega) ?_
    · rw [h1]
      simp only [Nat.sub_zero, enc, nI_0]
      congr 3
      funext j
      rw [if_neg (by omega)]
    · intro i hi
      have hbu := hbn (n - i - 1)
      rw [dn1 (n - i) (by omega)]
      simp (disch := omega) only [h0, gn_f, gnz, nI_clamp, gin2, T16_at, pk_div, pk_mul, pk_rem2, T16_up0, nI_add]
      rw [if_neg (show ¬ (n - i ≤ n - i - 1 ∧ n - i - 1 < n) by omega)]
      simp (disch := omega) only [pk_div, pk_mul, pk_rem2, nI_add]
      rw [dn2, show n - (i + 1) = n - i - 1 by omega, enc_first]
      congr 3
      · congr 1
        rw [Nat.mul_comm, Nat.add_comm, Nat.add_zero]
        congr 2
        refine enc_congr (fun j hj => ?_)
        rw [show n - i - 1 + (j + 1) = n - i + j by omega]
      · congr 2
        funext j
        by_cases h2 : j = n - i - 1
        · rw [if_pos h2, if_pos (by omega)]
        · rw [if_neg h2]
          by_cases h3 : n - i ≤ j ∧ j < n
          · rw [if_pos h3, if_pos (by omega)]
          · rw [if_neg h3, if_neg (by omega)]
    · simp only [Nat.sub_self, dn0, Nat.zero_add]
      congr 3
      funext a j
      unfold T16
      by_cases h2 : a = 16 ∧ j < 12
      · rw [if_pos h2, if_pos h2]
        show nI (if 0 ≤ j ∧ j < n then 0 else u j) = nI 0
        by_cases h3 : j < n
        · rw [if_pos ⟨by omega, h3⟩]
        · rw [if_neg (by omega), hzz j (by omega) h2.2]
      · rw [if_neg h2, if_neg h2]
    · have : co (sm 12 (fun k => nk (t k) * X ^ k)) = enc p n (fun j => u j % p) := by
        rw [← hv, sm_ext (n := n) (by omega) (fun j h1 h2 => by rw [hzz j h1 h2, nk_0]; grind), ← el_enc (by omega) (RO_z hR)]
        exact RO_co hR (enc_cut (by omega) _)
      rw [this]
end Fold
