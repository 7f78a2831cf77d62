/-! it is a field; raising to the power p -/
section Fld
theorem no_inj (m : Nat) (f : Nat → Nat) (h : ∀ i, i < m + 1 → f i < m) : ∃ i j, i < j ∧ j < m + 1 ∧ f i = f j := by
  induction m generalizing f with
  | zero => exact absurd (h 0 (by omega)) (by omega)
  | succ m ih =>
    by_cases hv : ∃ i, i < m + 1 ∧ f i = f (m + 1)
    · obtain ⟨i, h1, h2⟩ := hv
      exact ⟨i, m + 1, by omega, by omega, h2⟩
    · have hne : ∀ i, i < m + 1 → f i ≠ f (m + 1) := fun i hi e => hv ⟨i, hi, e⟩
      have hl := h (m + 1) (by omega)
      obtain ⟨i, j, h1, h2, h3⟩ := ih (fun i => if f (m + 1) < f i then f i - 1 else f i) (fun i hi => by
        have a1 := h i (by omega)
        have a2 := hne i hi
        show (if f (m + 1) < f i then f i - 1 else f i) < m
        split <;> omega)
      refine ⟨i, j, h1, by omega, ?_⟩
      have a2 := hne i (by omega)
      have a3 := hne j (by omega)
      have h3 : (if f (m + 1) < f i then f i - 1 else f i) = (if f (m + 1) < f j then f j - 1 else f j) := h3
      split at h3 <;> split at h3 <;> omega
theorem inj_surj (m : Nat) (f : Nat → Nat) (h : ∀ i, i < m → f i < m) (hi : ∀ i j, i < j → j < m → f i ≠ f j) (y : Nat) (hy : y < m) : ∃ i, i < m ∧ f i = y := by
  apply Classical.byContradiction
  intro hn
  have hne : ∀ i, i < m → f i ≠ y := fun i h1 e => hn ⟨i, h1, e⟩
  obtain ⟨k, rfl⟩ : ∃ k, m = k + 1 := ⟨m - 1, by omega⟩
  obtain ⟨i, j, h1, h2, h3⟩ := no_inj k (fun i => if y < f i then f i - 1 else f i) (fun i h1 => by
    have a1 := h i h1
    have a2 := hne i h1
    show (if y < f i then f i - 1 else f i) < k
    split <;> omega)
  have a2 := hne i (by omega)
  have a3 := hne j h2
  have h3 : (if y < f i then f i - 1 else f i) = (if y < f j then f j - 1 else f j) := h3
  refine hi i j h1 h2 ?_
  split at h3 <;> split at h3 <;> omega
theorem RO_0 {K : Type} [Lean.Grind.CommRing K] {p n : Nat} {X : K} {co : K → Nat} (h : RO K p n X co) : co 0 = 0 := by
  have := h.2.2.2.2.2.2.2 0 (Nat.pow_pos (by have := RO_p h; omega))
  rw [el_0] at this; exact this
theorem RO_nk {K : Type} [Lean.Grind.CommRing K] {p n : Nat} {X : K} {co : K → Nat} (h : RO K p n X co) {c : Nat} (hc : c < p) : co (nk c) = c := by
  have hp := RO_p h
  have := h.2.2.2.2.2.2.2 c (Nat.lt_of_lt_of_le hc (by
    have := Nat.pow_le_pow_right (show 0 < p by omega) h.2.1
    rw [Nat.pow_one] at this; exact this))
  rw [el_small hc h.2.1] at this; exact this
theorem RO_1 {K : Type} [Lean.Grind.CommRing K] {p n : Nat} {X : K} {co : K → Nat} (h : RO K p n X co) : co 1 = 1 := by
  have := RO_nk h (c := 1) (by have := RO_p h; omega)
  rw [nk_1] at this; exact this
theorem RO_lt {K : Type} [Lean.Grind.CommRing K] {p n : Nat} {X : K} {co : K → Nat} (h : RO K p n X co) (k : K) : co k < p ^ n := h.2.2.2.2.2.1 k
theorem RO_el {K : Type} [Lean.Grind.CommRing K] {p n : Nat} {X : K} {co : K → Nat} (h : RO K p n X co) (k : K) : el p n X (co k) = k := h.2.2.2.2.2.2.1 k
theorem RO_co {K : Type} [Lean.Grind.CommRing K] {p n : Nat} {X : K} {co : K → Nat} (h : RO K p n X co) {a : Nat} (ha : a < p ^ n) : co (el p n X a) = a := h.2.2.2.2.2.2.2 a ha
theorem RO_inj {K : Type} [Lean.Grind.CommRing K] {p n : Nat} {X : K} {co : K → Nat} (h : RO K p n X co) {a b : K} (e : co a = co b) : a = b := by
  rw [← RO_el h a, e, RO_el h b]
theorem RO_z {K : Type} [Lean.Grind.CommRing K] {p n : Nat} {X : K} {co : K → Nat} (h : RO K p n X co) : nk (K := K) p = 0 := h.2.2.2.1
theorem RO_ne {K : Type} [Lean.Grind.CommRing K] {p n : Nat} {X : K} {co : K → Nat} (h : RO K p n X co) : (1 : K) ≠ 0 := fun e => by
  have h1 := RO_1 h
  rw [e, RO_0 h] at h1
  omega
theorem RO_q {K : Type} [Lean.Grind.CommRing K] {p n : Nat} {X : K} {co : K → Nat} (h : RO K p n X co) : 2 ≤ p ^ n ∧ p ^ n ≤ 15625 := by
  obtain ⟨hp, h1, h6, _⟩ := h
  rcases hp with rfl | rfl | rfl <;> (rcases (show n = 1 ∨ n = 2 ∨ n = 3 ∨ n = 4 ∨ n = 5 ∨ n = 6 by omega) with rfl | rfl | rfl | rfl | rfl | rfl) <;> decide
theorem cM_lt {p n : Nat} (hp : 0 < p) (hn : 1 ≤ n) (a b : Nat) : cM p n a b < p ^ n := by
  obtain ⟨m, rfl⟩ : ∃ m, n = m + 1 := ⟨n - 1, by omega⟩
  unfold cM
  rw [cMi]
  exact cA_lt hp _ _ _
theorem cPf_lt {p n : Nat} (hp : 0 < p) (hn : 1 ≤ n) (k a e r : Nat) (hr : r < p ^ n) : cPf p n k a e r < p ^ n := by
  induction k generalizing a e r with
  | zero => exact hr
  | succ k ih =>
    rw [cPf]
    split
    · exact hr
    · refine ih _ _ _ ?_
      split
      · exact cM_lt hp hn _ _
      · exact hr
theorem ord_ok {K : Type} [Lean.Grind.CommRing K] {p n : Nat} {X : K} {co : K → Nat} (h : RO K p n X co) {g d : Nat} (hd : d ≤ 100000) (hb : ordB p n g d = true) : 0 < d ∧ g < p ^ n ∧ el p n X g ^ d = 1 ∧ ∀ k, 0 < k → k < d → el p n X g ^ k ≠ 1 := by
  have hp := RO_p h
  unfold ordB at hb
  simp only [Bool.and_eq_true, decide_eq_true_eq, List.all_eq_true, List.mem_range, Bool.or_eq_true] at hb
  obtain ⟨⟨⟨h0, hg⟩, h1⟩, h2⟩ := hb
  have hone : el p n X 1 = 1 := by rw [el_small (by omega) h.2.1, nk_1]
  have hd1 : el p n X g ^ d = 1 := by
    rw [← el_cP hp.1 h.2.1 h.2.2.2.1 h.2.2.2.2.1 g d (by omega), h1, hone]
  refine ⟨h0, hg, hd1, ?_⟩
  intro k
  induction k using Nat.strongRecOn with
  | ind k ih =>
    intro k0 kd e
    by_cases hk : d % k = 0
    · rcases h2 k kd with z | z | z
      · omega
      · exact z hk
      · apply z
        have a1 : el p n X (cP p n g k) = el p n X 1 := by
          rw [el_cP hp.1 h.2.1 h.2.2.2.1 h.2.2.2.2.1 g k (by omega), e, hone]
        have a2 := congrArg co a1
        unfold cP at a2 ⊢
        rw [RO_co h (cPf_lt (by omega) h.2.1 _ _ _ _ (by have := RO_q h; omega)), RO_co h (by have := RO_q h; omega)] at a2
        exact a2
    · refine ih (d % k) (Nat.mod_lt _ k0) (by omega) (Nat.lt_trans (Nat.mod_lt _ k0) kd) ?_
      have a1 : el p n X g ^ (k * (d / k) + d % k) = 1 := by rw [Nat.div_add_mod]; exact hd1
      rw [Lean.Grind.Semiring.pow_add, pw_mul, e, Lean.Grind.Semiring.one_pow] at a1
      grind
theorem ods_fact {p n : Nat} (hp : p = 2 ∨ p = 3 ∨ p = 5) (h1 : 1 ≤ n) (h6 : n ≤ 6) : 0 < (ods p n).length ∧ (∀ i, i < (ods p n).length → ordB p n (i + 1) ((ods p n).getD i 0) = true) ∧ (∀ i, i + 1 < (ods p n).length → (ods p n).getD i 0 ≠ p ^ n - 1) ∧ (ods p n).getD ((ods p n).length - 1) 0 = p ^ n - 1 ∧ mo p n < p ^ (n + 1) ∧ p ^ n ≤ mo p n := by
  have hb := ods_ok hp h1 h6
  unfold odsB at hb
  simp only [Bool.and_eq_true, decide_eq_true_eq, List.all_eq_true, List.mem_range] at hb
  obtain ⟨⟨⟨⟨⟨a, b⟩, c⟩, d⟩, e⟩, f⟩ := hb
  exact ⟨b, a, fun i hi => c i (by omega), d, e, f⟩
theorem prim_ok {K : Type} [Lean.Grind.CommRing K] {p n : Nat} {X : K} {co : K → Nat} (h : RO K p n X co) : el p n X (ods p n).length ^ (p ^ n - 1) = 1 ∧ ∀ k, 0 < k → k < p ^ n - 1 → el p n X (ods p n).length ^ k ≠ 1 := by
  obtain ⟨l0, a, _, d, _⟩ := ods_fact h.1 h.2.1 h.2.2.1
  have a1 := a ((ods p n).length - 1) (by omega)
  rw [d, show (ods p n).length - 1 + 1 = (ods p n).length by omega] at a1
  exact (ord_ok h (by have := RO_q h; omega) a1).2.2
theorem mul_0 {K : Type} [Lean.Grind.CommRing K] (a : K) : a * 0 = 0 := by grind
theorem pow_pred {K : Type} [Lean.Grind.CommRing K] (a : K) {k : Nat} (hk : 0 < k) : a ^ k = a * a ^ (k - 1) := by
  obtain ⟨j, rfl⟩ : ∃ j, k = j + 1 := ⟨k - 1, by omega⟩
  rw [Lean.Grind.Semiring.pow_succ, Nat.add_sub_cancel]; grind
/-- every element but 0 is a power of the first one that can be -/
theorem all_pow {K : Type} [Lean.Grind.CommRing K] {p n : Nat} {X : K} {co : K → Nat} (h : RO K p n X co) {a : K} (ha : a ≠ 0) : ∃ k, k < p ^ n - 1 ∧ el p n X (ods p n).length ^ k = a := by
  have hq := RO_q h
  obtain ⟨h1, h2⟩ := prim_ok h
  generalize el p n X (ods p n).length = g at *
  have gu : g * g ^ (p ^ n - 1 - 1) = 1 := by rw [← pow_pred g (by omega)]; exact h1
  have gk : ∀ k : Nat, g ^ k * (g ^ (p ^ n - 1 - 1)) ^ k = 1 := by
    intro k
    rw [← Lean.Grind.CommSemiring.mul_pow, gu, Lean.Grind.Semiring.one_pow]
  have g0 : ∀ k : Nat, g ^ k ≠ 0 := fun k e => by
    have := gk k
    rw [e] at this
    exact RO_ne h (by grind)
  have c0 : ∀ b : K, b ≠ 0 → 0 < co b := fun b hb => Nat.pos_of_ne_zero (fun e => hb (RO_inj h (by rw [e, RO_0 h])))
  obtain ⟨k, hk, e⟩ := inj_surj (p ^ n - 1) (fun k => co (g ^ k) - 1) (fun i hi => by
      have := RO_lt h (g ^ i)
      have := c0 _ (g0 i)
      show co (g ^ i) - 1 < p ^ n - 1
      omega) (fun i j hij hj e => by
      have e : co (g ^ i) - 1 = co (g ^ j) - 1 := e
      have a1 := c0 _ (g0 i)
      have a2 := c0 _ (g0 j)
      have e2 : g ^ i = g ^ j := RO_inj h (by omega)
      refine h2 (j - i) (by omega) (by omega) ?_
      have a3 : g ^ j = g ^ i * g ^ (j - i) := by rw [← Lean.Grind.Semiring.pow_add]; congr 1; omega
      have a4 := gk i
      rw [a3] at e2
      grind) (co a - 1) (by have := RO_lt h a; have := c0 a ha; omega)
  have e : co (g ^ k) - 1 = co a - 1 := e
  have a1 := c0 _ (g0 k)
  have a2 := c0 a ha
  exact ⟨k, hk, RO_inj h (by omega)⟩
theorem fermat {K : Type} [Lean.Grind.CommRing K] {p n : Nat} {X : K} {co : K → Nat} (h : RO K p n X co) {a : K} (ha : a ≠ 0) : a ^ (p ^ n - 1) = 1 := by
  obtain ⟨k, hk, e⟩ := all_pow h ha
  rw [← e, ← pw_mul, Nat.mul_comm, pw_mul, (prim_ok h).1, Lean.Grind.Semiring.one_pow]
theorem pow_q {K : Type} [Lean.Grind.CommRing K] {p n : Nat} {X : K} {co : K → Nat} (h : RO K p n X co) (a : K) : a ^ (p ^ n) = a := by
  have hq := RO_q h
  rw [pow_pred a (by omega)]
  by_cases ha : a = 0
  · rw [ha]; grind
  · rw [fermat h ha]; grind
theorem inv_ok {K : Type} [Lean.Grind.CommRing K] {p n : Nat} {X : K} {co : K → Nat} (h : RO K p n X co) {a : K} (ha : a ≠ 0) : a * a ^ (p ^ n - 2) = 1 := by
  have hq := RO_q h
  rw [← fermat h ha, pow_pred a (show 0 < p ^ n - 1 by omega)]; rfl
theorem mul_ne {K : Type} [Lean.Grind.CommRing K] {p n : Nat} {X : K} {co : K → Nat} (h : RO K p n X co) {a b : K} (ha : a ≠ 0) (hb : b ≠ 0) : a * b ≠ 0 := fun e => by
  have := inv_ok h ha
  exact hb (by grind)
theorem fr_add {K : Type} [Lean.Grind.CommRing K] {p n : Nat} {X : K} {co : K → Nat} (h : RO K p n X co) (a b : K) : (a + b) ^ p = a ^ p + b ^ p := by
  have hz := RO_z h
  rcases h.1 with rfl | rfl | rfl
  · have h2 : (2 : K) = 0 := by rw [← hz]; show (2 : K) = 0 + 1 + 1; grind
    grind
  · have h2 : (3 : K) = 0 := by rw [← hz]; show (3 : K) = 0 + 1 + 1 + 1; grind
    grind
  · have h2 : (5 : K) = 0 := by rw [← hz]; show (5 : K) = 0 + 1 + 1 + 1 + 1 + 1; grind
    grind
theorem fr_mul {K : Type} [Lean.Grind.CommRing K] (p : Nat) (a b : K) : (a * b) ^ p = a ^ p * b ^ p := Lean.Grind.CommSemiring.mul_pow a b p
theorem pow_0p {K : Type} [Lean.Grind.CommRing K] {k : Nat} (h : 0 < k) : (0 : K) ^ k = 0 := by
  rw [pow_pred _ h]; grind
theorem fr_nk {K : Type} [Lean.Grind.CommRing K] {p n : Nat} {X : K} {co : K → Nat} (h : RO K p n X co) (c : Nat) : (nk c : K) ^ p = nk c := by
  induction c with
  | zero => exact pow_0p (by have := RO_p h; omega)
  | succ c ih =>
    show (nk c + 1 : K) ^ p = nk c + 1
    rw [fr_add h, ih, Lean.Grind.Semiring.one_pow]
theorem fr_sm {K : Type} [Lean.Grind.CommRing K] {p n : Nat} {X : K} {co : K → Nat} (h : RO K p n X co) (m : Nat) (f : Nat → K) : (sm m f) ^ p = sm m (fun i => f i ^ p) := by
  induction m with
  | zero => exact pow_0p (by have := RO_p h; omega)
  | succ m ih => rw [sm_succ, fr_add h, ih]; rfl
theorem nk_inj {K : Type} [Lean.Grind.CommRing K] {p n : Nat} {X : K} {co : K → Nat} (h : RO K p n X co) {a b : Nat} (ha : a < p) (hb : b < p) (e : (nk a : K) = nk b) : a = b := by
  have := congrArg co e
  rw [RO_nk h ha, RO_nk h hb] at this; exact this
end Fld
