/-! the least monic relation; roots; OWN -/
section Lst
/-- figure i of an element, in the ring -/
def dk {K : Type} [Lean.Grind.CommRing K] (p : Nat) (co : K → Nat) (i : Nat) (y : K) : K := nk (dig p (co y) i)
theorem dk_add {K : Type} [Lean.Grind.CommRing K] {p n : Nat} {X : K} {co : K → Nat} (hR : RO K p n X co) {i : Nat} (hi : i < n) (y z : K) : dk p co i (y + z) = dk p co i y + dk p co i z := by
  have hp := RO_p hR
  unfold dk
  rw [co_add hR, dig_enc (fun j _ => Nat.mod_lt _ (by omega)) hi, nk_mod (RO_z hR), nk_add]
theorem dk_0 {K : Type} [Lean.Grind.CommRing K] {p n : Nat} {X : K} {co : K → Nat} (hR : RO K p n X co) (i : Nat) : dk p co i (0 : K) = 0 := by
  unfold dk
  rw [RO_0 hR]
  have : dig p 0 i = 0 := by unfold dig; rw [Nat.zero_div, Nat.zero_mod]
  rw [this, nk_0]
theorem dk_nk {K : Type} [Lean.Grind.CommRing K] {p n : Nat} {X : K} {co : K → Nat} (hR : RO K p n X co) {i : Nat} (hi : i < n) (c : Nat) (y : K) : dk p co i (nk c * y) = nk c * dk p co i y := by
  induction c with
  | zero =>
    show dk p co i (0 * y) = 0 * _
    rw [show (0 : K) * y = 0 by grind, dk_0 hR]; grind
  | succ c ih =>
    show dk p co i ((nk c + 1) * y) = (nk c + 1) * _
    rw [show (nk c + 1) * y = nk c * y + y by grind, dk_add hR hi, ih]; grind
theorem dk_sm {K : Type} [Lean.Grind.CommRing K] {p n : Nat} {X : K} {co : K → Nat} (hR : RO K p n X co) {i : Nat} (hi : i < n) (m : Nat) (c : Nat → Nat) (y : Nat → K) : dk p co i (sm m (fun j => nk (c j) * y j)) = sm m (fun j => nk (c j) * dk p co i (y j)) := by
  induction m with
  | zero => exact dk_0 hR i
  | succ m ih => rw [sm_succ, dk_add hR hi, ih, dk_nk hR hi]; rfl
theorem dk_all {K : Type} [Lean.Grind.CommRing K] {p n : Nat} {X : K} {co : K → Nat} (hR : RO K p n X co) {y : K} (h : ∀ i, i < n → dk p co i y = 0) : y = 0 := by
  rw [← RO_el hR y]
  exact sm_0 (fun i hi => by have := h i hi; unfold dk at this; rw [this]; grind)
/-- the rows of figures of several elements, one behind another -/
def Wv {K : Type} [Lean.Grind.CommRing K] (p n : Nat) (co : K → Nat) (Y : Nat → Nat → K) (j i : Nat) : K := dk p co (i % n) (Y j (i / n))
theorem Wv_at {K : Type} [Lean.Grind.CommRing K] {p n : Nat} {co : K → Nat} {Y : Nat → Nat → K} (j m : Nat) {i : Nat} (hi : i < n) : Wv p n co Y j (m * n + i) = dk p co i (Y j m) := by
  unfold Wv
  rw [Nat.mul_comm, Nat.mul_add_mod, Nat.mod_eq_of_lt hi, Nat.mul_add_div (by omega), Nat.div_eq_of_lt hi, Nat.add_zero]
theorem Wv_rel {K : Type} [Lean.Grind.CommRing K] {p n : Nat} {X : K} {co : K → Nat} (hR : RO K p n X co) {Y : Nat → Nat → K} {M k : Nat} {c : Nat → Nat} : (∀ i, i < M * n → Wv p n co Y k i + sm k (fun j => nk (c j) * Wv p n co Y j i) = 0) ↔ ∀ m, m < M → Y k m + sm k (fun j => nk (c j) * Y j m) = 0 := by
  have hn := hR.2.1
  constructor
  · intro h m hm
    refine dk_all hR (fun i hi => ?_)
    have hlt : m * n + i < M * n := by
      have := Nat.mul_le_mul_right n (show m + 1 ≤ M by omega)
      rw [Nat.succ_mul] at this
      omega
    have h1 := h (m * n + i) hlt
    rw [Wv_at k m hi] at h1
    rw [dk_add hR hi, dk_sm hR hi, ← h1]
    congr 1
    exact sm_congr (fun j _ => by rw [Wv_at j m hi])
  · intro h i hi
    have h1 := Nat.mod_lt i (show 0 < n by omega)
    have h2 : i / n < M := (Nat.div_lt_iff_lt_mul (by omega)).mpr hi
    have h3 := congrArg (dk p co (i % n)) (h (i / n) h2)
    rw [dk_add hR h1, dk_sm hR h1, dk_0 hR] at h3
    exact h3
/-- none of the first k rows is a sum of multiples of those ahead -/
def KI {K : Type} [Lean.Grind.CommRing K] (W : Nat → Nat → K) (w k : Nat) : Prop := ∀ j, j < k → ¬ ∃ c : Nat → K, ∀ i, i < w → W j i = sm j (fun l => c l * W l i)
theorem KI_0 {K : Type} [Lean.Grind.CommRing K] {p n : Nat} {X : K} {co : K → Nat} (hR : RO K p n X co) {W : Nat → Nat → K} {w k : Nat} (h : KI W w k) (a : Nat → K) (h0 : ∀ i, i < w → sm k (fun j => a j * W j i) = 0) : ∀ j, j < k → a j = 0 := by
  induction k with
  | zero => intro j hj; omega
  | succ k ih =>
    have hk : a k = 0 := by
      apply Classical.byContradiction
      intro hne
      refine h k (by omega) ⟨fun l => - (a k ^ (p ^ n - 2)) * a l, fun i hi => ?_⟩
      have h1 := h0 i hi
      have h2 := inv_ok hR hne
      have e : ∀ l, l < k → - (a k ^ (p ^ n - 2)) * a l * W l i = - (a k ^ (p ^ n - 2)) * (a l * W l i) := fun l _ => by grind
      rw [sm_succ] at h1
      rw [sm_congr e, sm_mulL]
      generalize a k ^ (p ^ n - 2) = b at *
      generalize sm k (fun j => a j * W j i) = s at *
      grind
    intro j hj
    by_cases e : j = k
    · rw [e]; exact hk
    · refine ih (fun l hl => h l (by omega)) (fun i hi => ?_) j (by omega)
      have h1 := h0 i hi
      rw [sm_succ, hk] at h1
      rw [← h1]; grind
/-- the least relation: of the rows 0 to k -/
def Lr {K : Type} [Lean.Grind.CommRing K] (p n : Nat) (co : K → Nat) (Y : Nat → Nat → K) (M k : Nat) (c : Nat → Nat) : Prop := (∀ j, c j < p) ∧ (∀ m, m < M → Y k m + sm k (fun j => nk (c j) * Y j m) = 0) ∧ KI (Wv p n co Y) (M * n) k
theorem Lr_min {K : Type} [Lean.Grind.CommRing K] {p n : Nat} {X : K} {co : K → Nat} (hR : RO K p n X co) {Y : Nat → Nat → K} {M k : Nat} {c : Nat → Nat} (h : KI (Wv p n co Y) (M * n) k) {e : Nat} (he : e < k) (d : Nat → Nat) : ¬ ∀ m, m < M → Y e m + sm e (fun j => nk (d j) * Y j m) = 0 := by
  intro h1
  have h2 := (Wv_rel hR).mpr h1
  refine h e he ⟨fun l => - nk (d l), fun i hi => ?_⟩
  have h3 := h2 i hi
  have e1 : ∀ l, l < e → - nk (d l) * Wv p n co Y l i = - (nk (d l) * Wv p n co Y l i) := fun l _ => by grind
  rw [sm_congr e1, sm_neg]; grind
theorem Lr_uniq {K : Type} [Lean.Grind.CommRing K] {p n : Nat} {X : K} {co : K → Nat} (hR : RO K p n X co) {Y : Nat → Nat → K} {M k : Nat} {c d : Nat → Nat} (h : Lr p n co Y M k c) (hd : ∀ j, j < k → d j < p) (h1 : ∀ m, m < M → Y k m + sm k (fun j => nk (d j) * Y j m) = 0) : ∀ j, j < k → d j = c j := by
  have a1 := (Wv_rel hR).mpr h.2.1
  have a2 := (Wv_rel hR).mpr h1
  have a3 := KI_0 hR h.2.2 (fun j => nk (d j) - nk (c j)) (fun i hi => by
    have e1 : ∀ j, j < k → (nk (d j) - nk (c j)) * Wv p n co Y j i = nk (d j) * Wv p n co Y j i - nk (c j) * Wv p n co Y j i := fun j _ => by grind
    rw [sm_congr e1, sm_sub]
    have b1 := a1 i hi
    have b2 := a2 i hi
    grind)
  intro j hj
  have := a3 j hj
  exact nk_inj hR (hd j hj) (h.1 j) (by grind)
/-- a polynomial of degree m at x -/
def pe {K : Type} [Lean.Grind.CommRing K] (c : Nat → K) (m : Nat) (x : K) : K := sm (m + 1) (fun i => c i * x ^ i)
theorem pe_S {K : Type} [Lean.Grind.CommRing K] (c : Nat → K) (m : Nat) (x : K) : pe c (m + 1) x = c 0 + x * pe (fun i => c (i + 1)) m x := by
  unfold pe
  rw [sm_first, Lean.Grind.Semiring.pow_zero, ← sm_mulL]
  have e : ∀ i, i < m + 1 → c (i + 1) * x ^ (i + 1) = x * (c (i + 1) * x ^ i) := fun i _ => by rw [Lean.Grind.Semiring.pow_succ]; grind
  rw [sm_congr e]; grind
theorem pe_0 {K : Type} [Lean.Grind.CommRing K] (c : Nat → K) (x : K) : pe c 0 x = c 0 := by
  unfold pe
  rw [sm_succ, sm_zero, Lean.Grind.Semiring.pow_zero]; grind
theorem synth {K : Type} [Lean.Grind.CommRing K] (m : Nat) (c : Nat → K) (r : K) : ∃ q : Nat → K, (∀ x, pe c (m + 1) x = (x - r) * pe q m x + pe c (m + 1) r) ∧ q m = c (m + 1) := by
  induction m generalizing c with
  | zero => exact ⟨fun _ => c 1, fun x => by rw [pe_S, pe_S, pe_0, pe_0, pe_0]; grind, rfl⟩
  | succ m ih =>
    obtain ⟨q, h1, h2⟩ := ih (fun i => c (i + 1))
    refine ⟨fun i => if i = 0 then pe (fun i => c (i + 1)) (m + 1) r else q (i - 1), fun x => ?_, ?_⟩
    · have e : pe (fun i => if i = 0 then pe (fun i => c (i + 1)) (m + 1) r else q (i - 1)) (m + 1) x = pe (fun i => c (i + 1)) (m + 1) r + x * pe q m x := by
        rw [pe_S]; rfl
      rw [e, pe_S c, pe_S c (m + 1) r, h1 x]
      generalize pe (fun i => c (i + 1)) (m + 1) r = s
      generalize pe q m x = y
      grind
    · show q (m + 1 - 1) = _
      rw [Nat.add_sub_cancel]; exact h2
theorem roots {K : Type} [Lean.Grind.CommRing K] {p n : Nat} {X : K} {co : K → Nat} (hR : RO K p n X co) (m : Nat) (c : Nat → K) (ρ : Nat → K) (hd : ∀ i j, i < j → j ≤ m → ρ i ≠ ρ j) (h0 : ∀ i, i ≤ m → pe c m (ρ i) = 0) : c m = 0 := by
  induction m generalizing c with
  | zero => have := h0 0 (by omega); rw [pe_0] at this; exact this
  | succ m ih =>
    obtain ⟨q, h1, h2⟩ := synth m c (ρ (m + 1))
    rw [← h2]
    refine ih q (fun i j h3 h4 => hd i j h3 (by omega)) (fun i hi => ?_)
    apply Classical.byContradiction
    intro hne
    have h3 := h1 (ρ i)
    rw [h0 i (by omega), h0 (m + 1) (by omega)] at h3
    have h4 : ρ i - ρ (m + 1) ≠ 0 := fun e => hd i (m + 1) (by omega) (by omega) (by grind)
    exact mul_ne hR h4 hne (by grind)
theorem fixed {K : Type} [Lean.Grind.CommRing K] {p n : Nat} {X : K} {co : K → Nat} (hR : RO K p n X co) {y : K} (h : y ^ p = y) : co y < p ∧ nk (co y) = y := by
  have hp := RO_p hR
  have : ∃ c, c < p ∧ nk c = y := by
    apply Classical.byContradiction
    intro hn
    have hne : ∀ c, c < p → nk c ≠ y := fun c hc e => hn ⟨c, hc, e⟩
    have ev1 : ∀ x : K, pe (fun i => if i = p then 1 else if i = 1 then -1 else 0) p x = x ^ p - x := fun x => by
      unfold pe
      dsimp only
      rw [sm_succ, if_pos rfl, sm_one (k := 1) (by omega) (fun i hi hi1 => by rw [if_neg (by omega), if_neg hi1]; grind), if_neg (by omega), if_pos rfl, Lean.Grind.Semiring.pow_one]; grind
    have h1 := roots hR p (fun i => if i = p then 1 else if i = 1 then -1 else 0) (fun i => if i = p then y else nk i) (fun i j h1 h2 => by
      show (if i = p then y else nk i) ≠ (if j = p then y else nk j)
      rw [if_neg (by omega)]
      by_cases e : j = p
      · rw [if_pos e]; exact hne i (by omega)
      · rw [if_neg e]
        intro e2
        have := nk_inj hR (show i < p by omega) (show j < p by omega) e2
        omega) (fun i hi => by
      rw [ev1]
      by_cases e : i = p
      · rw [if_pos e, h]; grind
      · rw [if_neg e, fr_nk hR]; grind)
    rw [if_pos rfl] at h1
    exact RO_ne hR h1
  obtain ⟨c, hc, e⟩ := this
  rw [← e, RO_nk hR hc]
  exact ⟨hc, rfl⟩
/-- times (T less c) -/
def ML {K : Type} [Lean.Grind.CommRing K] (c : K) (P : Nat → K) : Nat → K := fun k => (if k = 0 then 0 else P (k - 1)) - c * P k
theorem ML_swap {K : Type} [Lean.Grind.CommRing K] (a b : K) (P : Nat → K) : ML a (ML b P) = ML b (ML a P) := by
  funext k
  unfold ML
  by_cases h : k = 0
  · simp only [h, if_true]; grind
  · simp only [h, if_false]
    by_cases h1 : k - 1 = 0
    · simp only [h1, if_true]; grind
    · simp only [h1, if_false]; grind
def PL {K : Type} [Lean.Grind.CommRing K] (c : Nat → K) : Nat → Nat → K
  | 0 => d0
  | e + 1 => ML (c e) (PL c e)
theorem PL_first {K : Type} [Lean.Grind.CommRing K] (c : Nat → K) (e : Nat) : PL c (e + 1) = ML (c 0) (PL (fun i => c (i + 1)) e) := by
  induction e with
  | zero => rfl
  | succ e ih =>
    rw [PL, ih, ML_swap]; rfl
theorem PL_deg {K : Type} [Lean.Grind.CommRing K] (c : Nat → K) (e : Nat) : (∀ k, e < k → PL c e k = 0) ∧ PL c e e = 1 := by
  induction e with
  | zero => exact ⟨fun k hk => d0_ne (by omega), rfl⟩
  | succ e ih =>
    constructor
    · intro k hk
      show (if k = 0 then 0 else PL c e (k - 1)) - c e * PL c e k = 0
      rw [if_neg (by omega), ih.1 _ (by omega), ih.1 _ (by omega)]; grind
    · show (if e + 1 = 0 then 0 else PL c e (e + 1 - 1)) - c e * PL c e (e + 1) = 1
      rw [if_neg (by omega), Nat.add_sub_cancel, ih.2, ih.1 _ (by omega)]; grind
theorem PL_ev {K : Type} [Lean.Grind.CommRing K] (c : Nat → K) (e : Nat) (x : K) : pe (PL c (e + 1)) (e + 1) x = (x - c e) * pe (PL c e) e x := by
  have h := PL_deg c e
  rw [PL]
  unfold pe ML
  have e1 : ∀ i, i < e + 1 + 1 → ((if i = 0 then 0 else PL c e (i - 1)) - c e * PL c e i) * x ^ i = (if i = 0 then 0 else PL c e (i - 1)) * x ^ i - c e * (PL c e i * x ^ i) := fun i _ => by grind
  rw [sm_congr e1, sm_sub, sm_mulL, sm_first, sm_succ (e + 1) (fun i => PL c e i * x ^ i), h.1 (e + 1) (by omega)]
  have e2 : ∀ i, i < e + 1 → (if i + 1 = 0 then 0 else PL c e (i + 1 - 1)) * x ^ (i + 1) = x * (PL c e i * x ^ i) := fun i _ => by
    rw [if_neg (by omega), Nat.add_sub_cancel, Lean.Grind.Semiring.pow_succ]; grind
  rw [sm_congr e2, sm_mulL, if_pos rfl]; grind
theorem PL_root {K : Type} [Lean.Grind.CommRing K] (c : Nat → K) (e : Nat) : pe (PL c (e + 1)) (e + 1) (c 0) = 0 := by
  induction e with
  | zero => rw [PL_ev]; grind
  | succ e ih => rw [PL_ev, ih]; grind
theorem PL_fr {K : Type} [Lean.Grind.CommRing K] {p n : Nat} {X : K} {co : K → Nat} (hR : RO K p n X co) (c : Nat → K) (e k : Nat) : PL c e k ^ p = PL (fun i => c i ^ p) e k := by
  have hp := RO_p hR
  have hneg : ∀ a b : K, (a - b) ^ p = a ^ p - b ^ p := fun a b => by
    have := fr_add hR (a - b) b
    rw [show a - b + b = a by grind] at this
    grind
  induction e generalizing k with
  | zero =>
    show (d0 k : K) ^ p = d0 k
    unfold d0
    split
    · exact Lean.Grind.Semiring.one_pow p
    · exact pow_0p (by omega)
  | succ e ih =>
    show ((if k = 0 then 0 else PL c e (k - 1)) - c e * PL c e k) ^ p = (if k = 0 then 0 else PL (fun i => c i ^ p) e (k - 1)) - c e ^ p * PL (fun i => c i ^ p) e k
    rw [hneg, fr_mul, ih]
    congr 1
    split
    · exact pow_0p (by omega)
    · exact ih _
theorem fr_inj {K : Type} [Lean.Grind.CommRing K] {p n : Nat} {X : K} {co : K → Nat} (hR : RO K p n X co) {a b : K} (k : Nat) (h : a ^ (p ^ k) = b ^ (p ^ k)) : a = b := by
  induction k with
  | zero => simp only [Nat.pow_zero, Lean.Grind.Semiring.pow_one] at h; exact h
  | succ k ih =>
    refine ih ?_
    have h1 := congrArg (fun z => z ^ (p ^ (n - 1))) h
    simp only [frk_frk] at h1
    rw [show k + 1 + (n - 1) = n + k by have := hR.2.1; omega, ← frk_frk, ← frk_frk, pow_q hR, pow_q hR] at h1
    exact h1
end Lst
