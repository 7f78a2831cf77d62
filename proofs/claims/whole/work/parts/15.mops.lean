/-! the model's field -/
section MOps
/-- the model's numbers and tables -/
def MH {K : Type} [Lean.Grind.CommRing K] (p n : Nat) (X : K) (co : K → Nat) (I : gI) : Prop := I 91 2 = nI p ∧ I 91 3 = nI n ∧ I 91 4 = nI (p ^ n) ∧ I 91 5 = nI (mo p n) ∧ (∀ k, k < p ^ n - 1 → I 96 k = nI (co (el p n X (ods p n).length ^ k))) ∧ (∀ k, k < p ^ n - 1 → I 97 (co (el p n X (ods p n).length ^ k)) = nI k)
theorem enc_ext {p n i : Nat} {f : Nat → Nat} (h : i ≤ n) (h0 : ∀ j, i ≤ j → j < n → f j = 0) : enc p n f = enc p i f := by
  induction n with
  | zero => rw [show i = 0 by omega]
  | succ n ih =>
    by_cases e : i = n + 1
    · rw [e]
    · rw [enc, ih (by omega) (fun j h1 h2 => h0 j h1 (by omega)), h0 n (by omega) (by omega)]; simp
theorem co_add {K : Type} [Lean.Grind.CommRing K] {p n : Nat} {X : K} {co : K → Nat} (hR : RO K p n X co) (a b : K) : co (a + b) = enc p n (fun j => (dig p (co a) j + dig p (co b) j) % p) := by
  have hp := RO_p hR
  have h := el_enc (X := X) (n := n) (show 0 < p by omega) (RO_z hR) (fun j => dig p (co a) j + dig p (co b) j)
  have e : a + b = sm n (fun i => nk (dig p (co a) i + dig p (co b) i) * X ^ i) := by
    have e1 : ∀ i, i < n → nk (K := K) (dig p (co a) i + dig p (co b) i) * X ^ i = nk (dig p (co a) i) * X ^ i + nk (dig p (co b) i) * X ^ i := fun i _ => by rw [nk_add]; grind
    rw [sm_congr e1, sm_add]
    show _ = el p n X (co a) + el p n X (co b)
    rw [RO_el hR, RO_el hR]
  rw [e, ← h]
  exact RO_co hR (enc_cut (by omega) _)
theorem dig_div0 {p a i j : Nat} (h : a / p ^ i = 0) (hj : i ≤ j) : dig p a j = 0 := by
  unfold dig
  obtain ⟨m, rfl⟩ : ∃ m, j = i + m := ⟨j - i, by omega⟩
  rw [Nat.pow_add, ← Nat.div_div_eq_div_mul, h, Nat.zero_div, Nat.zero_mod]
theorem gpos {τ : Type} {A B : τ} {a : Nat} (h : 0 < a) (ha : a < 2147483648) : (if 0 < nI a then A else B) = A := if_pos (by rw [← nI_0]; exact nI_lt h ha)
theorem gpos_f {τ : Type} {A B : τ} {a : Nat} (h : a = 0) : (if 0 < nI a then A else B) = B := if_neg (by rw [h, nI_0]; decide)
theorem gle0_f {τ : Type} {A B : τ} {a : Nat} (h : 0 < a) (ha : a < 2147483648) : (if nI a ≤ 0 then A else B) = B := if_neg (nI_nle h ha)
theorem gle0_t {τ : Type} {A B : τ} {a : Nat} (h : a = 0) : (if nI a ≤ 0 then A else B) = A := if_pos (by rw [h, nI_0]; decide)
theorem m_add {K : Type} [Lean.Grind.CommRing K] {p n : Nat} {X : K} {co : K → Nat} {I : gI} {R : gR} {S : gS} {N : Nat} (hR : RO K p n X co) (hM : I 91 2 = nI p) (a b : K) (hN : 12 ≤ N) :
    f_X12_add N I R S (nI (co a)) (nI (co b)) = some (nI (co (a + b))) := by
  have hp := RO_p hR
  have hn6 := hR.2.2.1
  have ha := co_31 hR a
  have hb := co_31 hR b
  have la := RO_lt hR a
  have lb := RO_lt hR b
  rw [co_add hR]
  generalize co a = x at *
  generalize co b = y at *
  unfold f_X12_add
  refine iter_wpb (fun i s => s = (nI (enc p i (fun j => (dig p x j + dig p y j) % p)), nI (p ^ i), nI (x / p ^ i), nI (y / p ^ i))) n ?_ ?_ (by omega)
  · simp only [enc, nI_0, Nat.pow_zero, Nat.div_one]; rfl
  · rintro i _ hi rfl
    have hdx : x / p ^ i < 2147483648 := Nat.lt_of_le_of_lt (Nat.div_le_self _ _) ha
    have hdy : y / p ^ i < 2147483648 := Nat.lt_of_le_of_lt (Nat.div_le_self _ _) hb
    have hx1 : x / p ^ i % p < p := Nat.mod_lt _ (by omega)
    have hy1 : y / p ^ i % p < p := Nat.mod_lt _ (by omega)
    have hgo : ∀ s, some (Sum.inl (β := Int32) (nI (enc p i (fun j => (dig p x j + dig p y j) % p)) + nI (p ^ i) * nI ((x / p ^ i % p + y / p ^ i % p) % p), nI (p ^ i) * nI p, nI (x / p ^ i / p), nI (y / p ^ i / p))) = some (Sum.inl s) → s = (nI (enc p (i + 1) (fun j => (dig p x j + dig p y j) % p)), nI (p ^ (i + 1)), nI (x / p ^ (i + 1)), nI (y / p ^ (i + 1))) := by
      intro s hs
      cases hs
      rw [pk_mul, pk_mul, nI_add, div_div_pow, div_div_pow, Nat.pow_succ, enc, Nat.mul_comm (p ^ i) ((x / p ^ i % p + y / p ^ i % p) % p)]
      rfl
    have zx : x / p ^ i = 0 → ∀ j, i ≤ j → dig p x j = 0 := fun h j hj => dig_div0 h hj
    have zy : y / p ^ i = 0 → ∀ j, i ≤ j → dig p y j = 0 := fun h j hj => dig_div0 h hj
    have zn : i = n → x / p ^ i = 0 ∧ y / p ^ i = 0 := fun e => by subst e; exact ⟨Nat.div_eq_of_lt la, Nat.div_eq_of_lt lb⟩
    generalize x / p ^ i = u at *
    generalize y / p ^ i = v at *
    by_cases hz : u = 0 ∧ v = 0
    · refine .inr ⟨nI (enc p i (fun j => (dig p x j + dig p y j) % p)), ?_, ?_⟩
      · simp (disch := omega) only [hz.1, hz.2, gpos_f, gle0_t]
      · show some _ = some _
        rw [enc_ext hi (fun j h1 h2 => by rw [zx hz.1 j h1, zy hz.2 j h1]; exact Nat.zero_mod p)]
    · have hlt : i < n := by
        apply Classical.byContradiction
        intro h
        exact hz (zn (by omega))
      refine .inl ⟨_, ?_, hlt, hgo _ rfl⟩
      simp only [hM]
      by_cases h1 : 0 < u
      · simp (disch := omega) only [gpos, gnz, pk_div, pk_mul, pk_rem2, nI_add]
      · have h2 : 0 < v := by omega
        simp (disch := omega) only [gpos_f, gle0_f, gnz, pk_div, pk_mul, pk_rem2, nI_add]
theorem MH_log {K : Type} [Lean.Grind.CommRing K] {p n : Nat} {X : K} {co : K → Nat} {I : gI} (hR : RO K p n X co) (hM : MH p n X co I) {a : K} (ha : a ≠ 0) : ∃ k, k < p ^ n - 1 ∧ el p n X (ods p n).length ^ k = a ∧ I 97 (co a) = nI k := by
  obtain ⟨k, h1, h2⟩ := all_pow hR ha
  refine ⟨k, h1, h2, ?_⟩
  rw [← h2]; exact hM.2.2.2.2.2 k h1
theorem g_mod {K : Type} [Lean.Grind.CommRing K] {p n : Nat} {X : K} {co : K → Nat} (hR : RO K p n X co) (k : Nat) : el p n X (ods p n).length ^ (k % (p ^ n - 1)) = el p n X (ods p n).length ^ k := by
  have h : el p n X (ods p n).length ^ ((p ^ n - 1) * (k / (p ^ n - 1)) + k % (p ^ n - 1)) = el p n X (ods p n).length ^ k := by rw [Nat.div_add_mod]
  rw [Lean.Grind.Semiring.pow_add, pw_mul, (prim_ok hR).1, Lean.Grind.Semiring.one_pow] at h
  rw [← h]; grind
theorem m_times {K : Type} [Lean.Grind.CommRing K] {p n : Nat} {X : K} {co : K → Nat} {I : gI} {R : gR} {S : gS} {N : Nat} (hR : RO K p n X co) (hM : MH p n X co I) (a b : K) :
    f_X12_times N I R S (nI (co a)) (nI (co b)) = some (nI (co (a * b))) := by
  have hq := RO_q hR
  have la := RO_lt hR a
  have lb := RO_lt hR b
  unfold f_X12_times
  by_cases ha : a = 0
  · rw [if_pos ((co0_iff hR a).mpr ha), ha, show 0 * b = 0 by grind, RO_0 hR, nI_0]
  · rw [if_neg (fun z => ha ((co0_iff hR a).mp z))]
    by_cases hb : b = 0
    · rw [if_pos ((co0_iff hR b).mpr hb), hb, show a * 0 = 0 by grind, RO_0 hR, nI_0]
    · rw [if_neg (fun z => hb ((co0_iff hR b).mp z))]
      obtain ⟨i, i1, i2, i3⟩ := MH_log hR hM ha
      obtain ⟨j, j1, j2, j3⟩ := MH_log hR hM hb
      have hm := Nat.mod_lt (i + j) (show 0 < p ^ n - 1 by omega)
      rw [hM.2.2.1, dn1 _ (by omega)]
      rw [nI_clamp (by omega), nI_clamp (by omega), i3, j3]
      simp (disch := omega) only [gin2, gnz, nI_clamp, nI_add, pk_div, pk_mul, pk_rem2, hM.2.2.2.2.1]
      rw [g_mod hR, Lean.Grind.Semiring.pow_add, i2, j2]
theorem m_less {K : Type} [Lean.Grind.CommRing K] {p n : Nat} {X : K} {co : K → Nat} {I : gI} {R : gR} {S : gS} {N : Nat} (hR : RO K p n X co) (hM : MH p n X co I) (a b : K) (hN : 12 ≤ N) :
    f_X12_less N I R S (nI (co a)) (nI (co b)) = some (nI (co (a - b))) := by
  have hp := RO_p hR
  unfold f_X12_less
  rw [hM.1, dn1 p (by omega)]
  have h1 := RO_nk hR (c := p - 1) (by omega)
  have h2 := m_times (N := N) (R := R) (S := S) hR hM (nk (p - 1)) b
  rw [h1] at h2
  rw [h2]
  show (f_X12_add N I R S _ _).bind _ = _
  rw [m_add hR hM.1 _ _ hN]
  show some _ = _
  rw [nk_sub (by omega), RO_z hR, nk_1, show a + (0 - 1) * b = a - b by grind]
theorem m_raise {K : Type} [Lean.Grind.CommRing K] {p n : Nat} {X : K} {co : K → Nat} {I : gI} {R : gR} {S : gS} {N : Nat} (hR : RO K p n X co) (hM : MH p n X co I) (a : K) {e : Nat} (he : e < 2147483648) :
    f_X12_raise N I R S (nI (co a)) (lN e) = some (nI (co (a ^ e))) := by
  have hq := RO_q hR
  have la := RO_lt hR a
  unfold f_X12_raise
  by_cases h0 : e = 0
  · rw [if_pos ((lg_cmp_eq _ _).mpr (by rw [h0]; rfl)), h0, Lean.Grind.Semiring.pow_zero, RO_1 hR]; rfl
  · rw [if_neg (fun z => by
      have z2 := (lg_cmp_eq _ _).mp z
      exact h0 ((lN_eq he (by omega)).mp (z2.trans (show (0 : Int64) = lN 0 from rfl))))]
    by_cases ha : a = 0
    · rw [if_pos ((co0_iff hR a).mpr ha), ha, pow_0p (by omega), RO_0 hR, nI_0]
    · rw [if_neg (fun z => ha ((co0_iff hR a).mp z))]
      obtain ⟨i, i1, i2, i3⟩ := MH_log hR hM ha
      have hm := Nat.mod_lt (i * e) (show 0 < p ^ n - 1 by omega)
      have hl : i * e < 2 ^ 63 := by
        have := Nat.mul_le_mul (show i ≤ 15625 by omega) (Nat.le_of_lt he)
        omega
      rw [hM.2.2.1, dn1 _ (by omega), nI_clamp (by omega), i3, nI_l (by omega), nI_l (by omega), lN_mul, pk_lRem hl (by omega) (by omega), lN_i, nI_clamp (by omega), hM.2.2.2.2.1 _ hm, gin2 (by omega) (by omega), gin2 (by omega) (by omega), if_neg (fun z => by
        have := (lN_eq (show p ^ n - 1 < 2 ^ 31 by omega) (by omega)).mp (z.trans (show (0 : Int64) = lN 0 from rfl))
        omega)]
      rw [g_mod hR, pw_mul, i2]
theorem m_inverse {K : Type} [Lean.Grind.CommRing K] {p n : Nat} {X : K} {co : K → Nat} {I : gI} {R : gR} {S : gS} {N : Nat} (hR : RO K p n X co) (hM : MH p n X co I) {a : K} (ha : a ≠ 0) :
    f_X12_inverse N I R S (nI (co a)) = some (nI (co (a ^ (p ^ n - 2)))) := by
  have hq := RO_q hR
  have la := RO_lt hR a
  unfold f_X12_inverse
  obtain ⟨i, i1, i2, i3⟩ := MH_log hR hM ha
  have hm := Nat.mod_lt (p ^ n - 1 - i) (show 0 < p ^ n - 1 by omega)
  rw [hM.2.2.1, dn1 _ (by omega), nI_clamp (by omega), i3]
  simp (disch := omega) only [gin2, gnz, nI_clamp, pk_sub, pk_div, pk_mul, pk_rem2, hM.2.2.2.2.1]
  rw [g_mod hR]
  have h1 : el p n X (ods p n).length ^ (p ^ n - 1 - i) * a = 1 := by
    rw [← i2, ← Lean.Grind.Semiring.pow_add, show p ^ n - 1 - i + i = p ^ n - 1 by omega, (prim_ok hR).1]
  have h2 := inv_ok hR ha
  congr 3
  grind
theorem fr_k {K : Type} [Lean.Grind.CommRing K] {p n : Nat} {X : K} {co : K → Nat} (hR : RO K p n X co) (a : K) (k : Nat) : a ^ (p ^ (k % n)) = a ^ (p ^ k) := by
  have h : ∀ m (b : K), b ^ (p ^ (n * m)) = b := by
    intro m
    induction m with
    | zero => intro b; rw [Nat.mul_zero, Nat.pow_zero, Lean.Grind.Semiring.pow_one]
    | succ m ih => intro b; rw [Nat.mul_succ, Nat.pow_add, pw_mul, ih, pow_q hR]
  have e : p ^ k = p ^ (n * (k / n)) * p ^ (k % n) := by rw [← Nat.pow_add, Nat.div_add_mod]
  rw [e, pw_mul, h]
theorem m_far {K : Type} [Lean.Grind.CommRing K] {p n : Nat} {X : K} {co : K → Nat} {I : gI} {R : gR} {S : gS} {N : Nat} (hR : RO K p n X co) (hM : MH p n X co I) (a : K) {k : Nat} (hk : k < 2147483648) (hN : 12 ≤ N) :
    f_X12_far N I R S (nI (co a)) (nI k) = some (nI (co (a ^ (p ^ k)))) := by
  have hp := RO_p hR
  have hn1 := hR.2.1
  have hn6 := hR.2.2.1
  have hm := Nat.mod_lt k (show 0 < n by omega)
  rw [← fr_k hR]
  unfold f_X12_far
  rw [hM.1, hM.2.1, nI_l (by omega)]
  simp (disch := omega) only [pk_div, pk_mul, pk_rem2, gnz]
  refine iter_bind (fun i => (nI (co (a ^ (p ^ i))), nI i)) (k % n) (nI (co (a ^ (p ^ (k % n))))) ?_ ?_ ?_ (by omega) rfl
  · rw [Nat.pow_zero, Lean.Grind.Semiring.pow_one, nI_0]
  · intro i hi
    simp (disch := omega) only [gle_f, nI_1]
    rw [m_raise hR hM _ (by omega), ← pw_mul, ← Nat.pow_succ]
    rfl
  · simp (disch := omega) only [gle_t]
theorem s_in {I : gI} {R : gR} {S : gS} {N : Nat} (x lo hi : Int32) : f_X12_in N I R S x.toInt64 lo.toInt64 hi.toInt64 = some (if lo ≤ x ∧ x ≤ hi then 1 else 0) := by
  unfold f_X12_in
  have h1 : lg_cmp x.toInt64 lo.toInt64 < 0 ↔ ¬ lo ≤ x := by
    rw [lg_cmp_lt, Int64.lt_iff_toInt_lt, Int32.toInt_toInt64, Int32.toInt_toInt64, Int32.le_iff_toInt_le]; omega
  have h2 : 0 < lg_cmp x.toInt64 hi.toInt64 ↔ ¬ x ≤ hi := by
    rw [lg_cmp_gt, Int64.lt_iff_toInt_lt, Int32.toInt_toInt64, Int32.toInt_toInt64, Int32.le_iff_toInt_le]; omega
  by_cases a : lo ≤ x
  · rw [if_neg (fun z => h1.mp z a)]
    by_cases b : x ≤ hi
    · rw [if_neg (fun z => h2.mp z b), if_pos ⟨a, b⟩]
    · rw [if_pos (h2.mpr b), if_neg (fun z => b z.2)]
  · rw [if_pos (h1.mpr a), if_neg (fun z => a z.1)]
end MOps
