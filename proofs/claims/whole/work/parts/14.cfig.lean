/-! rows of ints; figures of codes; what stays -/
section CFig
/-- only the cells lo to hi may differ -/
def Fr (lo hi : Nat) (I J : gI) : Prop := ∀ a, (a < lo ∨ hi < a) → J a = I a
theorem Fr_refl (lo hi : Nat) (I : gI) : Fr lo hi I I := fun _ _ => rfl
theorem Fr.trans {lo hi : Nat} {I J L : gI} (h1 : Fr lo hi I J) (h2 : Fr lo hi J L) : Fr lo hi I L := fun a h => (h2 a h).trans (h1 a h)
theorem Fr.mono {lo hi lo' hi' : Nat} {I J : gI} (h : Fr lo hi I J) (h1 : lo' ≤ lo) (h2 : hi ≤ hi') : Fr lo' hi' I J := fun a ha => h a (by omega)
theorem Fr_gU {lo hi : Nat} {I : gI} {q k : Nat} {v : Int32} (h1 : lo ≤ q) (h2 : q ≤ hi) : Fr lo hi I (gU I q k v) := fun a ha => gU_cell I k v (by omega)
def Aw (I : gI) (q L : Nat) (f : Nat → Int32) : gI := fun a j => if a = q ∧ j < L then f j else I a j
theorem Aw_at {I : gI} {q L : Nat} {f : Nat → Int32} {j : Nat} (h : j < L) : Aw I q L f q j = f j := if_pos ⟨rfl, h⟩
theorem Aw_ne {I : gI} {q L : Nat} {f : Nat → Int32} {a : Nat} (j : Nat) (h : a ≠ q) : Aw I q L f a j = I a j := if_neg fun x => h x.1
theorem Aw_out {I : gI} {q L : Nat} {f : Nat → Int32} {a : Nat} {j : Nat} (h : L ≤ j) : Aw I q L f a j = I a j := if_neg fun x => by omega
theorem Aw_row {I : gI} {q L : Nat} {f : Nat → Int32} {a : Nat} (h : a ≠ q) : Aw I q L f a = I a := funext fun j => Aw_ne j h
theorem Aw_up {I : gI} {q L k : Nat} {f : Nat → Int32} {v : Int32} (h : k < L) : gU (Aw I q L f) q k v = Aw I q L (fun j => if j = k then v else f j) := by
  funext a j
  unfold gU Aw
  by_cases h1 : a = q ∧ j = k
  · rw [if_pos h1, if_pos ⟨h1.1, by omega⟩]
    show v = (if j = k then v else f j)
    rw [if_pos h1.2]
  · rw [if_neg h1]
    by_cases h2 : a = q ∧ j < L
    · rw [if_pos h2, if_pos h2]
      show f j = (if j = k then v else f j)
      rw [if_neg (fun z => h1 ⟨h2.1, z⟩)]
    · rw [if_neg h2, if_neg h2]
theorem Aw_self (I : gI) (q L : Nat) : Aw I q L (I q) = I := by
  funext a j
  unfold Aw
  split
  · rename_i h; rw [h.1]
  · rfl
theorem Fr_Aw {lo hi : Nat} {I : gI} {q L : Nat} {f : Nat → Int32} (h1 : lo ≤ q) (h2 : q ≤ hi) : Fr lo hi I (Aw I q L f) := fun a ha => Aw_row (by omega)
theorem gLn_of {S : gS} {q L : Nat} (h : S[q]? = some (12, L)) : gLn S q = L := by unfold gLn; rw [h]; rfl
theorem gAr_of {S : gS} {q L : Nat} (h : S[q]? = some (12, L)) : gAr S q = true := by unfold gAr; rw [h]; rfl
theorem s_fill {I : gI} {R : gR} {S : gS} {N q L : Nat} {v : Int32} (hS : S[q]? = some (12, L)) (hL : L < 2147483648) (hN : L < N) : f_J7_fill_53178 N I R S q v = some (Aw I q L (fun _ => v)) := by
  unfold f_J7_fill_53178
  rw [gAr_of hS, if_neg (by decide), gLn_of hS]
  refine iter_bind (fun k => (nI k, Aw I q L (fun j => if j < k then v else I q j))) L (Aw I q L (fun _ => v)) ?_ ?_ ?_ hN rfl
  · rw [nI_0]
    simp [Aw_self]
  · intro i hi
    have h1 : (Int32.ofNat L) = nI L := rfl
    simp (disch := omega) only [h1, gle_f, nI_clamp, gin2, Aw_up, nI_1]
    congr 4
    funext j
    by_cases h : j = i
    · rw [if_pos h, if_pos (by omega)]
    · rw [if_neg h]
      by_cases h2 : j < i
      · rw [if_pos h2, if_pos (by omega)]
      · rw [if_neg h2, if_neg (by omega)]
  · have h1 : (Int32.ofNat L) = nI L := rfl
    simp (disch := omega) only [h1, gle_t]
    congr 2
    funext a j
    unfold Aw
    by_cases h : a = q ∧ j < L
    · rw [if_pos h, if_pos h]; exact if_pos h.2
    · rw [if_neg h, if_neg h]
theorem s_split {p n : Nat} {I : gI} {R : gR} {S : gS} {N q e : Nat} (h0 : I 6 0 = nI p) (h1 : I 6 1 = nI n) (hp : 2 ≤ p) (hp5 : p ≤ 5) (hn : n ≤ 6) (hq : q ≠ 6) (hL : n ≤ gLn S q) (hL2 : gLn S q < 2147483648) (he : e < 2147483648) (hN : 7 ≤ N) : f_X2_split N I R S (nI e) q = some (Aw I q n (fun j => nI (dig p e j))) := by
  unfold f_X2_split
  have k0 : ∀ f, Aw I q n f 6 0 = nI p := fun f => by rw [Aw_ne _ (Ne.symm hq)]; exact h0
  have k1 : ∀ f, Aw I q n f 6 1 = nI n := fun f => by rw [Aw_ne _ (Ne.symm hq)]; exact h1
  refine iter_bind (fun k => (nI (e / p ^ k), nI k, Aw I q n (fun j => if j < k then nI (dig p e j) else I q j))) n (Aw I q n (fun j => nI (dig p e j))) ?_ ?_ ?_ (by omega) rfl
  · rw [nI_0]
    simp [Aw_self]
  · intro i hi
    have hd : e / p ^ i < 2147483648 := Nat.lt_of_le_of_lt (Nat.div_le_self _ _) he
    simp (disch := omega) only [k0, k1, gle_f, gnz, nI_clamp, gin2, pk_div, pk_mul, pk_rem2, Aw_up, nI_1]
    simp only [div_div_pow]
    congr 5
    funext j
    by_cases h : j = i
    · rw [if_pos h, if_pos (by omega), h]; rfl
    · rw [if_neg h]
      by_cases h2 : j < i
      · rw [if_pos h2, if_pos (by omega)]
      · rw [if_neg h2, if_neg (by omega)]
  · simp (disch := omega) only [k1, gle_t]
    congr 2
    funext a j
    unfold Aw
    by_cases h : a = q ∧ j < n
    · rw [if_pos h, if_pos h]; exact if_pos h.2
    · rw [if_neg h, if_neg h]
theorem s_packed {p n : Nat} {I : gI} {R : gR} {S : gS} {N q : Nat} {d : Nat → Nat} (h0 : I 6 0 = nI p) (h1 : I 6 1 = nI n) (hn : n ≤ 6) (hd : ∀ j, j < n → I q j = nI (d j)) (hL : n ≤ gLn S q) (hL2 : gLn S q < 2147483648) (hN : 8 ≤ N) : f_X2_packed N I R S q = some (nI (enc p n d)) := by
  unfold f_X2_packed
  rw [h0, h1]
  refine iter_bind (fun i => (nI (enc p i (fun j => d (n - i + j))), nI (n - i) - 1)) n (nI (enc p n d)) ?_ ?_ ?_ (by omega) rfl
  · simp only [Nat.sub_zero, enc, nI_0]
  · intro i hi
    rw [dn1 (n - i) (by omega)]
    simp (disch := omega) only [gn_f, nI_clamp, gin2, hd, pk_mul, nI_add]
    rw [dn2, show n - (i + 1) = n - i - 1 by omega, enc_first, Nat.mul_comm, Nat.add_comm, Nat.add_zero]
    congr 6
    refine enc_congr (fun j hj => ?_)
    rw [show n - i - 1 + (j + 1) = n - i + j by omega]
  · simp only [Nat.sub_self, dn0, Nat.zero_add]
theorem s_numberAt {p : Nat} {I : gI} {R : gR} {S : gS} {N a i : Nat} (h0 : I 6 0 = nI p) (h7 : ∀ i, i < 8 → I 7 i = nI (p ^ i)) (hp : 2 ≤ p) (hp5 : p ≤ 5) (hi : i < 8) (ha : a < 2147483648) : f_X2_numberAt N I R S (nI a) (nI i) = some (nI (dig p a i)) := by
  unfold f_X2_numberAt
  have h1 : p ^ i < 2147483648 := Nat.lt_of_le_of_lt (Nat.le_trans (Nat.pow_le_pow_left hp5 i) (Nat.pow_le_pow_right (by omega) (show i ≤ 7 by omega))) (by decide)
  have h2 : 0 < p ^ i := Nat.pow_pos (by omega)
  have h3 : a / p ^ i < 2147483648 := Nat.lt_of_le_of_lt (Nat.div_le_self _ _) ha
  rw [nI_clamp (by omega), h7 i hi, h0]
  simp (disch := omega) only [gin2, gnz, pk_div, pk_mul, pk_rem2]
  rfl
/-- how many figures a code has -/
def Ln (p a D : Nat) : Prop := a < p ^ D ∧ (0 < D → p ^ (D - 1) ≤ a)
theorem Ln_some {p a M : Nat} (hM : a < p ^ M) : ∃ D, D ≤ M ∧ Ln p a D := by
  induction M with
  | zero => exact ⟨0, Nat.le_refl _, hM, fun h => absurd h (by omega)⟩
  | succ M ih =>
    by_cases h : a < p ^ M
    · obtain ⟨D, h1, h2⟩ := ih h
      exact ⟨D, by omega, h2⟩
    · exact ⟨M + 1, Nat.le_refl _, hM, fun _ => by rw [Nat.add_sub_cancel]; omega⟩
theorem Ln_le {p a D i : Nat} (hp : 2 ≤ p) (h : Ln p a D) : p ^ i ≤ a ↔ i < D := by
  constructor
  · intro h1
    apply Classical.byContradiction
    intro h2
    have := Nat.pow_le_pow_right (show 0 < p by omega) (show D ≤ i by omega)
    have := h.1
    omega
  · intro h1
    exact Nat.le_trans (Nat.pow_le_pow_right (by omega) (show i ≤ D - 1 by omega)) (h.2 (by omega))
theorem Ln_uniq {p a D E : Nat} (hp : 2 ≤ p) (h : Ln p a D) (h' : Ln p a E) : D = E := by
  rcases Nat.lt_trichotomy D E with h1 | h1 | h1
  · have := (Ln_le hp h').mpr h1
    have := h.1
    omega
  · exact h1
  · have := (Ln_le hp h).mpr h1
    have := h'.1
    omega
theorem s_degreeOf {p : Nat} {I : gI} {R : gR} {S : gS} {N a D : Nat} (h7 : ∀ i, i < 8 → I 7 i = nI (p ^ i)) (hp : 2 ≤ p) (hp5 : p ≤ 5) (ha : a < 2147483648) (hD : Ln p a D) (hD7 : D ≤ 7) (hN : 8 ≤ N) : f_X2_degreeOf N I R S (nI a) = some (nI D - 1) := by
  unfold f_X2_degreeOf
  refine iter_bind (fun i => (nI (min i D) - 1, nI i)) 7 (nI D - 1) ?_ ?_ ?_ (by omega) rfl
  · rw [Nat.zero_min]; rfl
  · intro i hi
    have h1 : p ^ i < 2147483648 := Nat.lt_of_le_of_lt (Nat.le_trans (Nat.pow_le_pow_left hp5 i) (Nat.pow_le_pow_right (by omega) (show i ≤ 7 by omega))) (by decide)
    rw [show (6 : Int32) = nI 6 from rfl]
    simp (disch := omega) only [glt_f, nI_clamp, gin2, h7, nI_1]
    by_cases h2 : i < D
    · have := (Ln_le hp hD).mpr h2
      rw [glt_f this ha, Nat.min_eq_left (by omega), dn1 (i + 1) (by omega)]
      rfl
    · have : a < p ^ i := Nat.lt_of_lt_of_le hD.1 (Nat.pow_le_pow_right (by omega) (by omega))
      rw [glt_t this h1, Nat.min_eq_right (by omega), Nat.min_eq_right (by omega)]
  · rw [show (6 : Int32) = nI 6 from rfl]
    simp (disch := omega) only [glt_t]
    rw [Nat.min_eq_right hD7]
theorem FH_of {K : Type} [Lean.Grind.CommRing K] {p n : Nat} {X : K} {co : K → Nat} {I J : gI} (hF : FH p n X co I) (hn : n ≤ 6) (h : ∀ a, 6 ≤ a → a ≤ 16 → J a = I a) : FH p n X co J := by
  refine ⟨⟨⟨?_, ?_, ?_⟩, ?_⟩, ?_, ?_, ?_, ?_⟩
  · rw [h 6 (by omega) (by omega)]; exact hF.1.1.1
  · rw [h 6 (by omega) (by omega)]; exact hF.1.1.2.1
  · rw [h 8 (by omega) (by omega)]; exact hF.1.1.2.2
  · rw [h 16 (by omega) (by omega)]; exact hF.1.2
  · rw [h 6 (by omega) (by omega)]; exact hF.2.1
  · rw [h 6 (by omega) (by omega)]; exact hF.2.2.1
  · rw [h 7 (by omega) (by omega)]; exact hF.2.2.2.1
  · intro i j hi hj
    rw [h (10 + i) (by omega) (by omega)]; exact hF.2.2.2.2 i j hi hj
theorem FH_fr {K : Type} [Lean.Grind.CommRing K] {p n : Nat} {X : K} {co : K → Nat} {I J : gI} {lo hi : Nat} (hF : FH p n X co I) (hR : RO K p n X co) (h : Fr lo hi I J) (hl : 16 < lo) : FH p n X co J := FH_of hF hR.2.2.1 (fun a h1 h2 => h a (by omega))
end CFig
