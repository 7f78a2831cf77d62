/-! THE FIELD of the class, as its functions have it -/
/-- the numbers of the class's field that never change once it is made -/
def FN (p n : Nat) (fo : Nat → Nat) (I : gI) : Prop := I 6 0 = nI p ∧ I 6 1 = nI n ∧ ∀ i, i < n → I 8 i = nI (fo i)
theorem FN_T {p n : Nat} {fo : Nat → Nat} {I : gI} (h : FN p n fo I) (t : Nat → Nat) : FN p n fo (T16 I t) := ⟨by rw [T16_ne _ _ _ (by decide)]; exact h.1, by rw [T16_ne _ _ _ (by decide)]; exact h.2.1, fun i hi => by rw [T16_ne _ _ _ (by decide)]; exact h.2.2 i hi⟩
theorem div_div_pow (p a i : Nat) : a / p ^ i / p = a / p ^ (i + 1) := by rw [Nat.div_div_eq_div_mul, Nat.pow_succ]
theorem s_addTimes {p n : Nat} {fo : Nat → Nat} {I : gI} {R : gR} {S : gS} {N e c : Nat} {t : Nat → Nat} (hF : FN p n fo I) (hp : 2 ≤ p) (hp5 : p ≤ 5) (hn : n ≤ 6) (he : e < 2147483648) (hN : 7 ≤ N) :
    f_X2_addTimes N (T16 I t) R S (nI e) (nI c) = some (T16 I (fun j => if j < n then t j + dig p e j * c else t j)) := by
  unfold f_X2_addTimes
  refine iter_bind (fun k => (nI (e / p ^ k), nI k, T16 I (fun j => if j < k then t j + dig p e j * c else t j))) n _ ?_ ?_ ?_ (by omega) rfl
  · simp [nI_0]
  · intro i hi
    have h1 := (FN_T hF (fun j => if j < i then t j + dig p e j * c else t j)).2.1
    have h0 := (FN_T hF (fun j => if j < i then t j + dig p e j * c else t j)).1
    have hd : e / p ^ i < 2147483648 := Nat.lt_of_le_of_lt (Nat.div_le_self _ _) he
    simp (disch := omega) only [h1, gle_f, gin2, h0, gnz, nI_clamp, gU_ne, T16_at, pk_rem2, pk_mul, nI_add, T16_up, pk_div, nI_1]
    simp only [div_div_pow]
    congr 5
    funext j
    by_cases h : j = i
    · subst h
      simp [dig]
    · by_cases h2 : j < i
      · simp [h, h2, Nat.lt_succ_of_lt h2]
      · simp [h, h2, show ¬ j < i + 1 by omega]
  · have h1 := (FN_T hF (fun j => if j < n then t j + dig p e j * c else t j)).2.1
    simp (disch := omega) only [h1, gle_t]
