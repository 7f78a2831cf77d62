/-! THE FIELD of the class, as its functions have it -/
/-- the numbers of the class's field that never change once it is made -/
def FN (p n : Nat) (fo : Nat → Nat) (I : gI) : Prop := I 6 0 = nI p ∧ I 6 1 = nI n ∧ ∀ i, i < n → I 8 i = nI (fo i)
theorem FN_T {p n : Nat} {fo : Nat → Nat} {I : gI} (h : FN p n fo I) (t : Nat → Nat) : FN p n fo (T16 I t) := ⟨by rw [T16_ne _ _ _ (by decide)]; exact h.1, by rw [T16_ne _ _ _ (by decide)]; exact h.2.1, fun i hi => by rw [T16_ne _ _ _ (by decide)]; exact h.2.2 i hi⟩
theorem div_div_pow (p a i : Nat) : a / p ^ i / p = a / p ^ (i + 1) := by rw [Nat.div_div_eq_div_mul, Nat.pow_succ]
set_option maxRecDepth 10000 in
theorem s_addTimes {p n : Nat} {fo : Nat → Nat} {I : gI} {R : gR} {S : gS} {N e c : Nat} {t : Nat → Nat} (hF : FN p n fo I) (hp : 2 ≤ p) (hp5 : p ≤ 5) (hn : n ≤ 6) (he : e < 2147483648) (hN : 7 ≤ N) :
    f_X2_addTimes N (T16 I t) R S (nI e) (nI c) = some (T16 I (fun j => if j < n then t j + dig p e j * c else t j)) := by
  unfold f_X2_addTimes
  have key := iter_count (b := fun z1 : Int32 × Int32 × gI => (if (z1.2.2 6 1) ≤ z1.2.1 then some (Sum.inr z1.2.2) else if z1.2.1 < 0 ∨ 12 ≤ z1.2.1.toNatClampNeg then none else if (z1.2.2 6 0) = 0 then none else if z1.2.1 < 0 ∨ 12 ≤ z1.2.1.toNatClampNeg then none else if ((gU z1.2.2 16 z1.2.1.toNatClampNeg ((z1.2.2 16 z1.2.1.toNatClampNeg) + ((z1.1 - z1.1 / (z1.2.2 6 0) * (z1.2.2 6 0)) * nI c))) 6 0) = 0 then none else some (.inl (z1.1 / ((gU z1.2.2 16 z1.2.1.toNatClampNeg ((z1.2.2 16 z1.2.1.toNatClampNeg) + ((z1.1 - z1.1 / (z1.2.2 6 0) * (z1.2.2 6 0)) * nI c))) 6 0), z1.2.1 + 1, gU z1.2.2 16 z1.2.1.toNatClampNeg ((z1.2.2 16 z1.2.1.toNatClampNeg) + ((z1.1 - z1.1 / (z1.2.2 6 0) * (z1.2.2 6 0)) * nI c))))))
    (r := T16 I (fun j => if j < n then t j + dig p e j * c else t j)) (fun k => (nI (e / p ^ k), nI k, T16 I (fun j => if j < k then t j + dig p e j * c else t j))) n ?_ ?_ (N := N) (by omega)
  · have e0 : (nI (e / p ^ 0), nI 0, T16 I (fun j => if j < 0 then t j + dig p e j * c else t j)) = (nI e, (0 : Int32), T16 I t) := by
      simp [nI_0]
    rw [e0] at key
    rw [key]
    rfl
  · intro i hi
    have h1 := (FN_T hF (fun j => if j < i then t j + dig p e j * c else t j)).2.1
    have h0 := (FN_T hF (fun j => if j < i then t j + dig p e j * c else t j)).1
    have hd : e / p ^ i < 2147483648 := Nat.lt_of_le_of_lt (Nat.div_le_self _ _) he
    dsimp only
    rw [h1, gle_f (by omega) (by omega), gin (by omega) (by omega), h0, gnz (by omega) (by omega), gin (by omega) (by omega), nI_clamp (by omega), gU_ne _ _ _ _ (by decide), h0, gnz (by omega) (by omega), T16_at _ _ (by omega), pk_rem hd (by omega) (by omega), pk_mul, nI_add, T16_up _ _ _ (by omega), pk_div hd (by omega) (by omega), div_div_pow, nI_1]
    congr 5
    funext j
    by_cases h : j = i
    · subst h
      simp [dig]
    · by_cases h2 : j < i
      · simp [h, h2, Nat.lt_succ_of_lt h2]
      · simp [h, h2, show ¬ j < i + 1 by omega]
  · have h1 := (FN_T hF (fun j => if j < n then t j + dig p e j * c else t j)).2.1
    dsimp only
    rw [h1, gle_t (Nat.le_refl _) (by omega)]
