/-! the class's field: sums of products, folded -/
section CField
theorem iter_wp {σ ρ : Type} {b : σ → Option (σ ⊕ ρ)} (P : Nat → σ → Prop) (Q : ρ → Prop) (k : Nat) {N : Nat} {s : σ} (h0 : P 0 s) (hs : ∀ i s, i ≤ k → P i s → (∃ s', b s = some (.inl s') ∧ i < k ∧ P (i + 1) s') ∨ (∃ r, b s = some (.inr r) ∧ Q r)) (hN : k < N) : ∃ r, iter b N s = some r ∧ Q r := by
  have : ∀ j i s N, i + j = k → j < N → P i s → ∃ r, iter b N s = some r ∧ Q r := by
    intro j
    induction j with
    | zero =>
      intro i s N hi hN hp
      obtain ⟨n, rfl⟩ : ∃ n, N = n + 1 := ⟨N - 1, by omega⟩
      rcases hs i s (by omega) hp with ⟨s', _, hk, _⟩ | ⟨r, hb, hq⟩
      · omega
      · exact ⟨r, iter_end hb, hq⟩
    | succ j ih =>
      intro i s N hi hN hp
      obtain ⟨n, rfl⟩ : ∃ n, N = n + 1 := ⟨N - 1, by omega⟩
      rcases hs i s (by omega) hp with ⟨s', hb, hk, hp'⟩ | ⟨r, hb, hq⟩
      · rw [iter_go hb]
        exact ih (i + 1) s' n (by omega) (by omega) hp'
      · exact ⟨r, iter_end hb, hq⟩
  exact this k 0 s N (by omega) hN h0
theorem g0_f {τ : Type} {A B : τ} {a : Nat} (h : 0 < a) (ha : a < 2147483648) : (if nI a = 0 then A else B) = B := if_neg (nI_ne0 h ha)
theorem g0_t {τ : Type} {A B : τ} {a : Nat} (h : a = 0) : (if nI a = 0 then A else B) = A := if_pos (by rw [h, nI_0])
theorem gn_f {τ : Type} {A B : τ} {a : Nat} (h : a < 2147483648) : (if nI a < 0 then A else B) = B := if_neg (nI_pos h)
theorem dn1 (m : Nat) (h : 0 < m) : nI m - 1 = nI (m - 1) := by
  obtain ⟨k, rfl⟩ : ∃ k, m = k + 1 := ⟨m - 1, by omega⟩
  exact nI_pred k
theorem dn2 (x : Int32) : x + (-1) = x - 1 := (Int32.sub_eq_add_neg x 1).symm
theorem dn0 {τ : Type} {A B : τ} : (if (nI 0 - 1 : Int32) < 0 then A else B) = A := if_pos (by decide)
/-- products of figures, for the first i of e -/
def cvN (p n e f : Nat) : Nat → Nat → Nat
  | 0, _ => 0
  | i + 1, k => cvN p n e f i k + (if i ≤ k ∧ k < i + n then dig p e i * dig p f (k - i) else 0)
theorem s_addProduct {p n : Nat} {fo : Nat → Nat} {I : gI} {R : gR} {S : gS} {N e f : Nat} {t : Nat → Nat} (hF : FN p n fo I) (hp : 2 ≤ p) (hp5 : p ≤ 5) (hn : n ≤ 6) (he : e < 2147483648) (hf : f < 2147483648) (hN : 7 ≤ N) :
    f_X2_addProduct N (T16 I t) R S (nI e) (nI f) = some (T16 I (fun k => t k + cvN p n e f n k)) := by
  unfold f_X2_addProduct
  refine iter_bind (fun i => (nI (e / p ^ i), nI i, T16 I (fun k => t k + cvN p n e f i k))) n _ ?_ ?_ ?_ (by omega) rfl
  · simp [nI_0, cvN]
  · intro i hi
    have h1 : ∀ t, T16 I t 6 1 = nI n := fun t => (FN_T hF t).2.1
    have h0 : ∀ t, T16 I t 6 0 = nI p := fun t => (FN_T hF t).1
    have hd : e / p ^ i < 2147483648 := Nat.lt_of_le_of_lt (Nat.div_le_self _ _) he
    have hm : e / p ^ i % p < p := Nat.mod_lt _ (by omega)
    simp (disch := omega) only [h1, gle_f, h0, gnz, pk_div, pk_mul, pk_rem2, nI_1]
    simp only [div_div_pow]
    by_cases hz : e / p ^ i % p = 0
    · refine iter_bind (fun j => (nI (f / p ^ j), nI j, T16 I (fun k => t k + cvN p n e f i k))) 0 (T16 I (fun k => t k + cvN p n e f i k)) (by simp [nI_0]) (fun j hj => by omega) ?_ (by omega) ?_
      · by_cases hn0 : n = 0
        · omega
        · simp (disch := omega) only [h1, gle_f, hz, g0_t]
      · congr 5
        funext k
        simp [cvN, dig, hz]
    · refine iter_bind (fun j => (nI (f / p ^ j), nI j, T16 I (fun k => t k + cvN p n e f i k + (if i ≤ k ∧ k < i + j then dig p e i * dig p f (k - i) else 0)))) n (T16 I (fun k => t k + cvN p n e f (i + 1) k)) ?_ ?_ ?_ (by omega) rfl
      · simp only [nI_0, Nat.pow_zero, Nat.div_one]
        congr 3
        funext k
        rw [if_neg (by omega)]; rfl
      · intro j hj
        have hdf : f / p ^ j < 2147483648 := Nat.lt_of_le_of_lt (Nat.div_le_self _ _) hf
        simp (disch := omega) only [h1, gle_f, h0, gnz, g0_f, gin2, nI_add, nI_clamp, gU_ne, T16_at, pk_rem2, pk_mul, T16_up, pk_div, nI_1]
        simp only [div_div_pow]
        congr 5
        funext k
        by_cases hk : k = i + j
        · subst hk
          simp only [if_true]
          rw [if_neg (by omega), if_pos (by omega), show i + j - i = j by omega]
          simp [dig, Nat.mul_comm]
        · simp only [hk, if_false]
          by_cases hk2 : i ≤ k ∧ k < i + j
          · rw [if_pos hk2, if_pos (by omega)]
          · rw [if_neg hk2, if_neg (by omega)]
      · simp (disch := omega) only [h1, gle_t]
        simp only [cvN, Nat.add_assoc]
  · have h1 : ∀ t, T16 I t 6 1 = nI n := fun t => (FN_T hF t).2.1
    simp (disch := omega) only [h1, gle_t]
end CField
