/-! numbers: ints that are small naturals, guards, counters -/
theorem gin {τ : Type} {A : Option τ} {i n : Nat} (h : i < n) (hn : n ≤ 2147483648) : (if nI i < 0 ∨ n ≤ (nI i).toNatClampNeg then none else A) = A := by
  rw [nI_clamp (by omega)]
  exact if_neg (fun z => z.elim (fun z => nI_pos (by omega) z) (fun z => by omega))
theorem gnz {τ : Type} {A : Option τ} {p : Nat} (h : 0 < p) (hp : p < 2147483648) : (if nI p = 0 then none else A) = A := if_neg (nI_ne0 h hp)
theorem gle_t {τ : Type} {A B : τ} {a b : Nat} (h : a ≤ b) (hb : b < 2147483648) : (if nI a ≤ nI b then A else B) = A := if_pos (nI_le h hb)
theorem gle_f {τ : Type} {A B : τ} {a b : Nat} (h : b < a) (ha : a < 2147483648) : (if nI a ≤ nI b then A else B) = B := if_neg (nI_ge h ha)
theorem glt_t {τ : Type} {A B : τ} {a b : Nat} (h : a < b) (hb : b < 2147483648) : (if nI a < nI b then A else B) = A := if_pos (nI_lt h hb)
theorem glt_f {τ : Type} {A B : τ} {a b : Nat} (h : b ≤ a) (ha : a < 2147483648) : (if nI a < nI b then A else B) = B := if_neg (nI_nlt h ha)
theorem geq_t {τ : Type} {A B : τ} {a b : Nat} (h : a = b) : (if nI a = nI b then A else B) = A := if_pos (by rw [h])
theorem geq_f {τ : Type} {A B : τ} {a b : Nat} (h : a ≠ b) (ha : a < 2147483648) (hb : b < 2147483648) : (if nI a = nI b then A else B) = B := if_neg (fun z => h ((nI_eq ha hb).mp z))
theorem gU_ne {α : Type} (I : Nat → Nat → α) {q a : Nat} (k j : Nat) (v : α) (h : a ≠ q) : gU I q k v a j = I a j := if_neg fun x => h x.1
/-- figure i of a code -/
def dig (p a i : Nat) : Nat := a / p ^ i % p
theorem dig_lt {p : Nat} (hp : 0 < p) (a i : Nat) : dig p a i < p := Nat.mod_lt _ hp
/-- the row of totals holds t -/
def T16 (I : gI) (t : Nat → Nat) : gI := fun a j => if a = 16 ∧ j < 12 then nI (t j) else I a j
theorem T16_up (I : gI) (t : Nat → Nat) {k : Nat} (v : Nat) (hk : k < 12) : gU (T16 I t) 16 k (nI v) = T16 I (fun j => if j = k then v else t j) := by
  funext a j
  unfold gU T16
  by_cases h : a = 16 ∧ j = k
  · rw [if_pos h, if_pos ⟨h.1, by omega⟩]
    show nI v = nI (if j = k then v else t j)
    rw [if_pos h.2]
  · rw [if_neg h]
    by_cases h2 : a = 16 ∧ j < 12
    · rw [if_pos h2, if_pos h2]
      show nI (t j) = nI (if j = k then v else t j)
      rw [if_neg (fun z => h ⟨h2.1, z⟩)]
    · rw [if_neg h2, if_neg h2]
theorem T16_at (I : gI) (t : Nat → Nat) {k : Nat} (hk : k < 12) : T16 I t 16 k = nI (t k) := if_pos ⟨rfl, hk⟩
theorem T16_ne (I : gI) (t : Nat → Nat) {a : Nat} (j : Nat) (h : a ≠ 16) : T16 I t a j = I a j := if_neg fun z => h z.1
/-- a loop that counts, and what comes behind it -/
theorem iter_bind {σ ρ τ : Type} {b : σ → Option (σ ⊕ ρ)} {K : ρ → Option τ} {N : Nat} {s : σ} {x : Option τ} (f : Nat → σ) (k : Nat) (r : ρ) (h0 : s = f 0) (hs : ∀ i, i < k → b (f i) = some (.inl (f (i + 1)))) (he : b (f k) = some (.inr r)) (hN : k < N) (hK : K r = x) : (iter b N s).bind K = x := by
  rw [h0, iter_count f k hs he hN]
  exact hK
theorem gin2 {τ : Type} {A : Option τ} {i n : Nat} (h : i < n) (hn : n ≤ 2147483648) : (if nI i < 0 ∨ n ≤ i then none else A) = A :=
  if_neg (fun z => z.elim (fun z => nI_pos (by omega) z) (fun z => by omega))
theorem pk_rem2 (a d : Nat) : nI a - nI (a / d * d) = nI (a % d) := by
  rw [pk_sub (Nat.div_mul_le_self a d)]
  congr 1
  have := Nat.div_add_mod a d
  rw [Nat.mul_comm] at this
  omega
