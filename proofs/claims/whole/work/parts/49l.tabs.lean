/-! the model is made: its tables -/
section MTabs
theorem pw_ne {K : Type} [Lean.Grind.CommRing K] {p n : Nat} {X : K} {co : K → Nat} (hR : RO K p n X co) {g : K} {d : Nat} (hd : ∀ k, 0 < k → k < d → g ^ k ≠ 1) (hg : g ≠ 0) {i j : Nat} (hij : i < j) (hj : j < d) : g ^ i ≠ g ^ j := fun e => by
  refine hd (j - i) (by omega) (by omega) ?_
  have a3 : g ^ j = g ^ i * g ^ (j - i) := by rw [← Lean.Grind.Semiring.pow_add]; congr 1; omega
  have h1 := inv_ok hR (frk_ne hR hg i)
  rw [a3] at e
  generalize g ^ i = x at *
  generalize g ^ (j - i) = y at *
  generalize x ^ (p ^ n - 2) = z at *
  grind
/-- the tables hold the powers of g, the first k of them -/
def TB {K : Type} [Lean.Grind.CommRing K] (co : K → Nat) (g : K) (k : Nat) (J : gI) : Prop := (∀ l, l < k → J 96 l = nI (co (g ^ l))) ∧ ∀ l, l < k → J 97 (co (g ^ l)) = nI l
theorem m_order {K : Type} [Lean.Grind.CommRing K] {p n : Nat} {X : K} {co : K → Nat} {I : gI} {R : gR} {S : gS} {N g d : Nat} (hR : RO K p n X co) (h2 : I 91 2 = nI p) (h3 : I 91 3 = nI n) (h5 : I 91 5 = nI (mo p n)) (hS : ∀ q, 92 ≤ q → q ≤ 95 → S[q]? = some (12, 16)) (hg0 : 0 < g) (hg : g < p ^ n) (hd0 : 0 < d) (hdq : d ≤ p ^ n - 1) (hd1 : el p n X g ^ d = 1) (hd : ∀ k, 0 < k → k < d → el p n X g ^ k ≠ 1) (hN : 16000 ≤ N) :
    ∃ r, (iter (σ := Int32 × Int32 × Int32 × gI) (ρ := Int32 × gI) (fun z33 => (if z33.2.2.1 = 0 then some (.inr (z33.2.1, z33.2.2.2)) else if z33.2.1 < 0 ∨ 15625 ≤ z33.2.1.toNatClampNeg then none else if z33.1 < 0 ∨ 15625 ≤ z33.1.toNatClampNeg then none else ((f_X12_slow N (gU (gU z33.2.2.2 96 z33.2.1.toNatClampNeg z33.1) 97 z33.1.toNatClampNeg z33.2.1) R S z33.1 (nI g)).bind (fun z35 => (if z35.1 = (1 : Int32) then some (.inl (z35.1, z33.2.1 + 1, (0 : Int32), z35.2)) else some (.inl (z35.1, z33.2.1 + 1, (1 : Int32), z35.2))))))) N ((1 : Int32), (0 : Int32), (1 : Int32), I)) = some r ∧ ∃ J, r = (nI d, J) ∧ Fs [92, 93, 94, 95, 96, 97] I J ∧ TB co (el p n X g) d J := by
  have hq := RO_q hR
  have hco := RO_co hR hg
  have hgne : el p n X g ≠ 0 := fun e => by
    rw [e, RO_0 hR] at hco
    omega
  generalize el p n X g = γ at *
  refine iter_wp (fun k s => ∃ J, s = (nI (co (γ ^ k)), nI k, (if k < d then 1 else 0), J) ∧ Fs [92, 93, 94, 95, 96, 97] I J ∧ TB co γ k J) _ d ⟨I, by rw [Lean.Grind.Semiring.pow_zero, RO_1 hR, if_pos hd0, nI_0]; rfl, Fs_refl _ _, fun l hl => by omega, fun l hl => by omega⟩ ?_ (by omega)
  rintro k _ hk ⟨J, rfl, d1, d2, d3⟩
  dsimp only
  by_cases hkd : k = d
  · subst hkd
    rw [if_neg (Nat.lt_irrefl k), if_pos rfl]
    exact .inr ⟨_, rfl, J, rfl, d1, d2, d3⟩
  refine .inl ?_
  have hlt := RO_lt hR (γ ^ k)
  rw [if_pos (show k < d by omega), if_neg (by decide), nI_clamp (show k < _ by omega), gin2 (by omega) (by omega), nI_clamp (show co (γ ^ k) < _ by omega), gin2 (by omega) (by omega), ← hco]
  obtain ⟨J1, hJ1⟩ : ∃ J1, J1 = gU (gU J 96 k (nI (co (γ ^ k)))) 97 (co (γ ^ k)) (nI k) := ⟨_, rfl⟩
  have hJ1f : Fs [92, 93, 94, 95, 96, 97] I J1 := by rw [hJ1]; exact d1.trans ((Fs_gU (by decide)).trans (Fs_gU (by decide)))
  have hT1 : TB co γ (k + 1) J1 := by
    constructor
    · intro l hl
      rw [hJ1, gU_ne _ _ _ _ (by decide)]
      by_cases e : l = k
      · rw [e, gU_at]
      · rw [gU_slot _ _ _ e]; exact d2 l (by omega)
    · intro l hl
      rw [hJ1]
      by_cases e : l = k
      · rw [e, gU_at]
      · rw [gU_slot _ _ _ (fun z => pw_ne hR hd hgne (show l < k by omega) (by omega) (RO_inj hR z)), gU_ne _ _ _ _ (by decide)]; exact d3 l (by omega)
  rw [← hJ1]
  obtain ⟨y, y1, J2, rfl, y3⟩ := m_slow (N := N) (R := R) (S := S) (I := J1) hR (by rw [hJ1f 91 (by decide)]; exact h2) (by rw [hJ1f 91 (by decide)]; exact h3) (by rw [hJ1f 91 (by decide)]; exact h5) hS (γ ^ k) γ (by omega)
  rw [y1, Option.bind_some, ← Lean.Grind.Semiring.pow_succ]
  dsimp only
  have hT2 : TB co γ (k + 1) J2 := ⟨fun l hl => by rw [y3 96 (by decide)]; exact hT1.1 l hl, fun l hl => by rw [y3 97 (by decide)]; exact hT1.2 l hl⟩
  have hF2 : Fs [92, 93, 94, 95, 96, 97] I J2 := hJ1f.trans (y3.mono (by decide))
  rw [nI_1]
  by_cases he : k + 1 = d
  · refine ⟨_, if_pos ?_, by omega, J2, ?_, hF2, hT2⟩
    · rw [he, hd1, RO_1 hR]; rfl
    · rw [if_neg (show ¬ k + 1 < d by omega)]
  · refine ⟨_, if_neg (fun z => ?_), by omega, J2, ?_, hF2, hT2⟩
    · have h8 := RO_lt hR (γ ^ (k + 1))
      have h9 : co (γ ^ (k + 1)) = 1 := (nI_eq (a := co (γ ^ (k + 1))) (b := 1) (by omega) (by omega)).mp z
      exact hd (k + 1) (by omega) (by omega) (RO_inj hR (by rw [h9, RO_1 hR]))
    · rw [if_pos (show k + 1 < d by omega)]
theorem m_tables {K : Type} [Lean.Grind.CommRing K] {p n : Nat} {X : K} {co : K → Nat} {I : gI} {R : gR} {S : gS} {N : Nat} (hR : RO K p n X co) (h2 : I 91 2 = nI p) (h3 : I 91 3 = nI n) (h4 : I 91 4 = nI (p ^ n)) (h5 : I 91 5 = nI (mo p n)) (hS : ∀ q, 92 ≤ q → q ≤ 95 → S[q]? = some (12, 16)) (hN : 16000 ≤ N) :
    ∃ J, (iter (σ := Int32 × Int32 × gI) (ρ := gI) (fun z31 => (if (z31.2.2 91 4) ≤ z31.2.1 then some (.inr z31.2.2) else (if z31.1 = 0 then ((iter (σ := Int32 × Int32 × Int32 × gI) (ρ := Int32 × gI) (fun z33 => (if z33.2.2.1 = 0 then some (.inr (z33.2.1, z33.2.2.2)) else if z33.2.1 < 0 ∨ 15625 ≤ z33.2.1.toNatClampNeg then none else if z33.1 < 0 ∨ 15625 ≤ z33.1.toNatClampNeg then none else ((f_X12_slow N (gU (gU z33.2.2.2 96 z33.2.1.toNatClampNeg z33.1) 97 z33.1.toNatClampNeg z33.2.1) R S z33.1 z31.2.1).bind (fun z35 => (if z35.1 = (1 : Int32) then some (.inl (z35.1, z33.2.1 + 1, (0 : Int32), z35.2)) else some (.inl (z35.1, z33.2.1 + 1, (1 : Int32), z35.2))))))) N ((1 : Int32), (0 : Int32), (1 : Int32), z31.2.2)).bind (fun r34 => (if r34.1 = ((r34.2 91 4) - (1 : Int32)) then some (.inl ((1 : Int32), z31.2.1 + 1, r34.2)) else some (.inl ((0 : Int32), z31.2.1 + 1, r34.2))))) else some (.inr z31.2.2)))) N ((0 : Int32), (1 : Int32), I)) = some J ∧ Fs [92, 93, 94, 95, 96, 97] I J ∧ TB co (el p n X (ods p n).length) (p ^ n - 1) J := by
  have hq := RO_q hR
  obtain ⟨l0, o1, o2, o3, _, _⟩ := ods_fact hR.1 hR.2.1 hR.2.2.1
  have hlen : (ods p n).length ≤ 20 := by
    have h6 := hR.2.2.1
    have h1 := hR.2.1
    rcases hR.1 with e | e | e <;> subst e <;> (rcases (show n = 1 ∨ n = 2 ∨ n = 3 ∨ n = 4 ∨ n = 5 ∨ n = 6 by omega) with rfl | rfl | rfl | rfl | rfl | rfl) <;> decide
  have hbnd : ∀ i, i < (ods p n).length → (ods p n).getD i 0 ≤ 100000 := by
    have h6 := hR.2.2.1
    have h1 := hR.2.1
    have : (List.range (ods p n).length).all (fun i => decide ((ods p n).getD i 0 ≤ 100000)) = true := by
      rcases hR.1 with e | e | e <;> subst e <;> (rcases (show n = 1 ∨ n = 2 ∨ n = 3 ∨ n = 4 ∨ n = 5 ∨ n = 6 by omega) with rfl | rfl | rfl | rfl | rfl | rfl) <;> decide
    exact fun i hi => of_decide_eq_true (List.all_eq_true.mp this i (List.mem_range.mpr hi))
  refine iter_wp (fun i s => ∃ J, s = ((if i = (ods p n).length then 1 else 0), nI (i + 1), J) ∧ Fs [92, 93, 94, 95, 96, 97] I J ∧ (i = (ods p n).length → TB co (el p n X (ods p n).length) (p ^ n - 1) J)) _ (ods p n).length ⟨I, by rw [if_neg (by omega)]; rfl, Fs_refl _ _, fun e => by omega⟩ ?_ (by omega)
  rintro i _ hi ⟨J, rfl, d1, d2⟩
  have j4 : J 91 4 = nI (p ^ n) := by rw [d1 91 (by decide)]; exact h4
  dsimp only
  simp only [j4]
  by_cases hie : i = (ods p n).length
  · refine .inr ⟨J, ?_, d1, d2 hie⟩
    simp only [if_pos hie]
    split
    · rfl
    · exact if_neg (by decide)
  refine .inl ?_
  obtain ⟨q1, q2, q3, q4⟩ := ord_ok hR (hbnd i (by omega)) (o1 i (by omega))
  have hgne : el p n X (i + 1) ≠ 0 := fun e => by
    have := RO_co hR q2
    rw [e, RO_0 hR] at this
    omega
  have hdq : (ods p n).getD i 0 ≤ p ^ n - 1 := by
    apply Classical.byContradiction
    intro hn
    exact q4 (p ^ n - 1) (by omega) (by omega) (fermat hR hgne)
  simp only [if_neg hie]
  rw [gle_f (show i + 1 < p ^ n by omega) (by omega), if_pos (by trivial)]
  obtain ⟨r, k1, J', rfl, k3, k4⟩ := m_order (N := N) (R := R) (S := S) (I := J) (g := i + 1) (d := (ods p n).getD i 0) hR (by rw [d1 91 (by decide)]; exact h2) (by rw [d1 91 (by decide)]; exact h3) (by rw [d1 91 (by decide)]; exact h5) hS (by omega) q2 q1 hdq q3 q4 hN
  rw [k1, Option.bind_some]
  dsimp only
  have k91 : J' 91 4 = nI (p ^ n) := by rw [k3 91 (by decide)]; exact j4
  simp only [k91]
  rw [dn1 _ (by omega)]
  by_cases hl : i + 1 = (ods p n).length
  · have e3 : (ods p n).getD i 0 = p ^ n - 1 := by rw [← o3]; congr 1; omega
    refine ⟨_, if_pos (by rw [e3]), by omega, J', ?_, d1.trans k3, fun _ => ?_⟩
    · rw [if_pos hl, nI_1]
    · rw [← hl, ← e3]; exact k4
  · have e3 := o2 i (by omega)
    refine ⟨_, if_neg (fun z => e3 ((nI_eq (by omega) (by omega)).mp z)), by omega, J', ?_, d1.trans k3, fun z => absurd z hl⟩
    rw [if_neg hl, nI_1]
theorem ite_ex {τ : Type} {c : Prop} [Decidable c] {A : Option τ} {Q : τ → Prop} (h : c) (hA : ∃ y, A = some y ∧ Q y) : ∃ y, (if c then A else none) = some y ∧ Q y := by rw [if_pos h]; exact hA
theorem ite_no {τ : Type} {c : Prop} [Decidable c] {A : Option τ} {Q : τ → Prop} (h : ¬ c) (hA : ∃ y, A = some y ∧ Q y) : ∃ y, (if c then none else A) = some y ∧ Q y := by rw [if_neg h]; exact hA
theorem bind_eq {σ τ : Type} {A : Option σ} {y : σ} {K : σ → Option τ} {Q : τ → Prop} (h : A = some y) (hK : ∃ z, K y = some z ∧ Q z) : ∃ z, A.bind K = some z ∧ Q z := by rw [h]; exact hK
theorem bind_ex {σ τ : Type} {A : Option σ} {P : σ → Prop} {K : σ → Option τ} {Q : τ → Prop} (h : ∃ y, A = some y ∧ P y) (hK : ∀ y, P y → ∃ z, K y = some z ∧ Q z) : ∃ z, A.bind K = some z ∧ Q z := by
  obtain ⟨y, h1, h2⟩ := h
  rw [h1]; exact hK y h2
theorem ex_mono {τ : Type} {A : Option τ} {P Q : τ → Prop} (h : ∃ y, A = some y ∧ P y) (hPQ : ∀ y, P y → Q y) : ∃ y, A = some y ∧ Q y := by
  obtain ⟨y, h1, h2⟩ := h
  exact ⟨y, h1, hPQ y h2⟩
theorem x12_tail {K : Type} [Lean.Grind.CommRing K] {p n : Nat} {X : K} {co : K → Nat} {I : gI} {R : gR} {S : gS} {N : Nat} (hR : RO K p n X co) (h2 : I 91 2 = nI p) (h3 : I 91 3 = nI n) (hS : ∀ q, 92 ≤ q → q ≤ 95 → S[q]? = some (12, 16)) (hN : 16000 ≤ N) :
    ∃ y, ((f_X12_power N I R S (I 91 2) (I 91 3)).bind (fun z26 => ((iter (σ := Int32 × gI) (ρ := Int32 × gI) (fun z28 => (if (z28.2 91 3) ≤ (1 : Int32) then some (.inr (z28.1, z28.2)) else ((f_X12_isPrime N z28.2 R S z28.1 (z28.2 91 3)).bind (fun z30 => (if z30.1 = 0 then some (.inl (z28.1 + 1, z30.2)) else some (.inr (z28.1, z30.2))))))) N ((gU I 91 4 z26) 91 4, gU I 91 4 z26)).bind (fun r29 => ((iter (σ := Int32 × Int32 × gI) (ρ := gI) (fun z31 => (if (z31.2.2 91 4) ≤ z31.2.1 then some (.inr z31.2.2) else (if z31.1 = 0 then ((iter (σ := Int32 × Int32 × Int32 × gI) (ρ := Int32 × gI) (fun z33 => (if z33.2.2.1 = 0 then some (.inr (z33.2.1, z33.2.2.2)) else if z33.2.1 < 0 ∨ 15625 ≤ z33.2.1.toNatClampNeg then none else if z33.1 < 0 ∨ 15625 ≤ z33.1.toNatClampNeg then none else ((f_X12_slow N (gU (gU z33.2.2.2 96 z33.2.1.toNatClampNeg z33.1) 97 z33.1.toNatClampNeg z33.2.1) R S z33.1 z31.2.1).bind (fun z35 => (if z35.1 = (1 : Int32) then some (.inl (z35.1, z33.2.1 + 1, (0 : Int32), z35.2)) else some (.inl (z35.1, z33.2.1 + 1, (1 : Int32), z35.2))))))) N ((1 : Int32), (0 : Int32), (1 : Int32), z31.2.2)).bind (fun r34 => (if r34.1 = ((r34.2 91 4) - (1 : Int32)) then some (.inl ((1 : Int32), z31.2.1 + 1, r34.2)) else some (.inl ((0 : Int32), z31.2.1 + 1, r34.2))))) else some (.inr z31.2.2)))) N ((0 : Int32), (1 : Int32), gU r29.2 91 5 r29.1)).bind (fun r32 => some (r32, R, S))))))) = some y ∧ ∃ J, y = (J, R, S) ∧ MH p n X co J ∧ (∀ a, ¬ (91 ≤ a ∧ a ≤ 97) → J a = I a) ∧ ∀ j, j < 2 ∨ 5 < j → J 91 j = I 91 j := by
  have hp := RO_p hR
  rw [h2, h3]
  refine bind_eq (m_power (by have := hR.2.2.1; omega) (by have := hR.2.2.1; omega)) ?_
  rw [gU_at]
  obtain ⟨r, a1, J1, rfl, a3⟩ := m_modulus (N := N) (R := R) (S := S) (I := gU I 91 4 (nI (p ^ n))) hR.1 hR.2.1 hR.2.2.1 (by rw [gU_slot _ _ _ (by decide)]; exact h2) (by rw [gU_slot _ _ _ (by decide)]; exact h3) hS (by omega)
  refine bind_eq a1 ?_
  dsimp only
  have q91 : ∀ j, j ≠ 5 → gU J1 91 5 (nI (mo p n)) 91 j = gU I 91 4 (nI (p ^ n)) 91 j := fun j hj => by rw [gU_slot _ _ _ hj, a3 91 (by decide)]
  obtain ⟨J, b1, b2, b3⟩ := m_tables (N := N) (R := R) (S := S) (I := gU J1 91 5 (nI (mo p n))) hR (by rw [q91 _ (by decide), gU_slot _ _ _ (by decide)]; exact h2) (by rw [q91 _ (by decide), gU_slot _ _ _ (by decide)]; exact h3) (by rw [q91 _ (by decide), gU_at]) (gU_at _ _ _ _) hS hN
  refine bind_eq b1 ?_
  refine ⟨_, rfl, J, rfl, ⟨?_, ?_, ?_, ?_, b3.1, b3.2⟩, ?_, ?_⟩
  · rw [b2 91 (by decide), q91 _ (by decide), gU_slot _ _ _ (by decide)]; exact h2
  · rw [b2 91 (by decide), q91 _ (by decide), gU_slot _ _ _ (by decide)]; exact h3
  · rw [b2 91 (by decide), q91 _ (by decide), gU_at]
  · rw [b2 91 (by decide), gU_at]
  · intro a ha
    rw [b2 a (by simp only [List.mem_cons, List.mem_nil_iff, or_false]; omega), gU_cell _ _ _ (by omega), a3 a (by simp only [List.mem_cons, List.mem_nil_iff, or_false]; omega), gU_cell _ _ _ (by omega)]
  · intro j hj
    rw [b2 91 (by decide), q91 _ (by omega), gU_slot _ _ _ (by omega)]
end MTabs
