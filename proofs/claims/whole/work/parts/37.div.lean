/-! division from the right: both sides -/
section Div
/-- s is q behind u, and the rest, which is shorter than u; q has fewer than E numbers -/
def Dv {K : Type} [Lean.Grind.CommRing K] (p l E : Nat) (u s q rm : Nat → K) : Prop := (∀ k, s k = cmp p q u k + rm k) ∧ (∀ k, l ≤ k → rm k = 0) ∧ ∀ k, E ≤ k → q k = 0
theorem cmp_subL {K : Type} [Lean.Grind.CommRing K] (p : Nat) (q q' u : Nat → K) (k : Nat) : cmp p (fun k => q k - q' k) u k = cmp p q u k - cmp p q' u k := by
  unfold cmp
  rw [← sm_sub]
  exact sm_congr (fun i _ => by grind)
theorem Dv_uniq {K : Type} [Lean.Grind.CommRing K] {p n : Nat} {X : K} {co : K → Nat} (hR : RO K p n X co) {l E E' : Nat} {u s q rm q' rm' : Nat → K} (hu : u l ≠ 0) (hu0 : ∀ k, l < k → u k = 0) (h : Dv p l E u s q rm) (h' : Dv p l E' u s q' rm') : q = q' ∧ rm = rm' := by
  have hq : ∀ c k, E + E' - c ≤ k → q k - q' k = 0 := by
    intro c
    induction c with
    | zero =>
      intro k hk
      rw [h.2.2 k (by omega), h'.2.2 k (by omega)]; grind
    | succ c ih =>
      intro k hk
      by_cases e : E + E' - c ≤ k
      · exact ih k e
      · have h1 : cmp p (fun k => q k - q' k) u (k + l) = rm' (k + l) - rm (k + l) := by
          rw [cmp_subL]
          have a1 := h.1 (k + l)
          have a2 := h'.1 (k + l)
          rw [a1] at a2
          grind
        rw [h.2.1 _ (by omega), h'.2.1 _ (by omega)] at h1
        have h2 : cmp p (fun k => q k - q' k) u (k + l) = (q k - q' k) * u l ^ (p ^ k) := by
          unfold cmp
          rw [sm_one (k := k) (by omega) (fun i hi hne => by
            by_cases e2 : i < k
            · rw [hu0 (k + l - i) (by omega), frk_0 hR]; grind
            · have := ih i (by omega)
              dsimp only
              rw [this]; grind), Nat.add_sub_cancel_left]
        apply Classical.byContradiction
        intro hne
        refine mul_ne hR hne (frk_ne hR hu (p ^ k)) ?_
        rw [← h2, h1]; grind
  have hqq : q = q' := by
    funext k
    have := hq (E + E') k (by omega)
    grind
  refine ⟨hqq, ?_⟩
  funext k
  have a1 := h.1 k
  have a2 := h'.1 k
  rw [a1, hqq] at a2
  grind
theorem cmp_addd {K : Type} [Lean.Grind.CommRing K] (p : Nat) (q u : Nat → K) (c : K) (k m : Nat) : cmp p (fun i => if i = k then q i + c else q i) u m = cmp p q u m + (if k ≤ m then c * u (m - k) ^ (p ^ k) else 0) := by
  unfold cmp
  have e1 : ∀ i, i < m + 1 → (if i = k then q i + c else q i) * u (m - i) ^ (p ^ i) = q i * u (m - i) ^ (p ^ i) + (if i = k then c * u (m - k) ^ (p ^ k) else 0) := fun i _ => by
    by_cases e : i = k
    · rw [if_pos e, if_pos e, e]; grind
    · rw [if_neg e, if_neg e]; grind
  rw [sm_congr e1, sm_add]
  congr 1
  by_cases h : k ≤ m
  · rw [if_pos h, sm_one (k := k) (by omega) (fun i _ hi => if_neg hi), if_pos rfl]
  · rw [if_neg h, sm_0 (fun i hi => if_neg (by omega))]
/-- one step of a division -/
theorem Dv_step {K : Type} [Lean.Grind.CommRing K] {p n : Nat} {X : K} {co : K → Nat} (hR : RO K p n X co) {l k : Nat} {u s q rm : Nat → K} {c : K} (hu0 : ∀ k, l < k → u k = 0) (h1 : ∀ m, s m = cmp p q u m + rm m) (h2 : ∀ m, k + 1 + l ≤ m → rm m = 0) (hc : c * u l ^ (p ^ k) = rm (k + l)) : (∀ m, s m = cmp p (fun i => if i = k then q i + c else q i) u m + (rm m - (if k ≤ m ∧ m ≤ k + l then c * u (m - k) ^ (p ^ k) else 0))) ∧ ∀ m, k + l ≤ m → rm m - (if k ≤ m ∧ m ≤ k + l then c * u (m - k) ^ (p ^ k) else 0) = 0 := by
  constructor
  · intro m
    rw [cmp_addd, h1 m]
    by_cases h : k ≤ m
    · rw [if_pos h]
      by_cases h3 : m ≤ k + l
      · rw [if_pos ⟨h, h3⟩]; grind
      · rw [if_neg (fun z => h3 z.2), hu0 (m - k) (by omega), frk_0 hR]; grind
    · rw [if_neg h, if_neg (fun z => h z.1)]; grind
  · intro m hm
    by_cases e : m = k + l
    · rw [e, if_pos (by omega), Nat.add_sub_cancel_left, hc]; grind
    · rw [if_neg (by omega), h2 m (by omega)]; grind
theorem s_divideBy {K : Type} [Lean.Grind.CommRing K] {p n : Nat} {X : K} {co : K → Nat} {I : gI} {R : gR} {S : gS} {N a0 l L0 : Nat} {u : Nat → K} (hR : RO K p n X co) (hF : FH p n X co I) (h37 : I 37 2 = nI n) (hS0 : S[a0]? = some (12, L0)) (ha0 : a0 < 48 ∨ 53 < a0) (hl : l ≤ 4) (hL : l < L0) (hL' : L0 < 1000) (hu : ∀ k, k ≤ l → I a0 k = nI (co (u k))) (hN : 60 ≤ N) :
    ∃ J, f_X8_divideBy N I R S a0 (nI l) = some J ∧ Fr 48 53 I J ∧ ∀ i, i < n → (∀ j, j ≤ l → J (48 + i) j = nI (co (u j ^ (p ^ i)))) ∧ J (48 + i) 5 = nI (co ((u l ^ (p ^ n - 2)) ^ (p ^ i))) := by
  have hp := RO_p hR
  have hn1 := hR.2.1
  have hn6 := hR.2.2.1
  unfold f_X8_divideBy
  have z0 : (0 : Int32).toNatClampNeg = 0 := rfl
  have z5 : (5 : Int32).toNatClampNeg = 5 := rfl
  rw [z0, z5, if_neg (by decide), gAr_of hS0, if_neg (by decide), gLn_of hS0, nI_1, nI_clamp (by omega), nI_clamp (by omega), if_neg (by
    rintro ((h | h | h) | h | h)
    · exact absurd h (by decide)
    · exact absurd h (by decide)
    · exact nI_pos (by omega) h
    · omega
    · omega), if_neg (by decide), gin2 hL (by omega), gCopy_Aw, Nat.add_zero]
  have r0 : Aw I 48 (l + 1) (I a0) a0 l = nI (co (u l)) := by rw [Aw_ne _ (by omega)]; exact hu l (Nat.le_refl l)
  rw [r0, s_inverse hR (FH_of hF hn6 (fun a h1 h2 => Aw_row (by omega)) : FH p n X co (Aw I 48 (l + 1) (I a0))) _ (by omega), Option.bind_some, if_neg (by decide)]
  dsimp only
  refine iter_wpe (fun i s => ∃ J, s = (nI (i + 1), J) ∧ Fr 48 53 I J ∧ ∀ m, m < i + 1 → (∀ j, j ≤ l → J (48 + m) j = nI (co (u j ^ (p ^ m)))) ∧ J (48 + m) 5 = nI (co ((u l ^ (p ^ n - 2)) ^ (p ^ m)))) (n - 1) ⟨_, rfl, (Fr_Aw (by omega) (by omega)).trans (Fr_gU (by omega) (by omega)), fun m hm => ?_⟩ ?_ (by omega)
  · rw [show m = 0 by omega, Nat.add_zero, Nat.pow_zero, Lean.Grind.Semiring.pow_one]
    refine ⟨fun j hj => ?_, gU_at _ _ _ _⟩
    rw [gU_slot _ _ _ (by omega), Aw_at (by omega), Lean.Grind.Semiring.pow_one]; exact hu j hj
  · rintro i _ hi ⟨J, rfl, q1, q2⟩
    have f2 : J 37 2 = nI n := by rw [q1 37 (by omega)]; exact h37
    dsimp only
    simp only [f2]
    by_cases he : i + 1 = n
    · rw [gle_t (by omega) (by omega)]
      exact .inr ⟨J, rfl, J, rfl, q1, fun m hm => q2 m (by omega)⟩
    · refine .inl ?_
      have hFJ := FH_fr hF hR q1 (by omega)
      have hpre := q2 i (by omega)
      rw [gle_f (by omega) (by omega), dn1 _ (by omega), Nat.add_sub_cancel, nI_clamp (by omega), nI_clamp (by omega)]
      have e1 : (iter (σ := Int32 × gI) (ρ := gI) (fun z7 => (if nI l < z7.1 then some (.inr z7.2) else if nI (i + 1) < 0 ∨ 6 ≤ i + 1 then none else if nI i < 0 ∨ 6 ≤ i then none else if z7.1 < 0 ∨ 6 ≤ z7.1.toNatClampNeg then none else ((f_X2_raised N z7.2 R S (z7.2 (48 + i) z7.1.toNatClampNeg)).bind (fun z11 => if z7.1 < 0 ∨ 6 ≤ z7.1.toNatClampNeg then none else some (.inl (z7.1 + 1, gU z11.2 (48 + (i + 1)) z7.1.toNatClampNeg z11.1)))))) N ((0 : Int32), J)) = some (Aw J (48 + (i + 1)) (l + 1) (fun j => nI (co (u j ^ (p ^ (i + 1)))))) := by
        refine iter_cnt (fun m => (nI m, Aw J (48 + (i + 1)) (l + 1) (fun j => if j < m then nI (co (u j ^ (p ^ (i + 1)))) else J (48 + (i + 1)) j))) (l + 1) ?_ ?_ ?_ (by omega)
        · rw [nI_0]
          congr 1
          exact (Aw_same (fun j _ => if_neg (by omega))).symm
        · intro m hm
          dsimp only
          rw [glt_f (by omega) (by omega), gin2 (by omega) (by omega), gin2 (by omega) (by omega), nI_clamp (by omega), gin2 (by omega) (by omega), Aw_ne _ (by omega), hpre.1 m (by omega), s_raised hR (FH_of hFJ hn6 (fun a h1 h2 => Aw_row (by omega)) : FH p n X co (Aw J (48 + (i + 1)) (l + 1) (fun j => if j < m then nI (co (u j ^ (p ^ (i + 1)))) else J (48 + (i + 1)) j))) _ (by omega), Option.bind_some, gin2 (by omega) (by omega), frk_S, nI_1]
          dsimp only
          rw [Aw_up (by omega)]
          congr 3
          refine congrArg _ (funext fun j => ?_)
          by_cases e : j = m
          · rw [if_pos e, if_pos (by omega), e]
          · rw [if_neg e]
            by_cases e2 : j < m
            · rw [if_pos e2, if_pos (by omega)]
            · rw [if_neg e2, if_neg (by omega)]
        · dsimp only
          rw [glt_t (by omega) (by omega)]
          congr 2
          exact Aw_congr (fun j hj => if_pos hj)
      rw [e1, Option.bind_some, gin2 (by omega) (by omega), gin2 (by omega) (by omega), if_neg (by decide), Aw_ne _ (by omega), hpre.2, s_raised hR (FH_of hFJ hn6 (fun a h1 h2 => Aw_row (by omega)) : FH p n X co (Aw J (48 + (i + 1)) (l + 1) (fun j => nI (co (u j ^ (p ^ (i + 1))))))) _ (by omega), Option.bind_some, if_neg (by decide), frk_S, nI_1]
      dsimp only
      refine ⟨_, rfl, by omega, _, rfl, q1.trans ((Fr_Aw (by omega) (by omega)).trans (Fr_gU (by omega) (by omega))), fun m hm => ?_⟩
      by_cases e : m = i + 1
      · rw [e]
        refine ⟨fun j hj => ?_, gU_at _ _ _ _⟩
        rw [gU_slot _ _ _ (by omega), Aw_at (by omega)]
      · rw [gU_cell _ _ _ (by omega), Aw_row (by omega)]
        exact q2 m (by omega)
end Div
