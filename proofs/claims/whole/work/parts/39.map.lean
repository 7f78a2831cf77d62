/-! MAP: both sides -/
section MapB
def lM : List Nat := [46, 48, 49, 50, 51, 52, 53, 54, 55]
theorem s_leads {K : Type} [Lean.Grind.CommRing K] {p n : Nat} {X : K} {co : K → Nat} {I : gI} {R : gR} {S : gS} {N w r l : Nat} {t u : Nat → K} (hR : RO K p n X co) (hF : FH p n X co I) (hW : CW co I R S w r t) (hV : WV r t) (h37 : I 37 2 = nI n) (hS : ∀ q, 5 ≤ q → q < 56 → S[q]? = layS[q]?) (hl1 : 1 ≤ l) (hl : l ≤ 4) (hul : u l ≠ 0) (hu0 : ∀ k, l < k → u k = 0) (hu : ∀ k, k ≤ l → I 5 k = nI (co (u k))) (hN : 60 ≤ N) :
    ∃ J q rm y, Dv p l (r + 1) u (cmp p u t) q rm ∧ f_X8_leads N I R S w 5 (nI l) = some (y, J) ∧ ((y = 1 ∧ ∀ j, rm j = 0) ∨ (y = 0 ∧ ¬ ∀ j, rm j = 0)) ∧ Fs lM I J ∧ ∀ k, k < 19 → J 55 k = nI (co (q k)) := by
  have hp := RO_p hR
  have hr := hV.2.1
  obtain ⟨J1, a1, a2, a3⟩ := s_putBehind (N := N) (R := R) (S := S) (a0 := 5) (a2 := gt R w) (a4 := 54) (A := l) (B := r) (u := u) (v := t) hR hF (by decide) (by decide) (by have := hW.2.2.1; omega) ⟨by decide, by decide⟩ (hS 54 (by omega) (by omega)) (hS 5 (by omega) (by omega)) (gWb_t hW.1).2 (by omega) (by omega) (by omega) (by omega) (by omega) hu (fun k hk => hW.2.2.2.1 k (by omega)) hu0 hV.2.2.2 hN
  have hF1 : FH p n X co J1 := FH_of hF hR.2.2.1 (fun a h1 h2 => a2 a (by simp only [List.mem_cons, List.mem_nil_iff, or_false]; omega))
  obtain ⟨J2, b1, b2, b3⟩ := s_divideBy (N := N) (R := R) (S := S) (a0 := 5) (L0 := 5) (u := u) hR hF1 (by rw [a2 37 (by decide)]; exact h37) (hS 5 (by omega) (by omega)) (by omega) hl (by omega) (by omega) (fun k hk => by rw [a2 5 (by decide)]; exact hu k hk) hN
  have hF2 := FH_fr hF1 hR b2 (by omega)
  obtain ⟨c0, c1⟩ := cmp_deg hR hu0 hV.2.2.2
  obtain ⟨J3, d1, d2, q, rm, d3, d4, d5⟩ := s_divide (N := N) (R := R) (S := S) (la := l + r) (u := u) (s := cmp p u t) hR hF2 (by rw [b2 37 (by omega), a2 37 (by decide)]; exact h37) (hS 55 (by omega) (by omega)) hl (by omega) hul hu0 b3 (fun k hk => by rw [b2 54 (by omega)]; exact a3 k hk) c0 hN
  rw [show l + r + 1 - l = r + 1 by omega] at d5
  have hw1 : J2 w 1 = nI r := by rw [b2 w (by have := hW.2.1; omega), a2 w (by have := hW.2.1; simp only [List.mem_cons, List.mem_nil_iff, or_false]; omega)]; exact hW.2.2.2.2
  have hfr : Fs lM I J3 := (a2.mono (by decide)).trans (Fs.trans (J := J2) (fun a ha => b2 a (by
    simp only [lM, List.mem_cons, List.mem_nil_iff, or_false, not_or] at ha
    omega)) (d2.mono (by decide)))
  have key : ∃ y, (iter (σ := Int32) (ρ := (Unit) ⊕ (Int32 × gI)) (fun z4 => (if nI l ≤ z4 then some (.inr (.inl ())) else if z4 < 0 ∨ 19 ≤ z4.toNatClampNeg then none else (if (J3 54 z4.toNatClampNeg) = 0 then some (.inl (z4 + 1)) else some (.inr (.inr ((0 : Int32), J3)))))) N (0 : Int32)) = some y ∧ ((y = .inl () ∧ ∀ j, j < l → rm j = 0) ∨ (y = .inr (0, J3) ∧ ¬ ∀ j, j < l → rm j = 0)) := by
    refine iter_wp (fun i s => s = nI i ∧ ∀ j, j < i → rm j = 0) _ l ⟨nI_0.symm, fun j hj => by omega⟩ ?_ (by omega)
    rintro i _ hi ⟨rfl, h⟩
    by_cases he : i = l
    · rw [gle_t (by omega) (by omega)]
      exact .inr ⟨_, rfl, .inl ⟨rfl, fun j hj => h j (by omega)⟩⟩
    · rw [gle_f (by omega) (by omega), nI_clamp (by omega), gin2 (by omega) (by omega), d4 i (by omega)]
      by_cases hz : rm i = 0
      · refine .inl ⟨_, if_pos ((co0_iff hR _).mpr hz), by omega, by rw [nI_1], fun j hj => ?_⟩
        by_cases e : j = i
        · rw [e]; exact hz
        · exact h j (by omega)
      · exact .inr ⟨_, if_neg (fun z => hz ((co0_iff hR _).mp z)), .inr ⟨rfl, fun z => hz (z i (by omega))⟩⟩
  obtain ⟨y, k1, k2⟩ := key
  have hall : (∀ j, j < l → rm j = 0) → ∀ j, rm j = 0 := fun h j => by
    by_cases e : j < l
    · exact h j e
    · exact d5.2.1 j (by omega)
  have hrun : ∀ z, Sum.elim (fun _ => some ((1 : Int32), J3)) (fun x6 => some x6) y = some z → f_X8_leads N I R S w 5 (nI l) = some z := by
    intro z hz
    unfold f_X8_leads
    rw [if_pos hW.1, hW.2.2.2.2, a1, Option.bind_some, b1, Option.bind_some, hw1, nI_add, d1, Option.bind_some, k1, Option.bind_some]
    exact hz
  rcases k2 with ⟨rfl, h⟩ | ⟨rfl, h⟩
  · exact ⟨J3, q, rm, 1, d5, hrun _ rfl, .inl ⟨rfl, hall h⟩, hfr, d3⟩
  · exact ⟨J3, q, rm, 0, d5, hrun _ rfl, .inr ⟨rfl, fun z => h (fun j _ => z j)⟩, hfr, d3⟩
/-- from below: number k of what stands behind u, one after the other -/
def Fb {K : Type} [Lean.Grind.CommRing K] (p n : Nat) (u s : Nat → K) : Nat → Nat → K
  | 0, _ => 0
  | k + 1, i => if i = k then Fb p n u s k i + (s k - cmp p (Fb p n u s k) u k) * (u 0 ^ (p ^ k)) ^ (p ^ n - 2) else Fb p n u s k i
theorem Fb_0 {K : Type} [Lean.Grind.CommRing K] (p n : Nat) (u s : Nat → K) (k i : Nat) (h : k ≤ i) : Fb p n u s k i = 0 := by
  induction k with
  | zero => rfl
  | succ k ih => rw [Fb, if_neg (by omega), ih (by omega)]
theorem Fb_cmp {K : Type} [Lean.Grind.CommRing K] {p n : Nat} {X : K} {co : K → Nat} (hR : RO K p n X co) {u s : Nat → K} (hu : u 0 ≠ 0) (k m : Nat) (h : m < k) : cmp p (Fb p n u s k) u m = s m := by
  induction k with
  | zero => omega
  | succ k ih =>
    have h1 := cmp_addd p (Fb p n u s k) u ((s k - cmp p (Fb p n u s k) u k) * (u 0 ^ (p ^ k)) ^ (p ^ n - 2)) k m
    have h2 : Fb p n u s (k + 1) = fun i => if i = k then Fb p n u s k i + (s k - cmp p (Fb p n u s k) u k) * (u 0 ^ (p ^ k)) ^ (p ^ n - 2) else Fb p n u s k i := rfl
    rw [h2, h1]
    by_cases e : m = k
    · rw [if_pos (by omega), e, Nat.sub_self]
      have h3 := inv_ok hR (frk_ne hR hu (p ^ k))
      generalize (u 0 ^ (p ^ k)) ^ (p ^ n - 2) = b at *
      generalize u 0 ^ (p ^ k) = a at *
      grind
    · rw [if_neg (by omega), ih (by omega)]; grind
theorem Fb_q {K : Type} [Lean.Grind.CommRing K] {p n : Nat} {X : K} {co : K → Nat} (hR : RO K p n X co) {u s q : Nat → K} (hu : u 0 ≠ 0) (hq : ∀ k, s k = cmp p q u k) (k : Nat) : ∀ i, i < k → Fb p n u s k i = q i := by
  induction k with
  | zero => intro i hi; omega
  | succ k ih =>
    have hcm : cmp p (Fb p n u s k) u k = cmp p q u k - q k * u 0 ^ (p ^ k) := by
      unfold cmp
      rw [sm_succ, sm_succ, Fb_0 p n u s k k (Nat.le_refl k), Nat.sub_self, sm_congr (n := k) (g := fun i => q i * u (k - i) ^ (p ^ i)) (fun i hi => by rw [ih i hi])]
      grind
    intro i hi
    rw [Fb]
    by_cases e : i = k
    · rw [if_pos e, e, Fb_0 p n u s k k (Nat.le_refl k), hcm, hq k]
      have h3 := inv_ok hR (frk_ne hR hu (p ^ k))
      generalize (u 0 ^ (p ^ k)) ^ (p ^ n - 2) = b at *
      generalize u 0 ^ (p ^ k) = a at *
      grind
    · rw [if_neg e]; exact ih i (by omega)
/-- from above and from below: the same -/
theorem Fb_Dv {K : Type} [Lean.Grind.CommRing K] {p n : Nat} {X : K} {co : K → Nat} (hR : RO K p n X co) {l r : Nat} {u s q rm : Nat → K} (hul : u l ≠ 0) (hu0 : ∀ k, l < k → u k = 0) (hu : u 0 ≠ 0) (h : Dv p l (r + 1) u s q rm) (hs0 : ∀ k, l + r < k → s k = 0) : (∀ k, rm k = 0) ↔ ∀ k, r < k → k ≤ r + l → s k = cmp p (Fb p n u s (r + 1)) u k := by
  constructor
  · intro h0 k h1 h2
    have hq : ∀ k, s k = cmp p q u k := fun k => by rw [h.1 k, h0 k]; grind
    rw [hq k]
    unfold cmp
    refine sm_congr (fun i _ => ?_)
    by_cases e : i < r + 1
    · rw [Fb_q hR hu hq (r + 1) i e]
    · rw [h.2.2 i (by omega), Fb_0 p n u s (r + 1) i (by omega)]
  · intro h0
    have hF : ∀ k, s k = cmp p (Fb p n u s (r + 1)) u k + (fun _ => (0 : K)) k := fun k => by
      show s k = cmp p (Fb p n u s (r + 1)) u k + 0
      by_cases e : k < r + 1
      · rw [Fb_cmp hR hu (r + 1) k e]; grind
      · by_cases e2 : k ≤ r + l
        · rw [h0 k (by omega) e2]; grind
        · rw [hs0 k (by omega)]
          have := (cmp_deg hR (u := Fb p n u s (r + 1)) (v := u) (a := r) (b := l) (fun i hi => Fb_0 p n u s (r + 1) i (by omega)) hu0).1 k (by omega)
          rw [this]; grind
    have := (Dv_uniq hR hul hu0 h (⟨hF, fun k _ => rfl, fun k hk => Fb_0 p n u s (r + 1) k hk⟩ : Dv p l (r + 1) u s (Fb p n u s (r + 1)) (fun _ => 0))).2
    intro k
    rw [this]
end MapB
