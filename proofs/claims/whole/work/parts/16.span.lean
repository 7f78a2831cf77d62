/-! SPAN: what its cells hold, and what a feed does to them -/
section SpanH
def SPH (p w m f : Nat) (kv km : Nat → Nat → Nat) (ld : Nat → Nat) (I : gI) : Prop := I 17 1 = nI p ∧ I 17 7 = nI w ∧ I 17 8 = nI m ∧ I 17 9 = nI f ∧ (∀ k i, k < m → i < w → I (21 + k) i = nI (kv k i)) ∧ (∀ k j, k < m → j < 7 → I (29 + k) j = nI (km k j)) ∧ ∀ k, k < m → I 36 k = nI (ld k)
def SPN (p w m f : Nat) (kv km : Nat → Nat → Nat) (ld : Nat → Nat) : Prop := w ≤ 36 ∧ (m ≤ f ∨ w ≤ 6) ∧ f ≤ 7 ∧ (∀ k i, kv k i < p) ∧ (∀ k j, km k j < p) ∧ (∀ k, k < m → ld k < w ∧ kv k (ld k) = 1 ∧ (∀ i, i < ld k → kv k i = 0) ∧ ∀ j, j < k → kv k (ld j) = 0) ∧ ∀ k j, f ≤ j → km k j = 0
theorem SPN_mw {p w m f : Nat} {kv km : Nat → Nat → Nat} {ld : Nat → Nat} (h : SPN p w m f kv km ld) : m ≤ w := by
  obtain ⟨s1, s2, s3, s4, s5, s6, s7⟩ := h
  apply Classical.byContradiction
  intro hn
  obtain ⟨i, j, a1, a2, a3⟩ := no_inj w ld (fun i hi => (s6 i (by omega)).1)
  have b1 := (s6 j (by omega)).2.2.2 i a1
  have b2 := (s6 j (by omega)).2.1
  rw [a3] at b1
  omega
theorem SPH_of {p w m f : Nat} {kv km : Nat → Nat → Nat} {ld : Nat → Nat} {I J : gI} (h : SPH p w m f kv km ld I) (hm : m ≤ 7) (hJ : ∀ a, a = 17 ∨ (21 ≤ a ∧ a ≤ 27) ∨ (29 ≤ a ∧ a ≤ 36) → J a = I a) : SPH p w m f kv km ld J := by
  obtain ⟨h1, h2, h3, h4, h5, h6, h7⟩ := h
  refine ⟨?_, ?_, ?_, ?_, ?_, ?_, ?_⟩
  · rw [hJ 17 (by omega)]; exact h1
  · rw [hJ 17 (by omega)]; exact h2
  · rw [hJ 17 (by omega)]; exact h3
  · rw [hJ 17 (by omega)]; exact h4
  · intro k i hk hi; rw [hJ (21 + k) (by omega)]; exact h5 k i hk hi
  · intro k i hk hi; rw [hJ (29 + k) (by omega)]; exact h6 k i hk hi
  · intro k hk; rw [hJ 36 (by omega)]; exact h7 k hk
theorem Aw_congr {I : gI} {q L : Nat} {f g : Nat → Int32} (h : ∀ j, j < L → f j = g j) : Aw I q L f = Aw I q L g := by
  funext a j
  unfold Aw
  by_cases e : a = q ∧ j < L
  · rw [if_pos e, if_pos e]; exact h j e.2
  · rw [if_neg e, if_neg e]
theorem Aw_same {I : gI} {q L : Nat} {f : Nat → Int32} (h : ∀ j, j < L → f j = I q j) : Aw I q L f = I := (Aw_congr h).trans (Aw_self I q L)
theorem mod_skip {p v c : Nat} (h : v < p) : (v + (p - 0) * c) % p = v := by
  rw [Nat.sub_zero, Nat.add_mul_mod_self_left, Nat.mod_eq_of_lt h]
theorem s_takeAway {p w m f k : Nat} {kv km : Nat → Nat → Nat} {ld v mx : Nat → Nat} {I : gI} {R : gR} {S : gS} {N : Nat} (hH : SPH p w m f kv km ld I) (hS : SPN p w m f kv km ld) (hp : 2 ≤ p) (hp5 : p ≤ 5) (hv : ∀ i, i < w → I 18 i = nI (v i)) (hvp : ∀ i, v i < p) (hx : ∀ j, j < 7 → I 19 j = nI (mx j)) (hxp : ∀ j, mx j < p) (hk : k < m) (hN : 50 ≤ N) :
    f_X6_takeAway N I R S (nI k) = some (Aw (Aw I 18 w (fun i => nI ((v i + (p - v (ld k)) * kv k i) % p))) 19 7 (fun j => nI ((mx j + (p - v (ld k)) * km k j) % p))) := by
  obtain ⟨h1, h2, h3, h4, h5, h6, h7⟩ := hH
  have smw := SPN_mw hS
  obtain ⟨s1, s2, s3, s4, s5, s6, s7⟩ := hS
  obtain ⟨l1, l2, l3, l4⟩ := s6 k hk
  have hl := hv _ l1
  have hvl := hvp (ld k)
  unfold f_X6_takeAway
  rw [nI_clamp (by omega), h7 k hk, nI_clamp (by omega), hl, h1, gin2 (by omega) (by omega), gin2 (by omega) (by omega), pk_sub (by omega)]
  by_cases hz : v (ld k) = 0
  · rw [hz, geq_t (by omega)]
    congr 1
    have e1 : Aw I 18 w (fun i => nI ((v i + (p - 0) * kv k i) % p)) = I := Aw_same (fun i hi => by rw [mod_skip (hvp i), hv i hi])
    rw [e1, Aw_same (fun i hi => by rw [mod_skip (hxp i), hx i hi])]
  · rw [geq_f (by omega) (by omega) (by omega), gin2 (by omega) (by omega)]
    have hc : p - v (ld k) ≤ 4 := by omega
    have hb : ∀ a c, a < p → c < p → a + (p - v (ld k)) * c < 2147483648 := fun a c ha hc2 => by
      have := Nat.mul_le_mul hc (show c ≤ 4 by omega)
      omega
    generalize p - v (ld k) = fac at *
    have k1 : ∀ (F : Nat → Int32) a j, a ≠ 18 → Aw I 18 w F a j = I a j := fun F a j h => Aw_ne j h
    refine iter_bind (fun i => (nI (ld k + i), Aw I 18 w (fun j => if ld k ≤ j ∧ j < ld k + i then nI ((v j + fac * kv k j) % p) else I 18 j))) (w - ld k) (Aw I 18 w (fun i => nI ((v i + fac * kv k i) % p))) ?_ ?_ ?_ (by omega) ?_
    · rw [Nat.add_zero, Aw_same]
      intro j hj
      rw [if_neg (by omega)]
    · intro i hi
      have hbb := hb (v (ld k + i)) (kv k (ld k + i)) (hvp _) (s4 _ _)
      simp (disch := omega) only [k1, h2, h1, gle_f, gin2, gnz, nI_clamp, Aw_at, h5, nI_1]
      rw [if_neg (show ¬ (ld k ≤ ld k + i ∧ ld k + i < ld k + i) by omega), hv (ld k + i) (by omega)]
      simp (disch := omega) only [pk_mul, nI_add, pk_div, pk_rem2, Aw_up]
      congr 4
      funext j
      by_cases e : j = ld k + i
      · rw [if_pos e, if_pos (by omega), e]
      · rw [if_neg e]
        by_cases e2 : ld k ≤ j ∧ j < ld k + i
        · rw [if_pos e2, if_pos (by omega)]
        · rw [if_neg e2, if_neg (by omega)]
    · simp (disch := omega) only [k1, h2, gle_t]
      congr 2
      refine Aw_congr (fun j hj => ?_)
      by_cases e2 : ld k ≤ j
      · rw [if_pos (by omega)]
      · rw [if_neg (by omega), l3 j (by omega), Nat.mul_zero, Nat.add_zero, Nat.mod_eq_of_lt (hvp j), hv j hj]
    · generalize hA : (fun i => nI ((v i + fac * kv k i) % p)) = A
      have k2 : ∀ (F : Nat → Int32) a j, a ≠ 19 → a ≠ 18 → Aw (Aw I 18 w A) 19 7 F a j = I a j := fun F a j h h' => by rw [Aw_ne j h, Aw_ne j h']
      refine iter_bind (fun i => (nI i, Aw (Aw I 18 w A) 19 7 (fun j => if j < i then nI ((mx j + fac * km k j) % p) else I 19 j))) f (Aw (Aw I 18 w A) 19 7 (fun j => nI ((mx j + fac * km k j) % p))) ?_ ?_ ?_ (by omega) rfl
      · rw [nI_0]
        congr 1
        refine (Aw_same (fun j hj => ?_)).symm
        rw [if_neg (by omega), Aw_ne _ (by decide)]
      · intro i hi
        have hbb := hb (mx i) (km k i) (hxp _) (s5 _ _)
        simp (disch := omega) only [k2, h4, h1, gle_f, gin2, gnz, nI_clamp, Aw_at, h6, nI_1]
        rw [if_neg (Nat.lt_irrefl i), hx i (by omega)]
        simp (disch := omega) only [pk_mul, nI_add, pk_div, pk_rem2, Aw_up]
        congr 4
        funext j
        by_cases e : j = i
        · rw [if_pos e, if_pos (by omega), e]
        · rw [if_neg e]
          by_cases e2 : j < i
          · rw [if_pos e2, if_pos (by omega)]
          · rw [if_neg e2, if_neg (by omega)]
      · simp (disch := omega) only [k2, h4, gle_t]
        congr 2
        refine Aw_congr (fun j hj => ?_)
        by_cases e2 : j < f
        · rw [if_pos e2]
        · rw [if_neg e2, s7 k j (by omega), Nat.mul_zero, Nat.add_zero, Nat.mod_eq_of_lt (hxp j), hx j hj]
theorem inv_ex {p a : Nat} (hp : p = 2 ∨ p = 3 ∨ p = 5) (h0 : 0 < a) (h1 : a < p) : ∃ x, 1 ≤ x ∧ x < p ∧ x * a % p = 1 := by
  rcases hp with rfl | rfl | rfl
  · exact ⟨1, by omega, by omega, by rw [show a = 1 by omega]⟩
  · rcases (show a = 1 ∨ a = 2 by omega) with rfl | rfl
    · exact ⟨1, by decide⟩
    · exact ⟨2, by decide⟩
  · rcases (show a = 1 ∨ a = 2 ∨ a = 3 ∨ a = 4 by omega) with rfl | rfl | rfl | rfl
    · exact ⟨1, by decide⟩
    · exact ⟨3, by decide⟩
    · exact ⟨2, by decide⟩
    · exact ⟨4, by decide⟩
theorem s_inverseNumber {p a : Nat} {I : gI} {R : gR} {S : gS} {N : Nat} (hp : p = 2 ∨ p = 3 ∨ p = 5) (h1 : I 17 1 = nI p) (h0 : 0 < a) (ha : a < p) (hN : 8 ≤ N) : ∃ x, x < p ∧ x * a % p = 1 ∧ f_X6_inverseNumber N I R S (nI a) = some (nI x) := by
  have hp5 : p ≤ 5 := by omega
  unfold f_X6_inverseNumber
  obtain ⟨x0, y1, y2, y3⟩ := inv_ex hp h0 ha
  obtain ⟨y, e1, e2⟩ := iter_wpe (b := fun z1 => (if (I 17 1) ≤ z1 then some (.inr z1) else if (I 17 1) = 0 then none else (if ((z1 * nI a) - (z1 * nI a) / (I 17 1) * (I 17 1)) = (1 : Int32) then some (.inr z1) else some (.inl (z1 + 1))))) (K := fun r2 => some r2) (s := (1 : Int32)) (Q := fun y => ∃ x, x < p ∧ x * a % p = 1 ∧ y = nI x) (fun i s => s = nI (i + 1) ∧ ∀ j, j < i → (j + 1) * a % p ≠ 1) 5 (N := N) ⟨rfl, fun j hj => by omega⟩ (by
    rintro i _ hi ⟨rfl, hne⟩
    rw [h1, show (1 : Int32) = nI 1 from rfl]
    have hlt : i + 1 < p := by
      apply Classical.byContradiction
      intro h
      have h := hne (x0 - 1) (by omega)
      rw [show x0 - 1 + 1 = x0 by omega] at h
      exact h y3
    have hb : (i + 1) * a < 2147483648 := by
      have := Nat.mul_le_mul (show i + 1 ≤ 5 by omega) (show a ≤ 5 by omega)
      omega
    have hm := Nat.mod_lt ((i + 1) * a) (show 0 < p by omega)
    simp (disch := omega) only [gle_f, gnz, pk_mul, pk_div, pk_rem2]
    by_cases e : (i + 1) * a % p = 1
    · refine .inr ⟨_, geq_t e, _, rfl, i + 1, hlt, e, rfl⟩
    · refine .inl ⟨_, geq_f e (by omega) (by omega), by omega, by rw [nI_add], ?_⟩
      intro j hj
      by_cases e2 : j = i
      · rw [e2]; exact e
      · exact hne j (by omega)) (by omega)
  obtain ⟨x, q1, q2, q3⟩ := e2
  exact ⟨x, q1, q2, by rw [e1, q3]⟩
theorem s_firstNumber {w : Nat} {v : Nat → Nat} {I : gI} {R : gR} {S : gS} {N : Nat} (h2 : I 17 7 = nI w) (hw : w ≤ 36) (hv : ∀ i, i < w → I 18 i = nI (v i)) (hv5 : ∀ i, v i < 2147483648) (hN : 50 ≤ N) : ∃ at_, at_ ≤ w ∧ f_X6_firstNumber N I R S = some (nI at_) ∧ (∀ i, i < at_ → v i = 0) ∧ (at_ < w → v at_ ≠ 0) := by
  unfold f_X6_firstNumber
  obtain ⟨y, e1, e2⟩ := iter_wpe (b := fun z1 => (if (I 17 7) ≤ z1 then some (.inr z1) else if z1 < 0 ∨ 36 ≤ z1.toNatClampNeg then none else (if (I 18 z1.toNatClampNeg) = 0 then some (.inl (z1 + 1)) else some (.inr z1)))) (K := fun r2 => some r2) (s := (0 : Int32)) (Q := fun y => ∃ x, x ≤ w ∧ y = nI x ∧ (∀ i, i < x → v i = 0) ∧ (x < w → v x ≠ 0)) (fun i s => s = nI i ∧ ∀ j, j < i → v j = 0) w (N := N) ⟨rfl, fun j hj => by omega⟩ (by
    rintro i _ hi ⟨rfl, hz⟩
    rw [h2]
    by_cases hw : i = w
    · rw [gle_t (by omega) (by omega)]
      exact .inr ⟨_, rfl, _, rfl, i, hi, rfl, hz, fun h => by omega⟩
    · have := hv5 i
      simp (disch := omega) only [gle_f, nI_clamp, gin2, hv]
      by_cases e : v i = 0
      · refine .inl ⟨_, g0_t e, by omega, by rw [nI_1], fun j hj => ?_⟩
        by_cases e2 : j = i
        · rw [e2]; exact e
        · exact hz j (by omega)
      · exact .inr ⟨_, g0_f (by omega) (by omega), _, rfl, i, hi, rfl, hz, fun _ => e⟩) (by omega)
  obtain ⟨x, q1, q2, q3, q4⟩ := e2
  exact ⟨x, q1, by rw [e1, q2], q3, q4⟩
theorem s_mixCode {p f : Nat} {mx : Nat → Nat} {I : gI} {R : gR} {S : gS} {N : Nat} (h4 : I 17 9 = nI f) (hf : f ≤ 7) (hx : ∀ j, j < 7 → I 19 j = nI (mx j)) (h7 : ∀ i, i < 8 → I 7 i = nI (p ^ i)) (hN : 12 ≤ N) : f_X6_mixCode N I R S = some (nI (enc p f mx)) := by
  unfold f_X6_mixCode
  refine iter_bind (fun i => (nI (enc p i mx), nI i)) f (nI (enc p f mx)) ?_ ?_ ?_ (by omega) rfl
  · simp only [enc, nI_0]
  · intro i hi
    simp (disch := omega) only [h4, gle_f, gin2, nI_clamp, hx, h7, pk_mul, nI_add, nI_1]
    rfl
  · simp (disch := omega) only [h4, gle_t]
end SpanH
