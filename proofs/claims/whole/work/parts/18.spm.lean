/-! SPAN: what a feed finds -/
section SpanM
/-- vectors that count as 0: closed under sums and multiples -/
def Zc {K : Type} [Lean.Grind.CommRing K] (w : Nat) (Z : (Nat → K) → Prop) : Prop := (∀ u, (∀ i, i < w → u i = 0) → Z u) ∧ (∀ u v, Z u → Z v → Z (fun i => u i + v i)) ∧ ∀ (c : Nat) u, Z u → Z (fun i => nk c * u i)
theorem Zc_ext {K : Type} [Lean.Grind.CommRing K] {w : Nat} {Z : (Nat → K) → Prop} (h : Zc w Z) {u v : Nat → K} (hu : Z u) (e : ∀ i, i < w → v i = u i) : Z v := by
  have h1 := h.2.1 u (fun i => v i - u i) hu (h.1 _ (fun i hi => by rw [e i hi]; grind))
  have h2 : (fun i => u i + (v i - u i)) = v := by funext i; grind
  rw [h2] at h1; exact h1
def Z0 {K : Type} [Lean.Grind.CommRing K] (w : Nat) (u : Nat → K) : Prop := ∀ i, i < w → u i = 0
theorem Z0_c {K : Type} [Lean.Grind.CommRing K] (w : Nat) : Zc (K := K) w (Z0 w) :=
  ⟨fun u h => h, fun u v h1 h2 i hi => by show u i + v i = 0; rw [h1 i hi, h2 i hi]; grind, fun c u h i hi => by show nk c * u i = 0; rw [h i hi]; grind⟩
def SPV {K : Type} [Lean.Grind.CommRing K] (w m f : Nat) (kv km : Nat → Nat → Nat) (Z : (Nat → K) → Prop) (V : Nat → Nat → K) (Rl : Nat → Prop) : Prop :=
  (∀ k, k < m → Z (fun i => nk (kv k i) - sm f (fun j => nk (km k j) * V j i))) ∧
  (∀ j, j < f → ∃ c : Nat → K, ∀ i, i < w → V j i = sm m (fun k => c k * nk (kv k i))) ∧
  (∀ k j, k < m → j < f → Rl j → km k j = 0) ∧
  (∀ j, j < f → ¬ Rl j → ¬ ∃ c : Nat → K, ∀ i, i < w → V j i = sm j (fun l => c l * V l i))
theorem nk_fac {K : Type} [Lean.Grind.CommRing K] {p : Nat} (hz : nk (K := K) p = 0) {a : Nat} (h : a ≤ p) : nk (K := K) (p - a) = - nk a := by
  rw [nk_sub h, hz]; grind
theorem tk_math {K : Type} [Lean.Grind.CommRing K] {p w m f : Nat} {kv km : Nat → Nat → Nat} {ld v : Nat → Nat} {Z : (Nat → K) → Prop} {V : Nat → Nat → K} {Rl : Nat → Prop} (hp : 2 ≤ p) (hz : nk (K := K) p = 0) (hZ : Zc w Z) (hS : SPN p w m f kv km ld) (hV : SPV w m f kv km Z V Rl) (hvp : ∀ i, v i < p) {k : Nat} (hk : k ≤ m) :
    (tk p ld kv km v (fun j => if j = f then 1 else 0) k).2 f = 1 ∧ (∀ j, f < j → (tk p ld kv km v (fun j => if j = f then 1 else 0) k).2 j = 0) ∧ (∀ j, j < f → Rl j → (tk p ld kv km v (fun j => if j = f then 1 else 0) k).2 j = 0) ∧ Z (fun i => nk ((tk p ld kv km v (fun j => if j = f then 1 else 0) k).1 i) - nk (v i) - sm f (fun j => nk ((tk p ld kv km v (fun j => if j = f then 1 else 0) k).2 j) * V j i)) ∧ (∃ c : Nat → K, ∀ i, nk ((tk p ld kv km v (fun j => if j = f then 1 else 0) k).1 i) = nk (v i) + sm k (fun l => c l * nk (kv l i))) ∧ (∀ j, j < k → (tk p ld kv km v (fun j => if j = f then 1 else 0) k).1 (ld j) = 0) := by
  obtain ⟨s1, s2, s3, s4, s5, s6, s7⟩ := hS
  obtain ⟨v1, v2, v3, v4⟩ := hV
  induction k with
  | zero =>
    refine ⟨if_pos rfl, fun j hj => if_neg (by omega), fun j hj _ => if_neg (by omega), ?_, ⟨fun _ => 0, fun i => ?_⟩, fun j hj => by omega⟩
    · refine hZ.1 _ (fun i hi => ?_)
      show nk (v i) - nk (v i) - sm f (fun j => nk (if j = f then 1 else 0) * V j i) = 0
      rw [sm_0 (fun j hj => by rw [if_neg (by omega), nk_0]; grind)]; grind
    · show nk (v i) = _
      rw [sm_zero]; grind
  | succ k ih =>
    obtain ⟨i1, i2, i3, i4, ⟨c, i5⟩, i6⟩ := ih (by omega)
    have hlt := (tk_lt (ld := ld) (kv := kv) (km := km) (show 0 < p by omega) hvp (mx := fun j => if j = f then 1 else 0) (fun j => by split <;> omega) k).1
    have hlt2 := (tk_lt (ld := ld) (kv := kv) (km := km) (show 0 < p by omega) hvp (mx := fun j => if j = f then 1 else 0) (fun j => by split <;> omega) k).2
    rw [tk]
    generalize tk p ld kv km v (fun j => if j = f then 1 else 0) k = T at *
    have hf : nk (K := K) (p - T.1 (ld k)) = - nk (T.1 (ld k)) := nk_fac hz (Nat.le_of_lt (hlt _))
    refine ⟨?_, ?_, ?_, ?_, ?_, ?_⟩
    · show (T.2 f + (p - T.1 (ld k)) * km k f) % p = 1
      rw [s7 k f (Nat.le_refl f), i1, Nat.mul_zero]; exact Nat.mod_eq_of_lt (by omega)
    · intro j hj
      show (T.2 j + (p - T.1 (ld k)) * km k j) % p = 0
      rw [s7 k j (by omega), i2 j hj, Nat.mul_zero]; exact Nat.zero_mod p
    · intro j hj hr
      show (T.2 j + (p - T.1 (ld k)) * km k j) % p = 0
      rw [v3 k j (by omega) hj hr, i3 j hj hr, Nat.mul_zero]; exact Nat.zero_mod p
    · refine Zc_ext hZ (hZ.2.1 _ _ i4 (hZ.2.2 (p - T.1 (ld k)) _ (v1 k (by omega)))) (fun i hi => ?_)
      rw [hf]
      show nk ((T.1 i + (p - T.1 (ld k)) * kv k i) % p) - nk (v i) - sm f (fun j => nk ((T.2 j + (p - T.1 (ld k)) * km k j) % p) * V j i) = _
      have e : ∀ j, j < f → nk ((T.2 j + (p - T.1 (ld k)) * km k j) % p) * V j i = nk (T.2 j) * V j i + - nk (T.1 (ld k)) * (nk (km k j) * V j i) := fun j _ => by
        rw [nk_mod hz, nk_add, nk_mul, hf]; grind
      rw [sm_congr e, sm_add, sm_mulL, nk_mod hz, nk_add, nk_mul, hf]; grind
    · refine ⟨fun l => if l = k then - nk (T.1 (ld k)) else c l, fun i => ?_⟩
      show nk ((T.1 i + (p - T.1 (ld k)) * kv k i) % p) = _
      rw [nk_mod hz, nk_add, nk_mul, hf, i5 i, sm_succ]
      dsimp only
      have h2 : sm k (fun l => (if l = k then - nk (T.1 (ld k)) else c l) * nk (kv l i)) = sm k (fun l => c l * nk (kv l i)) := sm_congr (fun l hl => by rw [if_neg (by omega)])
      rw [if_pos rfl, h2]; grind
    · intro j hj
      show (T.1 (ld j) + (p - T.1 (ld k)) * kv k (ld j)) % p = 0
      by_cases e : j = k
      · rw [e, (s6 k (by omega)).2.1, Nat.mul_one]
        have := hlt (ld k)
        rw [show T.1 (ld k) + (p - T.1 (ld k)) = p by omega, Nat.mod_self]
      · rw [i6 j (by omega), (s6 k (by omega)).2.2.2 j (by omega), Nat.mul_zero]; exact Nat.zero_mod p
theorem ech {K : Type} [Lean.Grind.CommRing K] {p w m f : Nat} {kv km : Nat → Nat → Nat} {ld : Nat → Nat} (hS : SPN p w m f kv km ld) (a : Nat → K) (h : ∀ j, j < m → sm m (fun k => a k * nk (kv k (ld j))) = 0) : ∀ j, j < m → a j = 0 := by
  obtain ⟨s1, s2, s3, s4, s5, s6, s7⟩ := hS
  intro j
  induction j using Nat.strongRecOn with
  | ind j ih =>
    intro hj
    have h1 := h j hj
    rw [sm_one (k := j) hj (fun i hi hne => by
      by_cases e : i < j
      · rw [ih i e hi]; grind
      · rw [(s6 i hi).2.2.2 j (by omega), nk_0]; grind), (s6 j hj).2.1, nk_1] at h1
    grind
theorem sm_in {K : Type} [Lean.Grind.CommRing K] {w m f : Nat} {kv : Nat → Nat → Nat} {V : Nat → Nat → K} (hD : ∀ j, j < f → ∃ c : Nat → K, ∀ i, i < w → V j i = sm m (fun k => c k * nk (kv k i))) (c : Nat → K) {g : Nat} (hg : g ≤ f) : ∃ d : Nat → K, ∀ i, i < w → sm g (fun l => c l * V l i) = sm m (fun k => d k * nk (kv k i)) := by
  induction g with
  | zero => exact ⟨fun _ => 0, fun i _ => by rw [sm_zero, sm_0 (fun j _ => by grind)]⟩
  | succ g ih =>
    obtain ⟨d, hd⟩ := ih (by omega)
    obtain ⟨e, he⟩ := hD g (by omega)
    refine ⟨fun k => d k + c g * e k, fun i hi => ?_⟩
    rw [sm_succ, hd i hi, he i hi, ← sm_mulL, ← sm_add]
    refine sm_congr (fun k _ => ?_)
    grind
/-- SPAN as a whole: it has been fed f of the vectors V, and kept m; Rl: those that were sums of those ahead -/
def SPI {K : Type} [Lean.Grind.CommRing K] (p w m f : Nat) (Z : (Nat → K) → Prop) (V : Nat → Nat → K) (Rl : Nat → Prop) (I : gI) : Prop := ∃ kv km ld, SPH p w m f kv km ld I ∧ SPN p w m f kv km ld ∧ SPV w m f kv km Z V Rl
theorem feed_ok {K : Type} [Lean.Grind.CommRing K] {p n : Nat} {X : K} {co : K → Nat} {w m f : Nat} {v : Nat → Nat} {Z : (Nat → K) → Prop} {V : Nat → Nat → K} {Rl : Nat → Prop} {I : gI} {R : gR} {S : gS} {N : Nat} (hR : RO K p n X co) (hZ : Zc w Z) (hI : SPI p w m f Z V Rl I) (hpl : ∀ i, i < 8 → I 7 i = nI (p ^ i)) (hf : f < 7) (hv : ∀ i, i < w → I 18 i = nI (v i)) (hvp : ∀ i, v i < p) (hVf : ∀ i, i < w → V f i = nk (v i)) (hSl : S[19]? = some (12, 7)) (hN : 50 ≤ N) :
    ∃ J, Fr 17 36 I J ∧ ((∃ mx : Nat → Nat, mx f = 1 ∧ (∀ j, mx j < p) ∧ (∀ j, f < j → mx j = 0) ∧ (∀ j, j < f → Rl j → mx j = 0) ∧ Z (fun i => V f i + sm f (fun j => nk (mx j) * V j i)) ∧ f_X6_feed N I R S = some (nI (enc p (f + 1) mx), J) ∧ SPI p w m (f + 1) Z V (fun j => j = f ∨ Rl j) J) ∨ (f_X6_feed N I R S = some (0, J) ∧ SPI p w (m + 1) (f + 1) Z V (fun j => j ≠ f ∧ Rl j) J)) := by
  obtain ⟨kv, km, ld, hH, hS, hV⟩ := hI
  have hp := RO_p hR
  have hz := RO_z hR
  obtain ⟨J, j1, j2⟩ := s_feed (N := N) (R := R) (S := S) hR.1 hH hS hpl hf hv hvp hSl hN
  obtain ⟨t1, t2, t3, t4, ⟨c, t5⟩, t6⟩ := tk_math (v := v) hp.1 hz hZ hS hV hvp (Nat.le_refl m)
  have tl := (tk_lt (ld := ld) (kv := kv) (km := km) (show 0 < p by omega) hvp (mx := fun j => if j = f then 1 else 0) (fun j => by split <;> omega) m)
  have hS1 := SPN_f hS hf
  have hS0 := hS
  obtain ⟨s1, s2, s3, s4, s5, s6, s7⟩ := hS
  obtain ⟨v1, v2, v3, v4⟩ := hV
  generalize tk p ld kv km v (fun j => if j = f then 1 else 0) m = T at *
  refine ⟨J, j1, ?_⟩
  have hA : ∀ k, k < m → Z (fun i => nk (kv k i) - sm (f + 1) (fun j => nk (km k j) * V j i)) := fun k hk => by
    refine Zc_ext hZ (v1 k hk) (fun i hi => ?_)
    rw [sm_succ, s7 k f (Nat.le_refl f), nk_0]; grind
  rcases j2 with ⟨a1, a2, a3⟩ | ⟨at_, x, b1, b2, b3, b4, b5, b6⟩
  · refine .inl ⟨T.2, t1, tl.2, t2, t3, ?_, a2, kv, km, ld, a3, hS1, hA, ?_, ?_, ?_⟩
    · refine Zc_ext hZ (hZ.2.2 (p - 1) _ t4) (fun i hi => ?_)
      rw [nk_fac hz (by omega), nk_1, a1 i hi, nk_0, hVf i hi]; grind
    · intro j hj
      by_cases e : j = f
      · subst e
        refine ⟨fun k => - c k, fun i hi => ?_⟩
        have h1 := t5 i
        rw [a1 i hi, nk_0] at h1
        have h2 : sm m (fun k => - c k * nk (kv k i)) = - sm m (fun k => c k * nk (kv k i)) := by
          rw [← sm_neg]; exact sm_congr (fun k _ => by grind)
        rw [h2, hVf i hi]; grind
      · exact v2 j (by omega)
    · intro k j hk hj hr
      by_cases e : j = f
      · rw [e]; exact s7 k f (Nat.le_refl f)
      · exact v3 k j hk (by omega) (hr.resolve_left e)
    · intro j hj hr
      exact v4 j (by have : j ≠ f := fun e => hr (.inl e); omega) (fun h => hr (.inr h))
  · have hx1 : nk (K := K) x * nk (T.1 at_) = 1 := by
      rw [← nk_mul, ← nk_mod hz, b3, nk_1]
    refine .inr ⟨b5, _, _, _, b6, ⟨s1, s2.imp (fun z => by omega) id, by omega, ?_, ?_, ?_, ?_⟩, ?_, ?_, ?_, ?_⟩
    · intro k i
      dsimp only
      split
      · exact Nat.mod_lt _ (by omega)
      · exact s4 k i
    · intro k i
      dsimp only
      split
      · exact Nat.mod_lt _ (by omega)
      · exact s5 k i
    · intro k hk
      by_cases e : k = m
      · subst e
        simp only [if_pos]
        refine ⟨b1, by rw [Nat.mul_comm]; exact b3, fun i hi => by rw [b4 i hi, Nat.zero_mul]; exact Nat.zero_mod p, fun j hj => ?_⟩
        rw [if_neg (by omega), t6 j hj, Nat.zero_mul]; exact Nat.zero_mod p
      · simp only [if_neg e]
        obtain ⟨q1, q2, q3, q4⟩ := s6 k (by omega)
        exact ⟨q1, q2, q3, fun j hj => by rw [if_neg (by omega)]; exact q4 j hj⟩
    · intro k j hj
      dsimp only
      split
      · rw [t2 j (by omega), Nat.zero_mul]; exact Nat.zero_mod p
      · exact s7 k j (by omega)
    · intro k hk
      by_cases e : k = m
      · subst e
        simp only [if_pos]
        refine Zc_ext hZ (hZ.2.2 x _ t4) (fun i hi => ?_)
        have e1 : ∀ j, j < f + 1 → nk (T.2 j * x % p) * V j i = nk x * (nk (T.2 j) * V j i) := fun j _ => by
          rw [nk_mod hz, nk_mul]; grind
        rw [sm_congr e1, sm_mulL, sm_succ, t1, nk_1, nk_mod hz, nk_mul, hVf i hi]; grind
      · simp only [if_neg e]
        exact hA k (by omega)
    · intro j hj
      by_cases e : j = f
      · subst e
        refine ⟨fun k => if k = m then nk (T.1 at_) else - c k, fun i hi => ?_⟩
        rw [sm_succ]
        simp only [if_pos]
        have h2 : sm m (fun k => (if k = m then nk (T.1 at_) else - c k) * nk (if k = m then T.1 i * x % p else kv k i)) = - sm m (fun k => c k * nk (kv k i)) := by
          rw [← sm_neg]; exact sm_congr (fun k hk => by rw [if_neg (by omega), if_neg (by omega)]; grind)
        have h1 := t5 i
        rw [h2, nk_mod hz, nk_mul, hVf i hi]; grind
      · obtain ⟨d, hd⟩ := v2 j (by omega)
        refine ⟨fun k => if k = m then 0 else d k, fun i hi => ?_⟩
        rw [sm_succ, hd i hi]
        simp only [if_pos]
        have h2 : sm m (fun k => (if k = m then 0 else d k) * nk (if k = m then T.1 i * x % p else kv k i)) = sm m (fun k => d k * nk (kv k i)) := sm_congr (fun k hk => by rw [if_neg (by omega), if_neg (by omega)])
        rw [h2]; grind
    · intro k j hk hj hr
      dsimp only
      split
      · rw [t3 j (by have := hr.1; omega) hr.2, Nat.zero_mul]; exact Nat.zero_mod p
      · exact v3 k j (by omega) (by have := hr.1; omega) hr.2
    · intro j hj hr
      by_cases e : j = f
      · subst e
        rintro ⟨d, hd⟩
        obtain ⟨g, hg⟩ := sm_in v2 d (Nat.le_refl j)
        have hall : ∀ i, i < w → nk (T.1 i) = sm m (fun k => (g k + c k) * nk (kv k i)) := fun i hi => by
          have e2 : ∀ k, k < m → (g k + c k) * nk (kv k i) = g k * nk (kv k i) + c k * nk (kv k i) := fun k _ => by grind
          rw [sm_congr e2, sm_add, t5 i, ← hVf i hi, hd i hi, hg i hi]
        have hz2 := ech hS0 (fun k => g k + c k) (fun l hl => by rw [← hall _ (s6 l hl).1, t6 l hl, nk_0])
        have h3 := hall at_ b1
        rw [sm_0 (fun k hk => by have := hz2 k hk; rw [this]; grind)] at h3
        rw [h3] at hx1
        exact RO_ne hR (by grind)
      · exact v4 j (by omega) (fun h => hr ⟨e, h⟩)
end SpanM
