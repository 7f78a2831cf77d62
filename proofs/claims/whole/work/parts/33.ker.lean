/-! kernels: the relations that were found are all there is, and in order -/
section Ker
/-- b relations among the first i rows of V: relation s is at row io s, its figures B s -/
def KD {K : Type} [Lean.Grind.CommRing K] (p : Nat) (V : Nat → Nat → K) (w i b : Nat) (io : Nat → Nat) (B : Nat → Nat → Nat) (Rl : Nat → Prop) : Prop :=
  (∀ s, s < b → io s < i ∧ Rl (io s)) ∧ (∀ j, Rl j → j < i ∧ ∃ s, s < b ∧ io s = j) ∧ (∀ s u, s < u → u < b → io s < io u) ∧
  (∀ s, s < b → B s (io s) = 1 ∧ (∀ j, io s < j → B s j = 0) ∧ (∀ u, u < s → B s (io u) = 0) ∧ (∀ j, B s j < p) ∧ ∀ l, l < w → sm i (fun j => nk (B s j) * V j l) = 0)
theorem KD_0 {K : Type} [Lean.Grind.CommRing K] (p : Nat) (V : Nat → Nat → K) (w : Nat) (io : Nat → Nat) (B : Nat → Nat → Nat) : KD p V w 0 0 io B (fun _ => False) :=
  ⟨fun s h => by omega, fun j h => h.elim, fun s u h1 h2 => by omega, fun s h => by omega⟩
theorem KD_rel {K : Type} [Lean.Grind.CommRing K] {p : Nat} {V : Nat → Nat → K} {w i b : Nat} {io : Nat → Nat} {B : Nat → Nat → Nat} {Rl : Nat → Prop} (h : KD p V w i b io B Rl) {mx : Nat → Nat} (h1 : mx i = 1) (h2 : ∀ j, mx j < p) (h3 : ∀ j, i < j → mx j = 0) (h4 : ∀ j, j < i → Rl j → mx j = 0) (h5 : ∀ l, l < w → V i l + sm i (fun j => nk (mx j) * V j l) = 0) : KD p V w (i + 1) (b + 1) (fun s => if s = b then i else io s) (fun s => if s = b then mx else B s) (fun j => j = i ∨ Rl j) := by
  obtain ⟨a1, a2, a3, a4⟩ := h
  refine ⟨fun s hs => ?_, fun j hj => ?_, fun s u h6 h7 => ?_, fun s hs => ?_⟩
  · by_cases e : s = b
    · simp only [if_pos e]; exact ⟨by omega, .inl trivial⟩
    · simp only [if_neg e]
      have := a1 s (by omega)
      exact ⟨by omega, .inr this.2⟩
  · rcases hj with hj | hj
    · exact ⟨by omega, b, by omega, by simp only [if_pos]; exact hj.symm⟩
    · obtain ⟨q1, s, q2, q3⟩ := a2 j hj
      exact ⟨by omega, s, by omega, by simp only [if_neg (show s ≠ b by omega)]; exact q3⟩
  · simp only [if_neg (show s ≠ b by omega)]
    by_cases e : u = b
    · simp only [if_pos e]; exact (a1 s (by omega)).1
    · simp only [if_neg e]; exact a3 s u h6 (by omega)
  · by_cases e : s = b
    · simp only [if_pos e]
      refine ⟨h1, h3, fun u hu => ?_, h2, fun l hl => ?_⟩
      · rw [if_neg (by omega)]
        have := a1 u (by omega)
        exact h4 _ this.1 this.2
      · rw [sm_succ, h1, nk_1, ← h5 l hl]; grind
    · simp only [if_neg e]
      obtain ⟨c1, c2, c3, c4, c5⟩ := a4 s (by omega)
      refine ⟨c1, c2, fun u hu => by rw [if_neg (by omega)]; exact c3 u hu, c4, fun l hl => ?_⟩
      rw [sm_succ, c5 l hl, c2 i (by have := (a1 s (by omega)).1; omega), nk_0]; grind
theorem KD_keep {K : Type} [Lean.Grind.CommRing K] {p : Nat} {V : Nat → Nat → K} {w i b : Nat} {io : Nat → Nat} {B : Nat → Nat → Nat} {Rl : Nat → Prop} (h : KD p V w i b io B Rl) : KD p V w (i + 1) b io B (fun j => j ≠ i ∧ Rl j) := by
  obtain ⟨a1, a2, a3, a4⟩ := h
  refine ⟨fun s hs => ?_, fun j hj => ?_, a3, fun s hs => ?_⟩
  · have := a1 s hs
    exact ⟨by omega, by omega, this.2⟩
  · obtain ⟨q1, q2⟩ := a2 j hj.2
    exact ⟨by omega, q2⟩
  · obtain ⟨c1, c2, c3, c4, c5⟩ := a4 s hs
    refine ⟨c1, c2, c3, c4, fun l hl => ?_⟩
    rw [sm_succ, c5 l hl, c2 i (a1 s hs).1, nk_0]; grind
/-- the i-th sum of the relations, as figures -/
def kS (p b : Nat) (B : Nat → Nat → Nat) (i j : Nat) : Nat := match b with
  | 0 => 0
  | b + 1 => kS p b B i j + dig p i b * B b j
theorem kS_nk {K : Type} [Lean.Grind.CommRing K] (p b : Nat) (B : Nat → Nat → Nat) (i j : Nat) : (nk (kS p b B i j) : K) = sm b (fun s => nk (dig p i s) * nk (B s j)) := by
  induction b with
  | zero => rfl
  | succ b ih => rw [kS, nk_add, nk_mul, ih]; rfl
theorem kS_io {K : Type} [Lean.Grind.CommRing K] {p : Nat} {V : Nat → Nat → K} {w n b : Nat} {io : Nat → Nat} {B : Nat → Nat → Nat} {Rl : Nat → Prop} (h : KD p V w n b io B Rl) {s : Nat} (hs : s < b) (i : Nat) {c : Nat} (hc : c ≤ b) : kS p c B i (io s) = if s < c then dig p i s else 0 := by
  induction c with
  | zero => rfl
  | succ c ih =>
    rw [kS, ih (by omega)]
    by_cases e : s = c
    · rw [e, if_neg (by omega), if_pos (by omega), (h.2.2.2 c (by omega)).1]; omega
    · have h0 : B c (io s) = 0 := by
        by_cases e2 : s < c
        · exact (h.2.2.2 c (by omega)).2.2.1 s e2
        · exact (h.2.2.2 c (by omega)).2.1 _ (h.2.2.1 c s (by omega) hs)
      rw [h0, Nat.mul_zero, Nat.add_zero]
      by_cases e2 : s < c
      · rw [if_pos e2, if_pos (by omega)]
      · rw [if_neg e2, if_neg (by omega)]
theorem kS_hi {K : Type} [Lean.Grind.CommRing K] {p : Nat} {V : Nat → Nat → K} {w n b : Nat} {io : Nat → Nat} {B : Nat → Nat → Nat} {Rl : Nat → Prop} (h : KD p V w n b io B Rl) {s : Nat} (hs : s < b) {i k : Nat} (hik : ∀ u, s < u → dig p i u = dig p k u) {j : Nat} (hj : io s < j) {c : Nat} (hc : c ≤ b) : kS p c B i j = kS p c B k j := by
  induction c with
  | zero => rfl
  | succ c ih =>
    rw [kS, kS, ih (by omega)]
    by_cases e : s < c
    · rw [hik c e]
    · have h0 : B c j = 0 := (h.2.2.2 c (by omega)).2.1 j (by
        by_cases e2 : c = s
        · rw [e2]; exact hj
        · exact Nat.lt_trans (h.2.2.1 c s (by omega) hs) hj)
      rw [h0, Nat.mul_zero, Nat.mul_zero]
/-- two codes: the highest figure in which they differ decides -/
theorem enc_cmp {p n : Nat} {f g : Nat → Nat} (hf : ∀ i, i < n → f i < p) (s : Nat) (hs : s < n) (h1 : ∀ j, s < j → j < n → f j = g j) (h2 : f s < g s) : enc p n f < enc p n g := by
  induction n with
  | zero => omega
  | succ n ih =>
    rw [enc, enc]
    by_cases e : s = n
    · subst e
      have := enc_lt (p := p) (n := s) (f := f) (fun i hi => hf i (by omega))
      have h3 := Nat.mul_le_mul_right (p ^ s) (show f s + 1 ≤ g s by omega)
      rw [Nat.succ_mul] at h3
      omega
    · have := ih (fun i hi => hf i (by omega)) (by omega) (fun j h3 h4 => h1 j h3 (by omega))
      rw [h1 n (by omega) (by omega)]
      omega
theorem dig_top_ne {p b i k : Nat} (hp : 2 ≤ p) (hi : i < p ^ b) (hk : k < p ^ b) (h : i < k) : ∃ s, s < b ∧ dig p i s < dig p k s ∧ ∀ u, s < u → dig p i u = dig p k u := by
  apply Classical.byContradiction
  intro hn
  have hall : ∀ c, c ≤ b → ∀ u, b - c ≤ u → dig p i u = dig p k u := by
    intro c
    induction c with
    | zero =>
      intro _ u hu
      rw [dig_ge hi (by omega) (by omega), dig_ge hk (by omega) (by omega)]
    | succ c ih =>
      intro hc u hu
      by_cases e : u = b - (c + 1)
      · have ih2 := ih (by omega)
        rcases Nat.lt_trichotomy (dig p i u) (dig p k u) with h1 | h1 | h1
        · exact absurd ⟨u, by omega, h1, fun v hv => ih2 v (by omega)⟩ hn
        · exact h1
        · have := enc_cmp (p := p) (n := b) (f := dig p k) (g := dig p i) (fun j _ => dig_lt (by omega) _ _) u (by omega) (fun j h2 _ => (ih2 j (by omega)).symm) h1
          rw [enc_dig hi, enc_dig hk] at this
          omega
      · exact ih (by omega) u (by omega)
  have := dig_inj hi hk (fun j _ => hall b (Nat.le_refl b) j (by omega))
  omega
theorem dk_el {K : Type} [Lean.Grind.CommRing K] {p n : Nat} {X : K} {co : K → Nat} (hR : RO K p n X co) (y : K) : y = sm n (fun j => dk p co j y * X ^ j) := (RO_el hR y).symm
theorem ker_ok {K : Type} [Lean.Grind.CommRing K] {p n : Nat} {X : K} {co : K → Nat} (hR : RO K p n X co) {M b : Nat} {L : Nat → K → K} {io : Nat → Nat} {B : Nat → Nat → Nat} {Rl : Nat → Prop} (hL : ∀ m (c : Nat → Nat), m < M → L m (sm n (fun j => nk (c j) * X ^ j)) = sm n (fun j => nk (c j) * L m (X ^ j))) (h : KD p (Wv p n co (fun j m => L m (X ^ j))) (M * n) n b io B Rl) (hF : ∀ j, j < n → ¬ Rl j → ¬ ∃ c : Nat → K, ∀ i, i < M * n → Wv p n co (fun j m => L m (X ^ j)) j i = sm j (fun l => c l * Wv p n co (fun j m => L m (X ^ j)) l i)) :
    ∃ kp : Nat → K, (∀ i, kp i = sm n (fun j => nk (kS p b B i j) * X ^ j)) ∧ (∀ i m, m < M → L m (kp i) = 0) ∧ (∀ z, (∀ m, m < M → L m z = 0) → ∃ i, i < p ^ b ∧ kp i = z) ∧ (∀ i k, i < k → k < p ^ b → co (kp i) < co (kp k)) := by
  have hp := RO_p hR
  have hn1 := hR.2.1
  have hco : ∀ i, co (sm n (fun j => nk (kS p b B i j) * X ^ j)) = enc p n (fun j => kS p b B i j % p) := fun i => by
    rw [← el_enc (by omega) (RO_z hR)]
    exact RO_co hR (enc_cut (by omega) _)
  refine ⟨fun i => sm n (fun j => nk (kS p b B i j) * X ^ j), fun i => rfl, fun i m hm => ?_, fun z hz => ?_, fun i k hik hk => ?_⟩
  · rw [hL m _ hm]
    have e1 : ∀ j, j < n → nk (kS p b B i j) * L m (X ^ j) = sm b (fun s => nk (dig p i s) * (nk (B s j) * L m (X ^ j))) := fun j _ => by
      rw [kS_nk, ← sm_mulR]
      exact sm_congr (fun s _ => by grind)
    rw [sm_congr e1, sm_comm]
    refine sm_0 (fun s hs => ?_)
    rw [sm_mulL]
    have h5 := (h.2.2.2 s hs).2.2.2.2
    have : sm n (fun j => nk (B s j) * L m (X ^ j)) = 0 := by
      refine dk_all hR (fun l hl => ?_)
      rw [dk_sm hR hl]
      have hlt : m * n + l < M * n := by
        have := Nat.mul_le_mul_right n (show m + 1 ≤ M by omega)
        rw [Nat.succ_mul] at this
        omega
      rw [← h5 _ hlt]
      exact sm_congr (fun j _ => by rw [Wv_at j m hl])
    rw [this]; grind
  · have hel : z = sm n (fun j => nk (dig p (co z) j) * X ^ j) := (RO_el hR z).symm
    refine ⟨enc p b (fun s => dig p (co z) (io s)), enc_lt (fun s _ => dig_lt (by omega) _ _), ?_⟩
    generalize hi : enc p b (fun s => dig p (co z) (io s)) = i
    have hdi : ∀ s, s < b → dig p i s = dig p (co z) (io s) := fun s hs => by rw [← hi, dig_enc (fun _ _ => dig_lt (by omega) _ _) hs]
    -- the difference has no figure at a relation, and is taken to nothing
    have hdiff : ∀ j, j < n → (nk (dig p (co z) j) - nk (kS p b B i j) : K) = 0 := by
      have hR0 : ∀ j, Rl j → (nk (dig p (co z) j) - nk (kS p b B i j) : K) = 0 := fun j hj => by
        obtain ⟨_, s, hs, e⟩ := h.2.1 j hj
        rw [← e, kS_io h hs i (Nat.le_refl b), if_pos hs, hdi s hs]; grind
      have hsum : ∀ l, l < M * n → sm n (fun j => (nk (dig p (co z) j) - nk (kS p b B i j)) * Wv p n co (fun j m => L m (X ^ j)) j l) = 0 := fun l hl => by
        have h1 := Nat.mod_lt l (show 0 < n by omega)
        have h2 : l / n < M := (Nat.div_lt_iff_lt_mul (by omega)).mpr hl
        have e1 : ∀ j, j < n → (nk (dig p (co z) j) - nk (kS p b B i j)) * Wv p n co (fun j m => L m (X ^ j)) j l = nk (dig p (co z) j) * dk p co (l % n) (L (l / n) (X ^ j)) - nk (kS p b B i j) * dk p co (l % n) (L (l / n) (X ^ j)) := fun j _ => by unfold Wv; grind
        rw [sm_congr e1, sm_sub, ← dk_sm hR h1, ← dk_sm hR h1, ← hL _ _ h2, ← hL _ _ h2, ← hel, hz _ h2]
        have e2 : L (l / n) (sm n (fun j => nk (kS p b B i j) * X ^ j)) = 0 := by
          rw [hL _ _ h2]
          have e3 : ∀ j, j < n → nk (kS p b B i j) * L (l / n) (X ^ j) = sm b (fun s => nk (dig p i s) * (nk (B s j) * L (l / n) (X ^ j))) := fun j _ => by
            rw [kS_nk, ← sm_mulR]
            exact sm_congr (fun s _ => by grind)
          rw [sm_congr e3, sm_comm]
          refine sm_0 (fun s hs => ?_)
          rw [sm_mulL]
          have h5 := (h.2.2.2 s hs).2.2.2.2
          have : sm n (fun j => nk (B s j) * L (l / n) (X ^ j)) = 0 := by
            refine dk_all hR (fun o ho => ?_)
            rw [dk_sm hR ho]
            have hlt : l / n * n + o < M * n := by
              have := Nat.mul_le_mul_right n (show l / n + 1 ≤ M by omega)
              rw [Nat.succ_mul] at this
              omega
            rw [← h5 _ hlt]
            exact sm_congr (fun j _ => by rw [Wv_at j (l / n) ho])
          rw [this]; grind
        rw [e2, dk_0 hR]; grind
      generalize hgen : (fun j => (nk (dig p (co z) j) - nk (kS p b B i j) : K)) = a at *
      have ha : ∀ j, (nk (dig p (co z) j) - nk (kS p b B i j) : K) = a j := fun j => by rw [← hgen]
      simp only [ha] at hR0 hsum ⊢
      have hdown : ∀ c, c ≤ n → ∀ j, n - c ≤ j → j < n → a j = 0 := by
        intro c
        induction c with
        | zero => intro _ j h1 h2; omega
        | succ c ih =>
          intro hc j h1 h2
          by_cases e : j = n - (c + 1)
          · by_cases hr : Rl j
            · exact hR0 j hr
            · apply Classical.byContradiction
              intro hne
              refine hF j h2 hr ⟨fun l => - (a j ^ (p ^ n - 2)) * a l, fun l hl => ?_⟩
              have h3 := hsum l hl
              rw [sm_ext (n := j + 1) (by omega) (fun o o1 o2 => by rw [ih (by omega) o (by omega) o2]; grind), sm_succ] at h3
              have h4 := inv_ok hR hne
              have e4 : ∀ o, o < j → - (a j ^ (p ^ n - 2)) * a o * Wv p n co (fun j m => L m (X ^ j)) o l = - (a j ^ (p ^ n - 2)) * (a o * Wv p n co (fun j m => L m (X ^ j)) o l) := fun o _ => by grind
              rw [sm_congr e4, sm_mulL]
              generalize a j ^ (p ^ n - 2) = bb at *
              generalize sm j (fun o => a o * Wv p n co (fun j m => L m (X ^ j)) o l) = ss at *
              grind
          · exact ih (by omega) j (by omega) h2
      intro j hj
      exact hdown n (Nat.le_refl n) j (by omega) hj
    rw [hel]
    refine sm_congr (fun j hj => ?_)
    have := hdiff j hj
    grind
  · obtain ⟨s, s1, s2, s3⟩ := dig_top_ne hp.1 (Nat.lt_trans hik hk) hk hik
    rw [hco, hco]
    refine enc_cmp (fun j _ => Nat.mod_lt _ (by omega)) (io s) (h.1 s s1).1 (fun j h1 h2 => ?_) ?_
    · rw [kS_hi h s1 s3 h1 (Nat.le_refl b)]
    · rw [kS_io h s1 i (Nat.le_refl b), kS_io h s1 k (Nat.le_refl b), if_pos s1, if_pos s1, Nat.mod_eq_of_lt (dig_lt (by omega) _ _), Nat.mod_eq_of_lt (dig_lt (by omega) _ _)]
      exact s2
end Ker
