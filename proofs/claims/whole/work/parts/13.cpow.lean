/-! the class's field: negative, powers, raised; figures of codes -/
section CPow
theorem iter_wpb {σ ρ τ : Type} {b : σ → Option (σ ⊕ ρ)} {K : ρ → Option τ} {x : Option τ} (P : Nat → σ → Prop) (k : Nat) {N : Nat} {s : σ} (h0 : P 0 s) (hs : ∀ i s, i ≤ k → P i s → (∃ s', b s = some (.inl s') ∧ i < k ∧ P (i + 1) s') ∨ (∃ r, b s = some (.inr r) ∧ K r = x)) (hN : k < N) : (iter b N s).bind K = x := by
  obtain ⟨r, h1, h2⟩ := iter_wp P (fun r => K r = x) k h0 hs hN
  rw [h1]; exact h2
theorem iter_wpe {σ ρ τ : Type} {b : σ → Option (σ ⊕ ρ)} {K : ρ → Option τ} {Q : τ → Prop} (P : Nat → σ → Prop) (k : Nat) {N : Nat} {s : σ} (h0 : P 0 s) (hs : ∀ i s, i ≤ k → P i s → (∃ s', b s = some (.inl s') ∧ i < k ∧ P (i + 1) s') ∨ (∃ r, b s = some (.inr r) ∧ ∃ y, K r = some y ∧ Q y)) (hN : k < N) : ∃ y, (iter b N s).bind K = some y ∧ Q y := by
  obtain ⟨r, h1, h2⟩ := iter_wp P (fun r => ∃ y, K r = some y ∧ Q y) k h0 hs hN
  rw [h1]; exact h2
theorem s_negative {K : Type} [Lean.Grind.CommRing K] {p n : Nat} {X : K} {co : K → Nat} {I : gI} {R : gR} {S : gS} {N : Nat} (hR : RO K p n X co) (hF : FH0 p n I) (a : K) (hN : 12 ≤ N) :
    f_X2_negative N I R S (nI (co a)) = some (nI (co (- a)), I) := by
  have hp := RO_p hR
  have hn6 := hR.2.2.1
  unfold f_X2_negative
  have h0 := s_addTimes (R := R) (S := S) (N := N) (t := fun _ => 0) (e := co a) (c := p - 1) hF.1 hp.1 hp.2 hn6 (co_31 hR a) (by omega)
  rw [T16_self hF.2] at h0
  rw [hF.1.1, dn1 p (by omega), h0]
  show (f_X2_folded N _ R S).bind _ = _
  have hd : ∀ k, dig p (co a) k ≤ 4 := fun k => by have := dig_lt (show 0 < p by omega) (co a) k; omega
  rw [s_folded hR hF.1 (fun k => by
    have := Nat.mul_le_mul (hd k) (show p - 1 ≤ 4 by omega)
    show (if k < n then 0 + dig p (co a) k * (p - 1) else 0) ≤ 100000
    split <;> omega) (fun k h2 _ => by
    have := hR.2.1
    by_cases h3 : k < n
    · exact absurd h2 (by omega)
    · exact if_neg h3) hN, T16_self hF.2]
  show some _ = _
  rw [el_val hn6, RO_el hR, nk_sub (by omega), RO_z hR, nk_1, show (0 - 1) * a = - a by grind]
theorem s_power {K : Type} [Lean.Grind.CommRing K] {p n : Nat} {X : K} {co : K → Nat} {I : gI} {R : gR} {S : gS} {N : Nat} (hR : RO K p n X co) (hF : FH0 p n I) (a : K) {e : Nat} (he : e < 2147483648) (hN : 40 ≤ N) :
    f_X2_power N I R S (nI (co a)) (nI e) = some (nI (co (a ^ e)), I) := by
  unfold f_X2_power
  refine iter_wpb (fun i s => ∃ m sq : K, s = (nI (co m), nI (co sq), nI (e / 2 ^ i), I) ∧ m * sq ^ (e / 2 ^ i) = a ^ e) 31 ?_ ?_ (by omega)
  · refine ⟨1, a, ?_, by rw [Nat.pow_zero, Nat.div_one]; grind⟩
    rw [RO_1 hR, Nat.pow_zero, Nat.div_one]; rfl
  · rintro i _ hi ⟨m, sq, rfl, hv⟩
    have hd : e / 2 ^ i < 2147483648 := Nat.lt_of_le_of_lt (Nat.div_le_self _ _) he
    have hnext : e / 2 ^ (i + 1) = e / 2 ^ i / 2 := (div_div_pow 2 e i).symm
    generalize hr : e / 2 ^ i = r at *
    rw [show (2 : Int32) = nI 2 from rfl, show (1 : Int32) = nI 1 from rfl]
    by_cases hz : r = 0
    · refine .inr ⟨(nI (co m), I), if_pos (by show nI r ≤ 0; rw [hz, nI_0]; decide), ?_⟩
      rw [hz, Lean.Grind.Semiring.pow_zero] at hv
      rw [← hv, show m * 1 = m by grind]
    · refine .inl ?_
      have hi2 : i < 31 := by
        apply Classical.byContradiction
        intro h
        rw [show i = 31 by omega, Nat.div_eq_of_lt he] at hr
        omega
      simp (disch := omega) only [nI_nle, if_false, gnz, pk_div, pk_mul, pk_rem2]
      rw [hnext]
      have h3 := Nat.div_add_mod r 2
      by_cases h1 : r % 2 = 1
      · rw [h1, if_pos rfl, s_times hR hF m sq (by omega)]
        by_cases h4 : r ≤ 1
        · refine ⟨(nI (co (m * sq)), nI (co sq), nI (r / 2), I), ?_, hi2, m * sq, sq, rfl, ?_⟩
          · show (if nI r ≤ nI 1 then _ else _) = _
            rw [gle_t h4 (by omega)]
          · rw [← hv, show r / 2 = 0 by omega, show r = 1 by omega, Lean.Grind.Semiring.pow_zero, Lean.Grind.Semiring.pow_one]; grind
        · refine ⟨(nI (co (m * sq)), nI (co (sq * sq)), nI (r / 2), I), ?_, hi2, m * sq, sq * sq, rfl, ?_⟩
          · show (if nI r ≤ nI 1 then _ else _) = _
            rw [gle_f (by omega) (by omega)]
            show (f_X2_times N I R S (nI (co sq)) (nI (co sq))).bind _ = _
            rw [s_times hR hF sq sq (by omega)]; rfl
          · rw [← hv, ← Lean.Grind.Semiring.pow_two, ← pw_mul]
            have : sq ^ r = sq * sq ^ (2 * (r / 2)) := by
              rw [pow_pred sq (show 0 < r by omega)]; congr 2; omega
            rw [this]; grind
      · rw [show r % 2 = 0 by omega, if_neg (by decide)]
        refine ⟨(nI (co m), nI (co (sq * sq)), nI (r / 2), I), ?_, hi2, m, sq * sq, rfl, ?_⟩
        · show (if nI r ≤ nI 1 then _ else _) = _
          rw [gle_f (by omega) (by omega)]
          show (f_X2_times N I R S (nI (co sq)) (nI (co sq))).bind _ = _
          rw [s_times hR hF sq sq (by omega)]; rfl
        · rw [← hv, ← Lean.Grind.Semiring.pow_two, ← pw_mul]
          congr 2; omega
/-- the class's field as it stands between calls -/
def FH {K : Type} [Lean.Grind.CommRing K] (p n : Nat) (X : K) (co : K → Nat) (I : gI) : Prop := FH0 p n I ∧ I 6 2 = nI (p ^ n) ∧ I 6 3 = nI (mo p n) ∧ (∀ i, i < 8 → I 7 i = nI (p ^ i)) ∧ ∀ i j, i < n → j < n → I (10 + i) j = nI (dig p (co ((X ^ i) ^ p)) j)
theorem s_inverse {K : Type} [Lean.Grind.CommRing K] {p n : Nat} {X : K} {co : K → Nat} {I : gI} {R : gR} {S : gS} {N : Nat} (hR : RO K p n X co) (hF : FH p n X co I) (a : K) (hN : 40 ≤ N) :
    f_X2_inverse N I R S (nI (co a)) = some (nI (co (a ^ (p ^ n - 2))), I) := by
  have hq := RO_q hR
  unfold f_X2_inverse
  rw [hF.2.1, show (2 : Int32) = nI 2 from rfl, pk_sub hq.1, s_power hR hF.1 a (by omega) hN]
  rfl
/-- sums of rows: figures of e times rows rx i -/
def rvN (p : Nat) (rx : Nat → Nat → Nat) (e : Nat) : Nat → Nat → Nat
  | 0, _ => 0
  | i + 1, j => rvN p rx e i j + dig p e i * rx i j
theorem rvN_le {p : Nat} {rx : Nat → Nat → Nat} {e : Nat} (hp : 2 ≤ p) (hp5 : p ≤ 5) (hr : ∀ i j, rx i j < p) (i j : Nat) : rvN p rx e i j ≤ 16 * i := by
  induction i with
  | zero => simp [rvN]
  | succ i ih =>
    rw [rvN]
    have h1 : dig p e i ≤ 4 := by have := dig_lt (show 0 < p by omega) e i; omega
    have h2 : rx i j ≤ 4 := by have := hr i j; omega
    have h3 := Nat.mul_le_mul h1 h2
    omega
theorem rvN_val {K : Type} [Lean.Grind.CommRing K] (p : Nat) (rx : Nat → Nat → Nat) (e i j : Nat) : (nk (rvN p rx e i j) : K) = sm i (fun m => nk (dig p e m) * nk (rx m j)) := by
  induction i with
  | zero => rfl
  | succ i ih => rw [rvN, nk_add, nk_mul, ih, sm_succ]
theorem s_raised {K : Type} [Lean.Grind.CommRing K] {p n : Nat} {X : K} {co : K → Nat} {I : gI} {R : gR} {S : gS} {N : Nat} (hR : RO K p n X co) (hF : FH p n X co I) (a : K) (hN : 12 ≤ N) :
    f_X2_raised N I R S (nI (co a)) = some (nI (co (a ^ p)), I) := by
  have hp := RO_p hR
  have hn6 := hR.2.2.1
  have hn1 := hR.2.1
  have h1 : ∀ t, T16 I t 6 1 = nI n := fun t => (FN_T hF.1.1 t).2.1
  have h0 : ∀ t, T16 I t 6 0 = nI p := fun t => (FN_T hF.1.1 t).1
  have hx : ∀ t (i j : Nat), i < n → j < n → T16 I t (10 + i) j = nI (dig p (co ((X ^ i) ^ p)) j) := fun t i j hi hj => by
    rw [T16_ne _ _ _ (by omega)]; exact hF.2.2.2.2 i j hi hj
  have hxl : ∀ (i j : Nat), dig p (co ((X ^ i) ^ p)) j < p := fun i j => dig_lt (by omega) _ _
  generalize hrx : (fun (i j : Nat) => dig p (co ((X ^ i) ^ p)) j) = rx at *
  have hxr : ∀ (i j : Nat), dig p (co ((X ^ i) ^ p)) j = rx i j := fun i j => by rw [← hrx]
  simp only [hxr] at hx hxl
  have ca := co_31 hR a
  unfold f_X2_raised
  refine iter_bind (fun i => (nI (co a / p ^ i), nI i, T16 I (fun j => if j < n then rvN p rx (co a) i j else 0))) n (T16 I (fun j => if j < n then rvN p rx (co a) n j else 0)) ?_ ?_ ?_ (by omega) ?_
  · simp only [Nat.pow_zero, Nat.div_one, nI_0, rvN]
    congr 3
    refine (T16_self hF.1.2).symm.trans ?_
    congr 1
    funext j
    split <;> rfl
  · intro i hi
    have hd : co a / p ^ i < 2147483648 := Nat.lt_of_le_of_lt (Nat.div_le_self _ _) ca
    have hm : co a / p ^ i % p < p := Nat.mod_lt _ (by omega)
    simp (disch := omega) only [h1, gle_f, h0, gnz, pk_div, pk_mul, pk_rem2, nI_1, nI_clamp]
    simp only [div_div_pow]
    by_cases hz : co a / p ^ i % p = 0
    · refine iter_bind (fun j => (nI j, T16 I (fun j => if j < n then rvN p rx (co a) i j else 0))) 0 (T16 I (fun j => if j < n then rvN p rx (co a) i j else 0)) (by simp [nI_0]) (fun j hj => by omega) ?_ (by omega) ?_
      · simp (disch := omega) only [h1, gle_f, hz, g0_t]
      · congr 5
        funext k
        simp [rvN, dig, hz]
    · refine iter_bind (fun m => (nI m, T16 I (fun j => if j < m then rvN p rx (co a) (i + 1) j else if j < n then rvN p rx (co a) i j else 0))) n (T16 I (fun j => if j < n then rvN p rx (co a) (i + 1) j else 0)) ?_ ?_ ?_ (by omega) rfl
      · simp [nI_0]
      · intro j hj
        simp (disch := omega) only [h1, gle_f, h0, gnz, g0_f, gin2, nI_add, nI_clamp, hx, T16_at, pk_mul, T16_up, nI_1]
        congr 4
        funext k
        by_cases hk : k = j
        · subst hk
          rw [if_pos rfl, if_neg (by omega), if_pos (by omega), if_pos (by omega)]
          rfl
        · rw [if_neg hk]
          by_cases hk2 : k < j
          · rw [if_pos hk2, if_pos (by omega)]
          · rw [if_neg hk2, if_neg (show ¬ k < j + 1 by omega)]
      · simp (disch := omega) only [h1, gle_t]
        congr 3
        funext k
        by_cases hk : k < n
        · rw [if_pos hk, if_pos hk]
        · rw [if_neg hk, if_neg hk, if_neg hk]
  · simp (disch := omega) only [h1, gle_t]
  · show (f_X2_folded N _ R S).bind _ = _
    rw [s_folded hR hF.1.1 (fun k => by
      have := rvN_le (e := co a) hp.1 hp.2 hxl n k
      show (if k < n then rvN p rx (co a) n k else 0) ≤ 100000
      split <;> omega) (fun k h2 _ => if_neg (by omega)) hN, T16_self hF.1.2]
    show some _ = _
    refine congrArg (fun z => some (nI (co z), I)) ?_
    rw [sm_ext (n := n) (by omega) (fun j h1 h2 => by rw [if_neg (by omega), nk_0]; grind)]
    have e1 : ∀ j, j < n → nk (if j < n then rvN p rx (co a) n j else 0) * X ^ j = sm n (fun m => nk (dig p (co a) m) * nk (rx m j) * X ^ j) := fun j hj => by
      rw [if_pos hj, rvN_val, sm_mulR]
    rw [sm_congr e1, sm_comm]
    have e2 : ∀ m, m < n → sm n (fun j => nk (dig p (co a) m) * nk (rx m j) * X ^ j) = (nk (dig p (co a) m) * X ^ m) ^ p := fun m hm => by
      rw [fr_mul, fr_nk hR, ← RO_el hR ((X ^ m) ^ p)]
      unfold el
      rw [← sm_mulL]
      refine sm_congr (fun j _ => ?_)
      rw [hxr]; grind
    rw [sm_congr e2, ← fr_sm hR]
    show (el p n X (co a)) ^ p = _
    rw [RO_el hR]
end CPow
