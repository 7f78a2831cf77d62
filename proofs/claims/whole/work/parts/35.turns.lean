/-! how many turn one world to another: both sides -/
section Turns
def Lt {K : Type} [Lean.Grind.CommRing K] (p : Nat) (t u : Nat → K) (m : Nat) (z : K) : K := - (t m * z ^ (p ^ m)) + u m * z
theorem Lt_lin {K : Type} [Lean.Grind.CommRing K] {p n : Nat} {X : K} {co : K → Nat} (hR : RO K p n X co) (t u : Nat → K) (m l : Nat) (c : Nat → Nat) (y : Nat → K) : Lt p t u m (sm l (fun j => nk (c j) * y j)) = sm l (fun j => nk (c j) * Lt p t u m (y j)) := by
  unfold Lt
  rw [frk_sm hR]
  have e1 : ∀ j, j < l → nk (c j) * (- (t m * y j ^ (p ^ m)) + u m * y j) = - (t m * (nk (c j) * y j) ^ (p ^ m)) + u m * (nk (c j) * y j) := fun j _ => by
    rw [frk_mul, frk_nk hR]; grind
  rw [sm_congr e1, sm_add, sm_neg, sm_mulL, sm_mulL]
theorem s_putTurning {K : Type} [Lean.Grind.CommRing K] {p n : Nat} {X : K} {co : K → Nat} {I : gI} {R : gR} {S : gS} {N w v r W : Nat} {t u : Nat → K} (hR : RO K p n X co) (hF : FH p n X co I) (h1 : CW co I R S w r t) (h2 : CW co I R S v r u) (hr : r ≤ 3) (h17 : I 17 1 = nI p) (hW : I 17 7 = nI W) (hW36 : W ≤ 36) (hWr : (r + 1) * n ≤ W) (h37 : I 37 2 = nI n) (c : K) (hN : 60 ≤ N) :
    ∃ J, f_X8_putTurning N I R S w v (nI (co c)) = some J ∧ (∀ a, a ≠ 18 → J a = I a) ∧ ∀ m i, m < r + 1 → i < n → J 18 (m * n + i) = nI (dig p (co (Lt p t u m c)) i) := by
  have hp := RO_p hR
  have hn1 := hR.2.1
  have hn6 := hR.2.2.1
  unfold f_X8_putTurning
  rw [if_pos h1.1, if_pos h2.1]
  refine iter_wpe (fun k s => ∃ J, s = (nI (co (c ^ (p ^ k))), nI k, J) ∧ (∀ a, a ≠ 18 → J a = I a) ∧ ∀ m i, m < k → i < n → J 18 (m * n + i) = nI (dig p (co (Lt p t u m c)) i)) (r + 1) ⟨I, by rw [Nat.pow_zero, Lean.Grind.Semiring.pow_one, nI_0], fun _ _ => rfl, fun m i hm => by omega⟩ ?_ (by omega)
  rintro k _ hk ⟨J, rfl, q1, q2⟩
  have e1 : J w 1 = nI r := by rw [q1 w (by have := h1.2.1; omega)]; exact h1.2.2.2.2
  have hFJ : FH p n X co J := FH_of hF hn6 (fun a h1 h2 => q1 a (by omega))
  dsimp only
  simp only [e1]
  by_cases hkr : k = r + 1
  · rw [glt_t (by omega) (by omega)]
    exact .inr ⟨J, rfl, J, rfl, q1, by rw [hkr] at q2; exact q2⟩
  · refine .inl ?_
    have hkn : k * n + n ≤ W := by
      have := Nat.mul_le_mul_right n (show k + 1 ≤ r + 1 by omega)
      rw [Nat.succ_mul] at this
      omega
    rw [glt_f (by omega) (by omega), nI_clamp (by omega), gin2 (by omega) (by omega), q1 (gt R w) (by have := h1.2.2.1; omega), h1.2.2.2.1 k (by omega), s_times hR hFJ.1 _ _ (by omega), Option.bind_some, s_negative hR hFJ.1 _ (by omega), Option.bind_some, gin2 (by omega) (by omega)]
    dsimp only
    rw [q1 (gt R v) (by have := h2.2.2.1; omega), h2.2.2.2.1 k (by omega), s_plusTimes hR hFJ.1 _ _ _ (by omega), Option.bind_some, q1 37 (by decide), h37, pk_mul, s_putElement (p := p) (n := n) (w := W) hp.1 hp.2 hn6 hFJ.1.1.2.1 (by rw [q1 17 (by decide)]; exact h17) (by rw [q1 17 (by decide)]; exact hW) hW36 hkn (co_31 hR _) (by omega), Option.bind_some, s_raised hR (FH_of hFJ hn6 (fun a h1 h2 => Wd_row (by omega))) _ (by omega), Option.bind_some, frk_S, nI_1]
    refine ⟨_, rfl, by omega, Wd J 18 (k * n) n (fun j => nI (dig p (co (- (t k * c ^ (p ^ k)) + u k * c)) j)), rfl, fun a ha => by rw [Wd_row ha]; exact q1 a ha, fun m i hm hi => ?_⟩
    by_cases e : m = k
    · rw [e, Wd_at hi]; rfl
    · rw [Wd_out]
      · exact q2 m i (by omega) hi
      · have := Nat.mul_le_mul_right n (show m + 1 ≤ k by omega)
        rw [Nat.succ_mul] at this
        omega
theorem s_turns {K : Type} [Lean.Grind.CommRing K] {p n : Nat} {X : K} {co : K → Nat} {I : gI} {R : gR} {S : gS} {N w v r : Nat} {t u : Nat → K} (hR : RO K p n X co) (hF : FH p n X co I) (h1 : CW co I R S w r t) (h2 : CW co I R S v r u) (hr : r ≤ 3) (h17 : I 17 1 = nI p) (h37 : I 37 2 = nI n) (hSl : S[19]? = some (12, 7)) (hN : 60 ≤ N) :
    ∃ J b, ∃ kp : Nat → K, f_X8_turnsFromTo N I R S w v = some (nI (p ^ b - 1), J) ∧ Fr 17 36 I J ∧ J 17 1 = nI p ∧ b ≤ n ∧ kp 0 = 0 ∧ (∀ i m, m ≤ r → Lt p t u m (kp i) = 0) ∧ (∀ z, (∀ m, m ≤ r → Lt p t u m z = 0) → ∃ i, i < p ^ b ∧ kp i = z) ∧ ∀ i k, i < k → k < p ^ b → co (kp i) < co (kp k) := by
  have hp := RO_p hR
  have hn1 := hR.2.1
  have hn6 := hR.2.2.1
  have hw24 : (r + 1) * n ≤ 36 := Nat.le_trans (Nat.mul_le_mul (show r + 1 ≤ 4 by omega) hn6) (by omega)
  obtain ⟨J2, c1, c2, c3⟩ := s_begin (K := K) (N := N) (R := R) (S := S) (I := I) (Z := Z0 ((r + 1) * n)) (V := Wv p n co (fun j m => Lt p t u m (X ^ j))) (Rl := fun _ => False) (w := (r + 1) * n) (show 0 < p by omega) h17 hw24
  unfold f_X8_turnsFromTo
  rw [if_pos h1.1, if_pos h2.1, h1.2.2.2.2, h2.2.2.2.2, if_pos rfl, h37, nI_1, pk_mul, c1, Option.bind_some]
  have key : ∃ y, ((iter (σ := Int32 × Int32 × gI) (ρ := Int32 × gI) (fun z2 => (if (z2.2.2 37 2) ≤ z2.2.1 then some (.inr (z2.1, z2.2.2)) else if z2.2.1 < 0 ∨ 8 ≤ z2.2.1.toNatClampNeg then none else ((f_X8_putTurning N z2.2.2 R S w v (z2.2.2 7 z2.2.1.toNatClampNeg)).bind (fun z4 => ((f_X6_feed N z4 R S).bind (fun z5 => (if z5.1 = 0 then some (.inl (z2.1, z2.2.1 + 1, z5.2)) else some (.inl (z2.1 + 1, z2.2.1 + 1, z5.2))))))))) N ((0 : Int32), (0 : Int32), J2)).bind (fun r3 => if r3.1 < 0 ∨ 8 ≤ r3.1.toNatClampNeg then none else some ((r3.2 7 r3.1.toNatClampNeg) - (1 : Int32), r3.2))) = some y ∧ ∃ J b io B Rl, y = (nI (p ^ b - 1), J) ∧ Fr 17 36 I J ∧ KD p (Wv p n co (fun j m => Lt p t u m (X ^ j))) ((r + 1) * n) n b io B Rl ∧ ∃ m, m + b = n ∧ SPI p ((r + 1) * n) m n (Z0 ((r + 1) * n)) (Wv p n co (fun j m => Lt p t u m (X ^ j))) Rl J := by
    refine iter_wpe (fun i s => ∃ J b io B Rl, s = (nI b, nI i, J) ∧ Fr 17 36 I J ∧ KD p (Wv p n co (fun j m => Lt p t u m (X ^ j))) ((r + 1) * n) i b io B Rl ∧ ∃ m, m + b = i ∧ SPI p ((r + 1) * n) m i (Z0 ((r + 1) * n)) (Wv p n co (fun j m => Lt p t u m (X ^ j))) Rl J) n ⟨J2, 0, fun _ => 0, fun _ _ => 0, fun _ => False, by rw [nI_0], c2.mono (by omega) (by omega), KD_0 _ _ _ _ _, 0, rfl, c3⟩ ?_ (by omega)
    rintro i _ hi ⟨J, b, io, B, Rl, rfl, q1, q6, m, q7, q8⟩
    have f3 : J 37 2 = nI n := by rw [q1 37 (by omega)]; exact h37
    have hFJ := FH_fr hF hR q1 (by omega)
    dsimp only
    simp only [f3]
    by_cases hin : i = n
    · subst hin
      rw [gle_t (Nat.le_refl i) (by omega)]
      refine .inr ⟨_, rfl, (nI (p ^ b - 1), J), ?_, J, b, io, B, Rl, rfl, q1, q6, m, q7, q8⟩
      dsimp only
      rw [nI_clamp (by omega), gin2 (by omega) (by omega), hFJ.2.2.2.1 b (by omega), dn1 _ (Nat.pow_pos (by omega))]
    · refine .inl ?_
      have hw8 := SPI_w q8
      have hc1 : CW co J R S w r t := CW_of h1 (fun a ha => q1 a (by omega))
      have hc2 : CW co J R S v r u := CW_of h2 (fun a ha => q1 a (by omega))
      obtain ⟨J4, d1, d2, d3⟩ := s_putTurning (N := N) hR hFJ hc1 hc2 hr hw8.1 hw8.2.1 hw8.2.2.1 (Nat.le_refl _) f3 (X ^ i) hN
      rw [gle_f (by omega) (by omega), nI_clamp (by omega), gin2 (by omega) (by omega), hFJ.2.2.2.1 i (by omega), ← co_X hR (show i < n by omega), d1, Option.bind_some]
      obtain ⟨J5, g1, g2⟩ := feed_ok (N := N) (R := R) (S := S) (v := fun l => dig p (co ((fun j m => Lt p t u m (X ^ j)) i (l / n))) (l % n)) hR (Z0_c _) (SPI_of q8 (J := J4) (fun a ha => d2 a (by omega))) (fun l hl => by rw [d2 7 (by decide)]; exact hFJ.2.2.2.1 l hl) (by omega) (fun l hl => by
        have a1 := Nat.mod_lt l (show 0 < n by omega)
        have a2 : l / n < r + 1 := (Nat.div_lt_iff_lt_mul (by omega)).mpr hl
        have a3 := d3 (l / n) (l % n) a2 a1
        rw [show l / n * n + l % n = l by rw [Nat.mul_comm]; exact Nat.div_add_mod l n] at a3
        exact a3) (fun l => dig_lt (by omega) _ _) (fun l hl => rfl) hSl (by omega)
      have hfr5 : Fr 17 36 I J5 := q1.trans (Fr.trans (J := J4) (fun a ha => d2 a (by omega)) g1)
      rcases g2 with ⟨mx, m1, m2, m3, m4, m5, m6, m7⟩ | ⟨m6, m7⟩
      · rw [m6, Option.bind_some]
        dsimp only
        have hcode : 0 < enc p (i + 1) mx ∧ enc p (i + 1) mx < 2147483648 := by
          rw [enc_top m1]
          have := Nat.pow_pos (n := i) (show 0 < p by omega)
          exact ⟨by omega, rel_31 hp.2 (by omega) m2⟩
        rw [g0_f hcode.1 hcode.2, nI_1, nI_1]
        exact ⟨_, rfl, by omega, J5, b + 1, _, _, _, rfl, hfr5, KD_rel q6 m1 m2 m3 m4 m5, m, by omega, m7⟩
      · rw [m6, Option.bind_some]
        dsimp only
        rw [if_pos rfl, nI_1]
        exact ⟨_, rfl, by omega, J5, b, io, B, _, rfl, hfr5, KD_keep q6, m + 1, by omega, m7⟩
  obtain ⟨y, k1, J, b, io, B, Rl, k2, k3, k8, m, k9, k10⟩ := key
  have hF4 : ∀ j, j < n → ¬ Rl j → ¬ ∃ c : Nat → K, ∀ i, i < (r + 1) * n → Wv p n co (fun j m => Lt p t u m (X ^ j)) j i = sm j (fun l => c l * Wv p n co (fun j m => Lt p t u m (X ^ j)) l i) := by
    obtain ⟨kv, km, ld, h1, h2, h3⟩ := k10
    exact h3.2.2.2
  obtain ⟨kp, u1, u2, u3, u4⟩ := ker_ok hR (M := r + 1) (L := fun m => Lt p t u m) (fun m c _ => Lt_lin hR t u m n c (fun j => X ^ j)) k8 hF4
  refine ⟨J, b, kp, by rw [k1, k2], k3, (SPI_w k10).1, by omega, ?_, fun i m hm => u2 i m (by omega), fun z hz => u3 z (fun m hm => hz m (by omega)), u4⟩
  rw [u1 0]
  refine sm_0 (fun j _ => ?_)
  rw [kS_nk, sm_0 (fun s _ => by
    have : dig p 0 s = 0 := by unfold dig; rw [Nat.zero_div, Nat.zero_mod]
    rw [this, nk_0]; grind)]
  grind
theorem m_turned {K : Type} [Lean.Grind.CommRing K] {p n : Nat} {X : K} {co : K → Nat} {I : gI} {R : gR} {S : gS} {N w r k : Nat} {t : Nat → K} (hR : RO K p n X co) (hM : MH p n X co I) (hw : w < 10) (hW : MW co I w r t) (hk : k ≤ 3) (c : K) (hN : 60 ≤ N) :
    f_X12_turned N I R S (nI w) (nI k) (nI (co c)) = some (nI (co (t k * c ^ (p ^ k - 1)))) := by
  have hp := RO_p hR
  have h7 := pow_le7 (i := k) hp.2 (by omega)
  have h0 := Nat.pow_pos (n := k) (show 0 < p by omega)
  unfold f_X12_turned
  rw [hM.1, show (4 : Int32) = nI 4 from rfl]
  simp (disch := omega) only [pk_mul, nI_add, nI_clamp, gin2, hW.2]
  rw [m_power (by omega) (by omega), Option.bind_some, dn1 _ (by omega), nI_l (by omega), m_raise hR hM _ (by omega), Option.bind_some, m_times hR hM, Option.bind_some]
theorem turn_iff {K : Type} [Lean.Grind.CommRing K] {p n : Nat} {X : K} {co : K → Nat} (hR : RO K p n X co) (t u : Nat → K) (m : Nat) {c : K} (hc : c ≠ 0) : t m * c ^ (p ^ m - 1) = u m ↔ Lt p t u m c = 0 := by
  have hp := RO_p hR
  unfold Lt
  rw [pow_pred c (Nat.pow_pos (n := m) (show 0 < p by omega))]
  have h := inv_ok hR hc
  generalize c ^ (p ^ m - 1) = d
  generalize c ^ (p ^ n - 2) = e at h
  constructor
  · intro h1; grind
  · intro h1; grind
theorem m_flagT {K : Type} [Lean.Grind.CommRing K] {p n : Nat} {X : K} {co : K → Nat} {I : gI} {R : gR} {S : gS} {N w v r : Nat} {t u : Nat → K} (hR : RO K p n X co) (hM : MH p n X co I) (hw : w < 10) (hv : v < 10) (hW : MW co I w r t) (hU : MW co I v r u) (hr : r ≤ 3) (c : K) (hN : 60 ≤ N) :
    ∃ y, (iter (σ := Int32 × Int32) (ρ := Int32) (fun z5 => if nI w < 0 ∨ 10 ≤ (nI w).toNatClampNeg then none else (if (I 101 (nI w).toNatClampNeg) < z5.2 then some (.inr z5.1) else (if z5.1 = 0 then some (.inl ((0 : Int32), z5.2 + 1)) else ((f_X12_turned N I R S (nI w) z5.2 (nI (co c))).bind (fun z7 => if (((4 : Int32) * nI v) + z5.2) < 0 ∨ 40 ≤ (((4 : Int32) * nI v) + z5.2).toNatClampNeg then none else (if z7 = (I 102 (((4 : Int32) * nI v) + z5.2).toNatClampNeg) then some (.inl ((1 : Int32), z5.2 + 1)) else some (.inl ((0 : Int32), z5.2 + 1)))))))) N ((1 : Int32), (0 : Int32))) = some y ∧ ((y = 1 ∧ ∀ k, k ≤ r → t k * c ^ (p ^ k - 1) = u k) ∨ (y = 0 ∧ ¬ ∀ k, k ≤ r → t k * c ^ (p ^ k - 1) = u k)) := by
  refine iter_wp (fun l s => (s = (1, nI l) ∧ ∀ k, k < l → t k * c ^ (p ^ k - 1) = u k) ∨ (s = (0, nI l) ∧ ¬ ∀ k, k ≤ r → t k * c ^ (p ^ k - 1) = u k)) _ (r + 1) (.inl ⟨by rw [nI_0], fun k hk => by omega⟩) ?_ (by omega)
  rintro l _ hl (⟨rfl, h⟩ | ⟨rfl, h⟩)
  · dsimp only
    rw [nI_clamp (by omega), gin2 (by omega) (by omega), hW.1]
    by_cases hlr : l = r + 1
    · subst hlr
      exact .inr ⟨1, glt_t (by omega) (by omega), .inl ⟨rfl, fun k hk => h k (by omega)⟩⟩
    · refine .inl ?_
      rw [glt_f (by omega) (by omega), if_neg (by decide), m_turned hR hM hw hW (by omega) c hN, Option.bind_some, show (4 : Int32) = nI 4 from rfl, pk_mul, nI_add, nI_clamp (by omega), gin2 (by omega) (by omega), hU.2 l (by omega), nI_1]
      by_cases e : t l * c ^ (p ^ l - 1) = u l
      · refine ⟨_, if_pos (by rw [e]), by omega, .inl ⟨rfl, fun k hk => ?_⟩⟩
        by_cases e2 : k = l
        · rw [e2]; exact e
        · exact h k (by omega)
      · exact ⟨_, if_neg (fun z => e (RO_inj hR ((nI_eq (co_31 hR _) (co_31 hR _)).mp z))), by omega, .inr ⟨rfl, fun z => e (z l (by omega))⟩⟩
  · dsimp only
    rw [nI_clamp (by omega), gin2 (by omega) (by omega), hW.1]
    by_cases hlr : l = r + 1
    · subst hlr
      exact .inr ⟨0, glt_t (by omega) (by omega), .inr ⟨rfl, h⟩⟩
    · refine .inl ?_
      rw [glt_f (by omega) (by omega), if_pos rfl, nI_1]
      exact ⟨_, rfl, by omega, .inr ⟨rfl, h⟩⟩
end Turns
