/-! OWN: the model's way, and that it is the least relation -/
section Own
theorem own_eq {K : Type} [Lean.Grind.CommRing K] {p n : Nat} {X : K} {co : K → Nat} (hR : RO K p n X co) {t0 : K} {d k : Nat} {c : Nat → Nat} (hd1 : 1 ≤ d) (hd : t0 ^ (p ^ d) = t0) (hmin : ∀ e, 1 ≤ e → e < d → t0 ^ (p ^ e) ≠ t0) (hL : Lr p n co (fun j _ => t0 ^ j) 1 k c) : k = d ∧ ∀ j, j < d → co (PL (fun e => t0 ^ (p ^ e)) d j) = c j := by
  have hp := RO_p hR
  obtain ⟨e, rfl⟩ : ∃ e, d = e + 1 := ⟨d - 1, by omega⟩
  have hfix : ∀ j, PL (fun e => t0 ^ (p ^ e)) (e + 1) j ^ p = PL (fun e => t0 ^ (p ^ e)) (e + 1) j := by
    intro j
    rw [PL_fr hR]
    have e1 : (fun i => (t0 ^ (p ^ i)) ^ p) = fun i => t0 ^ (p ^ (i + 1)) := funext fun i => frk_S p t0 i
    rw [e1, PL_first (fun e => t0 ^ (p ^ e))]
    show ML (t0 ^ (p ^ (e + 1))) _ j = ML (t0 ^ (p ^ 0)) _ j
    rw [hd, Nat.pow_zero, Lean.Grind.Semiring.pow_one]
  have hF := fun j => fixed hR (hfix j)
  have hroot : t0 ^ (e + 1) + sm (e + 1) (fun j => nk (co (PL (fun e => t0 ^ (p ^ e)) (e + 1) j)) * t0 ^ j) = 0 := by
    have h1 := PL_root (fun e => t0 ^ (p ^ e)) e
    rw [Nat.pow_zero, Lean.Grind.Semiring.pow_one] at h1
    unfold pe at h1
    rw [sm_succ, (PL_deg _ (e + 1)).2] at h1
    have e2 : ∀ j, j < e + 1 → nk (co (PL (fun e => t0 ^ (p ^ e)) (e + 1) j)) * t0 ^ j = PL (fun e => t0 ^ (p ^ e)) (e + 1) j * t0 ^ j := fun j _ => by rw [(hF j).2]
    rw [sm_congr e2, ← h1]; grind
  have hk1 : k ≤ e + 1 := by
    apply Classical.byContradiction
    intro h
    exact Lr_min (c := c) hR hL.2.2 (show e + 1 < k by omega) _ (fun m _ => hroot)
  have hk2 : e + 1 ≤ k := by
    apply Classical.byContradiction
    intro h
    have h1 := hL.2.1 0 (by omega)
    have ev1 : ∀ i, pe (fun i => if i = k then 1 else nk (c i)) k (t0 ^ (p ^ i)) = 0 := by
      intro i
      have h2 := congrArg (fun z => z ^ (p ^ i)) h1
      dsimp only at h2
      rw [frk_add hR, frk_sm hR, frk_0 hR] at h2
      rw [← h2]
      unfold pe
      dsimp only
      rw [sm_succ, if_pos rfl]
      have e3 : ∀ j, j < k → (if j = k then 1 else nk (c j)) * (t0 ^ (p ^ i)) ^ j = (nk (c j) * t0 ^ j) ^ (p ^ i) := fun j hj => by
        rw [if_neg (by omega), frk_mul, frk_nk hR, ← pw_mul, ← pw_mul, Nat.mul_comm]
      rw [sm_congr e3, ← pw_mul, ← pw_mul, Nat.mul_comm]; grind
    have h3 := roots hR k (fun i => if i = k then 1 else nk (c i)) (fun i => t0 ^ (p ^ i)) (fun i j hij hj h4 => by
      have h4 : t0 ^ (p ^ i) = t0 ^ (p ^ j) := h4
      rw [show j = (j - i) + i by omega, ← frk_frk] at h4
      exact hmin (j - i) (by omega) (by omega) (fr_inj hR i h4).symm) (fun i _ => ev1 i)
    rw [if_pos rfl] at h3
    exact RO_ne hR h3
  have hk : k = e + 1 := by omega
  refine ⟨hk, fun j hj => ?_⟩
  subst hk
  exact Lr_uniq hR hL (fun j _ => (hF j).1) (fun m _ => hroot) j hj
theorem own_top {K : Type} [Lean.Grind.CommRing K] {p n : Nat} {X : K} {co : K → Nat} (hR : RO K p n X co) (c : Nat → K) (d : Nat) : co (PL c d d) = 1 := by
  rw [(PL_deg c d).2, RO_1 hR]
theorem m_codeOf {p : Nat} {I : gI} {R : gR} {S : gS} {N q m L : Nat} {d : Nat → Nat} (hM : I 91 2 = nI p) (hS : S[q]? = some (12, L)) (hL2 : L < 2147483648) (hm : m ≤ L) (hd : ∀ j, j < m → I q j = nI (d j)) (hN : m < N) : f_X12_codeOf N I R S q (nI m) = some (nI (enc p m d)) := by
  unfold f_X12_codeOf
  rw [hM, gLn_of hS]
  refine iter_bind (fun i => (nI (enc p i (fun j => d (m - i + j))), nI (m - i) - 1)) m (nI (enc p m d)) ?_ ?_ ?_ (by omega) rfl
  · simp only [Nat.sub_zero, enc, nI_0]
  · intro i hi
    rw [dn1 (m - i) (by omega)]
    simp (disch := omega) only [gn_f, nI_clamp, gin2, hd, pk_mul, nI_add]
    rw [dn2, show m - (i + 1) = m - i - 1 by omega, enc_first, Nat.mul_comm, Nat.add_comm, Nat.add_zero]
    congr 6
    refine enc_congr (fun j hj => ?_)
    rw [show m - i - 1 + (j + 1) = m - i + j by omega]
  · simp only [Nat.sub_self, dn0, Nat.zero_add]
theorem least_d {K : Type} [Lean.Grind.CommRing K] {p n : Nat} {X : K} {co : K → Nat} (hR : RO K p n X co) (t0 : K) : ∃ d, 1 ≤ d ∧ d ≤ n ∧ t0 ^ (p ^ d) = t0 ∧ ∀ e, 1 ≤ e → e < d → t0 ^ (p ^ e) ≠ t0 := by
  obtain ⟨d, h1, h2⟩ := pk_least (fun d => 1 ≤ d ∧ t0 ^ (p ^ d) = t0) ⟨n, hR.2.1, pow_q hR t0⟩
  refine ⟨d, h1.1, ?_, h1.2, fun e e1 e2 e3 => h2 e e2 ⟨e1, e3⟩⟩
  apply Classical.byContradiction
  intro h
  exact h2 n (by omega) ⟨hR.2.1, pow_q hR t0⟩
theorem m_degreeOfOwn {K : Type} [Lean.Grind.CommRing K] {p n : Nat} {X : K} {co : K → Nat} {I : gI} {R : gR} {S : gS} {N w r d : Nat} {t : Nat → K} (hR : RO K p n X co) (hM : MH p n X co I) (hw : w < 10) (hW : MW co I w r t) (hd1 : 1 ≤ d) (hdn : d ≤ n) (hd : t 0 ^ (p ^ d) = t 0) (hmin : ∀ e, 1 ≤ e → e < d → t 0 ^ (p ^ e) ≠ t 0) (hN : 30 ≤ N) :
    f_X12_degreeOfOwn N I R S (nI w) = some (nI d) := by
  have hp := RO_p hR
  have hn6 := hR.2.2.1
  have h0 := hW.2 0 (by omega)
  rw [Nat.add_zero] at h0
  unfold f_X12_degreeOfOwn
  rw [show (4 : Int32) = nI 4 from rfl]
  simp (disch := omega) only [pk_mul, nI_clamp, gin2, h0]
  rw [hM.1, nI_l (by omega), m_raise hR hM _ (by omega)]
  refine iter_bind (fun i => (nI (i + 1), nI (co (t 0 ^ (p ^ (i + 1)))))) (d - 1) (nI d) ?_ ?_ ?_ (by omega) rfl
  · show (_, _) = (nI (0 + 1), _)
    rw [Nat.zero_add, Nat.pow_one]; rfl
  · intro i hi
    dsimp only
    rw [if_neg (fun z => hmin (i + 1) (by omega) (by omega) (RO_inj hR ((nI_eq (co_31 hR _) (co_31 hR _)).mp z))), m_raise hR hM _ (by omega), frk_S]
    show some (Sum.inl (nI (i + 1) + 1, _)) = _
    rw [nI_1]
  · dsimp only
    rw [show d - 1 + 1 = d by omega, hd, if_pos rfl]
theorem m_ownOf {K : Type} [Lean.Grind.CommRing K] {p n : Nat} {X : K} {co : K → Nat} {I : gI} {R : gR} {S : gS} {N w r d : Nat} {t : Nat → K} {c : Nat → Nat} (hR : RO K p n X co) (hM : MH p n X co I) (hw : w < 10) (hW : MW co I w r t) (hL : Lr p n co (fun j _ => t 0 ^ j) 1 d c) (hS : S[106]? = some (12, 8)) (hN : 30 ≤ N) :
    f_X12_degreeOfOwn N I R S (nI w) = some (nI d) ∧ 1 ≤ d ∧ d ≤ n ∧ ∃ J, f_X12_ownOf N I R S (nI w) = some (nI (enc p d c + p ^ d), J) ∧ Fs [106] I J := by
  have hp := RO_p hR
  have hn6 := hR.2.2.1
  obtain ⟨d', a1, a2, a3, a4⟩ := least_d hR (t 0)
  obtain ⟨e1, e2⟩ := own_eq hR a1 a3 a4 hL
  subst e1
  have hdo := fun (J : gI) (hJ : MH p n X co J) (hWJ : MW co J w r t) => m_degreeOfOwn (N := N) (R := R) (S := S) hR hJ hw hWJ a1 a2 a3 a4 hN
  refine ⟨hdo I hM hW, a1, a2, Aw I 106 8 (fun j => nI (co (PL (fun e => t 0 ^ (p ^ e)) d j))), ?_, Fs_Aw (by decide)⟩
  have hM2 : ∀ (A : Nat → Int32), MH p n X co (Aw I 106 8 A) := fun A => MH_Aw hM (by decide) (by decide) (by decide)
  have hW2 : ∀ (A : Nat → Int32), MW co (Aw I 106 8 A) w r t := fun A => MW_of hW (Aw_row (by decide)) (Aw_row (by decide))
  unfold f_X12_ownOf
  rw [hdo I hM hW]
  refine iter_bind (fun i => (nI i, Aw I 106 8 (fun j => if j < i then nI (co (d0 j : K)) else I 106 j))) 8 (Aw I 106 8 (fun j => nI (co (d0 j : K)))) ?_ ?_ ?_ (by omega) ?_
  · rw [nI_0]
    congr 1
    exact (Aw_same (fun j _ => if_neg (by omega))).symm
  · intro i hi
    have hA : ∀ v, v = nI (co (d0 i : K)) → gU (Aw I 106 8 (fun j => if j < i then nI (co (d0 j : K)) else I 106 j)) 106 i v = Aw I 106 8 (fun j => if j < i + 1 then nI (co (d0 j : K)) else I 106 j) := fun v hv => by
      rw [Aw_up (by omega)]
      refine Aw_congr (fun j _ => ?_)
      by_cases h : j = i
      · rw [if_pos h, if_pos (by omega), h, hv]
      · rw [if_neg h]
        by_cases h2 : j < i
        · rw [if_pos h2, if_pos (by omega)]
        · rw [if_neg h2, if_neg (by omega)]
    rw [show (8 : Int32) = nI 8 from rfl]
    simp (disch := omega) only [gle_f, nI_clamp, gin2, nI_1]
    by_cases hz : i = 0
    · rw [g0_t hz, hA 1 (by rw [hz, d0_0, RO_1 hR]; rfl)]
    · rw [g0_f (by omega) (by omega), hA 0 (by rw [d0_ne hz, RO_0 hR, nI_0])]
  · rw [show (8 : Int32) = nI 8 from rfl]
    simp (disch := omega) only [gle_t]
    congr 2
    exact Aw_congr (fun j hj => if_pos hj)
  · refine iter_bind (fun e => (nI e, Aw I 106 8 (fun j => nI (co (PL (fun e => t 0 ^ (p ^ e)) e j))))) d (Aw I 106 8 (fun j => nI (co (PL (fun e => t 0 ^ (p ^ e)) d j)))) ?_ ?_ ?_ (by omega) ?_
    · rw [nI_0]; rfl
    · intro e he
      have h0 := (hW2 (fun j => nI (co (PL (fun e => t 0 ^ (p ^ e)) e j)))).2 0 (by omega)
      rw [Nat.add_zero] at h0
      rw [show (4 : Int32) = nI 4 from rfl]
      simp (disch := omega) only [gle_f, pk_mul, nI_clamp, gin2, h0, nI_1]
      rw [m_far hR (hM2 _) _ (by omega) (by omega)]
      have hps : ∀ k, PL (fun e => t 0 ^ (p ^ e)) (e + 1) k = (if k = 0 then 0 else PL (fun e => t 0 ^ (p ^ e)) e (k - 1)) - t 0 ^ (p ^ e) * PL (fun e => t 0 ^ (p ^ e)) e k := fun k => rfl
      generalize PL (fun e => t 0 ^ (p ^ e)) (e + 1) = Q at *
      generalize PL (fun e => t 0 ^ (p ^ e)) e = P at *
      refine iter_bind (fun i => (nI (8 - i) - 1, Aw I 106 8 (fun j => if 8 - i ≤ j then nI (co (Q j)) else nI (co (P j))))) 8 (Aw I 106 8 (fun j => nI (co (Q j)))) ?_ ?_ ?_ (by omega) rfl
      · show (_, _) = (nI 8 - 1, _)
        congr 1
        exact Aw_congr (fun j hj => by rw [if_neg (by omega)])
      · intro i hi
        rw [dn1 (8 - i) (by omega)]
        rw [show (1 : Int32) = nI 1 from rfl]
        simp (disch := omega) only [gn_f, nI_clamp, gin2, Aw_at]
        have hread : ∀ j, j ≤ 8 - i - 1 → (if 8 - i ≤ j then nI (co (Q j)) else nI (co (P j))) = nI (co (P j)) := fun j hj => if_neg (by omega)
        have hfin : ∀ v, v = nI (co (Q (8 - i - 1))) → gU (Aw I 106 8 (fun j => if 8 - i ≤ j then nI (co (Q j)) else nI (co (P j)))) 106 (8 - i - 1) v = Aw I 106 8 (fun j => if 8 - (i + 1) ≤ j then nI (co (Q j)) else nI (co (P j))) := fun v hv => by
          rw [Aw_up (by omega)]
          refine Aw_congr (fun j _ => ?_)
          by_cases h : j = 8 - i - 1
          · rw [if_pos h, if_pos (by omega), h, hv]
          · rw [if_neg h]
            by_cases h2 : 8 - i ≤ j
            · rw [if_pos h2, if_pos (by omega)]
            · rw [if_neg h2, if_neg (by omega)]
        rw [hread _ (Nat.le_refl _), m_times hR (hM2 _)]
        by_cases hz : 8 - i - 1 = 0
        · rw [g0_t hz]
          show (f_X12_less N _ R S (0 : Int32) _).bind _ = _
          have h1 := m_less (N := N) (R := R) (S := S) hR (hM2 (fun j => if 8 - i ≤ j then nI (co (Q j)) else nI (co (P j)))) 0 (t 0 ^ (p ^ e) * P (8 - i - 1)) (by omega)
          rw [RO_0 hR, nI_0] at h1
          rw [h1]
          show some (Sum.inl (nI (8 - i - 1) + (-1), _)) = _
          rw [hfin _ (by rw [hps, if_pos hz]), dn2, show 8 - (i + 1) = 8 - i - 1 by omega]; rfl
        · rw [g0_f (by omega) (by omega), pk_sub (by omega)]
          simp (disch := omega) only [nI_clamp, gin2, Aw_at]
          rw [hread _ (by omega)]
          show (f_X12_less N _ R S (nI (co (P (8 - i - 1 - 1)))) _).bind _ = _
          rw [m_less hR (hM2 _) _ _ (by omega)]
          show some (Sum.inl (nI (8 - i - 1) + (-1), _)) = _
          rw [hfin _ (by rw [hps, if_neg hz]), dn2, show 8 - (i + 1) = 8 - i - 1 by omega]; rfl
      · dsimp only
        rw [Nat.sub_self, dn0]
        simp only [Nat.zero_le, if_true]
    · dsimp only
      rw [gle_t (Nat.le_refl _) (by omega)]
    · show (f_X12_codeOf N _ R S 106 (nI d + 1)).bind _ = _
      rw [nI_1, m_codeOf (d := fun j => co (PL (fun e => t 0 ^ (p ^ e)) d j)) (by rw [Aw_ne _ (by decide)]; exact hM.1) hS (by omega) (by omega) (fun j hj => by rw [Aw_at (by omega)]) (by omega)]
      show some _ = _
      rw [enc, own_top hR, Nat.one_mul, enc_congr e2]
end Own
