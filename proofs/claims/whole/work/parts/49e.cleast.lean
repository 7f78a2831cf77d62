/-! the class: LEAST -/
section CLeast
def pL (a : Nat) : Prop := (17 ≤ a ∧ a ≤ 36) ∨ (65 ≤ a ∧ a ≤ 70) ∨ a = 73
def pM (a : Nat) : Prop := a = 18 ∨ (65 ≤ a ∧ a ≤ 70) ∨ a = 73
theorem s_leastOf {K : Type} [Lean.Grind.CommRing K] {p n : Nat} {X : K} {co : K → Nat} {I : gI} {R : gR} {S : gS} {N w r : Nat} {t : Nat → K} (hR : RO K p n X co) (hF : FH p n X co I) (hW : CW co I R S w r t) (hV : WV r t) (hA : Ad p n X co I R S) (h17 : I 17 1 = nI p) (hp2 : I 56 2 = nI p) (hn : I 56 3 = nI n) (hS : ∀ q, 6 ≤ q → q < 75 → S[q]? = layS[q]?) (hw : w < 100000) (hws : w < S.length) {D : Nat} {dc : Nat → Nat} (hD : D ≤ n) (hchi : ∀ i, i < n → itT p (r + 1) t D (X ^ i) + sm D (fun j => nk (dc j) * itT p (r + 1) t j (X ^ i)) = 0) (hN : 60 ≤ N) :
    ∃ J k c, f_X0_leastOf N I R S w = some (nI (enc p k c + p ^ k), J) ∧ Fp pA I J ∧ (∀ j, j ≠ 5 → J 56 j = I 56 j) ∧ J 17 1 = nI p ∧ Ad p n X co J R S ∧ k ≤ n ∧ Lr p n co (fun j m => itT p (r + 1) t j (X ^ m)) n k c := by
  have hp := RO_p hR
  have hn1 := hR.2.1
  have hn6 := hR.2.2.1
  have hnn : n * n ≤ 36 := Nat.mul_le_mul hn6 hn6
  obtain ⟨J1, a1, a2, a3, a4, a5⟩ := s_actBy (N := N) hR hF hW hV hA hn hS hw hN
  have hJ1 : Fp pA I J1 := Fp_Fs a2 (fun a ha => by
    simp only [lA, List.mem_cons, List.mem_nil_iff, or_false] at ha
    unfold pA; omega)
  have hF1 : FH p n X co J1 := FH_of hF hn6 (fun a h1 h2 => hJ1 a (by unfold pA; omega))
  have e56 : J1 56 3 = nI n := by rw [a3 _ (by decide)]; exact hn
  have e562 : J1 56 2 = nI p := by rw [a3 _ (by decide)]; exact hp2
  have hS65 : ∀ j, j < 6 → S[65 + j]? = some (12, 6) := fun j hj => by
    rw [hS (65 + j) (by omega) (by omega)]
    rcases (show j = 0 ∨ j = 1 ∨ j = 2 ∨ j = 3 ∨ j = 4 ∨ j = 5 by omega) with rfl | rfl | rfl | rfl | rfl | rfl <;> rfl
  have hS73 : S[73]? = some (12, 6) := hS 73 (by omega) (by omega)
  have hS19 : S[19]? = some (12, 7) := hS 19 (by omega) (by omega)
  have key1 : ∃ y, (iter (σ := Int32 × gI) (ρ := gI) (fun z2 => (if (z2.2 56 3) ≤ z2.1 then some (.inr z2.2) else if z2.1 < 0 ∨ 8 ≤ z2.1.toNatClampNeg then none else if z2.1 < 0 ∨ 6 ≤ z2.1.toNatClampNeg then none else ((f_X2_split N z2.2 R S (z2.2 7 z2.1.toNatClampNeg) (65 + z2.1.toNatClampNeg)).bind (fun z5 => some (.inl (z2.1 + 1, z5)))))) N ((0 : Int32), J1)) = some y ∧ Fp pL J1 y ∧ y 17 = J1 17 ∧ ∀ i j, i < n → j < n → y (65 + i) j = nI (dig p (co (X ^ i)) j) := by
    refine iter_wp (fun i s => ∃ J, s = (nI i, J) ∧ (∀ a, ¬ (65 ≤ a ∧ a ≤ 70) → J a = J1 a) ∧ ∀ l j, l < i → j < n → J (65 + l) j = nI (dig p (co (X ^ l)) j)) _ n ⟨J1, by rw [nI_0], fun _ _ => rfl, fun l j hl => by omega⟩ ?_ (by omega)
    rintro i _ hi ⟨J, rfl, c1, c2⟩
    have e3 : J 56 3 = nI n := by rw [c1 56 (by omega)]; exact e56
    dsimp only
    simp only [e3]
    by_cases hin : i = n
    · subst hin
      rw [gle_t (Nat.le_refl i) (by omega)]
      exact .inr ⟨J, rfl, fun a ha => c1 a (fun z => ha (by unfold pL; omega)), c1 17 (by omega), c2⟩
    · refine .inl ?_
      have h7 : J 7 i = nI (p ^ i) := by rw [c1 7 (by omega)]; exact hF1.2.2.2.1 i (by omega)
      have hS1 := hS65 i (by omega)
      rw [gle_f (by omega) (by omega), nI_clamp (by omega), gin2 (by omega) (by omega), gin2 (by omega) (by omega), h7, ← co_X hR (show i < n by omega), s_split (p := p) (n := n) (by rw [c1 6 (by omega)]; exact hF1.1.1.1) (by rw [c1 6 (by omega)]; exact hF1.1.1.2.1) hp.1 hp.2 hn6 (by omega) (by rw [gLn_of hS1]; omega) (by rw [gLn_of hS1]; omega) (co_31 hR _) (by omega), Option.bind_some, nI_1]
      refine ⟨_, rfl, by omega, _, rfl, fun a ha => ?_, fun l j hl hj => ?_⟩
      · rw [Aw_row (by omega)]; exact c1 a ha
      · by_cases e : l = i
        · rw [e, Aw_at hj]
        · rw [Aw_ne _ (by omega)]; exact c2 l j (by omega) hj
  obtain ⟨J2, b1, b2, b3, b4⟩ := key1
  obtain ⟨J3, c1, c2, c3⟩ := s_begin (K := K) (N := N) (R := R) (S := S) (I := J2) (Z := Z0 (n * n)) (V := Wv p n co (fun j m => itT p (r + 1) t j (X ^ m))) (Rl := fun _ => False) (w := n * n) (show 0 < p by omega) (by rw [b3, a2 17 (by decide)]; exact h17) hnn
  have hJ3 : Fp pL J1 J3 := b2.trans (Fp_Fr c2 (fun a h1 h2 => by unfold pL; omega))
  have hpts : ∀ i j, i < n → j < n → J3 (65 + i) j = nI (dig p (co (itT p (r + 1) t 0 (X ^ i))) j) := fun i j hi hj => by
    rw [c2 (65 + i) (by omega)]; exact b4 i j hi hj
  -- one round: the vectors are put, the points go on
  have put : ∀ (J : gI) (k : Nat), Fp pL J1 J → J 17 7 = nI (n * n) → (∀ i j, i < n → j < n → J (65 + i) j = nI (dig p (co (itT p (r + 1) t k (X ^ i))) j)) → ∃ y, (iter (σ := Int32 × gI) (ρ := gI) (fun z9 => (if (z9.2 56 3) ≤ z9.1 then some (.inr z9.2) else if z9.1 < 0 ∨ 6 ≤ z9.1.toNatClampNeg then none else ((f_X6_putNumbers N z9.2 R S (z9.1 * (z9.2 56 3)) (65 + z9.1.toNatClampNeg)).bind (fun z12 => if z9.1 < 0 ∨ 6 ≤ z9.1.toNatClampNeg then none else ((f_X0_step N z12 R S (65 + z9.1.toNatClampNeg)).bind (fun z14 => some (.inl (z9.1 + 1, z14)))))))) N ((0 : Int32), J)) = some y ∧ Fp pM J y ∧ (∀ l j, l < n → j < n → y 18 (l * n + j) = nI (dig p (co (itT p (r + 1) t k (X ^ l))) j)) ∧ ∀ l j, l < n → j < n → y (65 + l) j = nI (dig p (co (itT p (r + 1) t (k + 1) (X ^ l))) j) := by
    intro J k hJ h7 hq
    refine iter_wp (fun i s => ∃ J', s = (nI i, J') ∧ Fp pM J J' ∧ (∀ l j, l < i → j < n → J' 18 (l * n + j) = nI (dig p (co (itT p (r + 1) t k (X ^ l))) j)) ∧ ∀ l j, l < n → j < n → J' (65 + l) j = nI (dig p (co (itT p (r + 1) t (if l < i then k + 1 else k) (X ^ l))) j)) _ n ⟨J, by rw [nI_0], Fp_refl _ _, fun l j hl => by omega, fun l j hl hj => by rw [if_neg (by omega)]; exact hq l j hl hj⟩ ?_ (by omega)
    rintro i _ hi ⟨J', rfl, g1, g2, g3⟩
    have hJ' : Fp pL J1 J' := hJ.trans (g1.mono (fun a ha => by unfold pM at ha; unfold pL; omega))
    have e3 : J' 56 3 = nI n := by rw [hJ' 56 (by unfold pL; omega)]; exact e56
    have e2 : J' 56 2 = nI p := by rw [hJ' 56 (by unfold pL; omega)]; exact e562
    dsimp only
    simp only [e3]
    by_cases hin : i = n
    · subst hin
      rw [gle_t (Nat.le_refl i) (by omega)]
      exact .inr ⟨J', rfl, g1, g2, fun l j hl hj => by have := g3 l j hl hj; rw [if_pos hl] at this; exact this⟩
    refine .inl ?_
    have hS1 := hS65 i (by omega)
    have hin2 : i * n + n ≤ n * n := by
      have := Nat.mul_le_mul_right n (show i + 1 ≤ n by omega)
      rw [Nat.succ_mul] at this
      exact this
    have h177 : J' 17 7 = nI (n * n) := by rw [g1 17 (by unfold pM; omega)]; exact h7
    rw [gle_f (by omega) (by omega), nI_clamp (by omega), gin2 (by omega) (by omega), pk_mul, s_putNumbers (w := n * n) hn6 (by rw [hJ' 6 (by unfold pL; omega)]; exact hF1.1.1.2.1) h177 hnn hin2 (by omega) (by rw [gLn_of hS1]; omega) (by rw [gLn_of hS1]; omega) (by omega), Option.bind_some, gin2 (by omega) (by omega)]
    have hg := g3 i
    rw [if_neg (Nat.lt_irrefl i)] at hg
    have hst : ∃ J4, f_X0_step N (Wd J' 18 (i * n) n (J' (65 + i))) R S (65 + i) = some J4 ∧ Fs [73, 65 + i] (Wd J' 18 (i * n) n (J' (65 + i))) J4 ∧ ∀ j, j < n → J4 (65 + i) j = nI (dig p (co (itT p (r + 1) t (k + 1) (X ^ i))) j) := s_step hR (Im_of a5 hn6 (fun a h1 h2 => by rw [Wd_row (by omega)]; exact hJ' a (by unfold pL; omega))) (by rw [Wd_ne _ (by decide)]; exact e2) (by rw [Wd_ne _ (by decide)]; exact e3) hS73 (by omega) (by omega) hS1 (itT p (r + 1) t k (X ^ i)) (fun j hj => by rw [Wd_ne _ (by omega)]; exact hg j (by omega) hj) hN
    obtain ⟨J4, w1, w2, w3⟩ := hst
    rw [w1, Option.bind_some, nI_1]
    have hw2 : ∀ a, a ≠ 73 → a ≠ 65 + i → J4 a = Wd J' 18 (i * n) n (J' (65 + i)) a := fun a h1 h2 => w2 a (by simp only [List.mem_cons, List.mem_nil_iff, or_false, not_or]; exact ⟨h1, h2⟩)
    refine ⟨_, rfl, by omega, J4, rfl, ?_, ?_, ?_⟩
    · refine g1.trans ((Fp_Wd (by unfold pM; omega)).trans (Fp_Fs w2 (fun a ha => ?_)))
      simp only [List.mem_cons, List.mem_nil_iff, or_false] at ha
      unfold pM; omega
    · intro l j hl hj
      rw [hw2 18 (by omega) (by omega)]
      by_cases e : l = i
      · rw [e, Wd_at hj]; exact hg j (by omega) hj
      · have h3 : l * n + n ≤ i * n := by
          have := Nat.mul_le_mul_right n (show l + 1 ≤ i by omega)
          rw [Nat.succ_mul] at this
          exact this
        rw [Wd_out (by omega)]; exact g2 l j (by omega) hj
    · intro l j hl hj
      by_cases e : l = i
      · rw [e, if_pos (by omega)]; exact w3 j hj
      · rw [hw2 (65 + l) (by omega) (by omega), Wd_row (by omega)]
        have h4 := g3 l j hl hj
        by_cases e2 : l < i
        · rw [if_pos e2] at h4; rw [if_pos (by omega)]; exact h4
        · rw [if_neg e2] at h4; rw [if_neg (by omega)]; exact h4
  have key2 : ∃ y, (iter (σ := Int32 × Int32 × gI) (ρ := Int32 × gI) (fun z7 => (if (z7.2.2 56 3) < z7.2.1 then some (.inr (z7.1, z7.2.2)) else (if z7.1 = 0 then ((iter (σ := Int32 × gI) (ρ := gI) (fun z9 => (if (z9.2 56 3) ≤ z9.1 then some (.inr z9.2) else if z9.1 < 0 ∨ 6 ≤ z9.1.toNatClampNeg then none else ((f_X6_putNumbers N z9.2 R S (z9.1 * (z9.2 56 3)) (65 + z9.1.toNatClampNeg)).bind (fun z12 => if z9.1 < 0 ∨ 6 ≤ z9.1.toNatClampNeg then none else ((f_X0_step N z12 R S (65 + z9.1.toNatClampNeg)).bind (fun z14 => some (.inl (z9.1 + 1, z14)))))))) N ((0 : Int32), z7.2.2)).bind (fun r10 => ((f_X6_feed N r10 R S).bind (fun z15 => some (.inl (z15.1, z7.2.1 + 1, z15.2)))))) else some (.inr (z7.1, z7.2.2))))) N ((0 : Int32), (0 : Int32), J3)) = some y ∧ ∃ J k c, y = (nI (enc p k c + p ^ k), J) ∧ Fp pL J1 J ∧ J 17 1 = nI p ∧ k ≤ n ∧ Lr p n co (fun j m => itT p (r + 1) t j (X ^ m)) n k c := by
    refine iter_wp (fun k s => (∃ J, s = (0, nI k, J) ∧ Fp pL J1 J ∧ (∀ i j, i < n → j < n → J (65 + i) j = nI (dig p (co (itT p (r + 1) t k (X ^ i))) j)) ∧ SPI p (n * n) k k (Z0 (n * n)) (Wv p n co (fun j m => itT p (r + 1) t j (X ^ m))) (fun _ => False) J) ∨ (∃ J k c x, s = (nI (enc p k c + p ^ k), x, J) ∧ Fp pL J1 J ∧ J 17 1 = nI p ∧ k ≤ n ∧ Lr p n co (fun j m => itT p (r + 1) t j (X ^ m)) n k c)) _ (n + 1) (.inl ⟨J3, by rw [nI_0], hJ3, hpts, c3⟩) ?_ (by omega)
    rintro k _ hk (⟨J, rfl, g1, g2, g3⟩ | ⟨J, k', c, x, rfl, g1, g2, g3, g4⟩)
    · have hkD : k ≤ D := by
        apply Classical.byContradiction
        intro hlt
        exact Lr_min (Y := fun j m => itT p (r + 1) t j (X ^ m)) (M := n) (c := fun _ => 0) hR (SPI_KI g3) (show D < k by omega) dc hchi
      have e3 : J 56 3 = nI n := by rw [g1 56 (by unfold pL; omega)]; exact e56
      refine .inl ?_
      dsimp only
      simp only [e3]
      rw [glt_f (show k ≤ n by omega) (by omega), if_pos trivial]
      obtain ⟨J4, p1, p2, p3, p4⟩ := put J k g1 (SPI_w g3).2.1 g2
      rw [p1, Option.bind_some]
      have hFJ4 : Fp pL J1 J4 := g1.trans (p2.mono (fun a ha => by unfold pM at ha; unfold pL; omega))
      obtain ⟨J5, q1, q2⟩ := feed_ok (N := N) (R := R) (S := S) (v := fun l => dig p (co ((fun j m => itT p (r + 1) t j (X ^ m)) k (l / n))) (l % n)) hR (Z0_c _) (SPI_of g3 (J := J4) (fun a ha => p2 a (by unfold pM; omega))) (fun l hl => by rw [hFJ4 7 (by unfold pL; omega)]; exact hF1.2.2.2.1 l hl) (by omega) (fun l hl => by
        have h1 := Nat.mod_lt l (show 0 < n by omega)
        have h2 : l / n < n := (Nat.div_lt_iff_lt_mul (by omega)).mpr hl
        have h3 := p3 (l / n) (l % n) h2 h1
        rw [Nat.mul_comm, Nat.div_add_mod] at h3
        exact h3) (fun l => dig_lt (by omega) _ _) (fun l hl => rfl) hS19 (by omega)
      have hJ5 : Fp pL J1 J5 := hFJ4.trans (Fp_Fr q1 (fun a h1 h2 => by unfold pL; omega))
      have h5p : ∀ i j, i < n → j < n → J5 (65 + i) j = nI (dig p (co (itT p (r + 1) t (k + 1) (X ^ i))) j) := fun i j hi hj => by rw [q1 (65 + i) (by omega)]; exact p4 i j hi hj
      rcases q2 with ⟨mx, m1, m2, m3, m4, m5, m6, m7⟩ | ⟨m6, m7⟩
      · rw [m6, Option.bind_some]
        exact ⟨_, rfl, by omega, .inr ⟨J5, k, mx, _, by rw [enc_top m1], hJ5, (SPI_w m7).1, by omega, m2, (Wv_rel hR).mp m5, SPI_KI g3⟩⟩
      · rw [m6, Option.bind_some, nI_1]
        exact ⟨_, rfl, by omega, .inl ⟨J5, rfl, hJ5, h5p, SPI_rl m7 (fun j => ⟨fun z => z.2, fun z => z.elim⟩)⟩⟩
    · refine .inr ⟨(nI (enc p k' c + p ^ k'), J), ?_, J, k', c, rfl, g1, g2, g3, g4⟩
      dsimp only
      split
      · rfl
      · rw [g0_f (by have := Nat.pow_pos (n := k') (show 0 < p by omega); omega) (rel_31 hp.2 (by omega) g4.1)]
  obtain ⟨y, k1, J, k, c, k2, k3, k4, k5, k6⟩ := key2
  have hfr : Fp pA I J := hJ1.trans (k3.mono (fun a ha => by unfold pL at ha; unfold pA; omega))
  have f56 : J 56 = J1 56 := k3 56 (by unfold pL; omega)
  refine ⟨J, k, c, ?_, hfr, fun j hj => by rw [f56]; exact a3 j hj, k4, Ad_mk hR (CW_of hW (fun a ha => hfr a (by unfold pA; omega))) hV (by rw [f56]; exact a4) (Im_of a5 hn6 (fun a h1 h2 => k3 a (by unfold pL; omega))) hws, k5, k6⟩
  have e563 : J2 56 3 = nI n := by rw [b2 56 (by unfold pL; omega)]; exact e56
  unfold f_X0_leastOf
  rw [if_pos hW.1, a1, Option.bind_some, b1, Option.bind_some, e563, pk_mul, c1, Option.bind_some, k1, Option.bind_some, k2]
end CLeast
