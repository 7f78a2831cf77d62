/-! KERNEL: both sides -/
section Kern
theorem fa_lin {K : Type} [Lean.Grind.CommRing K] {p n : Nat} {X : K} {co : K → Nat} (hR : RO K p n X co) (M : Nat) (t : Nat → K) (a D m : Nat) (c : Nat → Nat) (y : Nat → K) : fa p M t a D (sm m (fun j => nk (c j) * y j)) = sm m (fun j => nk (c j) * fa p M t a D (y j)) := by
  have hit : ∀ e, itT p M t e (sm m (fun j => nk (c j) * y j)) = sm m (fun j => nk (c j) * itT p M t e (y j)) := by
    intro e
    induction e with
    | zero => rfl
    | succ e ih => rw [itT, ih, ev_sm hR]; rfl
  unfold fa
  have e1 : ∀ e, e < D → nk (dig p a e) * itT p M t e (sm m (fun j => nk (c j) * y j)) = sm m (fun j => nk (c j) * (nk (dig p a e) * itT p M t e (y j))) := fun e _ => by
    rw [hit, ← sm_mulL]
    exact sm_congr (fun j _ => by grind)
  rw [sm_congr e1, sm_comm]
  exact sm_congr (fun j _ => by rw [sm_mulL])
theorem B_el {K : Type} [Lean.Grind.CommRing K] {p n : Nat} {X : K} {B : Nat → Nat} {i : Nat} (hi : i < n) (hB : ∀ j, B j < p) (h0 : ∀ j, i < j → B j = 0) : el p n X (enc p (i + 1) B) = sm n (fun j => nk (B j) * X ^ j) := by
  unfold el
  refine sm_congr (fun j hj => ?_)
  by_cases h : j < i + 1
  · rw [dig_enc (fun l _ => hB l) h]
  · rw [h0 j (by omega), dig_ge (enc_lt (fun l _ => hB l)) (show i + 1 ≤ j by omega) (Nat.lt_of_le_of_lt (Nat.zero_le _) (hB 0))]
theorem s_kernelItem {K : Type} [Lean.Grind.CommRing K] {p n : Nat} {X : K} {co : K → Nat} {I : gI} {R : gR} {S : gS} {N b i : Nat} {io : Nat → Nat} {B : Nat → Nat → Nat} (hR : RO K p n X co) (hF : FH p n X co I) (hb : I 56 11 = nI b) (hbn : b ≤ n) (h74 : ∀ s, s < b → I 74 s = nI (enc p (io s + 1) (B s))) (hio : ∀ s, s < b → io s < n ∧ (∀ j, io s < j → B s j = 0) ∧ ∀ j, B s j < p) (hi : i < 2147483648) (hN : 60 ≤ N) :
    f_X0_kernelItem N I R S (nI i) = some (nI (co (sm n (fun j => nk (kS p b B i j) * X ^ j))), I) := by
  have hp := RO_p hR
  have hn6 := hR.2.2.1
  have hn1 := hR.2.1
  have hE : ∀ s, s < b → enc p (io s + 1) (B s) < 2147483648 := fun s hs => by
    have h1 := enc_lt (p := p) (n := io s + 1) (f := B s) (fun l _ => (hio s hs).2.2 l)
    have h2 := pow_le7 (i := io s + 1) hp.2 (by have := (hio s hs).1; omega)
    omega
  unfold f_X0_kernelItem
  refine iter_bind (fun j => (nI j, T16 I (mtN p n (fun s => enc p (io s + 1) (B s)) (fun s => dig p i s) j))) b (T16 I (mtN p n (fun s => enc p (io s + 1) (B s)) (fun s => dig p i s) b)) ?_ ?_ ?_ (by omega) ?_
  · rw [nI_0]
    congr 1
    exact (T16_self hF.1.2).symm
  · intro j hj
    have e5 : T16 I (mtN p n (fun s => enc p (io s + 1) (B s)) (fun s => dig p i s) j) 56 11 = nI b := by rw [T16_ne _ _ _ (by decide)]; exact hb
    have e74 : T16 I (mtN p n (fun s => enc p (io s + 1) (B s)) (fun s => dig p i s) j) 74 j = nI (enc p (io j + 1) (B j)) := by rw [T16_ne _ _ _ (by decide)]; exact h74 j hj
    simp (disch := omega) only [e5, gle_f, nI_clamp, gin2, e74, nI_1]
    rw [s_numberAt (p := p) (by rw [T16_ne _ _ _ (by decide)]; exact hF.1.1.1) (fun i hi => by rw [T16_ne _ _ _ (by decide)]; exact hF.2.2.2.1 i hi) hp.1 hp.2 (by omega) hi, Option.bind_some, s_addTimes hF.1.1 hp.1 hp.2 hn6 (hE j hj) (by omega)]
    rfl
  · have e5 : T16 I (mtN p n (fun s => enc p (io s + 1) (B s)) (fun s => dig p i s) b) 56 11 = nI b := by rw [T16_ne _ _ _ (by decide)]; exact hb
    simp (disch := omega) only [e5, gle_t]
  · rw [s_folded hR hF.1.1 (fun m => by
      have := mtN_le (n := n) (E := fun s => enc p (io s + 1) (B s)) (c := fun s => dig p i s) hp.1 hp.2 (fun j => dig_lt (by omega) _ _) b m
      omega) (fun m h1 _ => mtN_0 _ _ (by omega)) (by omega), T16_self hF.1.2, mtN_val hn6, Option.bind_some]
    have e1 : ∀ s, s < b → nk (dig p i s) * el p n X (enc p (io s + 1) (B s)) = sm n (fun j => nk (dig p i s) * (nk (B s j) * X ^ j)) := fun s hs => by
      rw [B_el (hio s hs).1 (hio s hs).2.2 (hio s hs).2.1, sm_mulL]
    rw [sm_congr e1, sm_comm]
    refine congrArg (fun z => some (nI (co z), I)) (sm_congr (fun j _ => ?_))
    rw [kS_nk, ← sm_mulR]
    exact sm_congr (fun s _ => by grind)
theorem s_kernelSize {K : Type} [Lean.Grind.CommRing K] {p n : Nat} {X : K} {co : K → Nat} {I : gI} {R : gR} {S : gS} {N w r a D : Nat} {t : Nat → K} (hR : RO K p n X co) (hF : FH p n X co I) (hW : CW co I R S w r t) (hV : WV r t) (hA : Ad p n X co I R S) (h17 : I 17 1 = nI p) (hp2 : I 56 2 = nI p) (hn : I 56 3 = nI n) (hS : ∀ q, 6 ≤ q → q < 75 → S[q]? = layS[q]?) (hw : w < 100000) (hws : w < S.length) (ha : a < 2147483648) (hD : Ln p a D) (hD7 : D ≤ 7) (hN : 60 ≤ N) :
    ∃ J b, ∃ kp : Nat → K, f_X0_kernelSize N I R S w (nI a) = some (nI (p ^ b), J) ∧ Fp pA I J ∧ (∀ j, j ≠ 5 → j ≠ 11 → J 56 j = I 56 j) ∧ J 17 1 = nI p ∧ Ad p n X co J R S ∧ b ≤ n ∧ (∀ i, i < 2147483648 → f_X0_kernelItem N J R S (nI i) = some (nI (co (kp i)), J)) ∧ (∀ i, fa p (r + 1) t a D (kp i) = 0) ∧ (∀ z, fa p (r + 1) t a D z = 0 → ∃ i, i < p ^ b ∧ kp i = z) ∧ ∀ i k, i < k → k < p ^ b → co (kp i) < co (kp k) := by
  have hp := RO_p hR
  have hn1 := hR.2.1
  have hn6 := hR.2.2.1
  obtain ⟨J1, a1, a2, a3, a4, a5⟩ := s_actBy (N := N) hR hF hW hV hA hn hS hw hN
  have hJ1 : Fp pA I J1 := Fp_Fs a2 (fun a ha => by
    simp only [lA, List.mem_cons, List.mem_nil_iff, or_false] at ha
    unfold pA; omega)
  have hS71 : S[71]? = some (12, 6) := hS 71 (by omega) (by omega)
  have hS72 : S[72]? = some (12, 6) := hS 72 (by omega) (by omega)
  have hS73 : S[73]? = some (12, 6) := hS 73 (by omega) (by omega)
  have hS19 : S[19]? = some (12, 7) := hS 19 (by omega) (by omega)
  have hlin := fun (m : Nat) (c : Nat → Nat) => fa_lin hR (r + 1) t a D n c (fun j => X ^ j)
  generalize hL : fa p (r + 1) t a D = L at *
  obtain ⟨J2, c1, c2, c3⟩ := s_begin (K := K) (N := N) (R := R) (S := S) (I := J1) (Z := Z0 (1 * n)) (V := Wv p n co (fun j _ => L (X ^ j))) (Rl := fun _ => False) (w := 1 * n) (show 0 < p by omega) (by rw [a2 17 (by decide)]; exact h17) (by omega)
  rw [Nat.one_mul] at c1
  have e3 : J1 56 3 = nI n := by rw [a3 _ (by decide)]; exact hn
  unfold f_X0_kernelSize
  rw [if_pos hW.1, a1, Option.bind_some, e3, c1, Option.bind_some]
  have key : ∃ y, ((iter (σ := Int32 × gI) (ρ := gI) (fun z3 => (if (z3.2 56 3) ≤ z3.1 then some (.inr z3.2) else if z3.1 < 0 ∨ 8 ≤ z3.1.toNatClampNeg then none else ((f_X2_split N z3.2 R S (z3.2 7 z3.1.toNatClampNeg) 72).bind (fun z5 => ((f_X0_follow N z5 R S (nI a)).bind (fun z6 => ((f_X6_putNumbers N z6 R S (0 : Int32) 71).bind (fun z7 => ((f_X6_feed N z7 R S).bind (fun z8 => (if z8.1 = 0 then some (.inl (z3.1 + 1, z8.2)) else if (z8.2 56 11) < 0 ∨ 6 ≤ (z8.2 56 11).toNatClampNeg then none else some (.inl (z3.1 + 1, gU (gU z8.2 74 (z8.2 56 11).toNatClampNeg z8.1) 56 11 (((gU z8.2 74 (z8.2 56 11).toNatClampNeg z8.1) 56 11) + (1 : Int32))))))))))))))) N ((0 : Int32), gU J2 56 11 (0 : Int32))).bind (fun r4 => if (r4 56 11) < 0 ∨ 8 ≤ (r4 56 11).toNatClampNeg then none else some (r4 7 (r4 56 11).toNatClampNeg, r4))) = some y ∧ ∃ J b io B Rl, y = (nI (p ^ b), J) ∧ Fp pA I J ∧ (∀ j, j ≠ 11 → J 56 j = J1 56 j) ∧ (∀ a, 58 ≤ a → a ≤ 63 → J a = J1 a) ∧ J 56 11 = nI b ∧ (∀ s, s < b → J 74 s = nI (enc p (io s + 1) (B s))) ∧ KD p (Wv p n co (fun j _ => L (X ^ j))) (1 * n) n b io B Rl ∧ ∃ m, m + b = n ∧ SPI p (1 * n) m n (Z0 (1 * n)) (Wv p n co (fun j _ => L (X ^ j))) Rl J := by
    refine iter_wpe (fun i s => ∃ J b io B Rl, s = (nI i, J) ∧ Fp pA I J ∧ (∀ j, j ≠ 11 → J 56 j = J1 56 j) ∧ (∀ a, 58 ≤ a → a ≤ 63 → J a = J1 a) ∧ J 56 11 = nI b ∧ (∀ s, s < b → J 74 s = nI (enc p (io s + 1) (B s))) ∧ KD p (Wv p n co (fun j _ => L (X ^ j))) (1 * n) i b io B Rl ∧ ∃ m, m + b = i ∧ SPI p (1 * n) m i (Z0 (1 * n)) (Wv p n co (fun j _ => L (X ^ j))) Rl J) n ⟨_, 0, fun _ => 0, fun _ _ => 0, fun _ => False, by rw [nI_0], hJ1.trans ((Fp_Fr c2 (fun a h1 h2 => by unfold pA; omega)).trans (Fp_gU (by unfold pA; omega))), fun j hj => by rw [gU_slot _ _ _ hj, c2 56 (by omega)], fun a h1 h2 => by rw [gU_cell _ _ _ (by omega), c2 a (by omega)], by rw [gU_at]; exact nI_0.symm, fun s hs => by omega, KD_0 _ _ _ _ _, 0, rfl, SPI_of c3 (fun a ha => gU_cell _ _ _ (by omega))⟩ ?_ (by omega)
    rintro i _ hi ⟨J, b, io, B, Rl, rfl, q1, q2, q3, q4, q5, q6, m, q7, q8⟩
    have f3 : J 56 3 = nI n := by rw [q2 _ (by decide)]; exact e3
    have hFJ : FH p n X co J := FH_of hF hn6 (fun a h1 h2 => q1 a (by unfold pA; omega))
    dsimp only
    simp only [f3]
    by_cases hin : i = n
    · subst hin
      rw [gle_t (Nat.le_refl i) (by omega)]
      refine .inr ⟨J, rfl, (nI (p ^ b), J), ?_, J, b, io, B, Rl, rfl, q1, q2, q3, q4, q5, q6, m, q7, q8⟩
      rw [q4, nI_clamp (by omega), gin2 (by omega) (by omega), hFJ.2.2.2.1 b (by omega)]
    · refine .inl ?_
      have hw8 := SPI_w q8
      rw [gle_f (by omega) (by omega), nI_clamp (by omega), gin2 (by omega) (by omega), hFJ.2.2.2.1 i (by omega), ← co_X hR (show i < n by omega), s_split (p := p) (n := n) hFJ.1.1.1 hFJ.1.1.2.1 hp.1 hp.2 hn6 (by decide) (by rw [gLn_of hS72]; omega) (by rw [gLn_of hS72]; omega) (co_31 hR _) (by omega), Option.bind_some]
      obtain ⟨J4, d1, d2, d3⟩ := s_follow (N := N) (R := R) (S := S) (r := r) (t := t) hR (FH_of hFJ hn6 (fun a h1 h2 => Aw_row (by omega)) : FH p n X co (Aw J 72 n (fun j => nI (dig p (co (X ^ i)) j)))) (Im_of a5 hn6 (fun a h1 h2 => by rw [Aw_row (by omega), q3 a h1 h2])) (by rw [Aw_ne _ (by decide), q2 _ (by decide), a3 _ (by decide)]; exact hp2) (by rw [Aw_ne _ (by decide)]; exact f3) hS71 hS73 ha hD hD7 (X ^ i) (fun j hj => Aw_at hj) hN
      rw [hL] at d3
      have hJ4 : ∀ a, a ≠ 71 → a ≠ 72 → a ≠ 73 → J4 a = J a := fun a h1 h2 h3 => by
        rw [d2 a (by simp only [List.mem_cons, List.mem_nil_iff, or_false]; omega), Aw_row h2]
      rw [d1, Option.bind_some]
      have hpn := s_putNumbers (N := N) (R := R) (S := S) (I := J4) (s := 0) (q := 71) hn6 (by rw [hJ4 6 (by decide) (by decide) (by decide)]; exact hFJ.1.1.2.1) (by rw [hJ4 17 (by decide) (by decide) (by decide)]; exact hw8.2.1) hw8.2.2.1 (by omega) (by decide) (by rw [gLn_of hS71]; omega) (by rw [gLn_of hS71]; omega) (by omega)
      rw [nI_0] at hpn
      rw [hpn, Option.bind_some]
      obtain ⟨J5, g1, g2⟩ := feed_ok (N := N) (R := R) (S := S) (v := fun l => dig p (co ((fun j _ => L (X ^ j)) i (l / n))) (l % n)) hR (Z0_c _) (SPI_of q8 (J := Wd J4 18 0 n (J4 71)) (fun a ha => by rw [Wd_row (by omega), hJ4 a (by omega) (by omega) (by omega)])) (fun l hl => by rw [Wd_ne _ (by decide), hJ4 7 (by decide) (by decide) (by decide)]; exact hFJ.2.2.2.1 l hl) (by omega) (fun l hl => by
        have h1 := Wd_at (I := J4) (q := 18) (s := 0) (n := n) (j := l) (F := J4 71) (by omega)
        rw [Nat.zero_add] at h1
        rw [h1, Nat.mod_eq_of_lt (by omega)]
        exact d3 l (by omega)) (fun l => dig_lt (by omega) _ _) (fun l hl => rfl) hS19 (by omega)
      have hJ5 : ∀ a, 36 < a → a ≠ 71 → a ≠ 72 → a ≠ 73 → J5 a = J a := fun a h0 h1 h2 h3 => by rw [g1 a (by omega), Wd_row (by omega), hJ4 a h1 h2 h3]
      have hfr5 : Fp pA I J5 := q1.trans (Fp.trans (J := J4) (fun a ha => hJ4 a (by unfold pA at ha; omega) (by unfold pA at ha; omega) (by unfold pA at ha; omega)) ((Fp_Wd (by unfold pA; omega)).trans (Fp_Fr g1 (fun a h1 h2 => by unfold pA; omega))))
      rcases g2 with ⟨mx, m1, m2, m3, m4, m5, m6, m7⟩ | ⟨m6, m7⟩
      · rw [m6, Option.bind_some]
        dsimp only
        have hcode : 0 < enc p (i + 1) mx ∧ enc p (i + 1) mx < 2147483648 := by
          rw [enc_top m1]
          have := Nat.pow_pos (n := i) (show 0 < p by omega)
          exact ⟨by omega, rel_31 hp.2 (by omega) m2⟩
        have e11 : J5 56 11 = nI b := by rw [hJ5 56 (by decide) (by decide) (by decide) (by decide)]; exact q4
        rw [g0_f hcode.1 hcode.2]
        simp only [e11]
        rw [nI_clamp (by omega), gin2 (by omega) (by omega), nI_1]
        refine ⟨_, rfl, by omega, _, b + 1, _, _, _, rfl, hfr5.trans ((Fp_gU (by unfold pA; omega)).trans (Fp_gU (by unfold pA; omega))), ?_, ?_, ?_, ?_, KD_rel q6 m1 m2 m3 m4 m5, m, by omega, ?_⟩
        · intro j hj
          rw [gU_slot _ _ _ hj, gU_ne _ _ _ _ (by decide), hJ5 56 (by decide) (by decide) (by decide) (by decide)]; exact q2 j hj
        · intro a h1 h2
          rw [gU_cell _ _ _ (by omega), gU_cell _ _ _ (by omega), hJ5 a (by omega) (by omega) (by omega) (by omega)]; exact q3 a h1 h2
        · rw [gU_at, gU_ne _ _ _ _ (by decide), e11, nI_1]
        · intro s hs
          rw [gU_ne _ _ _ _ (by decide)]
          by_cases e : s = b
          · simp only [if_pos e]
            rw [e, gU_at]
          · simp only [if_neg e]
            rw [gU_slot _ _ _ e, hJ5 74 (by decide) (by decide) (by decide) (by decide)]; exact q5 s (by omega)
        · exact SPI_of m7 (fun a ha => by rw [gU_cell _ _ _ (by omega), gU_cell _ _ _ (by omega)])
      · rw [m6, Option.bind_some]
        dsimp only
        rw [if_pos rfl, nI_1]
        refine ⟨_, rfl, by omega, J5, b, io, B, _, rfl, hfr5, ?_, ?_, ?_, ?_, KD_keep q6, m + 1, by omega, m7⟩
        · intro j hj
          rw [hJ5 56 (by decide) (by decide) (by decide) (by decide)]; exact q2 j hj
        · intro a h1 h2
          rw [hJ5 a (by omega) (by omega) (by omega) (by omega)]; exact q3 a h1 h2
        · rw [hJ5 56 (by decide) (by decide) (by decide) (by decide)]; exact q4
        · intro s hs
          rw [hJ5 74 (by decide) (by decide) (by decide) (by decide)]; exact q5 s hs
  obtain ⟨y, k1, J, b, io, B, Rl, k2, k3, k4, k5, k6, k7, k8, m, k9, k10⟩ := key
  have hF4 : ∀ j, j < n → ¬ Rl j → ¬ ∃ c : Nat → K, ∀ i, i < 1 * n → Wv p n co (fun j _ => L (X ^ j)) j i = sm j (fun l => c l * Wv p n co (fun j _ => L (X ^ j)) l i) := by
    obtain ⟨kv, km, ld, h1, h2, h3⟩ := k10
    exact h3.2.2.2
  obtain ⟨kp, u1, u2, u3, u4⟩ := ker_ok hR (M := 1) (L := fun _ => L) (fun m c _ => hlin m c) k8 hF4
  refine ⟨J, b, kp, by rw [k1, k2], k3, fun j h5 h11 => by rw [k4 j h11]; exact a3 j h5, (SPI_w k10).1, Ad_mk hR (CW_of hW (fun a ha => k3 a (by unfold pA; omega))) hV (by rw [k4 5 (by decide)]; exact a4) (Im_of a5 hn6 k5) hws, by omega, fun i hi => ?_, fun i => u2 i 0 (by omega), fun z hz => u3 z (fun m _ => hz), u4⟩
  rw [u1 i]
  refine s_kernelItem hR (FH_of hF hn6 (fun a h1 h2 => k3 a (by unfold pA; omega))) k6 (by omega) k7 (fun s hs => ?_) hi hN
  obtain ⟨v1, v2, v3, v4, v5⟩ := k8.2.2.2 s hs
  exact ⟨(k8.1 s hs).1, v2, v4⟩
end Kern
