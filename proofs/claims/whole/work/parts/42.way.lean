/-! BACK: the class's way -/
section Way
theorem s_wayBack {K : Type} [Lean.Grind.CommRing K] {p n : Nat} {X : K} {co : K → Nat} {I : gI} {R : gR} {S : gS} {N w r l : Nat} {t u : Nat → K} {Y : Nat → Nat → K} (hR : RO K p n X co) (hF : FH p n X co I) (hW : CW co I R S w r t) (hV : WV r t) (hP : Pd p co I R S) (h17 : I 17 1 = nI p) (h37 : I 37 2 = nI n) (hS : ∀ q, 5 ≤ q → q < 56 → S[q]? = layS[q]?) (hw : w < 100000) (hws : w < S.length) (hl1 : 1 ≤ l) (hl : l ≤ 4) (hul : u l ≠ 0) (hu0 : ∀ k, l < k → u k = 0) (hu : ∀ k, k ≤ l → I 5 k = nI (co (u k))) (hY : ∀ k, k ≤ 4 → ∃ q, Dv p l 24 u (tp p t k) q (Y k)) (hN : 60 ≤ N) :
    ∃ J, Fp pB I J ∧ (∀ j, j ≠ 4 → j ≠ 5 → J 37 j = I 37 j) ∧ J 17 1 = nI p ∧ Pd p co J R S ∧ ((∃ k c q rm, 1 ≤ k ∧ k ≤ 4 ∧ Lr p n co Y l k c ∧ f_X8_wayBack N I R S w 5 (nI l) = some (nI (enc p k c + p ^ k), J) ∧ (∀ i, i < 19 → J 55 i = nI (co (q i))) ∧ Dv p l (r * k + 1 - l) u (ac p t (enc p k c + p ^ k) (k + 1)) q rm) ∨ (f_X8_wayBack N I R S w 5 (nI l) = some (0, J) ∧ KI (Wv p n co Y) (l * n) 5)) := by
  have hp := RO_p hR
  have hn1 := hR.2.1
  have hn6 := hR.2.2.1
  have hln : l * n ≤ 24 := Nat.mul_le_mul hl hn6
  have hS6 : ∀ q, 6 ≤ q → q < 56 → S[q]? = layS[q]? := fun q h1 h2 => hS q (by omega) h2
  obtain ⟨J1, b1, b2, b3⟩ := s_divideBy (N := N) (R := R) (S := S) (a0 := 5) (L0 := 5) (u := u) hR hF h37 (hS 5 (by omega) (by omega)) (by omega) hl (by omega) (by omega) hu hN
  obtain ⟨J2, c1, c2, c3⟩ := s_begin (K := K) (N := N) (R := R) (S := S) (I := J1) (Z := Z0 (l * n)) (V := Wv p n co Y) (Rl := fun _ => False) (w := l * n) (show 0 < p by omega) (by rw [b2 17 (by omega)]; exact h17) (by omega)
  have hY0 : Y 0 0 = 1 := by
    obtain ⟨q, hq⟩ := hY 0 (by omega)
    have h1 : Dv p l 0 u (tp p t 0) (fun _ => 0) (tp p t 0) := ⟨fun k => by rw [show cmp p (fun _ => (0 : K)) u k = 0 from sm_0 (fun i _ => by grind)]; grind, fun k hk => d0_ne (by omega), fun _ _ => rfl⟩
    rw [(Dv_uniq hR hul hu0 hq h1).2]; rfl
  have hpB : Fp pB I J2 := Fp.trans (J := J1) (Fp_Fr b2 (fun a h1 h2 => by unfold pB; omega)) (Fp_Fr c2 (fun a h1 h2 => by unfold pB; omega))
  have key : ∃ y, (iter (σ := Int32 × Int32 × gI) (ρ := Int32 × gI) (fun z3 => (if (4 : Int32) < z3.2.1 then some (.inr (z3.1, z3.2.2)) else (if z3.1 = 0 then if z3.2.1 < 0 ∨ 8 ≤ z3.2.1.toNatClampNeg then none else ((f_X8_divideSumOf N z3.2.2 R S w (z3.2.2 7 z3.2.1.toNatClampNeg) (nI l)).bind (fun z5 => ((iter (σ := Int32 × gI) (ρ := gI) (fun z6 => (if nI l ≤ z6.1 then some (.inr z6.2) else if z6.1 < 0 ∨ 19 ≤ z6.1.toNatClampNeg then none else ((f_X6_putElement N z6.2 R S (z6.1 * (z6.2 37 2)) (z6.2 54 z6.1.toNatClampNeg)).bind (fun z8 => some (.inl (z6.1 + 1, z8)))))) N ((0 : Int32), z5)).bind (fun r7 => ((f_X6_feed N r7 R S).bind (fun z9 => some (.inl (z9.1, z3.2.1 + 1, z9.2)))))))) else some (.inr (z3.1, z3.2.2))))) N ((0 : Int32), (0 : Int32), J2)) = some y ∧ ∃ J, Fp pB I J ∧ (∀ j, j ≠ 4 → j ≠ 5 → J 37 j = I 37 j) ∧ J 17 1 = nI p ∧ Pd p co J R S ∧ (∀ a, 48 ≤ a → a ≤ 53 → J a = J1 a) ∧ ((∃ k c, 1 ≤ k ∧ k ≤ 4 ∧ Lr p n co Y l k c ∧ y = (nI (enc p k c + p ^ k), J)) ∨ (y = (0, J) ∧ KI (Wv p n co Y) (l * n) 5)) := by
    refine iter_wp (fun k s => ∃ J, Fp pB I J ∧ (∀ j, j ≠ 4 → j ≠ 5 → J 37 j = I 37 j) ∧ J 17 1 = nI p ∧ Pd p co J R S ∧ (∀ a, 48 ≤ a → a ≤ 53 → J a = J1 a) ∧ ((s = (0, nI k, J) ∧ k ≤ 5 ∧ SPI p (l * n) k k (Z0 (l * n)) (Wv p n co Y) (fun _ => False) J) ∨ (∃ k' c x, s = (nI (enc p k' c + p ^ k'), x, J) ∧ 1 ≤ k' ∧ k' ≤ 4 ∧ Lr p n co Y l k' c))) _ 5 ⟨J2, hpB, fun j _ _ => by rw [c2 37 (by omega), b2 37 (by omega)], (SPI_w c3).1, Pd_of hP (by rw [c2 37 (by omega), b2 37 (by omega)]) (by rw [c2 37 (by omega), b2 37 (by omega)]) (fun a h1 h2 => by rw [c2 a (by omega), b2 a (by omega)]) (fun a ha => by rw [c2 a (by omega), b2 a (by omega)]), fun a h1 h2 => c2 a (by omega), .inl ⟨by rw [nI_0], by omega, c3⟩⟩ ?_ (by omega)
    rintro k _ hk ⟨J, q1, q2, q3, q4, q5, ⟨rfl, hk5, q6⟩ | ⟨k', c, x, rfl, x1, x2, x3⟩⟩
    · dsimp only
      rw [show (4 : Int32) = nI 4 from rfl]
      by_cases he : k = 5
      · subst he
        rw [glt_t (by omega) (by omega)]
        exact .inr ⟨_, rfl, J, q1, q2, q3, q4, q5, .inr ⟨rfl, SPI_KI q6⟩⟩
      · refine .inl ?_
        have hFJ : FH p n X co J := FH_of hF hn6 (fun a h1 h2 => q1 a (by unfold pB; omega))
        have hWJ : CW co J R S w r t := CW_of hW (fun a ha => q1 a (by unfold pB; omega))
        have h7 := hFJ.2.2.2.1 k (by omega)
        have hpk := pow_le7 (i := k) hp.2 (by omega)
        obtain ⟨J3, d1, d2, d3, d4, q, rm, d5, d6, d7⟩ := s_divideSumOf (N := N) (a := p ^ k) (D := k) (l := l) (u := u) hR hFJ hWJ hV q4 (by rw [q2 2 (by decide) (by decide)]; exact h37) hS6 hw hws (by omega) (Ln_pow hp.1 k) (by omega) hl hul hu0 (fun i hi => by rw [q5 (48 + i) (by omega) (by omega)]; exact b3 i hi) hN
        rw [ac_pow hp.1] at d7
        obtain ⟨q', hq'⟩ := hY k (by omega)
        have hrm := (Dv_uniq hR hul hu0 d7 hq').2
        subst hrm
        rw [glt_f (by omega) (by omega), if_pos rfl, nI_clamp (by omega), gin2 (by omega) (by omega), h7, d1, Option.bind_some]
        have e37 : J3 37 2 = nI n := by rw [d3 2 (by decide) (by decide), q2 2 (by decide) (by decide)]; exact h37
        have hw6 := SPI_w q6
        have f17 : J3 17 = J 17 := d2 17 (by decide)
        have e1 : ∃ J4, (iter (σ := Int32 × gI) (ρ := gI) (fun z6 => (if nI l ≤ z6.1 then some (.inr z6.2) else if z6.1 < 0 ∨ 19 ≤ z6.1.toNatClampNeg then none else ((f_X6_putElement N z6.2 R S (z6.1 * (z6.2 37 2)) (z6.2 54 z6.1.toNatClampNeg)).bind (fun z8 => some (.inl (z6.1 + 1, z8)))))) N ((0 : Int32), J3)) = some J4 ∧ (∀ a, a ≠ 18 → J4 a = J3 a) ∧ ∀ m i, m < l → i < n → J4 18 (m * n + i) = nI (dig p (co (Y k m)) i) := by
          refine iter_wp (fun m s => ∃ J4, s = (nI m, J4) ∧ (∀ a, a ≠ 18 → J4 a = J3 a) ∧ ∀ m' i, m' < m → i < n → J4 18 (m' * n + i) = nI (dig p (co (Y k m')) i)) _ l ⟨J3, by rw [nI_0], fun _ _ => rfl, fun m i hm => by omega⟩ ?_ (by omega)
          rintro m _ hm ⟨J4, rfl, g1, g2⟩
          dsimp only
          by_cases hml : m = l
          · rw [gle_t (by omega) (by omega)]
            exact .inr ⟨J4, rfl, g1, by rw [← hml]; exact g2⟩
          · refine .inl ?_
            have hmn : m * n + n ≤ l * n := by
              have := Nat.mul_le_mul_right n (show m + 1 ≤ l by omega)
              rw [Nat.succ_mul] at this
              omega
            rw [gle_f (by omega) (by omega), nI_clamp (by omega), gin2 (by omega) (by omega), g1 37 (by decide), e37, pk_mul, g1 54 (by decide), d6 m (by omega), s_putElement (p := p) (n := n) (w := l * n) hp.1 hp.2 hn6 (by rw [g1 6 (by decide), d2 6 (by decide)]; exact hFJ.1.1.2.1) (by rw [g1 17 (by decide), f17]; exact hw6.1) (by rw [g1 17 (by decide), f17]; exact hw6.2.1) hw6.2.2.1 hmn (co_31 hR _) (by omega), Option.bind_some, nI_1]
            refine ⟨_, rfl, by omega, _, rfl, fun a ha => by rw [Wd_row ha]; exact g1 a ha, fun m' i hm' hi => ?_⟩
            by_cases e : m' = m
            · rw [e, Wd_at hi]
            · rw [Wd_out]
              · exact g2 m' i (by omega) hi
              · have := Nat.mul_le_mul_right n (show m' + 1 ≤ m by omega)
                rw [Nat.succ_mul] at this
                omega
        obtain ⟨J4, g0, g1, g2⟩ := e1
        rw [g0, Option.bind_some]
        obtain ⟨J5, f1, f2⟩ := feed_ok (N := N) (R := R) (S := S) (v := fun i => dig p (co (Y k (i / n))) (i % n)) hR (Z0_c _) (SPI_of q6 (J := J4) (fun a ha => by rw [g1 a (by omega), d2 a (by simp only [lP, List.mem_cons, List.mem_nil_iff, or_false]; omega)])) (fun i hi => by rw [g1 7 (by decide), d2 7 (by decide)]; exact hFJ.2.2.2.1 i hi) (by omega) (fun i hi => by
          have a1 := Nat.mod_lt i (show 0 < n by omega)
          have a2 : i / n < l := (Nat.div_lt_iff_lt_mul (by omega)).mpr hi
          have a3 := g2 (i / n) (i % n) a2 a1
          rw [show i / n * n + i % n = i by rw [Nat.mul_comm]; exact Nat.div_add_mod i n] at a3
          exact a3) (fun i => dig_lt (by omega) _ _) (fun i hi => rfl) (hS 19 (by omega) (by omega)) (by omega)
        have hJ5 : ∀ a, (a < 17 ∨ 36 < a) → J5 a = J3 a := fun a ha => by rw [f1 a ha, g1 a (by omega)]
        have hfr5 : Fp pB I J5 := q1.trans (Fp.trans (J := J3) (Fp_Fs d2 (fun a ha => by
          simp only [lP, List.mem_cons, List.mem_nil_iff, or_false] at ha
          unfold pB; omega)) (fun a ha => hJ5 a (by unfold pB at ha; omega)))
        have h37J : ∀ j, j ≠ 4 → j ≠ 5 → J5 37 j = I 37 j := fun j h4 h5 => by rw [hJ5 37 (by omega), d3 j h4 h5]; exact q2 j h4 h5
        have hPd5 : Pd p co J5 R S := Pd_of d4 (by rw [hJ5 37 (by omega)]) (by rw [hJ5 37 (by omega)]) (fun a h1 h2 => hJ5 a (by omega)) (fun a ha => hJ5 a (by omega))
        have hrow5 : ∀ a, 48 ≤ a → a ≤ 53 → J5 a = J1 a := fun a h1 h2 => by
          rw [hJ5 a (by omega), d2 a (by simp only [lP, List.mem_cons, List.mem_nil_iff, or_false]; omega)]; exact q5 a h1 h2
        rcases f2 with ⟨mx, m1, m2, m3, m4, m5, m6, m7⟩ | ⟨m6, m7⟩
        · rw [m6, Option.bind_some]
          have hk1 : 1 ≤ k := by
            apply Classical.byContradiction
            intro hn
            have h0 := (Wv_rel hR).mp m5 0 (by omega)
            rw [show k = 0 by omega, sm_zero, hY0] at h0
            exact RO_ne hR (by grind)
          exact ⟨_, rfl, by omega, J5, hfr5, h37J, (SPI_w m7).1, hPd5, hrow5, .inr ⟨k, mx, _, by rw [enc_top m1], hk1, by omega, m2, (Wv_rel hR).mp m5, SPI_KI q6⟩⟩
        · rw [m6, Option.bind_some]
          exact ⟨_, rfl, by omega, J5, hfr5, h37J, (SPI_w m7).1, hPd5, hrow5, .inl ⟨by rw [nI_1], by omega, SPI_rl m7 (fun j => ⟨fun z => z.2, fun z => z.elim⟩)⟩⟩
    · refine .inr ⟨(nI (enc p k' c + p ^ k'), J), ?_, J, q1, q2, q3, q4, q5, .inl ⟨k', c, x1, x2, x3, rfl⟩⟩
      dsimp only
      split
      · rfl
      · rw [g0_f (by have := Nat.pow_pos (n := k') (show 0 < p by omega); omega) (rel_31 hp.2 (by omega) x3.1)]
  obtain ⟨y, k1, J, q1, q2, q3, q4, q5, q6⟩ := key
  have hrun : ∀ z, (if y.1 = 0 then some (y.1, y.2) else ((f_X8_divideSumOf N y.2 R S w y.1 (nI l)).bind (fun z10 => some (y.1, z10)))) = z → f_X8_wayBack N I R S w 5 (nI l) = z := by
    intro z hz
    unfold f_X8_wayBack
    rw [if_pos hW.1, b1, Option.bind_some, b2 37 (by omega), h37, pk_mul, c1, Option.bind_some, k1, Option.bind_some]
    exact hz
  rcases q6 with ⟨k, c, x1, x2, x3, rfl⟩ | ⟨rfl, x3⟩
  · have hFJ : FH p n X co J := FH_of hF hn6 (fun a h1 h2 => q1 a (by unfold pB; omega))
    have hWJ : CW co J R S w r t := CW_of hW (fun a ha => q1 a (by unfold pB; omega))
    have h31 := rel_31 (f := k) hp.2 (by omega) x3.1
    obtain ⟨J3, d1, d2, d3, d4, q, rm, d5, d6, d7⟩ := s_divideSumOf (N := N) (a := enc p k c + p ^ k) (D := k) (l := l) (u := u) hR hFJ hWJ hV q4 (by rw [q2 2 (by decide) (by decide)]; exact h37) hS6 hw hws h31 (Ln_own hp.1 x3.1) (by omega) hl hul hu0 (fun i hi => by rw [q5 (48 + i) (by omega) (by omega)]; exact b3 i hi) hN
    refine ⟨J3, q1.trans (Fp_Fs d2 (fun a ha => by
      simp only [lP, List.mem_cons, List.mem_nil_iff, or_false] at ha
      unfold pB; omega)), fun j h4 h5 => by rw [d3 j h4 h5]; exact q2 j h4 h5, by rw [d2 17 (by decide)]; exact q3, d4, .inl ⟨k, c, q, rm, x1, x2, x3, hrun _ ?_, d5, d7⟩⟩
    dsimp only
    rw [g0_f (by have := Nat.pow_pos (n := k) (show 0 < p by omega); omega) h31, d1, Option.bind_some]
  · exact ⟨J, q1, q2, q3, q4, .inr ⟨hrun _ (if_pos rfl), x3⟩⟩
end Way
