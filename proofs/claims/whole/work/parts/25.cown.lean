/-! the class: OWN -/
section COwn
theorem SPI_mw {K : Type} [Lean.Grind.CommRing K] {p w m f : Nat} {Z : (Nat → K) → Prop} {V : Nat → Nat → K} {Rl : Nat → Prop} {I : gI} (h : SPI p w m f Z V Rl I) : m ≤ w := by
  obtain ⟨kv, km, ld, h1, h2, h3⟩ := h
  obtain ⟨s1, s2, s3, s4, s5, s6, s7⟩ := h2
  apply Classical.byContradiction
  intro hn
  obtain ⟨i, j, a1, a2, a3⟩ := no_inj w ld (fun i hi => (s6 i (by omega)).1)
  have b1 := (s6 j (by omega)).2.2.2 i a1
  have b2 := (s6 j (by omega)).2.1
  rw [a3] at b1
  omega
theorem SPI_rl {K : Type} [Lean.Grind.CommRing K] {p w m f : Nat} {Z : (Nat → K) → Prop} {V : Nat → Nat → K} {Rl Rl' : Nat → Prop} {I : gI} (h : SPI p w m f Z V Rl I) (e : ∀ j, Rl j ↔ Rl' j) : SPI p w m f Z V Rl' I := by
  have : Rl = Rl' := funext fun j => propext (e j)
  rw [← this]; exact h
theorem SPI_KI {K : Type} [Lean.Grind.CommRing K] {p w m f : Nat} {Z : (Nat → K) → Prop} {V : Nat → Nat → K} {I : gI} (h : SPI p w m f Z V (fun _ => False) I) : KI V w f := by
  obtain ⟨kv, km, ld, h1, h2, h3⟩ := h
  exact fun j hj => h3.2.2.2 j hj (fun z => z)
theorem enc_top {p f : Nat} {mx : Nat → Nat} (h : mx f = 1) : enc p (f + 1) mx = enc p f mx + p ^ f := by rw [enc, h, Nat.one_mul]
theorem pow_le7 {p i : Nat} (hp5 : p ≤ 5) (hi : i ≤ 7) : p ^ i ≤ 78125 := Nat.le_trans (Nat.pow_le_pow_left hp5 i) (Nat.le_trans (Nat.pow_le_pow_right (by omega) hi) (by decide))
theorem rel_31 {p f : Nat} {mx : Nat → Nat} (hp5 : p ≤ 5) (hf : f < 7) (hm : ∀ j, mx j < p) : enc p f mx + p ^ f < 2147483648 := by
  have h1 := enc_lt (p := p) (n := f) (f := mx) (fun i _ => hm i)
  have h2 := pow_le7 (i := f) hp5 (by omega)
  omega
theorem s_ownOf {K : Type} [Lean.Grind.CommRing K] {p n : Nat} {X : K} {co : K → Nat} {I : gI} {R : gR} {S : gS} {N : Nat} (hR : RO K p n X co) (hF : FH p n X co I) (h17 : I 17 1 = nI p) (h37 : I 37 2 = nI n) (hSl : S[19]? = some (12, 7)) (t0 : K) (hN : 60 ≤ N) :
    ∃ J d c, f_X8_ownOf N I R S (nI (co t0)) = some (nI (enc p d c + p ^ d), J) ∧ Fr 17 36 I J ∧ d ≤ n ∧ Lr p n co (fun j _ => t0 ^ j) 1 d c ∧ J 17 1 = nI p := by
  have hp := RO_p hR
  have hn1 := hR.2.1
  have hn6 := hR.2.2.1
  unfold f_X8_ownOf
  obtain ⟨J0, b1, b2, b3⟩ := s_begin (K := K) (N := N) (R := R) (S := S) (Z := Z0 (1 * n)) (V := Wv p n co (fun j _ => t0 ^ j)) (Rl := fun _ => False) (w := 1 * n) (show 0 < p by omega) h17 (by omega)
  rw [Nat.one_mul] at b1
  rw [h37, b1]
  have key : ∃ y : Int32 × gI, ((iter (σ := Int32 × Int32 × Int32 × gI) (ρ := Int32 × gI) (fun z2 => (if (z2.2.2.2 37 2) < z2.2.2.1 then some (.inr (z2.1, z2.2.2.2)) else (if z2.1 = 0 then ((f_X6_putElement N z2.2.2.2 R S (0 : Int32) z2.2.1).bind (fun z4 => ((f_X6_feed N z4 R S).bind (fun z5 => ((f_X2_times N z5.2 R S z2.2.1 (nI (co t0))).bind (fun z6 => some (.inl (z5.1, z6.1, z2.2.2.1 + 1, z6.2)))))))) else some (.inr (z2.1, z2.2.2.2))))) N ((0 : Int32), (1 : Int32), (0 : Int32), J0)).bind (fun r3 => some (r3.1, r3.2))) = some y ∧ ∃ J d c, y = (nI (enc p d c + p ^ d), J) ∧ Fr 17 36 I J ∧ d ≤ n ∧ Lr p n co (fun j _ => t0 ^ j) 1 d c ∧ J 17 1 = nI p := by
    refine iter_wpe (fun i s => (∃ J, s = (0, nI (co (t0 ^ i)), nI i, J) ∧ i ≤ n ∧ Fr 17 36 I J ∧ SPI p (1 * n) i i (Z0 (1 * n)) (Wv p n co (fun j _ => t0 ^ j)) (fun _ => False) J) ∨ (∃ J d c x y, s = (nI (enc p d c + p ^ d), x, y, J) ∧ Fr 17 36 I J ∧ d ≤ n ∧ Lr p n co (fun j _ => t0 ^ j) 1 d c ∧ J 17 1 = nI p)) (n + 1) (.inl ⟨J0, ?_, by omega, b2.mono (by omega) (by omega), b3⟩) ?_ (by omega)
    · rw [Lean.Grind.Semiring.pow_zero, RO_1 hR]; rfl
    · rintro i _ hi (⟨J, rfl, hin, hJ, hI⟩ | ⟨J, d, c, x, y, rfl, hJ, hd, hL, h17'⟩)
      · have hFJ := FH_fr hF hR hJ (by omega)
        have hw := SPI_w hI
        have j37 : J 37 2 = nI n := by rw [hJ 37 (by omega)]; exact h37
        dsimp only
        refine .inl ?_
        simp only [j37, glt_f hin (show n < 2147483648 by omega), if_true]
        have hpe := s_putElement (N := N) (R := R) (S := S) (s := 0) (e := co (t0 ^ i)) hp.1 hp.2 hn6 hFJ.1.1.2.1 hw.1 hw.2.1 hw.2.2.1 (by omega) (co_31 hR _) (by omega)
        rw [nI_0] at hpe
        rw [hpe]
        show ∃ s', (f_X6_feed N _ R S).bind _ = some (Sum.inl s') ∧ _
        obtain ⟨J2, q1, q2⟩ := feed_ok (N := N) (R := R) (S := S) (v := fun l => dig p (co ((fun j _ => t0 ^ j) i (l / n))) (l % n)) hR (Z0_c _) (SPI_of hI (J := Wd J 18 0 n (fun j => nI (dig p (co (t0 ^ i)) j))) (fun a ha => Wd_row (by omega))) (fun l hl => by rw [Wd_ne _ (by decide)]; exact hFJ.2.2.2.1 l hl) (by omega) (fun l hl => by
          have h1 := Wd_at (I := J) (q := 18) (s := 0) (n := n) (j := l) (F := fun j => nI (dig p (co (t0 ^ i)) j)) (by omega)
          rw [Nat.zero_add] at h1
          rw [h1, Nat.mod_eq_of_lt (by omega)]) (fun l => dig_lt (by omega) _ _) (fun l hl => rfl) hSl (by omega)
        have hJ2 : Fr 17 36 I J2 := hJ.trans ((Fr_Wd (by omega) (by omega)).trans q1)
        have hF2 := FH_fr hF hR hJ2 (by omega)
        have htm := s_times (N := N) (R := R) (S := S) hR hF2.1 (t0 ^ i) t0 (by omega)
        rcases q2 with ⟨mx, m1, m2, m3, m4, m5, m6, m7⟩ | ⟨m6, m7⟩
        · rw [m6]
          show ∃ s', (f_X2_times N J2 R S (nI (co (t0 ^ i))) (nI (co t0))).bind _ = some (Sum.inl s') ∧ _
          rw [htm]
          refine ⟨_, rfl, by omega, .inr ⟨J2, i, mx, _, _, by rw [enc_top m1], hJ2, hin, ⟨m2, (Wv_rel hR).mp m5, SPI_KI hI⟩, (SPI_w m7).1⟩⟩
        · rw [m6]
          show ∃ s', (f_X2_times N J2 R S (nI (co (t0 ^ i))) (nI (co t0))).bind _ = some (Sum.inl s') ∧ _
          rw [htm]
          have := SPI_mw m7
          refine ⟨_, rfl, by omega, .inl ⟨J2, ?_, by omega, hJ2, SPI_rl m7 (fun j => ⟨fun z => z.2, fun z => z.elim⟩)⟩⟩
          rw [← Lean.Grind.Semiring.pow_succ]
          show (0, nI (co (t0 ^ (i + 1))), nI i + 1, J2) = _
          rw [nI_1]
      · refine .inr ⟨(nI (enc p d c + p ^ d), J), ?_, _, rfl, J, d, c, rfl, hJ, hd, hL, h17'⟩
        dsimp only
        split
        · rfl
        · rw [g0_f (by have := Nat.pow_pos (n := d) (show 0 < p by omega); omega) (rel_31 hp.2 (by omega) hL.1)]
  obtain ⟨y, k1, J, d, c, k2, k3, k4, k5⟩ := key
  exact ⟨J, d, c, by rw [← k2]; exact k1, k3, k4, k5⟩
end COwn
