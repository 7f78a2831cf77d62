/-! told -/
section StTold
theorem m_markOf {K : Type} [Lean.Grind.CommRing K] {p n : Nat} {X : K} {co : K → Nat} {H : gI} {R : gR} {S : gS} {N w r : Nat} {t : Nat → K} (hR : RO K p n X co) (hM : MH p n X co H) (hw : w < 10) (hW : MW co H w r t) (h2 : t 2 ≠ 0) : f_X12_markOf N H R S (nI w) = some (nI (co (t 1 ^ (p + 1) * t 2 ^ (p ^ n - 2)))) := by
  have hp := RO_p hR
  unfold f_X12_markOf
  rw [hM.1, show (4 : Int32) = nI 4 from rfl, show (2 : Int32) = nI 2 from rfl, nI_1, pk_mul, show (1 : Int32) = nI 1 from rfl, nI_add, nI_add, nI_clamp (by omega), nI_clamp (by omega), gin2 (by omega) (by omega), hW.2 1 (by omega), hW.2 2 (by omega), nI_l (by omega), m_raise hR hM _ (by omega), Option.bind_some, gin2 (by omega) (by omega), m_inverse hR hM h2, Option.bind_some, m_times hR hM, Option.bind_some]
theorem st_told {K : Type} [Lean.Grind.CommRing K] {p n : Nat} {X : K} {co : K → Nat} {k N : Nat} {I : gI} {R : gR} {S : gS} (hR : RO K p n X co) (h : IV p n X co k I R S) (hk : k < 512) (hN : 16000 ≤ N) (x0 x1 : Int32) (h78 : ∀ w a r, ∀ t : Nat → K, ∀ d c f, w < 10 → R 2 w = some a → WD p n co I R S a r t d c f → MW co I w r t → x1 = nI 7 ∨ x1 = nI 8 → ∃ v J1 J2 st, f_X11_told N I R S (nI w) x1 = some (v, J1) ∧ CS p n X co R S I J1 st ∧ f_X12_told N J1 R S (nI w) x1 = some (v, J2) ∧ MS J1 J2 st) : ∃ J P T, k_told N I R S x0 x1 = some (J, P, T) ∧ IV p n X co (k + 1) J P T := by
  have hIV := h
  obtain ⟨b1, b2, b3, b4, b5, b6, b7, b8, b9, b10⟩ := h
  unfold k_told
  refine k_fin (m := fun J => f_X12_told N J R S x0 x1) hR hIV ?_
  rcases isP2 (N := N) (R := R) (S := S) x0 with hp | ⟨w, w1, rfl, hp⟩
  · refine ⟨-1000001, I, _, I 0 7, ?_, CS_I hIV, ?_, MS_bad b9.symm⟩
    · unfold f_X11_told; rw [(hp I I).1, Option.bind_some, if_pos rfl]
    · unfold f_X12_told; rw [(hp I _).2, Option.bind_some, if_pos rfl]
  rcases in2 (N := N) (R := R) (S := S) 9 (by omega) x1 with ⟨i1, i2⟩ | ⟨j, j1, rfl, hj⟩
  · refine ⟨-1000001, I, _, I 0 7, ?_, CS_I hIV, ?_, MS_bad b9.symm⟩
    · unfold f_X11_told; rw [(hp I I).1, Option.bind_some, if_neg (by decide)]
      by_cases z : x1 < 0
      · rw [if_pos z]
      · rw [if_neg z, if_neg (fun y => by
          have i1 := i1.resolve_left z
          have e9 : (nI 9).toInt = 9 := rfl
          have e9' : (9 : Int32).toInt = 9 := rfl
          rw [Int32.lt_iff_toInt_lt] at i1
          rw [Int32.le_iff_toInt_le] at y
          omega)]
    · unfold f_X12_told; rw [(hp I _).2, Option.bind_some, if_neg (by decide), show f_X12_in N (gU I 91 0 (0 : Int32)) R S x1.toInt64 (0 : Int64) (9 : Int64) = some 0 from i2 _, Option.bind_some, if_pos rfl]
  have h9 : nI j ≤ (9 : Int32) := nI_le (b := 9) j1 (by omega)
  have hin : ∀ J : gI, f_X12_in N J R S (nI j).toInt64 (0 : Int64) (9 : Int64) = some 1 := fun J => hj J
  rcases b8 w w1 with ⟨e1, e2⟩ | ⟨a, r, t, d, c, f, e1, e2, e3⟩
  · refine ⟨(-1000010 : Int32) - 1, gU I 0 7 1, _, 1, ?_, CS_f hR hIV 1, ?_, MS_found 1⟩
    · unfold f_X11_told; rw [(hp I I).1, Option.bind_some, if_neg (by decide), if_neg (nI_pos (by omega)), if_pos h9, nI_clamp (n := w) (by omega), gin2 (by omega) (by omega), e1]; rfl
    · unfold f_X12_told; rw [(hp I _).2, Option.bind_some, if_neg (by decide), hin, Option.bind_some, if_neg (by decide), look_no w1 (by rw [gU_ne _ _ _ _ (by decide)]; exact e2), Option.bind_some, if_neg (by dsimp only; decide)]
  have hVr := e2.2.2.1
  have h1r := hVr.1
  have h3r := hVr.2.1
  have hp' := RO_p hR
  have hW := e2.2.1
  have hC : ∀ v Jc, nI j ≠ 9 → f_X11_tellOf N I R S a (nI j) = some (v, Jc) → f_X11_told N I R S (nI w) (nI j) = some (v, gU Jc 0 7 (0 : Int32)) := fun v Jc h1 h2 => by
    unfold f_X11_told; rw [(hp I I).1, Option.bind_some, if_neg (by decide), if_neg (nI_pos (by omega)), if_pos h9, nI_clamp (n := w) (by omega), gin2 (by omega) (by omega), e1]
    dsimp only
    rw [if_pos hW.1, if_neg h1, h2]; rfl
  have hCS0 := CS_f hR hIV 0
  obtain ⟨J0, hJ0⟩ : ∃ J0, J0 = gU I 0 7 (0 : Int32) := ⟨_, rfl⟩
  have hJ0n : ∀ q, q ≠ 0 → J0 q = I q := fun q hq => by rw [hJ0, gU_cell _ _ _ hq]
  rw [← hJ0] at hCS0
  have hMW : ∀ J : gI, J 101 = I 101 → J 102 = I 102 → MW co J w r t := fun J h1 h2 => MW_of e3 h1 h2
  have hMH : ∀ J : gI, (∀ q, 91 ≤ q → q < 114 → J q = I q) → MH p n X co (m0 J) ∧ MW co (m0 J) w r t := fun J hJ => ⟨m0_MH (MH_of b5 (fun o _ _ => by rw [hJ 91 (by omega) (by omega)]) (hJ 96 (by omega) (by omega)) (hJ 97 (by omega) (by omega))), m0_MW (hMW J (hJ 101 (by omega) (by omega)) (hJ 102 (by omega) (by omega)))⟩
  have hlk : ∀ J : gI, (∀ q, 91 ≤ q → q < 114 → J q = I q) → f_X12_look N (gU J 91 0 (0 : Int32)) R S (nI w) = some (0, m0 J) := fun J hJ => look_yes w1 (hMW J (hJ 101 (by omega) (by omega)) (hJ 102 (by omega) (by omega))) h1r h3r
  have hJ0m : ∀ q, 91 ≤ q → q < 114 → J0 q = I q := fun q h1 _ => hJ0n q (by omega)
  have hMS0 : ∀ J : gI, MS J (m0 J) 0 := fun J => MS_m0 (l := []) (fun _ _ => rfl) (fun _ ha => absurd ha (by simp))
  have hlayM : ∀ q, 91 ≤ q → q < 114 → S[q]? = layS[q]? := fun q h1 h2 => b1.1 q (by omega) (by omega)
  have hj9 : j = 0 ∨ j = 1 ∨ j = 2 ∨ j = 3 ∨ j = 4 ∨ j = 5 ∨ j = 6 ∨ (j = 7 ∨ j = 8) ∨ j = 9 := by omega
  rcases hj9 with rfl | rfl | rfl | rfl | rfl | rfl | rfl | hj9 | rfl
  · refine ⟨nI r, J0, m0 J0, 0, (hC _ _ (by decide) ?_).trans (by rw [hJ0]), hCS0, ?_, hMS0 J0⟩
    · unfold f_X11_tellOf; rw [if_pos hW.1, if_pos (show nI 0 = (0 : Int32) from rfl), hW.2.2.2.2]
    · unfold f_X12_told; rw [(hp I _).2, Option.bind_some, if_neg (by decide), hin, Option.bind_some, if_neg (by decide), hlk J0 hJ0m, Option.bind_some, if_pos (show (0 : Int32) ≤ 0 by decide)]; dsimp only; rw [if_pos (show nI 0 = (0 : Int32) from rfl), nI_clamp (by omega), gin2 (by omega) (by omega), (hMH J0 hJ0m).2.1]
  · refine ⟨nI (co (t 0)), J0, m0 J0, 0, (hC _ _ (by decide) ?_).trans (by rw [hJ0]), hCS0, ?_, hMS0 J0⟩
    · unfold f_X11_tellOf; rw [if_pos hW.1, if_neg (by decide), if_pos (show nI 1 = (1 : Int32) from rfl), if_neg (by decide), if_neg (by decide), if_neg (by decide), show (nI 1 - (1 : Int32)).toNatClampNeg = 0 from rfl, hW.2.2.2.1 0 (by omega)]
    · unfold f_X12_told; rw [(hp I _).2, Option.bind_some, if_neg (by decide), hin, Option.bind_some, if_neg (by decide), hlk J0 hJ0m, Option.bind_some, if_pos (show (0 : Int32) ≤ 0 by decide)]; dsimp only; rw [if_neg (by decide), if_pos (show nI 1 = (1 : Int32) from rfl), show (4 : Int32) = nI 4 from rfl, pk_mul, nI_add, dn1 _ (by omega), show 4 * w + 1 - 1 = 4 * w + 0 by omega, nI_clamp (by omega), gin2 (by omega) (by omega), (hMH J0 hJ0m).2.2 0 (by omega)]
  · refine ⟨nI (co (t 1)), J0, m0 J0, 0, (hC _ _ (by decide) ?_).trans (by rw [hJ0]), hCS0, ?_, hMS0 J0⟩
    · unfold f_X11_tellOf; rw [if_pos hW.1, if_neg (by decide), if_neg (by decide), if_pos (show nI 2 = (2 : Int32) from rfl), if_neg (by decide), if_neg (by decide), if_neg (by decide), show (nI 2 - (1 : Int32)).toNatClampNeg = 1 from rfl, hW.2.2.2.1 1 (by omega)]
    · unfold f_X12_told; rw [(hp I _).2, Option.bind_some, if_neg (by decide), hin, Option.bind_some, if_neg (by decide), hlk J0 hJ0m, Option.bind_some, if_pos (show (0 : Int32) ≤ 0 by decide)]; dsimp only; rw [if_neg (by decide), if_neg (by decide), if_pos (show nI 2 = (2 : Int32) from rfl), show (4 : Int32) = nI 4 from rfl, pk_mul, nI_add, dn1 _ (by omega), show 4 * w + 2 - 1 = 4 * w + 1 by omega, nI_clamp (by omega), gin2 (by omega) (by omega), (hMH J0 hJ0m).2.2 1 (by omega)]
  · refine ⟨nI (co (t 2)), J0, m0 J0, 0, (hC _ _ (by decide) ?_).trans (by rw [hJ0]), hCS0, ?_, hMS0 J0⟩
    · unfold f_X11_tellOf; rw [if_pos hW.1, if_neg (by decide), if_neg (by decide), if_neg (by decide), if_pos (show nI 3 = (3 : Int32) from rfl), if_neg (by decide), if_neg (by decide), if_neg (by decide), show (nI 3 - (1 : Int32)).toNatClampNeg = 2 from rfl, hW.2.2.2.1 2 (by omega)]
    · unfold f_X12_told; rw [(hp I _).2, Option.bind_some, if_neg (by decide), hin, Option.bind_some, if_neg (by decide), hlk J0 hJ0m, Option.bind_some, if_pos (show (0 : Int32) ≤ 0 by decide)]; dsimp only; rw [if_neg (by decide), if_neg (by decide), if_neg (by decide), if_pos (show nI 3 = (3 : Int32) from rfl), show (4 : Int32) = nI 4 from rfl, pk_mul, nI_add, dn1 _ (by omega), show 4 * w + 3 - 1 = 4 * w + 2 by omega, nI_clamp (by omega), gin2 (by omega) (by omega), (hMH J0 hJ0m).2.2 2 (by omega)]
  · refine ⟨nI (co (t 3)), J0, m0 J0, 0, (hC _ _ (by decide) ?_).trans (by rw [hJ0]), hCS0, ?_, hMS0 J0⟩
    · unfold f_X11_tellOf; rw [if_pos hW.1, if_neg (by decide), if_neg (by decide), if_neg (by decide), if_neg (by decide), if_pos (show nI 4 = (4 : Int32) from rfl), if_neg (by decide), if_neg (by decide), if_neg (by decide), show (nI 4 - (1 : Int32)).toNatClampNeg = 3 from rfl, hW.2.2.2.1 3 (by omega)]
    · unfold f_X12_told; rw [(hp I _).2, Option.bind_some, if_neg (by decide), hin, Option.bind_some, if_neg (by decide), hlk J0 hJ0m, Option.bind_some, if_pos (show (0 : Int32) ≤ 0 by decide)]; dsimp only; rw [if_neg (by decide), if_neg (by decide), if_neg (by decide), if_neg (by decide), if_pos (show nI 4 = (4 : Int32) from rfl), show (4 : Int32) = nI 4 from rfl, pk_mul, nI_add, dn1 _ (by omega), show 4 * w + 4 - 1 = 4 * w + 3 by omega, nI_clamp (by omega), gin2 (by omega) (by omega), (hMH J0 hJ0m).2.2 3 (by omega)]
  · obtain ⟨_, _, _, J2, o1, o2⟩ := m_ownOf (N := N) (R := R) (S := S) hR (hMH J0 hJ0m).1 w1 (hMH J0 hJ0m).2 e2.2.2.2.1 (hlayM 106 (by omega) (by omega)) (by omega)
    refine ⟨nI (enc p d c + p ^ d), J0, J2, 0, (hC _ _ (by decide) ?_).trans (by rw [hJ0]), hCS0, ?_, MS_m0 o2 (fun q hq => by simp only [List.mem_cons, List.mem_nil_iff, or_false] at hq; omega)⟩
    · unfold f_X11_tellOf; rw [if_pos hW.1, if_neg (by decide), if_neg (by decide), if_neg (by decide), if_neg (by decide), if_neg (by decide), if_pos (show nI 5 = (5 : Int32) from rfl), e2.2.2.2.2.2.2.1]
    · unfold f_X12_told; rw [(hp I _).2, Option.bind_some, if_neg (by decide), hin, Option.bind_some, if_neg (by decide), hlk J0 hJ0m, Option.bind_some, if_pos (show (0 : Int32) ≤ 0 by decide)]; dsimp only; rw [if_neg (by decide), if_neg (by decide), if_neg (by decide), if_neg (by decide), if_neg (by decide), if_pos (show nI 5 = (5 : Int32) from rfl), o1]; rfl
  · have hd6 : d ≤ 6 := by have := e2.2.2.2.2.2.1; have := hR.2.2.1; omega
    obtain ⟨Jc, s1, s2, s3, s4⟩ := s_heightOf (N := N) (a := enc p d c + p ^ d) (d := d) (f := f) hR b4 hW hVr b6.2.2.2.2.1 (fun q h1 h2 => b1.1 q (by omega) (by omega)) (by have := e2.1; omega) e2.1 e2.2.2.2.2.2.2.1 e2.2.2.2.2.2.2.2.1 (rel_31 hp'.2 (by omega) e2.2.2.2.1.1) e2.2.2.2.2.1 hd6 (Ln_own hp'.1 e2.2.2.2.1.1) e2.2.2.2.2.2.2.2.2.1 e2.2.2.2.2.2.2.2.2.2.1 (by omega)
    have hJc : ∀ q, ¬ (37 ≤ q ∧ q ≤ 46) → Jc q = I q := fun q hq => s2 q (by simp only [List.mem_cons, List.mem_nil_iff, or_false]; omega)
    have hCc : CST p n X co Jc R S := by
      obtain ⟨k1, k2, k3, k4, k5, k6⟩ := b6
      exact ⟨by rw [hJc 17 (by omega)]; exact k1, by rw [s3 2 (by decide) (by decide)]; exact k2, by rw [hJc 56 (by omega)]; exact k3, by rw [hJc 56 (by omega)]; exact k4, s4, Ad_of k6 hR.2.2.1 (by rw [hJc 56 (by omega)]) (fun q h1 h2 => hJc q (by omega)) (fun q hq => hJc q (by omega))⟩
    have hJcm : ∀ q, 91 ≤ q → q < 114 → gU Jc 0 7 (0 : Int32) q = I q := fun q h1 _ => by rw [gU_cell _ _ _ (by omega), hJc q (by omega)]
    obtain ⟨J2, o1, o2⟩ := m_heightOf (N := N) (R := R) (S := S) hR (hMH _ hJcm).1 w1 (hMH _ hJcm).2 hVr e2.2.2.2.1 hlayM e2.2.2.2.2.2.2.2.2.1 e2.2.2.2.2.2.2.2.2.2.1 (by omega)
    refine ⟨nI (f / d), gU Jc 0 7 (0 : Int32), J2, 0, hC _ _ (by decide) ?_, CS_st hR (fun q hq => hJc q (by omega)) hCc 0, ?_, MS_m0 o2 (fun q hq => by simp only [List.mem_cons, List.mem_nil_iff, or_false] at hq; omega)⟩
    · unfold f_X11_tellOf; rw [if_pos hW.1, if_neg (by decide), if_neg (by decide), if_neg (by decide), if_neg (by decide), if_neg (by decide), if_neg (by decide), if_pos (show nI 6 = (6 : Int32) from rfl), s1]; rfl
    · unfold f_X12_told; rw [(hp I _).2, Option.bind_some, if_neg (by decide), hin, Option.bind_some, if_neg (by decide), hlk _ hJcm, Option.bind_some, if_pos (show (0 : Int32) ≤ 0 by decide)]; dsimp only; rw [if_neg (by decide), if_neg (by decide), if_neg (by decide), if_neg (by decide), if_neg (by decide), if_neg (by decide), if_pos (show nI 6 = (6 : Int32) from rfl), o1]; rfl
  · exact h78 w a r t d c f w1 e1 e2 e3 (hj9.elim (fun z => .inl (by rw [z])) (fun z => .inr (by rw [z])))
  · have hK := e2.2.2.2.2.2.2.2.2.2.2.1
    have hC9 : ∀ y, (if gK S a = 1 then ((f_X11_found N I R S (3 : Int32)).bind (fun z7 => some (z7.1, z7.2))) else if gK S a = 3 then ((f_X11_found N I R S (3 : Int32)).bind (fun z8 => some (z8.1, z8.2))) else if gK S a = 4 then ((f_X11_fine N I R S (I a 4)).bind (fun z9 => some (z9.1, z9.2))) else ((f_X11_fine N I R S (I a 4)).bind (fun z10 => some (z10.1, z10.2)))) = y → f_X11_told N I R S (nI w) (nI 9) = y := fun y hy => by
      unfold f_X11_told; rw [(hp I I).1, Option.bind_some, if_neg (by decide), if_neg (nI_pos (by omega)), if_pos h9, nI_clamp (n := w) (by omega), gin2 (by omega) (by omega), e1]
      dsimp only
      rw [if_pos hW.1, if_pos (show nI 9 = (9 : Int32) from rfl)]; exact hy
    by_cases hr2 : r = 2
    · subst hr2
      refine ⟨nI (co (t 1 ^ (p + 1) * t 2 ^ (p ^ n - 2))), J0, m0 J0, 0, hC9 _ ?_, hCS0, ?_, hMS0 J0⟩
      · have hkk : gK S a = if f / d = 2 then 7 else 4 := by
          rw [hK]; unfold kcl; rw [if_neg (show ¬ (2 : Nat) = 1 by decide), if_neg (show ¬ (2 : Nat) = 3 by decide)]
        rw [e2.2.2.2.2.2.2.2.2.2.2.2 rfl]
        by_cases z : f / d = 2
        · rw [if_pos z] at hkk
          rw [if_neg (by rw [hkk]; decide), if_neg (by rw [hkk]; decide), if_neg (by rw [hkk]; decide), hJ0]; rfl
        · rw [if_neg z] at hkk
          rw [if_neg (by rw [hkk]; decide), if_neg (by rw [hkk]; decide), if_pos hkk, hJ0]; rfl
      · unfold f_X12_told; rw [(hp I _).2, Option.bind_some, if_neg (by decide), hin, Option.bind_some, if_neg (by decide), hlk J0 hJ0m, Option.bind_some, if_pos (show (0 : Int32) ≤ 0 by decide)]; dsimp only; rw [if_neg (by decide), if_neg (by decide), if_neg (by decide), if_neg (by decide), if_neg (by decide), if_neg (by decide), if_neg (by decide), if_neg (by decide), if_neg (by decide), nI_clamp (n := w) (by omega), gin2 (by omega) (by omega), if_pos (show m0 J0 101 w = (2 : Int32) from (hMH J0 hJ0m).2.1), m_markOf hR (hMH J0 hJ0m).1 w1 (hMH J0 hJ0m).2 hVr.2.2.1]; rfl
    · have hJ3m : ∀ q, 91 ≤ q → q < 114 → gU I 0 7 (3 : Int32) q = I q := fun q h1 _ => gU_cell _ _ _ (by omega)
      refine ⟨(-1000010 : Int32) - 3, gU I 0 7 3, _, 3, hC9 _ ?_, CS_f hR hIV 3, ?_, MS_found 3⟩
      · unfold kcl at hK
        by_cases hr1 : r = 1
        · rw [if_pos hr1] at hK
          rw [if_neg (by rw [hK]; decide), if_pos hK]; rfl
        · rw [if_neg hr1, if_pos (show r = 3 by omega)] at hK
          rw [if_pos hK]; rfl
      · unfold f_X12_told; rw [(hp I _).2, Option.bind_some, if_neg (by decide), hin, Option.bind_some, if_neg (by decide), hlk _ hJ3m, Option.bind_some, if_pos (show (0 : Int32) ≤ 0 by decide)]; dsimp only; rw [if_neg (by decide), if_neg (by decide), if_neg (by decide), if_neg (by decide), if_neg (by decide), if_neg (by decide), if_neg (by decide), if_neg (by decide), if_neg (by decide), nI_clamp (n := w) (by omega), gin2 (by omega) (by omega), if_neg (show ¬ m0 (gU I 0 7 (3 : Int32)) 101 w = (2 : Int32) from fun z => hr2 ((nI_eq (b := 2) (by omega) (by omega)).mp ((hMH _ hJ3m).2.1.symm.trans z)))]; rfl
end StTold
