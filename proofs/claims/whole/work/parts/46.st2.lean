/-! acts, order, sum, kernel, stays, alike: class and model answer alike -/
section St2
theorem CST_A {K : Type} [Lean.Grind.CommRing K] {p n : Nat} {X : K} {co : K → Nat} {I J : gI} {R : gR} {S : gS} (h : CST p n X co I R S) (hf : Fp pA I J) (h17 : J 17 1 = nI p) (h2 : J 56 2 = I 56 2) (h3 : J 56 3 = I 56 3) (hA : Ad p n X co J R S) : CST p n X co J R S := by
  obtain ⟨d1, d2, d3, d4, d5, d6⟩ := h
  exact ⟨h17, by rw [hf 37 (by unfold pA; omega)]; exact d2, by rw [h2]; exact d3, by rw [h3]; exact d4, Pd_of d5 (by rw [hf 37 (by unfold pA; omega)]) (by rw [hf 37 (by unfold pA; omega)]) (fun a h1 h2 => hf a (by unfold pA; omega)) (fun a ha => hf a (by unfold pA; omega)), hA⟩
theorem CST_B {K : Type} [Lean.Grind.CommRing K] {p n : Nat} {X : K} {co : K → Nat} {I J : gI} {R : gR} {S : gS} (hR : RO K p n X co) (h : CST p n X co I R S) (hf : Fp pB I J) (h17 : J 17 1 = nI p) (h2 : J 37 2 = I 37 2) (hP : Pd p co J R S) : CST p n X co J R S := by
  obtain ⟨d1, d2, d3, d4, d5, d6⟩ := h
  exact ⟨h17, by rw [h2]; exact d2, by rw [hf 56 (by unfold pB; omega)]; exact d3, by rw [hf 56 (by unfold pB; omega)]; exact d4, hP, Ad_of d6 hR.2.2.1 (by rw [hf 56 (by unfold pB; omega)]) (fun a h1 h2 => hf a (by unfold pB; omega)) (fun a ha => hf a (by unfold pB; omega))⟩
theorem pA_C {a : Nat} (h : ¬ (a = 0 ∨ a = 5 ∨ (17 ≤ a ∧ a ≤ 74))) : ¬ pA a := by unfold pA; omega
theorem pB_C {a : Nat} (h : ¬ (a = 0 ∨ a = 5 ∨ (17 ≤ a ∧ a ≤ 74))) : ¬ pB a := by unfold pB; omega
theorem lay6 {R : gR} {S : gS} (h : gLay 0 114 R S) (a b : Nat) (hb : b ≤ 114) : ∀ q, a ≤ q → q < b → S[q]? = layS[q]? := fun q _ h2 => h.1 q (by omega) (by omega)
theorem neg_found (e : Int32) (h : ¬ (0 : Int32) ≤ (-1000010 : Int32) - e) {τ : Type} {A B : τ} : (if (0 : Int32) ≤ (-1000010 : Int32) - e then A else B) = B := if_neg h
theorem st_acts {K : Type} [Lean.Grind.CommRing K] {p n : Nat} {X : K} {co : K → Nat} {k N : Nat} {I : gI} {R : gR} {S : gS} (hR : RO K p n X co) (h : IV p n X co k I R S) (hk : k < 512) (hN : 16000 ≤ N) (x0 x1 x2 : Int32) : ∃ J P T, k_acts N I R S x0 x1 x2 = some (J, P, T) ∧ IV p n X co (k + 1) J P T := by
  have hIV := h
  obtain ⟨b1, b2, b3, b4, b5, b6, b7, b8, b9, b10⟩ := h
  unfold k_acts
  refine k_fin (m := fun J => f_X12_acts N J R S x0 x1 x2) hR hIV ?_
  rcases isP2 (N := N) (R := R) (S := S) x0 with hp | ⟨w, w1, rfl, hp⟩
  · refine ⟨-1000001, I, _, _, ?_, CS_I hIV, ?_, MS_bad b9.symm⟩
    · unfold f_X11_acts; rw [(hp I I).1, Option.bind_some, if_pos rfl]
    · unfold f_X12_acts; rw [(hp I _).2, Option.bind_some, if_pos rfl]
  rcases isPo2 (N := N) (R := R) (S := S) hR (by omega) x1 with ho | ⟨a, D, o1, o2, o3, rfl, ho⟩
  · refine ⟨-1000001, I, _, _, ?_, CS_I hIV, ?_, MS_bad b9.symm⟩
    · unfold f_X11_acts; rw [(hp I I).1, Option.bind_some, if_neg (by decide), (ho I (m0 I) (b4.2.2.2.1 7 (by omega)) (m0_MH b5).1).1, Option.bind_some, if_pos rfl]
    · unfold f_X12_acts; rw [(hp I _).2, Option.bind_some, if_neg (by decide), (ho I _ (b4.2.2.2.1 7 (by omega)) (by rw [gU_slot _ _ _ (by decide)]; exact b5.1)).2, Option.bind_some, if_pos rfl]
  have ho1 := (ho I (m0 I) (b4.2.2.2.1 7 (by omega)) (m0_MH b5).1).1
  have ho2 : ∀ J : gI, J 91 = I 91 → f_X12_isPolynomial N (gU J 91 0 (0 : Int32)) R S (nI a) = some 1 := fun J hJ => (ho I _ (b4.2.2.2.1 7 (by omega)) (by rw [gU_slot _ _ _ (by decide), hJ]; exact b5.1)).2
  rcases isE2 (N := N) (R := R) (S := S) hR x2 with hs | ⟨z, rfl, hs⟩
  · refine ⟨-1000001, I, _, _, ?_, CS_I hIV, ?_, MS_bad b9.symm⟩
    · unfold f_X11_acts; rw [(hp I I).1, Option.bind_some, if_neg (by decide), ho1, Option.bind_some, if_neg (by decide), (hs I (m0 I) b4.2.1 (m0_MH b5).2.2.1).1, Option.bind_some, if_pos rfl]
    · unfold f_X12_acts; rw [(hp I _).2, Option.bind_some, if_neg (by decide), ho2 I rfl, Option.bind_some, if_neg (by decide), (hs I _ b4.2.1 (by rw [gU_slot _ _ _ (by decide)]; exact b5.2.2.1)).2.1, Option.bind_some, if_pos rfl]
  have hs1 := (hs I (m0 I) b4.2.1 (m0_MH b5).2.2.1).1
  have hs2 : ∀ J : gI, J 91 = I 91 → f_X12_isElement N (gU J 91 0 (0 : Int32)) R S (nI (co z)) = some 1 := fun J hJ => (hs I _ b4.2.1 (by rw [gU_slot _ _ _ (by decide), hJ]; exact b5.2.2.1)).2
  rcases b8 w w1 with ⟨e1, e2⟩ | ⟨q, r, t, d, c, f, e1, e2, e3⟩
  · refine ⟨(-1000010 : Int32) - 1, gU I 0 7 1, _, _, ?_, CS_st hR (fun _ _ => rfl) b6 1, ?_, MS_found 1⟩
    · unfold f_X11_acts; rw [(hp I I).1, Option.bind_some, if_neg (by decide), ho1, Option.bind_some, if_neg (by decide), hs1, Option.bind_some, if_neg (by decide), nI_clamp (by omega), gin2 (by omega) (by omega), e1]; rfl
    · unfold f_X12_acts; rw [(hp I _).2, Option.bind_some, if_neg (by decide), ho2 _ (gU_cell _ _ _ (by decide)), Option.bind_some, if_neg (by decide), hs2 _ (gU_cell _ _ _ (by decide)), Option.bind_some, if_neg (by decide), look_no w1 (by rw [gU_ne _ _ _ _ (by decide)]; exact e2), Option.bind_some, neg_found 1 (by decide)]
  · obtain ⟨f1, f2, f3, f4, f5, f6, f7, f8, f9, f10, f11, f12⟩ := e2
    obtain ⟨J, g1, g2, g3, g4⟩ := s_imageOf (N := N) (a := a) (D := D) hR b4 f2 f3 b6.2.2.2.2.2 b6.2.2.1 b6.2.2.2.1 (lay6 b1 6 75 (by omega)) (by omega) f1 o1 o2 o3 z (by omega)
    have hfr : Fp pA I J := Fp_Fs g2 (fun x hx => by
      simp only [lB, List.mem_cons, List.mem_nil_iff, or_false] at hx
      unfold pA; omega)
    obtain ⟨J1, hJ1⟩ : ∃ J1, J1 = gU J 0 7 (0 : Int32) := ⟨_, rfl⟩
    have hJ1n : ∀ x, 75 ≤ x → J1 x = I x := fun x hx => by rw [hJ1, gU_cell _ _ _ (by omega)]; exact hfr x (by unfold pA; omega)
    have hM1 := m0_MH (MH_of b5 (J := J1) (fun j _ _ => by rw [hJ1n 91 (by omega)]) (hJ1n 96 (by omega)) (hJ1n 97 (by omega)))
    have hW1 := m0_MW (MW_of e3 (J := J1) (hJ1n 101 (by omega)) (hJ1n 102 (by omega)))
    obtain ⟨J2, m1, m2, m3⟩ := m_act (N := N) (R := R) (S := S) hR hM1 w1 hW1 f3 (lay6 b1 91 114 (by omega) 95 (by omega) (by omega)) o1 o2 o3 (by omega)
    have hdn := m_done (N := N) (R := R) (S := S) hR (MH_fs hM1 m2 (by decide) (by decide) (by decide)) (lay6 b1 91 114 (by omega) 103 (by omega) (by omega)) m3 z (by omega)
    rw [ev_ac hR f3.2.2.2 f3.2.1 a z o3] at hdn
    refine ⟨nI (co (fa p (r + 1) t a D z)), J1, J2, 0, ?_, ?_, ?_, MS_m0 m2 (by decide)⟩
    · unfold f_X11_acts; rw [(hp I I).1, Option.bind_some, if_neg (by decide), ho1, Option.bind_some, if_neg (by decide), hs1, Option.bind_some, if_neg (by decide), nI_clamp (by omega), gin2 (by omega) (by omega), e1]
      dsimp only
      rw [if_pos f2.1, g1, Option.bind_some, hJ1]; rfl
    · rw [hJ1]
      exact CS_st hR (fun x hx => hfr x (pA_C hx)) (CST_A b6 hfr (by rw [g2 17 (by decide)]; exact b6.1) (g3 2 (by decide)) (g3 3 (by decide)) g4) 0
    · show f_X12_acts N J1 R S (nI w) (nI a) (nI (co z)) = _
      unfold f_X12_acts; rw [(hp I _).2, Option.bind_some, if_neg (by decide), ho2 _ (hJ1n 91 (by omega)), Option.bind_some, if_neg (by decide), hs2 _ (hJ1n 91 (by omega)), Option.bind_some, if_neg (by decide), look_yes w1 (MW_of e3 (J := J1) (hJ1n 101 (by omega)) (hJ1n 102 (by omega))) f3.1 f3.2.1, Option.bind_some, if_pos (show (0 : Int32) ≤ 0 by decide), m1, Option.bind_some, hdn, Option.bind_some]
end St2
