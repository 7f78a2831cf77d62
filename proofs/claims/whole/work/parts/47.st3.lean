/-! order, sum, kernel, stays, alike -/
section St3
theorem hx_bad {K : Type} [Lean.Grind.CommRing K] {p n : Nat} {X : K} {co : K → Nat} {k : Nat} {I : gI} {R : gR} {S : gS} {c : Option (Int32 × gI)} {m : gI → Option (Int32 × gI)} (h : IV p n X co k I R S) (hc : c = some (-1000001, I)) (hm : m I = some (-1000001, gU I 91 0 (0 : Int32))) : ∃ v J1 J2 st, c = some (v, J1) ∧ CS p n X co R S I J1 st ∧ m J1 = some (v, J2) ∧ MS J1 J2 st :=
  ⟨-1000001, I, _, _, hc, CS_I h, hm, MS_bad h.2.2.2.2.2.2.2.2.1.symm⟩
theorem hx_found {K : Type} [Lean.Grind.CommRing K] {p n : Nat} {X : K} {co : K → Nat} {k : Nat} {I : gI} {R : gR} {S : gS} {c : Option (Int32 × gI)} {m : gI → Option (Int32 × gI)} (hR : RO K p n X co) (h : IV p n X co k I R S) (e : Int32) (hc : c = some ((-1000010 : Int32) - e, gU I 0 7 e)) (hm : m (gU I 0 7 e) = some ((-1000010 : Int32) - e, gU (gU (gU (gU I 0 7 e) 91 0 (0 : Int32)) 91 1 (0 : Int32)) 91 1 e)) : ∃ v J1 J2 st, c = some (v, J1) ∧ CS p n X co R S I J1 st ∧ m J1 = some (v, J2) ∧ MS J1 J2 st :=
  ⟨_, _, _, _, hc, CS_st hR (fun _ _ => rfl) h.2.2.2.2.2.1 e, hm, MS_found e⟩
theorem st_order {K : Type} [Lean.Grind.CommRing K] {p n : Nat} {X : K} {co : K → Nat} {k N : Nat} {I : gI} {R : gR} {S : gS} (hR : RO K p n X co) (h : IV p n X co k I R S) (hk : k < 512) (hN : 16000 ≤ N) (x0 x1 : Int32) : ∃ J P T, k_order N I R S x0 x1 = some (J, P, T) ∧ IV p n X co (k + 1) J P T := by
  have hIV := h
  obtain ⟨b1, b2, b3, b4, b5, b6, b7, b8, b9, b10⟩ := h
  unfold k_order
  refine k_fin (m := fun J => f_X12_order N J R S x0 x1) hR hIV ?_
  rcases isP2 (N := N) (R := R) (S := S) x0 with hp | ⟨w, w1, rfl, hp⟩
  · refine hx_bad hIV ?_ ?_
    · unfold f_X11_order; rw [(hp I I).1, Option.bind_some, if_pos rfl]
    · unfold f_X12_order; rw [(hp I _).2, Option.bind_some, if_pos rfl]
  rcases isE2 (N := N) (R := R) (S := S) hR x1 with hs | ⟨z, rfl, hs⟩
  · refine hx_bad hIV ?_ ?_
    · unfold f_X11_order; rw [(hp I I).1, Option.bind_some, if_neg (by decide), (hs I (m0 I) b4.2.1 (m0_MH b5).2.2.1).1, Option.bind_some, if_pos rfl]
    · unfold f_X12_order; rw [(hp I _).2, Option.bind_some, if_neg (by decide), (hs I _ b4.2.1 (by rw [gU_slot _ _ _ (by decide)]; exact b5.2.2.1)).2.1, Option.bind_some, if_pos rfl]
  have hs1 := (hs I (m0 I) b4.2.1 (m0_MH b5).2.2.1).1
  have hs2 : ∀ J : gI, J 91 = I 91 → f_X12_isElement N (gU J 91 0 (0 : Int32)) R S (nI (co z)) = some 1 := fun J hJ => (hs I _ b4.2.1 (by rw [gU_slot _ _ _ (by decide), hJ]; exact b5.2.2.1)).2
  rcases b8 w w1 with ⟨e1, e2⟩ | ⟨q, r, t, d, c, f, e1, e2, e3⟩
  · refine hx_found hR hIV 1 ?_ ?_
    · unfold f_X11_order; rw [(hp I I).1, Option.bind_some, if_neg (by decide), hs1, Option.bind_some, if_neg (by decide), nI_clamp (by omega), gin2 (by omega) (by omega), e1]; rfl
    · unfold f_X12_order; rw [(hp I _).2, Option.bind_some, if_neg (by decide), hs2 _ (gU_cell _ _ _ (by decide)), Option.bind_some, if_neg (by decide), look_no w1 (by rw [gU_ne _ _ _ _ (by decide)]; exact e2), Option.bind_some, neg_found 1 (by decide)]
  · obtain ⟨f1, f2, f3, f4, f5, f6, f7, f8, f9, f10, f11, f12⟩ := e2
    obtain ⟨J, o, c', g1, hfr, g3, g4, g5, g6, g7⟩ := s_orderOf (N := N) hR b4 f2 f3 b6.2.2.2.2.2 b6.1 b6.2.2.1 b6.2.2.2.1 (lay6 b1 6 75 (by omega)) (by omega) f1 z (by omega)
    obtain ⟨J1, hJ1⟩ : ∃ J1, J1 = gU J 0 7 (0 : Int32) := ⟨_, rfl⟩
    have hJ1n : ∀ x, 75 ≤ x → J1 x = I x := fun x hx => by rw [hJ1, gU_cell _ _ _ (by omega)]; exact hfr x (by unfold pA; omega)
    have hW0 := MW_of e3 (J := J1) (hJ1n 101 (by omega)) (hJ1n 102 (by omega))
    have hM1 := m0_MH (MH_of b5 (J := J1) (fun j _ _ => by rw [hJ1n 91 (by omega)]) (hJ1n 96 (by omega)) (hJ1n 97 (by omega)))
    obtain ⟨J2, m1, m2, m3, m4⟩ := m_goOn (N := N) (R := R) (S := S) (k := 0) hR hM1 w1 (m0_MW hW0) f3.2.1 (by omega) z (by omega)
    obtain ⟨J3, o1, o2⟩ := m_leastOf (N := N) (R := R) (S := S) (M := 1) hR (MH_fs hM1 m2 (by decide) (by decide) (by decide)) (lay6 b1 91 114 (by omega) 92 (by omega) (by omega)) (by omega) g7 g6 (fun e m he hm => by rw [show m = 0 by omega]; exact m3 e he) hN
    rw [nI_0] at m1
    refine ⟨nI (enc p o c' + p ^ o), J1, J3, 0, ?_, ?_, ?_, MS_m0 (l := [92, 109]) ((m2.mono (by decide)).trans (o2.mono (by decide))) (by decide)⟩
    · unfold f_X11_order; rw [(hp I I).1, Option.bind_some, if_neg (by decide), hs1, Option.bind_some, if_neg (by decide), nI_clamp (by omega), gin2 (by omega) (by omega), e1]
      dsimp only
      rw [if_pos f2.1, g1, Option.bind_some, hJ1]; rfl
    · rw [hJ1]
      exact CS_st hR (fun x hx => hfr x (pA_C hx)) (CST_A b6 hfr g4 (g3 2 (by decide)) (g3 3 (by decide)) g5) 0
    · unfold f_X12_order; rw [(hp I _).2, Option.bind_some, if_neg (by decide), hs2 _ (hJ1n 91 (by omega)), Option.bind_some, if_neg (by decide), look_yes w1 hW0 f3.1 f3.2.1, Option.bind_some, if_pos (show (0 : Int32) ≤ 0 by decide), m1, Option.bind_some, show (1 : Int32) = nI 1 from rfl, o1, Option.bind_some]
theorem st_stays {K : Type} [Lean.Grind.CommRing K] {p n : Nat} {X : K} {co : K → Nat} {k N : Nat} {I : gI} {R : gR} {S : gS} (hR : RO K p n X co) (h : IV p n X co k I R S) (hk : k < 512) (hN : 16000 ≤ N) (x0 : Int32) : ∃ J P T, k_stays N I R S x0 = some (J, P, T) ∧ IV p n X co (k + 1) J P T := by
  have hIV := h
  have hq := RO_q hR
  have hpp := RO_p hR
  obtain ⟨b1, b2, b3, b4, b5, b6, b7, b8, b9, b10⟩ := h
  unfold k_stays
  refine k_fin (m := fun J => f_X12_stays N J R S x0) hR hIV ?_
  rcases isP2 (N := N) (R := R) (S := S) x0 with hp | ⟨w, w1, rfl, hp⟩
  · refine hx_bad hIV ?_ ?_
    · unfold f_X11_stays; rw [(hp I I).1, Option.bind_some, if_pos rfl]
    · unfold f_X12_stays; rw [(hp I _).2, Option.bind_some, if_pos rfl]
  rcases b8 w w1 with ⟨e1, e2⟩ | ⟨q, r, t, d, c, f, e1, e2, e3⟩
  · refine hx_found hR hIV 1 ?_ ?_
    · unfold f_X11_stays; rw [(hp I I).1, Option.bind_some, if_neg (by decide), nI_clamp (by omega), gin2 (by omega) (by omega), e1]; rfl
    · unfold f_X12_stays; rw [(hp I _).2, Option.bind_some, if_neg (by decide), look_no w1 (by rw [gU_ne _ _ _ _ (by decide)]; exact e2), Option.bind_some, neg_found 1 (by decide)]
  · obtain ⟨f1, f2, f3, f4, f5, f6, f7, f8, f9, f10, f11, f12⟩ := e2
    obtain ⟨J, b, kp, g1, g2, g3, g4, g5, g6, g7, g8⟩ := s_turns (N := N) hR b4 f2 f2 f3.2.1 b6.1 b6.2.1 (lay6 b1 6 75 (by omega) 19 (by omega) (by omega)) (by omega)
    have hfr : Fp pB I J := Fp_Fr g2 (fun a h1 h2 => by unfold pB; omega)
    obtain ⟨J1, hJ1⟩ : ∃ J1, J1 = gU J 0 7 (0 : Int32) := ⟨_, rfl⟩
    have hJ1n : ∀ x, 75 ≤ x → J1 x = I x := fun x hx => by rw [hJ1, gU_cell _ _ _ (by omega)]; exact hfr x (by unfold pB; omega)
    have hW0 := MW_of e3 (J := J1) (hJ1n 101 (by omega)) (hJ1n 102 (by omega))
    have hM1 := m0_MH (MH_of b5 (J := J1) (fun j _ _ => by rw [hJ1n 91 (by omega)]) (hJ1n 96 (by omega)) (hJ1n 97 (by omega)))
    have hpb : p ^ b ≤ 15625 := Nat.le_trans (Nat.pow_le_pow_right (by omega) g4) hq.2
    have hsc := m_scanS (N := N) (R := R) (S := S) (B := p ^ b) hR hM1 w1 (m0_MW hW0) f3.2.1 g5 (Nat.pow_pos (by omega)) g6 g7 g8 hpb hN
    refine ⟨nI (p ^ b - 1), J1, m0 J1, 0, ?_, ?_, ?_, MS_m0 (l := []) (Fs_refl _ _) (by decide)⟩
    · unfold f_X11_stays; rw [(hp I I).1, Option.bind_some, if_neg (by decide), nI_clamp (by omega), gin2 (by omega) (by omega), e1]
      dsimp only
      rw [if_pos f2.1, g1, Option.bind_some, hJ1]; rfl
    · rw [hJ1]
      exact CS_st hR (fun x hx => hfr x (pB_C hx)) (CST_B hR b6 hfr g3 (by rw [g2 37 (by omega)]) (Pd_of b6.2.2.2.2.1 (by rw [g2 37 (by omega)]) (by rw [g2 37 (by omega)]) (fun a h1 h2 => g2 a (by omega)) (fun a ha => g2 a (by omega)))) 0
    · unfold f_X12_stays; rw [(hp I _).2, Option.bind_some, if_neg (by decide), look_yes w1 hW0 f3.1 f3.2.1, Option.bind_some, if_pos (show (0 : Int32) ≤ 0 by decide), hsc, Option.bind_some]
end St3
