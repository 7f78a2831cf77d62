/-! sum, kernel, alike -/
section St4
theorem ge_nat {x : Int32} (h : (-1 : Int32) ≤ x) (hne : x ≠ -1) : ∃ j, j < 2147483648 ∧ x = nI j := by
  obtain ⟨j, j1, j2⟩ := nI_of (x := x) (fun z => by
    rw [Int32.le_iff_toInt_le] at h
    rw [Int32.lt_iff_toInt_lt] at z
    have a2 : x.toInt ≠ -1 := fun e => hne (Int32.toInt_inj.mp (by rw [e]; rfl))
    have a3 : (-1 : Int32).toInt = -1 := rfl
    have a5 : (0 : Int32).toInt = 0 := rfl
    omega)
  exact ⟨j, j1, j2⟩
theorem st_sum {K : Type} [Lean.Grind.CommRing K] {p n : Nat} {X : K} {co : K → Nat} {k N : Nat} {I : gI} {R : gR} {S : gS} (hR : RO K p n X co) (h : IV p n X co k I R S) (hk : k < 512) (hN : 16000 ≤ N) (x0 x1 x2 : Int32) : ∃ J P T, k_sum N I R S x0 x1 x2 = some (J, P, T) ∧ IV p n X co (k + 1) J P T := by
  have hIV := h
  have hpp := RO_p hR
  obtain ⟨b1, b2, b3, b4, b5, b6, b7, b8, b9, b10⟩ := h
  unfold k_sum
  refine k_fin (m := fun J => f_X12_sum N J R S x0 x1 x2) hR hIV ?_
  rcases isP2 (N := N) (R := R) (S := S) x0 with hp | ⟨w, w1, rfl, hp⟩
  · refine hx_bad hIV ?_ ?_
    · unfold f_X11_sum; rw [(hp I I).1, Option.bind_some, if_pos rfl]
    · unfold f_X12_sum; rw [(hp I _).2, Option.bind_some, if_pos rfl]
  rcases isPo2 (N := N) (R := R) (S := S) hR (by omega) x1 with ho | ⟨a, D, o1, o2, o3, rfl, ho⟩
  · refine hx_bad hIV ?_ ?_
    · unfold f_X11_sum; rw [(hp I I).1, Option.bind_some, if_neg (by decide), (ho I (m0 I) (b4.2.2.2.1 7 (by omega)) (m0_MH b5).1).1, Option.bind_some, if_pos rfl]
    · unfold f_X12_sum; rw [(hp I _).2, Option.bind_some, if_neg (by decide), (ho I _ (b4.2.2.2.1 7 (by omega)) (by rw [gU_slot _ _ _ (by decide)]; exact b5.1)).2, Option.bind_some, if_pos rfl]
  have ho1 := (ho I (m0 I) (b4.2.2.2.1 7 (by omega)) (m0_MH b5).1).1
  have ho2 : ∀ J : gI, J 91 = I 91 → f_X12_isPolynomial N (gU J 91 0 (0 : Int32)) R S (nI a) = some 1 := fun J hJ => (ho I _ (b4.2.2.2.1 7 (by omega)) (by rw [gU_slot _ _ _ (by decide), hJ]; exact b5.1)).2
  by_cases hm1 : (-1 : Int32) ≤ x2
  · rcases b8 w w1 with ⟨e1, e2⟩ | ⟨q, r, t, d, c, f, e1, e2, e3⟩
    · refine hx_found hR hIV 1 ?_ ?_
      · unfold f_X11_sum; rw [(hp I I).1, Option.bind_some, if_neg (by decide), ho1, Option.bind_some, if_neg (by decide), if_pos hm1, nI_clamp (by omega), gin2 (by omega) (by omega), e1]; rfl
      · unfold f_X12_sum; rw [(hp I _).2, Option.bind_some, if_neg (by decide), ho2 _ (gU_cell _ _ _ (by decide)), Option.bind_some, if_neg (by decide), if_pos hm1, look_no w1 (by rw [gU_ne _ _ _ _ (by decide)]; exact e2), Option.bind_some, neg_found 1 (by decide)]
    · obtain ⟨f1, f2, f3, f4, f5, f6, f7, f8, f9, f10, f11, f12⟩ := e2
      have hr1 := f3.1
      have hr3 := f3.2.1
      -- the length
      obtain ⟨L, l1, l2, l3, l4⟩ : ∃ L, L ≤ 19 ∧ (∀ j, L ≤ j → ac p t a D j = 0) ∧ (0 < L → ac p t a D (L - 1) ≠ 0) ∧ (if D = 0 then (-1 : Int32) else nI (r * (D - 1))) = nI L - 1 := by
        by_cases hD0 : D = 0
        · subst hD0
          exact ⟨0, by omega, fun j _ => rfl, fun h => by omega, by rw [if_pos rfl]; rfl⟩
        · obtain ⟨D', rfl⟩ : ∃ D', D = D' + 1 := ⟨D - 1, by omega⟩
          have hrd : r * D' ≤ 18 := Nat.mul_le_mul hr3 (show D' ≤ 6 by omega)
          have hac := ac_deg hR f3.2.2.2 f3.2.2.1 (by omega) o2
          refine ⟨r * D' + 1, by omega, fun j hj => hac.1 j (by omega), fun _ => by rw [Nat.add_sub_cancel]; exact hac.2, ?_⟩
          rw [if_neg hD0, Nat.add_sub_cancel, dn1 _ (by omega), Nat.add_sub_cancel]
      have hlen := s_lengthOf (N := N) hR b4 f2 o1 o2 o3 hr3 (by omega)
      rw [l4] at hlen
      by_cases hm : x2 = -1
      · subst hm
        obtain ⟨J1, hJ1⟩ : ∃ J1, J1 = gU I 0 7 (0 : Int32) := ⟨_, rfl⟩
        have hJ1n : ∀ x, 75 ≤ x → J1 x = I x := fun x hx => by rw [hJ1, gU_cell _ _ _ (by omega)]
        have hW0 := MW_of e3 (J := J1) (hJ1n 101 (by omega)) (hJ1n 102 (by omega))
        have hM1 := m0_MH (MH_of b5 (J := J1) (fun j _ _ => by rw [hJ1n 91 (by omega)]) (hJ1n 96 (by omega)) (hJ1n 97 (by omega)))
        obtain ⟨J2, m1, m2, m3⟩ := m_act (N := N) (R := R) (S := S) hR hM1 w1 (m0_MW hW0) f3 (lay6 b1 91 114 (by omega) 95 (by omega) (by omega)) o1 o2 o3 (by omega)
        have hl := m_lengthOf (N := N) (R := R) (S := S) (L := L) hR (lay6 b1 91 114 (by omega) 103 (by omega) (by omega)) m3 (by omega) (fun j hj _ => l2 j hj) l3 (by omega)
        refine ⟨nI L - 1, J1, J2, 0, ?_, ?_, ?_, MS_m0 m2 (by decide)⟩
        · unfold f_X11_sum; rw [(hp I I).1, Option.bind_some, if_neg (by decide), ho1, Option.bind_some, if_neg (by decide), if_pos hm1, nI_clamp (by omega), gin2 (by omega) (by omega), e1]
          dsimp only
          rw [if_pos f2.1, hlen, Option.bind_some, if_pos rfl, hJ1]; rfl
        · rw [hJ1]
          exact CS_st hR (fun _ _ => rfl) b6 0
        · unfold f_X12_sum; rw [(hp I _).2, Option.bind_some, if_neg (by decide), ho2 _ (hJ1n 91 (by omega)), Option.bind_some, if_neg (by decide), if_pos hm1, look_yes w1 hW0 hr1 hr3, Option.bind_some, if_pos (show (0 : Int32) ≤ 0 by decide), m1, Option.bind_some, if_pos rfl, hl, Option.bind_some]
      · obtain ⟨j, j1, rfl⟩ := ge_nat hm1 hm
        -- the class's answer
        obtain ⟨J, g1, g2, g3, g4⟩ : ∃ J, ((if nI j ≤ nI L - 1 then ((f_X8_numberOf N I R S q (nI a) (nI j)).bind (fun z7 => some (z7.1, z7.2))) else some ((0 : Int32), I)) : Option (Int32 × gI)) = some (nI (co (ac p t a D j)), J) ∧ Fs [37, 39, 40, 41, 42, 43, 44, 45, 46] I J ∧ (∀ j, j ≠ 4 → j ≠ 5 → J 37 j = I 37 j) ∧ Pd p co J R S := by
          by_cases hjl : j < L
          · obtain ⟨J, n1, n2, n3, n4⟩ := s_numberOf (N := N) (k := j) hR b4 f2 f3 b6.2.2.2.2.1 (lay6 b1 6 56 (by omega)) (by omega) f1 o1 o2 o3 (by omega) (by omega)
            refine ⟨J, ?_, n2, n3, n4⟩
            rw [dn1 L (by omega), gle_t (by omega) (by omega), n1, Option.bind_some]
          · refine ⟨I, ?_, Fs_refl _ _, fun _ _ _ => rfl, b6.2.2.2.2.1⟩
            rw [l2 j (by omega), RO_0 hR, nI_0]
            by_cases hL0 : L = 0
            · rw [hL0, if_neg]
              intro z
              rw [Int32.le_iff_toInt_le, nI_toInt (by omega)] at z
              have : (nI 0 - 1 : Int32).toInt = -1 := by decide
              omega
            · rw [dn1 L (by omega), gle_f (by omega) (by omega)]
        have hfr : Fp pB I J := Fp_Fs g2 (fun x hx => by
          simp only [List.mem_cons, List.mem_nil_iff, or_false] at hx
          unfold pB; omega)
        obtain ⟨J1, hJ1⟩ : ∃ J1, J1 = gU J 0 7 (0 : Int32) := ⟨_, rfl⟩
        have hJ1n : ∀ x, 75 ≤ x → J1 x = I x := fun x hx => by rw [hJ1, gU_cell _ _ _ (by omega)]; exact hfr x (by unfold pB; omega)
        have hW0 := MW_of e3 (J := J1) (hJ1n 101 (by omega)) (hJ1n 102 (by omega))
        have hM1 := m0_MH (MH_of b5 (J := J1) (fun j _ _ => by rw [hJ1n 91 (by omega)]) (hJ1n 96 (by omega)) (hJ1n 97 (by omega)))
        obtain ⟨J2, m1, m2, m3⟩ := m_act (N := N) (R := R) (S := S) hR hM1 w1 (m0_MW hW0) f3 (lay6 b1 91 114 (by omega) 95 (by omega) (by omega)) o1 o2 o3 (by omega)
        refine ⟨nI (co (ac p t a D j)), J1, J2, 0, ?_, ?_, ?_, MS_m0 m2 (by decide)⟩
        · unfold f_X11_sum; rw [(hp I I).1, Option.bind_some, if_neg (by decide), ho1, Option.bind_some, if_neg (by decide), if_pos hm1, nI_clamp (by omega), gin2 (by omega) (by omega), e1]
          dsimp only
          rw [if_pos f2.1, hlen, Option.bind_some, if_neg hm, g1, Option.bind_some, hJ1]; rfl
        · rw [hJ1]
          exact CS_st hR (fun x hx => hfr x (pB_C hx)) (CST_B hR b6 hfr (by rw [g2 17 (by decide)]; exact b6.1) (g3 2 (by decide) (by decide)) g4) 0
        · unfold f_X12_sum; rw [(hp I _).2, Option.bind_some, if_neg (by decide), ho2 _ (hJ1n 91 (by omega)), Option.bind_some, if_neg (by decide), if_pos hm1, look_yes w1 hW0 hr1 hr3, Option.bind_some, if_pos (show (0 : Int32) ≤ 0 by decide), m1, Option.bind_some, if_neg hm, show (23 : Int32) = nI 23 from rfl]
          by_cases h23 : j ≤ 23
          · rw [gle_t h23 (by omega), nI_clamp (by omega), gin2 (by omega) (by omega), m3 j (by omega)]
          · rw [gle_f (by omega) (by omega), l2 j (by omega), RO_0 hR, nI_0]
  · refine hx_bad hIV ?_ ?_
    · unfold f_X11_sum; rw [(hp I I).1, Option.bind_some, if_neg (by decide), ho1, Option.bind_some, if_neg (by decide), if_neg hm1]
    · unfold f_X12_sum; rw [(hp I _).2, Option.bind_some, if_neg (by decide), ho2 _ rfl, Option.bind_some, if_neg (by decide), if_neg hm1]
theorem st_kernel {K : Type} [Lean.Grind.CommRing K] {p n : Nat} {X : K} {co : K → Nat} {k N : Nat} {I : gI} {R : gR} {S : gS} (hR : RO K p n X co) (h : IV p n X co k I R S) (hk : k < 512) (hN : 16000 ≤ N) (x0 x1 x2 : Int32) : ∃ J P T, k_kernel N I R S x0 x1 x2 = some (J, P, T) ∧ IV p n X co (k + 1) J P T := by
  have hIV := h
  have hq := RO_q hR
  have hpp := RO_p hR
  obtain ⟨b1, b2, b3, b4, b5, b6, b7, b8, b9, b10⟩ := h
  unfold k_kernel
  refine k_fin (m := fun J => f_X12_kernel N J R S x0 x1 x2) hR hIV ?_
  rcases isP2 (N := N) (R := R) (S := S) x0 with hp | ⟨w, w1, rfl, hp⟩
  · refine hx_bad hIV ?_ ?_
    · unfold f_X11_kernel; rw [(hp I I).1, Option.bind_some, if_pos rfl]
    · unfold f_X12_kernel; rw [(hp I _).2, Option.bind_some, if_pos rfl]
  rcases isPo2 (N := N) (R := R) (S := S) hR (by omega) x1 with ho | ⟨a, D, o1, o2, o3, rfl, ho⟩
  · refine hx_bad hIV ?_ ?_
    · unfold f_X11_kernel; rw [(hp I I).1, Option.bind_some, if_neg (by decide), (ho I (m0 I) (b4.2.2.2.1 7 (by omega)) (m0_MH b5).1).1, Option.bind_some, if_pos rfl]
    · unfold f_X12_kernel; rw [(hp I _).2, Option.bind_some, if_neg (by decide), (ho I _ (b4.2.2.2.1 7 (by omega)) (by rw [gU_slot _ _ _ (by decide)]; exact b5.1)).2, Option.bind_some, if_pos rfl]
  have ho1 := (ho I (m0 I) (b4.2.2.2.1 7 (by omega)) (m0_MH b5).1).1
  have ho2 : ∀ J : gI, J 91 = I 91 → f_X12_isPolynomial N (gU J 91 0 (0 : Int32)) R S (nI a) = some 1 := fun J hJ => (ho I _ (b4.2.2.2.1 7 (by omega)) (by rw [gU_slot _ _ _ (by decide), hJ]; exact b5.1)).2
  rcases b8 w w1 with ⟨e1, e2⟩ | ⟨q, r, t, d, c, f, e1, e2, e3⟩
  · refine hx_found hR hIV 1 ?_ ?_
    · unfold f_X11_kernel; rw [(hp I I).1, Option.bind_some, if_neg (by decide), ho1, Option.bind_some, if_neg (by decide), nI_clamp (by omega), gin2 (by omega) (by omega), e1]; rfl
    · unfold f_X12_kernel; rw [(hp I _).2, Option.bind_some, if_neg (by decide), ho2 _ (gU_cell _ _ _ (by decide)), Option.bind_some, if_neg (by decide), look_no w1 (by rw [gU_ne _ _ _ _ (by decide)]; exact e2), Option.bind_some, neg_found 1 (by decide)]
  · obtain ⟨f1, f2, f3, f4, f5, f6, f7, f8, f9, f10, f11, f12⟩ := e2
    obtain ⟨J, b, kp, g1, hfr, g3, g4, g5, g6, g7, g8, g9, g10⟩ := s_kernelSize (N := N) hR b4 f2 f3 b6.2.2.2.2.2 b6.1 b6.2.2.1 b6.2.2.2.1 (lay6 b1 6 75 (by omega)) (by omega) f1 o1 o2 o3 (by omega)
    have hpb : p ^ b ≤ 15625 := Nat.le_trans (Nat.pow_le_pow_right (by omega) g6) hq.2
    obtain ⟨J1, hJ1⟩ : ∃ J1, J1 = gU J 0 7 (0 : Int32) := ⟨_, rfl⟩
    have hJ1n : ∀ x, 75 ≤ x → J1 x = I x := fun x hx => by rw [hJ1, gU_cell _ _ _ (by omega)]; exact hfr x (by unfold pA; omega)
    have hW0 := MW_of e3 (J := J1) (hJ1n 101 (by omega)) (hJ1n 102 (by omega))
    have hM1 := m0_MH (MH_of b5 (J := J1) (fun j _ _ => by rw [hJ1n 91 (by omega)]) (hJ1n 96 (by omega)) (hJ1n 97 (by omega)))
    obtain ⟨J2, m1, m2, m3⟩ := m_act (N := N) (R := R) (S := S) hR hM1 w1 (m0_MW hW0) f3 (lay6 b1 91 114 (by omega) 95 (by omega) (by omega)) o1 o2 o3 (by omega)
    have hev : ∀ z, ev p 24 (ac p t a D) z = fa p (r + 1) t a D z := fun z => ev_ac hR f3.2.2.2 f3.2.1 a z o3
    obtain ⟨y, y1, y2⟩ := m_scanK (N := N) (R := R) (S := S) (B := p ^ b) (kp := kp) hR (MH_fs hM1 m2 (by decide) (by decide) (by decide)) (lay6 b1 91 114 (by omega) 103 (by omega) (by omega)) m3 (fun i => by rw [hev]; exact g8 i) (fun z hz => g9 z (by rw [← hev]; exact hz)) g10 hpb x2 hN
    have hnone : ∀ i, i < p ^ b → (-1000000 : Int32) ≠ nI i := fun i hi e => by
      have := nI_pos (n := i) (by omega)
      rw [← e] at this
      exact this (by decide)
    have hcs : CS p n X co R S I J1 0 := by
      rw [hJ1]
      exact CS_st hR (fun x hx => hfr x (pA_C hx)) (CST_A b6 hfr g4 (g3 2 (by decide) (by decide)) (g3 3 (by decide) (by decide)) g5) 0
    have hcl : ∀ v, ((if x2 = (-1000000 : Int32) then ((f_X11_fine N J R S (nI (p ^ b))).bind (fun z9 => some (z9.1, z9.2))) else (((if x2 < 0 then some ((-1000000 : Int32), J) else (if x2 < nI (p ^ b) then ((f_X0_kernelItem N J R S x2).bind (fun z7 => some (z7.1, z7.2))) else some ((-1000000 : Int32), J))) : Option (Int32 × gI)).bind (fun z6 => ((f_X11_fine N z6.2 R S z6.1).bind (fun z8 => some (z8.1, z8.2))))))) = some (v, J1) → f_X11_kernel N I R S (nI w) (nI a) x2 = some (v, J1) := fun v hv => by
      unfold f_X11_kernel; rw [(hp I I).1, Option.bind_some, if_neg (by decide), ho1, Option.bind_some, if_neg (by decide), nI_clamp (by omega), gin2 (by omega) (by omega), e1]
      dsimp only
      rw [if_pos f2.1, g1, Option.bind_some]; exact hv
    have hml : ∀ v, Sum.elim (fun r6 => (if x2 = (-1000000 : Int32) then some (r6, J2) else some ((-1000000 : Int32), J2))) (fun x8 => some x8) y = some (v, J2) → f_X12_kernel N J1 R S (nI w) (nI a) x2 = some (v, J2) := fun v hv => by
      unfold f_X12_kernel; rw [(hp I _).2, Option.bind_some, if_neg (by decide), ho2 _ (hJ1n 91 (by omega)), Option.bind_some, if_neg (by decide), look_yes w1 hW0 f3.1 f3.2.1, Option.bind_some, if_pos (show (0 : Int32) ≤ 0 by decide), m1, Option.bind_some, y1, Option.bind_some]; exact hv
    rcases y2 with ⟨i, i1, rfl, rfl⟩ | ⟨i1, rfl⟩
    · refine ⟨nI (co (kp i)), J1, J2, 0, hcl _ ?_, hcs, hml _ rfl, MS_m0 m2 (by decide)⟩
      rw [if_neg (fun z => hnone i i1 z.symm), gn_f (by omega), glt_t i1 (by omega), g7 i (by omega), hJ1]; rfl
    · by_cases hx : x2 = -1000000
      · refine ⟨nI (p ^ b), J1, J2, 0, hcl _ ?_, hcs, hml _ ?_, MS_m0 m2 (by decide)⟩
        · rw [if_pos hx, hJ1]; rfl
        · show (if x2 = (-1000000 : Int32) then _ else _) = _
          rw [if_pos hx]
      · refine ⟨-1000000, J1, J2, 0, hcl _ ?_, hcs, hml _ ?_, MS_m0 m2 (by decide)⟩
        · rw [if_neg hx]
          have : ((if x2 < 0 then some ((-1000000 : Int32), J) else (if x2 < nI (p ^ b) then ((f_X0_kernelItem N J R S x2).bind (fun z7 => some (z7.1, z7.2))) else some ((-1000000 : Int32), J))) : Option (Int32 × gI)) = some (-1000000, J) := by
            by_cases h0 : x2 < 0
            · rw [if_pos h0]
            · rw [if_neg h0, if_neg]
              intro z
              obtain ⟨j, j1, j2⟩ := nI_of (x := x2) h0
              rw [j2] at z
              exact i1 j ((nI_ltI j1 (by omega)).mp z) j2
          rw [this, hJ1]; rfl
        · show (if x2 = (-1000000 : Int32) then _ else _) = _
          rw [if_neg hx]
end St4
