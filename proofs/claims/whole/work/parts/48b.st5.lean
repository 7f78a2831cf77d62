/-! alike, kind, is, as, field, trace, status -/
section St5
theorem in2 {N : Nat} {R : gR} {S : gS} (m : Nat) (hm : m < 2147483648) (x : Int32) : ((x < 0 ∨ nI m < x) ∧ ∀ J : gI, f_X12_in N J R S x.toInt64 (0 : Int64) (nI m).toInt64 = some 0) ∨ ∃ j, j ≤ m ∧ x = nI j ∧ ∀ J : gI, f_X12_in N J R S x.toInt64 (0 : Int64) (nI m).toInt64 = some 1 := by
  have e0 : (0 : Int32).toInt = 0 := rfl
  have hmI := nI_toInt (n := m) hm
  have hs := fun J : gI => s_in (N := N) (I := J) (R := R) (S := S) x 0 (nI m)
  by_cases h : (0 : Int32) ≤ x ∧ x ≤ nI m
  · obtain ⟨j, j1, j2⟩ := nI_of (x := x) (fun z => by
      have := h.1
      rw [Int32.le_iff_toInt_le] at this
      rw [Int32.lt_iff_toInt_lt] at z
      omega)
    refine .inr ⟨j, ?_, j2, fun J => (hs J).trans (by rw [if_pos h])⟩
    have := h.2
    rw [j2] at this
    exact (nI_leI j1 hm).mp this
  · refine .inl ⟨?_, fun J => (hs J).trans (by rw [if_neg h])⟩
    by_cases h1 : x < 0
    · exact .inl h1
    · refine .inr ?_
      rw [Int32.lt_iff_toInt_lt] at h1 ⊢
      apply Classical.byContradiction
      intro z
      refine h ⟨?_, ?_⟩
      · rw [Int32.le_iff_toInt_le]; omega
      · rw [Int32.le_iff_toInt_le]; omega
theorem st_alike {K : Type} [Lean.Grind.CommRing K] {p n : Nat} {X : K} {co : K → Nat} {k N : Nat} {I : gI} {R : gR} {S : gS} (hR : RO K p n X co) (h : IV p n X co k I R S) (hk : k < 512) (hN : 16000 ≤ N) (x0 x1 : Int32) : ∃ J P T, k_alike N I R S x0 x1 = some (J, P, T) ∧ IV p n X co (k + 1) J P T := by
  have hIV := h
  have hq := RO_q hR
  have hpp := RO_p hR
  obtain ⟨b1, b2, b3, b4, b5, b6, b7, b8, b9, b10⟩ := h
  unfold k_alike
  refine k_fin (m := fun J => f_X12_alike N J R S x0 x1) hR hIV ?_
  rcases isP2 (N := N) (R := R) (S := S) x0 with hp | ⟨w, w1, rfl, hp⟩
  · refine hx_bad hIV ?_ ?_
    · unfold f_X11_alike; rw [(hp I I).1, Option.bind_some, if_pos rfl]
    · unfold f_X12_alike; rw [(hp I _).2, Option.bind_some, if_pos rfl]
  rcases isP2 (N := N) (R := R) (S := S) x1 with hp' | ⟨v, v1, rfl, hp'⟩
  · refine hx_bad hIV ?_ ?_
    · unfold f_X11_alike; rw [(hp I I).1, Option.bind_some, if_neg (by decide), (hp' I I).1, Option.bind_some, if_pos rfl]
    · unfold f_X12_alike; rw [(hp I _).2, Option.bind_some, if_neg (by decide), (hp' I _).2, Option.bind_some, if_pos rfl]
  have hno : ∀ J : gI, (J 101 w = 0 ∨ (J 101 w ≠ 0 ∧ J 101 v = 0)) → f_X12_alike N J R S (nI w) (nI v) = some ((-1000010 : Int32) - 1, gU (gU (gU J 91 0 (0 : Int32)) 91 1 (0 : Int32)) 91 1 1) := fun J hJ => by
    have e1 : ∀ u, gU (gU J 91 0 (0 : Int32)) 91 1 (0 : Int32) 101 u = J 101 u := fun u => by rw [gU_ne _ _ _ _ (by decide), gU_ne _ _ _ _ (by decide)]
    unfold f_X12_alike; rw [(hp I _).2, Option.bind_some, if_neg (by decide), (hp' I _).2, Option.bind_some, if_neg (by decide), nI_clamp (by omega), nI_clamp (by omega), gin2 (by omega) (by omega), gin2 (by omega) (by omega)]
    rcases hJ with hJ | ⟨hJ1, hJ2⟩
    · rw [if_pos (by rw [e1]; exact hJ)]; rfl
    · rw [if_neg (by rw [e1]; exact hJ1), if_pos (by rw [e1]; exact hJ2)]; rfl
  rcases b8 w w1 with ⟨e1, e2⟩ | ⟨q, r, t, d, c, f, e1, e2, e3⟩
  · refine hx_found hR hIV 1 ?_ (hno _ (.inl (by rw [gU_ne _ _ _ _ (by decide)]; exact e2)))
    unfold f_X11_alike; rw [(hp I I).1, Option.bind_some, if_neg (by decide), (hp' I I).1, Option.bind_some, if_neg (by decide), nI_clamp (by omega), nI_clamp (by omega), gin2 (by omega) (by omega), e1]
    dsimp only
    rw [gin2 (by omega) (by omega)]
    rcases b8 v v1 with ⟨e1', _⟩ | ⟨q', r', t', d', c', f', e1', e2', _⟩
    · rw [e1']; rfl
    · rw [e1']
      dsimp only
      rw [if_pos e2'.2.1.1]; rfl
  · obtain ⟨f1, f2, f3, f4, f5, f6, f7, f8, f9, f10, f11, f12⟩ := e2
    rcases b8 v v1 with ⟨e1', e2'⟩ | ⟨q', r', t', d', c', f', e1', e2', e3'⟩
    · refine hx_found hR hIV 1 ?_ (hno _ (.inr ⟨by rw [gU_ne _ _ _ _ (by decide), e3.1]; exact nI_ne0 (by have := f3.1; omega) (by have := f3.2.1; omega), by rw [gU_ne _ _ _ _ (by decide)]; exact e2'⟩))
      unfold f_X11_alike; rw [(hp I I).1, Option.bind_some, if_neg (by decide), (hp' I I).1, Option.bind_some, if_neg (by decide), nI_clamp (by omega), nI_clamp (by omega), gin2 (by omega) (by omega), e1]
      dsimp only
      rw [if_pos f2.1, gin2 (by omega) (by omega), e1']; rfl
    · obtain ⟨g1, g2, g3, g4, g5, g6, g7, g8, g9, g10, g11, g12⟩ := e2'
      -- the class's number
      obtain ⟨J, B, kp, t1, t2, t3, t4, t5⟩ : ∃ J B, ∃ kp : Nat → K, f_X8_turnsFromTo N I R S q q' = some (nI (if r = r' then B - 1 else 0), J) ∧ Fr 17 36 I J ∧ J 17 1 = nI p ∧ B ≤ 15625 ∧ (r = r' → kp 0 = 0 ∧ 0 < B ∧ (∀ i m, m ≤ r → Lt p t t' m (kp i) = 0) ∧ (∀ z, (∀ m, m ≤ r → Lt p t t' m z = 0) → ∃ i, i < B ∧ kp i = z) ∧ ∀ i k, i < k → k < B → co (kp i) < co (kp k)) := by
        by_cases hrr : r = r'
        · subst hrr
          obtain ⟨J, b, kp, u1, u2, u3, u4, u5, u6, u7, u8⟩ := s_turns (N := N) hR b4 f2 g2 f3.2.1 b6.1 b6.2.1 (lay6 b1 6 75 (by omega) 19 (by omega) (by omega)) (by omega)
          refine ⟨J, p ^ b, kp, by rw [if_pos rfl]; exact u1, u2, u3, Nat.le_trans (Nat.pow_le_pow_right (by omega) u4) hq.2, fun _ => ⟨u5, Nat.pow_pos (by omega), u6, u7, u8⟩⟩
        · refine ⟨I, 0, fun _ => 0, ?_, Fr_refl _ _ _, b6.1, by omega, fun e => absurd e hrr⟩
          unfold f_X8_turnsFromTo
          rw [if_pos f2.1, if_pos g2.1, f2.2.2.2.2, g2.2.2.2.2, geq_f hrr (by have := f3.2.1; omega) (by have := g3.2.1; omega), if_neg hrr, nI_0]
      have hfr : Fp pB I J := Fp_Fr t2 (fun a h1 h2 => by unfold pB; omega)
      obtain ⟨J1, hJ1⟩ : ∃ J1, J1 = gU J 0 7 (0 : Int32) := ⟨_, rfl⟩
      have hJ1n : ∀ x, 75 ≤ x → J1 x = I x := fun x hx => by rw [hJ1, gU_cell _ _ _ (by omega)]; exact hfr x (by unfold pB; omega)
      have hW0 := MW_of e3 (J := J1) (hJ1n 101 (by omega)) (hJ1n 102 (by omega))
      have hW0' := MW_of e3' (J := J1) (hJ1n 101 (by omega)) (hJ1n 102 (by omega))
      have hM1 := m0_MH (MH_of b5 (J := J1) (fun j _ _ => by rw [hJ1n 91 (by omega)]) (hJ1n 96 (by omega)) (hJ1n 97 (by omega)))
      have hsc := m_scanA (N := N) (R := R) (S := S) (B := B) (kp := kp) hR hM1 w1 v1 (m0_MW hW0) (m0_MW hW0') f3.2.1 g3.2.1 t5 hN
      have hans : (if nI (if r = r' then B - 1 else 0) ≤ 0 then some (0 : Int32) else some (1 : Int32)) = some (if r = r' ∧ 1 < B then 1 else 0) := by
        by_cases hrr : r = r'
        · rw [if_pos hrr]
          by_cases hB : 1 < B
          · rw [gle0_f (by omega) (by omega), if_pos ⟨hrr, hB⟩]
          · rw [gle0_t (by omega), if_neg (fun z => hB z.2)]
        · rw [if_neg hrr, gle0_t rfl, if_neg (fun z => hrr z.1)]
      refine ⟨if r = r' ∧ 1 < B then 1 else 0, J1, m0 J1, 0, ?_, ?_, ?_, MS_m0 (l := []) (Fs_refl _ _) (by decide)⟩
      · unfold f_X11_alike; rw [(hp I I).1, Option.bind_some, if_neg (by decide), (hp' I I).1, Option.bind_some, if_neg (by decide), nI_clamp (by omega), nI_clamp (by omega), gin2 (by omega) (by omega), e1]
        dsimp only
        rw [if_pos f2.1, gin2 (by omega) (by omega), e1']
        dsimp only
        rw [if_pos g2.1, t1, Option.bind_some]
        dsimp only
        rw [hans, Option.bind_some, hJ1]; rfl
      · rw [hJ1]
        exact CS_st hR (fun x hx => hfr x (pB_C hx)) (CST_B hR b6 hfr t3 (by rw [t2 37 (by omega)]) (Pd_of b6.2.2.2.2.1 (by rw [t2 37 (by omega)]) (by rw [t2 37 (by omega)]) (fun a h1 h2 => t2 a (by omega)) (fun a ha => t2 a (by omega)))) 0
      · have ew : m0 J1 101 w = nI r := (m0_MW hW0).1
        have ev' : m0 J1 101 v = nI r' := (m0_MW hW0').1
        unfold m0 at hsc ew ev'
        unfold f_X12_alike; rw [(hp I _).2, Option.bind_some, if_neg (by decide), (hp' I _).2, Option.bind_some, if_neg (by decide), hsc, Option.bind_some, nI_clamp (by omega), nI_clamp (by omega), gin2 (by omega) (by omega), gin2 (by omega) (by omega), if_neg (by rw [ew]; exact nI_ne0 (by have := f3.1; omega) (by have := f3.2.1; omega)), if_neg (by rw [ev']; exact nI_ne0 (by have := g3.1; omega) (by have := g3.2.1; omega))]
        split
        · rw [if_neg (by decide)]; rfl
        · rw [if_pos rfl]; rfl
theorem st_field {K : Type} [Lean.Grind.CommRing K] {p n : Nat} {X : K} {co : K → Nat} {k N : Nat} {I : gI} {R : gR} {S : gS} (hR : RO K p n X co) (h : IV p n X co k I R S) (hk : k < 512) (hN : 16000 ≤ N) (x0 x1 x2 : Int32) : ∃ J P T, k_field N I R S x0 x1 x2 = some (J, P, T) ∧ IV p n X co (k + 1) J P T := by
  have hIV := h
  obtain ⟨b1, b2, b3, b4, b5, b6, b7, b8, b9, b10⟩ := h
  unfold k_field
  refine k_fin (m := fun J => f_X12_field N J R S x0 x1 x2) hR hIV ?_
  have hM0 : MH p n X co (gU I 91 0 (0 : Int32)) := MH_of b5 (fun j hj _ => gU_slot _ _ _ (by omega)) (gU_cell _ _ _ (by decide)) (gU_cell _ _ _ (by decide))
  have hmk : ∀ v, f_X11_field N I R S x0 x1 x2 = some (v, I) → f_X12_field N I R S x0 x1 x2 = some (v, gU I 91 0 (0 : Int32)) → ∃ v J1 J2 st, f_X11_field N I R S x0 x1 x2 = some (v, J1) ∧ CS p n X co R S I J1 st ∧ f_X12_field N J1 R S x0 x1 x2 = some (v, J2) ∧ MS J1 J2 st := fun v h1 h2 => ⟨v, I, _, _, h1, CS_I hIV, h2, MS_bad b9.symm⟩
  rcases isE2 (N := N) (R := R) (S := S) hR x0 with hs | ⟨a, rfl, hs⟩
  · refine hmk (-1000001) ?_ ?_
    · unfold f_X11_field; rw [(hs I _ b4.2.1 hM0.2.2.1).1, Option.bind_some, if_pos rfl]
    · unfold f_X12_field; rw [(hs I _ b4.2.1 hM0.2.2.1).2.1, Option.bind_some, if_pos rfl]
  have hs1 := (hs I _ b4.2.1 hM0.2.2.1).1
  have hs2 := (hs I _ b4.2.1 hM0.2.2.1).2
  rcases in2 (N := N) (R := R) (S := S) 3 (by omega) x2 with ⟨hx, hi⟩ | ⟨o, o1, rfl, hi⟩
  · refine hmk (-1000001) ?_ ?_
    · unfold f_X11_field; rw [hs1, Option.bind_some, if_neg (by decide)]
      rcases hx with hx | hx
      · rw [if_pos hx]
      · by_cases h0 : x2 < 0
        · rw [if_pos h0]
        · rw [if_neg h0, if_neg (fun z => by
            rw [Int32.le_iff_toInt_le] at z
            rw [Int32.lt_iff_toInt_lt] at hx
            have e3 : (nI 3).toInt = (3 : Int32).toInt := rfl
            omega)]
    · unfold f_X12_field; rw [hs2, Option.bind_some, if_neg (by decide), show (3 : Int64) = (nI 3).toInt64 from rfl, hi, Option.bind_some, if_pos rfl]
  have hi3 := hi (gU I 91 0 (0 : Int32))
  have pre1 : ∀ (A B : Option (Int32 × gI)), ((if nI o < 0 then A else (if nI o ≤ (3 : Int32) then B else A))) = B := fun A B => by
    rw [gn_f (by omega), show (3 : Int32) = nI 3 from rfl, gle_t o1 (by omega)]
  by_cases ho2 : o = 2
  · subst ho2
    rcases in2 (N := N) (R := R) (S := S) 100000 (by omega) x1 with ⟨hx, hj⟩ | ⟨e, e1, rfl, hj⟩
    · refine hmk (-1000001) ?_ ?_
      · unfold f_X11_field; rw [hs1, Option.bind_some, if_neg (by decide), pre1, if_pos (show nI 2 = (2 : Int32) from rfl)]
        rcases hx with hx | hx
        · rw [if_pos hx]
        · by_cases h0 : x1 < 0
          · rw [if_pos h0]
          · rw [if_neg h0, if_neg (fun z => by
              rw [Int32.le_iff_toInt_le] at z
              rw [Int32.lt_iff_toInt_lt] at hx
              have e3 : (nI 100000).toInt = (100000 : Int32).toInt := rfl
              omega)]
      · unfold f_X12_field; rw [hs2, Option.bind_some, if_neg (by decide), show (3 : Int64) = (nI 3).toInt64 from rfl, hi3, Option.bind_some, if_neg (by decide), if_pos (show nI 2 = (2 : Int32) from rfl), show (100000 : Int64) = (nI 100000).toInt64 from rfl, hj, Option.bind_some, if_pos rfl]
    · refine hmk (nI (co (a ^ e))) ?_ ?_
      · unfold f_X11_field; rw [hs1, Option.bind_some, if_neg (by decide), pre1, if_pos (show nI 2 = (2 : Int32) from rfl), gn_f (by omega), show (100000 : Int32) = nI 100000 from rfl, gle_t e1 (by omega), s_power hR b4.1 a (by omega) (by omega), Option.bind_some]
      · unfold f_X12_field; rw [hs2, Option.bind_some, if_neg (by decide), show (3 : Int64) = (nI 3).toInt64 from rfl, hi3, Option.bind_some, if_neg (by decide), if_pos (show nI 2 = (2 : Int32) from rfl), show (100000 : Int64) = (nI 100000).toInt64 from rfl, hj, Option.bind_some, if_neg (by decide), if_neg (by decide), if_neg (by decide), if_pos (show nI 2 = (2 : Int32) from rfl), nI_l (by omega), m_raise hR hM0 a (by omega), Option.bind_some]
  · have ne2 : ¬ nI o = (2 : Int32) := fun z => ho2 ((nI_eq (b := 2) (by omega) (by omega)).mp z)
    rcases isE2 (N := N) (R := R) (S := S) hR x1 with ht | ⟨b, rfl, ht⟩
    · refine hmk (-1000001) ?_ ?_
      · unfold f_X11_field; rw [hs1, Option.bind_some, if_neg (by decide), pre1, if_neg ne2, (ht I _ b4.2.1 hM0.2.2.1).1, Option.bind_some, if_pos rfl]
      · unfold f_X12_field; rw [hs2, Option.bind_some, if_neg (by decide), show (3 : Int64) = (nI 3).toInt64 from rfl, hi3, Option.bind_some, if_neg (by decide), if_neg ne2, (ht I _ b4.2.1 hM0.2.2.1).2.1, Option.bind_some, if_pos rfl]
    have ht1 := (ht I _ b4.2.1 hM0.2.2.1).1
    have ht2 := (ht I _ b4.2.1 hM0.2.2.1).2
    have c1 : ∀ y, (if nI o = 0 then ((f_X2_plusTimes N I R S (nI (co a)) (1 : Int32) (nI (co b))).bind (fun z6 => some (z6.1, z6.2))) else (if nI o = (1 : Int32) then ((f_X2_times N I R S (nI (co a)) (nI (co b))).bind (fun z5 => some (z5.1, z5.2))) else (if nI (co b) = 0 then some ((-1000000 : Int32), I) else ((f_X2_inverse N I R S (nI (co b))).bind (fun z3 => ((f_X2_times N z3.2 R S (nI (co a)) z3.1).bind (fun z4 => some (z4.1, z4.2)))))))) = y → f_X11_field N I R S (nI (co a)) (nI (co b)) (nI o) = y := fun y hy => by
      unfold f_X11_field; rw [hs1, Option.bind_some, if_neg (by decide), pre1, if_neg ne2, ht1, Option.bind_some, if_neg (by decide)]; exact hy
    have c2 : ∀ y, (if nI o = 0 then ((f_X12_add N (gU I 91 0 (0 : Int32)) R S (nI (co a)) (nI (co b))).bind (fun z8 => some (z8, gU I 91 0 (0 : Int32)))) else (if nI o = (1 : Int32) then ((f_X12_times N (gU I 91 0 (0 : Int32)) R S (nI (co a)) (nI (co b))).bind (fun z7 => some (z7, gU I 91 0 (0 : Int32)))) else (if nI (co b) = 0 then some ((-1000000 : Int32), gU I 91 0 (0 : Int32)) else ((f_X12_inverse N (gU I 91 0 (0 : Int32)) R S (nI (co b))).bind (fun z4 => ((f_X12_times N (gU I 91 0 (0 : Int32)) R S (nI (co a)) z4).bind (fun z5 => some (z5, gU I 91 0 (0 : Int32))))))))) = y → f_X12_field N I R S (nI (co a)) (nI (co b)) (nI o) = y := fun y hy => by
      unfold f_X12_field; rw [hs2, Option.bind_some, if_neg (by decide), show (3 : Int64) = (nI 3).toInt64 from rfl, hi3, Option.bind_some, if_neg (by decide), if_neg ne2, ht2, Option.bind_some, if_neg (by decide), if_neg ne2]; exact hy
    by_cases ho0 : o = 0
    · refine hmk (nI (co (a + b))) (c1 _ ?_) (c2 _ ?_)
      · have h1 := s_plusTimes (N := N) (R := R) (S := S) hR b4.1 a 1 b (by omega)
        rw [RO_1 hR, show a + 1 * b = a + b by grind] at h1
        rw [g0_t ho0, show (1 : Int32) = nI 1 from rfl, h1, Option.bind_some]
      · rw [g0_t ho0, m_add hR hM0.1 _ _ (by omega), Option.bind_some]
    · by_cases ho1 : o = 1
      · refine hmk (nI (co (a * b))) (c1 _ ?_) (c2 _ ?_)
        · rw [g0_f (by omega) (by omega), if_pos (by rw [ho1]; rfl), s_times hR b4.1 _ _ (by omega), Option.bind_some]
        · rw [g0_f (by omega) (by omega), if_pos (by rw [ho1]; rfl), m_times hR hM0, Option.bind_some]
      · have ne1 : ¬ nI o = (1 : Int32) := fun z => ho1 ((nI_eq (b := 1) (by omega) (by omega)).mp z)
        by_cases hb0 : b = 0
        · refine hmk (-1000000) (c1 _ ?_) (c2 _ ?_)
          · rw [g0_f (by omega) (by omega), if_neg ne1, if_pos ((co0_iff hR b).mpr hb0)]
          · rw [g0_f (by omega) (by omega), if_neg ne1, if_pos ((co0_iff hR b).mpr hb0)]
        · refine hmk (nI (co (a * b ^ (p ^ n - 2)))) (c1 _ ?_) (c2 _ ?_)
          · rw [g0_f (by omega) (by omega), if_neg ne1, if_neg (fun z => hb0 ((co0_iff hR b).mp z)), s_inverse hR b4 b (by omega), Option.bind_some, s_times hR b4.1 _ _ (by omega), Option.bind_some]
          · rw [g0_f (by omega) (by omega), if_neg ne1, if_neg (fun z => hb0 ((co0_iff hR b).mp z)), m_inverse hR hM0 hb0, Option.bind_some, m_times hR hM0, Option.bind_some]
end St5
