/-! map -/
section StMap
theorem gAr_12 {S : gS} {q m : Nat} (h : S[q]? = some (12, m)) : ¬ gAr S q = false := fun z => by
  rw [gAr_of h] at z; exact absurd z (by decide)
theorem s_copyOf {N : Nat} {J : gI} {R : gR} {S : gS} (h : S[55]? = some (12, 19)) : f_J7_copyOf_59c91 N J R S 55 = some (S.length, gCopy (gZ J S.length) 55 S.length 0 0 4, R, S ++ [(12, 4)]) := by
  have h2 : (S ++ [((12, 4) : Nat × Nat)])[55]? = some (12, 19) := gS_app h
  have h3 : (S ++ [((12, 4) : Nat × Nat)])[S.length]? = some (12, 4) := gS_last rfl
  unfold f_J7_copyOf_59c91
  rw [if_neg (gAr_12 h), gLn_of h, if_neg (by decide), if_neg (gAr_12 h2), if_neg (gAr_12 h2), if_neg (gAr_12 h3), gLn_of h2, gLn_of h3, if_neg (by decide)]
  rfl
theorem st_map {K : Type} [Lean.Grind.CommRing K] {p n : Nat} {X : K} {co : K → Nat} {k N : Nat} {I : gI} {R : gR} {S : gS} (hR : RO K p n X co) (h : IV p n X co k I R S) (hk : k < 512) (hN : 16000 ≤ N) (x0 x1 x2 x3 x4 : Int32) : ∃ J P T, k_map N I R S x0 x1 x2 x3 x4 = some (J, P, T) ∧ IV p n X co (k + 1) J P T := by
  have hIV := h
  obtain ⟨b1, b2, b3, b4, b5, b6, b7, b8, b9, b10⟩ := h
  unfold k_map
  refine kw_fin (m := fun J P T => f_X12_map N J P T x0 x1 x2 x3 x4) ?_
  rcases isP2 (N := N) (R := R) (S := S) x0 with hp | ⟨w, w1, rfl, hp⟩
  · refine kw_cs hR hIV (-1000001) _ I _ ?_ (CS_I hIV) ?_ (MS_bad b9.symm)
    · unfold f_X11_map; rw [(hp I I).1, Option.bind_some, if_pos rfl]
    · unfold f_X12_map; rw [(hp I _).2, Option.bind_some, if_pos rfl]
  have hMb : ∀ (J : gI) (P : gR) (T : gS) z1 z2, f_X12_lookMap N (gU J 91 0 (0 : Int32)) P T x1 x2 x3 x4 = some (z1, z2) → ¬ 0 ≤ z1 → f_X12_map N J P T (nI w) x1 x2 x3 x4 = some (z1, z2) := fun J P T z1 z2 hl hz => by
    unfold f_X12_map
    rw [show f_X12_isPlace N (gU J 91 0 (0 : Int32)) P T (nI w) = some 1 from (hp J (gU J 91 0 (0 : Int32))).2, Option.bind_some, if_neg (by decide), hl, Option.bind_some, if_neg hz]
  rcases isP2 (N := N) (R := R) (S := S) x1 with hr | ⟨v, v1, rfl, hr⟩
  · refine kw_cs hR hIV (-1000001) _ I _ ?_ (CS_I hIV) (hMb I R S _ _ ?_ (by decide)) (MS_bad b9.symm)
    · unfold f_X11_map; rw [(hp I I).1, Option.bind_some, if_neg (by decide), (hr I I).1, Option.bind_some, if_pos rfl]
    · unfold f_X12_lookMap; rw [(hr I _).2, Option.bind_some, if_pos rfl]
  rcases isR2 (N := N) (R := R) (S := S) x2 with ho | ⟨s, s1, rfl, ho⟩
  · refine kw_cs hR hIV (-1000001) _ I _ ?_ (CS_I hIV) (hMb I R S _ _ ?_ (by decide)) (MS_bad b9.symm)
    · unfold f_X11_map; rw [(hp I I).1, Option.bind_some, if_neg (by decide), (hr I I).1, Option.bind_some, if_neg (by decide), (ho I I).1, Option.bind_some, if_pos rfl]
    · unfold f_X12_lookMap; rw [(hr I _).2, Option.bind_some, if_neg (by decide), (ho I _).2, Option.bind_some, if_pos rfl]
  rcases in1 (N := N) (R := R) (S := S) 4 (by omega) x4 with ⟨i1, i2⟩ | ⟨m, m1, m2, rfl, m3, m4, hm⟩
  · refine kw_cs hR hIV (-1000001) _ I _ ?_ (CS_I hIV) (hMb I R S _ _ ?_ (by decide)) (MS_bad b9.symm)
    · unfold f_X11_map; rw [(hp I I).1, Option.bind_some, if_neg (by decide), (hr I I).1, Option.bind_some, if_neg (by decide), (ho I I).1, Option.bind_some, if_neg (by decide)]
      rcases i1 with i1 | i1
      · rw [if_pos i1]
      · by_cases z : x4 < 1
        · rw [if_pos z]
        · rw [if_neg z, if_neg (show ¬ x4 ≤ (4 : Int32) from i1)]
    · unfold f_X12_lookMap; rw [(hr I _).2, Option.bind_some, if_neg (by decide), (ho I _).2, Option.bind_some, if_neg (by decide)]
      rw [show f_X12_in N (gU I 91 0 (0 : Int32)) R S x4.toInt64 (1 : Int64) (4 : Int64) = some 0 from i2 _, Option.bind_some, if_pos rfl]
  have hP : ∀ (J : gI) (P : gR) (T : gS), f_X12_isPlace N (gU J 91 0 (0 : Int32)) P T (nI v) = some 1 ∧ f_X12_isRow N (gU J 91 0 (0 : Int32)) P T (nI s) = some 1 ∧ f_X12_in N (gU J 91 0 (0 : Int32)) P T (nI m).toInt64 (1 : Int64) (4 : Int64) = some 1 := fun J P T => ⟨(hr J (gU J 91 0 (0 : Int32))).2, (ho J (gU J 91 0 (0 : Int32))).2, hm (gU J 91 0 (0 : Int32))⟩
  have hC : ∀ y, (match R 2 v with | none => ((f_X11_takeMap N I R S none (nI s) x3 (nI m)).bind (fun z5 => (if z5.1 = 0 then none else some (z5.1, z5.2, R, S)))) | some w4 => if gWb R S w4 = true then ((f_X11_takeMap N I R S (some w4) (nI s) x3 (nI m)).bind (fun z7 => (if z7.1 = 0 then ((f_X8_leads N z7.2 R S w4 5 (nI m)).bind (fun z8 => (if z8.1 = 0 then ((f_X11_fine N z8.2 R S (-1000000 : Int32)).bind (fun z15 => some (z15.1, z15.2, R, S))) else ((f_J7_copyOf_59c91 N z8.2 R S 55).bind (fun z9 => if gLayb 0 91 z9.2.2.1 z9.2.2.2 = true then if gWb z9.2.2.1 z9.2.2.2 w4 = true then ((f_X8_worldOf N z9.2.1 z9.2.2.1 z9.2.2.2 z9.1 (z9.2.1 w4 1)).bind (fun z12 => if gLayb 0 91 z12.2.2.1 z12.2.2.2 = true then ((f_X11_shelve N z12.2.1 z12.2.2.1 z12.2.2.2 (nI w) z12.1).bind (fun z13 => some (z13.1, z13.2.1, z13.2.2.1, z13.2.2.2))) else none)) else none else none))))) else some (z7.1, z7.2, R, S)))) else none) = y → f_X11_map N I R S (nI w) (nI v) (nI s) x3 (nI m) = y := by
    intro y hy
    unfold f_X11_map; rw [(hp I I).1, Option.bind_some, if_neg (by decide), (hr I I).1, Option.bind_some, if_neg (by decide), (ho I I).1, Option.bind_some, if_neg (by decide), if_neg m3, if_pos (show nI m ≤ (4 : Int32) from m4), nI_clamp (n := v) (by omega), gin2 (by omega) (by omega)]
    exact hy
  rcases b8 v v1 with ⟨e1, e2⟩ | ⟨a, r, t, d, cc, f, e1, e2, e3⟩
  · refine kw_cs hR hIV ((-1000010 : Int32) - 1) _ (gU I 0 7 1) _ (hC _ (by rw [e1]; rfl)) (CS_f hR hIV 1) (hMb _ R S _ _ ?_ (by decide)) (MS_f1 1)
    obtain ⟨c1, c2, c3⟩ := hP (gU I 0 7 1) R S
    unfold f_X12_lookMap
    rw [c1, Option.bind_some, if_neg (by decide), c2, Option.bind_some, if_neg (by decide), c3, Option.bind_some, if_neg (by decide), nI_clamp (by omega), gin2 (by omega) (by omega), if_pos (by rw [gU_ne _ _ _ _ (by decide), gU_ne _ _ _ _ (by decide)]; exact e2)]; rfl
  have hVr := e2.2.2.1
  have h1r := hVr.1
  have h3r := hVr.2.1
  have hC2 : ∀ z2 y, f_X11_take N I R S (nI s) x3 (nI m) = some z2 → ((if z2.1 = 0 then (if (z2.2 5 0) = 0 then some ((-1000001 : Int32), z2.2) else some (z2.1, z2.2)) else some (z2.1, z2.2)).bind (fun z7 => (if z7.1 = 0 then ((f_X8_leads N z7.2 R S a 5 (nI m)).bind (fun z8 => (if z8.1 = 0 then ((f_X11_fine N z8.2 R S (-1000000 : Int32)).bind (fun z15 => some (z15.1, z15.2, R, S))) else ((f_J7_copyOf_59c91 N z8.2 R S 55).bind (fun z9 => if gLayb 0 91 z9.2.2.1 z9.2.2.2 = true then if gWb z9.2.2.1 z9.2.2.2 a = true then ((f_X8_worldOf N z9.2.1 z9.2.2.1 z9.2.2.2 z9.1 (z9.2.1 a 1)).bind (fun z12 => if gLayb 0 91 z12.2.2.1 z12.2.2.2 = true then ((f_X11_shelve N z12.2.1 z12.2.2.1 z12.2.2.2 (nI w) z12.1).bind (fun z13 => some (z13.1, z13.2.1, z13.2.2.1, z13.2.2.2))) else none)) else none else none))))) else some (z7.1, z7.2, R, S)))) = y → f_X11_map N I R S (nI w) (nI v) (nI s) x3 (nI m) = y := by
    intro z2 y hz hy
    refine hC _ ?_
    rw [e1]
    dsimp only
    rw [if_pos e2.2.1.1]
    unfold f_X11_takeMap
    dsimp only
    rw [if_pos e2.2.1.1, hz, Option.bind_some, show (0 : Int32).toNatClampNeg = 0 from rfl]
    simp only [show ¬ ((0 : Int32) < 0 ∨ 5 ≤ 0) by decide, if_false]
    exact hy
  rcases s_take (N := N) hR hIV (by omega) s1 m2 x3 with ⟨t1, t2⟩ | ⟨la, sz, l1, l2, l3, l4, hh⟩
  · refine kw_cs hR hIV ((-1000010 : Int32) - 1) _ (gU I 0 7 1) _ (hC2 _ _ t2 (by dsimp only; rw [if_neg (show ¬ ((-1000010 : Int32) - 1) = 0 by decide), Option.bind_some, if_neg (show ¬ ((-1000010 : Int32) - 1) = 0 by decide)])) (CS_f hR hIV 1) (hMb _ R S _ _ ?_ (by decide)) (MS_f1 1)
    obtain ⟨c1, c2, c3⟩ := hP (gU I 0 7 1) R S
    have hr0 : ¬ I 101 v = 0 := fun z => by
      have er : (nI r).toInt = ((r : Nat) : Int) := nI_toInt (by omega)
      have e0 : (0 : Int32).toInt = 0 := rfl
      rw [e3.1] at z
      rw [z] at er; omega
    unfold f_X12_lookMap
    rw [c1, Option.bind_some, if_neg (by decide), c2, Option.bind_some, if_neg (by decide), c3, Option.bind_some, if_neg (by decide), nI_clamp (n := v) (by omega), gin2 (by omega) (by omega), if_neg (by rw [gU_ne _ _ _ _ (by decide), gU_ne _ _ _ _ (by decide)]; exact hr0), nI_clamp (n := s) (by omega), gin2 (by omega) (by omega), if_neg (by rw [gU_ne _ _ _ _ (by decide), gU_ne _ _ _ _ (by decide), t1]; decide)]; rfl
  have hMd : ∀ (J : gI) (P : gR) (T : gS), (∀ q, q = 96 ∨ q = 97 ∨ q = 98 ∨ q = 99 ∨ q = 101 → J q = I q) → (∀ j, 2 ≤ j → J 91 j = I 91 j) → _ := fun J P T hJ h91 => m_lookMap (N := N) (H := gU J 91 0 (0 : Int32)) (w := v) (T := T) (P := P) (r := r) hR (MH_of b5 (fun j hj _ => by rw [gU_slot _ _ _ (by omega)]; exact h91 j hj) (by rw [gU_cell _ _ _ (by decide)]; exact hJ 96 (by omega)) (by rw [gU_cell _ _ _ (by decide)]; exact hJ 97 (by omega))) v1 s1 m2 l1 l2 (by rw [gU_ne _ _ _ _ (by decide), hJ 98 (by omega)]; exact l3) (by rw [gU_ne _ _ _ _ (by decide), hJ 99 (by omega)]; exact l4) (by rw [gU_ne _ _ _ _ (by decide), hJ 101 (by omega)]; exact e3.1) h1r h3r (hP J P T).1 (hP J P T).2.1 (hP J P T).2.2 (show 60 ≤ N by omega)
  rcases hh with ⟨t1, t2⟩ | ⟨i, rfl, hi, hh⟩
  · exact kw_cs hR hIV ((-1000010 : Int32) - 2) _ (gU I 0 7 2) _ (hC2 _ _ t2 (by dsimp only; rw [if_neg (show ¬ ((-1000010 : Int32) - 2) = 0 by decide), Option.bind_some, if_neg (show ¬ ((-1000010 : Int32) - 2) = 0 by decide)])) (CS_f hR hIV 2) (hMb _ R S _ _ ((hMd (gU I 0 7 2) R S (fun q hq => gU_cell _ _ _ (by omega)) (fun j _ => gU_ne _ _ _ _ (by decide))).1 x3 t1) (by decide)) (MS_f1 2)
  have hbad : ∀ J : gI, ((if (-1000001 : Int32) = 0 then (if (J 5 0) = 0 then some ((-1000001 : Int32), J) else some ((-1000001 : Int32), J)) else some ((-1000001 : Int32), J)) : Option (Int32 × gI)) = some ((-1000001 : Int32), J) := fun J => if_neg (by decide)
  rcases hh with ⟨j, J, j1, j2, j3, j4, j5⟩ | ⟨vv, J, y1, y2, y3, y4⟩
  · obtain ⟨J2, q1, q2⟩ := ((hMd J R S (fun q hq => j5 q (by omega)) (fun o _ => by rw [j5 91 (by decide)])).2 i hi).1 j j1 (by rw [gU_ne _ _ _ _ (by decide), j5 100 (by decide)]; exact j2) (fun l hl => by rw [gU_ne _ _ _ _ (by decide), j5 100 (by decide)]; exact j3 l hl)
    exact kw_cs hR hIV (-1000001) _ J _ (hC2 _ _ j4 (by dsimp only; rw [hbad, Option.bind_some, if_neg (show ¬ ((-1000001 : Int32)) = 0 by decide)])) (CS_5 hR hIV j5) (hMb _ R S _ _ q1 (by decide)) (MS_q (by rw [j5 91 (by decide)]; exact b9.symm) (fun q hq => q2 q (by omega)))
  have h50 : J 5 0 = nI (co (vv 0)) := y4 0 (by omega)
  have hlook : ∀ (J1 : gI) (P : gR) (T : gS), (∀ q, 91 ≤ q → q < 114 → J1 q = I q) → _ := fun J1 P T hJ => ((hMd J1 P T (fun q hq => hJ q (by omega) (by omega)) (fun o _ => by rw [hJ 91 (by omega) (by omega)])).2 i hi).2 vv (fun o ho => by rw [gU_ne _ _ _ _ (by decide), hJ 100 (by omega) (by omega)]; exact y1 o ho)
  by_cases hz : nI (co (vv 0)) = 0 ∨ nI (co (vv m)) = 0
  · have ha : (if nI (co (vv 0)) = 0 then (-1000001 : Int32) else if nI (co (vv m)) = 0 then -1000001 else 0) = -1000001 := by
      by_cases z0 : nI (co (vv 0)) = 0
      · rw [if_pos z0]
      · rw [if_neg z0, if_pos (hz.resolve_left z0)]
    obtain ⟨W, q1, q2, q3⟩ := hlook J R S (fun q _ _ => y3 q (by omega))
    rw [ha] at q3
    refine kw_cs hR hIV (-1000001) _ J _ (hC2 _ _ y2 ?_) (CS_5 hR hIV y3) (hMb _ R S _ _ q3 (by decide)) (MS_q (by rw [y3 91 (by decide)]; exact b9.symm) (fun q hq => q1 q (by omega)))
    have hA : (if (if nI (co (vv m)) = 0 then (-1000001 : Int32) else 0) = 0 then (if J 5 0 = 0 then some ((-1000001 : Int32), J) else some (if nI (co (vv m)) = 0 then (-1000001 : Int32) else 0, J)) else some (if nI (co (vv m)) = 0 then (-1000001 : Int32) else 0, J)) = some ((-1000001 : Int32), J) := by
      by_cases zm : nI (co (vv m)) = 0
      · simp only [if_pos zm]; exact if_neg (by decide)
      · simp only [if_neg zm]; rw [if_pos trivial]; exact if_pos (by rw [h50]; exact hz.resolve_right zm)
    dsimp only
    rw [hA, Option.bind_some, if_neg (show ¬ ((-1000001 : Int32)) = 0 by decide)]
  have hz0 : ¬ nI (co (vv 0)) = 0 := fun z => hz (.inl z)
  have hzm : ¬ nI (co (vv m)) = 0 := fun z => hz (.inr z)
  rw [if_neg hzm] at y2
  obtain ⟨u, hu⟩ : ∃ u : Nat → K, u = fun j => if j ≤ m then vv j else 0 := ⟨_, rfl⟩
  have huj : ∀ j, j ≤ m → u j = vv j := fun j hj => by rw [hu]; exact if_pos hj
  have hu0 : ∀ j, m < j → u j = 0 := fun j hj => by rw [hu]; exact if_neg (by omega)
  have hum : u m ≠ 0 := fun z => hzm ((co_z hR _).mpr (by rw [← huj m (Nat.le_refl m)]; exact z))
  have huz : u 0 ≠ 0 := fun z => hz0 ((co_z hR _).mpr (by rw [← huj 0 (by omega)]; exact z))
  have huu : ∀ j, u j = if j ≤ m then vv j else 0 := fun j => by rw [hu]
  have hlay55 : ∀ q, 5 ≤ q → q < 56 → S[q]? = layS[q]? := fun q h1 h2 => b1.1 q (by omega) (by omega)
  obtain ⟨Jl, q, rm, y, d1, d2, d3, d4, d5⟩ := s_leads (N := N) (I := J) (R := R) (S := S) (u := u) (l := m) hR (FH_of b4 hR.2.2.1 (fun q h1 h2 => y3 q (by omega))) (CW_of e2.2.1 (fun q hq => y3 q (by omega))) hVr (by rw [y3 37 (by decide)]; exact b6.2.1) hlay55 m1 m2 hum hu0 (fun j hj => by rw [y4 j hj, huj j hj]) (by omega)
  have hJl : ∀ q, q ≠ 5 → ¬ (46 ≤ q ∧ q ≤ 55) → Jl q = I q := fun q h1 h2 => by rw [d4 q (by unfold lM; simp only [List.mem_cons, List.mem_nil_iff, or_false]; omega), y3 q h1]
  have hnz : (if (0 : Int32) = 0 then (if (J 5 0) = 0 then some ((-1000001 : Int32), J) else some ((0 : Int32), J)) else some ((0 : Int32), J)) = some ((0 : Int32), J) := by
    rw [if_pos rfl, h50, if_neg hz0]
  have hmm : ∀ (J1 : gI) (P : gR) (T : gS), (∀ q, 91 ≤ q → q < 114 → J1 q = I q) → ∃ H J2, (∀ q, q ≠ 91 → q ≠ 108 → H q = J1 q) ∧ (∀ j, j ≠ 0 → H 91 j = J1 91 j) ∧ Fs [91, 103, 107] H J2 ∧ (∀ j, j ≠ 1 → J2 91 j = H 91 j) ∧ J2 91 1 = 0 ∧ (((∀ k, rm k = 0) ∧ f_X12_map N J1 P T (nI w) (nI v) (nI s) (nI i) (nI m) = (f_X12_lay N J2 P T (nI w) (nI r)).bind (fun z => some (z.1, z.2)) ∧ ∀ k, k ≤ r → J2 107 k = nI (co (q k))) ∨ ((¬ ∀ k, rm k = 0) ∧ f_X12_map N J1 P T (nI w) (nI v) (nI s) (nI i) (nI m) = some (-1000000, J2))) := by
    intro J1 P T hJ
    obtain ⟨H, q1, q2, q3⟩ := hlook J1 P T hJ
    rw [if_neg hz0, if_neg hzm] at q3
    have hHn : ∀ q, q ≠ 91 → q ≠ 108 → H q = J1 q := fun q h1 h2 => by rw [q1 q h2, gU_cell _ _ _ h1]
    have hH91 : ∀ j, j ≠ 0 → H 91 j = J1 91 j := fun j hj => by rw [q1 91 (by decide), gU_slot _ _ _ hj]
    obtain ⟨J2, g1, g2, g3, g4⟩ := m_map (N := N) (I := J1) (H := H) (R := P) (S := T) (a0 := nI w) (u := u) (q := q) (rm := rm) hR ((hp J1 (gU J1 91 0 (0 : Int32))).2) q3 (MH_of b5 (fun j hj _ => by rw [hH91 j (by omega), hJ 91 (by omega) (by omega)]) (by rw [hHn 96 (by decide) (by decide), hJ 96 (by omega) (by omega)]) (by rw [hHn 97 (by decide) (by decide), hJ 97 (by omega) (by omega)])) v1 (MW_of e3 (by rw [hHn 101 (by decide) (by decide), hJ 101 (by omega) (by omega)]) (by rw [hHn 102 (by decide) (by decide), hJ 102 (by omega) (by omega)])) hVr (fun j hj => by rw [q2 j hj, huu]) m1 m2 hum hu0 huz d1 (by omega)
    exact ⟨H, J2, hHn, hH91, g1, g2, g3, g4⟩
  rcases d3 with ⟨rfl, d3⟩ | ⟨rfl, d3⟩
  · have hV : WV r q := q_top hR hVr hum hu0 d1
    obtain ⟨p1, p2, p3⟩ := cp_new (I := Jl) (b := S.length) (a := 55) (m := 4) (by omega)
    obtain ⟨I1, hI1⟩ : ∃ I1, I1 = gCopy (gZ Jl S.length) 55 S.length 0 0 4 := ⟨_, rfl⟩
    rw [← hI1] at p1 p2 p3
    have hE0 : Ex R R S (S ++ [(12, 4)]) := ⟨fun _ _ => rfl, fun q hq => by rw [List.getElem?_append_left hq], by simp⟩
    have hIq : ∀ q, q < S.length → q ≠ 5 → ¬ (46 ≤ q ∧ q ≤ 55) → I1 q = I q := fun q h1 h2 h3 => by rw [p3 q (by omega), hJl q h2 h3]
    obtain ⟨a', Jw, P, T, av, J1, f1, f2, f3, f4, f5⟩ := lay_fin (N := N) (I1 := I1) (t := q) hR hIV hk (by omega) w1 hV (fun j hj => by rw [p1 j hj, d5 j (by omega)]) (CST_ex2 hR b6 hE0 b2 (fun q h1 h2 => hIq q h1 (by omega) (by omega))) (fun q h1 h2 => hIq q h1 (by omega) (by omega))
    obtain ⟨H, J2, g1, g2, g3, g4, g5, g6⟩ := hmm J1 (gU P 2 w (some a')) T (fun q h1 h2 => f4 q (by omega) (by omega))
    rcases g6 with ⟨_, g6, g7⟩ | ⟨g6, _⟩
    · obtain ⟨J3, u1, u2⟩ := f5 J2 (fun q hq => by rw [g3 q (by simp only [List.mem_cons, List.mem_nil_iff, or_false]; omega), g1 q (by omega) (by omega)]) (fun j hj => by rw [g4 j (by omega), g2 j (by omega)]) g7
      refine ⟨av, J1, gU P 2 w (some a'), T, J3, hC2 _ _ y2 ?_, g6.trans (by rw [u1]; rfl), u2⟩
      obtain ⟨k1, k2, k3⟩ := gWb_ex hE0 e2.1 e2.2.1.1
      dsimp only
      rw [hnz, Option.bind_some, if_pos rfl, d2, Option.bind_some, if_neg (show ¬ (1 : Int32) = 0 by decide), s_copyOf (hlay55 55 (by omega) (by omega)), Option.bind_some]
      dsimp only
      rw [if_pos (gLayb_of ((gLay_ex b1 hE0 b2).sub (a1 := 0) (b1 := 91) (by omega) (by omega))), if_pos k1, ← hI1, hIq a e2.1 (by have := e2.2.1.2.1; omega) (by have := e2.2.1.2.1; omega), e2.2.1.2.2.2.2, f1, Option.bind_some]
      dsimp only
      rw [if_pos f2, f3, Option.bind_some]
    · exact absurd d3 g6
  · obtain ⟨H, J2, g1, g2, g3, g4, g5, g6⟩ := hmm (gU Jl 0 7 (0 : Int32)) R S (fun q h1 h2 => by rw [gU_cell _ _ _ (by omega), hJl q (by omega) (by omega)])
    rcases g6 with ⟨g6, _⟩ | ⟨_, g6⟩
    · exact absurd g6 d3
    · refine kw_cs hR hIV (-1000000) 0 (gU Jl 0 7 (0 : Int32)) J2 (hC2 _ _ y2 ?_) (CS_st hR (fun q hq => hJl q (by omega) (by omega)) (CST_ex2 hR b6 ⟨fun _ _ => rfl, fun _ _ => rfl, Nat.le_refl _⟩ b2 (fun q h1 h2 => hJl q (by omega) (by omega))) 0) g6 ⟨fun q hq => ?_, fun j hj => ?_, g5⟩
      · dsimp only
        rw [hnz, Option.bind_some, if_pos rfl, d2, Option.bind_some, if_pos rfl]; rfl
      · rw [g3 q (by simp only [List.mem_cons, List.mem_nil_iff, or_false]; omega), g1 q (by omega) (by omega)]
      · rw [g4 j (by omega), g2 j (by omega)]
end StMap
