/-! back -/
section StBack
theorem i_lt4 (x : Int32) : x ≤ nI 4 ↔ ¬ (4 : Int32) < x := by
  have e : (nI 4).toInt = 4 := rfl
  have e' : (4 : Int32).toInt = 4 := rfl
  rw [Int32.le_iff_toInt_le, Int32.lt_iff_toInt_lt]; omega
theorem st_back {K : Type} [Lean.Grind.CommRing K] {p n : Nat} {X : K} {co : K → Nat} {k N : Nat} {I : gI} {R : gR} {S : gS} (hR : RO K p n X co) (h : IV p n X co k I R S) (hk : k < 512) (hN : 16000 ≤ N) (x0 x1 x2 x3 x4 : Int32) : ∃ J P T, k_back N I R S x0 x1 x2 x3 x4 = some (J, P, T) ∧ IV p n X co (k + 1) J P T := by
  have hIV := h
  obtain ⟨b1, b2, b3, b4, b5, b6, b7, b8, b9, b10⟩ := h
  unfold k_back
  refine k_fin (m := fun J => f_X12_back N J R S x0 x1 x2 x3 x4) hR hIV ?_
  have hMn : ∀ J : gI, ¬ (-2 : Int32) ≤ x4 → f_X12_back N J R S x0 x1 x2 x3 x4 = some (-1000001, gU J 91 0 (0 : Int32)) := fun J hz => by
    unfold f_X12_back; rw [if_neg hz]
  have hMb : ∀ (J : gI) z1 z2, (-2 : Int32) ≤ x4 → f_X12_lookMap N (gU J 91 0 (0 : Int32)) R S x0 x1 x2 x3 = some (z1, z2) → ¬ 0 ≤ z1 → f_X12_back N J R S x0 x1 x2 x3 x4 = some (z1, z2) := fun J z1 z2 hx hl hz => by
    unfold f_X12_back; rw [if_pos hx, hl, Option.bind_some, if_neg hz]
  have hM1 : f_X12_lookMap N (gU I 91 0 (0 : Int32)) R S x0 x1 x2 x3 = some (-1000001, gU I 91 0 (0 : Int32)) → f_X12_back N I R S x0 x1 x2 x3 x4 = some (-1000001, gU I 91 0 (0 : Int32)) := fun hl => by
    by_cases hx : (-2 : Int32) ≤ x4
    · exact hMb I _ _ hx hl (by decide)
    · exact hMn I hx
  rcases isP2 (N := N) (R := R) (S := S) x0 with hr | ⟨v, v1, rfl, hr⟩
  · refine ⟨-1000001, I, _, I 0 7, ?_, CS_I hIV, hM1 ?_, MS_bad b9.symm⟩
    · unfold f_X11_back; rw [(hr I I).1, Option.bind_some, if_pos rfl]
    · unfold f_X12_lookMap; rw [(hr I _).2, Option.bind_some, if_pos rfl]
  rcases isR2 (N := N) (R := R) (S := S) x1 with ho | ⟨s, s1, rfl, ho⟩
  · refine ⟨-1000001, I, _, I 0 7, ?_, CS_I hIV, hM1 ?_, MS_bad b9.symm⟩
    · unfold f_X11_back; rw [(hr I I).1, Option.bind_some, if_neg (by decide), (ho I I).1, Option.bind_some, if_pos rfl]
    · unfold f_X12_lookMap; rw [(hr I _).2, Option.bind_some, if_neg (by decide), (ho I _).2, Option.bind_some, if_pos rfl]
  rcases in1 (N := N) (R := R) (S := S) 4 (by omega) x3 with ⟨i1, i2⟩ | ⟨m, m1, m2, rfl, m3, m4, hm⟩
  · refine ⟨-1000001, I, _, I 0 7, ?_, CS_I hIV, hM1 ?_, MS_bad b9.symm⟩
    · unfold f_X11_back; rw [(hr I I).1, Option.bind_some, if_neg (by decide), (ho I I).1, Option.bind_some, if_neg (by decide)]
      rcases i1 with i1 | i1
      · rw [if_pos i1]
      · by_cases z : x3 < 1
        · rw [if_pos z]
        · rw [if_neg z, if_pos (Classical.byContradiction (fun z2 => i1 ((i_lt4 x3).mpr z2)))]
    · unfold f_X12_lookMap; rw [(hr I _).2, Option.bind_some, if_neg (by decide), (ho I _).2, Option.bind_some, if_neg (by decide)]
      rw [show f_X12_in N (gU I 91 0 (0 : Int32)) R S x3.toInt64 (1 : Int64) (4 : Int64) = some 0 from i2 _, Option.bind_some, if_pos rfl]
  by_cases hx : (-2 : Int32) ≤ x4
  rotate_left
  · refine ⟨-1000001, I, _, I 0 7, ?_, CS_I hIV, hMn I hx, MS_bad b9.symm⟩
    unfold f_X11_back; rw [(hr I I).1, Option.bind_some, if_neg (by decide), (ho I I).1, Option.bind_some, if_neg (by decide), if_neg m3, if_neg ((i_lt4 _).mp m4), if_neg hx]
  have hP : ∀ (J : gI), f_X12_isPlace N (gU J 91 0 (0 : Int32)) R S (nI v) = some 1 ∧ f_X12_isRow N (gU J 91 0 (0 : Int32)) R S (nI s) = some 1 ∧ f_X12_in N (gU J 91 0 (0 : Int32)) R S (nI m).toInt64 (1 : Int64) (4 : Int64) = some 1 := fun J => ⟨(hr J (gU J 91 0 (0 : Int32))).2, (ho J (gU J 91 0 (0 : Int32))).2, hm (gU J 91 0 (0 : Int32))⟩
  have hC : ∀ y, (match R 2 v with | none => ((f_X11_takeMap N I R S none (nI s) x2 (nI m)).bind (fun z4 => (if z4.1 = 0 then none else some (z4.1, z4.2)))) | some w3 => if gWb R S w3 = true then ((f_X11_takeMap N I R S (some w3) (nI s) x2 (nI m)).bind (fun z6 => (if z6.1 = 0 then ((f_X8_wayBack N z6.2 R S w3 5 (nI m)).bind (fun z7 => (if z7.1 = 0 then ((f_X11_fine N z7.2 R S (-1000000 : Int32)).bind (fun z13 => some (z13.1, z13.2))) else (if x4 = (-2 : Int32) then ((f_X11_fine N z7.2 R S z7.1).bind (fun z12 => some (z12.1, z12.2))) else ((f_X8_lengthOf N z7.2 R S w3 z7.1).bind (fun z8 => (if x4 = (-1 : Int32) then ((f_X11_fine N z7.2 R S (z8 - nI m)).bind (fun z11 => some (z11.1, z11.2))) else (((if x4 ≤ (z8 - nI m) then if x4 < 0 ∨ 19 ≤ x4.toNatClampNeg then none else some (z7.2 55 x4.toNatClampNeg) else some (0 : Int32)) : Option (Int32)).bind (fun z9 => ((f_X11_fine N z7.2 R S z9).bind (fun z10 => some (z10.1, z10.2)))))))))))) else some (z6.1, z6.2)))) else none) = y → f_X11_back N I R S (nI v) (nI s) x2 (nI m) x4 = y := by
    intro y hy
    unfold f_X11_back; rw [(hr I I).1, Option.bind_some, if_neg (by decide), (ho I I).1, Option.bind_some, if_neg (by decide), if_neg m3, if_neg ((i_lt4 _).mp m4), if_pos hx, nI_clamp (n := v) (by omega), gin2 (by omega) (by omega)]
    exact hy
  rcases b8 v v1 with ⟨e1, e2⟩ | ⟨a, r, t, d, cc, f, e1, e2, e3⟩
  · refine ⟨(-1000010 : Int32) - 1, gU I 0 7 1, _, 1, hC _ (by rw [e1]; rfl), CS_f hR hIV 1, hMb _ _ _ hx ?_ (by decide), MS_f1 1⟩
    obtain ⟨c1, c2, c3⟩ := hP (gU I 0 7 1)
    unfold f_X12_lookMap
    rw [c1, Option.bind_some, if_neg (by decide), c2, Option.bind_some, if_neg (by decide), c3, Option.bind_some, if_neg (by decide), nI_clamp (by omega), gin2 (by omega) (by omega), if_pos (by rw [gU_ne _ _ _ _ (by decide), gU_ne _ _ _ _ (by decide)]; exact e2)]; rfl
  have hVr := e2.2.2.1
  have h1r := hVr.1
  have h3r := hVr.2.1
  have hC2 : ∀ z2 y, f_X11_take N I R S (nI s) x2 (nI m) = some z2 → ((if z2.1 = 0 then (if (z2.2 5 0) = 0 then some ((-1000001 : Int32), z2.2) else some (z2.1, z2.2)) else some (z2.1, z2.2)).bind (fun z6 => (if z6.1 = 0 then ((f_X8_wayBack N z6.2 R S a 5 (nI m)).bind (fun z7 => (if z7.1 = 0 then ((f_X11_fine N z7.2 R S (-1000000 : Int32)).bind (fun z13 => some (z13.1, z13.2))) else (if x4 = (-2 : Int32) then ((f_X11_fine N z7.2 R S z7.1).bind (fun z12 => some (z12.1, z12.2))) else ((f_X8_lengthOf N z7.2 R S a z7.1).bind (fun z8 => (if x4 = (-1 : Int32) then ((f_X11_fine N z7.2 R S (z8 - nI m)).bind (fun z11 => some (z11.1, z11.2))) else (((if x4 ≤ (z8 - nI m) then if x4 < 0 ∨ 19 ≤ x4.toNatClampNeg then none else some (z7.2 55 x4.toNatClampNeg) else some (0 : Int32)) : Option (Int32)).bind (fun z9 => ((f_X11_fine N z7.2 R S z9).bind (fun z10 => some (z10.1, z10.2)))))))))))) else some (z6.1, z6.2)))) = y → f_X11_back N I R S (nI v) (nI s) x2 (nI m) x4 = y := by
    intro z2 y hz hy
    refine hC _ ?_
    rw [e1]
    dsimp only
    rw [if_pos e2.2.1.1]
    unfold f_X11_takeMap
    dsimp only
    rw [if_pos e2.2.1.1, hz, Option.bind_some, show (0 : Int32).toNatClampNeg = 0 from rfl]
    simp only [show ¬ ((0 : Int32) < 0 ∨ 5 ≤ 0) by decide, if_false]
    exact hy
  rcases s_take (N := N) hR hIV (by omega) s1 m2 x2 with ⟨t1, t2⟩ | ⟨la, sz, l1, l2, l3, l4, hh⟩
  · refine ⟨(-1000010 : Int32) - 1, gU I 0 7 1, _, 1, hC2 _ _ t2 (by dsimp only; rw [if_neg (show ¬ ((-1000010 : Int32) - 1) = 0 by decide), Option.bind_some, if_neg (show ¬ ((-1000010 : Int32) - 1) = 0 by decide)]), CS_f hR hIV 1, hMb _ _ _ hx ?_ (by decide), MS_f1 1⟩
    obtain ⟨c1, c2, c3⟩ := hP (gU I 0 7 1)
    have hr0 : ¬ I 101 v = 0 := fun z => by
      have er : (nI r).toInt = ((r : Nat) : Int) := nI_toInt (by omega)
      have e0 : (0 : Int32).toInt = 0 := rfl
      rw [e3.1] at z
      rw [z] at er; omega
    unfold f_X12_lookMap
    rw [c1, Option.bind_some, if_neg (by decide), c2, Option.bind_some, if_neg (by decide), c3, Option.bind_some, if_neg (by decide), nI_clamp (n := v) (by omega), gin2 (by omega) (by omega), if_neg (by rw [gU_ne _ _ _ _ (by decide), gU_ne _ _ _ _ (by decide)]; exact hr0), nI_clamp (n := s) (by omega), gin2 (by omega) (by omega), if_neg (by rw [gU_ne _ _ _ _ (by decide), gU_ne _ _ _ _ (by decide), t1]; decide)]; rfl
  have hMd : ∀ (J : gI), (∀ q, q = 96 ∨ q = 97 ∨ q = 98 ∨ q = 99 ∨ q = 101 → J q = I q) → (∀ j, 2 ≤ j → J 91 j = I 91 j) → _ := fun J hJ h91 => m_lookMap (N := N) (H := gU J 91 0 (0 : Int32)) (w := v) (T := S) (P := R) (r := r) hR (MH_of b5 (fun j hj _ => by rw [gU_slot _ _ _ (by omega)]; exact h91 j hj) (by rw [gU_cell _ _ _ (by decide)]; exact hJ 96 (by omega)) (by rw [gU_cell _ _ _ (by decide)]; exact hJ 97 (by omega))) v1 s1 m2 l1 l2 (by rw [gU_ne _ _ _ _ (by decide), hJ 98 (by omega)]; exact l3) (by rw [gU_ne _ _ _ _ (by decide), hJ 99 (by omega)]; exact l4) (by rw [gU_ne _ _ _ _ (by decide), hJ 101 (by omega)]; exact e3.1) h1r h3r (hP J).1 (hP J).2.1 (hP J).2.2 (show 60 ≤ N by omega)
  rcases hh with ⟨t1, t2⟩ | ⟨i, rfl, hi, hh⟩
  · exact ⟨(-1000010 : Int32) - 2, gU I 0 7 2, _, 2, hC2 _ _ t2 (by dsimp only; rw [if_neg (show ¬ ((-1000010 : Int32) - 2) = 0 by decide), Option.bind_some, if_neg (show ¬ ((-1000010 : Int32) - 2) = 0 by decide)]), CS_f hR hIV 2, hMb _ _ _ hx ((hMd (gU I 0 7 2) (fun q hq => gU_cell _ _ _ (by omega)) (fun j _ => gU_ne _ _ _ _ (by decide))).1 x2 t1) (by decide), MS_f1 2⟩
  have hbad : ∀ J : gI, ((if (-1000001 : Int32) = 0 then (if (J 5 0) = 0 then some ((-1000001 : Int32), J) else some ((-1000001 : Int32), J)) else some ((-1000001 : Int32), J)) : Option (Int32 × gI)) = some ((-1000001 : Int32), J) := fun J => if_neg (by decide)
  rcases hh with ⟨j, J, j1, j2, j3, j4, j5⟩ | ⟨vv, J, y1, y2, y3, y4⟩
  · obtain ⟨J2, q1, q2⟩ := ((hMd J (fun q hq => j5 q (by omega)) (fun o _ => by rw [j5 91 (by decide)])).2 i hi).1 j j1 (by rw [gU_ne _ _ _ _ (by decide), j5 100 (by decide)]; exact j2) (fun l hl => by rw [gU_ne _ _ _ _ (by decide), j5 100 (by decide)]; exact j3 l hl)
    exact ⟨-1000001, J, _, I 0 7, hC2 _ _ j4 (by dsimp only; rw [hbad, Option.bind_some, if_neg (show ¬ ((-1000001 : Int32)) = 0 by decide)]), CS_5 hR hIV j5, hMb _ _ _ hx q1 (by decide), MS_q (by rw [j5 91 (by decide)]; exact b9.symm) (fun q hq => q2 q (by omega))⟩
  have h50 : J 5 0 = nI (co (vv 0)) := y4 0 (by omega)
  have hlook : ∀ (J1 : gI), (∀ q, 91 ≤ q → q < 114 → J1 q = I q) → _ := fun J1 hJ => ((hMd J1 (fun q hq => hJ q (by omega) (by omega)) (fun o _ => by rw [hJ 91 (by omega) (by omega)])).2 i hi).2 vv (fun o ho => by rw [gU_ne _ _ _ _ (by decide), hJ 100 (by omega) (by omega)]; exact y1 o ho)
  by_cases hz : nI (co (vv 0)) = 0 ∨ nI (co (vv m)) = 0
  · have ha : (if nI (co (vv 0)) = 0 then (-1000001 : Int32) else if nI (co (vv m)) = 0 then -1000001 else 0) = -1000001 := by
      by_cases z0 : nI (co (vv 0)) = 0
      · rw [if_pos z0]
      · rw [if_neg z0, if_pos (hz.resolve_left z0)]
    obtain ⟨W, q1, q2, q3⟩ := hlook J (fun q _ _ => y3 q (by omega))
    rw [ha] at q3
    refine ⟨-1000001, J, _, I 0 7, hC2 _ _ y2 ?_, CS_5 hR hIV y3, hMb _ _ _ hx q3 (by decide), MS_q (by rw [y3 91 (by decide)]; exact b9.symm) (fun q hq => q1 q (by omega))⟩
    have hA : (if (if nI (co (vv m)) = 0 then (-1000001 : Int32) else 0) = 0 then (if J 5 0 = 0 then some ((-1000001 : Int32), J) else some (if nI (co (vv m)) = 0 then (-1000001 : Int32) else 0, J)) else some (if nI (co (vv m)) = 0 then (-1000001 : Int32) else 0, J)) = some ((-1000001 : Int32), J) := by
      by_cases zm : nI (co (vv m)) = 0
      · simp only [if_pos zm]; exact if_neg (by decide)
      · simp only [if_neg zm]; rw [if_pos trivial]; exact if_pos (by rw [h50]; exact hz.resolve_right zm)
    dsimp only
    rw [hA, Option.bind_some, if_neg (show ¬ ((-1000001 : Int32)) = 0 by decide)]
  have hz0 : ¬ nI (co (vv 0)) = 0 := fun z => hz (.inl z)
  have hzm : ¬ nI (co (vv m)) = 0 := fun z => hz (.inr z)
  rw [if_neg hzm] at y2
  obtain ⟨u, hu⟩ : ∃ u : Nat → K, u = fun j => if j ≤ m then vv j else 0 := ⟨_, rfl⟩
  have huj : ∀ j, j ≤ m → u j = vv j := fun j hj => by rw [hu]; exact if_pos hj
  have hu0 : ∀ j, m < j → u j = 0 := fun j hj => by rw [hu]; exact if_neg (by omega)
  have hum : u m ≠ 0 := fun z => hzm ((co_z hR _).mpr (by rw [← huj m (Nat.le_refl m)]; exact z))
  have huu : ∀ j, u j = if j ≤ m then vv j else 0 := fun j => by rw [hu]
  obtain ⟨Y, hY⟩ := bk_Y (l := m) hR hVr m1 hum hu0
  have hlay55 : ∀ q, 5 ≤ q → q < 56 → S[q]? = layS[q]? := fun q h1 h2 => b1.1 q (by omega) (by omega)
  have hCJ : CST p n X co J R S := CST_q hR b6 (fun q hq => y3 q (by omega))
  have hFJ : FH p n X co J := FH_of b4 hR.2.2.1 (fun q h1 h2 => y3 q (by omega))
  have hWJ : CW co J R S a r t := CW_of e2.2.1 (fun q hq => y3 q (by omega))
  obtain ⟨Jl, d1, d2, d3, d4, d5⟩ := s_wayBack (N := N) (I := J) (R := R) (S := S) (u := u) (l := m) (Y := Y) hR hFJ hWJ hVr hCJ.2.2.2.2.1 hCJ.1 hCJ.2.1 hlay55 (by have := e2.1; omega) e2.1 m1 m2 hum hu0 (fun j hj => by rw [y4 j hj, huj j hj]) hY (by omega)
  have hCl : CST p n X co Jl R S := CST_B hR hCJ d1 d3 (d2 2 (by decide) (by decide)) d4
  have hJl : ∀ q, q ≠ 5 → ¬ (17 ≤ q ∧ q ≤ 55) → Jl q = I q := fun q h1 h2 => by rw [d1 q h2, y3 q h1]
  have hCS := CS_st (I := I) (J := Jl) (R := R) (S := S) hR (fun q hq => hJl q (by omega) (by omega)) hCl 0
  have hnz : (if (0 : Int32) = 0 then (if (J 5 0) = 0 then some ((-1000001 : Int32), J) else some ((0 : Int32), J)) else some ((0 : Int32), J)) = some ((0 : Int32), J) := by
    rw [if_pos rfl, h50, if_neg hz0]
  obtain ⟨J1, hJ1⟩ : ∃ J1, J1 = gU Jl 0 7 (0 : Int32) := ⟨_, rfl⟩
  have hJ1q : ∀ q, 91 ≤ q → q < 114 → J1 q = I q := fun q h1 h2 => by rw [hJ1, gU_cell _ _ _ (by omega), hJl q (by omega) (by omega)]
  obtain ⟨H, q1, q2, q3⟩ := hlook J1 hJ1q
  rw [if_neg hz0, if_neg hzm] at q3
  have hHn : ∀ q, q ≠ 91 → q ≠ 108 → H q = J1 q := fun q h1 h2 => by rw [q1 q h2, gU_cell _ _ _ h1]
  have hH91 : ∀ j, j ≠ 0 → H 91 j = J1 91 j := fun j hj => by rw [q1 91 (by decide), gU_slot _ _ _ hj]
  obtain ⟨g1, g2⟩ := m_back (N := N) (I := J1) (H := H) (R := R) (S := S) (u := u) (Y := Y) (r := r) (t := t) hR hx q3 (MH_of b5 (fun j hj _ => by rw [hH91 j (by omega), hJ1q 91 (by omega) (by omega)]) (by rw [hHn 96 (by decide) (by decide), hJ1q 96 (by omega) (by omega)]) (by rw [hHn 97 (by decide) (by decide), hJ1q 97 (by omega) (by omega)])) v1 (MW_of e3 (by rw [hHn 101 (by decide) (by decide), hJ1q 101 (by omega) (by omega)]) (by rw [hHn 102 (by decide) (by decide), hJ1q 102 (by omega) (by omega)])) hVr (fun q h1 h2 => b1.1 q (by omega) (by omega)) (fun j hj => by rw [q2 j hj, huu]) m1 m2 hum hu0 hY hN
  have hMS : ∀ J2, Fs lK (gU H 91 1 (0 : Int32)) J2 → MS J1 J2 0 := fun J2 hf => by
    have hf2 : ∀ q, ¬ (q = 92 ∨ q = 95 ∨ q = 103 ∨ q = 104 ∨ q = 105 ∨ q = 112) → J2 q = gU H 91 1 (0 : Int32) q := fun q hq => hf q (by unfold lK; simp only [List.mem_cons, List.mem_nil_iff, or_false]; omega)
    exact ⟨fun q hq => by rw [hf2 q (by omega), gU_cell _ _ _ (by omega), hHn q (by omega) (by omega)], fun j hj => by rw [hf2 91 (by omega), gU_slot _ _ _ (by omega), hH91 j (by omega)], by rw [hf2 91 (by omega), gU_at]⟩
  rw [← hJ1] at hCS
  rcases d5 with ⟨kk, c, q, rm, k1, k2, k3, k4, k5, k6⟩ | ⟨k4, k5⟩
  · obtain ⟨t1, t2⟩ := bk_top hR hVr hum hu0 hY k1 k2 k3 k6
    have hp := RO_p hR
    have hrk : r * kk ≤ 12 := Nat.mul_le_mul h3r k2
    obtain ⟨J2, z1, z2⟩ := g1 kk c q rm (r * kk + 1 - m) k1 k2 k3 (Dv_mono k6 (by omega)) (by omega) (fun j h1 h2 => k6.2.2 j h1) (fun _ => by rw [show r * kk + 1 - m - 1 = r * kk - m by omega]; exact t2)
    have h31 := rel_31 (f := kk) hp.2 (by omega) k3.1
    have hLn := Ln_own (d := kk) hp.1 k3.1
    have hcp := Nat.pow_pos (n := kk) (show 0 < p by omega)
    obtain ⟨cod, hcod⟩ : ∃ cod, cod = enc p kk c + p ^ kk := ⟨_, rfl⟩
    rw [← hcod] at z1 h31 hLn k4 k6
    refine ⟨_, J1, J2, 0, hC2 _ _ y2 ?_, hCS, z1, hMS J2 z2⟩
    have hc0 : ¬ nI cod = 0 := fun z => by
      have := (nI_eq (b := 0) h31 (by omega)).mp z
      omega
    have hFl : FH p n X co Jl := FH_of b4 hR.2.2.1 (fun q h1 h2 => hJl q (by omega) (by omega))
    have hWl : CW co Jl R S a r t := CW_of e2.2.1 (fun q hq => hJl q (by omega) (by omega))
    have hlen := s_lengthOf (N := N) hR hFl hWl h31 hLn (by omega) h3r (by omega)
    rw [if_neg (by omega), Nat.add_sub_cancel] at hlen
    dsimp only
    rw [hnz, Option.bind_some, if_pos rfl, k4, Option.bind_some, if_neg hc0]
    dsimp only
    unfold ansB
    by_cases w2 : x4 = -2
    · rw [if_pos w2, if_pos w2, hJ1]; rfl
    · rw [if_neg w2, if_neg w2, hlen, Option.bind_some]
      by_cases w1 : x4 = -1
      · rw [if_pos w1, if_pos w1, pk_sub t1, dn1 _ (by omega), show r * kk + 1 - m - 1 = r * kk - m by omega, hJ1]; rfl
      · rw [if_neg w1, if_neg w1, pk_sub t1]
        have hx0 : ¬ x4 < 0 := fun z => by
          have e2 : (-2 : Int32).toInt = -2 := rfl
          have e1 : (-1 : Int32).toInt = -1 := rfl
          have e0 : (0 : Int32).toInt = 0 := rfl
          rw [Int32.le_iff_toInt_le] at hx
          rw [Int32.lt_iff_toInt_lt] at z
          have : x4.toInt = -2 ∨ x4.toInt = -1 := by omega
          rcases this with y | y
          · exact w2 (Int32.toInt_inj.mp (y.trans e2.symm))
          · exact w1 (Int32.toInt_inj.mp (y.trans e1.symm))
        obtain ⟨o, o1, rfl⟩ := nI_of (x := x4) hx0
        rw [show (23 : Int32) = nI 23 from rfl, nI_clamp o1]
        by_cases w3 : o ≤ r * kk - m
        · rw [gle_t w3 (by omega), gin2 (by omega) (by omega), Option.bind_some, k5 o (by omega), gle_t (by omega) (by omega), hJ1]; rfl
        · rw [gle_f (by omega) o1, Option.bind_some]
          have hq0 : (if nI o ≤ nI 23 then nI (co (q o)) else 0) = 0 := by
            rw [k6.2.2 o (by omega), RO_0 hR]
            by_cases w4 : nI o ≤ nI 23
            · rw [if_pos w4]; rfl
            · rw [if_neg w4]
          rw [hq0, hJ1]; rfl
  · obtain ⟨J2, z1, z2⟩ := g2 k5
    refine ⟨-1000000, J1, J2, 0, hC2 _ _ y2 ?_, hCS, z1, hMS J2 z2⟩
    dsimp only
    rw [hnz, Option.bind_some, if_pos rfl, k4, Option.bind_some, if_pos rfl, hJ1]; rfl
end StBack
