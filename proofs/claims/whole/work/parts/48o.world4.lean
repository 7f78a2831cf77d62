/-! world, done -/
section World4
theorem cp_new {I : gI} {b a m : Nat} (hab : a ≠ b) : (∀ j, j < m → gCopy (gZ I b) a b 0 0 m b j = I a j) ∧ (∀ j, m ≤ j → gCopy (gZ I b) a b 0 0 m b j = 0) ∧ ∀ q, q ≠ b → gCopy (gZ I b) a b 0 0 m q = I q := by
  refine ⟨fun j hj => ?_, fun j hj => ?_, fun q hq => by rw [gCopy_cell _ _ _ _ _ hq, gZ_ne hq]⟩
  · rw [gCopy_row, pk_cpy_in (by omega) (by omega), gZ_ne hab, Nat.zero_add, Nat.sub_zero]
  · rw [gCopy_row, pk_cpy_out (by omega), gZ_at]
theorem st_world {K : Type} [Lean.Grind.CommRing K] {p n : Nat} {X : K} {co : K → Nat} {k N : Nat} {I : gI} {R : gR} {S : gS} (hR : RO K p n X co) (h : IV p n X co k I R S) (hk : k < 512) (hN : 16000 ≤ N) (x0 x1 x2 x3 : Int32) : ∃ J P T, k_world N I R S x0 x1 x2 x3 = some (J, P, T) ∧ IV p n X co (k + 1) J P T := by
  have hIV := h
  obtain ⟨b1, b2, b3, b4, b5, b6, b7, b8, b9, b10⟩ := h
  unfold k_world
  refine kw_fin (m := fun J P T => f_X12_world N J P T x0 x1 x2 x3) ?_
  rcases isP2 (N := N) (R := R) (S := S) x0 with hp | ⟨w, w1, rfl, hp⟩
  · refine kw_cs hR hIV (-1000001) _ I _ ?_ (CS_I hIV) ?_ (MS_bad b9.symm)
    · unfold f_X11_world; rw [(hp I I).1, Option.bind_some, if_pos rfl]
    · unfold f_X12_world; rw [(hp I _).2, Option.bind_some, if_pos rfl]
  rcases isR2 (N := N) (R := R) (S := S) x1 with hr | ⟨s, s1, rfl, hr⟩
  · refine kw_cs hR hIV (-1000001) _ I _ ?_ (CS_I hIV) ?_ (MS_bad b9.symm)
    · unfold f_X11_world; rw [(hp I I).1, Option.bind_some, if_neg (by decide), (hr I I).1, Option.bind_some, if_pos rfl]
    · unfold f_X12_world; rw [(hp I _).2, Option.bind_some, if_neg (by decide), (hr I _).2, Option.bind_some, if_pos rfl]
  rcases in1 (N := N) (R := R) (S := S) 3 (by omega) x3 with ⟨i1, i2⟩ | ⟨m, m1, m2, rfl, m3, m4, hm⟩
  · refine kw_cs hR hIV (-1000001) _ I _ ?_ (CS_I hIV) ?_ (MS_bad b9.symm)
    · unfold f_X11_world; rw [(hp I I).1, Option.bind_some, if_neg (by decide), (hr I I).1, Option.bind_some, if_neg (by decide)]
      rcases i1 with i1 | i1
      · rw [if_pos i1]
      · by_cases z : x3 < 1
        · rw [if_pos z]
        · rw [if_neg z, if_neg (show ¬ x3 ≤ (3 : Int32) from i1)]
    · unfold f_X12_world; rw [(hp I _).2, Option.bind_some, if_neg (by decide), (hr I _).2, Option.bind_some, if_neg (by decide)]
      rw [show f_X12_in N (gU I 91 0 (0 : Int32)) R S x3.toInt64 (1 : Int64) (3 : Int64) = some 0 from i2 _, Option.bind_some, if_pos rfl]
  have hC : ∀ z3 y, f_X11_take N I R S (nI s) x2 (nI m) = some z3 → (if z3.1 = 0 then if gAr (S ++ [(12, 4)]) S.length = false then none else if ((0 : Int32) < 0 ∨ (0 : Int32) < 0 ∨ (nI m + (1 : Int32)) < 0) ∨ 5 < (0 : Int32).toNatClampNeg + (nI m + (1 : Int32)).toNatClampNeg ∨ (gLn (S ++ [(12, 4)]) S.length) < (0 : Int32).toNatClampNeg + (nI m + (1 : Int32)).toNatClampNeg then none else ((f_X8_worldOf N (gCopy (gZ z3.2 S.length) 5 S.length (0 : Int32).toNatClampNeg (0 : Int32).toNatClampNeg (nI m + (1 : Int32)).toNatClampNeg) R (S ++ [(12, 4)]) S.length (nI m)).bind (fun z5 => if gLayb 0 91 z5.2.2.1 z5.2.2.2 = true then ((f_X11_shelve N z5.2.1 z5.2.2.1 z5.2.2.2 (nI w) z5.1).bind (fun z6 => some (z6.1, z6.2.1, z6.2.2.1, z6.2.2.2))) else none)) else some (z3.1, z3.2, R, S)) = y → f_X11_world N I R S (nI w) (nI s) x2 (nI m) = y := by
    intro z3 y hz hy
    unfold f_X11_world; rw [(hp I I).1, Option.bind_some, if_neg (by decide), (hr I I).1, Option.bind_some, if_neg (by decide), if_neg m3, if_pos (show nI m ≤ (3 : Int32) from m4), hz, Option.bind_some]; exact hy
  have hP : ∀ (J : gI) (P : gR) (T : gS), f_X12_isPlace N (gU J 91 0 (0 : Int32)) P T (nI w) = some 1 ∧ f_X12_isRow N (gU J 91 0 (0 : Int32)) P T (nI s) = some 1 ∧ f_X12_in N (gU J 91 0 (0 : Int32)) P T (nI m).toInt64 (1 : Int64) (3 : Int64) = some 1 := fun J P T => ⟨(hp J (gU J 91 0 (0 : Int32))).2, (hr J (gU J 91 0 (0 : Int32))).2, hm (gU J 91 0 (0 : Int32))⟩
  rcases s_take (N := N) hR hIV (by omega) s1 (show m ≤ 4 by omega) x2 with ⟨t1, t2⟩ | ⟨la, sz, l1, l2, l3, l4, hh⟩
  · refine kw_cs hR hIV ((-1000010 : Int32) - 1) _ (gU I 0 7 1) _ (hC _ _ t2 (if_neg (show ¬ ((-1000010 : Int32) - 1) = 0 by decide))) (CS_f hR hIV 1) ?_ (MS_f1 1)
    obtain ⟨c1, c2, c3⟩ := hP (gU I 0 7 1) R S
    unfold f_X12_world
    rw [c1, Option.bind_some, if_neg (by decide), c2, Option.bind_some, if_neg (by decide), c3, Option.bind_some, if_neg (by decide), nI_clamp (by omega), gin2 (by omega) (by omega), if_neg (by rw [gU_ne _ _ _ _ (by decide), gU_ne _ _ _ _ (by decide), t1]; decide)]; rfl
  have hMd : ∀ (J : gI) (P : gR) (T : gS), (∀ q, q = 96 ∨ q = 97 ∨ q = 98 ∨ q = 99 → J q = I q) → (∀ j, 2 ≤ j → J 91 j = I 91 j) → _ := fun J P T hJ h91 => m_world (N := N) (w := w) (T := T) (P := P) (MH_of b5 (fun j hj _ => h91 j hj) (hJ 96 (by omega)) (hJ 97 (by omega))) s1 m2 l1 l2 (by rw [hJ 98 (by omega)]; exact l3) (by rw [hJ 99 (by omega)]; exact l4) (hP J P T).1 (hP J P T).2.1 (hP J P T).2.2 (show 60 ≤ N by omega)
  rcases hh with ⟨t1, t2⟩ | ⟨i, rfl, hi, hh⟩
  · refine kw_cs hR hIV ((-1000010 : Int32) - 2) _ (gU I 0 7 2) _ (hC _ _ t2 (if_neg (show ¬ ((-1000010 : Int32) - 2) = 0 by decide))) (CS_f hR hIV 2) ((hMd (gU I 0 7 2) R S (fun q hq => gU_cell _ _ _ (by omega)) (fun j _ => gU_ne _ _ _ _ (by decide))).1 x2 t1) (MS_f1 2)
  rcases hh with ⟨j, J, j1, j2, j3, j4, j5⟩ | ⟨v, J, v1, v2, v3, v4⟩
  · obtain ⟨J2, y1, y2⟩ := ((hMd J R S (fun q hq => j5 q (by omega)) (fun o _ => by rw [j5 91 (by decide)])).2 i hi).1 j j1 (by rw [j5 100 (by decide)]; exact j2) (fun l hl => by rw [j5 100 (by decide)]; exact j3 l hl)
    exact kw_cs hR hIV (-1000001) _ J _ (hC _ _ j4 (if_neg (show ¬ ((-1000001 : Int32)) = 0 by decide))) (CS_5 hR hIV j5) y1 (MS_q (by rw [j5 91 (by decide)]; exact b9.symm) (fun q hq => y2 q (by omega)))
  by_cases hz : nI (co (v m)) = 0
  · rw [if_pos hz] at v2
    obtain ⟨W, y1, y2, y3⟩ := ((hMd J R S (fun q hq => v3 q (by omega)) (fun o _ => by rw [v3 91 (by decide)])).2 i hi).2 v (fun o ho => by rw [v3 100 (by decide)]; exact v1 o ho)
    rw [if_pos hz] at y3
    exact kw_cs hR hIV (-1000001) _ J _ (hC _ _ v2 (if_neg (show ¬ ((-1000001 : Int32)) = 0 by decide))) (CS_5 hR hIV v3) y3 (MS_q (by rw [v3 91 (by decide)]; exact b9.symm) (fun q hq => y1 q (by omega)))
  rw [if_neg hz] at v2
  obtain ⟨t, hT⟩ : ∃ t : Nat → K, t = fun j => if j ≤ m then v j else 0 := ⟨_, rfl⟩
  have htj : ∀ j, j ≤ m → t j = v j := fun j hj => by rw [hT]; exact if_pos hj
  have htz : ∀ j, m < j → t j = 0 := fun j hj => by rw [hT]; exact if_neg (by omega)
  have hV : WV m t := ⟨m1, m2, fun z => hz ((co_z hR _).mpr (by rw [← htj m (Nat.le_refl m)]; exact z)), htz⟩
  obtain ⟨p1, p2, p3⟩ := cp_new (I := J) (b := S.length) (a := 5) (m := m + 1) (by omega)
  obtain ⟨I1, hI1⟩ : ∃ I1, I1 = gCopy (gZ J S.length) 5 S.length 0 0 (m + 1) := ⟨_, rfl⟩
  rw [← hI1] at p1 p2 p3
  have hE0 : Ex R R S (S ++ [(12, 4)]) := ⟨fun _ _ => rfl, fun q hq => by rw [List.getElem?_append_left hq], by simp⟩
  have hIq : ∀ q, q < S.length → q ≠ 5 → I1 q = I q := fun q h1 h2 => by rw [p3 q (by omega), v3 q h2]
  obtain ⟨a, Jw, P, T, vv, J1, f1, f2, f3, f4, f5⟩ := lay_fin (N := N) (I1 := I1) (t := t) hR hIV hk (by omega) w1 hV (fun j hj => by
    by_cases e : j ≤ m
    · rw [p1 j (by omega), v4 j e, htj j e]
    · rw [p2 j (by omega), htz j (by omega), RO_0 hR]; rfl) (CST_ex hR b6 hE0 b2 (fun q h1 h2 => hIq q h1 (by omega))) (fun q h1 h2 => hIq q h1 (by omega))
  have hJ1 : ∀ q, q < 114 → ¬ (q = 0 ∨ q = 5 ∨ (17 ≤ q ∧ q ≤ 74)) → J1 q = I q := fun q h1 h2 => f4 q (by omega) h2
  obtain ⟨W, y1, y2, y3⟩ := ((hMd J1 (gU P 2 w (some a)) T (fun q hq => hJ1 q (by omega) (by omega)) (fun o _ => by rw [hJ1 91 (by omega) (by omega)])).2 i hi).2 v (fun o ho => by rw [hJ1 100 (by omega) (by omega)]; exact v1 o ho)
  rw [if_neg hz] at y3
  obtain ⟨J2, g1, g2⟩ := f5 W (fun q hq => by rw [y1 q (by omega), gU_cell _ _ _ (by omega)]) (fun j hj => by rw [y1 91 (by decide), gU_slot _ _ _ (by omega)]) (fun j hj => by rw [y2 j hj, htj j hj])
  refine ⟨vv, J1, gU P 2 w (some a), T, J2, hC _ _ v2 ?_, y3.trans g1, g2⟩
  have e12 : (S ++ [((12, 4) : Nat × Nat)])[S.length]? = some (12, 4) := gS_last rfl
  rw [if_pos rfl, if_neg (by unfold gAr; rw [e12]; decide), nI_1, nI_clamp (by omega), gLn_of e12, show (0 : Int32).toNatClampNeg = 0 from rfl, if_neg (by
    rintro ((z | z | z) | z | z)
    · exact absurd z (by decide)
    · exact absurd z (by decide)
    · exact nI_pos (by omega) z
    · omega
    · omega), ← hI1, f1, Option.bind_some]
  dsimp only
  rw [if_pos f2, f3, Option.bind_some]
end World4
