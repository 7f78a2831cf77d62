/-! turn, done -/
section Turn2
theorem m_turnL {K : Type} [Lean.Grind.CommRing K] {p n : Nat} {X : K} {co : K → Nat} {H : gI} {P : gR} {T : gS} {N v r : Nat} {t : Nat → K} (hR : RO K p n X co) (hM : MH p n X co H) (hv : v < 10) (hW : MW co H v r t) (hr : r ≤ 3) (c : K) (hN : 60 ≤ N) {K2 : gI → Option (Int32 × gI)} :
    (iter (σ := Int32 × gI) (ρ := gI) (fun z4 => if nI v < 0 ∨ 10 ≤ (nI v).toNatClampNeg then none else (if (z4.2 101 (nI v).toNatClampNeg) < z4.1 then some (.inr z4.2) else ((f_X12_turned N z4.2 P T (nI v) z4.1 (nI (co c))).bind (fun z6 => if z4.1 < 0 ∨ 4 ≤ z4.1.toNatClampNeg then none else some (.inl (z4.1 + 1, gU z4.2 107 z4.1.toNatClampNeg z6)))))) N ((0 : Int32), H)).bind K2 = K2 (Wd H 107 0 (r + 1) (fun j => nI (co (t j * c ^ (p ^ j - 1))))) := by
  obtain ⟨g, hg⟩ : ∃ g : Nat → Int32, g = fun j => nI (co (t j * c ^ (p ^ j - 1))) := ⟨_, rfl⟩
  rw [← hg]
  have hup : ∀ z, gU (Wd H 107 0 z g) 107 z (g z) = Wd H 107 0 (z + 1) g := fun z => by
    have := Wd_up (I := H) (q := 107) (s := 0) (i := z) (F := g)
    rw [Nat.zero_add] at this; exact this
  have hMz : ∀ z, MH p n X co (Wd H 107 0 z g) := fun z => MH_of hM (fun j _ _ => Wd_ne _ (by decide)) (Wd_row (by decide)) (Wd_row (by decide))
  have hWz : ∀ z, MW co (Wd H 107 0 z g) v r t := fun z => MW_of hW (Wd_row (by decide)) (Wd_row (by decide))
  have e101 : ∀ z, Wd H 107 0 z g 101 v = nI r := fun z => (hWz z).1
  refine iter_bind (fun j => (nI j, Wd H 107 0 j g)) (r + 1) (Wd H 107 0 (r + 1) g) (by rw [nI_0, Wd_0]) ?_ ?_ (by omega) rfl
  · intro j hj
    dsimp only
    have eg : nI (co (t j * c ^ (p ^ j - 1))) = g j := by rw [hg]
    rw [nI_clamp (by omega), gin2 (by omega) (by omega), if_neg (by rw [e101]; exact nI_nlt (by omega) (by omega)), m_turned hR (hMz j) hv (hWz j) (by omega) c hN, Option.bind_some, nI_clamp (by omega), gin2 (by omega) (by omega), eg, hup, nI_1]
  · dsimp only
    rw [nI_clamp (by omega), gin2 (by omega) (by omega), if_pos (by rw [e101]; exact nI_lt (by omega) (by omega))]
theorem st_turn {K : Type} [Lean.Grind.CommRing K] {p n : Nat} {X : K} {co : K → Nat} {k N : Nat} {I : gI} {R : gR} {S : gS} (hR : RO K p n X co) (h : IV p n X co k I R S) (hk : k < 512) (hN : 16000 ≤ N) (x0 x1 x2 : Int32) : ∃ J P T, k_turn N I R S x0 x1 x2 = some (J, P, T) ∧ IV p n X co (k + 1) J P T := by
  have hIV := h
  obtain ⟨b1, b2, b3, b4, b5, b6, b7, b8, b9, b10⟩ := h
  have hq := RO_q hR
  unfold k_turn
  refine kw_fin (m := fun J P T => f_X12_turn N J P T x0 x1 x2) ?_
  rcases isP2 (N := N) (R := R) (S := S) x0 with hp | ⟨w, w1, rfl, hp⟩
  · refine kw_cs hR hIV (-1000001) _ I _ ?_ (CS_I hIV) ?_ (MS_bad b9.symm)
    · unfold f_X11_turn; rw [(hp I I).1, Option.bind_some, if_pos rfl]
    · unfold f_X12_turn; rw [(hp I _).2, Option.bind_some, if_pos rfl]
  rcases isP2 (N := N) (R := R) (S := S) x1 with hr | ⟨v, v1, rfl, hr⟩
  · refine kw_cs hR hIV (-1000001) _ I _ ?_ (CS_I hIV) ?_ (MS_bad b9.symm)
    · unfold f_X11_turn; rw [(hp I I).1, Option.bind_some, if_neg (by decide), (hr I I).1, Option.bind_some, if_pos rfl]
    · unfold f_X12_turn; rw [(hp I _).2, Option.bind_some, if_neg (by decide), (hr I _).2, Option.bind_some, if_pos rfl]
  have hin : ∀ (J : gI) (P : gR) (T : gS), J 91 4 = nI (p ^ n) → f_X12_in N (gU J 91 0 (0 : Int32)) P T x2.toInt64 (1 : Int64) ((((gU J 91 0 (0 : Int32)) 91 4) - (1 : Int32)).toInt64) = f_X12_in N I R S x2.toInt64 (1 : Int64) (nI (p ^ n - 1)).toInt64 := fun J P T hJ => by
    rw [gU_slot _ _ _ (by decide), hJ, dn1 _ (by omega)]; rfl
  have h91 : I 91 4 = nI (p ^ n) := b5.2.2.1
  have e0 : (0 : Int32).toInt = 0 := rfl
  have e1 : (1 : Int32).toInt = 1 := rfl
  have eq1 : (nI (p ^ n - 1)).toInt = ((p ^ n - 1 : Nat) : Int) := nI_toInt (by omega)
  have eq2 : (nI (p ^ n)).toInt = ((p ^ n : Nat) : Int) := nI_toInt (by omega)
  rcases in1 (N := N) (R := R) (S := S) (p ^ n - 1) (by omega) x2 with ⟨i1, i2⟩ | ⟨m, m1, m2, rfl, m3, m4, hm⟩
  · refine kw_cs hR hIV (-1000001) _ I _ ?_ (CS_I hIV) ?_ (MS_bad b9.symm)
    · unfold f_X11_turn; rw [(hp I I).1, Option.bind_some, if_neg (by decide), (hr I I).1, Option.bind_some, if_neg (by decide)]
      by_cases z : x2 = 0
      · rw [if_pos z]
      · rw [if_neg z]
        rcases isE2 (N := N) (R := R) (S := S) hR x2 with hs | ⟨a, rfl, hs⟩
        · rw [(hs I I b4.2.1 h91).1, Option.bind_some, if_pos rfl]
        · exfalso
          have hl := RO_lt hR a
          have h0 : co a ≠ 0 := fun y => z (by rw [y]; rfl)
          have ea : (nI (co a)).toInt = ((co a : Nat) : Int) := nI_toInt (by omega)
          rcases i1 with i1 | i1
          · rw [Int32.lt_iff_toInt_lt] at i1; omega
          · rw [Int32.le_iff_toInt_le] at i1; omega
    · unfold f_X12_turn; rw [(hp I _).2, Option.bind_some, if_neg (by decide), (hr I _).2, Option.bind_some, if_neg (by decide), hin I R S h91, i2, Option.bind_some, if_pos rfl]
  obtain ⟨c, hc⟩ : ∃ c : K, nI m = nI (co c) ∧ ∀ I J : gI, I 6 2 = nI (p ^ n) → J 91 4 = nI (p ^ n) → f_X2_has N I R S (nI m) = some 1 ∧ f_X12_isElement N J R S (nI m) = some 1 := by
    rcases isE2 (N := N) (R := R) (S := S) hR (nI m) with hs | ⟨a, e, hs⟩
    · exfalso
      have em : (nI m).toInt = ((m : Nat) : Int) := nI_toInt (by omega)
      rcases (hs I I b4.2.1 h91).2.2 with y | y
      · rw [Int32.lt_iff_toInt_lt] at y; omega
      · rw [Int32.le_iff_toInt_le] at y; omega
    · exact ⟨a, e, hs⟩
  have hz0 : ¬ nI m = 0 := fun z => by
    have em : (nI m).toInt = ((m : Nat) : Int) := nI_toInt (by omega)
    rw [z] at em; omega
  have hc0 : c ≠ 0 := fun z => hz0 (by rw [hc.1]; exact (co_z hR c).mpr z)
  have hhas := (hc.2 I I b4.2.1 h91).1
  have hM : ∀ (J : gI) (P : gR) (T : gS) y, J 91 4 = nI (p ^ n) → (if ((gU J 91 0 (0 : Int32)) 101 v) = 0 then ((f_X12_found N (gU J 91 0 (0 : Int32)) P T (1 : Int32)).bind (fun z8 => some (z8.1, z8.2))) else ((iter (σ := Int32 × gI) (ρ := gI) (fun z4 => if nI v < 0 ∨ 10 ≤ (nI v).toNatClampNeg then none else (if (z4.2 101 (nI v).toNatClampNeg) < z4.1 then some (.inr z4.2) else ((f_X12_turned N z4.2 P T (nI v) z4.1 (nI m)).bind (fun z6 => if z4.1 < 0 ∨ 4 ≤ z4.1.toNatClampNeg then none else some (.inl (z4.1 + 1, gU z4.2 107 z4.1.toNatClampNeg z6)))))) N ((0 : Int32), gU J 91 0 (0 : Int32))).bind (fun r5 => if nI v < 0 ∨ 10 ≤ (nI v).toNatClampNeg then none else ((f_X12_lay N r5 P T (nI w) (r5 101 (nI v).toNatClampNeg)).bind (fun z7 => some (z7.1, z7.2)))))) = y → f_X12_turn N J P T (nI w) (nI v) (nI m) = y := by
    intro J P T y hJ hy
    unfold f_X12_turn
    rw [show f_X12_isPlace N (gU J 91 0 (0 : Int32)) P T (nI w) = some 1 from (hp J (gU J 91 0 (0 : Int32))).2, Option.bind_some, if_neg (by decide), show f_X12_isPlace N (gU J 91 0 (0 : Int32)) P T (nI v) = some 1 from (hr J (gU J 91 0 (0 : Int32))).2, Option.bind_some, if_neg (by decide), hin J P T hJ, hm, Option.bind_some, if_neg (by decide), if_neg (show ¬ (nI v < 0 ∨ 10 ≤ (nI v).toNatClampNeg) by rw [nI_clamp (by omega)]; rintro (z | z); exact nI_pos (by omega) z; omega), ← hy, nI_clamp (by omega)]
  have hC : ∀ y, (match R 2 v with | none => ((f_X11_found N I R S (1 : Int32)).bind (fun z5 => some (z5.1, z5.2, R, S))) | some w4 => if gWb R S w4 = true then ((f_X8_turned N I R S w4 (nI m)).bind (fun z6 => if gWb z6.2.2.1 z6.2.2.2 w4 = true then if gLayb 0 91 z6.2.2.1 z6.2.2.2 = true then ((f_X8_worldOf N z6.2.1 z6.2.2.1 z6.2.2.2 z6.1 (z6.2.1 w4 1)).bind (fun z8 => if gLayb 0 91 z8.2.2.1 z8.2.2.2 = true then ((f_X11_shelve N z8.2.1 z8.2.2.1 z8.2.2.2 (nI w) z8.1).bind (fun z10 => some (z10.1, z10.2.1, z10.2.2.1, z10.2.2.2))) else none)) else none else none)) else none) = y → f_X11_turn N I R S (nI w) (nI v) (nI m) = y := by
    intro y hy
    unfold f_X11_turn
    rw [(hp I I).1, Option.bind_some, if_neg (by decide), (hr I I).1, Option.bind_some, if_neg (by decide), if_neg hz0, hhas, Option.bind_some, if_neg (by decide), nI_clamp (n := v) (by omega), gin2 (by omega) (by omega)]
    exact hy
  rcases b8 v v1 with ⟨e1, e2⟩ | ⟨a, r, t, d, cc, f, e1, e2, e3⟩
  · refine kw_cs hR hIV ((-1000010 : Int32) - 1) _ (gU I 0 7 1) _ (hC _ (by rw [e1]; rfl)) (CS_f hR hIV 1) (hM _ R S _ (by rw [gU_ne _ _ _ _ (by decide)]; exact h91) ?_) (MS_f1 1)
    rw [if_pos (by rw [gU_ne _ _ _ _ (by decide), gU_ne _ _ _ _ (by decide)]; exact e2)]; rfl
  have hVr := e2.2.2.1
  have h1r := hVr.1
  have h3r := hVr.2.1
  obtain ⟨t2, ht2⟩ : ∃ t2 : Nat → K, t2 = fun j => t j * c ^ (p ^ j - 1) := ⟨_, rfl⟩
  have ht2j : ∀ j, t2 j = t j * c ^ (p ^ j - 1) := fun j => by rw [ht2]
  have hV : WV r t2 := ⟨h1r, h3r, by rw [ht2j]; exact mul_ne hR hVr.2.2.1 (frk_ne hR hc0 _), fun j hj => by rw [ht2j, hVr.2.2.2 j hj]; grind⟩
  have htu := s_turned (N := N) (I := I) (a := a) (t := t) hR b2 b4 e2.1 e2.2.1 h3r hc0 (by omega)
  rw [← hc.1] at htu
  obtain ⟨I1, hI1⟩ : ∃ I1, I1 = Wd (gZ I S.length) S.length 0 (r + 1) (fun j => nI (co (t j * c ^ (p ^ j - 1)))) := ⟨_, rfl⟩
  rw [← hI1] at htu
  have hIq : ∀ q, q < S.length → I1 q = I q := fun q h1 => by rw [hI1, Wd_row (by omega), gZ_ne (by omega)]
  have hE0 : Ex R R S (S ++ [(12, 4)]) := ⟨fun _ _ => rfl, fun q hq => by rw [List.getElem?_append_left hq], by simp⟩
  obtain ⟨a', Jw, P, T, vv, J1, f1, f2, f3, f4, f5⟩ := lay_fin (N := N) (I1 := I1) (t := t2) hR hIV hk (by omega) w1 hV (fun j hj => by
    by_cases e : j ≤ r
    · have := Wd_at (I := gZ I S.length) (q := S.length) (s := 0) (n := r + 1) (j := j) (F := fun j => nI (co (t j * c ^ (p ^ j - 1)))) (by omega)
      rw [Nat.zero_add] at this
      rw [hI1, this, ht2j]
    · rw [hI1, Wd_out (by omega), gZ_at, hV.2.2.2 j (by omega), RO_0 hR]; rfl) (CST_ex hR b6 hE0 b2 (fun q h1 h2 => hIq q h1)) (fun q h1 h2 => hIq q h1)
  have hJ1 : ∀ q, q < 114 → ¬ (q = 0 ∨ q = 5 ∨ (17 ≤ q ∧ q ≤ 74)) → J1 q = I q := fun q h1 h2 => f4 q (by omega) h2
  obtain ⟨H, hH⟩ : ∃ H, H = gU J1 91 0 (0 : Int32) := ⟨_, rfl⟩
  have hHn : ∀ q, q ≠ 91 → q < 114 → ¬ (q = 0 ∨ q = 5 ∨ (17 ≤ q ∧ q ≤ 74)) → H q = I q := fun q h1 h2 h3 => by rw [hH, gU_cell _ _ _ h1, hJ1 q h2 h3]
  have hMH : MH p n X co H := MH_of b5 (fun j hj _ => by rw [hH, gU_slot _ _ _ (by omega), hJ1 91 (by omega) (by omega)]) (hHn 96 (by omega) (by omega) (by omega)) (hHn 97 (by omega) (by omega) (by omega))
  have hMWH : MW co H v r t := MW_of e3 (hHn 101 (by omega) (by omega) (by omega)) (hHn 102 (by omega) (by omega) (by omega))
  obtain ⟨W, hW⟩ : ∃ W, W = Wd H 107 0 (r + 1) (fun j => nI (co (t j * c ^ (p ^ j - 1)))) := ⟨_, rfl⟩
  obtain ⟨J2, g1, g2⟩ := f5 W (fun q hq => by rw [hW, Wd_row (by omega), hH, gU_cell _ _ _ (by omega)]) (fun j hj => by rw [hW, Wd_ne _ (by decide), hH, gU_slot _ _ _ (by omega)]) (fun j hj => by
    have := Wd_at (I := H) (q := 107) (s := 0) (n := r + 1) (j := j) (F := fun j => nI (co (t j * c ^ (p ^ j - 1)))) (by omega)
    rw [Nat.zero_add] at this
    rw [hW, this, ht2j])
  refine ⟨vv, J1, gU P 2 w (some a'), T, J2, hC _ ?_, hM J1 _ _ _ (by rw [hJ1 91 (by omega) (by omega)]; exact h91) ?_, g2⟩
  · obtain ⟨y1, y2, y3⟩ := gWb_ex hE0 e2.1 e2.2.1.1
    rw [e1]
    dsimp only
    rw [if_pos e2.2.1.1, htu, Option.bind_some]
    dsimp only
    rw [if_pos y1, if_pos (gLayb_of ((gLay_ex b1 hE0 b2).sub (a1 := 0) (b1 := 91) (by omega) (by omega))), hIq a e2.1, e2.2.1.2.2.2.2, f1, Option.bind_some]
    dsimp only
    rw [if_pos f2, f3, Option.bind_some]
  · have hr0 : ¬ H 101 v = 0 := fun z => by
      have er : (nI r).toInt = ((r : Nat) : Int) := nI_toInt (by omega)
      rw [hMWH.1] at z
      rw [z] at er; omega
    rw [← hH, hc.1, if_neg hr0, m_turnL hR hMH v1 hMWH h3r c (by omega), ← hW]
    have e101 : W 101 v = nI r := by rw [hW, Wd_ne _ (by decide)]; exact hMWH.1
    rw [nI_clamp (by omega), gin2 (by omega) (by omega), e101, g1]; rfl
end Turn2
