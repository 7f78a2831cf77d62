/-! copy -/
section StCopy
theorem lsum {x y : Int32} {m : Nat} (hm : m < 1000) {i j : Nat} (hx : x = nI i) (hy : y = nI j) (hi : i < 2147483648) (hj : j < 2147483648) : lg_cmp (x.toInt64 + y.toInt64) ((nI m).toInt64) ≤ 0 ↔ i + j ≤ m := by
  rw [lg_cmp_le, hx, hy, nI_l hi, nI_l hj, nI_l (by omega), lN_add]
  exact pk_lLE (by omega) (by omega)
/-- both ways of moving items give the same -/
theorem m_move {N : Nat} {H : gI} {a b i j m : Nat} (ha : a < 8) (hb : b < 8) (hi : i + m ≤ 24) (hj : j + m ≤ 24) (hN : 60 ≤ N) {z8 : Int32} (hz : z8 = if i < j then 0 else 1) : (iter (σ := Int32 × gI) (ρ := gI) (fun z9 => (if nI m ≤ z9.1 then some (.inr z9.2) else (((if z8 = 0 then some ((nI m - (1 : Int32)) - z9.1) else some z9.1) : Option (Int32)).bind (fun z11 => if ((((24 : Int32) * nI a) + nI i) + z11) < 0 ∨ 192 ≤ ((((24 : Int32) * nI a) + nI i) + z11).toNatClampNeg then none else if ((((24 : Int32) * nI b) + nI j) + z11) < 0 ∨ 192 ≤ ((((24 : Int32) * nI b) + nI j) + z11).toNatClampNeg then none else some (.inl (z9.1 + 1, gU z9.2 100 ((((24 : Int32) * nI b) + nI j) + z11).toNatClampNeg (z9.2 100 ((((24 : Int32) * nI a) + nI i) + z11).toNatClampNeg))))))) N ((0 : Int32), H)) = some (Wd H 100 (24 * b + j) m (fun x => H 100 (24 * a + i + x))) := by
  rw [show (24 : Int32) = nI 24 from rfl]
  by_cases hij : i < j
  · rw [if_pos hij] at hz
    refine iter_cnt (fun x => (nI x, Wd H 100 (24 * b + j + (m - x)) x (fun y => H 100 (24 * a + i + (m - x) + y)))) m ?_ ?_ ?_ (by omega)
    · rw [nI_0, Wd_0]
    · intro x hx
      dsimp only
      rw [gle_f hx (by omega), if_pos hz, Option.bind_some, dn1 m (by omega), pk_sub (by omega), pk_mul, pk_mul, nI_add, nI_add, nI_add, nI_add, nI_clamp (by omega), nI_clamp (by omega), gin2 (by omega) (by omega), gin2 (by omega) (by omega), nI_1, Wd_out (by omega)]
      congr 3
      funext q y
      unfold gU Wd
      by_cases e : q = 100 ∧ y = 24 * b + j + (m - 1 - x)
      · rw [if_pos e, if_pos ⟨e.1, by omega, by omega⟩]
        congr 1; omega
      · rw [if_neg e]
        by_cases e2 : q = 100 ∧ 24 * b + j + (m - x) ≤ y ∧ y < 24 * b + j + (m - x) + x
        · rw [if_pos e2, if_pos ⟨e2.1, by omega, by omega⟩]
          obtain ⟨_, e4, e5⟩ := e2
          show H 100 (24 * a + i + (m - x) + (y - (24 * b + j + (m - x)))) = H 100 (24 * a + i + (m - (x + 1)) + (y - (24 * b + j + (m - (x + 1)))))
          have e6 : 24 * a + i + (m - x) + (y - (24 * b + j + (m - x))) = 24 * a + i + (m - (x + 1)) + (y - (24 * b + j + (m - (x + 1)))) := by omega
          rw [e6]
        · rw [if_neg e2, if_neg (fun z => by
            by_cases e3 : y = 24 * b + j + (m - 1 - x)
            · exact e ⟨z.1, e3⟩
            · exact e2 ⟨z.1, by omega, by omega⟩)]
    · dsimp only
      rw [gle_t (Nat.le_refl m) (by omega), Nat.sub_self, Nat.add_zero, Nat.add_zero]
  · rw [if_neg hij] at hz
    refine iter_cnt (fun x => (nI x, Wd H 100 (24 * b + j) x (fun y => H 100 (24 * a + i + y)))) m ?_ ?_ ?_ (by omega)
    · rw [nI_0, Wd_0]
    · intro x hx
      dsimp only
      rw [gle_f hx (by omega), if_neg (by rw [hz]; decide), Option.bind_some, pk_mul, pk_mul, nI_add, nI_add, nI_add, nI_add, nI_clamp (by omega), nI_clamp (by omega), gin2 (by omega) (by omega), gin2 (by omega) (by omega), nI_1, Wd_out (by omega)]
      have := Wd_up (I := H) (q := 100) (s := 24 * b + j) (i := x) (F := fun y => H 100 (24 * a + i + y))
      rw [this]
    · dsimp only
      rw [gle_t (Nat.le_refl m) (by omega)]
theorem st_copy {K : Type} [Lean.Grind.CommRing K] {p n : Nat} {X : K} {co : K → Nat} {k N : Nat} {I : gI} {R : gR} {S : gS} (hR : RO K p n X co) (h : IV p n X co k I R S) (hN : 16000 ≤ N) (x0 x1 x2 x3 x4 : Int32) : ∃ J P T, k_copy N I R S x0 x1 x2 x3 x4 = some (J, P, T) ∧ IV p n X co (k + 1) J P T := by
  have hIV := h
  obtain ⟨b1, b2, b3, b4, b5, b6, b7, b8, b9, b10⟩ := h
  unfold k_copy
  refine k_gen (m := fun J => f_X12_copy N J R S x0 x1 x2 x3 x4) hIV ?_
  rcases isR2 (N := N) (R := R) (S := S) x0 with hp | ⟨s, s1, rfl, hp⟩
  · refine gx_bad hR hIV ?_ ?_
    · unfold f_X11_copy; rw [(hp I I).1, Option.bind_some, if_pos rfl]
    · unfold f_X12_copy; rw [(hp I _).2, Option.bind_some, if_pos rfl]
  rcases isR2 (N := N) (R := R) (S := S) x2 with hp' | ⟨u, u1, rfl, hp'⟩
  · refine gx_bad hR hIV ?_ ?_
    · unfold f_X11_copy; rw [(hp I I).1, Option.bind_some, if_neg (by decide), (hp' I I).1, Option.bind_some, if_pos rfl]
    · unfold f_X12_copy; rw [(hp I _).2, Option.bind_some, if_neg (by decide), (hp' I _).2, Option.bind_some, if_pos rfl]
  have e98 : ∀ (J : gI) a i, a ≠ 91 → gU (gU J 91 0 (0 : Int32)) 91 1 (0 : Int32) a i = J a i := fun J a i ha => by rw [gU_ne _ _ _ _ ha, gU_ne _ _ _ _ ha]
  have hms : ∀ sz, sz ≤ 24 → ¬ nI sz = (-1 : Int32) := fun sz hsz z => by
    have := nI_pos (n := sz) (by omega)
    rw [z] at this
    exact this (by decide)
  -- the heads of both calls
  have hC : ∀ y, ((f_X5_isMissing N I R S (75 + 2 * s)).bind (fun z5 => (if z5 = 0 then ((f_X5_isMissing N I R S (75 + 2 * u)).bind (fun z7 => (if z7 = 0 then (if (I (75 + 2 * s) 1) = (I (75 + 2 * u) 1) then ((f_X5_hasItems N I R S (75 + 2 * s) x1 x4).bind (fun z8 => (if z8 = 0 then ((f_X11_found N I R S (2 : Int32)).bind (fun z9 => some (z9.1, z9.2))) else ((f_X5_hasItems N I R S (75 + 2 * u) x3 x4).bind (fun z10 => (if z10 = 0 then ((f_X11_found N I R S (2 : Int32)).bind (fun z12 => some (z12.1, z12.2))) else if (x1 < 0 ∨ x3 < 0 ∨ x4 < 0) ∨ 24 < x1.toNatClampNeg + x4.toNatClampNeg ∨ 24 < x3.toNatClampNeg + x4.toNatClampNeg then none else ((f_X11_fine N (gCopy I ((75 + 2 * s) + 1) ((75 + 2 * u) + 1) x1.toNatClampNeg x3.toNatClampNeg x4.toNatClampNeg) R S x4).bind (fun z11 => some (z11.1, z11.2))))))))) else ((f_X11_found N I R S (5 : Int32)).bind (fun z13 => some (z13.1, z13.2)))) else ((f_X11_found N I R S (1 : Int32)).bind (fun z14 => some (z14.1, z14.2)))))) else ((f_X11_found N I R S (1 : Int32)).bind (fun z6 => some (z6.1, z6.2)))))) = y → f_X11_copy N I R S (nI s) x1 (nI u) x3 x4 = y := fun y hy => by
    unfold f_X11_copy; rw [(hp I I).1, Option.bind_some, if_neg (by decide), (hp' I I).1, Option.bind_some, if_neg (by decide), nI_clamp (by omega), nI_clamp (by omega), gin2 (by omega) (by omega), gin2 (by omega) (by omega)]; exact hy
  have hlt0 : ∀ x : Int32, (0 : Int32) ≤ x ↔ ¬ x < 0 := fun x => by
    rw [Int32.le_iff_toInt_le, Int32.lt_iff_toInt_lt]; omega
  rcases (b7 s s1).1 with ⟨e1, e2⟩ | ⟨la, sz, l1, l2, l3, l4, l5, l6⟩
  · refine gx_found hR hIV 1 (hC _ ?_) ?_
    · unfold f_X5_isMissing; rw [e1, if_pos rfl]; rfl
    · unfold f_X12_copy; rw [(hp I _).2, Option.bind_some, if_neg (by decide), (hp' I _).2, Option.bind_some, if_neg (by decide), nI_clamp (by omega), gin2 (by omega) (by omega), if_pos (by rw [e98 _ _ _ (by decide), gU_ne _ _ _ _ (by decide), e2]; decide)]; rfl
  have hmis : f_X5_isMissing N I R S (75 + 2 * s) = some 0 := by unfold f_X5_isMissing; rw [l4, if_neg (hms sz l2)]
  rcases (b7 u u1).1 with ⟨e1, e2⟩ | ⟨la', sz', l1', l2', l3', l4', l5', l6'⟩
  · refine gx_found hR hIV 1 (hC _ ?_) ?_
    · rw [hmis, Option.bind_some, if_pos rfl]
      unfold f_X5_isMissing; rw [e1, if_pos rfl]; rfl
    · unfold f_X12_copy; rw [(hp I _).2, Option.bind_some, if_neg (by decide), (hp' I _).2, Option.bind_some, if_neg (by decide), nI_clamp (by omega), nI_clamp (by omega), gin2 (by omega) (by omega), gin2 (by omega) (by omega), if_neg (by rw [e98 _ _ _ (by decide), gU_ne _ _ _ _ (by decide), l5]; exact nI_pos (by omega)), if_neg (by rw [e98 _ _ _ (by decide), gU_ne _ _ _ _ (by decide), e2]; decide)]; rfl
  have hmis' : f_X5_isMissing N I R S (75 + 2 * u) = some 0 := by unfold f_X5_isMissing; rw [l4', if_neg (hms sz' l2')]
  have hM : ∀ (J : gI) y, (∀ a, a = 98 ∨ a = 99 → J a = I a) → (if la = la' then (if x1 < 0 then ((f_X12_found N (gU (gU J 91 0 (0 : Int32)) 91 1 (0 : Int32)) R S (2 : Int32)).bind (fun z4 => some (z4.1, z4.2))) else (if x3 < 0 then ((f_X12_found N (gU (gU J 91 0 (0 : Int32)) 91 1 (0 : Int32)) R S (2 : Int32)).bind (fun z5 => some (z5.1, z5.2))) else (if x4 < 0 then ((f_X12_found N (gU (gU J 91 0 (0 : Int32)) 91 1 (0 : Int32)) R S (2 : Int32)).bind (fun z6 => some (z6.1, z6.2))) else (if 0 < (lg_cmp (x1.toInt64 + x4.toInt64) ((nI sz).toInt64)) then ((f_X12_found N (gU (gU J 91 0 (0 : Int32)) 91 1 (0 : Int32)) R S (2 : Int32)).bind (fun z7 => some (z7.1, z7.2))) else (if (lg_cmp (x3.toInt64 + x4.toInt64) ((nI sz').toInt64)) ≤ 0 then (((if x1 < x3 then some (0 : Int32) else some (1 : Int32)) : Option (Int32)).bind (fun z8 => ((iter (σ := Int32 × gI) (ρ := gI) (fun z9 => (if x4 ≤ z9.1 then some (.inr z9.2) else (((if z8 = 0 then some ((x4 - (1 : Int32)) - z9.1) else some z9.1) : Option (Int32)).bind (fun z11 => if ((((24 : Int32) * nI s) + x1) + z11) < 0 ∨ 192 ≤ ((((24 : Int32) * nI s) + x1) + z11).toNatClampNeg then none else if ((((24 : Int32) * nI u) + x3) + z11) < 0 ∨ 192 ≤ ((((24 : Int32) * nI u) + x3) + z11).toNatClampNeg then none else some (.inl (z9.1 + 1, gU z9.2 100 ((((24 : Int32) * nI u) + x3) + z11).toNatClampNeg (z9.2 100 ((((24 : Int32) * nI s) + x1) + z11).toNatClampNeg))))))) N ((0 : Int32), gU (gU J 91 0 (0 : Int32)) 91 1 (0 : Int32))).bind (fun r10 => some (x4, r10))))) else ((f_X12_found N (gU (gU J 91 0 (0 : Int32)) 91 1 (0 : Int32)) R S (2 : Int32)).bind (fun z12 => some (z12.1, z12.2)))))))) else ((f_X12_found N (gU (gU J 91 0 (0 : Int32)) 91 1 (0 : Int32)) R S (5 : Int32)).bind (fun z13 => some (z13.1, z13.2)))) = y → f_X12_copy N J R S (nI s) x1 (nI u) x3 x4 = y := fun J y hJ hy => by
    have e3 : gU (gU J 91 0 (0 : Int32)) 91 1 (0 : Int32) 98 s = nI la := by rw [e98 _ _ _ (by decide), hJ 98 (.inl rfl)]; exact l5
    have e4 : gU (gU J 91 0 (0 : Int32)) 91 1 (0 : Int32) 99 s = nI sz := by rw [e98 _ _ _ (by decide), hJ 99 (.inr rfl)]; exact l6
    have e3' : gU (gU J 91 0 (0 : Int32)) 91 1 (0 : Int32) 98 u = nI la' := by rw [e98 _ _ _ (by decide), hJ 98 (.inl rfl)]; exact l5'
    have e4' : gU (gU J 91 0 (0 : Int32)) 91 1 (0 : Int32) 99 u = nI sz' := by rw [e98 _ _ _ (by decide), hJ 99 (.inr rfl)]; exact l6'
    unfold f_X12_copy; rw [(hp I _).2, Option.bind_some, if_neg (by decide), (hp' I _).2, Option.bind_some, if_neg (by decide), nI_clamp (by omega), nI_clamp (by omega), gin2 (by omega) (by omega), gin2 (by omega) (by omega), gin2 (by omega) (by omega), gin2 (by omega) (by omega), gin2 (by omega) (by omega), gin2 (by omega) (by omega)]
    simp only [e3, e4, e3', e4']
    rw [gn_f (by omega), if_pos (nI_pos' (by omega))]
    by_cases hll : la = la'
    · rw [if_pos hll] at hy
      rw [geq_t hll]; exact hy
    · rw [if_neg hll] at hy
      rw [geq_f hll (by omega) (by omega)]; exact hy
  by_cases hll : la = la'
  · have hpl : (I (75 + 2 * s) 1) = (I (75 + 2 * u) 1) := by rw [l3, l3', hll]
    by_cases hok : ∃ i j m, x1 = nI i ∧ x3 = nI j ∧ x4 = nI m ∧ i + m ≤ sz ∧ j + m ≤ sz'
    · obtain ⟨i, j, m, rfl, rfl, rfl, o1, o2⟩ := hok
      obtain ⟨J1, hJ1⟩ : ∃ J1, J1 = gU (gCopy I (75 + 2 * s + 1) (75 + 2 * u + 1) i j m) 0 7 (0 : Int32) := ⟨_, rfl⟩
      have hJ1n : ∀ a, a ≠ 0 → a ≠ 75 + 2 * u + 1 → J1 a = I a := fun a h1 h2 => by rw [hJ1, gU_cell _ _ _ h1, gCopy_cell _ _ _ _ _ h2]
      obtain ⟨H, hH⟩ : ∃ H, H = gU (gU J1 91 0 (0 : Int32)) 91 1 (0 : Int32) := ⟨_, rfl⟩
      have hHn : ∀ a, a ≠ 91 → H a = J1 a := fun a h1 => by rw [hH, gU_cell _ _ _ h1, gU_cell _ _ _ h1]
      refine ⟨nI m, J1, Wd H 100 (24 * u + j) m (fun x => H 100 (24 * s + i + x)), hC _ ?_, hM J1 _ (fun a ha => hJ1n a (by omega) (by omega)) ?_, ?_⟩
      · rw [hmis, Option.bind_some, if_pos rfl, hmis', Option.bind_some, if_pos rfl, if_pos hpl, has_yes l4 l2 o1, Option.bind_some, if_neg (by decide), has_yes l4' l2' o2, Option.bind_some, if_neg (by decide), nI_clamp (by omega), nI_clamp (by omega), nI_clamp (by omega), if_neg (by
          rintro ((z | z | z) | z | z)
          · exact nI_pos (by omega) z
          · exact nI_pos (by omega) z
          · exact nI_pos (by omega) z
          · omega
          · omega), hJ1]; rfl
      · have hz : (if nI i < nI j then some (0 : Int32) else some (1 : Int32)) = some (if i < j then 0 else 1) := by
          by_cases e : i < j
          · rw [glt_t e (by omega), if_pos e]
          · rw [glt_f (by omega) (by omega), if_neg e]
        have c1 := (lsum (x := nI i) (y := nI m) (m := sz) (by omega) rfl rfl (by omega) (by omega)).mpr o1
        have c2 := (lsum (x := nI j) (y := nI m) (m := sz') (by omega) rfl rfl (by omega) (by omega)).mpr o2
        rw [if_pos hll, gn_f (by omega), gn_f (by omega), gn_f (by omega), if_neg (fun z => by
          rw [Int32.lt_iff_toInt_lt] at z
          rw [Int32.le_iff_toInt_le] at c1
          omega), if_pos c2, hz, Option.bind_some, m_move s1 u1 (by omega) (by omega) (by omega) rfl, Option.bind_some, hH]
      · refine step_rows hR hIV (fun a ha => ?_) (fun o ho => ?_) (fun s' hs' => ?_) ?_
        · rw [Wd_row (by omega), hHn a (by omega), hJ1n a (by omega) (by omega)]
        · rw [Wd_ne _ (by decide), hH, gU_slot _ _ _ (by omega), gU_slot _ _ _ (by omega), hJ1n 91 (by omega) (by omega)]
        · obtain ⟨g1, g2⟩ := b7 s' hs'
          have q0 : ∀ a, a = 75 + 2 * s' ∨ a = 98 ∨ a = 99 → Wd H 100 (24 * u + j) m (fun x => H 100 (24 * s + i + x)) a = I a := fun a ha => by
            rw [Wd_row (by omega), hHn _ (by omega), hJ1n _ (by omega) (by omega)]
          unfold RWs
          rw [q0 _ (.inl rfl), q0 98 (.inr (.inl rfl)), q0 99 (.inr (.inr rfl))]
          refine ⟨g1, fun y hy => ?_⟩
          have h100 : ∀ y, H 100 y = I 100 y := fun y => by rw [hHn _ (by omega), hJ1n _ (by omega) (by omega)]
          rw [Wd_ne _ (by omega), hHn _ (by omega)]
          by_cases e : s' = u
          · subst e
            rw [hJ1, gU_ne _ _ _ _ (by omega), gCopy_row]
            by_cases e2 : j ≤ y ∧ y < j + m
            · obtain ⟨x, rfl⟩ : ∃ x, y = j + x := ⟨y - j, by omega⟩
              rw [pk_cpy_in (by omega) (by omega), ← Nat.add_assoc, Wd_at (by omega), h100, Nat.add_sub_cancel_left]
              have := (b7 s s1).2 (i + x) (by omega)
              rw [this, Nat.add_assoc]
            · rw [pk_cpy_out (by omega), Wd_out (by omega), h100]
              exact g2 y hy
          · rw [hJ1n _ (by omega) (by omega), Wd_out (by omega), h100]
            exact g2 y hy
        · rw [Wd_ne _ (by decide), Wd_ne _ (by decide), hHn 0 (by omega), hJ1, gU_at, hH, gU_at]
    · refine gx_found hR hIV 2 (hC _ ?_) (hM _ _ (fun a ha => gU_cell _ _ _ (by omega)) ?_)
      · rw [hmis, Option.bind_some, if_pos rfl, hmis', Option.bind_some, if_pos rfl, if_pos hpl]
        by_cases hA : ∃ i m, x1 = nI i ∧ x4 = nI m ∧ i + m ≤ sz
        · obtain ⟨i, m, rfl, rfl, o1⟩ := hA
          rw [has_yes l4 l2 o1, Option.bind_some, if_neg (by decide), has_no l4' l2' (fun ⟨j, m', y1, y2, y3⟩ => hok ⟨i, j, m, rfl, y1, rfl, o1, by
            by_cases hm' : m' < 2147483648
            · have := (nI_eq (show m < 2147483648 by omega) hm').mp y2
              omega
            · omega⟩)]; rfl
        · rw [has_no l4 l2 hA]; rfl
      · rw [if_pos hll]
        by_cases h1 : x1 < 0
        · rw [if_pos h1]; rfl
        · rw [if_neg h1]
          by_cases h3 : x3 < 0
          · rw [if_pos h3]; rfl
          · rw [if_neg h3]
            by_cases h4 : x4 < 0
            · rw [if_pos h4]; rfl
            · rw [if_neg h4]
              obtain ⟨i, i1, rfl⟩ := nI_of (x := x1) h1
              obtain ⟨j, j1, rfl⟩ := nI_of (x := x3) h3
              obtain ⟨m, m1, rfl⟩ := nI_of (x := x4) h4
              have c1 := lsum (x := nI i) (y := nI m) (m := sz) (by omega) rfl rfl i1 m1
              have c2 := lsum (x := nI j) (y := nI m) (m := sz') (by omega) rfl rfl j1 m1
              by_cases o1 : i + m ≤ sz
              · have d1 := c1.mpr o1
                rw [if_neg (fun z => by
                  rw [Int32.lt_iff_toInt_lt] at z
                  rw [Int32.le_iff_toInt_le] at d1
                  omega), if_neg (fun z => hok ⟨i, j, m, rfl, rfl, rfl, o1, c2.mp z⟩)]; rfl
              · rw [if_pos]
                · rfl
                · apply Classical.byContradiction
                  intro z
                  refine o1 (c1.mp ?_)
                  rw [Int32.le_iff_toInt_le]
                  rw [Int32.lt_iff_toInt_lt] at z
                  omega
  · refine gx_found hR hIV 5 (hC _ ?_) (hM _ _ (fun a ha => gU_cell _ _ _ (by omega)) ?_)
    · rw [hmis, Option.bind_some, if_pos rfl, hmis', Option.bind_some, if_pos rfl, l3, l3', geq_f hll (by omega) (by omega)]; rfl
    · rw [if_neg hll]; rfl
end StCopy
