/-! set, copy -/
section StRows2
theorem has_yes {N : Nat} {I : gI} {R : gR} {S : gS} {q i m sz : Nat} (h : I q 2 = nI sz) (hsz : sz ≤ 24) (h1 : i + m ≤ sz) : f_X5_hasItems N I R S q (nI i) (nI m) = some 1 := by
  unfold f_X5_hasItems
  rw [h, gn_f (by omega), gn_f (by omega), glt_f (by omega) (by omega), pk_sub (by omega), glt_f (by omega) (by omega)]
theorem has_no {N : Nat} {I : gI} {R : gR} {S : gS} {q sz : Nat} {x y : Int32} (h : I q 2 = nI sz) (hsz : sz ≤ 24) (hn : ¬ ∃ i m, x = nI i ∧ y = nI m ∧ i + m ≤ sz) : f_X5_hasItems N I R S q x y = some 0 := by
  unfold f_X5_hasItems
  rw [h]
  by_cases h1 : x < 0
  · rw [if_pos h1]
  · rw [if_neg h1]
    by_cases h2 : y < 0
    · rw [if_pos h2]
    · rw [if_neg h2]
      obtain ⟨i, i1, rfl⟩ := nI_of (x := x) h1
      obtain ⟨m, m1, rfl⟩ := nI_of (x := y) h2
      by_cases h3 : sz < i
      · rw [glt_t h3 i1]
      · rw [glt_f (by omega) (by omega), pk_sub (by omega), glt_t _ m1]
        apply Classical.byContradiction
        intro z
        exact hn ⟨i, m, rfl, rfl, by omega⟩
theorem st_set {K : Type} [Lean.Grind.CommRing K] {p n : Nat} {X : K} {co : K → Nat} {k N : Nat} {I : gI} {R : gR} {S : gS} (hR : RO K p n X co) (h : IV p n X co k I R S) (x0 x1 x2 : Int32) : ∃ J P T, k_set N I R S x0 x1 x2 = some (J, P, T) ∧ IV p n X co (k + 1) J P T := by
  have hIV := h
  obtain ⟨b1, b2, b3, b4, b5, b6, b7, b8, b9, b10⟩ := h
  unfold k_set
  refine k_gen (m := fun J => f_X12_set N J R S x0 x1 x2) hIV ?_
  rcases isR2 (N := N) (R := R) (S := S) x0 with hp | ⟨s, s1, rfl, hp⟩
  · refine gx_bad hR hIV ?_ ?_
    · unfold f_X11_set; rw [(hp I I).1, Option.bind_some, if_pos rfl]
    · unfold f_X12_set; rw [(hp I _).2, Option.bind_some, if_pos rfl]
  have e98 : ∀ (J : gI) a i, a ≠ 91 → gU (gU J 91 0 (0 : Int32)) 91 1 (0 : Int32) a i = J a i := fun J a i ha => by rw [gU_ne _ _ _ _ ha, gU_ne _ _ _ _ ha]
  rcases (b7 s s1).1 with ⟨e1, e2⟩ | ⟨la, sz, l1, l2, l3, l4, l5, l6⟩
  · refine gx_found hR hIV 1 ?_ ?_
    · unfold f_X11_set f_X5_isMissing; rw [(hp I I).1, Option.bind_some, if_neg (by decide), nI_clamp (by omega), gin2 (by omega) (by omega), e1, if_pos rfl]; rfl
    · unfold f_X12_set; rw [(hp I _).2, Option.bind_some, if_neg (by decide), nI_clamp (by omega), gin2 (by omega) (by omega), if_neg (by rw [e98 _ _ _ (by decide), gU_ne _ _ _ _ (by decide), e2]; decide)]; rfl
  have hms : ¬ nI sz = (-1 : Int32) := fun z => by
    have := nI_pos (n := sz) (by omega)
    rw [z] at this
    exact this (by decide)
  have hmis : f_X5_isMissing N I R S (75 + 2 * s) = some 0 := by unfold f_X5_isMissing; rw [l4, if_neg hms]
  by_cases hj : ∃ j, j < sz ∧ x1 = nI j
  · obtain ⟨j, j1, rfl⟩ := hj
    obtain ⟨v, hv⟩ : ∃ v : Int32, v = if la = 0 then x2.toInt8.toInt32 else if la = 1 then x2.toInt16.toInt32 else x2 := ⟨_, rfl⟩
    obtain ⟨J1, hJ1⟩ : ∃ J1, J1 = gU (gU I (75 + 2 * s + 1) j v) 0 7 (0 : Int32) := ⟨_, rfl⟩
    have hJ1n : ∀ a, a ≠ 0 → a ≠ 75 + 2 * s + 1 → J1 a = I a := fun a h1 h2 => by rw [hJ1, gU_cell _ _ _ h1, gU_cell _ _ _ h2]
    obtain ⟨H, hH⟩ : ∃ H, H = gU (gU (gU J1 91 0 (0 : Int32)) 91 1 (0 : Int32)) 100 (24 * s + j) v := ⟨_, rfl⟩
    have hHn : ∀ a, a ≠ 91 → a ≠ 100 → H a = J1 a := fun a h1 h2 => by
      rw [hH, gU_cell _ _ _ h2, gU_cell _ _ _ h1, gU_cell _ _ _ h1]
    have hput : f_X5_put N I R S (75 + 2 * s) (nI j) x2 = some (v, gU I (75 + 2 * s + 1) j v) := by
      unfold f_X5_put
      rw [l3, nI_clamp (by omega), gin2 (by omega) (by omega), gin2 (by omega) (by omega), gin2 (by omega) (by omega), gin2 (by omega) (by omega), gin2 (by omega) (by omega), gin2 (by omega) (by omega), gU_at, gU_at, gU_at, hv]
      by_cases h0 : la = 0
      · rw [g0_t h0, if_pos h0]
      · rw [g0_f (by omega) (by omega), if_neg h0]
        by_cases h1 : la = 1
        · rw [if_pos (show nI la = (1 : Int32) by rw [h1]; rfl), if_pos h1]
        · rw [if_neg (show ¬ nI la = (1 : Int32) from fun z => h1 ((nI_eq (b := 1) (by omega) (by omega)).mp z)), if_neg h1]
    refine ⟨v, J1, H, ?_, ?_, ?_⟩
    · unfold f_X11_set; rw [(hp I I).1, Option.bind_some, if_neg (by decide), nI_clamp (by omega), gin2 (by omega) (by omega), hmis, Option.bind_some, if_pos rfl, show (1 : Int32) = nI 1 from rfl, has_yes l4 l2 (by omega), Option.bind_some, if_neg (by decide), hput, hJ1]; rfl
    · have e3 : gU (gU J1 91 0 (0 : Int32)) 91 1 (0 : Int32) 98 s = nI la := by rw [e98 _ _ _ (by decide), hJ1n 98 (by omega) (by omega)]; exact l5
      have e4 : gU (gU J1 91 0 (0 : Int32)) 91 1 (0 : Int32) 99 s = nI sz := by rw [e98 _ _ _ (by decide), hJ1n 99 (by omega) (by omega)]; exact l6
      unfold f_X12_set; rw [(hp I _).2, Option.bind_some, if_neg (by decide), nI_clamp (by omega), gin2 (by omega) (by omega), gin2 (by omega) (by omega), gin2 (by omega) (by omega), gin2 (by omega) (by omega)]
      simp only [e3, e4]
      rw [if_pos (nI_pos' (by omega)), dn1 sz (by omega), show (0 : Int64) = (0 : Int32).toInt64 from rfl, s_in, Option.bind_some, if_pos (c := (0 : Int32) ≤ nI j ∧ nI j ≤ nI (sz - 1)) ⟨nI_pos' (by omega), nI_le (by omega) (by omega)⟩, if_neg (by decide)]
      have hval : ((if nI la = 0 then some x2.toInt8.toInt32 else (if nI la = (1 : Int32) then some x2.toInt16.toInt32 else some x2)) : Option Int32) = some v := by
        rw [hv]
        by_cases h0 : la = 0
        · rw [g0_t h0, if_pos h0]
        · rw [g0_f (by omega) (by omega), if_neg h0]
          by_cases h1 : la = 1
          · rw [if_pos (show nI la = (1 : Int32) by rw [h1]; rfl), if_pos h1]
          · rw [if_neg (show ¬ nI la = (1 : Int32) from fun z => h1 ((nI_eq (b := 1) (by omega) (by omega)).mp z)), if_neg h1]
      rw [hval, Option.bind_some, show (24 : Int32) = nI 24 from rfl, pk_mul, nI_add, nI_clamp (by omega), gin2 (by omega) (by omega), gin2 (by omega) (by omega), gU_at, hH]
    · refine step_rows hR hIV (fun a ha => ?_) (fun i hi => ?_) (fun s' hs' => ?_) ?_
      · rw [hHn a (by omega) (by omega), hJ1n a (by omega) (by omega)]
      · rw [hH, gU_ne _ _ _ _ (by decide), gU_slot _ _ _ (by omega), gU_slot _ _ _ (by omega), hJ1n 91 (by omega) (by omega)]
      · obtain ⟨g1, g2⟩ := b7 s' hs'
        have q0 : H (75 + 2 * s') = I (75 + 2 * s') := by rw [hHn _ (by omega) (by omega), hJ1n _ (by omega) (by omega)]
        have q2 : H 98 = I 98 := by rw [hHn _ (by omega) (by omega), hJ1n _ (by omega) (by omega)]
        have q3 : H 99 = I 99 := by rw [hHn _ (by omega) (by omega), hJ1n _ (by omega) (by omega)]
        unfold RWs
        rw [q0, q2, q3]
        refine ⟨g1, fun i hi => ?_⟩
        have c100 : H 100 (24 * s' + i) = if s' = s ∧ i = j then v else I 100 (24 * s' + i) := by
          rw [hH]
          by_cases e : s' = s ∧ i = j
          · rw [if_pos e, e.1, e.2, gU_at]
          · rw [if_neg e, gU_slot _ _ _ (by omega), e98 _ _ _ (by decide), hJ1n 100 (by omega) (by omega)]
        rw [c100, hHn _ (by omega) (by omega), hJ1, gU_ne _ _ _ _ (by omega)]
        by_cases e : s' = s ∧ i = j
        · rw [if_pos e, e.1, e.2, gU_at]
        · rw [if_neg e]
          by_cases e2 : s' = s
          · rw [e2, gU_slot _ _ _ (fun z => e ⟨e2, z⟩)]
            rw [e2] at g2
            exact g2 i hi
          · rw [gU_ne _ _ _ _ (by omega)]; exact g2 i hi
      · rw [hHn 0 (by omega) (by omega), hJ1, gU_at, hH, gU_ne _ _ _ _ (by decide), gU_at]
  · have hno := has_no (N := N) (R := R) (S := S) (x := x1) (y := 1) l4 l2 (fun ⟨i, m, h1, h2, h3⟩ => hj ⟨i, by
      have : m = 1 ∨ m = 0 ∨ 1 < m := by omega
      rcases this with e | e | e
      · omega
      · rw [e, nI_0] at h2
        exact absurd h2 (by decide)
      · omega, h1⟩)
    refine gx_found hR hIV 2 ?_ ?_
    · unfold f_X11_set; rw [(hp I I).1, Option.bind_some, if_neg (by decide), nI_clamp (by omega), gin2 (by omega) (by omega), hmis, Option.bind_some, if_pos rfl, hno]; rfl
    · have e3 : gU (gU (gU I 0 7 2) 91 0 (0 : Int32)) 91 1 (0 : Int32) 98 s = nI la := by rw [e98 _ _ _ (by decide), gU_ne _ _ _ _ (by decide)]; exact l5
      have e4 : gU (gU (gU I 0 7 2) 91 0 (0 : Int32)) 91 1 (0 : Int32) 99 s = nI sz := by rw [e98 _ _ _ (by decide), gU_ne _ _ _ _ (by decide)]; exact l6
      unfold f_X12_set; rw [(hp I _).2, Option.bind_some, if_neg (by decide), nI_clamp (by omega), gin2 (by omega) (by omega), gin2 (by omega) (by omega), gin2 (by omega) (by omega), gin2 (by omega) (by omega)]
      simp only [e3, e4]
      rw [if_pos (nI_pos' (by omega)), show (0 : Int64) = (0 : Int32).toInt64 from rfl, s_in, Option.bind_some, if_neg (c := (0 : Int32) ≤ x1 ∧ x1 ≤ nI sz - 1) (fun z => by
        obtain ⟨j, j1, rfl⟩ := nI_of (x := x1) (fun y => by
          have z1 := z.1
          rw [Int32.le_iff_toInt_le] at z1
          rw [Int32.lt_iff_toInt_lt] at y
          omega)
        refine hj ⟨j, ?_, rfl⟩
        by_cases hL : sz = 0
        · have z2 := z.2
          rw [hL, Int32.le_iff_toInt_le, nI_toInt (by omega)] at z2
          have : (nI 0 - 1 : Int32).toInt = -1 := by decide
          omega
        · have z2 := z.2
          rw [dn1 sz (by omega)] at z2
          have := (nI_leI j1 (by omega)).mp z2
          omega), if_pos rfl]; rfl
end StRows2
