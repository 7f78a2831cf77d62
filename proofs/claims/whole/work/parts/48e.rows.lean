/-! row, set, drop -/
section StRows
theorem step_rows {K : Type} [Lean.Grind.CommRing K] {p n : Nat} {X : K} {co : K → Nat} {k : Nat} {I J : gI} {R : gR} {S : gS} (hR : RO K p n X co) (h : IV p n X co k I R S) (hf : ∀ a, ¬ (a = 0 ∨ (75 ≤ a ∧ a ≤ 91) ∨ (98 ≤ a ∧ a ≤ 100)) → J a = I a) (h91 : ∀ j, 2 ≤ j → J 91 j = I 91 j) (hr : ∀ s, s < 8 → RWs J s) (hst : J 0 7 = J 91 1) : IV p n X co (k + 1) J R S := by
  obtain ⟨a1, a2, a3, a4, a5, a6, a7, a8, a9, a10⟩ := h
  refine ⟨a1, a2, by omega, FH_of a4 hR.2.2.1 (fun a h1 h2 => hf a (by omega)), MH_of a5 (fun j hj _ => h91 j hj) (hf 96 (by omega)) (hf 97 (by omega)), ?_, hr, fun w hw => SHs_of (a8 w hw) (fun a ha => hf a (by omega)) (hf _ (by omega)) (hf _ (by omega)), hst, ?_⟩
  · obtain ⟨d1, d2, d3, d4, d5, d6⟩ := a6
    exact ⟨by rw [hf 17 (by omega)]; exact d1, by rw [hf 37 (by omega)]; exact d2, by rw [hf 56 (by omega)]; exact d3, by rw [hf 56 (by omega)]; exact d4, Pd_of d5 (by rw [hf 37 (by omega)]) (by rw [hf 37 (by omega)]) (fun a h1 h2 => hf a (by omega)) (fun a ha => hf a (by omega)), Ad_of d6 hR.2.2.1 (by rw [hf 56 (by omega)]) (fun a h1 h2 => hf a (by omega)) (fun a ha => hf a (by omega))⟩
  · obtain ⟨L, l1, l2, l3, l4⟩ := a10
    exact ⟨L, l1, by rw [hf 3 (by omega)]; exact l2, by rw [h91 28 (by omega)]; exact l3, by rw [hf 4 (by omega), hf 113 (by omega)]; exact l4⟩
theorem k_gen {K : Type} [Lean.Grind.CommRing K] {p n : Nat} {X : K} {co : K → Nat} {k : Nat} {I : gI} {R : gR} {S : gS} {c : Option (Int32 × gI)} {m : gI → Option (Int32 × gI)} (h : IV p n X co k I R S) (hx : ∃ v J1 J2, c = some (v, J1) ∧ m J1 = some (v, J2) ∧ IV p n X co (k + 1) J2 R S) : ∃ J P T, c.bind (fun z => if gLayb 0 114 R S = true then (m z.2).bind (fun y => if z.1 = y.1 then some (y.2, R, S) else none) else none) = some (J, P, T) ∧ IV p n X co (k + 1) J P T := by
  obtain ⟨v, J1, J2, h1, h3, h4⟩ := hx
  refine ⟨J2, R, S, ?_, h4⟩
  rw [h1, Option.bind_some, if_pos (gLayb_of h.1), h3, Option.bind_some, if_pos rfl]
theorem gx_bad {K : Type} [Lean.Grind.CommRing K] {p n : Nat} {X : K} {co : K → Nat} {k : Nat} {I : gI} {R : gR} {S : gS} {c : Option (Int32 × gI)} {m : gI → Option (Int32 × gI)} (hR : RO K p n X co) (h : IV p n X co k I R S) (hc : c = some (-1000001, I)) (hm : m I = some (-1000001, gU I 91 0 (0 : Int32))) : ∃ v J1 J2, c = some (v, J1) ∧ m J1 = some (v, J2) ∧ IV p n X co (k + 1) J2 R S :=
  ⟨-1000001, I, _, hc, hm, step_ok hR h (CS_I h) (MS_bad h.2.2.2.2.2.2.2.2.1.symm)⟩
theorem gx_found {K : Type} [Lean.Grind.CommRing K] {p n : Nat} {X : K} {co : K → Nat} {k : Nat} {I : gI} {R : gR} {S : gS} {c : Option (Int32 × gI)} {m : gI → Option (Int32 × gI)} (hR : RO K p n X co) (h : IV p n X co k I R S) (e : Int32) (hc : c = some ((-1000010 : Int32) - e, gU I 0 7 e)) (hm : m (gU I 0 7 e) = some ((-1000010 : Int32) - e, gU (gU (gU (gU I 0 7 e) 91 0 (0 : Int32)) 91 1 (0 : Int32)) 91 1 e)) : ∃ v J1 J2, c = some (v, J1) ∧ m J1 = some (v, J2) ∧ IV p n X co (k + 1) J2 R S :=
  ⟨_, _, _, hc, hm, step_ok hR h (CS_st hR (fun _ _ => rfl) h.2.2.2.2.2.1 e) (MS_found e)⟩
theorem rowS {S : gS} {R : gR} (h : gLay 0 114 R S) {s : Nat} (hs : s < 8) : S[75 + 2 * s + 1]? = some (12, 24) := by
  rw [h.1 _ (by omega) (by omega)]
  rcases (show s = 0 ∨ s = 1 ∨ s = 2 ∨ s = 3 ∨ s = 4 ∨ s = 5 ∨ s = 6 ∨ s = 7 by omega) with rfl | rfl | rfl | rfl | rfl | rfl | rfl | rfl <;> rfl
theorem st_row {K : Type} [Lean.Grind.CommRing K] {p n : Nat} {X : K} {co : K → Nat} {k N : Nat} {I : gI} {R : gR} {S : gS} (hR : RO K p n X co) (h : IV p n X co k I R S) (hN : 16000 ≤ N) (x0 x1 x2 : Int32) : ∃ J P T, k_row N I R S x0 x1 x2 = some (J, P, T) ∧ IV p n X co (k + 1) J P T := by
  have hIV := h
  obtain ⟨b1, b2, b3, b4, b5, b6, b7, b8, b9, b10⟩ := h
  unfold k_row
  refine k_gen (m := fun J => f_X12_row N J R S x0 x1 x2) hIV ?_
  rcases isR2 (N := N) (R := R) (S := S) x0 with hp | ⟨s, s1, rfl, hp⟩
  · refine gx_bad hR hIV ?_ ?_
    · unfold f_X11_row; rw [(hp I I).1, Option.bind_some, if_pos rfl]
    · unfold f_X12_row; rw [(hp I _).2, Option.bind_some, if_pos rfl]
  rcases in2 (N := N) (R := R) (S := S) 2 (by omega) x1 with ⟨hx, hi⟩ | ⟨la, l1, rfl, hi⟩
  · refine gx_bad hR hIV ?_ ?_
    · unfold f_X11_row; rw [(hp I I).1, Option.bind_some, if_neg (by decide)]
      by_cases h0 : x1 < 0
      · rw [if_pos h0]
      · rw [if_neg h0, if_pos]
        rcases hx with hx | hx
        · exact absurd hx h0
        · rw [Int32.lt_iff_toInt_lt] at hx
          rw [Int32.le_iff_toInt_le]
          have e2 : (nI 2).toInt = 2 := rfl
          have e3 : (3 : Int32).toInt = 3 := rfl
          omega
    · unfold f_X12_row; rw [(hp I _).2, Option.bind_some, if_neg (by decide), show (2 : Int64) = (nI 2).toInt64 from rfl, hi, Option.bind_some, if_pos rfl]
  have pre1 : ∀ (A B : Option (Int32 × gI)), (if nI la < 0 then A else (if (3 : Int32) ≤ nI la then A else B)) = B := fun A B => by
    rw [gn_f (by omega), show (3 : Int32) = nI 3 from rfl, gle_f (by omega) (by omega)]
  by_cases h24 : x2 ≤ 24
  · by_cases h0 : 0 ≤ x2
    · obtain ⟨sz, z1, rfl⟩ := nI_of2 (x := x2) (M := 24) (n := 24) rfl (fun z => by
        rw [Int32.le_iff_toInt_le] at h0
        rw [Int32.lt_iff_toInt_lt] at z
        omega) h24
      have hfill := s_fill (N := N) (I := I) (R := R) (v := 0) (rowS b1 s1) (by omega) (by omega)
      obtain ⟨J1, hJ1⟩ : ∃ J1, J1 = gU (gU (gU (Aw I (75 + 2 * s + 1) 24 (fun _ => 0)) (75 + 2 * s) 1 (nI la)) (75 + 2 * s) 2 (nI sz)) 0 7 (0 : Int32) := ⟨_, rfl⟩
      obtain ⟨H, hH⟩ : ∃ H, H = gU (gU (gU (gU J1 91 0 (0 : Int32)) 91 1 (0 : Int32)) 98 s (nI la)) 99 s (nI sz) := ⟨_, rfl⟩
      have hJ1n : ∀ a, a ≠ 0 → a ≠ 75 + 2 * s → a ≠ 75 + 2 * s + 1 → J1 a = I a := fun a h1 h2 h3 => by
        rw [hJ1, gU_cell _ _ _ h1, gU_cell _ _ _ h2, gU_cell _ _ _ h2, Aw_row h3]
      have hHn : ∀ a, a ≠ 91 → a ≠ 98 → a ≠ 99 → H a = J1 a := fun a h1 h2 h3 => by
        rw [hH, gU_cell _ _ _ h3, gU_cell _ _ _ h2, gU_cell _ _ _ h1, gU_cell _ _ _ h1]
      refine ⟨nI sz, J1, Wd H 100 (24 * s) 24 (fun _ => 0), ?_, ?_, ?_⟩
      · unfold f_X11_row; rw [(hp I I).1, Option.bind_some, if_neg (by decide), pre1, if_pos h24, if_pos h0, nI_clamp (by omega), gin2 (by omega) (by omega)]
        unfold f_X5_begin
        rw [hfill, Option.bind_some, Option.bind_some, hJ1]; rfl
      · unfold f_X12_row; rw [(hp I _).2, Option.bind_some, if_neg (by decide), show (2 : Int64) = (nI 2).toInt64 from rfl, hi, Option.bind_some, if_neg (by decide), if_pos h24, if_pos h0, nI_clamp (by omega), gin2 (by omega) (by omega), gin2 (by omega) (by omega), ← hH]
        refine iter_bind (fun i => (nI i, Wd H 100 (24 * s) i (fun _ => 0))) 24 (Wd H 100 (24 * s) 24 (fun _ => 0)) (by rw [nI_0, Wd_0]) ?_ ?_ (by omega) rfl
        · intro i hi2
          rw [show (24 : Int32) = nI 24 from rfl]
          dsimp only
          rw [gle_f (by omega) (by omega), pk_mul, nI_add, nI_clamp (by omega), gin2 (by omega) (by omega), nI_1, Wd_up (F := fun _ => 0)]
        · rw [show (24 : Int32) = nI 24 from rfl]
          dsimp only
          rw [gle_t (by omega) (by omega)]
      · refine step_rows hR hIV (fun a ha => ?_) (fun j hj => ?_) (fun s' hs' => ?_) ?_
        · rw [Wd_row (by omega), hHn a (by omega) (by omega) (by omega), hJ1n a (by omega) (by omega) (by omega)]
        · rw [Wd_ne _ (by decide), hH, gU_ne _ _ _ _ (by decide), gU_ne _ _ _ _ (by decide), gU_slot _ _ _ (by omega), gU_slot _ _ _ (by omega), hJ1n 91 (by omega) (by omega) (by omega)]
        · have c98 : Wd H 100 (24 * s) 24 (fun _ => 0) 98 s' = if s' = s then nI la else I 98 s' := by
            rw [Wd_ne _ (by decide), hH, gU_ne _ _ _ _ (by decide)]
            by_cases e : s' = s
            · rw [if_pos e, e, gU_at]
            · rw [if_neg e, gU_slot _ _ _ e, gU_ne _ _ _ _ (by decide), gU_ne _ _ _ _ (by decide), hJ1n 98 (by omega) (by omega) (by omega)]
          have c99 : Wd H 100 (24 * s) 24 (fun _ => 0) 99 s' = if s' = s then nI sz else I 99 s' := by
            rw [Wd_ne _ (by decide), hH]
            by_cases e : s' = s
            · rw [if_pos e, e, gU_at]
            · rw [if_neg e, gU_slot _ _ _ e, gU_ne _ _ _ _ (by decide), gU_ne _ _ _ _ (by decide), gU_ne _ _ _ _ (by decide), hJ1n 99 (by omega) (by omega) (by omega)]
          by_cases e : s' = s
          · subst e
            rw [if_pos rfl] at c98 c99
            refine ⟨.inr ⟨la, sz, by omega, z1, ?_, ?_, c98, c99⟩, fun j hj => ?_⟩
            · rw [Wd_ne _ (by omega), hHn _ (by omega) (by omega) (by omega), hJ1, gU_ne _ _ _ _ (by omega), gU_slot _ _ _ (by decide), gU_at]
            · rw [Wd_ne _ (by omega), hHn _ (by omega) (by omega) (by omega), hJ1, gU_ne _ _ _ _ (by omega), gU_at]
            · rw [Wd_at hj, Wd_ne _ (by omega), hHn _ (by omega) (by omega) (by omega), hJ1, gU_ne _ _ _ _ (by omega), gU_ne _ _ _ _ (by omega), gU_ne _ _ _ _ (by omega), Aw_at hj]
          · rw [if_neg e] at c98 c99
            obtain ⟨g1, g2⟩ := b7 s' hs'
            have q0 : Wd H 100 (24 * s) 24 (fun _ => 0) (75 + 2 * s') = I (75 + 2 * s') := by rw [Wd_row (by omega), hHn _ (by omega) (by omega) (by omega), hJ1n _ (by omega) (by omega) (by omega)]
            have q1 : Wd H 100 (24 * s) 24 (fun _ => 0) (75 + 2 * s' + 1) = I (75 + 2 * s' + 1) := by rw [Wd_row (by omega), hHn _ (by omega) (by omega) (by omega), hJ1n _ (by omega) (by omega) (by omega)]
            unfold RWs
            rw [q0, q1, c98, c99]
            refine ⟨g1, fun j hj => ?_⟩
            rw [Wd_out (by omega), hHn _ (by omega) (by omega) (by omega), hJ1n _ (by omega) (by omega) (by omega)]; exact g2 j hj
        · rw [Wd_ne _ (by decide), Wd_ne _ (by decide), hHn 0 (by omega) (by omega) (by omega), hJ1, gU_at, hH, gU_ne _ _ _ _ (by decide), gU_ne _ _ _ _ (by decide), gU_at]
    · refine gx_found hR hIV 4 ?_ ?_
      · unfold f_X11_row; rw [(hp I I).1, Option.bind_some, if_neg (by decide), pre1, if_pos h24, if_neg h0]; rfl
      · unfold f_X12_row; rw [(hp I _).2, Option.bind_some, if_neg (by decide), show (2 : Int64) = (nI 2).toInt64 from rfl, hi, Option.bind_some, if_neg (by decide), if_pos h24, if_neg h0]; rfl
  · refine gx_bad hR hIV ?_ ?_
    · unfold f_X11_row; rw [(hp I I).1, Option.bind_some, if_neg (by decide), pre1, if_neg h24]
    · unfold f_X12_row; rw [(hp I _).2, Option.bind_some, if_neg (by decide), show (2 : Int64) = (nI 2).toInt64 from rfl, hi, Option.bind_some, if_neg (by decide), if_neg h24]
theorem st_drop {K : Type} [Lean.Grind.CommRing K] {p n : Nat} {X : K} {co : K → Nat} {k N : Nat} {I : gI} {R : gR} {S : gS} (hR : RO K p n X co) (h : IV p n X co k I R S) (x0 : Int32) : ∃ J P T, k_drop N I R S x0 = some (J, P, T) ∧ IV p n X co (k + 1) J P T := by
  have hIV := h
  obtain ⟨b1, b2, b3, b4, b5, b6, b7, b8, b9, b10⟩ := h
  unfold k_drop
  refine k_gen (m := fun J => f_X12_drop N J R S x0) hIV ?_
  rcases isR2 (N := N) (R := R) (S := S) x0 with hp | ⟨s, s1, rfl, hp⟩
  · refine gx_bad hR hIV ?_ ?_
    · unfold f_X11_drop; rw [(hp I I).1, Option.bind_some, if_pos rfl]
    · unfold f_X12_drop; rw [(hp I _).2, Option.bind_some, if_pos rfl]
  have e98 : ∀ J : gI, gU (gU J 91 0 (0 : Int32)) 91 1 (0 : Int32) 98 s = J 98 s := fun J => by rw [gU_ne _ _ _ _ (by decide), gU_ne _ _ _ _ (by decide)]
  rcases (b7 s s1).1 with ⟨e1, e2⟩ | ⟨la, sz, l1, l2, l3, l4, l5, l6⟩
  · refine gx_found hR hIV 1 ?_ ?_
    · unfold f_X11_drop f_X5_isMissing; rw [(hp I I).1, Option.bind_some, if_neg (by decide), nI_clamp (by omega), gin2 (by omega) (by omega), e1, if_pos rfl]; rfl
    · unfold f_X12_drop; rw [(hp I _).2, Option.bind_some, if_neg (by decide), nI_clamp (by omega), gin2 (by omega) (by omega), if_neg (by rw [e98, gU_ne _ _ _ _ (by decide), e2]; decide)]; rfl
  · obtain ⟨J1, hJ1⟩ : ∃ J1, J1 = gU (gU I (75 + 2 * s) 2 (-1 : Int32)) 0 7 (0 : Int32) := ⟨_, rfl⟩
    have hJ1n : ∀ a, a ≠ 0 → a ≠ 75 + 2 * s → J1 a = I a := fun a h1 h2 => by rw [hJ1, gU_cell _ _ _ h1, gU_cell _ _ _ h2]
    have hms : ¬ nI sz = (-1 : Int32) := fun z => by
      have := nI_pos (n := sz) (by omega)
      rw [z] at this
      exact this (by decide)
    obtain ⟨H, hH⟩ : ∃ H, H = gU (gU (gU J1 91 0 (0 : Int32)) 91 1 (0 : Int32)) 98 s (-1 : Int32) := ⟨_, rfl⟩
    have hHn : ∀ a, a ≠ 91 → a ≠ 98 → H a = J1 a := fun a h1 h2 => by
      rw [hH, gU_cell _ _ _ h2, gU_cell _ _ _ h1, gU_cell _ _ _ h1]
    refine ⟨nI sz, J1, H, ?_, ?_, ?_⟩
    · unfold f_X11_drop f_X5_isMissing f_X5_end; rw [(hp I I).1, Option.bind_some, if_neg (by decide), nI_clamp (by omega), gin2 (by omega) (by omega), l4, if_neg hms, Option.bind_some, if_pos rfl, gin2 (by omega) (by omega), hJ1]; rfl
    · unfold f_X12_drop; rw [(hp I _).2, Option.bind_some, if_neg (by decide), nI_clamp (by omega), gin2 (by omega) (by omega), gin2 (by omega) (by omega), gin2 (by omega) (by omega), if_pos (by rw [e98, hJ1n 98 (by omega) (by omega), l5]; exact nI_pos' (by omega)), ← hH, hHn 99 (by omega) (by omega), hJ1n 99 (by omega) (by omega), l6]
    · refine step_rows hR hIV (fun a ha => ?_) (fun j hj => ?_) (fun s' hs' => ?_) ?_
      · rw [hHn a (by omega) (by omega), hJ1n a (by omega) (by omega)]
      · rw [hH, gU_ne _ _ _ _ (by decide), gU_slot _ _ _ (by omega), gU_slot _ _ _ (by omega), hJ1n 91 (by omega) (by omega)]
      · have c98 : H 98 s' = if s' = s then -1 else I 98 s' := by
          rw [hH]
          by_cases e : s' = s
          · rw [if_pos e, e, gU_at]
          · rw [if_neg e, gU_slot _ _ _ e, gU_ne _ _ _ _ (by decide), gU_ne _ _ _ _ (by decide), hJ1n 98 (by omega) (by omega)]
        obtain ⟨g1, g2⟩ := b7 s' hs'
        have q1 : H (75 + 2 * s' + 1) = I (75 + 2 * s' + 1) := by rw [hHn _ (by omega) (by omega), hJ1n _ (by omega) (by omega)]
        have q2 : H 100 = I 100 := by rw [hHn _ (by omega) (by omega), hJ1n _ (by omega) (by omega)]
        by_cases e : s' = s
        · subst e
          rw [if_pos rfl] at c98
          refine ⟨.inl ⟨?_, c98⟩, by rw [q1, q2]; exact g2⟩
          rw [hHn _ (by omega) (by omega), hJ1, gU_ne _ _ _ _ (by omega), gU_at]
        · rw [if_neg e] at c98
          have q0 : H (75 + 2 * s') = I (75 + 2 * s') := by rw [hHn _ (by omega) (by omega), hJ1n _ (by omega) (by omega)]
          have q3 : H 99 = I 99 := by rw [hHn _ (by omega) (by omega), hJ1n _ (by omega) (by omega)]
          unfold RWs
          rw [q0, q1, q2, q3, c98]
          exact ⟨g1, g2⟩
      · rw [hHn 0 (by omega) (by omega), hJ1, gU_at, hH, gU_ne _ _ _ _ (by decide), gU_at]
end StRows
