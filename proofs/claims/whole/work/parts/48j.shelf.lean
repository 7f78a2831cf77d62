/-! the shelf -/
section Shelf
theorem gWb_2 {R : gR} {S : gS} {u w : Nat} {v : Option Nat} (hw : w ≠ 2) : gWb (gU R 2 u v) S w = gWb R S w ∧ gt (gU R 2 u v) w = gt R w := by
  have h : gU R 2 u v w = R w := gU_cell _ _ _ hw
  unfold gWb gt
  rw [h]; exact ⟨rfl, rfl⟩
theorem CW_2 {K : Type} [Lean.Grind.CommRing K] {co : K → Nat} {I : gI} {R : gR} {S : gS} {u w r : Nat} {v : Option Nat} {t : Nat → K} : CW co I (gU R 2 u v) S w r t ↔ CW co I R S w r t := by
  constructor
  · rintro ⟨a1, a2, a3, a4, a5⟩
    obtain ⟨g1, g2⟩ := gWb_2 (R := R) (S := S) (u := u) (v := v) (show w ≠ 2 by omega)
    rw [g1] at a1
    rw [g2] at a3 a4
    exact ⟨a1, a2, a3, a4, a5⟩
  · rintro ⟨a1, a2, a3, a4, a5⟩
    obtain ⟨g1, g2⟩ := gWb_2 (R := R) (S := S) (u := u) (v := v) (show w ≠ 2 by omega)
    exact ⟨by rw [g1]; exact a1, a2, by rw [g2]; exact a3, by rw [g2]; exact a4, a5⟩
theorem not2 {R : gR} {S : gS} {w : Nat} (hl : gLay 0 114 R S) (h : gWb R S w = true) : w ≠ 2 := fun e => by
  rw [e] at h
  have h2 : S[2]? = some (15, 10) := hl.1 2 (by omega) (by omega)
  rcases gWb_k h with x | x | x | x <;> rw [h2] at x <;> exact absurd x (by decide)
theorem Pd_2 {K : Type} [Lean.Grind.CommRing K] {p : Nat} {co : K → Nat} {I : gI} {R : gR} {S : gS} {u : Nat} {v : Option Nat} (hl : gLay 0 114 R S) (h : Pd p co I R S) : Pd p co I (gU R 2 u v) S := fun w hw => by
  obtain ⟨a1, a2, a3⟩ := h w hw
  exact ⟨a1, by rw [(gWb_2 (not2 hl a2)).1]; exact a2, fun r t hW hV => a3 r t (CW_2.mp hW) hV⟩
theorem Ad_2 {K : Type} [Lean.Grind.CommRing K] {p n : Nat} {X : K} {co : K → Nat} {I : gI} {R : gR} {S : gS} {u : Nat} {v : Option Nat} (hl : gLay 0 114 R S) (h : Ad p n X co I R S) : Ad p n X co I (gU R 2 u v) S := fun w hw => by
  obtain ⟨a1, a2, a3⟩ := h w hw
  exact ⟨a1, by rw [(gWb_2 (not2 hl a2)).1]; exact a2, fun r t hW hV => a3 r t (CW_2.mp hW) hV⟩
theorem WD_2 {K : Type} [Lean.Grind.CommRing K] {p n : Nat} {co : K → Nat} {I : gI} {R : gR} {S : gS} {a r u : Nat} {v : Option Nat} {t : Nat → K} {d : Nat} {c : Nat → Nat} {f : Nat} (h : WD p n co I R S a r t d c f) : WD p n co I (gU R 2 u v) S a r t d c f := by
  obtain ⟨h1, h2, h3⟩ := h
  exact ⟨h1, CW_2.mpr h2, h3⟩
theorem IV_new {K : Type} [Lean.Grind.CommRing K] {p n : Nat} {X : K} {co : K → Nat} {k : Nat} {I J1 J2 : gI} {R P : gR} {S T : gS} {a w r : Nat} {t : Nat → K} {d : Nat} {c : Nat → Nat} {f : Nat} (hR : RO K p n X co) (h : IV p n X co k I R S) (hE : Ex R P S T) (hT : T.length ≤ S.length + 3) (h1 : ∀ q, q < S.length → ¬ (q = 0 ∨ q = 5 ∨ (17 ≤ q ∧ q ≤ 74)) → J1 q = I q) (h2 : CST p n X co J1 P T) (h3 : WD p n co J1 P T a r t d c f) (h4 : J1 0 7 = 0) (hw : w < 10) (g1 : ∀ q, ¬ ((91 ≤ q ∧ q ≤ 95) ∨ (101 ≤ q ∧ q ≤ 112)) → J2 q = J1 q) (g2 : ∀ j, 2 ≤ j → J2 91 j = J1 91 j) (g3 : J2 91 1 = 0) (g4 : MW co J2 w r t) (g5 : ∀ v, v ≠ w → J2 101 v = J1 101 v) (g6 : ∀ x, (x < 4 * w ∨ 4 * w + 4 ≤ x) → J2 102 x = J1 102 x) : IV p n X co (k + 1) J2 (gU P 2 w (some a)) T := by
  obtain ⟨a1, a2, a3, a4, a5, a6, a7, a8, a9, a10⟩ := h
  have hlay := gLay_ex a1 hE a2
  have hJ : ∀ q, q < 114 → ¬ (q = 0 ∨ q = 5 ∨ (17 ≤ q ∧ q ≤ 74)) → ¬ ((91 ≤ q ∧ q ≤ 95) ∨ (101 ≤ q ∧ q ≤ 112)) → J2 q = I q := fun q hq x y => by rw [g1 q y, h1 q (by omega) x]
  have hc : ∀ q, q < 91 → J2 q = J1 q := fun q hq => g1 q (by omega)
  have hw114 : ∀ q, 114 ≤ q → J2 q = J1 q := fun q hq => g1 q (by omega)
  have h91 : ∀ j, 2 ≤ j → J2 91 j = I 91 j := fun j hj => by rw [g2 j hj, h1 91 (by omega) (by omega)]
  refine ⟨gLay_2 hlay, by have := hE.2.2; omega, by omega, FH_of a4 hR.2.2.1 (fun q x y => hJ q (by omega) (by omega) (by omega)), MH_of a5 (fun j hj _ => h91 j hj) (hJ 96 (by omega) (by omega) (by omega)) (hJ 97 (by omega) (by omega) (by omega)), ?_, fun s hs => RWs_of (a7 s hs) (hJ _ (by omega) (by omega) (by omega)) (hJ _ (by omega) (by omega) (by omega)) (hJ _ (by omega) (by omega) (by omega)) (hJ _ (by omega) (by omega) (by omega)) (hJ _ (by omega) (by omega) (by omega)), fun v hv => ?_, ?_, ?_⟩
  · obtain ⟨d1, d2, d3, d4, d5, d6⟩ := h2
    exact ⟨by rw [hc 17 (by omega)]; exact d1, by rw [hc 37 (by omega)]; exact d2, by rw [hc 56 (by omega)]; exact d3, by rw [hc 56 (by omega)]; exact d4, Pd_2 hlay (Pd_of d5 (by rw [hc 37 (by omega)]) (by rw [hc 37 (by omega)]) (fun q x y => hc q (by omega)) hw114), Ad_2 hlay (Ad_of d6 hR.2.2.1 (by rw [hc 56 (by omega)]) (fun q x y => hc q (by omega)) hw114)⟩
  · by_cases e : v = w
    · subst e
      exact .inr ⟨a, r, t, d, c, f, gU_at _ _ _ _, WD_2 (WD_of h3 hw114), g4⟩
    · have e2 : gU P 2 w (some a) 2 v = R 2 v := by rw [gU_slot _ _ _ e, hE.1 2 (by omega)]
      have e101 : J2 101 v = I 101 v := by rw [g5 v e, h1 101 (by omega) (by omega)]
      rcases a8 v hv with ⟨x1, x2⟩ | ⟨a', r', t', d', c', f', x1, x2, x3⟩
      · exact .inl ⟨by rw [e2]; exact x1, by rw [e101]; exact x2⟩
      · refine .inr ⟨a', r', t', d', c', f', by rw [e2]; exact x1, WD_2 (WD_of (WD_ex x2 hE (fun q y1 y2 => h1 q y2 (by omega))) hw114), by rw [e101]; exact x3.1, fun i hi => ?_⟩
        rw [g6 _ (by omega), h1 102 (by omega) (by omega)]; exact x3.2 i hi
  · rw [g3, hc 0 (by omega)]; exact h4
  · obtain ⟨L, l1, l2, l3, l4⟩ := a10
    exact ⟨L, l1, by rw [hJ 3 (by omega) (by omega) (by omega)]; exact l2, by rw [h91 28 (by omega)]; exact l3, by rw [hJ 4 (by omega) (by omega) (by omega), hJ 113 (by omega) (by omega) (by omega)]; exact l4⟩
theorem s_shelve {K : Type} [Lean.Grind.CommRing K] {p n : Nat} {co : K → Nat} {N : Nat} {I : gI} {R : gR} {S : gS} {a r w : Nat} {t : Nat → K} {d : Nat} {c : Nat → Nat} {f : Nat} (hW : WD p n co I R S a r t d c f) (hl : gLay 0 114 R S) (hw : w < 10) : f_X11_shelve N I R S (nI w) a = some (nI (kd r (f / d)), gU I 0 7 (0 : Int32), gU R 2 w (some a), S) := by
  obtain ⟨f1, f2, f3, f4, f5, f6, f7, f8, f9, f10, f11, f12⟩ := hW
  have hb := gLayb_of ((gLay_2 (w := w) (v := some a) hl).sub (a1 := 0) (b1 := 91) (by omega) (by omega))
  unfold f_X11_shelve
  rw [if_pos f2.1, nI_clamp (by omega), gin2 (by omega) (by omega), gin2 (by omega) (by omega), gin2 (by omega) (by omega), gin2 (by omega) (by omega)]
  rcases KK_of f2.1 f11 with ⟨y1, y2, y3⟩ | ⟨y1, y2, y3⟩ | ⟨y1, y2, y3⟩ | ⟨y1, y2, y3⟩
  · rw [y3, y1, if_neg (by decide), if_pos rfl]
    unfold f_X3_kindTold
    rw [if_pos y2, Option.bind_some, if_pos hb]; rfl
  · rw [y3, y1, if_pos rfl]
    unfold f_X1_kindTold
    rw [if_pos y2, Option.bind_some, if_pos hb]; rfl
  · rw [y3, y1, if_neg (by decide), if_neg (by decide), if_neg (by decide)]
    unfold f_X7_kindTold
    rw [if_pos y2, Option.bind_some, if_pos hb]; rfl
  · rw [y3, y1, if_neg (by decide), if_neg (by decide), if_pos rfl]
    unfold f_X4_kindTold
    rw [if_pos (.inl y2), Option.bind_some, if_pos hb]; rfl
theorem m_lay {K : Type} [Lean.Grind.CommRing K] {p n : Nat} {X : K} {co : K → Nat} {I : gI} {R : gR} {S : gS} {N w r d f : Nat} {t : Nat → K} {c : Nat → Nat} (hR : RO K p n X co) (hM : MH p n X co I) (hw : w < 10) (h107 : ∀ k, k ≤ r → I 107 k = nI (co (t k))) (hV : WV r t) (hL : Lr p n co (fun j _ => t 0 ^ j) 1 d c) (hS : ∀ q, 91 ≤ q → q < 114 → S[q]? = layS[q]?) (hf : f ≤ r * d) (hfs : Fst (ac p t (enc p d c + p ^ d) (d + 1)) f) (hN : 60 ≤ N) :
    ∃ J, f_X12_lay N I R S (nI w) (nI r) = some (nI (kd r (f / d)), J) ∧ (∀ q, ¬ (q = 91 ∨ q = 95 ∨ q = 101 ∨ q = 102 ∨ q = 103 ∨ q = 104 ∨ q = 106) → J q = I q) ∧ (∀ j, j ≠ 1 → J 91 j = I 91 j) ∧ J 91 1 = 0 ∧ MW co J w r t ∧ (∀ v, v ≠ w → J 101 v = I 101 v) ∧ ∀ x, (x < 4 * w ∨ 4 * w + 4 ≤ x) → J 102 x = I 102 x := by
  have h3r := hV.2.1
  obtain ⟨H, hH⟩ : ∃ H, H = gU (gU I 91 1 (0 : Int32)) 101 w (nI r) := ⟨_, rfl⟩
  have hHn : ∀ q, q ≠ 91 → q ≠ 101 → H q = I q := fun q h1 h2 => by rw [hH, gU_cell _ _ _ h2, gU_cell _ _ _ h1]
  obtain ⟨H2, hH2⟩ : ∃ H2, H2 = Wd H 102 (4 * w) 4 (fun k => nI (co (t k))) := ⟨_, rfl⟩
  have hH2n : ∀ q, q ≠ 102 → H2 q = H q := fun q h1 => by rw [hH2, Wd_row h1]
  have hM2 : MH p n X co H2 := MH_of hM (fun j hj _ => by rw [hH2n 91 (by decide), hH, gU_ne _ _ _ _ (by decide), gU_slot _ _ _ (by omega)]) (by rw [hH2n 96 (by decide), hHn 96 (by decide) (by decide)]) (by rw [hH2n 97 (by decide), hHn 97 (by decide) (by decide)])
  have hW2 : MW co H2 w r t := ⟨by rw [hH2n 101 (by decide), hH, gU_at], fun k hk => by rw [hH2, Wd_at hk]⟩
  obtain ⟨J, j1, j2⟩ := m_kindOf (N := N) (R := R) hR hM2 hw hW2 hV hL hS hf hfs hN
  have hJn : ∀ q, ¬ (q = 95 ∨ q = 103 ∨ q = 104 ∨ q = 106) → J q = H2 q := fun q hq => j2 q (by simp only [List.mem_cons, List.mem_nil_iff, or_false]; omega)
  refine ⟨J, ?_, fun q hq => by rw [hJn q (by omega), hH2n q (by omega), hHn q (by omega) (by omega)], fun j hj => by rw [hJn 91 (by omega), hH2n 91 (by decide), hH, gU_ne _ _ _ _ (by decide), gU_slot _ _ _ hj], by rw [hJn 91 (by omega), hH2n 91 (by decide), hH, gU_ne _ _ _ _ (by decide), gU_at], MW_of hW2 (hJn 101 (by omega)) (hJn 102 (by omega)), fun v hv => by rw [hJn 101 (by omega), hH2n 101 (by decide), hH, gU_slot _ _ _ hv, gU_ne _ _ _ _ (by decide)], fun x hx => by rw [hJn 102 (by omega), hH2, Wd_out hx, hHn 102 (by decide) (by decide)]⟩
  unfold f_X12_lay
  rw [nI_clamp (by omega), gin2 (by omega) (by omega), ← hH]
  refine iter_bind (fun i => (nI i, Wd H 102 (4 * w) i (fun k => nI (co (t k))))) 4 H2 (by rw [nI_0, Wd_0]) ?_ ?_ (by omega) (by rw [j1, Option.bind_some])
  · intro i hi
    have e107 : ∀ k, k ≤ r → Wd H 102 (4 * w) i (fun k => nI (co (t k))) 107 k = nI (co (t k)) := fun k hk => by rw [Wd_ne _ (by decide), hHn 107 (by decide) (by decide)]; exact h107 k hk
    rw [show (4 : Int32) = nI 4 from rfl]
    dsimp only
    rw [gle_f (by omega) (by omega), pk_mul, nI_add, nI_clamp (by omega), nI_clamp (by omega), gin2 (by omega) (by omega), gin2 (by omega) (by omega), nI_1]
    by_cases h : i ≤ r
    · rw [gle_t h (by omega), e107 i h, Wd_up (F := fun k => nI (co (t k)))]
    · rw [gle_f (by omega) (by omega)]
      have := Wd_up (I := H) (q := 102) (s := 4 * w) (i := i) (F := fun k => nI (co (t k)))
      rw [hV.2.2.2 i (by omega), RO_0 hR, nI_0] at this
      rw [this, gin2 (by omega) (by omega)]
  · rw [show (4 : Int32) = nI 4 from rfl]
    dsimp only
    rw [gle_t (by omega) (by omega), hH2]
theorem st_clear {K : Type} [Lean.Grind.CommRing K] {p n : Nat} {X : K} {co : K → Nat} {k N : Nat} {I : gI} {R : gR} {S : gS} (hR : RO K p n X co) (h : IV p n X co k I R S) (x0 : Int32) : ∃ J P T, k_clear N I R S x0 = some (J, P, T) ∧ IV p n X co (k + 1) J P T := by
  have hIV := h
  obtain ⟨b1, b2, b3, b4, b5, b6, b7, b8, b9, b10⟩ := h
  unfold k_clear
  rcases isP2 (N := N) (R := R) (S := S) x0 with hp | ⟨w, w1, rfl, hp⟩
  · refine ⟨gU I 91 0 (0 : Int32), R, S, ?_, step_ok hR hIV (CS_I hIV) (MS_bad b9.symm)⟩
    unfold f_X11_clear
    rw [(hp I I).1, Option.bind_some, if_pos rfl, Option.bind_some, if_pos (gLayb_of b1)]
    unfold f_X12_clear
    rw [(hp I _).2, Option.bind_some, if_pos rfl, Option.bind_some, if_pos rfl]
  have hb := gLayb_of (gLay_2 (w := w) (v := none) b1)
  have hfin : IV p n X co (k + 1) (gU (gU I 91 0 (0 : Int32)) 101 w (0 : Int32)) (gU R 2 w none) S := by
    obtain ⟨J, hJ⟩ : ∃ J, J = gU (gU I 91 0 (0 : Int32)) 101 w (0 : Int32) := ⟨_, rfl⟩
    rw [← hJ]
    have hJn : ∀ q, q ≠ 91 → q ≠ 101 → J q = I q := fun q h1 h2 => by rw [hJ, gU_cell _ _ _ h2, gU_cell _ _ _ h1]
    have h91 : ∀ j, j ≠ 0 → J 91 j = I 91 j := fun j hj => by rw [hJ, gU_ne _ _ _ _ (by decide), gU_slot _ _ _ hj]
    refine ⟨gLay_2 b1, b2, by omega, FH_of b4 hR.2.2.1 (fun q x y => hJn q (by omega) (by omega)), MH_of b5 (fun j hj _ => h91 j (by omega)) (hJn 96 (by omega) (by omega)) (hJn 97 (by omega) (by omega)), ?_, fun s hs => RWs_of (b7 s hs) (hJn _ (by omega) (by omega)) (hJn _ (by omega) (by omega)) (hJn _ (by omega) (by omega)) (hJn _ (by omega) (by omega)) (hJn _ (by omega) (by omega)), fun v hv => ?_, by rw [hJn 0 (by omega) (by omega), h91 1 (by decide)]; exact b9, ?_⟩
    · obtain ⟨d1, d2, d3, d4, d5, d6⟩ := b6
      exact ⟨by rw [hJn 17 (by omega) (by omega)]; exact d1, by rw [hJn 37 (by omega) (by omega)]; exact d2, by rw [hJn 56 (by omega) (by omega)]; exact d3, by rw [hJn 56 (by omega) (by omega)]; exact d4, Pd_2 b1 (Pd_of d5 (by rw [hJn 37 (by omega) (by omega)]) (by rw [hJn 37 (by omega) (by omega)]) (fun q x y => hJn q (by omega) (by omega)) (fun q hq => hJn q (by omega) (by omega))), Ad_2 b1 (Ad_of d6 hR.2.2.1 (by rw [hJn 56 (by omega) (by omega)]) (fun q x y => hJn q (by omega) (by omega)) (fun q hq => hJn q (by omega) (by omega)))⟩
    · by_cases e : v = w
      · subst e
        exact .inl ⟨gU_at _ _ _ _, by rw [hJ, gU_at]⟩
      · have e2 : gU R 2 w none 2 v = R 2 v := gU_slot _ _ _ e
        have e101 : J 101 v = I 101 v := by rw [hJ, gU_slot _ _ _ e, gU_ne _ _ _ _ (by decide)]
        rcases b8 v hv with ⟨x1, x2⟩ | ⟨a', r', t', d', c', f', x1, x2, x3⟩
        · exact .inl ⟨by rw [e2]; exact x1, by rw [e101]; exact x2⟩
        · exact .inr ⟨a', r', t', d', c', f', by rw [e2]; exact x1, WD_2 (WD_of x2 (fun q hq => hJn q (by omega) (by omega))), by rw [e101]; exact x3.1, fun i hi => by rw [hJn 102 (by omega) (by omega)]; exact x3.2 i hi⟩
    · obtain ⟨L, l1, l2, l3, l4⟩ := b10
      exact ⟨L, l1, by rw [hJn 3 (by omega) (by omega)]; exact l2, by rw [h91 28 (by decide)]; exact l3, by rw [hJn 4 (by omega) (by omega), hJn 113 (by omega) (by omega)]; exact l4⟩
  have e101 : gU I 91 0 (0 : Int32) 101 w = I 101 w := gU_ne _ _ _ _ (by decide)
  refine ⟨_, _, _, ?_, hfin⟩
  rcases b8 w w1 with ⟨e1, e2⟩ | ⟨q, r, t, d, c, f, e1, e2, e3⟩
  · unfold f_X11_clear
    rw [(hp I I).1, Option.bind_some, if_neg (by decide), nI_clamp (by omega), gin2 (by omega) (by omega), e1]
    dsimp only
    rw [gin2 (by omega) (by omega), Option.bind_some, if_pos hb]
    unfold f_X12_clear
    have hp2 : f_X12_isPlace N (gU I 91 0 (0 : Int32)) (gU R 2 w none) S (nI w) = some 1 := (hp I (gU I 91 0 (0 : Int32))).2
    rw [hp2, Option.bind_some, if_neg (by decide), nI_clamp (by omega), gin2 (by omega) (by omega), if_pos (by rw [e101, e2]; decide), Option.bind_some, gin2 (by omega) (by omega), if_pos rfl, Option.bind_some, if_pos rfl]
  · unfold f_X11_clear
    rw [(hp I I).1, Option.bind_some, if_neg (by decide), nI_clamp (by omega), gin2 (by omega) (by omega), e1]
    dsimp only
    rw [if_pos e2.2.1.1, gin2 (by omega) (by omega), Option.bind_some, if_pos hb]
    unfold f_X12_clear
    have hp2 : f_X12_isPlace N (gU I 91 0 (0 : Int32)) (gU R 2 w none) S (nI w) = some 1 := (hp I (gU I 91 0 (0 : Int32))).2
    rw [hp2, Option.bind_some, if_neg (by decide), nI_clamp (by omega), gin2 (by omega) (by omega), if_neg (by rw [e101, e3.1]; exact nI_nle (by have := e2.2.2.1.1; omega) (by have := e2.2.2.1.2.1; omega)), Option.bind_some, gin2 (by omega) (by omega), if_neg (by decide), Option.bind_some, if_pos rfl]
end Shelf
