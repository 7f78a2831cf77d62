/-! laying a new world, on both sides -/
section LayFin
theorem lay_fin {K : Type} [Lean.Grind.CommRing K] {p n : Nat} {X : K} {co : K → Nat} {k N : Nat} {I I1 : gI} {R : gR} {S : gS} {w r : Nat} {t : Nat → K} (hR : RO K p n X co) (h : IV p n X co k I R S) (hk : k < 512) (hN : 60 ≤ N) (hw : w < 10) (hV : WV r t) (ht : ∀ j, j < 4 → I1 S.length j = nI (co (t j))) (hC : CST p n X co I1 R (S ++ [(12, 4)])) (hI : ∀ q, q < S.length → ¬ (q = 0 ∨ q = 5 ∨ (17 ≤ q ∧ q ≤ 74)) → I1 q = I q) :
    ∃ a Jw P T v J1, f_X8_worldOf N I1 R (S ++ [(12, 4)]) S.length (nI r) = some (a, Jw, P, T) ∧ gLayb 0 91 P T = true ∧ f_X11_shelve N Jw P T (nI w) a = some (v, J1, gU P 2 w (some a), T) ∧ (∀ q, q < S.length → ¬ (q = 0 ∨ q = 5 ∨ (17 ≤ q ∧ q ≤ 74)) → J1 q = I q) ∧ ∀ W : gI, (∀ q, ¬ (q = 91 ∨ (103 ≤ q ∧ q ≤ 112)) → W q = J1 q) → (∀ j, 2 ≤ j → W 91 j = J1 91 j) → (∀ j, j ≤ r → W 107 j = nI (co (t j))) → ∃ J2, f_X12_lay N W (gU P 2 w (some a)) T (nI w) (nI r) = some (v, J2) ∧ IV p n X co (k + 1) J2 (gU P 2 w (some a)) T := by
  have hIV := h
  obtain ⟨b1, b2, b3, b4, b5, b6, b7, b8, b9, b10⟩ := h
  have hE0 : Ex R R S (S ++ [(12, 4)]) := ⟨fun _ _ => rfl, fun q hq => by rw [List.getElem?_append_left hq], by simp⟩
  have hl1 : (S ++ [((12, 4) : Nat × Nat)]).length = S.length + 1 := by simp
  have hF : FH p n X co I1 := FH_of b4 hR.2.2.1 (fun q x y => hI q (by omega) (by omega))
  obtain ⟨a, Jw, P, T, d, c, f, w1, w2, w3, w4, w5, w6⟩ := s_worldOf (N := N) (b := S.length) hR (gLay_ex b1 hE0 b2) (by omega) (by omega) hF hC b2 (gS_last rfl) ht hV hN
  have hE := hE0.trans w2
  have hlay := gLay_ex b1 hE b2
  have hJ1 : ∀ q, q < S.length → ¬ (q = 0 ∨ q = 5 ∨ (17 ≤ q ∧ q ≤ 74)) → gU Jw 0 7 (0 : Int32) q = I q := fun q hq h2 => by rw [gU_cell _ _ _ (by omega), w6 q (by omega) (by omega), hI q hq h2]
  refine ⟨a, Jw, P, T, _, _, w1, gLayb_of (hlay.sub (a1 := 0) (b1 := 91) (by omega) (by omega)), s_shelve w4 hlay hw, hJ1, fun W hW hW91 h107 => ?_⟩
  have hMW : MH p n X co W := MH_of b5 (fun j hj _ => by rw [hW91 j hj, hJ1 91 (by omega) (by omega)]) (by rw [hW 96 (by omega), hJ1 96 (by omega) (by omega)]) (by rw [hW 97 (by omega), hJ1 97 (by omega) (by omega)])
  obtain ⟨J2, y1, y2, y3, y4, y5, y6, y7⟩ := m_lay (N := N) (R := gU P 2 w (some a)) (S := T) hR hMW hw h107 hV w4.2.2.2.1 (fun q h1 h2 => hlay.1 q (by omega) (by omega)) w4.2.2.2.2.2.2.2.2.1 w4.2.2.2.2.2.2.2.2.2.1 hN
  refine ⟨J2, y1, IV_new (J1 := gU Jw 0 7 (0 : Int32)) hR hIV hE (by omega) hJ1 (CST_q hR w5 (fun q hq => gU_cell _ _ _ (by omega))) (WD_of w4 (fun q hq => gU_cell _ _ _ (by omega))) (gU_at _ _ _ _) hw (fun q hq => by rw [y2 q (by omega), hW q (by omega)]) (fun j hj => by rw [y3 j (by omega), hW91 j hj]) y4 y5 (fun v hv => by rw [y6 v hv, hW 101 (by omega)]) (fun x hx => by rw [y7 x hx, hW 102 (by omega)])⟩
end LayFin
