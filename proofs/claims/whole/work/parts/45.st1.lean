/-! calls that change nothing but the status: acts, order, sum, kernel, alike, stays, field -/
section St1
theorem isP2 {N : Nat} {R : gR} {S : gS} (x : Int32) : (∀ I J, f_X11_isPlace N I R S x = some 0 ∧ f_X12_isPlace N J R S x = some 0) ∨ ∃ w, w < 10 ∧ x = nI w ∧ ∀ I J, f_X11_isPlace N I R S x = some 1 ∧ f_X12_isPlace N J R S x = some 1 := by
  rcases isP (N := N) (I := fun _ _ => 0) (J := fun _ _ => 0) (R := R) (S := S) x with ⟨a, b⟩ | ⟨w, w1, w2, a, b⟩
  · exact .inl (fun I J => ⟨a, b⟩)
  · exact .inr ⟨w, w1, w2, fun I J => ⟨a, b⟩⟩
theorem isR2 {N : Nat} {R : gR} {S : gS} (x : Int32) : (∀ I J, f_X11_isRow N I R S x = some 0 ∧ f_X12_isRow N J R S x = some 0) ∨ ∃ w, w < 8 ∧ x = nI w ∧ ∀ I J, f_X11_isRow N I R S x = some 1 ∧ f_X12_isRow N J R S x = some 1 := by
  rcases isRw (N := N) (I := fun _ _ => 0) (J := fun _ _ => 0) (R := R) (S := S) x with ⟨a, b⟩ | ⟨w, w1, w2, a, b⟩
  · exact .inl (fun I J => ⟨a, b⟩)
  · exact .inr ⟨w, w1, w2, fun I J => ⟨a, b⟩⟩
theorem isE2 {K : Type} [Lean.Grind.CommRing K] {p n : Nat} {X : K} {co : K → Nat} {N : Nat} {R : gR} {S : gS} (hR : RO K p n X co) (x : Int32) : (∀ I J : gI, I 6 2 = nI (p ^ n) → J 91 4 = nI (p ^ n) → f_X2_has N I R S x = some 0 ∧ f_X12_isElement N J R S x = some 0 ∧ (x < 0 ∨ nI (p ^ n) ≤ x)) ∨ ∃ a : K, x = nI (co a) ∧ ∀ I J : gI, I 6 2 = nI (p ^ n) → J 91 4 = nI (p ^ n) → f_X2_has N I R S x = some 1 ∧ f_X12_isElement N J R S x = some 1 := by
  rcases isE (N := N) (I := fun _ _ => nI (p ^ n)) (J := fun _ _ => nI (p ^ n)) (R := R) (S := S) hR rfl rfl x with ⟨a, b, c⟩ | ⟨w, w2, a, b⟩
  · refine .inl (fun I J h1 h2 => ⟨?_, ?_, c⟩)
    · rw [← a]; unfold f_X2_has; rw [h1]
    · rw [← b]; unfold f_X12_isElement; rw [h2]; rfl
  · refine .inr ⟨w, w2, fun I J h1 h2 => ⟨?_, ?_⟩⟩
    · rw [← a]; unfold f_X2_has; rw [h1]
    · rw [← b]; unfold f_X12_isElement; rw [h2]; rfl
theorem isPo2 {K : Type} [Lean.Grind.CommRing K] {p n : Nat} {X : K} {co : K → Nat} {N : Nat} {R : gR} {S : gS} (hR : RO K p n X co) (hN : 60 ≤ N) (x : Int32) : (∀ I J : gI, I 7 7 = nI (p ^ 7) → J 91 2 = nI p → f_X2_hasPolynomial N I R S x = some 0 ∧ f_X12_isPolynomial N J R S x = some 0) ∨ ∃ a D, a < 2147483648 ∧ Ln p a D ∧ D ≤ 7 ∧ x = nI a ∧ ∀ I J : gI, I 7 7 = nI (p ^ 7) → J 91 2 = nI p → f_X2_hasPolynomial N I R S x = some 1 ∧ f_X12_isPolynomial N J R S x = some 1 := by
  have z7 : (7 : Int32).toNatClampNeg = 7 := rfl
  have hc : ∀ I : gI, I 7 7 = nI (p ^ 7) → f_X2_hasPolynomial N I R S x = f_X2_hasPolynomial N (fun _ i => nI (p ^ i)) R S x := fun I h => by
    unfold f_X2_hasPolynomial
    rw [z7, h]
  have hd : ∀ J : gI, J 91 2 = nI p → f_X12_isPolynomial N J R S x = f_X12_isPolynomial N (fun _ _ => nI p) R S x := fun J h => by
    unfold f_X12_isPolynomial
    rw [h]; rfl
  rcases isPo (N := N) (I := fun _ i => nI (p ^ i)) (J := fun _ _ => nI p) (R := R) (S := S) hR (fun _ _ => rfl) rfl hN x with ⟨a, b⟩ | ⟨w, D, w1, w2, w3, w4, a, b⟩
  · exact .inl (fun I J h1 h2 => ⟨(hc I h1).trans a, (hd J h2).trans b⟩)
  · exact .inr ⟨w, D, w1, w2, w3, w4, fun I J h1 h2 => ⟨(hc I h1).trans a, (hd J h2).trans b⟩⟩
theorem k_fin {K : Type} [Lean.Grind.CommRing K] {p n : Nat} {X : K} {co : K → Nat} {k : Nat} {I : gI} {R : gR} {S : gS} {c : Option (Int32 × gI)} {m : gI → Option (Int32 × gI)} (hR : RO K p n X co) (h : IV p n X co k I R S) (hx : ∃ v J1 J2 st, c = some (v, J1) ∧ CS p n X co R S I J1 st ∧ m J1 = some (v, J2) ∧ MS J1 J2 st) : ∃ J P T, c.bind (fun z => if gLayb 0 114 R S = true then (m z.2).bind (fun y => if z.1 = y.1 then some (y.2, R, S) else none) else none) = some (J, P, T) ∧ IV p n X co (k + 1) J P T := by
  obtain ⟨v, J1, J2, st, h1, h2, h3, h4⟩ := hx
  refine ⟨J2, R, S, ?_, step_ok hR h h2 h4⟩
  rw [h1, Option.bind_some, if_pos (gLayb_of h.1), h3, Option.bind_some, if_pos rfl]
theorem k_fin0 {K : Type} [Lean.Grind.CommRing K] {p n : Nat} {X : K} {co : K → Nat} {k : Nat} {I : gI} {R : gR} {S : gS} {c : Option Int32} {m : Option (Int32 × gI)} (hR : RO K p n X co) (h : IV p n X co k I R S) (hx : ∃ v J2, c = some v ∧ m = some (v, J2) ∧ MS I J2 (I 0 7)) : ∃ J P T, c.bind (fun z => if gLayb 0 114 R S = true then m.bind (fun y => if z = y.1 then some (y.2, R, S) else none) else none) = some (J, P, T) ∧ IV p n X co (k + 1) J P T := by
  obtain ⟨v, J2, h1, h3, h4⟩ := hx
  refine ⟨J2, R, S, ?_, step_ok hR h (⟨fun _ _ => rfl, h.2.2.2.2.2.1, rfl⟩ : CS p n X co R S I I (I 0 7)) h4⟩
  rw [h1, Option.bind_some, if_pos (gLayb_of h.1), h3, Option.bind_some, if_pos rfl]
theorem CS_I {K : Type} [Lean.Grind.CommRing K] {p n : Nat} {X : K} {co : K → Nat} {k : Nat} {I : gI} {R : gR} {S : gS} (h : IV p n X co k I R S) : CS p n X co R S I I (I 0 7) := ⟨fun _ _ => rfl, h.2.2.2.2.2.1, rfl⟩
theorem CS_st {K : Type} [Lean.Grind.CommRing K] {p n : Nat} {X : K} {co : K → Nat} {I J : gI} {R : gR} {S : gS} (hR : RO K p n X co) (hf : ∀ a, ¬ (a = 0 ∨ a = 5 ∨ (17 ≤ a ∧ a ≤ 74)) → J a = I a) (hc : CST p n X co J R S) (st : Int32) : CS p n X co R S I (gU J 0 7 st) st := by
  obtain ⟨d1, d2, d3, d4, d5, d6⟩ := hc
  have hne : ∀ a, a ≠ 0 → gU J 0 7 st a = J a := fun a ha => gU_cell _ _ _ ha
  refine ⟨fun a ha => by rw [hne a (by omega)]; exact hf a ha, ⟨by rw [hne 17 (by omega)]; exact d1, by rw [hne 37 (by omega)]; exact d2, by rw [hne 56 (by omega)]; exact d3, by rw [hne 56 (by omega)]; exact d4, Pd_of d5 (by rw [hne 37 (by omega)]) (by rw [hne 37 (by omega)]) (fun a h1 h2 => hne a (by omega)) (fun a ha => hne a (by omega)), Ad_of d6 hR.2.2.1 (by rw [hne 56 (by omega)]) (fun a h1 h2 => hne a (by omega)) (fun a ha => hne a (by omega))⟩, gU_at _ _ _ _⟩
theorem MS_bad {I : gI} {st : Int32} (h : I 91 1 = st) : MS I (gU I 91 0 (0 : Int32)) st := ⟨fun a ha => gU_cell _ _ _ (by omega), fun j hj => gU_slot _ _ _ (by omega), by rw [gU_slot _ _ _ (by decide)]; exact h⟩
theorem MS_found {I : gI} (st : Int32) : MS I (gU (gU (gU I 91 0 (0 : Int32)) 91 1 (0 : Int32)) 91 1 st) st := ⟨fun a ha => by rw [gU_cell _ _ _ (by omega), gU_cell _ _ _ (by omega), gU_cell _ _ _ (by omega)], fun j hj => by rw [gU_slot _ _ _ (by omega), gU_slot _ _ _ (by omega), gU_slot _ _ _ (by omega)], gU_at _ _ _ _⟩
/-- the model's heap once a call has begun, and status is 0 -/
def m0 (I : gI) : gI := gU (gU I 91 0 (0 : Int32)) 91 1 (0 : Int32)
theorem m0_ne {I : gI} {a : Nat} (h : a ≠ 91) : m0 I a = I a := by unfold m0; rw [gU_cell _ _ _ h, gU_cell _ _ _ h]
theorem m0_slot {I : gI} {j : Nat} (h : 2 ≤ j) : m0 I 91 j = I 91 j := by unfold m0; rw [gU_slot _ _ _ (by omega), gU_slot _ _ _ (by omega)]
theorem m0_MH {K : Type} [Lean.Grind.CommRing K] {p n : Nat} {X : K} {co : K → Nat} {I : gI} (h : MH p n X co I) : MH p n X co (m0 I) := MH_of h (fun j hj _ => m0_slot hj) (m0_ne (by decide)) (m0_ne (by decide))
theorem m0_MW {K : Type} [Lean.Grind.CommRing K] {co : K → Nat} {I : gI} {w r : Nat} {t : Nat → K} (h : MW co I w r t) : MW co (m0 I) w r t := MW_of h (m0_ne (by decide)) (m0_ne (by decide))
theorem MS_m0 {I J : gI} {l : List Nat} (h : Fs l (m0 I) J) (hl : ∀ a, a ∈ l → (92 ≤ a ∧ a ≤ 95) ∨ (103 ≤ a ∧ a ≤ 112)) : MS I J 0 := by
  have hn : ∀ a, ¬ ((92 ≤ a ∧ a ≤ 95) ∨ (103 ≤ a ∧ a ≤ 112)) → J a = m0 I a := fun a ha => h a (fun z => ha (hl a z))
  refine ⟨fun a ha => by rw [hn a (by omega), m0_ne (by omega)], fun j hj => by rw [hn 91 (by omega), m0_slot hj], ?_⟩
  rw [hn 91 (by omega)]
  unfold m0
  exact gU_at _ _ _ _
theorem look_no {N : Nat} {I : gI} {R : gR} {S : gS} {w : Nat} (hw : w < 10) (h : I 101 w = 0) : f_X12_look N (gU I 91 0 (0 : Int32)) R S (nI w) = some ((-1000010 : Int32) - 1, gU (gU (gU I 91 0 (0 : Int32)) 91 1 (0 : Int32)) 91 1 1) := by
  unfold f_X12_look
  rw [nI_clamp (by omega), gin2 (by omega) (by omega), if_pos (by rw [gU_ne _ _ _ _ (by decide), gU_ne _ _ _ _ (by decide)]; exact h)]
  rfl
theorem look_yes {K : Type} [Lean.Grind.CommRing K] {co : K → Nat} {N : Nat} {I : gI} {R : gR} {S : gS} {w r : Nat} {t : Nat → K} (hw : w < 10) (h : MW co I w r t) (hr : 1 ≤ r) (hr3 : r ≤ 3) : f_X12_look N (gU I 91 0 (0 : Int32)) R S (nI w) = some (0, m0 I) := by
  unfold f_X12_look
  rw [nI_clamp (by omega), gin2 (by omega) (by omega), if_neg (fun z => by
    rw [gU_ne _ _ _ _ (by decide), gU_ne _ _ _ _ (by decide), h.1] at z
    exact nI_ne0 (by omega) (by omega) z)]
  rfl
end St1
