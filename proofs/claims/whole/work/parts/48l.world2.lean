/-! a world out of a row -/
section World2
theorem in1 {N : Nat} {R : gR} {S : gS} (m : Nat) (hm : m < 2147483648) (x : Int32) : ((x < 1 ∨ ¬ x ≤ nI m) ∧ ∀ J : gI, f_X12_in N J R S x.toInt64 (1 : Int64) (nI m).toInt64 = some 0) ∨ ∃ j, 1 ≤ j ∧ j ≤ m ∧ x = nI j ∧ ¬ x < 1 ∧ x ≤ nI m ∧ ∀ J : gI, f_X12_in N J R S x.toInt64 (1 : Int64) (nI m).toInt64 = some 1 := by
  have e0 : (0 : Int32).toInt = 0 := rfl
  have e1 : (1 : Int32).toInt = 1 := rfl
  have hmI := nI_toInt (n := m) hm
  have hs := fun J : gI => s_in (N := N) (I := J) (R := R) (S := S) x 1 (nI m)
  by_cases h : (1 : Int32) ≤ x ∧ x ≤ nI m
  · have h1 := h.1
    have h2 := h.2
    obtain ⟨j, j1, j2⟩ := nI_of (x := x) (fun z => by
      rw [Int32.le_iff_toInt_le] at h1
      rw [Int32.lt_iff_toInt_lt] at z
      omega)
    refine .inr ⟨j, ?_, ?_, j2, ?_, h2, fun J => (hs J).trans (by rw [if_pos h])⟩
    · rw [j2] at h1
      exact (nI_leI (show 1 < 2147483648 by omega) j1).mp h1
    · rw [j2] at h2
      exact (nI_leI j1 hm).mp h2
    · intro z
      rw [Int32.lt_iff_toInt_lt] at z
      rw [Int32.le_iff_toInt_le] at h1
      omega
  · refine .inl ⟨?_, fun J => (hs J).trans (by rw [if_neg h])⟩
    by_cases h1 : x < 1
    · exact .inl h1
    · refine .inr (fun z => h ⟨?_, z⟩)
      rw [Int32.lt_iff_toInt_lt] at h1
      rw [Int32.le_iff_toInt_le]; omega
theorem CST_q {K : Type} [Lean.Grind.CommRing K] {p n : Nat} {X : K} {co : K → Nat} {I J : gI} {R : gR} {S : gS} (hR : RO K p n X co) (h : CST p n X co I R S) (hJ : ∀ q, (17 ≤ q ∧ q ≤ 63) ∨ 114 ≤ q → J q = I q) : CST p n X co J R S := by
  obtain ⟨d1, d2, d3, d4, d5, d6⟩ := h
  exact ⟨by rw [hJ 17 (by omega)]; exact d1, by rw [hJ 37 (by omega)]; exact d2, by rw [hJ 56 (by omega)]; exact d3, by rw [hJ 56 (by omega)]; exact d4, Pd_of d5 (by rw [hJ 37 (by omega)]) (by rw [hJ 37 (by omega)]) (fun a h1 h2 => hJ a (by omega)) (fun a ha => hJ a (by omega)), Ad_of d6 hR.2.2.1 (by rw [hJ 56 (by omega)]) (fun a h1 h2 => hJ a (by omega)) (fun a ha => hJ a (by omega))⟩
theorem CST_ex {K : Type} [Lean.Grind.CommRing K] {p n : Nat} {X : K} {co : K → Nat} {I J : gI} {R P : gR} {S T : gS} (hR : RO K p n X co) (h : CST p n X co I R S) (hE : Ex R P S T) (hS : 114 ≤ S.length) (hJ : ∀ q, q < S.length → (17 ≤ q ∧ q ≤ 63) ∨ 114 ≤ q → J q = I q) : CST p n X co J P T := by
  obtain ⟨d1, d2, d3, d4, d5, d6⟩ := h
  exact ⟨by rw [hJ 17 (by omega) (by omega)]; exact d1, by rw [hJ 37 (by omega) (by omega)]; exact d2, by rw [hJ 56 (by omega) (by omega)]; exact d3, by rw [hJ 56 (by omega) (by omega)]; exact d4, Pd_ex d5 hE (by rw [hJ 37 (by omega) (by omega)]) (by rw [hJ 37 (by omega) (by omega)]) (fun a h1 h2 => hJ a (by omega) (by omega)) (fun a h1 h2 => hJ a h2 (by omega)), Ad_ex d6 hR.2.2.1 hE (by rw [hJ 56 (by omega) (by omega)]) (fun a h1 h2 => hJ a (by omega) (by omega)) (fun a h1 h2 => hJ a h2 (by omega))⟩
theorem kw_fin {K : Type} [Lean.Grind.CommRing K] {p n : Nat} {X : K} {co : K → Nat} {k : Nat} {c : Option (Int32 × gI × gR × gS)} {m : gI → gR → gS → Option (Int32 × gI)} (hx : ∃ v J1 P T J2, c = some (v, J1, P, T) ∧ m J1 P T = some (v, J2) ∧ IV p n X co (k + 1) J2 P T) : ∃ J P T, c.bind (fun z => if gLayb 0 114 z.2.2.1 z.2.2.2 = true then (m z.2.1 z.2.2.1 z.2.2.2).bind (fun y => if z.1 = y.1 then some (y.2, z.2.2.1, z.2.2.2) else none) else none) = some (J, P, T) ∧ IV p n X co (k + 1) J P T := by
  obtain ⟨v, J1, P, T, J2, h1, h3, h4⟩ := hx
  refine ⟨J2, P, T, ?_, h4⟩
  rw [h1, Option.bind_some, if_pos (gLayb_of h4.1)]
  dsimp only
  rw [h3, Option.bind_some, if_pos rfl]
theorem kw_cs {K : Type} [Lean.Grind.CommRing K] {p n : Nat} {X : K} {co : K → Nat} {k : Nat} {I : gI} {R : gR} {S : gS} {c : Option (Int32 × gI × gR × gS)} {m : gI → gR → gS → Option (Int32 × gI)} (hR : RO K p n X co) (h : IV p n X co k I R S) (v st : Int32) (J1 J2 : gI) (h1 : c = some (v, J1, R, S)) (h2 : CS p n X co R S I J1 st) (h3 : m J1 R S = some (v, J2)) (h4 : MS J1 J2 st) : ∃ v J1 P T J2, c = some (v, J1, P, T) ∧ m J1 P T = some (v, J2) ∧ IV p n X co (k + 1) J2 P T := ⟨v, J1, R, S, J2, h1, h3, step_ok hR h h2 h4⟩
theorem CS_5 {K : Type} [Lean.Grind.CommRing K] {p n : Nat} {X : K} {co : K → Nat} {k : Nat} {I J : gI} {R : gR} {S : gS} (hR : RO K p n X co) (h : IV p n X co k I R S) (hJ : ∀ q, q ≠ 5 → J q = I q) : CS p n X co R S I J (I 0 7) := ⟨fun q hq => hJ q (by omega), CST_q hR h.2.2.2.2.2.1 (fun q hq => hJ q (by omega)), by rw [hJ 0 (by omega)]⟩
theorem CS_f {K : Type} [Lean.Grind.CommRing K] {p n : Nat} {X : K} {co : K → Nat} {k : Nat} {I : gI} {R : gR} {S : gS} (hR : RO K p n X co) (h : IV p n X co k I R S) (e : Int32) : CS p n X co R S I (gU I 0 7 e) e := CS_st hR (fun _ _ => rfl) h.2.2.2.2.2.1 e
theorem MS_f1 {I : gI} (st : Int32) : MS I (gU (gU I 91 0 (0 : Int32)) 91 1 st) st := ⟨fun a ha => by rw [gU_cell _ _ _ (by omega), gU_cell _ _ _ (by omega)], fun j hj => by rw [gU_slot _ _ _ (by omega), gU_slot _ _ _ (by omega)], gU_at _ _ _ _⟩
theorem MS_q {I J : gI} {st : Int32} (h : I 91 1 = st) (hJ : ∀ q, ¬ (103 ≤ q ∧ q ≤ 112) → J q = gU I 91 0 (0 : Int32) q) : MS I J st := ⟨fun a ha => by rw [hJ a (by omega), gU_cell _ _ _ (by omega)], fun j hj => by rw [hJ 91 (by omega), gU_slot _ _ _ (by omega)], by rw [hJ 91 (by omega), gU_slot _ _ _ (by decide)]; exact h⟩
theorem lsum3 {i m sz : Nat} (hi : i < 2147483648) (hm : m < 1000) (hz : sz < 1000) : lg_cmp (((nI i).toInt64 + (nI m).toInt64) + (1 : Int64)) ((nI sz).toInt64) ≤ 0 ↔ i + (m + 1) ≤ sz := by
  rw [lg_cmp_le, nI_l hi, nI_l (by omega), nI_l (by omega), lN_add, show (1 : Int64) = lN 1 from rfl, lN_add, Nat.add_assoc]
  exact pk_lLE (by omega) (by omega)
end World2
