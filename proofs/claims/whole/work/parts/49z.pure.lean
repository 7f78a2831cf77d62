/-! all of it, of functions alone -/
section PureS
theorem pn_ok (pv : Int32) : ∃ p, (p = 2 ∨ p = 3 ∨ p = 5) ∧ ((if pv = (3 : Int32) then some pv else (if pv = (5 : Int32) then some pv else some (2 : Int32))) : Option (Int32)) = some (nI p) := by
  by_cases h3 : pv = 3
  · exact ⟨3, .inr (.inl rfl), by rw [if_pos h3, h3]; rfl⟩
  · by_cases h5 : pv = 5
    · exact ⟨5, .inr (.inr rfl), by rw [if_neg h3, if_pos h5, h5]; rfl⟩
    · exact ⟨2, .inl rfl, by rw [if_neg h3, if_neg h5]; rfl⟩
theorem nn_ok (nv : Int32) : ∃ n, 1 ≤ n ∧ n ≤ 6 ∧ (if (1 : Int32) < (if nv < (6 : Int32) then nv else (6 : Int32)) then (if nv < (6 : Int32) then nv else (6 : Int32)) else (1 : Int32)) = nI n ∧ ((if (1 : Int32) ≤ nv then (if nv ≤ (6 : Int32) then some nv else some (6 : Int32)) else some (1 : Int32)) : Option (Int32)) = some (nI n) := by
  have e1 : (1 : Int32).toInt = 1 := rfl
  have e6 : (6 : Int32).toInt = 6 := rfl
  by_cases h1 : (1 : Int32) ≤ nv
  · by_cases h6 : nv < 6
    · obtain ⟨j, j1, j2⟩ := nI_of3 (x := nv) (m := 6) (by omega) (by
        rw [Int32.le_iff_toInt_le] at h1 ⊢
        have e0 : (0 : Int32).toInt = 0 := rfl
        omega) h6
      have hj1 : 1 ≤ j := by
        rw [Int32.le_iff_toInt_le, j2, nI_toInt (by omega)] at h1
        omega
      refine ⟨j, hj1, by omega, ?_, ?_⟩
      · rw [if_pos h6, j2]
        by_cases hj : 1 < j
        · rw [if_pos (show (1 : Int32) < nI j from nI_lt (a := 1) hj (by omega))]
        · rw [if_neg (show ¬ (1 : Int32) < nI j from nI_nlt (a := 1) (b := j) (by omega) (by omega)), show j = 1 by omega]; rfl
      · rw [if_pos h1, if_pos (by rw [j2]; exact nI_le (b := 6) (by omega) (by omega)), j2]
    · refine ⟨6, by omega, by omega, ?_, ?_⟩
      · rw [if_neg h6, if_pos (by decide)]; rfl
      · rw [if_pos h1]
        by_cases h7 : nv ≤ 6
        · rw [if_pos h7]
          congr 1
          rw [Int32.lt_iff_toInt_lt] at h6
          rw [Int32.le_iff_toInt_le] at h7
          exact Int32.toInt_inj.mp (by rw [nI_toInt (by omega)]; omega)
        · rw [if_neg h7]; rfl
  · refine ⟨1, by omega, by omega, ?_, by rw [if_neg h1]; rfl⟩
    have h6 : nv < 6 := by
      rw [Int32.le_iff_toInt_le] at h1
      rw [Int32.lt_iff_toInt_lt]; omega
    rw [if_pos h6, if_neg (fun z => h1 (by
      rw [Int32.lt_iff_toInt_lt] at z
      rw [Int32.le_iff_toInt_le]; omega))]; rfl
def InvF (k : Nat) (I : gI) (R : gR) (S : gS) : Prop := ∃ (K : Type) (_ : Lean.Grind.CommRing K) (p n : Nat) (X : K) (co : K → Nat), RO K p n X co ∧ IV p n X co k I R S
theorem pure_ok : ∃ (N : Nat) (Inv : Nat → gI → gR → gS → Prop), gPureY N Inv := by
  refine ⟨20000, InvF, ?_, ?_, ?_⟩
  · rintro k I R S ⟨K, _, p, n, X, co, _, h⟩
    exact h.1
  · intro pv nv
    obtain ⟨p, hp, hpv⟩ := pn_ok pv
    obtain ⟨n, h1, h6, hnv, hnv2⟩ := nn_ok nv
    obtain ⟨K, iK, X, co, r1, r2, r3, r4, r5⟩ := ring_made p n (by omega) h1 (fo p n)
    have hR : RO K p n X co := ⟨hp, h1, h6, r1, r2, r3, r4, r5⟩
    obtain ⟨_, a1, J, P, T, rfl, rfl, a4, a5, a6, a7, a8, a9, a10, a11, a12, a13, a14⟩ := s_Y11_init (N := 20000) hR hpv hnv (by omega)
    obtain ⟨_, b1, J2, P2, T2, rfl, rfl, b4, b5, b6, b7, b8, b9, b10, b11, b12⟩ := s_X12_init (N := 20000) (J := gZ J 91) (P := gZn P 91) hR hpv hnv2 (by omega)
    refine ⟨J, P, lay91, J2, P2, layS, a1, by decide, b1, K, iK, p, n, X, co, hR, ?_⟩
    rw [Bool.and_eq_true, List.all_eq_true, List.all_eq_true] at a4
    have hJ : ∀ a, a < 91 → J2 a = J a := fun a ha => by rw [b7 a ha, gZ_ne (by omega)]
    have hP : ∀ a, a < 91 → P2 a = P a := fun a ha => by rw [b4 a (by omega), gZn_ne (by omega)]
    refine ⟨⟨fun q _ _ => rfl, fun x hx _ _ => ?_⟩, by decide, by decide, FH_of a5 h6 (fun a _ h2 => hJ a (by omega)), b6, ⟨by rw [hJ 17 (by omega)]; exact a6, by rw [hJ 37 (by omega)]; exact a7, by rw [hJ 56 (by omega)]; exact a9, by rw [hJ 56 (by omega)]; exact a10, fun w hw => ?_, fun w hw => ?_⟩, fun s hs => ?_, fun w hw => ?_, ?_, ?_⟩
    · rcases layR_M x hx with z | ⟨z1, z2, z3, z4⟩
      · have := a4.1 x hx
        rw [Bool.or_eq_true, decide_eq_true_eq, beq_iff_eq] at this
        rw [hP _ z]
        exact this.resolve_left (by omega)
      · rw [z1, z4]; exact b5 _ z2 z3
    · rw [hJ 37 (by omega), a8] at hw
      cases hw
    · rw [hJ 56 (by omega), a11] at hw
      cases hw
    · obtain ⟨c1, c2⟩ := a14 s hs
      exact ⟨.inl ⟨by rw [hJ _ (by omega)]; exact c1, b10 s hs⟩, fun j hj => by rw [hJ _ (by omega), c2 j, b11]⟩
    · refine .inl ⟨?_, b12 w⟩
      rw [hP 2 (by omega)]
      have := a4.2 w (List.mem_range.mpr hw)
      rw [beq_iff_eq] at this
      exact this
    · rw [hJ 0 (by omega), a12, b8, gZ_at]
    · exact ⟨0, by omega, by rw [hJ 3 (by omega), a13]; exact nI_0.symm, by rw [b9, gZ_at]; exact nI_0.symm, fun i hi => by omega⟩
  · rintro k I R S op a0 a1 a2 a3 a4 hk ⟨K, iK, p, n, X, co, hR, h⟩
    obtain ⟨J, P, T, h1, h2⟩ := st_step (N := 20000) hR h hk (by omega) (t78 hR h hk (by omega)) op a0 a1 a2 a3 a4
    exact ⟨J, P, T, h1, K, iK, p, n, X, co, hR, h2⟩
end PureS
