/-! both are made -/
section InitS
def lay91 : List (Nat × Nat) := layS.take 91
theorem layR_M : ∀ x ∈ layR, x.1 < 91 ∨ (x.1 = 91 ∧ 6 ≤ x.2.1 ∧ x.2.1 ≤ 27 ∧ x.2.2 = x.2.1 + 86) := by decide +kernel
theorem layS_M : ∀ q, 92 ≤ q → q ≤ 95 → layS[q]? = some (12, 16) := by
  intro q h1 h2
  rcases (show q = 92 ∨ q = 93 ∨ q = 94 ∨ q = 95 by omega) with rfl | rfl | rfl | rfl <;> rfl
set_option maxRecDepth 100000 in
theorem s_X12_init {K : Type} [Lean.Grind.CommRing K] {p n : Nat} {X : K} {co : K → Nat} {J : gI} {P : gR} {N : Nat} {pv nv : Int32} (hR : RO K p n X co) (hpv : ((if pv = (3 : Int32) then some pv else (if pv = (5 : Int32) then some pv else some (2 : Int32))) : Option (Int32)) = some (nI p)) (hnv : ((if (1 : Int32) ≤ nv then (if nv ≤ (6 : Int32) then some nv else some (6 : Int32)) else some (1 : Int32)) : Option (Int32)) = some (nI n)) (hN : 16000 ≤ N) :
    ∃ y, f_X12_init N J P (lay91 ++ [(11, 29)]) pv nv = some y ∧ ∃ J2 P2 T2, y = (J2, P2, T2) ∧ T2 = layS ∧ (∀ a, a ≠ 91 → P2 a = P a) ∧ (∀ k, 6 ≤ k → k ≤ 27 → P2 91 k = some (k + 86)) ∧ MH p n X co J2 ∧ (∀ a, a < 91 → J2 a = J a) ∧ J2 91 1 = J 91 1 ∧ J2 91 28 = J 91 28 ∧ (∀ s, s < 8 → J2 98 s = -1) ∧ (∀ j, J2 100 j = 0) ∧ ∀ w, J2 101 w = 0 := by
  unfold f_X12_init
  refine ite_ex (by decide +kernel) ?_
  refine ite_ex (by decide +kernel) ?_
  refine ite_ex (by decide +kernel) ?_
  refine ite_ex (by decide +kernel) ?_
  refine ite_ex (by decide +kernel) ?_
  refine ite_ex (by decide +kernel) ?_
  refine ite_ex (by decide +kernel) ?_
  refine ite_ex (by decide +kernel) ?_
  refine ite_no (by decide) ?_
  refine ite_no (by decide) ?_
  refine ite_no (by decide) ?_
  refine ite_no (by decide) ?_
  refine ite_no (by decide) ?_
  refine ite_no (by decide) ?_
  refine ite_no (by decide) ?_
  refine ite_no (by decide) ?_
  refine ite_ex (by decide +kernel) ?_
  refine ite_ex (by decide +kernel) ?_
  refine ite_ex (by decide +kernel) ?_
  refine ite_ex (by decide +kernel) ?_
  refine ite_ex (by decide +kernel) ?_
  refine ite_ex (by decide +kernel) ?_
  refine ite_ex (by decide +kernel) ?_
  refine ite_ex (by decide +kernel) ?_
  refine ite_ex (by decide +kernel) ?_
  refine ite_ex (by decide +kernel) ?_
  refine ite_ex (by decide +kernel) ?_
  refine ite_ex (by decide +kernel) ?_
  refine ite_ex (by decide +kernel) ?_
  refine ite_ex (by decide +kernel) ?_
  refine ite_ex (by decide +kernel) ?_
  refine bind_eq hpv ?_
  refine bind_eq hnv ?_
  have hT : ((((((((((((((((((((((lay91 ++ [(11, 29)]) ++ [(12, 16)]) ++ [(12, 16)]) ++ [(12, 16)]) ++ [(12, 16)]) ++ [(12, 15625)]) ++ [(12, 15625)]) ++ [(12, 8)]) ++ [(12, 8)]) ++ [(12, 192)]) ++ [(12, 10)]) ++ [(12, 40)]) ++ [(12, 24)]) ++ [(12, 24)]) ++ [(12, 24)]) ++ [(12, 8)]) ++ [(12, 4)]) ++ [(12, 5)]) ++ [(12, 42)]) ++ [(12, 448)]) ++ [(12, 36)]) ++ [(12, 20)]) ++ [(12, 16)] = layS := by decide +kernel
  rw [hT]
  obtain ⟨P2, hP2⟩ : ∃ P2, P2 = (gU (gU (gU (gU (gU (gU (gU (gU (gU (gU (gU (gU (gU (gU (gU (gU (gU (gU (gU (gU (gU (gU P 91 6 (some 92)) 91 7 (some 93)) 91 8 (some 94)) 91 9 (some 95)) 91 10 (some 96)) 91 11 (some 97)) 91 12 (some 98)) 91 13 (some 99)) 91 14 (some 100)) 91 15 (some 101)) 91 16 (some 102)) 91 17 (some 103)) 91 18 (some 104)) 91 19 (some 105)) 91 20 (some 106)) 91 21 (some 107)) 91 22 (some 108)) 91 23 (some 109)) 91 24 (some 110)) 91 25 (some 111)) 91 26 (some 112)) 91 27 (some 113)) := ⟨_, rfl⟩
  have hPk : ∀ k, 6 ≤ k → k ≤ 27 → P2 91 k = some (k + 86) := fun k h1 h2 => by
    rw [hP2]
    rcases (show k = 6 ∨ k = 7 ∨ k = 8 ∨ k = 9 ∨ k = 10 ∨ k = 11 ∨ k = 12 ∨ k = 13 ∨ k = 14 ∨ k = 15 ∨ k = 16 ∨ k = 17 ∨ k = 18 ∨ k = 19 ∨ k = 20 ∨ k = 21 ∨ k = 22 ∨ k = 23 ∨ k = 24 ∨ k = 25 ∨ k = 26 ∨ k = 27 by omega) with rfl | rfl | rfl | rfl | rfl | rfl | rfl | rfl | rfl | rfl | rfl | rfl | rfl | rfl | rfl | rfl | rfl | rfl | rfl | rfl | rfl | rfl <;> rfl
  have hPa : ∀ a, a ≠ 91 → P2 a = P a := fun a ha => by
    rw [hP2]
    iterate 22 rw [gU_cell _ _ _ ha]
  rw [← hP2]
  refine ite_ex (gLayb_of ⟨fun q _ _ => rfl, fun x hx h1 _ => ?_⟩) ?_
  · rcases layR_M x hx with z | ⟨z1, z2, z3, z4⟩
    · omega
    · rw [z1, z4]; exact hPk _ z2 z3
  obtain ⟨I1, hI1⟩ : ∃ I1, I1 = (gU (gU (gZ (gZ (gZ (gZ (gZ (gZ (gZ (gZ (gZ (gZ (gZ (gZ (gZ (gZ (gZ (gU (gU (gU (gU (gU (gU (gU (gU (gZ (gZ (gZ (gZ (gZ (gZ (gZ J 92) 93) 94) 95) 96) 97) 98) 98 (0 : Int32).toNatClampNeg (-1 : Int32)) 98 (1 : Int32).toNatClampNeg (-1 : Int32)) 98 (2 : Int32).toNatClampNeg (-1 : Int32)) 98 (3 : Int32).toNatClampNeg (-1 : Int32)) 98 (4 : Int32).toNatClampNeg (-1 : Int32)) 98 (5 : Int32).toNatClampNeg (-1 : Int32)) 98 (6 : Int32).toNatClampNeg (-1 : Int32)) 98 (7 : Int32).toNatClampNeg (-1 : Int32)) 99) 100) 101) 102) 103) 104) 105) 106) 107) 108) 109) 110) 111) 112) 113) 91 2 (nI p)) 91 3 (nI n)) := ⟨_, rfl⟩
  have i98 : ∀ s, s < 8 → I1 98 s = -1 := fun s hs => by
    rw [hI1]
    rcases (show s = 0 ∨ s = 1 ∨ s = 2 ∨ s = 3 ∨ s = 4 ∨ s = 5 ∨ s = 6 ∨ s = 7 by omega) with rfl | rfl | rfl | rfl | rfl | rfl | rfl | rfl <;> rfl
  have i2 : I1 91 2 = nI p := by rw [hI1, gU_slot _ _ _ (by decide), gU_at]
  have i3 : I1 91 3 = nI n := by rw [hI1, gU_at]
  have i100 : ∀ j, I1 100 j = 0 := fun j => by rw [hI1]; rfl
  have i101 : ∀ j, I1 101 j = 0 := fun j => by rw [hI1]; rfl
  have ilo : ∀ a, a < 91 → I1 a = J a := fun a ha => by
    rw [hI1, gU_cell _ _ _ (by omega), gU_cell _ _ _ (by omega)]
    iterate 15 rw [gZ_ne (by omega)]
    iterate 8 rw [gU_cell _ _ _ (by omega)]
    iterate 7 rw [gZ_ne (by omega)]
  have i91 : ∀ j, j ≠ 2 → j ≠ 3 → I1 91 j = J 91 j := fun j h2 h3 => by
    rw [hI1, gU_slot _ _ _ h3, gU_slot _ _ _ h2]
    iterate 15 rw [gZ_ne (by omega)]
    iterate 8 rw [gU_cell _ _ _ (by omega)]
    iterate 7 rw [gZ_ne (by omega)]
  rw [← hI1]
  refine ex_mono (x12_tail hR i2 i3 layS_M hN) ?_
  rintro y ⟨J2, rfl, b1, b2, b3⟩
  refine ⟨J2, P2, layS, rfl, rfl, hPa, hPk, b1, fun a ha => by rw [b2 a (by omega)]; exact ilo a ha, by rw [b3 1 (by omega)]; exact i91 1 (by decide) (by decide), by rw [b3 28 (by omega)]; exact i91 28 (by decide) (by decide), fun s hs => by rw [b2 98 (by omega)]; exact i98 s hs, fun j => by rw [b2 100 (by omega)]; exact i100 j, fun w => by rw [b2 101 (by omega)]; exact i101 w⟩
theorem x9_init {I : gI} {R : gR} {S : gS} {N : Nat} (h1 : S.length = 4) (h2 : (S ++ [(12, 16)])[3]? = some (9, 2)) : f_X9_init N I R S = some (gU (gZ I 4) 3 1 (0 : Int32), gU R 3 0 (some 4), S ++ [(12, 16)]) := by
  unfold f_X9_init; rw [if_pos h1, if_pos h2]
theorem x5_init {I : gI} {R : gR} {S : gS} {N q : Nat} (h1 : S[q]? = some (5, 3)) (h2 : S.length = (q + 1)) : f_X5_init N I R S q = some (gU (gU (gZ I (q + 1)) q 1 (0 : Int32)) q 2 (-1 : Int32), gU R q 0 (some (q + 1)), S ++ [(12, 24)]) := by
  unfold f_X5_init; rw [if_pos h1, if_pos h2]
set_option maxRecDepth 100000 in
set_option maxHeartbeats 4000000 in
theorem s_Y11_init {K : Type} [Lean.Grind.CommRing K] {p n : Nat} {X : K} {co : K → Nat} {N : Nat} {pv nv : Int32} (hR : RO K p n X co) (hpv : ((if pv = (3 : Int32) then some pv else (if pv = (5 : Int32) then some pv else some (2 : Int32))) : Option (Int32)) = some (nI p)) (hnv : (if (1 : Int32) < (if nv < (6 : Int32) then nv else (6 : Int32)) then (if nv < (6 : Int32) then nv else (6 : Int32)) else (1 : Int32)) = nI n) (hN : 16000 ≤ N) :
    ∃ y, f_Y11_init N (gZ (fun _ _ => 0) 0) (gZn (fun _ _ => none) 0) ([] ++ [(10, 8)]) pv nv = some y ∧ ∃ J P T, y = (J, P, T) ∧ T = lay91 ∧ (layR.all (fun x => decide (91 ≤ x.1) || (P x.1 x.2.1 == some x.2.2)) && (List.range 10).all (fun w => P 2 w == none)) = true ∧ FH p n X co J ∧ J 17 1 = nI p ∧ J 37 2 = nI n ∧ J 37 4 = 0 ∧ J 56 2 = nI p ∧ J 56 3 = nI n ∧ J 56 5 = 0 ∧ J 0 7 = 0 ∧ J 3 1 = 0 ∧ ∀ s, s < 8 → J (75 + 2 * s) 2 = -1 ∧ ∀ j, J (75 + 2 * s + 1) j = 0 := by
  unfold f_Y11_init
  refine ite_ex (by decide +kernel) ?_
  refine ite_ex (by decide +kernel) ?_
  refine ite_ex (by decide +kernel) ?_
  refine ite_ex (by decide +kernel) ?_
  refine bind_eq (x9_init (by decide +kernel) (by decide +kernel)) ?_
  dsimp only
  refine ite_ex (by decide +kernel) ?_
  refine ite_ex (by decide +kernel) ?_
  refine ite_ex (by decide +kernel) ?_
  refine bind_eq hpv ?_
  rw [hnv]
  refine bind_ex (s_X2_init hR (by decide +kernel) (by decide +kernel) (by decide +kernel) (by omega)) ?_
  rintro _ ⟨J1, rfl, f1, f2⟩
  have j60 := f1.1.1.1
  have j61 := f1.1.1.2.1
  have j07 : J1 0 7 = 0 := by rw [f2 0 (by omega)]; rfl
  have j31 : J1 3 1 = 0 := by rw [f2 3 (by omega)]; rfl
  clear f2
  dsimp only
  refine ite_ex (by decide +kernel) ?_
  refine ite_ex (by decide +kernel) ?_
  unfold f_X6_init
  refine bind_ex (P := fun y => ∃ J2, y = (J2, _, _) ∧ (∀ a, a ≤ 16 → J2 a = J1 a) ∧ J2 17 1 = nI p) (ite_ex (by decide +kernel) (ite_ex (by decide +kernel) (ite_ex (by decide +kernel) (ite_ex (by decide +kernel) (ite_ex (by decide +kernel) (ite_ex (by decide +kernel) (ite_ex (by decide +kernel) ⟨_, rfl, _, rfl, fun a ha => ?_, j60⟩))))))) ?_
  · iterate 4 rw [gU_cell _ _ _ (by omega)]
    rw [gZ_ne (by omega)]
    funext j
    show (if 28 ≤ a ∧ a ≤ 28 + 7 then 0 else if 20 ≤ a ∧ a ≤ 20 + 7 then 0 else gZ (gZ (gZ J1 17) 18) 19 a j) = J1 a j
    rw [if_neg (by omega), if_neg (by omega), gZ_ne (by omega), gZ_ne (by omega), gZ_ne (by omega)]
  rintro _ ⟨J2, rfl, g1, g2⟩
  dsimp only
  refine ite_ex (by decide +kernel) ?_
  refine ite_ex (by decide +kernel) ?_
  refine ite_ex (by decide +kernel) ?_
  unfold f_X8_init
  refine bind_ex (P := fun y => ∃ J3, y = (J3, _, _) ∧ (∀ a, a ≤ 36 → J3 a = J2 a) ∧ J3 37 2 = nI n ∧ J3 37 4 = 0) (ite_ex (by decide +kernel) (ite_ex (by decide +kernel) (ite_ex (by decide +kernel) (ite_ex (by decide +kernel) (ite_ex (by decide +kernel) (ite_ex (by decide +kernel) (ite_ex (by decide +kernel) ⟨_, rfl, _, rfl, fun a ha => ?_, ?_, rfl⟩))))))) ?_
  · rw [gU_cell _ _ _ (by omega), gZ_ne (by omega), gZ_ne (by omega)]
    funext j
    show (if 47 ≤ a ∧ a ≤ 47 + 6 then 0 else gZ (gU (gU (gZs (gZ J2 37) 38 7) 37 4 0) 37 5 (0 : Int32)) 46 a j) = J2 a j
    rw [if_neg (by omega), gZ_ne (by omega), gU_cell _ _ _ (by omega), gU_cell _ _ _ (by omega)]
    show (if 38 ≤ a ∧ a ≤ 38 + 7 then 0 else gZ J2 37 a j) = J2 a j
    rw [if_neg (by omega), gZ_ne (by omega)]
  · refine (show _ = J2 6 1 from rfl).trans ?_
    rw [g1 6 (by omega)]; exact j61
  rintro _ ⟨J3, rfl, k1, k2, k3⟩
  dsimp only
  refine ite_ex (by decide +kernel) ?_
  refine ite_ex (by decide +kernel) ?_
  refine ite_ex (by decide +kernel) ?_
  unfold f_X0_init
  refine bind_ex (P := fun y => ∃ J4, y = (J4, _, _) ∧ (∀ a, a ≤ 55 → J4 a = J3 a) ∧ J4 56 2 = nI p ∧ J4 56 3 = nI n ∧ J4 56 5 = 0) (ite_ex (by decide +kernel) (ite_ex (by decide +kernel) (ite_ex (by decide +kernel) (ite_ex (by decide +kernel) (ite_ex (by decide +kernel) (ite_ex (by decide +kernel) (ite_ex (by decide +kernel) (ite_ex (by decide +kernel) ⟨_, rfl, _, rfl, fun a ha => ?_, ?_, ?_, rfl⟩)))))))) ?_
  · iterate 3 rw [gU_cell _ _ _ (by omega)]
    iterate 4 rw [gZ_ne (by omega)]
    funext j
    show (if 64 ≤ a ∧ a ≤ 64 + 6 then 0 else gU (gZs (gZ J3 56) 57 6) 56 5 0 a j) = J3 a j
    rw [if_neg (by omega), gU_cell _ _ _ (by omega)]
    show (if 57 ≤ a ∧ a ≤ 57 + 6 then 0 else gZ J3 56 a j) = J3 a j
    rw [if_neg (by omega), gZ_ne (by omega)]
  · refine (show _ = J3 6 0 from rfl).trans ?_
    rw [k1 6 (by omega), g1 6 (by omega)]; exact j60
  · refine (show _ = J3 6 1 from rfl).trans ?_
    rw [k1 6 (by omega), g1 6 (by omega)]; exact j61
  rintro _ ⟨J4, rfl, l1, l2, l3, l4⟩
  have t0 : ∀ a, a ≤ 16 → J4 a = J1 a := fun a ha => by rw [l1 a (by omega), k1 a (by omega), g1 a (by omega)]
  have t17 : J4 17 1 = nI p := by rw [l1 17 (by omega), k1 17 (by omega)]; exact g2
  have t372 : J4 37 2 = nI n := by rw [l1 37 (by omega)]; exact k2
  have t374 : J4 37 4 = 0 := by rw [l1 37 (by omega)]; exact k3
  clear l1 k1 g1 k2 k3 g2
  dsimp only
  refine ite_ex (by decide +kernel) ?_
  refine ite_ex (by decide +kernel) ?_
  refine ite_ex (by decide +kernel) ?_
  refine bind_eq (x5_init (by decide +kernel) (by decide +kernel)) ?_
  dsimp only
  refine ite_ex (by decide +kernel) ?_
  refine ite_no (by decide) ?_
  refine ite_ex (by decide +kernel) ?_
  refine ite_ex (by decide +kernel) ?_
  refine ite_ex (by decide +kernel) ?_
  refine ite_ex (by decide +kernel) ?_
  refine bind_eq (x5_init (by decide +kernel) (by decide +kernel)) ?_
  dsimp only
  refine ite_ex (by decide +kernel) ?_
  refine ite_no (by decide) ?_
  refine ite_ex (by decide +kernel) ?_
  refine ite_ex (by decide +kernel) ?_
  refine ite_ex (by decide +kernel) ?_
  refine ite_ex (by decide +kernel) ?_
  refine bind_eq (x5_init (by decide +kernel) (by decide +kernel)) ?_
  dsimp only
  refine ite_ex (by decide +kernel) ?_
  refine ite_no (by decide) ?_
  refine ite_ex (by decide +kernel) ?_
  refine ite_ex (by decide +kernel) ?_
  refine ite_ex (by decide +kernel) ?_
  refine ite_ex (by decide +kernel) ?_
  refine bind_eq (x5_init (by decide +kernel) (by decide +kernel)) ?_
  dsimp only
  refine ite_ex (by decide +kernel) ?_
  refine ite_no (by decide) ?_
  refine ite_ex (by decide +kernel) ?_
  refine ite_ex (by decide +kernel) ?_
  refine ite_ex (by decide +kernel) ?_
  refine ite_ex (by decide +kernel) ?_
  refine bind_eq (x5_init (by decide +kernel) (by decide +kernel)) ?_
  dsimp only
  refine ite_ex (by decide +kernel) ?_
  refine ite_no (by decide) ?_
  refine ite_ex (by decide +kernel) ?_
  refine ite_ex (by decide +kernel) ?_
  refine ite_ex (by decide +kernel) ?_
  refine ite_ex (by decide +kernel) ?_
  refine bind_eq (x5_init (by decide +kernel) (by decide +kernel)) ?_
  dsimp only
  refine ite_ex (by decide +kernel) ?_
  refine ite_no (by decide) ?_
  refine ite_ex (by decide +kernel) ?_
  refine ite_ex (by decide +kernel) ?_
  refine ite_ex (by decide +kernel) ?_
  refine ite_ex (by decide +kernel) ?_
  refine bind_eq (x5_init (by decide +kernel) (by decide +kernel)) ?_
  dsimp only
  refine ite_ex (by decide +kernel) ?_
  refine ite_no (by decide) ?_
  refine ite_ex (by decide +kernel) ?_
  refine ite_ex (by decide +kernel) ?_
  refine ite_ex (by decide +kernel) ?_
  refine ite_ex (by decide +kernel) ?_
  refine bind_eq (x5_init (by decide +kernel) (by decide +kernel)) ?_
  dsimp only
  refine ite_ex (by decide +kernel) ?_
  refine ite_no (by decide) ?_
  refine ite_ex (by decide +kernel) ?_
  refine ⟨_, rfl, _, _, _, rfl, by decide +kernel, by decide +kernel, FH_of f1 hR.2.2.1 (fun a h1 h2 => ?_), t17, t372, t374, l2, l3, l4, ?_, ?_, ?_⟩
  · rw [← t0 a h2]
    iterate 8 (rw [gU_cell _ _ _ (by omega), gU_cell _ _ _ (by omega), gZ_ne (by omega), gZ_ne (by omega)])
  · refine (show _ = J4 0 7 from rfl).trans ?_
    rw [t0 0 (by omega)]; exact j07
  · refine (show _ = J4 3 1 from rfl).trans ?_
    rw [t0 3 (by omega)]; exact j31
  · intro s hs
    rcases (show s = 0 ∨ s = 1 ∨ s = 2 ∨ s = 3 ∨ s = 4 ∨ s = 5 ∨ s = 6 ∨ s = 7 by omega) with rfl | rfl | rfl | rfl | rfl | rfl | rfl | rfl <;> exact ⟨rfl, fun _ => rfl⟩
end InitS
