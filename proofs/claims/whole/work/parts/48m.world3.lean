/-! the call world -/
section World3
theorem m_world {K : Type} [Lean.Grind.CommRing K] {p n : Nat} {X : K} {co : K → Nat} {N : Nat} {J : gI} {P : gR} {T : gS} {w s m la sz : Nat} (hM : MH p n X co J) (hs : s < 8) (hm : m ≤ 3) (hla : la < 3) (hsz : sz ≤ 24) (l5 : J 98 s = nI la) (l6 : J 99 s = nI sz) (h1 : f_X12_isPlace N (gU J 91 0 (0 : Int32)) P T (nI w) = some 1) (h2 : f_X12_isRow N (gU J 91 0 (0 : Int32)) P T (nI s) = some 1) (h3 : f_X12_in N (gU J 91 0 (0 : Int32)) P T (nI m).toInt64 (1 : Int64) (3 : Int64) = some 1) (hN : 60 ≤ N) :
    (∀ x, ¬ (∃ i, x = nI i ∧ i + (m + 1) ≤ sz) → f_X12_world N J P T (nI w) (nI s) x (nI m) = some ((-1000010 : Int32) - 2, gU (gU J 91 0 (0 : Int32)) 91 1 2)) ∧ ∀ i, i + (m + 1) ≤ sz →
      (∀ j, j ≤ m → Bd p n N P T (J 100 (24 * s + i + j)) → (∀ l, l < j → Gd p n N P T (J 100 (24 * s + i + l))) → ∃ J2, f_X12_world N J P T (nI w) (nI s) (nI i) (nI m) = some (-1000001, J2) ∧ ∀ q, q ≠ 107 → J2 q = gU J 91 0 (0 : Int32) q) ∧
      ∀ v : Nat → K, (∀ j, j ≤ m → J 100 (24 * s + i + j) = nI (co (v j)) ∧ Gd p n N P T (J 100 (24 * s + i + j))) → ∃ W, (∀ q, q ≠ 107 → W q = gU J 91 0 (0 : Int32) q) ∧ (∀ j, j ≤ m → W 107 j = nI (co (v j))) ∧ f_X12_world N J P T (nI w) (nI s) (nI i) (nI m) = if nI (co (v m)) = 0 then some ((-1000001 : Int32), W) else f_X12_lay N W P T (nI w) (nI m) := by
  obtain ⟨H, hH⟩ : ∃ H, H = gU J 91 0 (0 : Int32) := ⟨_, rfl⟩
  have hHn : ∀ q, q ≠ 91 → H q = J q := fun q hq => by rw [hH, gU_cell _ _ _ hq]
  rw [← hH] at h1 h2 h3
  rw [← hH]
  have h98 : H 98 s = nI la := by rw [hHn 98 (by decide)]; exact l5
  have h99 : H 99 s = nI sz := by rw [hHn 99 (by decide)]; exact l6
  have h4 : H 91 4 = nI (p ^ n) := by rw [hH, gU_slot _ _ _ (by decide)]; exact hM.2.2.1
  -- the head
  have hd : ∀ x y, (if x < 0 then ((f_X12_found N H P T (2 : Int32)).bind (fun z4 => some (z4.1, z4.2))) else (if (lg_cmp ((x.toInt64 + (nI m).toInt64) + (1 : Int64)) ((nI sz).toInt64)) ≤ 0 then ((iter (σ := Int32 × gI) (ρ := (gI) ⊕ (Int32 × gI)) (fun z5 => (if nI m < z5.1 then some (.inr (.inl z5.2)) else if ((((24 : Int32) * nI s) + x) + z5.1) < 0 ∨ 192 ≤ ((((24 : Int32) * nI s) + x) + z5.1).toNatClampNeg then none else if z5.1 < 0 ∨ 4 ≤ z5.1.toNatClampNeg then none else if z5.1 < 0 ∨ 4 ≤ z5.1.toNatClampNeg then none else ((f_X12_isElement N (gU z5.2 107 z5.1.toNatClampNeg (z5.2 100 ((((24 : Int32) * nI s) + x) + z5.1).toNatClampNeg)) P T ((gU z5.2 107 z5.1.toNatClampNeg (z5.2 100 ((((24 : Int32) * nI s) + x) + z5.1).toNatClampNeg)) 107 z5.1.toNatClampNeg)).bind (fun z7 => (if z7 = 0 then some (.inr (.inr ((-1000001 : Int32), gU z5.2 107 z5.1.toNatClampNeg (z5.2 100 ((((24 : Int32) * nI s) + x) + z5.1).toNatClampNeg)))) else some (.inl (z5.1 + 1, gU z5.2 107 z5.1.toNatClampNeg (z5.2 100 ((((24 : Int32) * nI s) + x) + z5.1).toNatClampNeg)))))))) N ((0 : Int32), H)).bind (fun y10 => Sum.elim (fun r6 => if nI m < 0 ∨ 4 ≤ (nI m).toNatClampNeg then none else (if (r6 107 (nI m).toNatClampNeg) = 0 then some ((-1000001 : Int32), r6) else ((f_X12_lay N r6 P T (nI w) (nI m)).bind (fun z8 => some (z8.1, z8.2))))) (fun x9 => some x9) y10)) else ((f_X12_found N H P T (2 : Int32)).bind (fun z11 => some (z11.1, z11.2))))) = y → f_X12_world N J P T (nI w) (nI s) x (nI m) = y := by
    intro x y hy
    unfold f_X12_world
    rw [← hH, h1, Option.bind_some, if_neg (by decide), h2, Option.bind_some, if_neg (by decide), h3, Option.bind_some, if_neg (by decide), nI_clamp (n := s) (by omega), gin2 (by omega) (by omega), gin2 (by omega) (by omega), h98, h99, if_pos (nI_pos' (by omega))]
    exact hy
  refine ⟨fun x hx => hd x _ ?_, fun i hi => ?_⟩
  · by_cases h0 : x < 0
    · rw [if_pos h0]; rfl
    · obtain ⟨i, i1, rfl⟩ := nI_of (x := x) h0
      rw [if_neg h0, if_neg (fun z => hx ⟨i, rfl, (lsum3 i1 (by omega) (by omega)).mp z⟩)]; rfl
  obtain ⟨g, hg⟩ : ∃ g : Nat → Int32, g = fun j => J 100 (24 * s + i + j) := ⟨_, rfl⟩
  have hgj : ∀ j, J 100 (24 * s + i + j) = g j := fun j => by rw [hg]
  have hup : ∀ z, gU (Wd H 107 0 z g) 107 z (g z) = Wd H 107 0 (z + 1) g := fun z => by
    have := Wd_up (I := H) (q := 107) (s := 0) (i := z) (F := g)
    rw [Nat.zero_add] at this; exact this
  have hat : ∀ z j, j < z → Wd H 107 0 z g 107 j = g j := fun z j hz => by
    have := Wd_at (I := H) (q := 107) (s := 0) (n := z) (j := j) (F := g) hz
    rw [Nat.zero_add] at this; exact this
  have hW4 : ∀ z, Wd H 107 0 z g 91 4 = nI (p ^ n) := fun z => by rw [Wd_ne _ (by decide)]; exact h4
  simp only [hgj]
  have hst : ∀ z (A : Option ((Int32 × gI) ⊕ (gI ⊕ (Int32 × gI)))) u, z ≤ m → f_X12_isElement N (Wd H 107 0 (z + 1) g) P T (g z) = some u → (if u = 0 then some (.inr (.inr ((-1000001 : Int32), Wd H 107 0 (z + 1) g))) else some (.inl (nI (z + 1), Wd H 107 0 (z + 1) g))) = A → (if nI m < nI z then some (.inr (.inl (Wd H 107 0 z g))) else if ((((24 : Int32) * nI s) + nI i) + nI z) < 0 ∨ 192 ≤ ((((24 : Int32) * nI s) + nI i) + nI z).toNatClampNeg then none else if nI z < 0 ∨ 4 ≤ (nI z).toNatClampNeg then none else if nI z < 0 ∨ 4 ≤ (nI z).toNatClampNeg then none else ((f_X12_isElement N (gU (Wd H 107 0 z g) 107 (nI z).toNatClampNeg ((Wd H 107 0 z g) 100 ((((24 : Int32) * nI s) + nI i) + nI z).toNatClampNeg)) P T ((gU (Wd H 107 0 z g) 107 (nI z).toNatClampNeg ((Wd H 107 0 z g) 100 ((((24 : Int32) * nI s) + nI i) + nI z).toNatClampNeg)) 107 (nI z).toNatClampNeg)).bind (fun z7 => (if z7 = 0 then some (.inr (.inr ((-1000001 : Int32), gU (Wd H 107 0 z g) 107 (nI z).toNatClampNeg ((Wd H 107 0 z g) 100 ((((24 : Int32) * nI s) + nI i) + nI z).toNatClampNeg)))) else some (.inl (nI z + 1, gU (Wd H 107 0 z g) 107 (nI z).toNatClampNeg ((Wd H 107 0 z g) 100 ((((24 : Int32) * nI s) + nI i) + nI z).toNatClampNeg))))))) = A := by
    intro z A u hz hu hA
    rw [glt_f hz (by omega), show (24 : Int32) = nI 24 from rfl, pk_mul, nI_add, nI_add, nI_clamp (by omega), nI_clamp (by omega), gin2 (by omega) (by omega), gin2 (by omega) (by omega), gin2 (by omega) (by omega), Wd_ne _ (by omega), hHn 100 (by decide), hgj z, hup, nI_1, hat _ _ (by omega), hu, Option.bind_some]
    exact hA
  have hi0 : ¬ nI i < 0 := nI_pos (by omega)
  have hlg := (lsum3 (i := i) (m := m) (sz := sz) (by omega) (by omega) (by omega)).mpr hi
  refine ⟨fun j hj j2 j3 => ⟨Wd H 107 0 (j + 1) g, hd _ _ ?_, fun q hq => Wd_row hq⟩, fun v hv => ⟨Wd H 107 0 (m + 1) g, fun q hq => Wd_row hq, fun j hj => by rw [hat _ _ (by omega)]; exact (hv j hj).1, hd _ _ ?_⟩⟩
  · rw [if_neg hi0, if_pos hlg]
    exact iter_bind (fun z => (nI z, Wd H 107 0 z g)) j (.inr ((-1000001 : Int32), Wd H 107 0 (j + 1) g)) (by rw [nI_0, Wd_0]) (fun z hz => hst z _ 1 (by omega) ((j3 z hz) (gU J 6 2 (nI (p ^ n))) _ (gU_at _ _ _ _) (hW4 _)).2 (if_neg (by decide))) (hst j _ 0 (by omega) (j2 (gU J 6 2 (nI (p ^ n))) _ (gU_at _ _ _ _) (hW4 _)).2 (if_pos rfl)) (by omega) rfl
  · rw [if_neg hi0, if_pos hlg]
    refine iter_bind (fun z => (nI z, Wd H 107 0 z g)) (m + 1) (.inl (Wd H 107 0 (m + 1) g)) (by rw [nI_0, Wd_0]) (fun z hz => hst z _ 1 (by omega) ((hv z (by omega)).2 (gU J 6 2 (nI (p ^ n))) _ (gU_at _ _ _ _) (hW4 _)).2 (if_neg (by decide))) (by dsimp only; rw [glt_t (by omega) (by omega)]) (by omega) ?_
    show (if nI m < 0 ∨ 4 ≤ (nI m).toNatClampNeg then none else _) = _
    rw [nI_clamp (by omega), gin2 (by omega) (by omega), hat _ _ (by omega), (hv m (by omega)).1]
    by_cases z : nI (co (v m)) = 0
    · rw [if_pos z, if_pos z]
    · rw [if_neg z, if_neg z]
      cases f_X12_lay N (Wd H 107 0 (m + 1) g) P T (nI w) (nI m) <;> rfl
end World3
