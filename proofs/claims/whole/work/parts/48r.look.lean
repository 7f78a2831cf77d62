/-! the model reads a map -/
section LookM
theorem Gd0 {K : Type} [Lean.Grind.CommRing K] {p n : Nat} {X : K} {co : K → Nat} {N : Nat} {R : gR} {S : gS} (hR : RO K p n X co) : Gd p n N R S 0 := by
  have hq := RO_q hR
  rcases isE2 (N := N) (R := R) (S := S) hR 0 with hs | ⟨a, e, hs⟩
  · exfalso
    rcases (hs (fun _ _ => nI (p ^ n)) (fun _ _ => nI (p ^ n)) rfl rfl).2.2 with y | y
    · exact absurd y (by decide)
    · have eq2 : (nI (p ^ n)).toInt = ((p ^ n : Nat) : Int) := nI_toInt (by omega)
      have e0 : (0 : Int32).toInt = 0 := rfl
      rw [Int32.le_iff_toInt_le] at y; omega
  · exact hs
theorem m_lookMap {K : Type} [Lean.Grind.CommRing K] {p n : Nat} {X : K} {co : K → Nat} {N : Nat} {H : gI} {P : gR} {T : gS} {w s m la sz r : Nat} (hR : RO K p n X co) (hM : MH p n X co H) (hw : w < 10) (hs : s < 8) (hm : m ≤ 4) (hla : la < 3) (hsz : sz ≤ 24) (h98 : H 98 s = nI la) (h99 : H 99 s = nI sz) (h101 : H 101 w = nI r) (hr1 : 1 ≤ r) (hr3 : r ≤ 3) (h1 : f_X12_isPlace N H P T (nI w) = some 1) (h2 : f_X12_isRow N H P T (nI s) = some 1) (h3 : f_X12_in N H P T (nI m).toInt64 (1 : Int64) (4 : Int64) = some 1) (hN : 60 ≤ N) :
    (∀ x, ¬ (∃ i, x = nI i ∧ i + (m + 1) ≤ sz) → f_X12_lookMap N H P T (nI w) (nI s) x (nI m) = some ((-1000010 : Int32) - 2, gU H 91 1 2)) ∧ ∀ i, i + (m + 1) ≤ sz →
      (∀ j, j ≤ m → Bd p n N P T (H 100 (24 * s + i + j)) → (∀ l, l < j → Gd p n N P T (H 100 (24 * s + i + l))) → ∃ J2, f_X12_lookMap N H P T (nI w) (nI s) (nI i) (nI m) = some (-1000001, J2) ∧ ∀ q, q ≠ 108 → J2 q = H q) ∧
      ∀ v : Nat → K, (∀ j, j ≤ m → H 100 (24 * s + i + j) = nI (co (v j)) ∧ Gd p n N P T (H 100 (24 * s + i + j))) → ∃ W, (∀ q, q ≠ 108 → W q = H q) ∧ (∀ j, j < 5 → W 108 j = nI (co (if j ≤ m then v j else 0))) ∧ f_X12_lookMap N H P T (nI w) (nI s) (nI i) (nI m) = some (if nI (co (v 0)) = 0 then -1000001 else if nI (co (v m)) = 0 then -1000001 else 0, W) := by
  have h4 : H 91 4 = nI (p ^ n) := hM.2.2.1
  have hr0 : ¬ H 101 w = 0 := fun z => by
    have er : (nI r).toInt = ((r : Nat) : Int) := nI_toInt (by omega)
    have e0 : (0 : Int32).toInt = 0 := rfl
    rw [h101] at z
    rw [z] at er; omega
  have hd : ∀ x y, (if x < 0 then ((f_X12_found N H P T (2 : Int32)).bind (fun z5 => some (z5.1, z5.2))) else (if (lg_cmp ((x.toInt64 + (nI m).toInt64) + (1 : Int64)) ((nI sz).toInt64)) ≤ 0 then ((iter (σ := Int32 × gI) (ρ := (gI) ⊕ (Int32 × gI)) (fun z6 => (if (5 : Int32) ≤ z6.1 then some (.inr (.inl z6.2)) else (((if z6.1 ≤ nI m then if ((((24 : Int32) * nI s) + x) + z6.1) < 0 ∨ 192 ≤ ((((24 : Int32) * nI s) + x) + z6.1).toNatClampNeg then none else some (z6.2 100 ((((24 : Int32) * nI s) + x) + z6.1).toNatClampNeg) else some (0 : Int32)) : Option (Int32)).bind (fun z8 => if z6.1 < 0 ∨ 5 ≤ z6.1.toNatClampNeg then none else if z6.1 < 0 ∨ 5 ≤ z6.1.toNatClampNeg then none else ((f_X12_isElement N (gU z6.2 108 z6.1.toNatClampNeg z8) P T ((gU z6.2 108 z6.1.toNatClampNeg z8) 108 z6.1.toNatClampNeg)).bind (fun z9 => (if z9 = 0 then some (.inr (.inr ((-1000001 : Int32), gU z6.2 108 z6.1.toNatClampNeg z8))) else some (.inl (z6.1 + 1, gU z6.2 108 z6.1.toNatClampNeg z8))))))))) N ((0 : Int32), H)).bind (fun y11 => Sum.elim (fun r7 => if (0 : Int32) < 0 ∨ 5 ≤ (0 : Int32).toNatClampNeg then none else (if (r7 108 (0 : Int32).toNatClampNeg) = 0 then some ((-1000001 : Int32), r7) else if nI m < 0 ∨ 5 ≤ (nI m).toNatClampNeg then none else (if (r7 108 (nI m).toNatClampNeg) = 0 then some ((-1000001 : Int32), r7) else some ((0 : Int32), r7)))) (fun x10 => some x10) y11)) else ((f_X12_found N H P T (2 : Int32)).bind (fun z12 => some (z12.1, z12.2))))) = y → f_X12_lookMap N H P T (nI w) (nI s) x (nI m) = y := by
    intro x y hy
    unfold f_X12_lookMap
    rw [h1, Option.bind_some, if_neg (by decide), h2, Option.bind_some, if_neg (by decide), h3, Option.bind_some, if_neg (by decide), nI_clamp (n := w) (by omega), gin2 (by omega) (by omega), if_neg hr0, nI_clamp (n := s) (by omega), gin2 (by omega) (by omega), gin2 (by omega) (by omega), h98, h99, if_pos (nI_pos' (by omega))]
    exact hy
  refine ⟨fun x hx => hd x _ ?_, fun i hi => ?_⟩
  · by_cases h0 : x < 0
    · rw [if_pos h0]; rfl
    · obtain ⟨i, i1, rfl⟩ := nI_of (x := x) h0
      rw [if_neg h0, if_neg (fun z => hx ⟨i, rfl, (lsum3 i1 (by omega) (by omega)).mp z⟩)]; rfl
  obtain ⟨g, hg⟩ : ∃ g : Nat → Int32, g = fun j => if j ≤ m then H 100 (24 * s + i + j) else 0 := ⟨_, rfl⟩
  have hgj : ∀ j, j ≤ m → H 100 (24 * s + i + j) = g j := fun j hj => by rw [hg]; exact (if_pos hj).symm
  have hgz : ∀ j, ¬ j ≤ m → g j = 0 := fun j hj => by rw [hg]; exact if_neg hj
  have hup : ∀ z, gU (Wd H 108 0 z g) 108 z (g z) = Wd H 108 0 (z + 1) g := fun z => by
    have := Wd_up (I := H) (q := 108) (s := 0) (i := z) (F := g)
    rw [Nat.zero_add] at this; exact this
  have hat : ∀ z j, j < z → Wd H 108 0 z g 108 j = g j := fun z j hz => by
    have := Wd_at (I := H) (q := 108) (s := 0) (n := z) (j := j) (F := g) hz
    rw [Nat.zero_add] at this; exact this
  have hW4 : ∀ z, Wd H 108 0 z g 91 4 = nI (p ^ n) := fun z => by rw [Wd_ne _ (by decide)]; exact h4
  have hst : ∀ z (A : Option ((Int32 × gI) ⊕ (gI ⊕ (Int32 × gI)))) u, z < 5 → f_X12_isElement N (Wd H 108 0 (z + 1) g) P T (g z) = some u → (if u = 0 then some (.inr (.inr ((-1000001 : Int32), Wd H 108 0 (z + 1) g))) else some (.inl (nI (z + 1), Wd H 108 0 (z + 1) g))) = A → (if (5 : Int32) ≤ nI z then some (.inr (.inl (Wd H 108 0 z g))) else (((if nI z ≤ nI m then if ((((24 : Int32) * nI s) + nI i) + nI z) < 0 ∨ 192 ≤ ((((24 : Int32) * nI s) + nI i) + nI z).toNatClampNeg then none else some (Wd H 108 0 z g 100 ((((24 : Int32) * nI s) + nI i) + nI z).toNatClampNeg) else some (0 : Int32)) : Option (Int32)).bind (fun z8 => if nI z < 0 ∨ 5 ≤ (nI z).toNatClampNeg then none else if nI z < 0 ∨ 5 ≤ (nI z).toNatClampNeg then none else ((f_X12_isElement N (gU (Wd H 108 0 z g) 108 (nI z).toNatClampNeg z8) P T ((gU (Wd H 108 0 z g) 108 (nI z).toNatClampNeg z8) 108 (nI z).toNatClampNeg)).bind (fun z9 => (if z9 = 0 then some (.inr (.inr ((-1000001 : Int32), gU (Wd H 108 0 z g) 108 (nI z).toNatClampNeg z8))) else some (.inl (nI z + 1, gU (Wd H 108 0 z g) 108 (nI z).toNatClampNeg z8)))))))) = A := by
    intro z A u hz hu hA
    have hin : ((if nI z ≤ nI m then if ((((24 : Int32) * nI s) + nI i) + nI z) < 0 ∨ 192 ≤ ((((24 : Int32) * nI s) + nI i) + nI z).toNatClampNeg then none else some (Wd H 108 0 z g 100 ((((24 : Int32) * nI s) + nI i) + nI z).toNatClampNeg) else some (0 : Int32)) : Option (Int32)) = some (g z) := by
      by_cases e : z ≤ m
      · rw [gle_t e (by omega), show (24 : Int32) = nI 24 from rfl, pk_mul, nI_add, nI_add, nI_clamp (by omega), gin2 (by omega) (by omega), Wd_ne _ (by omega), hgj z e]
      · rw [gle_f (by omega) (by omega), hgz z e]
    rw [show (5 : Int32) = nI 5 from rfl, gle_f hz (by omega), hin, Option.bind_some, nI_clamp (by omega), gin2 (by omega) (by omega), gin2 (by omega) (by omega), hup, nI_1, hat _ _ (by omega), hu, Option.bind_some]
    exact hA
  have hi0 : ¬ nI i < 0 := nI_pos (by omega)
  have hlg := (lsum3 (i := i) (m := m) (sz := sz) (by omega) (by omega) (by omega)).mpr hi
  refine ⟨fun j hj j2 j3 => ⟨Wd H 108 0 (j + 1) g, hd _ _ ?_, fun q hq => Wd_row hq⟩, fun v hv => ⟨Wd H 108 0 5 g, fun q hq => Wd_row hq, fun j hj => ?_, hd _ _ ?_⟩⟩
  · rw [if_neg hi0, if_pos hlg]
    rw [hgj j hj] at j2
    refine iter_bind (fun z => (nI z, Wd H 108 0 z g)) j (.inr ((-1000001 : Int32), Wd H 108 0 (j + 1) g)) (by rw [nI_0, Wd_0]) (fun z hz => hst z _ 1 (by omega) ?_ (if_neg (by decide))) (hst j _ 0 (by omega) (j2 (gU H 6 2 (nI (p ^ n))) _ (gU_at _ _ _ _) (hW4 _)).2 (if_pos rfl)) (by omega) rfl
    have := j3 z hz
    rw [hgj z (by omega)] at this
    exact (this (gU H 6 2 (nI (p ^ n))) _ (gU_at _ _ _ _) (hW4 _)).2
  · rw [hat _ _ hj]
    by_cases e : j ≤ m
    · rw [if_pos e, ← hgj j e]; exact (hv j e).1
    · rw [if_neg e, hgz j e, RO_0 hR]; rfl
  · rw [if_neg hi0, if_pos hlg]
    refine iter_bind (fun z => (nI z, Wd H 108 0 z g)) 5 (.inl (Wd H 108 0 5 g)) (by rw [nI_0, Wd_0]) (fun z hz => hst z _ 1 (by omega) ?_ (if_neg (by decide))) (by dsimp only; rw [show (5 : Int32) = nI 5 from rfl, gle_t (by omega) (by omega)]) (by omega) ?_
    · have : Gd p n N P T (g z) := by
        by_cases e : z ≤ m
        · rw [← hgj z e]; exact (hv z e).2
        · rw [hgz z e]; exact Gd0 hR
      exact (this (gU H 6 2 (nI (p ^ n))) _ (gU_at _ _ _ _) (hW4 _)).2
    · show (if (0 : Int32) < 0 ∨ 5 ≤ (0 : Int32).toNatClampNeg then none else _) = _
      rw [show (0 : Int32).toNatClampNeg = 0 from rfl, if_neg (by decide), nI_clamp (by omega), gin2 (by omega) (by omega), hat _ _ (by omega), hat _ _ (by omega), ← hgj 0 (by omega), ← hgj m (by omega), (hv 0 (by omega)).1, (hv m (by omega)).1]
      by_cases z0 : nI (co (v 0)) = 0
      · rw [if_pos z0, if_pos z0]; exact if_neg (by decide)
      · rw [if_neg z0, if_neg z0]
        by_cases z : nI (co (v m)) = 0
        · rw [if_pos z, if_pos z]; exact if_neg (by decide)
        · rw [if_neg z, if_neg z]; exact if_neg (by decide)
theorem CST_ex2 {K : Type} [Lean.Grind.CommRing K] {p n : Nat} {X : K} {co : K → Nat} {I J : gI} {R P : gR} {S T : gS} (hR : RO K p n X co) (h : CST p n X co I R S) (hE : Ex R P S T) (hS : 114 ≤ S.length) (hJ : ∀ q, q < S.length → q = 17 ∨ q = 37 ∨ (39 ≤ q ∧ q ≤ 45) ∨ q = 56 ∨ (58 ≤ q ∧ q ≤ 63) ∨ 114 ≤ q → J q = I q) : CST p n X co J P T := by
  obtain ⟨d1, d2, d3, d4, d5, d6⟩ := h
  exact ⟨by rw [hJ 17 (by omega) (by omega)]; exact d1, by rw [hJ 37 (by omega) (by omega)]; exact d2, by rw [hJ 56 (by omega) (by omega)]; exact d3, by rw [hJ 56 (by omega) (by omega)]; exact d4, Pd_ex d5 hE (by rw [hJ 37 (by omega) (by omega)]) (by rw [hJ 37 (by omega) (by omega)]) (fun a h1 h2 => hJ a (by omega) (by omega)) (fun a h1 h2 => hJ a h2 (by omega)), Ad_ex d6 hR.2.2.1 hE (by rw [hJ 56 (by omega) (by omega)]) (fun a h1 h2 => hJ a (by omega) (by omega)) (fun a h1 h2 => hJ a h2 (by omega))⟩
theorem q_top {K : Type} [Lean.Grind.CommRing K] {p n : Nat} {X : K} {co : K → Nat} (hR : RO K p n X co) {l r : Nat} {u t q rm : Nat → K} (hV : WV r t) (hul : u l ≠ 0) (hu0 : ∀ k, l < k → u k = 0) (hD : Dv p l (r + 1) u (cmp p u t) q rm) : WV r q := by
  refine ⟨hV.1, hV.2.1, fun z => ?_, fun k hk => hD.2.2 k (by omega)⟩
  have h1 := (cmp_deg hR (u := q) (v := u) (a := r) (b := l) (fun k hk => hD.2.2 k (by omega)) hu0).2
  have h2 := (cmp_deg hR (u := u) (v := t) (a := l) (b := r) hu0 hV.2.2.2).2
  have h3 := hD.1 (l + r)
  rw [hD.2.1 (l + r) (by omega), h2, Nat.add_comm l r, h1, z] at h3
  exact mul_ne hR hul (frk_ne hR hV.2.2.1 (p ^ l)) (by grind)
end LookM
