/-! the model: trying all elements -/
section Scan
/-- f of the codes kp 0, kp 1, .. are below z -/
def Bl {K : Type} [Lean.Grind.CommRing K] (co : K → Nat) (kp : Nat → K) (B z f : Nat) : Prop := f ≤ B ∧ (∀ i, i < f → co (kp i) < z) ∧ ∀ i, f ≤ i → i < B → z ≤ co (kp i)
theorem Bl_hit {K : Type} [Lean.Grind.CommRing K] {co : K → Nat} {kp : Nat → K} {B z f i : Nat} (h : Bl co kp B z f) (hm : ∀ i k, i < k → k < B → co (kp i) < co (kp k)) (hi : i < B) (e : co (kp i) = z) : i = f ∧ Bl co kp B (z + 1) (f + 1) := by
  obtain ⟨h1, h2, h3⟩ := h
  have hif : f ≤ i := by
    apply Classical.byContradiction
    intro hn
    have := h2 i (by omega)
    omega
  have hif2 : i ≤ f := by
    apply Classical.byContradiction
    intro hn
    have a1 := hm f i (by omega) hi
    have a2 := h3 f (Nat.le_refl f) (by omega)
    omega
  have e2 : i = f := by omega
  refine ⟨e2, by omega, fun j hj => ?_, fun j hj1 hj2 => ?_⟩
  · by_cases e3 : j = f
    · rw [e3, ← e2, e]; omega
    · have := h2 j (by omega); omega
  · have := hm i j (by omega) hj2
    omega
theorem Bl_miss {K : Type} [Lean.Grind.CommRing K] {co : K → Nat} {kp : Nat → K} {B z f : Nat} (h : Bl co kp B z f) (hn : ∀ i, i < B → co (kp i) ≠ z) : Bl co kp B (z + 1) f := by
  obtain ⟨h1, h2, h3⟩ := h
  refine ⟨h1, fun i hi => by have := h2 i hi; omega, fun i h4 h5 => ?_⟩
  have := h3 i h4 h5
  have := hn i h5
  omega
theorem Bl_end {K : Type} [Lean.Grind.CommRing K] {co : K → Nat} {kp : Nat → K} {B z f : Nat} (h : Bl co kp B z f) (hz : ∀ i, co (kp i) < z) : f = B := by
  apply Classical.byContradiction
  intro hn
  have := h.2.2 f (Nat.le_refl f) (by have := h.1; omega)
  have := hz f
  omega
theorem code_el {K : Type} [Lean.Grind.CommRing K] {p n : Nat} {X : K} {co : K → Nat} (hR : RO K p n X co) {z : Nat} (hz : z < p ^ n) : nI z = nI (co (el p n X z)) := by rw [RO_co hR hz]
theorem m_scanK {K : Type} [Lean.Grind.CommRing K] {p n : Nat} {X : K} {co : K → Nat} {H : gI} {R : gR} {S : gS} {N B : Nat} {kp : Nat → K} {s : Nat → K} (hR : RO K p n X co) (hM : MH p n X co H) (hS : S[103]? = some (12, 24)) (hs : ∀ k, k < 24 → H 103 k = nI (co (s k))) (h1 : ∀ i, ev p 24 s (kp i) = 0) (h2 : ∀ z, ev p 24 s z = 0 → ∃ i, i < B ∧ kp i = z) (hm : ∀ i k, i < k → k < B → co (kp i) < co (kp k)) (hB : B ≤ 15625) (a2 : Int32) (hN : 16000 ≤ N) :
    ∃ y, (iter (σ := Int32 × Int32) (ρ := (Int32) ⊕ (Int32 × gI)) (fun z5 => (if (H 91 4) ≤ z5.2 then some (.inr (.inl z5.1)) else ((f_X12_done N H R S 103 z5.2).bind (fun z7 => (if z7 = 0 then (if z5.1 = a2 then some (.inr (.inr (z5.2, H))) else some (.inl (z5.1 + 1, z5.2 + 1))) else some (.inl (z5.1, z5.2 + 1))))))) N ((0 : Int32), (0 : Int32))) = some y ∧ ((∃ i, i < B ∧ a2 = nI i ∧ y = .inr (nI (co (kp i)), H)) ∨ ((∀ i, i < B → a2 ≠ nI i) ∧ y = .inl (nI B))) := by
  have hq := RO_q hR
  refine iter_wp (fun z s => ∃ f, s = (nI f, nI z) ∧ z ≤ p ^ n ∧ Bl co kp B z f ∧ ∀ i, i < f → a2 ≠ nI i) _ (p ^ n) ⟨0, by rw [nI_0], by omega, ⟨by omega, fun i hi => by omega, fun i _ _ => by omega⟩, fun i hi => by omega⟩ ?_ (by omega)
  rintro z _ hz ⟨f, rfl, hzq, hb, hne⟩
  have hfB := hb.1
  dsimp only
  rw [hM.2.2.1]
  by_cases he : z = p ^ n
  · rw [gle_t (by omega) (by omega)]
    have := Bl_end hb (fun i => by rw [he]; exact RO_lt hR _)
    subst this
    exact .inr ⟨_, rfl, .inr ⟨hne, rfl⟩⟩
  · have hzl : z < p ^ n := by omega
    have hc := code_el hR hzl
    have hd := m_done (N := N) (R := R) hR hM hS hs (el p n X z) (by omega)
    rw [← hc] at hd
    rw [gle_f hzl (by omega), hd, Option.bind_some, nI_1, nI_1]
    by_cases e : ev p 24 s (el p n X z) = 0
    · rw [if_pos ((co0_iff hR _).mpr e)]
      obtain ⟨i, i1, i2⟩ := h2 _ e
      have hci : co (kp i) = z := by rw [i2, RO_co hR hzl]
      obtain ⟨e1, e2⟩ := Bl_hit hb hm i1 hci
      subst e1
      by_cases ha : nI i = a2
      · rw [if_pos ha]
        exact .inr ⟨_, rfl, .inl ⟨i, i1, ha.symm, by rw [hci]⟩⟩
      · rw [if_neg ha]
        refine .inl ⟨_, rfl, hzl, i + 1, rfl, by omega, e2, fun j hj => ?_⟩
        by_cases e3 : j = i
        · rw [e3]; exact fun z => ha z.symm
        · exact hne j (by omega)
    · rw [if_neg (fun z => e ((co0_iff hR _).mp z))]
      refine .inl ⟨_, rfl, hzl, f, rfl, by omega, Bl_miss hb (fun i hi ei => e ?_), hne⟩
      have := congrArg (el p n X) ei
      rw [RO_el hR] at this
      rw [← this]; exact h1 i
theorem m_scanS {K : Type} [Lean.Grind.CommRing K] {p n : Nat} {X : K} {co : K → Nat} {H : gI} {R : gR} {S : gS} {N B w r : Nat} {kp : Nat → K} {t : Nat → K} (hR : RO K p n X co) (hM : MH p n X co H) (hw : w < 10) (hW : MW co H w r t) (hr : r ≤ 3) (h0 : kp 0 = 0) (hB0 : 0 < B) (h1 : ∀ i m, m ≤ r → Lt p t t m (kp i) = 0) (h2 : ∀ z, (∀ m, m ≤ r → Lt p t t m z = 0) → ∃ i, i < B ∧ kp i = z) (hm : ∀ i k, i < k → k < B → co (kp i) < co (kp k)) (hB : B ≤ 15625) (hN : 16000 ≤ N) :
    (iter (σ := Int32 × Int32) (ρ := Int32) (fun z3 => (if (H 91 4) ≤ z3.2 then some (.inr z3.1) else ((iter (σ := Int32 × Int32) (ρ := Int32) (fun z5 => if nI w < 0 ∨ 10 ≤ (nI w).toNatClampNeg then none else (if (H 101 (nI w).toNatClampNeg) < z5.2 then some (.inr z5.1) else (if z5.1 = 0 then some (.inl ((0 : Int32), z5.2 + 1)) else ((f_X12_turned N H R S (nI w) z5.2 z3.2).bind (fun z7 => if (((4 : Int32) * nI w) + z5.2) < 0 ∨ 40 ≤ (((4 : Int32) * nI w) + z5.2).toNatClampNeg then none else (if z7 = (H 102 (((4 : Int32) * nI w) + z5.2).toNatClampNeg) then some (.inl ((1 : Int32), z5.2 + 1)) else some (.inl ((0 : Int32), z5.2 + 1)))))))) N ((1 : Int32), (0 : Int32))).bind (fun r6 => (if r6 = 0 then some (.inl (z3.1 + (0 : Int32), z3.2 + 1)) else some (.inl (z3.1 + (1 : Int32), z3.2 + 1))))))) N ((0 : Int32), (1 : Int32))) = some (nI (B - 1)) := by
  have hq := RO_q hR
  have hz1 : Bl co kp B 1 1 := by
    refine ⟨by omega, fun i hi => ?_, fun i i1 i2 => ?_⟩
    · rw [show i = 0 by omega, h0, RO_0 hR]; omega
    · have := hm 0 i (by omega) i2
      omega
  obtain ⟨y, y1, y2⟩ := iter_wp (b := fun z3 => (if (H 91 4) ≤ z3.2 then some (.inr z3.1) else ((iter (σ := Int32 × Int32) (ρ := Int32) (fun z5 => if nI w < 0 ∨ 10 ≤ (nI w).toNatClampNeg then none else (if (H 101 (nI w).toNatClampNeg) < z5.2 then some (.inr z5.1) else (if z5.1 = 0 then some (.inl ((0 : Int32), z5.2 + 1)) else ((f_X12_turned N H R S (nI w) z5.2 z3.2).bind (fun z7 => if (((4 : Int32) * nI w) + z5.2) < 0 ∨ 40 ≤ (((4 : Int32) * nI w) + z5.2).toNatClampNeg then none else (if z7 = (H 102 (((4 : Int32) * nI w) + z5.2).toNatClampNeg) then some (.inl ((1 : Int32), z5.2 + 1)) else some (.inl ((0 : Int32), z5.2 + 1)))))))) N ((1 : Int32), (0 : Int32))).bind (fun r6 => (if r6 = 0 then some (.inl (z3.1 + (0 : Int32), z3.2 + 1)) else some (.inl (z3.1 + (1 : Int32), z3.2 + 1))))))) (N := N) (s := ((0 : Int32), (1 : Int32))) (fun z s => ∃ f, s = (nI f, nI (z + 1)) ∧ z + 1 ≤ p ^ n ∧ Bl co kp B (z + 1) (f + 1)) (fun y => y = nI (B - 1)) (p ^ n - 1) ⟨0, rfl, by omega, hz1⟩ (by
    rintro z _ hz ⟨f, rfl, hzq, hb⟩
    have hfB := hb.1
    dsimp only
    rw [hM.2.2.1]
    by_cases he : z + 1 = p ^ n
    · rw [gle_t (by omega) (by omega)]
      have := Bl_end hb (fun i => by rw [he]; exact RO_lt hR _)
      exact .inr ⟨_, rfl, by rw [← this]; rfl⟩
    · have hzl : z + 1 < p ^ n := by omega
      have hc := code_el hR hzl
      have hnz : el p n X (z + 1) ≠ 0 := fun e => by
        have := RO_co hR hzl
        rw [e, RO_0 hR] at this
        omega
      obtain ⟨fl, f1, f2⟩ := m_flagT (N := N) (R := R) (S := S) hR hM hw hw hW hW hr (el p n X (z + 1)) (by omega)
      rw [← hc] at f1
      rw [gle_f hzl (by omega), f1, Option.bind_some]
      rcases f2 with ⟨rfl, h⟩ | ⟨rfl, h⟩
      · rw [if_neg (by decide), nI_1, nI_1]
        obtain ⟨i, i1, i2⟩ := h2 (el p n X (z + 1)) (fun m hm => (turn_iff hR t t m hnz).mp (h m hm))
        have hci : co (kp i) = z + 1 := by rw [i2, RO_co hR hzl]
        obtain ⟨e1, e2⟩ := Bl_hit hb hm i1 hci
        exact .inl ⟨_, rfl, by omega, f + 1, rfl, by omega, e2⟩
      · rw [if_pos rfl, nI_1, show (0 : Int32) = nI 0 from rfl, nI_add]
        refine .inl ⟨_, rfl, by omega, f, rfl, by omega, Bl_miss hb (fun i hi ei => h (fun m hm => ?_))⟩
        have := congrArg (el p n X) ei
        rw [RO_el hR] at this
        exact (turn_iff hR t t m hnz).mpr (by rw [← this]; exact h1 i m hm)) (by omega)
  rw [y1, y2]
theorem m_scanA {K : Type} [Lean.Grind.CommRing K] {p n : Nat} {X : K} {co : K → Nat} {H : gI} {R : gR} {S : gS} {N B w v r ru : Nat} {kp : Nat → K} {t u : Nat → K} (hR : RO K p n X co) (hM : MH p n X co H) (hw : w < 10) (hv : v < 10) (hW : MW co H w r t) (hU : MW co H v ru u) (hr : r ≤ 3) (hru : ru ≤ 3) (hk : r = ru → kp 0 = 0 ∧ 0 < B ∧ (∀ i m, m ≤ r → Lt p t u m (kp i) = 0) ∧ (∀ z, (∀ m, m ≤ r → Lt p t u m z = 0) → ∃ i, i < B ∧ kp i = z) ∧ ∀ i k, i < k → k < B → co (kp i) < co (kp k)) (hN : 16000 ≤ N) :
    (iter (σ := Int32 × Int32) (ρ := Int32) (fun z4 => (if (H 91 4) ≤ z4.2 then some (.inr z4.1) else if nI w < 0 ∨ 10 ≤ (nI w).toNatClampNeg then none else if nI v < 0 ∨ 10 ≤ (nI v).toNatClampNeg then none else (if (H 101 (nI w).toNatClampNeg) = (H 101 (nI v).toNatClampNeg) then (if z4.1 = 0 then ((iter (σ := Int32 × Int32) (ρ := Int32) (fun z6 => if nI w < 0 ∨ 10 ≤ (nI w).toNatClampNeg then none else (if (H 101 (nI w).toNatClampNeg) < z6.2 then some (.inr z6.1) else (if z6.1 = 0 then some (.inl ((0 : Int32), z6.2 + 1)) else ((f_X12_turned N H R S (nI w) z6.2 z4.2).bind (fun z8 => if (((4 : Int32) * nI v) + z6.2) < 0 ∨ 40 ≤ (((4 : Int32) * nI v) + z6.2).toNatClampNeg then none else (if z8 = (H 102 (((4 : Int32) * nI v) + z6.2).toNatClampNeg) then some (.inl ((1 : Int32), z6.2 + 1)) else some (.inl ((0 : Int32), z6.2 + 1)))))))) N ((1 : Int32), (0 : Int32))).bind (fun r7 => some (.inl (r7, z4.2 + 1)))) else some (.inr z4.1)) else some (.inr z4.1)))) N ((0 : Int32), (1 : Int32))) = some (if r = ru ∧ 1 < B then 1 else 0) := by
  have hq := RO_q hR
  obtain ⟨y, y1, y2⟩ := iter_wp (b := fun z4 => (if (H 91 4) ≤ z4.2 then some (.inr z4.1) else if nI w < 0 ∨ 10 ≤ (nI w).toNatClampNeg then none else if nI v < 0 ∨ 10 ≤ (nI v).toNatClampNeg then none else (if (H 101 (nI w).toNatClampNeg) = (H 101 (nI v).toNatClampNeg) then (if z4.1 = 0 then ((iter (σ := Int32 × Int32) (ρ := Int32) (fun z6 => if nI w < 0 ∨ 10 ≤ (nI w).toNatClampNeg then none else (if (H 101 (nI w).toNatClampNeg) < z6.2 then some (.inr z6.1) else (if z6.1 = 0 then some (.inl ((0 : Int32), z6.2 + 1)) else ((f_X12_turned N H R S (nI w) z6.2 z4.2).bind (fun z8 => if (((4 : Int32) * nI v) + z6.2) < 0 ∨ 40 ≤ (((4 : Int32) * nI v) + z6.2).toNatClampNeg then none else (if z8 = (H 102 (((4 : Int32) * nI v) + z6.2).toNatClampNeg) then some (.inl ((1 : Int32), z6.2 + 1)) else some (.inl ((0 : Int32), z6.2 + 1)))))))) N ((1 : Int32), (0 : Int32))).bind (fun r7 => some (.inl (r7, z4.2 + 1)))) else some (.inr z4.1)) else some (.inr z4.1)))) (N := N) (s := ((0 : Int32), (1 : Int32))) (fun z s => (s = (0, nI (z + 1)) ∧ z + 1 ≤ p ^ n ∧ (r = ru → ∀ i, i < B → co (kp i) < z + 1 → i = 0)) ∨ (∃ x, s = (1, x) ∧ r = ru ∧ 1 < B)) (fun y => y = if r = ru ∧ 1 < B then 1 else 0) (p ^ n) (.inl ⟨rfl, by omega, fun e i hi hl => by
      obtain ⟨k1, k2, k3, k4, k5⟩ := hk e
      apply Classical.byContradiction
      intro hne
      have := k5 0 i (by omega) hi
      omega⟩) (by
    rintro z _ hz (⟨rfl, hzq, hb⟩ | ⟨x, rfl, e, hB1⟩)
    · dsimp only
      rw [hM.2.2.1]
      by_cases he : z + 1 = p ^ n
      · rw [gle_t (by omega) (by omega)]
        refine .inr ⟨_, rfl, ?_⟩
        rw [if_neg]
        rintro ⟨e, hB1⟩
        have := hb e 1 hB1 (by rw [he]; exact RO_lt hR _)
        omega
      · have hzl : z + 1 < p ^ n := by omega
        rw [gle_f hzl (by omega), nI_clamp (by omega), nI_clamp (by omega), gin2 (by omega) (by omega), gin2 (by omega) (by omega), hW.1, hU.1]
        by_cases hrr : r = ru
        · subst hrr
          obtain ⟨k1, k2, k3, k4, k5⟩ := hk rfl
          have hc := code_el hR hzl
          have hnz : el p n X (z + 1) ≠ 0 := fun e => by
            have := RO_co hR hzl
            rw [e, RO_0 hR] at this
            omega
          obtain ⟨fl, f1, f2⟩ := m_flagT (N := N) (R := R) (S := S) hR hM hw hv hW hU hr (el p n X (z + 1)) (by omega)
          rw [← hc, nI_clamp (by omega), hW.1] at f1
          rw [if_pos rfl, if_pos rfl]
          simp only [gin2 hw (show 10 ≤ 2147483648 by omega)] at f1 ⊢
          rw [f1, Option.bind_some]
          rcases f2 with ⟨rfl, h⟩ | ⟨rfl, h⟩
          · refine .inl ⟨_, rfl, by omega, .inr ⟨_, rfl, trivial, ?_⟩⟩
            obtain ⟨i, i1, i2⟩ := k4 (el p n X (z + 1)) (fun m hm => (turn_iff hR t u m hnz).mp (h m hm))
            apply Classical.byContradiction
            intro hB
            rw [show i = 0 by omega, k1] at i2
            exact hnz i2.symm
          · rw [nI_1]
            refine .inl ⟨_, rfl, by omega, .inl ⟨rfl, by omega, fun _ i hi hl => ?_⟩⟩
            by_cases e3 : co (kp i) = z + 1
            · exfalso
              have := congrArg (el p n X) e3
              rw [RO_el hR] at this
              exact h (fun m hm => (turn_iff hR t u m hnz).mpr (by rw [← this]; exact k3 i m hm))
            · exact hb rfl i hi (by omega)
        · rw [geq_f hrr (by omega) (by omega)]
          exact .inr ⟨_, rfl, by rw [if_neg (fun z => hrr z.1)]⟩
    · subst e
      refine .inr ⟨1, ?_, by rw [if_pos ⟨rfl, hB1⟩]⟩
      dsimp only
      by_cases hx : H 91 4 ≤ x
      · rw [if_pos hx]
      · rw [if_neg hx, nI_clamp (by omega), nI_clamp (by omega), gin2 (by omega) (by omega), gin2 (by omega) (by omega), hW.1, hU.1, if_pos rfl, if_neg (show ¬ (1 : Int32) = 0 by decide)]) (by omega)
  rw [y1, y2]
end Scan
