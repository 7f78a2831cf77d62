/-! reading a row -/
section Take
/-- both sides refuse the number x; both sides take it -/
def Bd (p n N : Nat) (R : gR) (S : gS) (x : Int32) : Prop := ∀ I J : gI, I 6 2 = nI (p ^ n) → J 91 4 = nI (p ^ n) → f_X2_has N I R S x = some 0 ∧ f_X12_isElement N J R S x = some 0
def Gd (p n N : Nat) (R : gR) (S : gS) (x : Int32) : Prop := ∀ I J : gI, I 6 2 = nI (p ^ n) → J 91 4 = nI (p ^ n) → f_X2_has N I R S x = some 1 ∧ f_X12_isElement N J R S x = some 1
theorem first_bad {A B : Nat → Prop} (h : ∀ j, A j ∨ B j) (m : Nat) : (∀ j, j < m → A j) ∨ ∃ j, j < m ∧ B j ∧ ∀ l, l < j → A l := by
  induction m with
  | zero => exact .inl (fun j hj => absurd hj (by omega))
  | succ m ih =>
    rcases ih with ih | ⟨j, h1, h2, h3⟩
    · rcases h m with e | e
      · refine .inl (fun j hj => ?_)
        by_cases e2 : j = m
        · rw [e2]; exact e
        · exact ih j (by omega)
      · exact .inr ⟨m, by omega, e, ih⟩
    · exact .inr ⟨j, by omega, h2, h3⟩
theorem rd_row {K : Type} [Lean.Grind.CommRing K] {p n : Nat} {X : K} {co : K → Nat} {N : Nat} {R : gR} {S : gS} (hR : RO K p n X co) (g : Nat → Int32) (m : Nat) : (∃ v : Nat → K, ∀ j, j < m → g j = nI (co (v j)) ∧ Gd p n N R S (g j)) ∨ ∃ j, j < m ∧ Bd p n N R S (g j) ∧ ∀ l, l < j → Gd p n N R S (g l) := by
  have h : ∀ j, (∃ a : K, g j = nI (co a) ∧ Gd p n N R S (g j)) ∨ Bd p n N R S (g j) := fun j => by
    rcases isE2 (N := N) (R := R) (S := S) hR (g j) with hs | ⟨a, e, hs⟩
    · exact .inr (fun I J h1 h2 => ⟨(hs I J h1 h2).1, (hs I J h1 h2).2.1⟩)
    · exact .inl ⟨a, e, hs⟩
  rcases first_bad h m with e | ⟨j, h1, h2, h3⟩
  · exact .inl ⟨fun j => if hj : j < m then Classical.choose (e j hj) else 0, fun j hj => by
      have := Classical.choose_spec (e j hj)
      dsimp only
      rw [dif_pos hj]; exact this⟩
  · exact .inr ⟨j, h1, h2, fun l hl => (h3 l hl).elim (fun _ x => x.2)⟩
theorem co_z {K : Type} [Lean.Grind.CommRing K] {p n : Nat} {X : K} {co : K → Nat} (hR : RO K p n X co) (a : K) : nI (co a) = 0 ↔ a = 0 := by
  have hq := RO_q hR
  have hl := RO_lt hR a
  constructor
  · intro z
    have := (nI_eq (b := 0) (show co a < 2147483648 by omega) (by omega)).mp z
    exact RO_inj hR (by rw [this, RO_0 hR])
  · intro z
    rw [z, RO_0 hR]; rfl
theorem s_take {K : Type} [Lean.Grind.CommRing K] {p n : Nat} {X : K} {co : K → Nat} {k N : Nat} {I : gI} {R : gR} {S : gS} (hR : RO K p n X co) (h : IV p n X co k I R S) (hN : 60 ≤ N) {s m : Nat} (hs : s < 8) (hm : m ≤ 4) (x : Int32) :
    (I 98 s = -1 ∧ f_X11_take N I R S (nI s) x (nI m) = some ((-1000010 : Int32) - 1, gU I 0 7 1)) ∨ ∃ la sz, la < 3 ∧ sz ≤ 24 ∧ I 98 s = nI la ∧ I 99 s = nI sz ∧
      ((¬ (∃ i, x = nI i ∧ i + (m + 1) ≤ sz) ∧ f_X11_take N I R S (nI s) x (nI m) = some ((-1000010 : Int32) - 2, gU I 0 7 2)) ∨ ∃ i, x = nI i ∧ i + (m + 1) ≤ sz ∧
        ((∃ j J, j ≤ m ∧ Bd p n N R S (I 100 (24 * s + i + j)) ∧ (∀ l, l < j → Gd p n N R S (I 100 (24 * s + i + l))) ∧ f_X11_take N I R S (nI s) x (nI m) = some (-1000001, J) ∧ ∀ q, q ≠ 5 → J q = I q) ∨
          ∃ (v : Nat → K) (J : gI), (∀ j, j ≤ m → I 100 (24 * s + i + j) = nI (co (v j)) ∧ Gd p n N R S (I 100 (24 * s + i + j))) ∧ f_X11_take N I R S (nI s) x (nI m) = some (if nI (co (v m)) = 0 then -1000001 else 0, J) ∧ (∀ q, q ≠ 5 → J q = I q) ∧ ∀ j, j ≤ m → J 5 j = nI (co (v j)))) := by
  obtain ⟨b1, b2, b3, b4, b5, b6, b7, b8, b9, b10⟩ := h
  have hms : ∀ sz, sz ≤ 24 → ¬ nI sz = (-1 : Int32) := fun sz hsz z => by
    have := nI_pos (n := sz) (by omega)
    rw [z] at this
    exact this (by decide)
  rcases (b7 s hs).1 with ⟨e1, e2⟩ | ⟨la, sz, l1, l2, l3, l4, l5, l6⟩
  · refine .inl ⟨e2, ?_⟩
    unfold f_X11_take f_X5_isMissing
    rw [nI_clamp (by omega), gin2 (by omega) (by omega), e1, if_pos rfl]; rfl
  refine .inr ⟨la, sz, l1, l2, l5, l6, ?_⟩
  have hmis : f_X5_isMissing N I R S (75 + 2 * s) = some 0 := by unfold f_X5_isMissing; rw [l4, if_neg (hms sz l2)]
  by_cases hok : ∃ i, x = nI i ∧ i + (m + 1) ≤ sz
  · obtain ⟨i, rfl, hi⟩ := hok
    refine .inr ⟨i, rfl, hi, ?_⟩
    obtain ⟨g, hg⟩ : ∃ g : Nat → Int32, g = fun j => I 100 (24 * s + i + j) := ⟨_, rfl⟩
    have hgj : ∀ j, I 100 (24 * s + i + j) = g j := fun j => by rw [hg]
    have hgi : ∀ j, j ≤ m → I (75 + 2 * s + 1) (i + j) = g j := fun j hj => by rw [(b7 s hs).2 _ (by omega), ← Nat.add_assoc]; exact hgj j
    have hup : ∀ z, gU (Wd I 5 0 z g) 5 z (g z) = Wd I 5 0 (z + 1) g := fun z => by
      have := Wd_up (I := I) (q := 5) (s := 0) (i := z) (F := g)
      rw [Nat.zero_add] at this; exact this
    have hW6 : ∀ z, Wd I 5 0 z g 6 2 = nI (p ^ n) := fun z => by rw [Wd_ne _ (by decide)]; exact b4.2.1
    simp only [hgj]
    -- one turn of the loop
    have hst : ∀ z (A : Option ((Int32 × gI) ⊕ (gI ⊕ (Int32 × gI)))) u, z ≤ m → f_X2_has N (Wd I 5 0 (z + 1) g) R S (g z) = some u → (if u = 0 then some (.inr (.inr ((-1000001 : Int32), Wd I 5 0 (z + 1) g))) else some (.inl (nI (z + 1), Wd I 5 0 (z + 1) g))) = A → (if nI m < nI z then some (.inr (.inl (Wd I 5 0 z g))) else if (nI i + nI z) < 0 ∨ 24 ≤ (nI i + nI z).toNatClampNeg then none else if nI z < 0 ∨ 5 ≤ (nI z).toNatClampNeg then none else if nI z < 0 ∨ 5 ≤ (nI z).toNatClampNeg then none else ((f_X2_has N (gU (Wd I 5 0 z g) 5 (nI z).toNatClampNeg ((Wd I 5 0 z g) ((75 + 2 * s) + 1) (nI i + nI z).toNatClampNeg)) R S ((gU (Wd I 5 0 z g) 5 (nI z).toNatClampNeg ((Wd I 5 0 z g) ((75 + 2 * s) + 1) (nI i + nI z).toNatClampNeg)) 5 (nI z).toNatClampNeg)).bind (fun z6 => (if z6 = 0 then some (.inr (.inr ((-1000001 : Int32), gU (Wd I 5 0 z g) 5 (nI z).toNatClampNeg ((Wd I 5 0 z g) ((75 + 2 * s) + 1) (nI i + nI z).toNatClampNeg)))) else some (.inl (nI z + 1, gU (Wd I 5 0 z g) 5 (nI z).toNatClampNeg ((Wd I 5 0 z g) ((75 + 2 * s) + 1) (nI i + nI z).toNatClampNeg))))))) = A := by
      intro z A u hz hu hA
      rw [glt_f hz (by omega), nI_add, nI_clamp (by omega), nI_clamp (by omega), gin2 (by omega) (by omega), gin2 (by omega) (by omega), gin2 (by omega) (by omega), Wd_ne _ (by omega), hgi z hz, hup, nI_1]
      have e : Wd I 5 0 (z + 1) g 5 z = g z := by
        have := Wd_at (I := I) (q := 5) (s := 0) (n := z + 1) (j := z) (F := g) (by omega)
        rw [Nat.zero_add] at this; exact this
      rw [e, hu, Option.bind_some]; exact hA
    rcases rd_row (N := N) (R := R) (S := S) hR g (m + 1) with ⟨v, hv⟩ | ⟨j, j1, j2, j3⟩
    · refine .inr ⟨v, Wd I 5 0 (m + 1) g, fun j hj => hv j (by omega), ?_, fun q hq => Wd_row hq, fun j hj => ?_⟩
      · unfold f_X11_take
        rw [nI_clamp (by omega), gin2 (by omega) (by omega), hmis, Option.bind_some, if_pos rfl, nI_1, has_yes l4 l2 hi, Option.bind_some, if_neg (by decide)]
        refine iter_bind (fun z => (nI z, Wd I 5 0 z g)) (m + 1) (.inl (Wd I 5 0 (m + 1) g)) (by rw [nI_0, Wd_0]) (fun z hz => hst z _ 1 (by omega) ((hv z hz).2 _ (gU I 91 4 (nI (p ^ n))) (hW6 _) (gU_at _ _ _ _)).1 (if_neg (by decide))) (by dsimp only; rw [glt_t (by omega) (by omega)]) (by omega) ?_
        show (if nI m < 0 ∨ 5 ≤ (nI m).toNatClampNeg then none else _) = _
        have e : Wd I 5 0 (m + 1) g 5 m = nI (co (v m)) := by
          have := Wd_at (I := I) (q := 5) (s := 0) (n := m + 1) (j := m) (F := g) (by omega)
          rw [Nat.zero_add] at this; rw [this]; exact (hv m (by omega)).1
        rw [nI_clamp (by omega), gin2 (by omega) (by omega), e]
        by_cases z : nI (co (v m)) = 0
        · rw [if_pos z, if_pos z]
        · rw [if_neg z, if_neg z]
      · have := Wd_at (I := I) (q := 5) (s := 0) (n := m + 1) (j := j) (F := g) (by omega)
        rw [Nat.zero_add] at this; rw [this]; exact (hv j (by omega)).1
    · refine .inl ⟨j, Wd I 5 0 (j + 1) g, by omega, j2, j3, ?_, fun q hq => Wd_row hq⟩
      unfold f_X11_take
      rw [nI_clamp (by omega), gin2 (by omega) (by omega), hmis, Option.bind_some, if_pos rfl, nI_1, has_yes l4 l2 hi, Option.bind_some, if_neg (by decide)]
      exact iter_bind (fun z => (nI z, Wd I 5 0 z g)) j (.inr ((-1000001 : Int32), Wd I 5 0 (j + 1) g)) (by rw [nI_0, Wd_0]) (fun z hz => hst z _ 1 (by omega) ((j3 z hz) _ (gU I 91 4 (nI (p ^ n))) (hW6 _) (gU_at _ _ _ _)).1 (if_neg (by decide))) (hst j _ 0 (by omega) (j2 _ (gU I 91 4 (nI (p ^ n))) (hW6 _) (gU_at _ _ _ _)).1 (if_pos rfl)) (by omega) rfl
  · refine .inl ⟨hok, ?_⟩
    unfold f_X11_take
    rw [nI_clamp (by omega), gin2 (by omega) (by omega), hmis, Option.bind_some, if_pos rfl, nI_1, has_no l4 l2 (fun ⟨i, m', y1, y2, y3⟩ => hok ⟨i, y1, by
      have := (nI_eq (show m + 1 < 2147483648 by omega) (show m' < 2147483648 by omega)).mp y2
      omega⟩)]; rfl
end Take
