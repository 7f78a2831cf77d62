/-! new cells behind the old ones -/
section Ext
/-- the old cells stand as they were -/
def Ex (R P : gR) (S T : gS) : Prop := (∀ q, q < S.length → P q = R q) ∧ (∀ q, q < S.length → T[q]? = S[q]?) ∧ S.length ≤ T.length
theorem Ex.trans {R P Q : gR} {S T U : gS} (h1 : Ex R P S T) (h2 : Ex P Q T U) : Ex R Q S U := ⟨fun q hq => by rw [h2.1 q (by have := h1.2.2; omega), h1.1 q hq], fun q hq => by rw [h2.2.1 q (by have := h1.2.2; omega), h1.2.1 q hq], by have := h1.2.2; have := h2.2.2; omega⟩
theorem Ex_app (R : gR) (S : gS) (x : Nat × Nat) : Ex R R S (S ++ [x]) := ⟨fun _ _ => rfl, fun q hq => List.getElem?_append_left hq, by simp⟩
theorem Ex_new {R : gR} {S : gS} (x : Nat × Nat) (v : Option Nat) : Ex R (gU (gZn R S.length) S.length 0 v) S (S ++ [x]) := ⟨fun q hq => by
  funext j
  rw [gU_ne _ _ _ _ (by omega)]
  exact congrFun (gZn_ne (by omega)) j, fun q hq => List.getElem?_append_left hq, by simp⟩
theorem gWb_ex {R P : gR} {S T : gS} {w : Nat} (h : Ex R P S T) (hw : w < S.length) (hb : gWb R S w = true) : gWb P T w = true ∧ gt P w = gt R w ∧ gt R w < S.length := by
  obtain ⟨h1, h2⟩ := gWb_t hb
  have hlt : gt R w < S.length := (List.getElem?_eq_some_iff.mp h2).1
  have hP : P w 0 = some (gt R w) := by rw [h.1 w hw]; exact h1
  refine ⟨?_, ?_, hlt⟩
  · unfold gWb at hb ⊢
    rw [h.2.1 w hw, hP]
    rw [Bool.and_eq_true] at hb ⊢
    refine ⟨hb.1, ?_⟩
    show (T[gt R w]? == some (12, 4)) = true
    rw [h.2.1 _ hlt, h2]; rfl
  · unfold gt
    rw [h.1 w hw]
theorem CW_ex {K : Type} [Lean.Grind.CommRing K] {co : K → Nat} {I J : gI} {R P : gR} {S T : gS} {w r : Nat} {t : Nat → K} (h : Ex R P S T) (hw : w < S.length) (hb : gWb R S w = true) (hJ : ∀ a, 114 ≤ a → a < S.length → J a = I a) : CW co J P T w r t ↔ CW co I R S w r t := by
  obtain ⟨g1, g2, g3⟩ := gWb_ex h hw hb
  constructor
  · rintro ⟨a1, a2, a3, a4, a5⟩
    rw [g2] at a3 a4
    exact ⟨hb, a2, a3, fun k hk => by rw [← hJ _ a3 g3]; exact a4 k hk, by rw [← hJ _ a2 hw]; exact a5⟩
  · rintro ⟨a1, a2, a3, a4, a5⟩
    exact ⟨g1, a2, by rw [g2]; exact a3, fun k hk => by rw [g2, hJ _ a3 g3]; exact a4 k hk, by rw [hJ _ a2 hw]; exact a5⟩
theorem Pd_ex {K : Type} [Lean.Grind.CommRing K] {p : Nat} {co : K → Nat} {I J : gI} {R P : gR} {S T : gS} (h : Pd p co I R S) (hE : Ex R P S T) (h1 : J 37 4 = I 37 4) (h2 : J 37 5 = I 37 5) (h3 : ∀ a, 39 ≤ a → a ≤ 45 → J a = I a) (hJ : ∀ a, 114 ≤ a → a < S.length → J a = I a) : Pd p co J P T := by
  intro w hw
  rw [h1] at hw
  obtain ⟨a1, a2, a3⟩ := h w hw
  refine ⟨by have := hE.2.2; omega, (gWb_ex hE a1 a2).1, fun r t hW hV => ?_⟩
  obtain ⟨e, p1, p2, p3⟩ := a3 r t ((CW_ex hE a1 a2 hJ).mp hW) hV
  exact ⟨e, p1, by rw [h2]; exact p2, fun j k hj hk => by rw [h3 (39 + j) (by omega) (by omega)]; exact p3 j k hj hk⟩
theorem Ad_ex {K : Type} [Lean.Grind.CommRing K] {p n : Nat} {X : K} {co : K → Nat} {I J : gI} {R P : gR} {S T : gS} (h : Ad p n X co I R S) (hn6 : n ≤ 6) (hE : Ex R P S T) (h1 : J 56 5 = I 56 5) (h3 : ∀ a, 58 ≤ a → a ≤ 63 → J a = I a) (hJ : ∀ a, 114 ≤ a → a < S.length → J a = I a) : Ad p n X co J P T := by
  intro w hw
  rw [h1] at hw
  obtain ⟨a1, a2, a3⟩ := h w hw
  exact ⟨by have := hE.2.2; omega, (gWb_ex hE a1 a2).1, fun r t hW hV => Im_of (a3 r t ((CW_ex hE a1 a2 hJ).mp hW) hV) hn6 h3⟩
theorem WD_ex {K : Type} [Lean.Grind.CommRing K] {p n : Nat} {co : K → Nat} {I J : gI} {R P : gR} {S T : gS} {a r : Nat} {t : Nat → K} {d : Nat} {c : Nat → Nat} {f : Nat} (h : WD p n co I R S a r t d c f) (hE : Ex R P S T) (hJ : ∀ a, 114 ≤ a → a < S.length → J a = I a) : WD p n co J P T a r t d c f := by
  obtain ⟨h1, h2, h3, h4, h5, h6, h7, h8, h9, h10, h11, h12⟩ := h
  have ha := hJ a h2.2.1 h1
  refine ⟨by have := hE.2.2; omega, (CW_ex hE h1 h2.1 hJ).mpr h2, h3, h4, h5, h6, by rw [ha]; exact h7, by rw [ha]; exact h8, h9, h10, ?_, fun e => by rw [ha]; exact h12 e⟩
  unfold gK
  rw [hE.2.1 a h1]; exact h11
theorem gLay_ex {R P : gR} {S T : gS} (h : gLay 0 114 R S) (hE : Ex R P S T) (hS : 114 ≤ S.length) : gLay 0 114 P T := ⟨fun q h1 h2 => by rw [hE.2.1 q (by omega)]; exact h.1 q h1 h2, fun x hx h1 h2 => by rw [hE.1 _ (by omega)]; exact h.2 x hx h1 h2⟩
theorem gLay_2 {R : gR} {S : gS} {w : Nat} {v : Option Nat} (h : gLay 0 114 R S) : gLay 0 114 (gU R 2 w v) S := ⟨h.1, fun x hx h1 h2 => by
  have hall : ∀ x ∈ layR, x.1 ≠ 2 := by decide
  rw [gU_ne _ _ _ _ (hall x hx)]; exact h.2 x hx h1 h2⟩
end Ext
