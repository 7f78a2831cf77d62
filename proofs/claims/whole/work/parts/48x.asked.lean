/-! the model's answers to a question -/
section AskM
variable {N : Nat} {R : gR} {S : gS} {g : Nat → Int32} {I J : gI} {L w r : Nat}
theorem m_isOf2 (e : Nat) (he : 1 ≤ e ∧ e ≤ 4) (J : gI) : f_X12_isOf N J R S (nI e) (2 : Int32) = some (ib e 2) := m_isOf (o := 2) he (by omega)
theorem m_sized1 {K : Type} [Lean.Grind.CommRing K] {co : K → Nat} {t : Nat → K} (h : TM g I J L) (hL : L < 16) (hw : w < 10) (hW : MW co I w r t) (h0 : g L = 10) : ∃ J2, f_X12_sized N J R S (nI w) (nI 1) = some (nI r + 0, J2) ∧ TM g I J2 (L + 1) := by
  obtain ⟨J2, k1, k2⟩ := TM_began (N := N) (R := R) (S := S) h hL
  refine ⟨J2, ?_, k2⟩
  unfold f_X12_sized
  rw [if_neg (by decide), if_neg (by decide), Option.bind_some, m_isOf2 1 (by omega), Option.bind_some, if_pos (show ib 1 2 = 0 from rfl), Option.bind_some, ← h0, k1, Option.bind_some, nI_clamp (by omega), gin2 (by omega) (by omega), m_isOf2 1 (by omega), Option.bind_some, if_pos (show ib 1 2 = 0 from rfl), Option.bind_some, if_neg (by decide), (TM_MW k2 hW).1]
theorem m_sized2 {K : Type} [Lean.Grind.CommRing K] {co : K → Nat} {t : Nat → K} (h : TM g I J L) (hL : L + 1 < 16) (hw : w < 10) (hW : MW co I w r t) (h0 : g L = 11) (h1 : g (L + 1) = 10) : ∃ J2, f_X12_sized N J R S (nI w) (nI 2) = some (nI r + 10, J2) ∧ TM g I J2 (L + 2) := by
  obtain ⟨J1, k1, k2⟩ := TM_began (N := N) (R := R) (S := S) h (by omega)
  obtain ⟨J2, k3, k4⟩ := TM_began (N := N) (R := R) (S := S) k2 (by omega)
  refine ⟨J2, ?_, k4⟩
  rw [h0] at k1
  rw [h1] at k3
  unfold f_X12_sized
  rw [if_neg (by decide), if_neg (by decide), Option.bind_some, m_isOf2 2 (by omega), Option.bind_some, if_neg (show ¬ ib 2 2 = 0 by decide), k1, Option.bind_some, Option.bind_some, k3, Option.bind_some, nI_clamp (by omega), gin2 (by omega) (by omega), m_isOf2 2 (by omega), Option.bind_some, if_neg (show ¬ ib 2 2 = 0 by decide), Option.bind_some, if_neg (by decide), (TM_MW k4 hW).1]
theorem m_sized3 {K : Type} [Lean.Grind.CommRing K] {co : K → Nat} {t : Nat → K} (h : TM g I J L) (hL : L + 2 < 16) (hw : w < 10) (hW : MW co I w r t) (h0 : g L = 12) (h1 : g (L + 1) = 11) (h2 : g (L + 2) = 10) : ∃ J2, f_X12_sized N J R S (nI w) (nI 3) = some ((nI r + 10) * 2, J2) ∧ TM g I J2 (L + 3) := by
  obtain ⟨J0, k1, k2⟩ := TM_began (N := N) (R := R) (S := S) h (by omega)
  obtain ⟨J1, k3, k4⟩ := TM_began (N := N) (R := R) (S := S) k2 (by omega)
  obtain ⟨J2, k5, k6⟩ := TM_began (N := N) (R := R) (S := S) k4 (by omega)
  refine ⟨J2, ?_, k6⟩
  rw [h0] at k1
  rw [h1] at k3
  rw [h2] at k5
  unfold f_X12_sized
  rw [if_neg (by decide), if_pos (show nI 3 = (3 : Int32) from rfl), k1, Option.bind_some, Option.bind_some, m_isOf2 3 (by omega), Option.bind_some, if_neg (show ¬ ib 3 2 = 0 by decide), k3, Option.bind_some, Option.bind_some, k5, Option.bind_some, nI_clamp (by omega), gin2 (by omega) (by omega), m_isOf2 3 (by omega), Option.bind_some, if_neg (show ¬ ib 3 2 = 0 by decide), Option.bind_some, if_pos (show nI 3 = (3 : Int32) from rfl), (TM_MW k6 hW).1, Int32.mul_comm]
theorem m_sized4 {K : Type} [Lean.Grind.CommRing K] {co : K → Nat} {t : Nat → K} (h : TM g I J L) (hL : L + 2 < 16) (hw : w < 10) (hW : MW co I w r t) (h0 : g L = 13) (h1 : g (L + 1) = 10) (h2 : g (L + 2) = 20) : ∃ J2, f_X12_sized N J R S (nI w) (nI 4) = some (nI r + nI (co (t 0)), J2) ∧ TM g I J2 (L + 3) := by
  obtain ⟨J0, k1, k2⟩ := TM_began (N := N) (R := R) (S := S) h (by omega)
  obtain ⟨J1, k3, k4⟩ := TM_began (N := N) (R := R) (S := S) k2 (by omega)
  obtain ⟨J2, k5, k6⟩ := TM_began (N := N) (R := R) (S := S) k4 (by omega)
  refine ⟨J2, ?_, k6⟩
  rw [h0] at k1
  rw [h1] at k3
  rw [h2] at k5
  have e0 := (TM_MW k6 hW).2 0 (by omega)
  rw [Nat.add_zero] at e0
  unfold f_X12_sized
  rw [if_pos (show nI 4 = (4 : Int32) from rfl), k1, Option.bind_some, k3, Option.bind_some, k5, Option.bind_some, show (4 : Int32) = nI 4 from rfl, pk_mul, nI_clamp (by omega), nI_clamp (by omega), gin2 (by omega) (by omega), gin2 (by omega) (by omega), (TM_MW k6 hW).1, e0]
end AskM
