/-! the rest of the answers to a question -/
section AskS
variable {N : Nat} {R : gR} {S : gS} {g : Nat → Int32} {I J : gI} {L w r : Nat}
theorem m_signed1 {K : Type} [Lean.Grind.CommRing K] {co : K → Nat} {t : Nat → K} (h : TM g I J L) (hL : L + 2 < 16) (hw : w < 10) (hW : MW co I w r t) (h0 : g L = 23) (h1 : g (L + 1) = 20) (h2 : g (L + 2) = 10) : ∃ J2, f_X12_signed N J R S (nI w) (nI 1) = some (nI (co (t 0)) + (nI r + 0), J2) ∧ TM g I J2 (L + 3) := by
  obtain ⟨J0, k1, k2⟩ := TM_began (N := N) (R := R) (S := S) h (by omega)
  obtain ⟨J1, k3, k4⟩ := TM_began (N := N) (R := R) (S := S) k2 (by omega)
  obtain ⟨J2, k5, k6⟩ := m_sized1 (N := N) (R := R) (S := S) k4 (by omega) hw hW h2
  refine ⟨J2, ?_, k6⟩
  rw [h0] at k1
  rw [h1] at k3
  have e0 := (TM_MW k4 hW).2 0 (by omega)
  rw [Nat.add_zero] at e0
  unfold f_X12_signed
  rw [if_pos (show nI 1 = (1 : Int32) from rfl), k1, Option.bind_some, k3, Option.bind_some, show (4 : Int32) = nI 4 from rfl, pk_mul, nI_clamp (by omega), gin2 (by omega) (by omega), k5, Option.bind_some, e0]
theorem m_signed4 {K : Type} [Lean.Grind.CommRing K] {co : K → Nat} {t : Nat → K} (h : TM g I J L) (hL : L < 16) (hw : w < 10) (hW : MW co I w r t) (h0 : g L = 20) : ∃ J2, f_X12_signed N J R S (nI w) (nI 4) = some (nI (co (t 0)) + 0 + 0, J2) ∧ TM g I J2 (L + 1) := by
  obtain ⟨J2, k1, k2⟩ := TM_began (N := N) (R := R) (S := S) h hL
  refine ⟨J2, ?_, k2⟩
  rw [h0] at k1
  have e0 := (TM_MW k2 hW).2 0 (by omega)
  rw [Nat.add_zero] at e0
  unfold f_X12_signed
  rw [if_neg (by decide), if_neg (by decide), Option.bind_some, m_isOf2 4 (by omega), Option.bind_some, if_pos (show ib 4 2 = 0 from rfl), Option.bind_some, k1, Option.bind_some, show (4 : Int32) = nI 4 from rfl, pk_mul, nI_clamp (by omega), gin2 (by omega) (by omega), m_isOf2 4 (by omega), Option.bind_some, if_pos (show ib 4 2 = 0 from rfl), Option.bind_some, if_neg (by decide), e0]
theorem m_signed2 {K : Type} [Lean.Grind.CommRing K] {p n : Nat} {X : K} {co : K → Nat} {t : Nat → K} (hR : RO K p n X co) (hM : MH p n X co I) (h : TM g I J L) (hL : L + 1 < 16) (hw : w < 10) (hW : MW co I w r t) (ht : t 2 ≠ 0) (h0 : g L = 21) (h1 : g (L + 1) = 20) : ∃ J2, f_X12_signed N J R S (nI w) (nI 2) = some (nI (co (t 0)) + nI (co (t 1 ^ (p + 1) * t 2 ^ (p ^ n - 2))) + 0, J2) ∧ TM g I J2 (L + 2) := by
  obtain ⟨J0, k1, k2⟩ := TM_began (N := N) (R := R) (S := S) h (by omega)
  obtain ⟨J2, k3, k4⟩ := TM_began (N := N) (R := R) (S := S) k2 (by omega)
  refine ⟨J2, ?_, k4⟩
  rw [h0] at k1
  rw [h1] at k3
  have e0 := (TM_MW k4 hW).2 0 (by omega)
  rw [Nat.add_zero] at e0
  unfold f_X12_signed
  rw [if_neg (by decide), if_neg (by decide), Option.bind_some, m_isOf2 2 (by omega), Option.bind_some, if_neg (show ¬ ib 2 2 = 0 by decide), k1, Option.bind_some, Option.bind_some, k3, Option.bind_some, show (4 : Int32) = nI 4 from rfl, pk_mul, nI_clamp (by omega), gin2 (by omega) (by omega), m_isOf2 2 (by omega), Option.bind_some, if_neg (show ¬ ib 2 2 = 0 by decide), m_markOf hR (TM_MH k4 hM) hw (TM_MW k4 hW) ht, Option.bind_some, Option.bind_some, if_neg (by decide), e0]
theorem m_signed3 {K : Type} [Lean.Grind.CommRing K] {p n d : Nat} {X : K} {co : K → Nat} {t : Nat → K} {c : Nat → Nat} (hR : RO K p n X co) (hM : MH p n X co I) (h : TM g I J L) (hL : L + 2 < 16) (hw : w < 10) (hW : MW co I w r t) (ht : t 2 ≠ 0) (hLr : Lr p n co (fun j _ => t 0 ^ j) 1 d c) (hS : S[106]? = some (12, 8)) (hN : 60 ≤ N) (h0 : g L = 22) (h1 : g (L + 1) = 21) (h2 : g (L + 2) = 20) : ∃ J2, f_X12_signed N J R S (nI w) (nI 3) = some (nI (co (t 0)) + nI (co (t 1 ^ (p + 1) * t 2 ^ (p ^ n - 2))) + nI d, J2) ∧ TM g I J2 (L + 3) := by
  obtain ⟨J0, k1, k2⟩ := TM_began (N := N) (R := R) (S := S) h (by omega)
  obtain ⟨J1, k3, k4⟩ := TM_began (N := N) (R := R) (S := S) k2 (by omega)
  obtain ⟨J2, k5, k6⟩ := TM_began (N := N) (R := R) (S := S) k4 (by omega)
  refine ⟨J2, ?_, k6⟩
  rw [h0] at k1
  rw [h1] at k3
  rw [h2] at k5
  have e0 := (TM_MW k6 hW).2 0 (by omega)
  rw [Nat.add_zero] at e0
  have hd := (m_ownOf (N := N) (R := R) (S := S) hR (TM_MH k6 hM) hw (TM_MW k6 hW) hLr hS (by omega)).1
  unfold f_X12_signed
  rw [if_neg (by decide), if_pos (show nI 3 = (3 : Int32) from rfl), k1, Option.bind_some, Option.bind_some, m_isOf2 3 (by omega), Option.bind_some, if_neg (show ¬ ib 3 2 = 0 by decide), k3, Option.bind_some, Option.bind_some, k5, Option.bind_some, show (4 : Int32) = nI 4 from rfl, pk_mul, nI_clamp (by omega), gin2 (by omega) (by omega), m_isOf2 3 (by omega), Option.bind_some, if_neg (show ¬ ib 3 2 = 0 by decide), m_markOf hR (TM_MH k6 hM) hw (TM_MW k6 hW) ht, Option.bind_some, Option.bind_some, if_pos (show nI 3 = (3 : Int32) from rfl), hd, Option.bind_some, e0]
end AskS
