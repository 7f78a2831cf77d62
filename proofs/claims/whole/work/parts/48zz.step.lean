/-! one call of a script -/
section Step
/-- what is still asked of WHOLE and LEAST (told 7, told 8), at a state -/
def T78 {K : Type} [Lean.Grind.CommRing K] (p n : Nat) (X : K) (co : K → Nat) (N : Nat) (I : gI) (R : gR) (S : gS) : Prop := ∀ x1 : Int32, ∀ w a r, ∀ t : Nat → K, ∀ d c f, w < 10 → R 2 w = some a → WD p n co I R S a r t d c f → MW co I w r t → x1 = nI 7 ∨ x1 = nI 8 → ∃ v J1 J2 st, f_X11_told N I R S (nI w) x1 = some (v, J1) ∧ CS p n X co R S I J1 st ∧ f_X12_told N J1 R S (nI w) x1 = some (v, J2) ∧ MS J1 J2 st
theorem IV_up {K : Type} [Lean.Grind.CommRing K] {p n : Nat} {X : K} {co : K → Nat} {k : Nat} {I : gI} {R : gR} {S : gS} (h : IV p n X co k I R S) : IV p n X co (k + 1) I R S := by
  obtain ⟨a1, a2, a3, a4⟩ := h
  exact ⟨a1, a2, by omega, a4⟩
theorem st_step {K : Type} [Lean.Grind.CommRing K] {p n : Nat} {X : K} {co : K → Nat} {k N : Nat} {I : gI} {R : gR} {S : gS} (hR : RO K p n X co) (h : IV p n X co k I R S) (hk : k < 512) (hN : 16000 ≤ N) (h78 : T78 p n X co N I R S) (op a0 a1 a2 a3 a4 : Int32) : ∃ J P T, f_step N I R S op a0 a1 a2 a3 a4 = some (J, P, T) ∧ IV p n X co (k + 1) J P T := by
  unfold f_step
  by_cases h0 : (op &&& 31) = (0 : Int32)
  · rw [if_pos h0]; exact st_row hR h hN a0 a1 a2
  rw [if_neg h0]
  by_cases h1 : (op &&& 31) = (1 : Int32)
  · rw [if_pos h1]; exact st_set hR h a0 a1 a2
  rw [if_neg h1]
  by_cases h2 : (op &&& 31) = (2 : Int32)
  · rw [if_pos h2]; exact st_copy hR h hN a0 a1 a2 a3 a4
  rw [if_neg h2]
  by_cases h3 : (op &&& 31) = (3 : Int32)
  · rw [if_pos h3]; exact st_drop hR h a0
  rw [if_neg h3]
  by_cases h4 : (op &&& 31) = (4 : Int32)
  · rw [if_pos h4]; exact st_field hR h hk hN a0 a1 a2
  rw [if_neg h4]
  by_cases h5 : (op &&& 31) = (5 : Int32)
  · rw [if_pos h5]; exact st_world hR h hk hN a0 a1 a2 a3
  rw [if_neg h5]
  by_cases h6 : (op &&& 31) = (6 : Int32)
  · rw [if_pos h6]; exact st_turn hR h hk hN a0 a1 a2
  rw [if_neg h6]
  by_cases h7 : (op &&& 31) = (7 : Int32)
  · rw [if_pos h7]; exact st_map hR h hk hN a0 a1 a2 a3 a4
  rw [if_neg h7]
  by_cases h8 : (op &&& 31) = (8 : Int32)
  · rw [if_pos h8]; exact st_clear hR h a0
  rw [if_neg h8]
  by_cases h9 : (op &&& 31) = (9 : Int32)
  · rw [if_pos h9]; exact st_told hR h hk hN a0 a1 (h78 a1)
  rw [if_neg h9]
  by_cases h10 : (op &&& 31) = (10 : Int32)
  · rw [if_pos h10]; exact st_acts hR h hk hN a0 a1 a2
  rw [if_neg h10]
  by_cases h11 : (op &&& 31) = (11 : Int32)
  · rw [if_pos h11]; exact st_sum hR h hk hN a0 a1 a2
  rw [if_neg h11]
  by_cases h12 : (op &&& 31) = (12 : Int32)
  · rw [if_pos h12]; exact st_order hR h hk hN a0 a1
  rw [if_neg h12]
  by_cases h13 : (op &&& 31) = (13 : Int32)
  · rw [if_pos h13]; exact st_kernel hR h hk hN a0 a1 a2
  rw [if_neg h13]
  by_cases h14 : (op &&& 31) = (14 : Int32)
  · rw [if_pos h14]; exact st_back hR h hk hN a0 a1 a2 a3 a4
  rw [if_neg h14]
  by_cases h15 : (op &&& 31) = (15 : Int32)
  · rw [if_pos h15]; exact st_alike hR h hk hN a0 a1
  rw [if_neg h15]
  by_cases h16 : (op &&& 31) = (16 : Int32)
  · rw [if_pos h16]; exact st_stays hR h hk hN a0
  rw [if_neg h16]
  by_cases h17 : (op &&& 31) = (17 : Int32)
  · rw [if_pos h17]; exact st_kind hR h hk hN a0
  rw [if_neg h17]
  by_cases h18 : (op &&& 31) = (18 : Int32)
  · rw [if_pos h18]; exact st_is hR h hk hN a0 a1
  rw [if_neg h18]
  by_cases h19 : (op &&& 31) = (19 : Int32)
  · rw [if_pos h19]; exact st_as hR h hk hN a0 a1
  rw [if_neg h19]
  by_cases h20 : (op &&& 31) = (20 : Int32)
  · rw [if_pos h20]; exact st_ask hR h hk hN a0 a1
  rw [if_neg h20]
  by_cases h21 : (op &&& 31) = (21 : Int32)
  · rw [if_pos h21]; exact st_trace hR h a0
  rw [if_neg h21]
  by_cases h22 : (op &&& 31) = (22 : Int32)
  · rw [if_pos h22]; exact st_count hR h hk hN a0
  rw [if_neg h22]
  by_cases h23 : (op &&& 31) = (23 : Int32)
  · rw [if_pos h23]; exact st_status hR h
  rw [if_neg h23]
  exact ⟨I, R, S, rfl, IV_up h⟩
end Step
