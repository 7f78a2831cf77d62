/-! the trace of a question, on both sides -/
section AskT
/-- J is I but for the trace, whose first L numbers are those of g -/
def TC (g : Nat → Int32) (I J : gI) (L : Nat) : Prop := J 3 1 = nI L ∧ (∀ i, i < L → J 4 i = g i) ∧ ∀ q, q ≠ 3 → q ≠ 4 → J q = I q
def TM (g : Nat → Int32) (I J : gI) (L : Nat) : Prop := J 91 28 = nI L ∧ (∀ i, i < L → J 113 i = g i) ∧ (∀ q, q ≠ 91 → q ≠ 113 → J q = I q) ∧ ∀ j, j ≠ 28 → J 91 j = I 91 j
theorem TC_leave {N : Nat} {R : gR} {S : gS} {g : Nat → Int32} {I J : gI} {L : Nat} (h : TC g I J L) (hL : L < 16) : ∃ J2, f_X9_leave N J R S (g L) = some J2 ∧ TC g I J2 (L + 1) := by
  obtain ⟨h1, h2, h3⟩ := h
  refine ⟨gU (gU J 4 L (g L)) 3 1 (nI (L + 1)), ?_, gU_at _ _ _ _, fun i hi => ?_, fun q q1 q2 => ?_⟩
  · unfold f_X9_leave
    rw [h1, show (16 : Int32) = nI 16 from rfl, gle_f hL (by omega), nI_clamp (by omega), gin2 (by omega) (by omega), gU_ne _ _ _ _ (by decide), h1, nI_1]
  · rw [gU_ne _ _ _ _ (by decide)]
    by_cases e : i = L
    · rw [e, gU_at]
    · rw [gU_slot _ _ _ e]; exact h2 i (by omega)
  · rw [gU_cell _ _ _ q1, gU_cell _ _ _ q2, h3 q q1 q2]
theorem TM_began {N : Nat} {R : gR} {S : gS} {g : Nat → Int32} {I J : gI} {L : Nat} (h : TM g I J L) (hL : L < 16) : ∃ J2, f_X12_began N J R S (g L) = some J2 ∧ TM g I J2 (L + 1) := by
  obtain ⟨h1, h2, h3, h4⟩ := h
  refine ⟨gU (gU J 113 L (g L)) 91 28 (nI (L + 1)), ?_, gU_at _ _ _ _, fun i hi => ?_, fun q q1 q2 => ?_, fun j hj => ?_⟩
  · unfold f_X12_began
    rw [h1, show (16 : Int32) = nI 16 from rfl, gle_f hL (by omega), nI_clamp (by omega), gin2 (by omega) (by omega), gU_ne _ _ _ _ (by decide), h1, nI_1]
  · rw [gU_ne _ _ _ _ (by decide)]
    by_cases e : i = L
    · rw [e, gU_at]
    · rw [gU_slot _ _ _ e]; exact h2 i (by omega)
  · rw [gU_cell _ _ _ q1, gU_cell _ _ _ q2, h3 q q1 q2]
  · rw [gU_slot _ _ _ hj, gU_ne _ _ _ _ (by decide), h4 j hj]
theorem TM_MH {K : Type} [Lean.Grind.CommRing K] {p n : Nat} {X : K} {co : K → Nat} {g : Nat → Int32} {I J : gI} {L : Nat} (h : TM g I J L) (hM : MH p n X co I) : MH p n X co J := MH_of hM (fun j _ hj => h.2.2.2 j (by omega)) (h.2.2.1 96 (by decide) (by decide)) (h.2.2.1 97 (by decide) (by decide))
theorem TM_MW {K : Type} [Lean.Grind.CommRing K] {co : K → Nat} {g : Nat → Int32} {I J : gI} {L w r : Nat} {t : Nat → K} (h : TM g I J L) (hW : MW co I w r t) : MW co J w r t := MW_of hW (h.2.2.1 101 (by decide) (by decide)) (h.2.2.1 102 (by decide) (by decide))
/-- a question's step: the trace anew, the status st -/
theorem step_ask {K : Type} [Lean.Grind.CommRing K] {p n : Nat} {X : K} {co : K → Nat} {k : Nat} {I J : gI} {R : gR} {S : gS} (hR : RO K p n X co) (h : IV p n X co k I R S) (hf : ∀ q, ¬ (q = 0 ∨ q = 3 ∨ q = 4 ∨ (91 ≤ q ∧ q ≤ 95) ∨ (103 ≤ q ∧ q ≤ 113)) → J q = I q) (h91 : ∀ j, 2 ≤ j → j ≠ 28 → J 91 j = I 91 j) (hst : J 0 7 = J 91 1) (ht : TRs J) : IV p n X co (k + 1) J R S := by
  obtain ⟨a1, a2, a3, a4, a5, a6, a7, a8, a9, a10⟩ := h
  refine ⟨a1, a2, by omega, FH_of a4 hR.2.2.1 (fun q h1 h2 => hf q (by omega)), MH_of a5 (fun j hj hj5 => h91 j hj (by omega)) (hf 96 (by omega)) (hf 97 (by omega)), CST_q hR a6 (fun q hq => hf q (by omega)), fun s hs => RWs_of (a7 s hs) (hf _ (by omega)) (hf _ (by omega)) (hf _ (by omega)) (hf _ (by omega)) (hf _ (by omega)), fun w hw => SHs_of (a8 w hw) (fun q hq => hf q (by omega)) (hf _ (by omega)) (hf _ (by omega)), hst, ht⟩
section
variable {N : Nat} {R : gR} {S : gS} {g : Nat → Int32} {I J : gI} {L a r : Nat}
theorem a10_size (h : TC g I J L) (hL : L < 16) (hg : g L = 10) (hb : gKb S a = true) (ha : 114 ≤ a) (hr : I a 1 = nI r) : ∃ J2, f_X10_sizeAsked N J R S a = some (nI r, J2) ∧ TC g I J2 (L + 1) := by
  obtain ⟨J2, k1, k2⟩ := TC_leave (N := N) (R := R) (S := S) h hL
  refine ⟨J2, ?_, k2⟩
  unfold f_X10_sizeAsked
  rw [if_pos hb, ← hg, k1, Option.bind_some, k2.2.2 a (by omega) (by omega), hr]
theorem a10_sign {v : Int32} (h : TC g I J L) (hL : L < 16) (hg : g L = 20) (hb : gKb S a = true) (hw : gWb R S a = true) (ha : 114 ≤ gt R a) (hv : I (gt R a) 0 = v) : ∃ J2, f_X10_signAsked N J R S a = some (v, J2) ∧ TC g I J2 (L + 1) := by
  obtain ⟨J2, k1, k2⟩ := TC_leave (N := N) (R := R) (S := S) h hL
  refine ⟨J2, ?_, k2⟩
  unfold f_X10_signAsked
  rw [if_pos hb, ← hg, k1, Option.bind_some, if_pos hw, if_neg (by decide), k2.2.2 _ (by omega) (by omega)]
  exact congrArg some (Prod.ext hv rfl)
end
end AskT
