/-! LENGTH, numbers of sums, HEIGHT: both sides -/
section Height
theorem CW_uniq {K : Type} [Lean.Grind.CommRing K] {p n : Nat} {X : K} {co : K → Nat} (hR : RO K p n X co) {I : gI} {R : gR} {S : gS} {w r r' : Nat} {t t' : Nat → K} (h : CW co I R S w r t) (h' : CW co I R S w r' t') (hV : WV r t) (hV' : WV r' t') : t = t' := by
  funext k
  by_cases hk : k < 4
  · have h1 := (h.2.2.2.1 k hk).symm.trans (h'.2.2.2.1 k hk)
    exact RO_inj hR ((nI_eq (co_31 hR _) (co_31 hR _)).mp h1)
  · rw [hV.2.2.2 k (by have := hV.2.1; omega), hV'.2.2.2 k (by have := hV'.2.1; omega)]
theorem Pd_mk {K : Type} [Lean.Grind.CommRing K] {p n : Nat} {X : K} {co : K → Nat} (hR : RO K p n X co) {I : gI} {R : gR} {S : gS} {w r h : Nat} {t : Nat → K} (hW : CW co I R S w r t) (hV : WV r t) (hd : gdec (I 37 4) = some w) (hP : Pw p co t h I) (hw : w < S.length) : Pd p co I R S := by
  intro w' hw'
  rw [hd] at hw'
  cases hw'
  refine ⟨hw, hW.1, fun r' t' hW' hV' => ⟨h, ?_⟩⟩
  rw [← CW_uniq hR hW hW' hV hV']; exact hP
theorem Pd_of {K : Type} [Lean.Grind.CommRing K] {p : Nat} {co : K → Nat} {I J : gI} {R : gR} {S : gS} (h : Pd p co I R S) (h1 : J 37 4 = I 37 4) (h2 : J 37 5 = I 37 5) (h3 : ∀ a, 39 ≤ a → a ≤ 45 → J a = I a) (h4 : ∀ a, 114 ≤ a → J a = I a) : Pd p co J R S := by
  intro w hw
  rw [h1] at hw
  obtain ⟨a1, a3, a2⟩ := h w hw
  refine ⟨a1, a3, fun r t hW hV => ?_⟩
  obtain ⟨e, p1, p2, p3⟩ := a2 r t (CW_of hW (fun a ha => (h4 a ha).symm)) hV
  exact ⟨e, p1, by rw [h2]; exact p2, fun j k hj hk => by rw [h3 (39 + j) (by omega) (by omega)]; exact p3 j k hj hk⟩
theorem s_lengthOf {K : Type} [Lean.Grind.CommRing K] {p n : Nat} {X : K} {co : K → Nat} {I : gI} {R : gR} {S : gS} {N w r a D : Nat} {t : Nat → K} (hR : RO K p n X co) (hF : FH p n X co I) (hW : CW co I R S w r t) (ha : a < 2147483648) (hD : Ln p a D) (hD7 : D ≤ 7) (hr : r ≤ 3) (hN : 60 ≤ N) :
    f_X8_lengthOf N I R S w (nI a) = some (if D = 0 then -1 else nI (r * (D - 1))) := by
  have hp := RO_p hR
  unfold f_X8_lengthOf
  rw [if_pos hW.1, s_degreeOf hF.2.2.2.1 hp.1 hp.2 ha hD hD7 (by omega), Option.bind_some]
  by_cases h0 : D = 0
  · rw [if_pos h0, h0, if_neg (by decide)]
  · rw [if_neg h0, dn1 D (by omega), if_pos (nI_pos' (by omega)), hW.2.2.2.2, pk_mul, Nat.mul_comm]
theorem s_numberOf {K : Type} [Lean.Grind.CommRing K] {p n : Nat} {X : K} {co : K → Nat} {I : gI} {R : gR} {S : gS} {N w r a D k : Nat} {t : Nat → K} (hR : RO K p n X co) (hF : FH p n X co I) (hW : CW co I R S w r t) (hV : WV r t) (hP : Pd p co I R S) (hS : ∀ q, 6 ≤ q → q < 56 → S[q]? = layS[q]?) (hw : w < 100000) (hws : w < S.length) (ha : a < 2147483648) (hD : Ln p a D) (hD7 : D ≤ 7) (hk : k < 19) (hN : 60 ≤ N) :
    ∃ J, f_X8_numberOf N I R S w (nI a) (nI k) = some (nI (co (ac p t a D k)), J) ∧ Fs [37, 39, 40, 41, 42, 43, 44, 45, 46] I J ∧ (∀ j, j ≠ 4 → j ≠ 5 → J 37 j = I 37 j) ∧ Pd p co J R S := by
  have hp := RO_p hR
  obtain ⟨J, h, e1, e2, e3, e4, e5, e6⟩ := s_raisePowers (N := N) hR hF hW hV hP hS hw hD7 hN
  have hFJ : FH p n X co J := FH_of hF hR.2.2.1 (fun a h1 h2 => e2 a (by
    intro z
    simp only [List.mem_cons, List.mem_nil_iff, or_false] at z
    omega))
  refine ⟨J, ?_, e2, e3, Pd_mk hR (CW_fs hW e2 (by decide)) hV e4 e6 hws⟩
  unfold f_X8_numberOf
  rw [if_pos hW.1, s_degreeOf hF.2.2.2.1 hp.1 hp.2 ha hD hD7 (by omega), Option.bind_some, e1, Option.bind_some, s_mixed hR hFJ e6 ha hk hN, Option.bind_some, ac_ext (by omega) hD.1 (show D ≤ h + 1 by omega)]
/-- the first number that is not 0 -/
def Fst {K : Type} [Lean.Grind.CommRing K] (s : Nat → K) (f : Nat) : Prop := (∀ k, k < f → s k = 0) ∧ s f ≠ 0
theorem Ln_own {p d : Nat} {c : Nat → Nat} (hp : 2 ≤ p) (hc : ∀ j, c j < p) : Ln p (enc p d c + p ^ d) (d + 1) := by
  have h := enc_lt (p := p) (n := d) (f := c) (fun i _ => hc i)
  refine ⟨?_, fun _ => by rw [Nat.add_sub_cancel]; omega⟩
  rw [Nat.pow_succ]
  have := Nat.mul_le_mul_left (p ^ d) hp
  omega
theorem Fst_ex {K : Type} [Lean.Grind.CommRing K] {p n : Nat} {X : K} {co : K → Nat} (hR : RO K p n X co) {r d a : Nat} {t : Nat → K} (hV : WV r t) (hD : Ln p a (d + 1)) : ∃ f, f ≤ r * d ∧ Fst (ac p t a (d + 1)) f := by
  have h := (ac_deg hR hV.2.2.2 hV.2.2.1 (by have := hV.1; omega) hD).2
  obtain ⟨f, h1, h2⟩ := pk_least (fun f => ac p t a (d + 1) f ≠ 0) ⟨r * d, h⟩
  refine ⟨f, ?_, fun k hk => Classical.byContradiction (fun z => h2 k hk z), h1⟩
  apply Classical.byContradiction
  intro hn
  exact h2 (r * d) (by omega) h
theorem s_heightOf {K : Type} [Lean.Grind.CommRing K] {p n : Nat} {X : K} {co : K → Nat} {I : gI} {R : gR} {S : gS} {N w r a d f : Nat} {t : Nat → K} (hR : RO K p n X co) (hF : FH p n X co I) (hW : CW co I R S w r t) (hV : WV r t) (hP : Pd p co I R S) (hS : ∀ q, 6 ≤ q → q < 56 → S[q]? = layS[q]?) (hw : w < 100000) (hws : w < S.length) (hI2 : I w 2 = nI a) (hI3 : I w 3 = nI d) (ha : a < 2147483648) (hd1 : 1 ≤ d) (hd6 : d ≤ 6) (hD : Ln p a (d + 1)) (hf : f ≤ r * d) (hfs : Fst (ac p t a (d + 1)) f) (hN : 60 ≤ N) :
    ∃ J, f_X8_heightOf N I R S w = some (nI (f / d), J) ∧ Fs [37, 39, 40, 41, 42, 43, 44, 45, 46] I J ∧ (∀ j, j ≠ 4 → j ≠ 5 → J 37 j = I 37 j) ∧ Pd p co J R S := by
  have hp := RO_p hR
  obtain ⟨J, h, e1, e2, e3, e4, e5, e6⟩ := s_raisePowers (N := N) (D := d + 1) hR hF hW hV hP hS hw (by omega) hN
  have hFJ : FH p n X co J := FH_of hF hR.2.2.1 (fun a h1 h2 => e2 a (by
    intro z
    simp only [List.mem_cons, List.mem_nil_iff, or_false] at z
    omega))
  have hJw : J w = I w := e2 w (by
    intro z
    simp only [List.mem_cons, List.mem_nil_iff, or_false] at z
    have := hW.2.1
    omega)
  have hrd : r * d ≤ 18 := Nat.mul_le_mul hV.2.1 hd6
  have h6 := e6.1
  refine ⟨J, ?_, e2, e3, Pd_mk hR (CW_fs hW e2 (by decide)) hV e4 e6 hws⟩
  unfold f_X8_heightOf
  rw [if_pos hW.1, hI2, hI3, s_lengthOf hR hF hW ha hD (by omega) hV.2.1 hN, Option.bind_some, if_neg (by omega), Nat.add_sub_cancel, show nI d = nI (d + 1) - 1 by rw [dn1 _ (by omega)]; rfl, e1, Option.bind_some]
  refine iter_bind (fun i => (nI i, J)) f (nI f, J) (by rw [nI_0]) ?_ ?_ (by omega) ?_
  · intro i hi
    have h2 : J w 2 = nI a := by rw [hJw]; exact hI2
    simp only [h2]
    rw [gle_f (by omega) (by omega), s_mixed hR hFJ e6 ha (by omega) hN, Option.bind_some, ac_ext (by omega) hD.1 (show d + 1 ≤ h + 1 by omega), hfs.1 i hi, RO_0 hR, nI_1]
    rfl
  · have h2 : J w 2 = nI a := by rw [hJw]; exact hI2
    simp only [h2]
    by_cases hl : r * d ≤ f
    · rw [gle_t hl (by omega)]
    · rw [gle_f (by omega) (by omega), s_mixed hR hFJ e6 ha (by omega) hN, Option.bind_some, ac_ext (by omega) hD.1 (show d + 1 ≤ h + 1 by omega)]
      exact if_neg (fun z => hfs.2 ((co0_iff hR _).mp z))
  · have h3 : J w 3 = nI d := by rw [hJw]; exact hI3
    simp only [h3]
    rw [gle0_f (by omega) (by omega), gnz (by omega) (by omega), pk_div (by omega) (by omega) (by omega)]
theorem m_heightOf {K : Type} [Lean.Grind.CommRing K] {p n : Nat} {X : K} {co : K → Nat} {I : gI} {R : gR} {S : gS} {N w r d f : Nat} {t : Nat → K} {c : Nat → Nat} (hR : RO K p n X co) (hM : MH p n X co I) (hw : w < 10) (hW : MW co I w r t) (hV : WV r t) (hL : Lr p n co (fun j _ => t 0 ^ j) 1 d c) (hS : ∀ q, 91 ≤ q → q < 114 → S[q]? = layS[q]?) (hf : f ≤ r * d) (hfs : Fst (ac p t (enc p d c + p ^ d) (d + 1)) f) (hN : 60 ≤ N) :
    ∃ J, f_X12_heightOf N I R S (nI w) = some (nI (f / d), J) ∧ Fs [95, 103, 104, 106] I J := by
  have hp := RO_p hR
  have hn6 := hR.2.2.1
  obtain ⟨o1, o2, o3, J1, o4, o5⟩ := m_ownOf (N := N) (R := R) (S := S) hR hM hw hW hL (hS 106 (by omega) (by omega)) (by omega)
  have hM1 := MH_fs hM o5 (by decide) (by decide) (by decide)
  have hW1 : MW co J1 w r t := MW_of hW (o5 101 (by decide)) (o5 102 (by decide))
  obtain ⟨J2, a1, a2, a3⟩ := m_act (N := N) (R := R) (S := S) hR hM1 hw hW1 hV (hS 95 (by omega) (by omega)) (rel_31 (f := d) hp.2 (by omega) hL.1) (Ln_own hp.1 hL.1) (by omega) (by omega)
  have hM2 := MH_fs hM1 a2 (by decide) (by decide) (by decide)
  have hW2 : MW co J2 w r t := MW_of hW1 (a2 101 (by decide)) (a2 102 (by decide))
  have hrd : r * d ≤ 18 := Nat.mul_le_mul hV.2.1 (show d ≤ 6 by omega)
  refine ⟨J2, ?_, (o5.mono (by decide)).trans (a2.mono (by decide))⟩
  unfold f_X12_heightOf
  rw [o4, Option.bind_some, a1, Option.bind_some]
  refine iter_bind (fun i => nI i) f (nI f) nI_0.symm ?_ ?_ (by omega) ?_
  · intro i hi
    simp (disch := omega) only [nI_clamp, gin2, a3]
    rw [hfs.1 i hi, RO_0 hR, nI_1]
    rfl
  · simp (disch := omega) only [nI_clamp, gin2, a3]
    exact if_neg (fun z => hfs.2 ((co0_iff hR _).mp z))
  · obtain ⟨q1, _⟩ := m_ownOf (N := N) (R := R) (S := S) hR hM2 hw hW2 hL (hS 106 (by omega) (by omega)) (by omega)
    rw [q1, Option.bind_some, gnz (by omega) (by omega), pk_div (by omega) (by omega) (by omega)]
/-- the kind of a world, by r and its height -/
def kd (r h : Nat) : Nat := if r = 1 then 1 else if r = 3 then 4 else if h = 2 then 3 else 2
theorem m_kindOf {K : Type} [Lean.Grind.CommRing K] {p n : Nat} {X : K} {co : K → Nat} {I : gI} {R : gR} {S : gS} {N w r d f : Nat} {t : Nat → K} {c : Nat → Nat} (hR : RO K p n X co) (hM : MH p n X co I) (hw : w < 10) (hW : MW co I w r t) (hV : WV r t) (hL : Lr p n co (fun j _ => t 0 ^ j) 1 d c) (hS : ∀ q, 91 ≤ q → q < 114 → S[q]? = layS[q]?) (hf : f ≤ r * d) (hfs : Fst (ac p t (enc p d c + p ^ d) (d + 1)) f) (hN : 60 ≤ N) :
    ∃ J, f_X12_kindOf N I R S (nI w) = some (nI (kd r (f / d)), J) ∧ Fs [95, 103, 104, 106] I J := by
  have hr := hV.2.1
  unfold f_X12_kindOf kd
  rw [nI_clamp (by omega), gin2 (by omega) (by omega), gin2 (by omega) (by omega), hW.1, show (1 : Int32) = nI 1 from rfl, show (3 : Int32) = nI 3 from rfl]
  by_cases h1 : r = 1
  · rw [geq_t h1, if_pos h1]
    exact ⟨I, rfl, Fs_refl _ _⟩
  · rw [geq_f h1 (by omega) (by omega), if_neg h1]
    by_cases h3 : r = 3
    · rw [geq_t h3, if_pos h3]
      exact ⟨I, rfl, Fs_refl _ _⟩
    · rw [geq_f h3 (by omega) (by omega), if_neg h3]
      obtain ⟨J, a1, a2⟩ := m_heightOf (N := N) (R := R) hR hM hw hW hV hL hS hf hfs hN
      rw [a1, Option.bind_some]
      refine ⟨J, ?_, a2⟩
      have hd18 : r * d ≤ 1000000 := Nat.le_trans (Nat.mul_le_mul hr (show d ≤ 6 by
        have := (m_ownOf (N := N) (R := R) (S := S) hR hM hw hW hL (hS 106 (by omega) (by omega)) (by omega)).2.2.1
        have := hR.2.2.1
        omega)) (by omega)
      have hfd : f / d < 2147483648 := Nat.lt_of_le_of_lt (Nat.div_le_self _ _) (by omega)
      dsimp only
      rw [show (2 : Int32) = nI 2 from rfl]
      by_cases h2 : f / d = 2
      · rw [geq_t h2, if_pos h2]
      · rw [geq_f h2 (by omega) (by omega), if_neg h2]
end Height
