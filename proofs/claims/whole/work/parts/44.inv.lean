/-! what holds between calls -/
section InvD
/-- row s, on both sides -/
def RWs (I : gI) (s : Nat) : Prop := ((I (75 + 2 * s) 2 = -1 ∧ I 98 s = -1) ∨ (∃ la sz, la < 3 ∧ sz ≤ 24 ∧ I (75 + 2 * s) 1 = nI la ∧ I (75 + 2 * s) 2 = nI sz ∧ I 98 s = nI la ∧ I 99 s = nI sz)) ∧ ∀ j, j < 24 → I (75 + 2 * s + 1) j = I 100 (24 * s + j)
/-- the kind of object that a world is -/
def kcl (r h : Nat) : Nat := if r = 1 then 3 else if r = 3 then 1 else if h = 2 then 7 else 4
/-- a world as the class holds it: all of it -/
def WD {K : Type} [Lean.Grind.CommRing K] (p n : Nat) (co : K → Nat) (I : gI) (R : gR) (S : gS) (a r : Nat) (t : Nat → K) (d : Nat) (c : Nat → Nat) (f : Nat) : Prop := a < S.length ∧ CW co I R S a r t ∧ WV r t ∧ Lr p n co (fun j _ => t 0 ^ j) 1 d c ∧ 1 ≤ d ∧ d ≤ n ∧ I a 2 = nI (enc p d c + p ^ d) ∧ I a 3 = nI d ∧ f ≤ r * d ∧ Fst (ac p t (enc p d c + p ^ d) (d + 1)) f ∧ gK S a = kcl r (f / d) ∧ (r = 2 → I a 4 = nI (co (t 1 ^ (p + 1) * t 2 ^ (p ^ n - 2))))
/-- place w of the shelf, on both sides -/
def SHs {K : Type} [Lean.Grind.CommRing K] (p n : Nat) (co : K → Nat) (I : gI) (R : gR) (S : gS) (w : Nat) : Prop := (R 2 w = none ∧ I 101 w = 0) ∨ ∃ a r, ∃ t : Nat → K, ∃ d c f, R 2 w = some a ∧ WD p n co I R S a r t d c f ∧ MW co I w r t
def TRs (I : gI) : Prop := ∃ L, L ≤ 16 ∧ I 3 1 = nI L ∧ I 91 28 = nI L ∧ ∀ i, i < L → I 4 i = I 113 i
/-- the class's numbers that stay, and what it keeps -/
def CST {K : Type} [Lean.Grind.CommRing K] (p n : Nat) (X : K) (co : K → Nat) (I : gI) (R : gR) (S : gS) : Prop := I 17 1 = nI p ∧ I 37 2 = nI n ∧ I 56 2 = nI p ∧ I 56 3 = nI n ∧ Pd p co I R S ∧ Ad p n X co I R S
def IV {K : Type} [Lean.Grind.CommRing K] (p n : Nat) (X : K) (co : K → Nat) (k : Nat) (I : gI) (R : gR) (S : gS) : Prop := gLay 0 114 R S ∧ 114 ≤ S.length ∧ S.length ≤ 114 + 3 * k ∧ FH p n X co I ∧ MH p n X co I ∧ CST p n X co I R S ∧ (∀ s, s < 8 → RWs I s) ∧ (∀ w, w < 10 → SHs p n co I R S w) ∧ I 0 7 = I 91 1 ∧ TRs I
def CS {K : Type} [Lean.Grind.CommRing K] (p n : Nat) (X : K) (co : K → Nat) (R : gR) (S : gS) (I J : gI) (st : Int32) : Prop := (∀ a, ¬ (a = 0 ∨ a = 5 ∨ (17 ≤ a ∧ a ≤ 74)) → J a = I a) ∧ CST p n X co J R S ∧ J 0 7 = st
def MS (I J : gI) (st : Int32) : Prop := (∀ a, ¬ ((91 ≤ a ∧ a ≤ 95) ∨ (103 ≤ a ∧ a ≤ 112)) → J a = I a) ∧ (∀ j, 2 ≤ j → J 91 j = I 91 j) ∧ J 91 1 = st
theorem RWs_of {I J : gI} {s : Nat} (h : RWs I s) (h1 : J (75 + 2 * s) = I (75 + 2 * s)) (h2 : J (75 + 2 * s + 1) = I (75 + 2 * s + 1)) (h3 : J 98 = I 98) (h4 : J 99 = I 99) (h5 : J 100 = I 100) : RWs J s := by
  unfold RWs
  rw [h1, h2, h3, h4, h5]; exact h
theorem WD_of {K : Type} [Lean.Grind.CommRing K] {p n : Nat} {co : K → Nat} {I J : gI} {R : gR} {S : gS} {a r : Nat} {t : Nat → K} {d : Nat} {c : Nat → Nat} {f : Nat} (h : WD p n co I R S a r t d c f) (hJ : ∀ a, 114 ≤ a → J a = I a) : WD p n co J R S a r t d c f := by
  obtain ⟨h1, h2, h3, h4, h5, h6, h7, h8, h9, h10, h11, h12⟩ := h
  have ha := hJ a h2.2.1
  exact ⟨h1, CW_of h2 hJ, h3, h4, h5, h6, by rw [ha]; exact h7, by rw [ha]; exact h8, h9, h10, h11, fun e => by rw [ha]; exact h12 e⟩
theorem SHs_of {K : Type} [Lean.Grind.CommRing K] {p n : Nat} {co : K → Nat} {I J : gI} {R : gR} {S : gS} {w : Nat} (h : SHs p n co I R S w) (hJ : ∀ a, 114 ≤ a → J a = I a) (h1 : J 101 = I 101) (h2 : J 102 = I 102) : SHs p n co J R S w := by
  rcases h with ⟨a, b⟩ | ⟨a, r, t, d, c, f, e1, e2, e3⟩
  · exact .inl ⟨a, by rw [h1]; exact b⟩
  · exact .inr ⟨a, r, t, d, c, f, e1, WD_of e2 hJ, MW_of e3 h1 h2⟩
theorem step_ok {K : Type} [Lean.Grind.CommRing K] {p n : Nat} {X : K} {co : K → Nat} {k : Nat} {I J1 J2 : gI} {R : gR} {S : gS} {st : Int32} (hR : RO K p n X co) (h : IV p n X co k I R S) (h1 : CS p n X co R S I J1 st) (h2 : MS J1 J2 st) : IV p n X co (k + 1) J2 R S := by
  obtain ⟨a1, a2, a3, a4, a5, a6, a7, a8, a9, a10⟩ := h
  obtain ⟨b1, b2, b3⟩ := h1
  obtain ⟨c1, c2, c3⟩ := h2
  have hJ : ∀ a, ¬ (a = 0 ∨ a = 5 ∨ (17 ≤ a ∧ a ≤ 74)) → ¬ ((91 ≤ a ∧ a ≤ 95) ∨ (103 ≤ a ∧ a ≤ 112)) → J2 a = I a := fun a ha hb => by rw [c1 a hb, b1 a ha]
  have hc : ∀ a, a < 91 → J2 a = J1 a := fun a ha => c1 a (by omega)
  have h91 : ∀ j, 2 ≤ j → J2 91 j = I 91 j := fun j hj => by rw [c2 j hj, b1 91 (by omega)]
  refine ⟨a1, a2, by omega, FH_of a4 hR.2.2.1 (fun a h1 h2 => hJ a (by omega) (by omega)), MH_of a5 (fun j hj _ => h91 j hj) (hJ 96 (by omega) (by omega)) (hJ 97 (by omega) (by omega)), ?_, fun s hs => RWs_of (a7 s hs) (hJ _ (by omega) (by omega)) (hJ _ (by omega) (by omega)) (hJ _ (by omega) (by omega)) (hJ _ (by omega) (by omega)) (hJ _ (by omega) (by omega)), fun w hw => SHs_of (a8 w hw) (fun a ha => hJ a (by omega) (by omega)) (hJ _ (by omega) (by omega)) (hJ _ (by omega) (by omega)), ?_, ?_⟩
  · obtain ⟨d1, d2, d3, d4, d5, d6⟩ := b2
    exact ⟨by rw [hc 17 (by omega)]; exact d1, by rw [hc 37 (by omega)]; exact d2, by rw [hc 56 (by omega)]; exact d3, by rw [hc 56 (by omega)]; exact d4, Pd_of d5 (by rw [hc 37 (by omega)]) (by rw [hc 37 (by omega)]) (fun a h1 h2 => hc a (by omega)) (fun a ha => c1 a (by omega)), Ad_of d6 hR.2.2.1 (by rw [hc 56 (by omega)]) (fun a h1 h2 => hc a (by omega)) (fun a ha => c1 a (by omega))⟩
  · rw [c3, hc 0 (by omega)]; exact b3
  · obtain ⟨L, l1, l2, l3, l4⟩ := a10
    exact ⟨L, l1, by rw [hJ 3 (by omega) (by omega)]; exact l2, by rw [h91 28 (by omega)]; exact l3, by rw [hJ 4 (by omega) (by omega), hJ 113 (by omega) (by omega)]; exact l4⟩
theorem gLayb_of {R : gR} {S : gS} {a b : Nat} (h : gLay a b R S) : gLayb a b R S = true := by
  unfold gLayb
  rw [Bool.and_eq_true]
  constructor
  · refine List.all_eq_true.mpr (fun q hq => ?_)
    rw [Bool.or_eq_true, decide_eq_true_eq]
    by_cases e : q < a
    · exact .inl e
    · exact .inr (by rw [h.1 q (by omega) (List.mem_range.mp hq)]; exact beq_self_eq_true _)
  · refine List.all_eq_true.mpr (fun x hx => ?_)
    rw [Bool.or_eq_true, Bool.or_eq_true, decide_eq_true_eq, decide_eq_true_eq]
    by_cases e : x.1 < a
    · exact .inl (.inl e)
    · by_cases e2 : b ≤ x.1
      · exact .inl (.inr e2)
      · exact .inr (by rw [h.2 x hx (by omega) (by omega)]; exact beq_self_eq_true _)
/-! what is asked of numbers, on both sides -/
theorem in_bit (b : Prop) [Decidable b] : (some (if b then (1 : Int32) else 0)).bind (fun z1 : Int32 => if z1 = 0 ∨ z1 = 1 then some z1 else none) = some (if b then 1 else 0) := by
  by_cases h : b
  · rw [if_pos h]; rfl
  · rw [if_neg h]; rfl
theorem nI_of3 {x : Int32} {m : Nat} (hm : m < 2147483648) (h0 : (0 : Int32) ≤ x) (h1 : x < nI m) : ∃ j, j < m ∧ x = nI j := by
  obtain ⟨j, j1, j2⟩ := nI_of (x := x) (fun z => by
    rw [Int32.lt_iff_toInt_lt] at z
    rw [Int32.le_iff_toInt_le] at h0
    omega)
  refine ⟨j, ?_, j2⟩
  rw [j2] at h1
  exact (nI_ltI j1 hm).mp h1
theorem isP {N : Nat} {I J : gI} {R : gR} {S : gS} (x : Int32) : (f_X11_isPlace N I R S x = some 0 ∧ f_X12_isPlace N J R S x = some 0) ∨ ∃ w, w < 10 ∧ x = nI w ∧ f_X11_isPlace N I R S x = some 1 ∧ f_X12_isPlace N J R S x = some 1 := by
  have hm : f_X12_isPlace N J R S x = some (if (0 : Int32) ≤ x ∧ x ≤ 9 then 1 else 0) := by
    unfold f_X12_isPlace
    rw [show (0 : Int64) = (0 : Int32).toInt64 from rfl, show (9 : Int64) = (9 : Int32).toInt64 from rfl, s_in]
    exact in_bit _
  have e9 : (9 : Int32).toInt = 9 := rfl
  have e0 : (0 : Int32).toInt = 0 := rfl
  have e10 : (10 : Int32).toInt = 10 := rfl
  by_cases h : (0 : Int32) ≤ x ∧ x ≤ 9
  · obtain ⟨w, w1, w2⟩ := nI_of3 (x := x) (m := 10) (by omega) h.1 (by
      have := h.2
      rw [Int32.le_iff_toInt_le] at this
      show x < 10
      rw [Int32.lt_iff_toInt_lt]; omega)
    refine .inr ⟨w, w1, w2, ?_, by rw [hm, if_pos h]⟩
    unfold f_X11_isPlace
    rw [if_neg (fun z => by
      have := h.1
      rw [Int32.le_iff_toInt_le] at this
      rw [Int32.lt_iff_toInt_lt] at z
      omega), if_neg (fun z => by
      have := h.2
      rw [Int32.le_iff_toInt_le] at this z
      omega)]
  · refine .inl ⟨?_, by rw [hm, if_neg h]⟩
    unfold f_X11_isPlace
    by_cases h1 : x < 0
    · rw [if_pos h1]
    · rw [if_neg h1, if_pos]
      apply Classical.byContradiction
      intro z
      refine h ⟨?_, ?_⟩
      · rw [Int32.le_iff_toInt_le]
        rw [Int32.lt_iff_toInt_lt] at h1
        omega
      · rw [Int32.le_iff_toInt_le] at z ⊢
        omega
theorem isRw {N : Nat} {I J : gI} {R : gR} {S : gS} (x : Int32) : (f_X11_isRow N I R S x = some 0 ∧ f_X12_isRow N J R S x = some 0) ∨ ∃ s, s < 8 ∧ x = nI s ∧ f_X11_isRow N I R S x = some 1 ∧ f_X12_isRow N J R S x = some 1 := by
  have hm : f_X12_isRow N J R S x = some (if (0 : Int32) ≤ x ∧ x ≤ 7 then 1 else 0) := by
    unfold f_X12_isRow
    rw [show (0 : Int64) = (0 : Int32).toInt64 from rfl, show (7 : Int64) = (7 : Int32).toInt64 from rfl, s_in]
    exact in_bit _
  have e9 : (7 : Int32).toInt = 7 := rfl
  have e0 : (0 : Int32).toInt = 0 := rfl
  have e10 : (8 : Int32).toInt = 8 := rfl
  by_cases h : (0 : Int32) ≤ x ∧ x ≤ 7
  · obtain ⟨w, w1, w2⟩ := nI_of3 (x := x) (m := 8) (by omega) h.1 (by
      have := h.2
      rw [Int32.le_iff_toInt_le] at this
      show x < 8
      rw [Int32.lt_iff_toInt_lt]; omega)
    refine .inr ⟨w, w1, w2, ?_, by rw [hm, if_pos h]⟩
    unfold f_X11_isRow
    rw [if_neg (fun z => by
      have := h.1
      rw [Int32.le_iff_toInt_le] at this
      rw [Int32.lt_iff_toInt_lt] at z
      omega), if_neg (fun z => by
      have := h.2
      rw [Int32.le_iff_toInt_le] at this z
      omega)]
  · refine .inl ⟨?_, by rw [hm, if_neg h]⟩
    unfold f_X11_isRow
    by_cases h1 : x < 0
    · rw [if_pos h1]
    · rw [if_neg h1, if_pos]
      apply Classical.byContradiction
      intro z
      refine h ⟨?_, ?_⟩
      · rw [Int32.le_iff_toInt_le]
        rw [Int32.lt_iff_toInt_lt] at h1
        omega
      · rw [Int32.le_iff_toInt_le] at z ⊢
        omega
theorem isE {K : Type} [Lean.Grind.CommRing K] {p n : Nat} {X : K} {co : K → Nat} {N : Nat} {I J : gI} {R : gR} {S : gS} (hR : RO K p n X co) (h1 : I 6 2 = nI (p ^ n)) (h2 : J 91 4 = nI (p ^ n)) (x : Int32) : (f_X2_has N I R S x = some 0 ∧ f_X12_isElement N J R S x = some 0 ∧ (x < 0 ∨ nI (p ^ n) ≤ x)) ∨ ∃ a : K, x = nI (co a) ∧ f_X2_has N I R S x = some 1 ∧ f_X12_isElement N J R S x = some 1 := by
  have hq := RO_q hR
  have hm : f_X12_isElement N J R S x = some (if (0 : Int32) ≤ x ∧ x ≤ nI (p ^ n - 1) then 1 else 0) := by
    unfold f_X12_isElement
    rw [h2, dn1 _ (by omega), show (0 : Int64) = (0 : Int32).toInt64 from rfl, s_in]
    exact in_bit _
  have eq1 : (nI (p ^ n - 1)).toInt = ((p ^ n - 1 : Nat) : Int) := nI_toInt (by omega)
  have eq2 : (nI (p ^ n)).toInt = ((p ^ n : Nat) : Int) := nI_toInt (by omega)
  have e0 : (0 : Int32).toInt = 0 := rfl
  by_cases h : (0 : Int32) ≤ x ∧ x ≤ nI (p ^ n - 1)
  · obtain ⟨w, w1, w2⟩ := nI_of3 (x := x) (m := p ^ n) (by omega) h.1 (by
      have := h.2
      rw [Int32.le_iff_toInt_le] at this
      rw [Int32.lt_iff_toInt_lt]; omega)
    refine .inr ⟨el p n X w, by rw [RO_co hR w1]; exact w2, ?_, by rw [hm, if_pos h]⟩
    unfold f_X2_has
    rw [h1, if_neg (fun z => by
      have := h.1
      rw [Int32.le_iff_toInt_le] at this
      rw [Int32.lt_iff_toInt_lt] at z
      omega), if_neg (fun z => by
      have := h.2
      rw [Int32.le_iff_toInt_le] at this z
      omega)]
  · have hor : x < 0 ∨ nI (p ^ n) ≤ x := by
      by_cases h1 : x < 0
      · exact .inl h1
      · refine .inr ?_
        apply Classical.byContradiction
        intro z
        refine h ⟨?_, ?_⟩
        · rw [Int32.le_iff_toInt_le]
          rw [Int32.lt_iff_toInt_lt] at h1
          omega
        · rw [Int32.le_iff_toInt_le] at z ⊢
          omega
    refine .inl ⟨?_, by rw [hm, if_neg h], hor⟩
    unfold f_X2_has
    rw [h1]
    by_cases h1 : x < 0
    · rw [if_pos h1]
    · rw [if_neg h1, if_pos (hor.resolve_left h1)]
theorem isPo {K : Type} [Lean.Grind.CommRing K] {p n : Nat} {X : K} {co : K → Nat} {N : Nat} {I J : gI} {R : gR} {S : gS} (hR : RO K p n X co) (h1 : ∀ i, i < 8 → I 7 i = nI (p ^ i)) (h2 : J 91 2 = nI p) (hN : 60 ≤ N) (x : Int32) : (f_X2_hasPolynomial N I R S x = some 0 ∧ f_X12_isPolynomial N J R S x = some 0) ∨ ∃ a D, a < 2147483648 ∧ Ln p a D ∧ D ≤ 7 ∧ x = nI a ∧ f_X2_hasPolynomial N I R S x = some 1 ∧ f_X12_isPolynomial N J R S x = some 1 := by
  have hp := RO_p hR
  have hq := pow_le7 (i := 7) hp.2 (by omega)
  have hq0 := Nat.pow_pos (n := 7) (show 0 < p by omega)
  have hm : f_X12_isPolynomial N J R S x = some (if (0 : Int32) ≤ x ∧ x ≤ nI (p ^ 7 - 1) then 1 else 0) := by
    unfold f_X12_isPolynomial
    rw [h2, show (7 : Int32) = nI 7 from rfl, m_power (by omega) (by omega), Option.bind_some, dn1 _ (by omega), show (0 : Int64) = (0 : Int32).toInt64 from rfl, s_in]
    exact in_bit _
  have eq1 : (nI (p ^ 7 - 1)).toInt = ((p ^ 7 - 1 : Nat) : Int) := nI_toInt (by omega)
  have eq2 : (nI (p ^ 7)).toInt = ((p ^ 7 : Nat) : Int) := nI_toInt (by omega)
  have e0 : (0 : Int32).toInt = 0 := rfl
  have h7 := h1 7 (by omega)
  have z7 : (7 : Int32).toNatClampNeg = 7 := rfl
  by_cases h : (0 : Int32) ≤ x ∧ x ≤ nI (p ^ 7 - 1)
  · obtain ⟨w, w1, w2⟩ := nI_of3 (x := x) (m := p ^ 7) (by omega) h.1 (by
      have := h.2
      rw [Int32.le_iff_toInt_le] at this
      rw [Int32.lt_iff_toInt_lt]; omega)
    obtain ⟨D, d1, d2⟩ := Ln_some w1
    refine .inr ⟨w, D, by omega, d2, d1, w2, ?_, by rw [hm, if_pos h]⟩
    unfold f_X2_hasPolynomial
    rw [if_neg (fun z => by
      have := h.1
      rw [Int32.le_iff_toInt_le] at this
      rw [Int32.lt_iff_toInt_lt] at z
      omega), z7, if_neg (by decide), h7, if_neg (fun z => by
      have := h.2
      rw [Int32.le_iff_toInt_le] at this z
      omega)]
  · refine .inl ⟨?_, by rw [hm, if_neg h]⟩
    unfold f_X2_hasPolynomial
    by_cases h1 : x < 0
    · rw [if_pos h1]
    · rw [if_neg h1, z7, if_neg (by decide), h7, if_pos]
      apply Classical.byContradiction
      intro z
      refine h ⟨?_, ?_⟩
      · rw [Int32.le_iff_toInt_le]
        rw [Int32.lt_iff_toInt_lt] at h1
        omega
      · rw [Int32.le_iff_toInt_le] at z ⊢
        omega
end InvD
