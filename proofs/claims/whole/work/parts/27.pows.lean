/-! the class: powers of t kept, and sums of them -/
section Pows
/-- a world as the class holds it: its numbers -/
def CW {K : Type} [Lean.Grind.CommRing K] (co : K → Nat) (I : gI) (R : gR) (S : gS) (w r : Nat) (t : Nat → K) : Prop := gWb R S w = true ∧ 114 ≤ w ∧ 114 ≤ gt R w ∧ (∀ k, k < 4 → I (gt R w) k = nI (co (t k))) ∧ I w 1 = nI r
theorem CW_of {K : Type} [Lean.Grind.CommRing K] {co : K → Nat} {I J : gI} {R : gR} {S : gS} {w r : Nat} {t : Nat → K} (h : CW co I R S w r t) (hJ : ∀ a, 114 ≤ a → J a = I a) : CW co J R S w r t := by
  obtain ⟨h1, h2, h3, h4, h5⟩ := h
  refine ⟨h1, h2, h3, ?_, ?_⟩
  · rw [hJ _ h3]; exact h4
  · rw [hJ _ h2]; exact h5
theorem CW_fs {K : Type} [Lean.Grind.CommRing K] {co : K → Nat} {I J : gI} {R : gR} {S : gS} {w r : Nat} {t : Nat → K} {l : List Nat} (h : CW co I R S w r t) (hJ : Fs l I J) (hl : ∀ a, a ∈ l → a < 114) : CW co J R S w r t := CW_of h (fun a ha => hJ a (fun z => by have := hl a z; omega))
/-- the powers that stand in the cells 39 and on, of the numbers t, up to h -/
def Pw {K : Type} [Lean.Grind.CommRing K] (p : Nat) (co : K → Nat) (t : Nat → K) (h : Nat) (I : gI) : Prop := h ≤ 6 ∧ I 37 5 = nI h ∧ ∀ j k, j ≤ h → k < 19 → I (39 + j) k = nI (co (tp p t j k))
/-- the powers that are kept are right -/
def Pd {K : Type} [Lean.Grind.CommRing K] (p : Nat) (co : K → Nat) (I : gI) (R : gR) (S : gS) : Prop := ∀ w, gdec (I 37 4) = some w → w < S.length ∧ gWb R S w = true ∧ ∀ r (t : Nat → K), CW co I R S w r t → WV r t → ∃ h, Pw p co t h I
theorem dle {τ : Type} {A B : τ} {D h : Nat} (hD : D < 1000) (hh : h < 1000) : (if nI D - 1 ≤ nI h then A else B) = if D ≤ h + 1 then A else B := by
  by_cases e : D = 0
  · rw [if_pos (show D ≤ h + 1 by omega), if_pos]
    rw [e, Int32.le_iff_toInt_le, nI_toInt (by omega)]
    have : (nI 0 - 1 : Int32).toInt = -1 := by decide
    rw [this]; omega
  · rw [dn1 D (by omega)]
    by_cases h2 : D ≤ h + 1
    · rw [if_pos h2, gle_t (by omega) (by omega)]
    · rw [if_neg h2, gle_f (by omega) (by omega)]
theorem s_raisePowers {K : Type} [Lean.Grind.CommRing K] {p n : Nat} {X : K} {co : K → Nat} {I : gI} {R : gR} {S : gS} {N w r D : Nat} {t : Nat → K} (hR : RO K p n X co) (hF : FH p n X co I) (hW : CW co I R S w r t) (hV : WV r t) (hP : Pd p co I R S) (hS : ∀ q, 6 ≤ q → q < 56 → S[q]? = layS[q]?) (hw : w < 100000) (hD : D ≤ 7) (hN : 60 ≤ N) :
    ∃ J h, f_X8_raisePowers N I R S w (nI D - 1) = some J ∧ Fs [37, 39, 40, 41, 42, 43, 44, 45, 46] I J ∧ (∀ j, j ≠ 4 → j ≠ 5 → J 37 j = I 37 j) ∧ gdec (J 37 4) = some w ∧ D ≤ h + 1 ∧ Pw p co t h J := by
  have hp := RO_p hR
  obtain ⟨v1, v2, v3, v4⟩ := hV
  have hV : WV r t := ⟨v1, v2, v3, v4⟩
  obtain ⟨wb, w1, w2, w3, w4⟩ := hW
  have hW : CW co I R S w r t := ⟨wb, w1, w2, w3, w4⟩
  have hSt := (gWb_t wb).2
  have hS39 : ∀ j, j ≤ 6 → S[39 + j]? = some (12, 19) := fun j hj => by
    rw [hS (39 + j) (by omega) (by omega)]
    rcases (show j = 0 ∨ j = 1 ∨ j = 2 ∨ j = 3 ∨ j = 4 ∨ j = 5 ∨ j = 6 by omega) with rfl | rfl | rfl | rfl | rfl | rfl | rfl <;> rfl
  unfold f_X8_raisePowers
  rw [if_pos wb]
  have hbeg : ∃ I1 h0, ((if gdec (I 37 4) = some w then some I else if 2147483647 ≤ w + 1 then none else if (0 : Int32) < 0 ∨ 7 ≤ (0 : Int32).toNatClampNeg then none else ((f_J7_fill_53178 N (gU (gU I 37 4 (genc w)) 37 5 (0 : Int32)) R S (39 + (0 : Int32).toNatClampNeg) (0 : Int32)).bind (fun z3 => if (0 : Int32) < 0 ∨ 7 ≤ (0 : Int32).toNatClampNeg then none else if (0 : Int32) < 0 ∨ 19 ≤ (0 : Int32).toNatClampNeg then none else some (gU z3 (39 + (0 : Int32).toNatClampNeg) (0 : Int32).toNatClampNeg (1 : Int32))))) : Option (gI)) = some I1 ∧ Fs [37, 39, 40, 41, 42, 43, 44, 45, 46] I I1 ∧ (∀ j, j ≠ 4 → j ≠ 5 → I1 37 j = I 37 j) ∧ gdec (I1 37 4) = some w ∧ Pw p co t h0 I1 := by
    by_cases he : gdec (I 37 4) = some w
    · obtain ⟨h0, hh⟩ := (hP w he).2.2 r t hW hV
      exact ⟨I, h0, by rw [if_pos he], Fs_refl _ _, fun _ _ _ => rfl, he, hh⟩
    · have z0 : (0 : Int32).toNatClampNeg = 0 := rfl
      rw [if_neg he, if_neg (by omega), z0, if_neg (by decide), s_fill (hS39 0 (by omega)) (by omega) (by omega)]
      refine ⟨gU (Aw (gU (gU I 37 4 (genc w)) 37 5 (0 : Int32)) 39 19 (fun _ => 0)) 39 0 1, 0, ?_, ?_, ?_, ?_, by omega, ?_, ?_⟩
      · rw [Option.bind_some, if_neg (by decide), if_neg (by decide)]
      · exact (Fs_gU (by decide)).trans ((Fs_gU (by decide)).trans ((Fs_Aw (by decide)).trans (Fs_gU (by decide))))
      · intro j h4 h5
        rw [gU_ne _ _ _ _ (by decide), Aw_ne _ (by decide), gU_slot _ _ _ h5, gU_slot _ _ _ h4]
      · rw [gU_ne _ _ _ _ (by decide), Aw_ne _ (by decide), gU_slot _ _ _ (by decide), gU_at, gdec_enc (by omega)]
      · rw [gU_ne _ _ _ _ (by decide), Aw_ne _ (by decide), gU_at]; exact nI_0.symm
      · intro j k hj hk
        rw [show j = 0 by omega, Nat.add_zero]
        show gU _ 39 0 1 39 k = nI (co (d0 k : K))
        by_cases e : k = 0
        · rw [e, gU_at, d0_0, RO_1 hR]; rfl
        · rw [gU_slot _ _ _ e, Aw_at hk, d0_ne e, RO_0 hR, nI_0]
  obtain ⟨I1, h0, b1, b2, b3, b4, b5⟩ := hbeg
  rw [b1]
  have key : ∃ y : gI, ((iter (σ := gI) (ρ := gI) (fun z5 => (if nI D - 1 ≤ (z5 37 5) then some (.inr z5) else (if (6 : Int32) ≤ (z5 37 5) then some (.inr z5) else if (z5 37 5) < 0 ∨ 7 ≤ (z5 37 5).toNatClampNeg then none else if ((z5 37 5) + (1 : Int32)) < 0 ∨ 7 ≤ ((z5 37 5) + (1 : Int32)).toNatClampNeg then none else ((f_X8_putBehind N z5 R S (gt R w) (z5 w 1) (39 + (z5 37 5).toNatClampNeg) ((z5 w 1) * (z5 37 5)) (39 + ((z5 37 5) + (1 : Int32)).toNatClampNeg)).bind (fun z9 => some (.inl (gU z9 37 5 ((z9 37 5) + (1 : Int32))))))))) N I1).bind (fun r6 => some r6)) = some y ∧ ∃ h, Fs [37, 39, 40, 41, 42, 43, 44, 45, 46] I y ∧ (∀ j, j ≠ 4 → j ≠ 5 → y 37 j = I 37 j) ∧ gdec (y 37 4) = some w ∧ D ≤ h + 1 ∧ Pw p co t h y := by
    refine iter_wpe (fun i J => ∃ h, h = h0 + i ∧ Fs [37, 39, 40, 41, 42, 43, 44, 45, 46] I J ∧ (∀ j, j ≠ 4 → j ≠ 5 → J 37 j = I 37 j) ∧ gdec (J 37 4) = some w ∧ Pw p co t h J) 7 ⟨h0, rfl, b2, b3, b4, b5⟩ ?_ (by omega)
    rintro i J hi ⟨h, hh, c1, c2, c3, c4⟩
    obtain ⟨p1, p2, p3⟩ := c4
    simp only [p2]
    rw [dle (by omega) (by omega)]
    by_cases hd : D ≤ h + 1
    · rw [if_pos hd]
      exact .inr ⟨J, rfl, J, rfl, h, c1, c2, c3, hd, p1, p2, p3⟩
    · rw [if_neg hd]
      refine .inl ?_
      have hFJ : FH p n X co J := FH_of hF hR.2.2.1 (fun a h1 h2 => c1 a (by
        intro z
        simp only [List.mem_cons, List.mem_nil_iff, or_false] at z
        omega))
      have hWJ := CW_fs hW c1 (by decide)
      rw [show (6 : Int32) = nI 6 from rfl, gle_f (by omega) (by omega), nI_1, nI_clamp (by omega), nI_clamp (by omega), gin2 (by omega) (by omega), gin2 (by omega) (by omega), hWJ.2.2.2.2, pk_mul]
      have hrh := Nat.mul_le_mul v2 (show h ≤ 5 by omega)
      obtain ⟨J2, e1, e2, e3⟩ := s_putBehind (N := N) (R := R) (S := S) (a0 := gt R w) (a2 := 39 + h) (a4 := 39 + (h + 1)) (A := r) (B := r * h) (u := t) (v := tp p t h) hR hFJ (by omega) (by omega) (by omega) ⟨by omega, by omega⟩ (hS39 (h + 1) (by omega)) hSt (hS39 h (by omega)) (by omega) (by omega) (by omega) (by omega) (by omega) (fun k hk => hWJ.2.2.2.1 k (by omega)) (fun k hk => p3 h k (by omega) (by omega)) v4 (tp_deg hR v4 h) hN
      have n37 : J2 37 = J 37 := e2 37 (by
        intro z
        simp only [List.mem_cons, List.mem_nil_iff, or_false] at z
        omega)
      refine ⟨gU J2 37 5 (nI (h + 1)), ?_, by omega, h + 1, by omega, ?_, ?_, ?_, by omega, gU_at _ _ _ _, ?_⟩
      · rw [e1]
        show some (Sum.inl (gU J2 37 5 (J2 37 5 + 1))) = _
        rw [n37, p2, nI_1]
      · refine c1.trans (Fs.trans (J := J2) (e2.mono ?_) (Fs_gU (by decide)))
        intro a ha
        simp only [List.mem_cons, List.mem_nil_iff, or_false] at ha ⊢
        omega
      · intro j h4 h5
        rw [gU_slot _ _ _ h5, n37]; exact c2 j h4 h5
      · rw [gU_slot _ _ _ (by decide), n37]; exact c3
      · intro j k hj hk
        rw [gU_ne _ _ _ _ (by omega)]
        by_cases e : j = h + 1
        · rw [e]; exact e3 k hk
        · rw [e2 (39 + j) (by
            intro z
            simp only [List.mem_cons, List.mem_nil_iff, or_false] at z
            omega)]
          exact p3 j k (by omega) hk
  obtain ⟨y, k1, h, k2⟩ := key
  exact ⟨y, h, k1, k2⟩
/-- sums of figures of E j, times c j -/
def mtN (p n : Nat) (E c : Nat → Nat) : Nat → Nat → Nat
  | 0, _ => 0
  | l + 1, m => if m < n then mtN p n E c l m + dig p (E l) m * c l else mtN p n E c l m
theorem mtN_le {p n : Nat} {E c : Nat → Nat} (hp : 2 ≤ p) (hp5 : p ≤ 5) (hc : ∀ j, c j < p) (l m : Nat) : mtN p n E c l m ≤ 16 * l := by
  induction l with
  | zero => simp [mtN]
  | succ l ih =>
    rw [mtN]
    have h1 : dig p (E l) m ≤ 4 := by have := dig_lt (show 0 < p by omega) (E l) m; omega
    have h2 : c l ≤ 4 := by have := hc l; omega
    have h3 := Nat.mul_le_mul h1 h2
    split <;> omega
theorem mtN_0 {p n : Nat} {E c : Nat → Nat} (l m : Nat) (h : n ≤ m) : mtN p n E c l m = 0 := by
  induction l with
  | zero => rfl
  | succ l ih => rw [mtN, if_neg (by omega), ih]
theorem mtN_val {K : Type} [Lean.Grind.CommRing K] {p n : Nat} {X : K} (hn6 : n ≤ 6) (E c : Nat → Nat) (l : Nat) : sm 12 (fun m => nk (mtN p n E c l m) * X ^ m) = sm l (fun j => nk (c j) * el p n X (E j)) := by
  induction l with
  | zero => exact sm_0 (fun k _ => by rw [mtN, nk_0]; grind)
  | succ l ih =>
    rw [sm_succ l (fun j => nk (c j) * el p n X (E j)), ← ih, sm_ext (n := n) (m := 12) (by omega) (fun j h1 _ => by rw [mtN_0 _ _ h1, nk_0]; grind), sm_ext (n := n) (m := 12) (by omega) (fun j h1 _ => by rw [mtN_0 _ _ h1, nk_0]; grind)]
    unfold el
    rw [← sm_mulL, ← sm_add]
    refine sm_congr (fun i hi => ?_)
    rw [mtN, if_pos hi, nk_add, nk_mul]; grind
theorem s_mixed {K : Type} [Lean.Grind.CommRing K] {p n : Nat} {X : K} {co : K → Nat} {I : gI} {R : gR} {S : gS} {N a k h : Nat} {t : Nat → K} (hR : RO K p n X co) (hF : FH p n X co I) (hP : Pw p co t h I) (ha : a < 2147483648) (hk : k < 19) (hN : 60 ≤ N) :
    f_X8_mixed N I R S (nI a) (nI k) = some (nI (co (ac p t a (h + 1) k)), I) := by
  have hp := RO_p hR
  have hn6 := hR.2.2.1
  have hn1 := hR.2.1
  obtain ⟨p1, p2, p3⟩ := hP
  unfold f_X8_mixed
  refine iter_bind (fun j => (nI j, T16 I (mtN p n (fun j => co (tp p t j k)) (fun j => dig p a j) j))) (h + 1) (T16 I (mtN p n (fun j => co (tp p t j k)) (fun j => dig p a j) (h + 1))) ?_ ?_ ?_ (by omega) ?_
  · rw [nI_0]
    congr 1
    exact (T16_self hF.1.2).symm
  · intro j hj
    have e5 : T16 I (mtN p n (fun j => co (tp p t j k)) (fun j => dig p a j) j) 37 5 = nI h := by rw [T16_ne _ _ _ (by decide)]; exact p2
    have e39 : T16 I (mtN p n (fun j => co (tp p t j k)) (fun j => dig p a j) j) (39 + j) k = nI (co (tp p t j k)) := by rw [T16_ne _ _ _ (by omega)]; exact p3 j k (by omega) hk
    simp (disch := omega) only [e5, glt_f, nI_clamp, gin2, e39, nI_1]
    rw [s_numberAt (p := p) (by rw [T16_ne _ _ _ (by decide)]; exact hF.1.1.1) (fun i hi => by rw [T16_ne _ _ _ (by decide)]; exact hF.2.2.2.1 i hi) hp.1 hp.2 (by omega) ha]
    show (f_X2_addTimes N _ R S _ _).bind _ = _
    rw [s_addTimes hF.1.1 hp.1 hp.2 hn6 (co_31 hR _) (by omega)]
    rfl
  · have e5 : T16 I (mtN p n (fun j => co (tp p t j k)) (fun j => dig p a j) (h + 1)) 37 5 = nI h := by rw [T16_ne _ _ _ (by decide)]; exact p2
    simp (disch := omega) only [e5, glt_t]
  · show (f_X2_folded N _ R S).bind _ = _
    rw [s_folded hR hF.1.1 (fun m => by
      have := mtN_le (n := n) (E := fun j => co (tp p t j k)) (c := fun j => dig p a j) hp.1 hp.2 (fun j => dig_lt (by omega) _ _) (h + 1) m
      omega) (fun m h1 _ => mtN_0 _ _ (by omega)) (by omega), T16_self hF.1.2, mtN_val hn6]
    show some (nI (co (sm (h + 1) (fun j => nk (dig p a j) * el p n X (co (tp p t j k))))), I) = _
    congr 4
    exact sm_congr (fun j _ => by rw [RO_el hR])
end Pows
