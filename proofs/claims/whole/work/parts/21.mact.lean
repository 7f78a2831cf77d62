/-! the model: figures, what a polynomial is as a sum of powers, what it does -/
section MAct
/-- only cells of the list may differ -/
def Fs (l : List Nat) (I J : gI) : Prop := ∀ a, a ∉ l → J a = I a
theorem Fs_refl (l : List Nat) (I : gI) : Fs l I I := fun _ _ => rfl
theorem Fs.trans {l : List Nat} {I J L : gI} (h1 : Fs l I J) (h2 : Fs l J L) : Fs l I L := fun a h => (h2 a h).trans (h1 a h)
theorem Fs.mono {l m : List Nat} {I J : gI} (h : Fs l I J) (hm : ∀ a, a ∈ l → a ∈ m) : Fs m I J := fun a ha => h a (fun z => ha (hm a z))
theorem Fs_Aw {l : List Nat} {I : gI} {q L : Nat} {f : Nat → Int32} (h : q ∈ l) : Fs l I (Aw I q L f) := fun a ha => Aw_row (fun e => ha (e ▸ h))
theorem Fs_gU {l : List Nat} {I : gI} {q k : Nat} {v : Int32} (h : q ∈ l) : Fs l I (gU I q k v) := fun a ha => gU_cell I k v (fun e => ha (e ▸ h))
theorem MH_of {K : Type} [Lean.Grind.CommRing K] {p n : Nat} {X : K} {co : K → Nat} {I J : gI} (h : MH p n X co I) (h91 : ∀ j, 2 ≤ j → j ≤ 5 → J 91 j = I 91 j) (h96 : J 96 = I 96) (h97 : J 97 = I 97) : MH p n X co J := by
  obtain ⟨a1, a2, a3, a4, a5, a6⟩ := h
  refine ⟨by rw [h91 2 (by omega) (by omega)]; exact a1, by rw [h91 3 (by omega) (by omega)]; exact a2, by rw [h91 4 (by omega) (by omega)]; exact a3, by rw [h91 5 (by omega) (by omega)]; exact a4, by rw [h96]; exact a5, by rw [h97]; exact a6⟩
theorem MH_fs {K : Type} [Lean.Grind.CommRing K] {p n : Nat} {X : K} {co : K → Nat} {l : List Nat} {I J : gI} (h : MH p n X co I) (hf : Fs l I J) (h1 : 91 ∉ l) (h2 : 96 ∉ l) (h3 : 97 ∉ l) : MH p n X co J := MH_of h (fun j _ _ => by rw [hf 91 h1]) (hf 96 h2) (hf 97 h3)
theorem MH_Aw {K : Type} [Lean.Grind.CommRing K] {p n : Nat} {X : K} {co : K → Nat} {q L : Nat} {f : Nat → Int32} {I : gI} (h : MH p n X co I) (h1 : q ≠ 91) (h2 : q ≠ 96) (h3 : q ≠ 97) : MH p n X co (Aw I q L f) := MH_of h (fun j _ _ => Aw_ne j (Ne.symm h1)) (Aw_row (Ne.symm h2)) (Aw_row (Ne.symm h3))
theorem m_figures {p : Nat} {I : gI} {R : gR} {S : gS} {N a D q : Nat} (hp : 2 ≤ p) (hp5 : p ≤ 5) (hM : I 91 2 = nI p) (hq : q ≠ 91) (hS : S[q]? = some (12, 16)) (ha : a < 2147483648) (hD : Ln p a D) (hD16 : D ≤ 16) (hN : 20 ≤ N) :
    f_X12_figures N I R S (nI a) q = some (nI D - 1, Aw I q 16 (fun j => nI (dig p a j))) := by
  unfold f_X12_figures
  rw [gLn_of hS]
  have k1 : ∀ (F : Nat → Int32), Aw I q 16 F 91 2 = nI p := fun F => by rw [Aw_ne _ (Ne.symm hq)]; exact hM
  refine iter_wpb (fun i s => ∃ E, s = (nI (a / p ^ i), nI E - 1, nI i, Aw I q 16 (fun j => if j < i then nI (dig p a j) else I q j)) ∧ E ≤ i ∧ (∀ j, E ≤ j → j < i → dig p a j = 0) ∧ (0 < E → dig p a (E - 1) ≠ 0)) 16 ⟨0, ?_, by omega, fun j h1 h2 => by omega, fun h => by omega⟩ ?_ (by omega)
  · rw [Nat.pow_zero, Nat.div_one, nI_0]
    have : Aw I q 16 (fun j => if j < 0 then nI (dig p a j) else I q j) = I := Aw_same (fun j _ => if_neg (by omega))
    rw [this]; rfl
  · rintro i _ hi ⟨E, rfl, e1, e2, e3⟩
    dsimp only
    have hd : a / p ^ i < 2147483648 := Nat.lt_of_le_of_lt (Nat.div_le_self _ _) ha
    by_cases h16 : i = 16
    · subst h16
      refine .inr ⟨_, gle_t (by omega) (by omega), ?_⟩
      have hE : E = D := by
        rcases Nat.lt_trichotomy E D with h | h | h
        · obtain ⟨D', rfl⟩ : ∃ D', D = D' + 1 := ⟨D - 1, by omega⟩
          have := dig_top hp hD
          have := e2 D' (by omega) (by omega)
          omega
        · exact h
        · exact absurd (dig_ge hD.1 (show D ≤ E - 1 by omega) (by omega)) (e3 (by omega))
      rw [hE]
      congr 2
      exact Aw_congr (fun j hj => if_pos hj)
    · have hlt := dig_lt (show 0 < p by omega) a i
      have hdg : a / p ^ i % p = dig p a i := rfl
      rw [show (16 : Int32) = nI 16 from rfl]
      simp (disch := omega) only [k1, gle_f, gnz, nI_clamp, gin2, pk_div, pk_mul, pk_rem2, Aw_up, nI_1, Aw_at, if_true]
      simp only [hdg, div_div_pow]
      have hA : Aw I q 16 (fun j => if j = i then nI (dig p a i) else if j < i then nI (dig p a j) else I q j) = Aw I q 16 (fun j => if j < i + 1 then nI (dig p a j) else I q j) := Aw_congr (fun j _ => by
        by_cases h : j = i
        · rw [if_pos h, if_pos (by omega), h]
        · rw [if_neg h]
          by_cases h2 : j < i
          · rw [if_pos h2, if_pos (by omega)]
          · rw [if_neg h2, if_neg (by omega)])
      by_cases hz : dig p a i = 0
      · refine .inl ⟨_, g0_t hz, by omega, E, by rw [hA], by omega, ?_, e3⟩
        intro j h1 h2
        by_cases h : j = i
        · rw [h]; exact hz
        · exact e2 j h1 (by omega)
      · refine .inl ⟨_, g0_f (by omega) (by omega), by omega, i + 1, ?_, by omega, fun j h1 h2 => by omega, fun _ => by rw [Nat.add_sub_cancel]; exact hz⟩
        rw [hA, dn1 (i + 1) (by omega)]; rfl
/-- a world as the model holds it -/
def MW {K : Type} [Lean.Grind.CommRing K] (co : K → Nat) (I : gI) (w r : Nat) (t : Nat → K) : Prop := I 101 w = nI r ∧ ∀ k, k < 4 → I 102 (4 * w + k) = nI (co (t k))
/-- the numbers of a world -/
def WV {K : Type} [Lean.Grind.CommRing K] (r : Nat) (t : Nat → K) : Prop := 1 ≤ r ∧ r ≤ 3 ∧ t r ≠ 0 ∧ ∀ k, r < k → t k = 0
theorem MW_of {K : Type} [Lean.Grind.CommRing K] {co : K → Nat} {I J : gI} {w r : Nat} {t : Nat → K} (h : MW co I w r t) (h1 : J 101 = I 101) (h2 : J 102 = I 102) : MW co J w r t := by
  refine ⟨by rw [h1]; exact h.1, by rw [h2]; exact h.2⟩
theorem m_done {K : Type} [Lean.Grind.CommRing K] {p n : Nat} {X : K} {co : K → Nat} {I : gI} {R : gR} {S : gS} {N q : Nat} {s : Nat → K} (hR : RO K p n X co) (hM : MH p n X co I) (hS : S[q]? = some (12, 24)) (hs : ∀ k, k < 24 → I q k = nI (co (s k))) (z : K) (hN : 30 ≤ N) :
    f_X12_done N I R S q (nI (co z)) = some (nI (co (ev p 24 s z))) := by
  have hp := RO_p hR
  unfold f_X12_done
  rw [gLn_of hS]
  refine iter_bind (fun i => (nI (co (ev p i s z)), nI (co (z ^ (p ^ i))), nI i)) 24 (nI (co (ev p 24 s z))) ?_ ?_ ?_ (by omega) rfl
  · show (_, _, _) = (nI (co (0 : K)), _, _)
    rw [RO_0 hR, nI_0, Nat.pow_zero, Lean.Grind.Semiring.pow_one]
  · intro i hi
    rw [show (24 : Int32) = nI 24 from rfl]
    simp (disch := omega) only [gle_f, nI_clamp, gin2, hs, nI_1]
    rw [m_times hR hM, hM.1, nI_l (by omega)]
    show (f_X12_add N I R S _ _).bind _ = _
    rw [m_add hR hM.1 _ _ (by omega)]
    show (f_X12_raise N I R S _ _).bind _ = _
    rw [m_raise hR hM _ (by omega), frk_S]
    rfl
  · rw [show (24 : Int32) = nI 24 from rfl]
    simp (disch := omega) only [gle_t]
theorem m_step {K : Type} [Lean.Grind.CommRing K] {p n : Nat} {X : K} {co : K → Nat} {I : gI} {R : gR} {S : gS} {N w r : Nat} {t : Nat → K} (hR : RO K p n X co) (hM : MH p n X co I) (hw : w < 10) (hW : MW co I w r t) (hr : r ≤ 3) (z : K) (hN : 30 ≤ N) :
    f_X12_step N I R S (nI w) (nI (co z)) = some (nI (co (ev p (r + 1) t z))) := by
  have hp := RO_p hR
  unfold f_X12_step
  refine iter_bind (fun i => (nI (co (ev p i t z)), nI (co (z ^ (p ^ i))), nI i)) (r + 1) (nI (co (ev p (r + 1) t z))) ?_ ?_ ?_ (by omega) rfl
  · show (_, _, _) = (nI (co (0 : K)), _, _)
    rw [RO_0 hR, nI_0, Nat.pow_zero, Lean.Grind.Semiring.pow_one]
  · intro i hi
    rw [show (4 : Int32) = nI 4 from rfl]
    simp (disch := omega) only [nI_clamp, gin2, hW.1, glt_f, pk_mul, nI_add, hW.2, nI_1]
    rw [m_times hR hM, hM.1, nI_l (by omega)]
    show (f_X12_add N I R S _ _).bind _ = _
    rw [m_add hR hM.1 _ _ (by omega)]
    show (f_X12_raise N I R S _ _).bind _ = _
    rw [m_raise hR hM _ (by omega), frk_S]
    rfl
  · rw [show (4 : Int32) = nI 4 from rfl]
    simp (disch := omega) only [nI_clamp, gin2, hW.1, glt_t]
theorem m_lengthOf {K : Type} [Lean.Grind.CommRing K] {p n : Nat} {X : K} {co : K → Nat} {I : gI} {R : gR} {S : gS} {N q L : Nat} {s : Nat → K} (hR : RO K p n X co) (hS : S[q]? = some (12, 24)) (hs : ∀ k, k < 24 → I q k = nI (co (s k))) (hL : L ≤ 24) (h0 : ∀ k, L ≤ k → k < 24 → s k = 0) (hl : 0 < L → s (L - 1) ≠ 0) (hN : 30 ≤ N) :
    f_X12_lengthOf N I R S q = some (nI L - 1) := by
  unfold f_X12_lengthOf
  rw [gLn_of hS]
  refine iter_wpb (fun i x => ∃ E, x = (nI E - 1, nI i) ∧ E ≤ i ∧ (∀ j, E ≤ j → j < i → s j = 0) ∧ (0 < E → s (E - 1) ≠ 0)) 24 ⟨0, rfl, by omega, fun j h1 h2 => by omega, fun h => by omega⟩ ?_ (by omega)
  rintro i _ hi ⟨E, rfl, e1, e2, e3⟩
  rw [show (24 : Int32) = nI 24 from rfl]
  dsimp only
  by_cases h24 : i = 24
  · subst h24
    refine .inr ⟨_, gle_t (by omega) (by omega), ?_⟩
    have hE : E = L := by
      rcases Nat.lt_trichotomy E L with h | h | h
      · exact absurd (e2 (L - 1) (by omega) (by omega)) (hl (by omega))
      · exact h
      · exact absurd (h0 (E - 1) (by omega) (by omega)) (e3 (by omega))
    rw [hE]
  · simp (disch := omega) only [gle_f, nI_clamp, gin2, hs, nI_1]
    by_cases hz : s i = 0
    · refine .inl ⟨_, if_pos ((co0_iff hR _).mpr hz), by omega, E, rfl, by omega, ?_, e3⟩
      intro j h1 h2
      by_cases h : j = i
      · rw [h]; exact hz
      · exact e2 j h1 (by omega)
    · refine .inl ⟨_, if_neg (fun z => hz ((co0_iff hR _).mp z)), by omega, i + 1, ?_, by omega, fun j h1 h2 => by omega, fun _ => by rw [Nat.add_sub_cancel]; exact hz⟩
      rw [dn1 (i + 1) (by omega)]; rfl
end MAct
