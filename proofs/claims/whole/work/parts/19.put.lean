/-! SPAN: begin, put -/
section PutH
def Wd (I : gI) (q s n : Nat) (F : Nat → Int32) : gI := fun a j => if a = q ∧ s ≤ j ∧ j < s + n then F (j - s) else I a j
theorem Wd_at {I : gI} {q s n j : Nat} {F : Nat → Int32} (h : j < n) : Wd I q s n F q (s + j) = F j := by
  unfold Wd
  rw [if_pos ⟨rfl, by omega, by omega⟩, Nat.add_sub_cancel_left]
theorem Wd_out {I : gI} {q s n a j : Nat} {F : Nat → Int32} (h : j < s ∨ s + n ≤ j) : Wd I q s n F a j = I a j := if_neg (fun z => by omega)
theorem Wd_row {I : gI} {q s n a : Nat} {F : Nat → Int32} (h : a ≠ q) : Wd I q s n F a = I a := funext fun j => if_neg (fun z => h z.1)
theorem Wd_ne {I : gI} {q s n a : Nat} {F : Nat → Int32} (j : Nat) (h : a ≠ q) : Wd I q s n F a j = I a j := if_neg (fun z => h z.1)
theorem Wd_0 {I : gI} {q s : Nat} {F : Nat → Int32} : Wd I q s 0 F = I := by
  funext a j
  exact if_neg (fun z => by omega)
theorem Wd_up {I : gI} {q s i : Nat} {F : Nat → Int32} : gU (Wd I q s i F) q (s + i) (F i) = Wd I q s (i + 1) F := by
  funext a j
  unfold gU Wd
  by_cases e : a = q ∧ j = s + i
  · rw [if_pos e, if_pos ⟨e.1, by omega, by omega⟩, e.2, Nat.add_sub_cancel_left]
  · rw [if_neg e]
    by_cases e2 : a = q ∧ s ≤ j ∧ j < s + i
    · rw [if_pos e2, if_pos (by omega)]
    · rw [if_neg e2, if_neg (fun z => by
        by_cases e3 : j = s + i
        · exact e ⟨z.1, e3⟩
        · exact e2 ⟨z.1, z.2.1, by omega⟩)]
theorem Fr_Wd {lo hi : Nat} {I : gI} {q s n : Nat} {F : Nat → Int32} (h1 : lo ≤ q) (h2 : q ≤ hi) : Fr lo hi I (Wd I q s n F) := fun a ha => Wd_row (by omega)
theorem s_putElement {p n w s e : Nat} {I : gI} {R : gR} {S : gS} {N : Nat} (hp : 2 ≤ p) (hp5 : p ≤ 5) (hn6 : n ≤ 6) (h1 : I 6 1 = nI n) (h17 : I 17 1 = nI p) (hw : I 17 7 = nI w) (hw36 : w ≤ 36) (hs : s + n ≤ w) (he : e < 2147483648) (hN : 8 ≤ N) :
    f_X6_putElement N I R S (nI s) (nI e) = some (Wd I 18 s n (fun j => nI (dig p e j))) := by
  unfold f_X6_putElement
  have k1 : ∀ m a j, a ≠ 18 → Wd I 18 s m (fun j => nI (dig p e j)) a j = I a j := fun m a j h => Wd_ne j h
  refine iter_bind (fun i => (nI (e / p ^ i), nI i, Wd I 18 s i (fun j => nI (dig p e j)))) n (Wd I 18 s n (fun j => nI (dig p e j))) ?_ ?_ ?_ (by omega) rfl
  · rw [Wd_0, Nat.pow_zero, Nat.div_one, nI_0]
  · intro i hi
    have hd : e / p ^ i < 2147483648 := Nat.lt_of_le_of_lt (Nat.div_le_self _ _) he
    dsimp only
    unfold f_X6_put
    simp (disch := omega) only [k1, h1, h17, hw, gle_f, gnz, pk_div, pk_mul, pk_rem2, nI_add, gn_f, nI_clamp, gin2, nI_1]
    show ((some (gU (Wd I 18 s i (fun j => nI (dig p e j))) 18 (s + i) (nI (dig p e i)))).bind _) = _
    rw [Wd_up (F := fun j => nI (dig p e j))]
    show (if _ then _ else _) = _
    simp (disch := omega) only [k1, h17, gnz, pk_div]
    rw [div_div_pow]
  · dsimp only
    simp (disch := omega) only [k1, h1, gle_t]
theorem s_putNumbers {n w s q : Nat} {I : gI} {R : gR} {S : gS} {N : Nat} (hn6 : n ≤ 6) (h1 : I 6 1 = nI n) (hw : I 17 7 = nI w) (hw36 : w ≤ 36) (hs : s + n ≤ w) (hq : q ≠ 18) (hL : n ≤ gLn S q) (hL2 : gLn S q < 2147483648) (hN : 8 ≤ N) :
    f_X6_putNumbers N I R S (nI s) q = some (Wd I 18 s n (I q)) := by
  unfold f_X6_putNumbers
  have k1 : ∀ m a j, a ≠ 18 → Wd I 18 s m (I q) a j = I a j := fun m a j h => Wd_ne j h
  refine iter_bind (fun i => (nI i, Wd I 18 s i (I q))) n (Wd I 18 s n (I q)) ?_ ?_ ?_ (by omega) rfl
  · rw [Wd_0, nI_0]
  · intro i hi
    dsimp only
    unfold f_X6_put
    simp (disch := omega) only [k1, h1, hw, gle_f, nI_add, gn_f, nI_clamp, gin2, nI_1]
    show ((some (gU (Wd I 18 s i (I q)) 18 (s + i) (I q i))).bind _) = _
    rw [Wd_up (F := I q)]
    rfl
  · dsimp only
    simp (disch := omega) only [k1, h1, gle_t]
theorem s_begin {K : Type} [Lean.Grind.CommRing K] {p w : Nat} {Z : (Nat → K) → Prop} {V : Nat → Nat → K} {Rl : Nat → Prop} {I : gI} {R : gR} {S : gS} {N : Nat} (hp : 0 < p) (h17 : I 17 1 = nI p) (hw36 : w ≤ 36) :
    ∃ J, f_X6_begin N I R S (nI w) = some J ∧ Fr 17 17 I J ∧ SPI p w 0 0 Z V Rl J := by
  refine ⟨_, rfl, ?_, fun _ _ => 0, fun _ _ => 0, fun _ => 0, ?_, ?_, ?_⟩
  · intro a ha
    rw [gU_cell _ _ _ (by omega), gU_cell _ _ _ (by omega), gU_cell _ _ _ (by omega)]
  · refine ⟨?_, ?_, ?_, ?_, fun k i hk => by omega, fun k i hk => by omega, fun k hk => by omega⟩
    · rw [gU_slot _ _ _ (by decide), gU_slot _ _ _ (by decide), gU_slot _ _ _ (by decide)]; exact h17
    · rw [gU_slot _ _ _ (by decide), gU_slot _ _ _ (by decide), gU_at, show (36 : Int32) = nI 36 from rfl, glt_f hw36 (by omega)]
    · rw [gU_slot _ _ _ (by decide), gU_at]; exact nI_0.symm
    · rw [gU_at]; exact nI_0.symm
  · exact ⟨hw36, .inl (by omega), by omega, fun _ _ => hp, fun _ _ => hp, fun k hk => by omega, fun _ _ _ => rfl⟩
  · exact ⟨fun k hk => by omega, fun k hk => by omega, fun k j hk => by omega, fun j hj => by omega⟩
theorem SPI_of {K : Type} [Lean.Grind.CommRing K] {p w m f : Nat} {Z : (Nat → K) → Prop} {V : Nat → Nat → K} {Rl : Nat → Prop} {I J : gI} (h : SPI p w m f Z V Rl I) (hJ : ∀ a, a = 17 ∨ (21 ≤ a ∧ a ≤ 27) ∨ (29 ≤ a ∧ a ≤ 36) → J a = I a) : SPI p w m f Z V Rl J := by
  obtain ⟨kv, km, ld, h1, h2, h3⟩ := h
  exact ⟨kv, km, ld, SPH_of h1 (by have := h2.2.1; have := h2.2.2.1; have := SPN_mw h2; omega) hJ, h2, h3⟩
theorem SPI_w {K : Type} [Lean.Grind.CommRing K] {p w m f : Nat} {Z : (Nat → K) → Prop} {V : Nat → Nat → K} {Rl : Nat → Prop} {I : gI} (h : SPI p w m f Z V Rl I) : I 17 1 = nI p ∧ I 17 7 = nI w ∧ w ≤ 36 ∧ (m ≤ f ∨ w ≤ 6) ∧ f ≤ 7 := by
  obtain ⟨kv, km, ld, h1, h2, h3⟩ := h
  exact ⟨h1.1, h1.2.1, h2.1, h2.2.1, h2.2.2.1⟩
end PutH
