/-! the class is made: its field -/
section CInit
theorem gMod_ok {p n : Nat} (hp : p = 2 ∨ p = 3 ∨ p = 5) (h1 : 1 ≤ n) (h6 : n ≤ 6) : gMod ((if p = 2 then 0 else if p = 3 then 6 else 12) + n - 1) = nI (mo p n) ∧ mo p n < 2147483648 := by
  rcases hp with rfl | rfl | rfl <;> (rcases (show n = 1 ∨ n = 2 ∨ n = 3 ∨ n = 4 ∨ n = 5 ∨ n = 6 by omega) with rfl | rfl | rfl | rfl | rfl | rfl) <;> decide +kernel
theorem s_X2_init {K : Type} [Lean.Grind.CommRing K] {p n : Nat} {X : K} {co : K → Nat} {I : gI} {R : gR} {S : gS} {N : Nat} (hR : RO K p n X co) (c1 : S.length = 7) (c2 : (S ++ [(12, 8)])[6]? = some (2, 8)) (c6 : gLayb 6 17 (gU (gU (gZg (gU (gU R 6 4 (some 7)) 6 5 (some 8)) 9 6) 6 6 (some 9)) 6 7 (some 16)) ((((S ++ [(12, 8)]) ++ [(12, 6)]) ++ ((13, 6) :: List.replicate 6 (12, 6))) ++ [(12, 12)]) = true) (hN : 60 ≤ N) :
    ∃ y, f_X2_init N I R S (nI p) (nI n) = some y ∧ ∃ J, y = (J, gU (gU (gZg (gU (gU R 6 4 (some 7)) 6 5 (some 8)) 9 6) 6 6 (some 9)) 6 7 (some 16), (((S ++ [(12, 8)]) ++ [(12, 6)]) ++ ((13, 6) :: List.replicate 6 (12, 6))) ++ [(12, 12)]) ∧ FH p n X co J ∧ ∀ a, ¬ (6 ≤ a ∧ a ≤ 16) → J a = I a := by
  have hp := RO_p hR
  have hn1 := hR.2.1
  have hn6 := hR.2.2.1
  obtain ⟨hm1, hm2⟩ := gMod_ok hR.1 hn1 hn6
  have hlay := gLayb_ok (by decide) c6
  unfold f_X2_init
  rw [if_pos c1, if_pos c2, if_pos (by simp [c1]), if_pos (by simp [c1]), if_pos (by simp [c1]), if_neg (by decide)]
  generalize (((S ++ [(12, 8)]) ++ [(12, 6)]) ++ ((13, 6) :: List.replicate 6 (12, 6))) ++ [(12, 12)] = S' at *
  generalize gU (gU (gZg (gU (gU R 6 4 (some 7)) 6 5 (some 8)) 9 6) 6 6 (some 9)) 6 7 (some 16) = R' at *
  obtain ⟨I1, hI1⟩ : ∃ I1, I1 = gU (gU (gU (gZ (gZs (gZ (gZ I 7) 8) 9 6) 16) 6 0 (nI p)) 6 1 (nI n)) 7 (0 : Int32).toNatClampNeg (1 : Int32) := ⟨_, rfl⟩
  have i60 : I1 6 0 = nI p := by rw [hI1]; rfl
  have i61 : I1 6 1 = nI n := by rw [hI1]; rfl
  have i70 : I1 7 0 = nI 1 := by rw [hI1]; rfl
  have i16 : ∀ j, I1 16 j = 0 := fun j => by rw [hI1]; rfl
  have iout : ∀ a, ¬ (6 ≤ a ∧ a ≤ 16) → I1 a = I a := fun a ha => by
    rw [hI1, gU_cell _ _ _ (by omega), gU_cell _ _ _ (by omega), gU_cell _ _ _ (by omega), gZ_ne (by omega)]
    funext j
    show (if 9 ≤ a ∧ a ≤ 9 + 6 then 0 else gZ (gZ I 7) 8 a j) = I a j
    rw [if_neg (by omega), gZ_ne (by omega), gZ_ne (by omega)]
  rw [← hI1]
  refine iter_bE (fun J => (∀ i, i < 8 → J 7 i = nI (p ^ i)) ∧ ∀ a, a ≠ 7 → J a = I1 a) ?_ ?_
  · refine iter_wp (fun i s => ∃ J, s = (nI (i + 1), J) ∧ (∀ l, l < i + 1 → J 7 l = nI (p ^ l)) ∧ ∀ a, a ≠ 7 → J a = I1 a) _ 7 ⟨I1, rfl, fun l hl => by rw [show l = 0 by omega, i70, Nat.pow_zero], fun _ _ => rfl⟩ ?_ (by omega)
    rintro i _ hi ⟨J, rfl, d1, d2⟩
    dsimp only
    rw [show (8 : Int32) = nI 8 from rfl]
    by_cases h7 : i = 7
    · subst h7
      rw [gle_t (by omega) (by omega)]
      exact .inr ⟨J, rfl, fun l hl => d1 l (by omega), d2⟩
    · refine .inl ?_
      rw [gle_f (by omega) (by omega), dn1 _ (by omega), Nat.add_sub_cancel, nI_clamp (by omega), gin2 (by omega) (by omega), nI_clamp (by omega), gin2 (by omega) (by omega), d1 i (by omega), pk_mul, ← Nat.pow_succ, nI_1]
      refine ⟨_, rfl, by omega, _, rfl, fun l hl => ?_, fun a ha => by rw [gU_cell _ _ _ ha]; exact d2 a ha⟩
      by_cases e : l = i + 1
      · rw [e, gU_at]
      · rw [gU_slot _ _ _ e]; exact d1 l (by omega)
  rintro J1 ⟨e1, e2⟩
  rw [nI_clamp (show n < _ by omega), gin2 (by omega) (by omega)]
  have hz8 : ((if nI p = (2 : Int32) then some (0 : Int32) else (if nI p = (3 : Int32) then some (6 : Int32) else some (12 : Int32))) : Option (Int32)) = some (nI (if p = 2 then 0 else if p = 3 then 6 else 12)) := by
    rcases hR.1 with rfl | rfl | rfl <;> decide
  have hoff : (if p = 2 then 0 else if p = 3 then 6 else 12) ≤ 12 := by
    rcases hR.1 with rfl | rfl | rfl <;> decide
  rw [hz8, Option.bind_some, nI_add, dn1 _ (by omega), nI_clamp (by omega), gin2 (by omega) (by omega), if_pos c6, e1 n (by omega), hm1]
  obtain ⟨I2, hI2⟩ : ∃ I2, I2 = gU (gU J1 6 2 (nI (p ^ n))) 6 3 (nI (mo p n)) := ⟨_, rfl⟩
  have j60 : I2 6 0 = nI p := by rw [hI2, gU_slot _ _ _ (by decide), gU_slot _ _ _ (by decide), e2 6 (by decide)]; exact i60
  have j61 : I2 6 1 = nI n := by rw [hI2, gU_slot _ _ _ (by decide), gU_slot _ _ _ (by decide), e2 6 (by decide)]; exact i61
  have j62 : I2 6 2 = nI (p ^ n) := by rw [hI2, gU_slot _ _ _ (by decide), gU_at]
  have j63 : I2 6 3 = nI (mo p n) := by rw [hI2, gU_at]
  have jne : ∀ a, a ≠ 6 → I2 a = J1 a := fun a ha => by rw [hI2, gU_cell _ _ _ ha, gU_cell _ _ _ ha]
  have j7 : ∀ i, i < 8 → I2 7 i = nI (p ^ i) := fun i hi => by rw [jne 7 (by decide)]; exact e1 i hi
  rw [← hI2]
  refine iter_bE (fun J => (∀ i, i < n → J 8 i = nI (fo p n i)) ∧ ∀ a, a ≠ 8 → J a = I2 a) ?_ ?_
  · refine iter_wp (fun i s => ∃ J, s = (nI i, J) ∧ (∀ l, l < i → J 8 l = nI (fo p n l)) ∧ ∀ a, a ≠ 8 → J a = I2 a) _ n ⟨I2, by rw [nI_0], fun l hl => by omega, fun _ _ => rfl⟩ ?_ (by omega)
    rintro i _ hi ⟨J, rfl, d1, d2⟩
    dsimp only
    by_cases hin : i = n
    · subst hin
      rw [gle_t (Nat.le_refl i) (by omega)]
      exact .inr ⟨J, rfl, d1, d2⟩
    · refine .inl ?_
      have hd := dig_lt (show 0 < p by omega) (mo p n) i
      rw [gle_f (by omega) (by omega), d2 6 (by decide), j63, s_numberAt (p := p) (by rw [d2 6 (by decide)]; exact j60) (fun l hl => by rw [d2 7 (by decide)]; exact j7 l hl) hp.1 hp.2 (by omega) hm2, Option.bind_some, gnz (by omega) (by omega), nI_clamp (by omega), gin2 (by omega) (by omega), pk_sub (by omega), pk_div (by omega) (by omega) (by omega), pk_mul, pk_rem2, nI_1]
      refine ⟨_, rfl, by omega, _, rfl, fun l hl => ?_, fun a ha => by rw [gU_cell _ _ _ ha]; exact d2 a ha⟩
      by_cases e : l = i
      · rw [e, gU_at]; rfl
      · rw [gU_slot _ _ _ e]; exact d1 l (by omega)
  rintro J2 ⟨f1, f2⟩
  have hFH0 : FH0 p n J2 := ⟨⟨by rw [f2 6 (by decide)]; exact j60, by rw [f2 6 (by decide)]; exact j61, f1⟩, fun j _ => by rw [f2 16 (by decide), jne 16 (by decide), e2 16 (by decide)]; exact i16 j⟩
  obtain ⟨o, ho⟩ : ∃ o : K, o = if n = 1 then 1 else X ^ p := ⟨_, rfl⟩
  have hoi : ∀ i, i < n → o ^ i = (X ^ i) ^ p := fun i hi => by
    by_cases h1 : n = 1
    · rw [show i = 0 by omega, Lean.Grind.Semiring.pow_zero, Lean.Grind.Semiring.pow_zero, Lean.Grind.Semiring.one_pow]
    · rw [ho, if_neg h1, ← pw_mul, ← pw_mul, Nat.mul_comm]
  have hz13 : (((if nI n = (1 : Int32) then some ((1 : Int32), J2) else if (1 : Int32) < 0 ∨ 8 ≤ (1 : Int32).toNatClampNeg then none else ((f_X2_power N J2 R' S' (J2 7 (1 : Int32).toNatClampNeg) (nI p)).bind (fun z14 => some (z14.1, z14.2)))) : Option (Int32 × gI))) = some (nI (co o), J2) := by
    by_cases h1 : n = 1
    · rw [if_pos (by rw [h1]; rfl), ho, if_pos h1, RO_1 hR]; rfl
    · have e71 : J2 7 (1 : Int32).toNatClampNeg = nI (co X) := by
        show J2 7 1 = _
        rw [f2 7 (by decide), j7 1 (by omega)]
        have := co_X hR (i := 1) (by omega)
        rw [Lean.Grind.Semiring.pow_one] at this
        rw [this]
      rw [if_neg (show ¬ nI n = (1 : Int32) from fun z => h1 ((nI_eq (a := n) (b := 1) (by omega) (by omega)).mp z)), if_neg (by decide), e71, s_power hR hFH0 X (by omega) (by omega), ho, if_neg h1]
      rfl
  rw [hz13, Option.bind_some]
  dsimp only
  refine iter_bE (fun J => (∀ i j, i < n → j < n → J (10 + i) j = nI (dig p (co (o ^ i)) j)) ∧ ∀ a, ¬ (10 ≤ a ∧ a ≤ 15) → J a = J2 a) ?_ ?_
  · refine iter_wp (fun i s => ∃ J, s = (nI (co (o ^ i)), nI i, J) ∧ (∀ l j, l < i → j < n → J (10 + l) j = nI (dig p (co (o ^ l)) j)) ∧ ∀ a, ¬ (10 ≤ a ∧ a ≤ 15) → J a = J2 a) _ n ⟨J2, by rw [Lean.Grind.Semiring.pow_zero, RO_1 hR, nI_0]; rfl, fun l j hl => by omega, fun _ _ => rfl⟩ ?_ (by omega)
    rintro i _ hi ⟨J, rfl, d1, d2⟩
    dsimp only
    by_cases hin : i = n
    · subst hin
      rw [gle_t (Nat.le_refl i) (by omega)]
      exact .inr ⟨J, rfl, d1, d2⟩
    · refine .inl ?_
      have hS1 : S'[10 + i]? = some (12, 6) := by
        rw [hlay.1 (10 + i) (by omega) (by omega)]
        rcases (show i = 0 ∨ i = 1 ∨ i = 2 ∨ i = 3 ∨ i = 4 ∨ i = 5 by omega) with rfl | rfl | rfl | rfl | rfl | rfl <;> rfl
      have hF1 : FH0 p n (Aw J (10 + i) n (fun j => nI (dig p (co (o ^ i)) j))) := ⟨⟨by rw [Aw_ne _ (by omega), d2 6 (by omega)]; exact hFH0.1.1, by rw [Aw_ne _ (by omega), d2 6 (by omega)]; exact hFH0.1.2.1, fun l hl => by rw [Aw_ne _ (by omega), d2 8 (by omega)]; exact hFH0.1.2.2 l hl⟩, fun j hj => by rw [Aw_ne _ (by omega), d2 16 (by omega)]; exact hFH0.2 j hj⟩
      rw [gle_f (by omega) (by omega), nI_clamp (by omega), gin2 (by omega) (by omega), s_split (p := p) (n := n) (by rw [d2 6 (by omega)]; exact hFH0.1.1) (by rw [d2 6 (by omega)]; exact hFH0.1.2.1) hp.1 hp.2 hn6 (by omega) (by rw [gLn_of hS1]; omega) (by rw [gLn_of hS1]; omega) (co_31 hR _) (by omega), Option.bind_some, s_times hR hF1 _ _ (by omega), Option.bind_some, ← Lean.Grind.Semiring.pow_succ, nI_1]
      dsimp only
      refine ⟨_, rfl, by omega, _, rfl, fun l j hl hj => ?_, fun a ha => by rw [Aw_row (by omega)]; exact d2 a ha⟩
      by_cases e : l = i
      · rw [e, Aw_at hj]
      · rw [Aw_ne _ (by omega)]; exact d1 l j (by omega) hj
  rintro J3 ⟨g1, g2⟩
  refine ⟨_, rfl, J3, rfl, ⟨⟨⟨by rw [g2 6 (by omega)]; exact hFH0.1.1, by rw [g2 6 (by omega)]; exact hFH0.1.2.1, fun l hl => by rw [g2 8 (by omega)]; exact hFH0.1.2.2 l hl⟩, fun j hj => by rw [g2 16 (by omega)]; exact hFH0.2 j hj⟩, by rw [g2 6 (by omega), f2 6 (by decide)]; exact j62, by rw [g2 6 (by omega), f2 6 (by decide)]; exact j63, fun i hi => by rw [g2 7 (by omega), f2 7 (by decide)]; exact j7 i hi, fun i j hi hj => by rw [g1 i j hi hj, hoi i hi]⟩, fun a ha => ?_⟩
  rw [g2 a (by omega), f2 a (by omega), jne a (by omega), e2 a (by omega)]; exact iout a ha
end CInit
