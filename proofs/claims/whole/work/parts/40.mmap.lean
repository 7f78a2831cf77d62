/-! MAP: the model's loops -/
section MMap
theorem Fb_st {K : Type} [Lean.Grind.CommRing K] (p n : Nat) (u s : Nat → K) {k i : Nat} (hi : i < k) (d : Nat) : Fb p n u s (k + d) i = Fb p n u s k i := by
  induction d with
  | zero => rfl
  | succ d ih => rw [← Nat.add_assoc, Fb, if_neg (by omega), ih]
theorem m_zero103 {I : gI} {N : Nat} (hN : 60 ≤ N) : (iter (σ := Int32 × gI) (ρ := gI) (fun z1 => (if (24 : Int32) ≤ z1.1 then some (.inr z1.2) else if z1.1 < 0 ∨ 24 ≤ z1.1.toNatClampNeg then none else some (.inl (z1.1 + 1, gU z1.2 103 z1.1.toNatClampNeg (0 : Int32))))) N ((0 : Int32), I)) = some (Aw I 103 24 (fun _ => 0)) := by
  refine iter_cnt (fun i => (nI i, Aw I 103 24 (fun j => if j < i then 0 else I 103 j))) 24 ?_ ?_ ?_ (by omega)
  · rw [nI_0]
    congr 1
    exact (Aw_same (fun j _ => if_neg (by omega))).symm
  · intro i hi
    rw [show (24 : Int32) = nI 24 from rfl]
    simp (disch := omega) only [gle_f, nI_clamp, gin2, Aw_up, nI_1]
    congr 4
    funext j
    by_cases h : j = i
    · rw [if_pos h, if_pos (by omega)]
    · rw [if_neg h]
      by_cases h2 : j < i
      · rw [if_pos h2, if_pos (by omega)]
      · rw [if_neg h2, if_neg (by omega)]
  · rw [show (24 : Int32) = nI 24 from rfl]
    simp (disch := omega) only [gle_t]
    congr 2
    exact Aw_congr (fun j hj => if_pos hj)
theorem m_map {K : Type} [Lean.Grind.CommRing K] {p n : Nat} {X : K} {co : K → Nat} {I H : gI} {R : gR} {S : gS} {N w r l : Nat} {t u q rm : Nat → K} {a0 a2 a3 : Int32} (hR : RO K p n X co) (h1 : f_X12_isPlace N (gU I 91 0 (0 : Int32)) R S a0 = some 1) (h2 : f_X12_lookMap N (gU I 91 0 (0 : Int32)) R S (nI w) a2 a3 (nI l) = some (0, H)) (hM : MH p n X co H) (hw : w < 10) (hW : MW co H w r t) (hV : WV r t) (h108 : ∀ k, k < 5 → H 108 k = nI (co (u k))) (hl1 : 1 ≤ l) (hl : l ≤ 4) (hul : u l ≠ 0) (hu0 : ∀ k, l < k → u k = 0) (hu : u 0 ≠ 0) (hD : Dv p l (r + 1) u (cmp p u t) q rm) (hN : 60 ≤ N) :
    ∃ J, Fs [91, 103, 107] H J ∧ (∀ j, j ≠ 1 → J 91 j = H 91 j) ∧ J 91 1 = 0 ∧ (((∀ k, rm k = 0) ∧ f_X12_map N I R S a0 (nI w) a2 a3 (nI l) = (f_X12_lay N J R S a0 (nI r)).bind (fun z => some (z.1, z.2)) ∧ ∀ k, k ≤ r → J 107 k = nI (co (q k))) ∨ ((¬ ∀ k, rm k = 0) ∧ f_X12_map N I R S a0 (nI w) a2 a3 (nI l) = some (-1000000, J))) := by
  have hp := RO_p hR
  have hr := hV.2.1
  have ht := hV.2.2.2
  obtain ⟨H1, hH1⟩ : ∃ H1, H1 = gU H 91 1 (0 : Int32) := ⟨_, rfl⟩
  have hM1 : MH p n X co H1 := MH_of hM (fun j hj _ => by rw [hH1, gU_slot _ _ _ (by omega)]) (by rw [hH1, gU_cell _ _ _ (by decide)]) (by rw [hH1, gU_cell _ _ _ (by decide)])
  have hne : ∀ a, a ≠ 91 → H1 a = H a := fun a ha => by rw [hH1, gU_cell _ _ _ ha]
  have hW1 : MW co H1 w r t := MW_of hW (hne _ (by decide)) (hne _ (by decide))
  have h1081 : ∀ k, k < 5 → H1 108 k = nI (co (u k)) := fun k hk => by rw [hne _ (by decide)]; exact h108 k hk
  have hMA : ∀ (F : Nat → Int32), MH p n X co (Aw H1 103 24 F) := fun F => MH_Aw hM1 (by decide) (by decide) (by decide)
  have hWA : ∀ (F : Nat → Int32), MW co (Aw H1 103 24 F) w r t := fun F => MW_of hW1 (Aw_row (by decide)) (Aw_row (by decide))
  have h8A : ∀ (F : Nat → Int32) k, k < 5 → Aw H1 103 24 F 108 k = nI (co (u k)) := fun F k hk => by rw [Aw_ne _ (by decide)]; exact h1081 k hk
  obtain ⟨sd, _⟩ := cmp_deg hR hu0 ht
  have hiff := Fb_Dv hR hul hu0 hu hD sd
  have hFq : (∀ k, rm k = 0) → ∀ i, i < r + 1 → Fb p n u (cmp p u t) (r + 1) i = q i := fun h0 => Fb_q hR hu (fun k => by rw [hD.1 k, h0 k]; grind) (r + 1)
  have hrun : ∀ y, ((iter (σ := Int32 × gI) (ρ := (gI) ⊕ (Int32 × gI)) (fun z12 => (if (H1 101 (nI w).toNatClampNeg + nI l) < z12.1 then some (.inr (.inl z12.2)) else if z12.1 < 0 ∨ 24 ≤ z12.1.toNatClampNeg then none else ((iter (σ := Int32 × Int32) (ρ := Int32) (fun z14 => (if z12.1 ≤ z14.2 then some (.inr z14.1) else (if (H1 101 (nI w).toNatClampNeg) < z14.2 then some (.inr z14.1) else (((if (z12.1 - z14.2) ≤ nI l then if z14.2 < 0 ∨ 4 ≤ z14.2.toNatClampNeg then none else if (z12.1 - z14.2) < 0 ∨ 5 ≤ (z12.1 - z14.2).toNatClampNeg then none else ((f_X12_far N z12.2 R S (z12.2 108 (z12.1 - z14.2).toNatClampNeg) z14.2).bind (fun z17 => ((f_X12_times N z12.2 R S (z12.2 107 z14.2.toNatClampNeg) z17).bind (fun z18 => some z18)))) else some (0 : Int32)) : Option (Int32)).bind (fun z16 => ((f_X12_less N z12.2 R S z14.1 z16).bind (fun z19 => some (.inl (z19, z14.2 + 1))))))))) N (z12.2 103 z12.1.toNatClampNeg, (0 : Int32))).bind (fun r15 => (if (H1 101 (nI w).toNatClampNeg) < z12.1 then (if r15 = 0 then some (.inl (z12.1 + 1, z12.2)) else some (.inr (.inr ((-1000000 : Int32), z12.2)))) else if (0 : Int32) < 0 ∨ 5 ≤ (0 : Int32).toNatClampNeg then none else ((f_X12_far N z12.2 R S (z12.2 108 (0 : Int32).toNatClampNeg) z12.1).bind (fun z20 => ((f_X12_inverse N z12.2 R S z20).bind (fun z21 => ((f_X12_times N z12.2 R S r15 z21).bind (fun z22 => if z12.1 < 0 ∨ 4 ≤ z12.1.toNatClampNeg then none else some (.inl (z12.1 + 1, gU z12.2 107 z12.1.toNatClampNeg z22))))))))))))) N ((0 : Int32), Aw H1 103 24 (fun k => nI (co (cmp p u t k))))).bind (fun y25 => Sum.elim (fun r13 => ((f_X12_lay N r13 R S a0 (H1 101 (nI w).toNatClampNeg)).bind (fun z23 => some (z23.1, z23.2)))) (fun x24 => some x24) y25)) = y → f_X12_map N I R S a0 (nI w) a2 a3 (nI l) = y := by
    intro y hy
    unfold f_X12_map
    rw [h1, Option.bind_some, if_neg (by decide), h2, Option.bind_some, if_pos (show (0 : Int32) ≤ 0 by decide), if_neg (fun z => by
      rw [nI_clamp (by omega)] at z
      rcases z with z | z
      · exact nI_pos (by omega) z
      · omega), ← hH1, m_zero103 hN, Option.bind_some]
    refine iter_bind (fun i => (nI i, Aw H1 103 24 (fun k => nI (co (Mx p u t i k))))) (l + 1) (Aw H1 103 24 (fun k => nI (co (cmp p u t k)))) ?_ ?_ ?_ (by omega) hy
    · rw [nI_0]
      congr 2
      funext k
      show 0 = nI (co (0 : K))
      rw [RO_0 hR, nI_0]
    · intro i hi
      have hend : ∀ k, Mx p u t i k + (if i ≤ k ∧ k < i + (r + 1) then u i * t (k - i) ^ (p ^ i) else 0) = Mx p u t (i + 1) k := fun k => by
        unfold Mx
        rw [sm_succ]
        by_cases e1 : i ≤ k
        · rw [if_pos e1]
          by_cases e2 : k < i + (r + 1)
          · rw [if_pos ⟨e1, e2⟩]
          · rw [if_neg (fun z => e2 z.2), ht (k - i) (by omega), frk_0 hR]; grind
        · rw [if_neg e1, if_neg (fun z => e1 z.1)]
      dsimp only
      rw [glt_f (by omega) (by omega), nI_1]
      refine iter_bind (fun j => (nI j, Aw H1 103 24 (fun k => nI (co (Mx p u t i k + (if i ≤ k ∧ k < i + j then u i * t (k - i) ^ (p ^ i) else 0)))))) (r + 1) (Aw H1 103 24 (fun k => nI (co (Mx p u t (i + 1) k)))) ?_ ?_ ?_ (by omega) rfl
      · rw [nI_0]
        congr 2
        funext k
        rw [if_neg (by omega)]
        congr 2; grind
      · intro j hj
        have e101 := hW1.1
        rw [show (4 : Int32) = nI 4 from rfl]
        simp (disch := omega) only [nI_clamp, e101, glt_f, nI_add, pk_mul, gin2, (hWA _).2, h8A, Aw_at]
        rw [m_far hR (hMA _) _ (by omega) (by omega), Option.bind_some, m_times hR (hMA _), Option.bind_some, m_add hR (hMA _).1 _ _ (by omega), Option.bind_some, nI_1, Aw_up (by omega)]
        congr 4
        funext k
        by_cases h : k = i + j
        · subst h
          rw [if_pos rfl, if_neg (show ¬ (i ≤ i + j ∧ i + j < i + j) by omega), if_pos (by omega), Nat.add_sub_cancel_left]
          congr 2; grind
        · rw [if_neg h]
          by_cases h2 : i ≤ k ∧ k < i + j
          · rw [if_pos h2, if_pos (by omega)]
          · rw [if_neg h2, if_neg (by omega)]
      · have e101 := hW1.1
        simp (disch := omega) only [nI_clamp, e101, glt_t]
        congr 3
        funext k
        rw [hend k]
    · dsimp only
      rw [glt_t (by omega) (by omega)]
      congr 2
      refine Aw_congr (fun k _ => ?_)
      congr 2
      by_cases h : k < l + 1
      · exact Mx_all p u t h
      · unfold Mx cmp
        have e2 : sm (k + 1) (fun i => u i * t (k - i) ^ (p ^ i)) = sm (l + 1) (fun i => u i * t (k - i) ^ (p ^ i)) := sm_ext (by omega) (fun i h1 h2 => by rw [hu0 i (by omega)]; grind)
        rw [e2]
        exact sm_congr (fun i hi => if_pos (by omega))
  obtain ⟨G, hG⟩ : ∃ G, G = Fb p n u (cmp p u t) (r + 1) := ⟨_, rfl⟩
  have hG0 : ∀ i, r + 1 ≤ i → G i = 0 := fun i hi => by rw [hG]; exact Fb_0 p n u _ _ i hi
  have hGk : ∀ k, k ≤ r → G k = (cmp p u t k - sm k (fun a => G a * u (k - a) ^ (p ^ a))) * (u 0 ^ (p ^ k)) ^ (p ^ n - 2) := fun k hk => by
    have h3 := Fb_st p n u (cmp p u t) (show k < k + 1 by omega) (r - k)
    rw [show k + 1 + (r - k) = r + 1 by omega] at h3
    rw [hG, h3, Fb, if_pos rfl, Fb_0 p n u _ k k (Nat.le_refl k)]
    have h4 : cmp p (Fb p n u (cmp p u t) k) u k = sm k (fun a => Fb p n u (cmp p u t) (r + 1) a * u (k - a) ^ (p ^ a)) := by
      unfold cmp
      rw [sm_succ, Fb_0 p n u _ k k (Nat.le_refl k)]
      have h5 : ∀ a, a < k → Fb p n u (cmp p u t) k a * u (k - a) ^ (p ^ a) = Fb p n u (cmp p u t) (r + 1) a * u (k - a) ^ (p ^ a) := fun a ha => by
        have := Fb_st p n u (cmp p u t) (show a < k by omega) (r + 1 - k)
        rw [show k + (r + 1 - k) = r + 1 by omega] at this
        rw [this]
      have h6 := sm_congr h5
      unfold cmp at h6
      rw [h6]; grind
    rw [h4]; grind
  have hGc : ∀ k, r < k → cmp p G u k = sm (r + 1) (fun a => G a * u (k - a) ^ (p ^ a)) := fun k hk => by
    unfold cmp
    exact sm_ext (by omega) (fun i h1 _ => by rw [hG0 i h1]; grind)
  rw [← hG] at hiff hFq
  generalize hs : cmp p u t = s at *
  have hloop : ∃ y, (iter (σ := Int32 × gI) (ρ := (gI) ⊕ (Int32 × gI)) (fun z12 => (if (H1 101 (nI w).toNatClampNeg + nI l) < z12.1 then some (.inr (.inl z12.2)) else if z12.1 < 0 ∨ 24 ≤ z12.1.toNatClampNeg then none else ((iter (σ := Int32 × Int32) (ρ := Int32) (fun z14 => (if z12.1 ≤ z14.2 then some (.inr z14.1) else (if (H1 101 (nI w).toNatClampNeg) < z14.2 then some (.inr z14.1) else (((if (z12.1 - z14.2) ≤ nI l then if z14.2 < 0 ∨ 4 ≤ z14.2.toNatClampNeg then none else if (z12.1 - z14.2) < 0 ∨ 5 ≤ (z12.1 - z14.2).toNatClampNeg then none else ((f_X12_far N z12.2 R S (z12.2 108 (z12.1 - z14.2).toNatClampNeg) z14.2).bind (fun z17 => ((f_X12_times N z12.2 R S (z12.2 107 z14.2.toNatClampNeg) z17).bind (fun z18 => some z18)))) else some (0 : Int32)) : Option (Int32)).bind (fun z16 => ((f_X12_less N z12.2 R S z14.1 z16).bind (fun z19 => some (.inl (z19, z14.2 + 1))))))))) N (z12.2 103 z12.1.toNatClampNeg, (0 : Int32))).bind (fun r15 => (if (H1 101 (nI w).toNatClampNeg) < z12.1 then (if r15 = 0 then some (.inl (z12.1 + 1, z12.2)) else some (.inr (.inr ((-1000000 : Int32), z12.2)))) else if (0 : Int32) < 0 ∨ 5 ≤ (0 : Int32).toNatClampNeg then none else ((f_X12_far N z12.2 R S (z12.2 108 (0 : Int32).toNatClampNeg) z12.1).bind (fun z20 => ((f_X12_inverse N z12.2 R S z20).bind (fun z21 => ((f_X12_times N z12.2 R S r15 z21).bind (fun z22 => if z12.1 < 0 ∨ 4 ≤ z12.1.toNatClampNeg then none else some (.inl (z12.1 + 1, gU z12.2 107 z12.1.toNatClampNeg z22))))))))))))) N ((0 : Int32), Aw H1 103 24 (fun k => nI (co (s k))))) = some y ∧ ∃ J, Fs [103, 107] H1 J ∧ ((y = .inl J ∧ (∀ k, r < k → k ≤ r + l → s k = cmp p G u k) ∧ ∀ i, i ≤ r → J 107 i = nI (co (G i))) ∨ (y = .inr (-1000000, J) ∧ ¬ ∀ k, r < k → k ≤ r + l → s k = cmp p G u k)) := by
    refine iter_wp (fun k z => ∃ J, z = (nI k, J) ∧ Fs [103, 107] H1 J ∧ (∀ m, m < 24 → J 103 m = nI (co (s m))) ∧ (∀ i, i < k → i ≤ r → J 107 i = nI (co (G i))) ∧ ∀ m, r < m → m < k → s m = cmp p G u m) _ (r + l + 1) ⟨_, by rw [nI_0], Fs_Aw (by decide), fun m hm => by rw [Aw_at hm], fun i hi => by omega, fun m h1 h2 => by omega⟩ ?_ (by omega)
    rintro k _ hk ⟨J, rfl, q1, q2, q3, q4⟩
    have e101 : H1 101 (nI w).toNatClampNeg = nI r := by rw [nI_clamp (by omega)]; exact hW1.1
    have hMJ := MH_fs hM1 q1 (by decide) (by decide) (by decide)
    have h8J : ∀ j, j < 5 → J 108 j = nI (co (u j)) := fun j hj => by rw [q1 108 (by decide)]; exact h1081 j hj
    dsimp only
    simp only [e101]
    rw [nI_add]
    by_cases he : k = r + l + 1
    · rw [glt_t (by omega) (by omega)]
      exact .inr ⟨_, rfl, J, q1, .inl ⟨rfl, fun m h1 h2 => q4 m h1 (by omega), fun i hi => q3 i (by omega) hi⟩⟩
    · rw [glt_f (by omega) (by omega), nI_clamp (by omega), gin2 (by omega) (by omega), q2 k (by omega)]
      obtain ⟨A, hA⟩ : ∃ A, A = min k (r + 1) := ⟨_, rfl⟩
      have e1 : (iter (σ := Int32 × Int32) (ρ := Int32) (fun z14 => (if nI k ≤ z14.2 then some (.inr z14.1) else (if nI r < z14.2 then some (.inr z14.1) else (((if (nI k - z14.2) ≤ nI l then if z14.2 < 0 ∨ 4 ≤ z14.2.toNatClampNeg then none else if (nI k - z14.2) < 0 ∨ 5 ≤ (nI k - z14.2).toNatClampNeg then none else ((f_X12_far N J R S (J 108 (nI k - z14.2).toNatClampNeg) z14.2).bind (fun z17 => ((f_X12_times N J R S (J 107 z14.2.toNatClampNeg) z17).bind (fun z18 => some z18)))) else some (0 : Int32)) : Option (Int32)).bind (fun z16 => ((f_X12_less N J R S z14.1 z16).bind (fun z19 => some (.inl (z19, z14.2 + 1))))))))) N (nI (co (s k)), (0 : Int32))) = some (nI (co (s k - sm A (fun a => G a * u (k - a) ^ (p ^ a))))) := by
        refine iter_cnt (fun a => (nI (co (s k - sm a (fun a => G a * u (k - a) ^ (p ^ a)))), nI a)) A ?_ ?_ ?_ (by omega)
        · rw [nI_0, sm_zero, show s k - 0 = s k by grind]
        · intro a ha
          dsimp only
          rw [gle_f (by omega) (by omega), glt_f (by omega) (by omega), pk_sub (by omega), nI_clamp (by omega), nI_clamp (by omega), gin2 (by omega) (by omega), sm_succ]
          by_cases hkl : k - a ≤ l
          · rw [gle_t hkl (by omega), gin2 (by omega) (by omega), h8J _ (by omega), m_far hR hMJ _ (by omega) (by omega), Option.bind_some, q3 a (by omega) (by omega), m_times hR hMJ, Option.bind_some, Option.bind_some, m_less hR hMJ _ _ (by omega), Option.bind_some, nI_1]
            congr 5; grind
          · rw [gle_f (by omega) (by omega), Option.bind_some]
            have h1 := m_less (N := N) (R := R) (S := S) hR hMJ (s k - sm a (fun a => G a * u (k - a) ^ (p ^ a))) 0 (by omega)
            rw [RO_0 hR, nI_0] at h1
            rw [h1, Option.bind_some, nI_1, hu0 (k - a) (by omega), frk_0 hR]
            congr 5; grind
        · dsimp only
          by_cases hkr : k ≤ r + 1
          · rw [gle_t (by omega) (by omega)]
          · rw [gle_f (by omega) (by omega), glt_t (by omega) (by omega)]
      rw [e1, Option.bind_some]
      by_cases hkr : k ≤ r
      · have hAk : A = k := by omega
        have z0 : (0 : Int32).toNatClampNeg = 0 := rfl
        rw [glt_f (by omega) (by omega), z0, if_neg (by decide), h8J 0 (by omega), m_far hR hMJ _ (by omega) (by omega), Option.bind_some, m_inverse hR hMJ (frk_ne hR hu _), Option.bind_some, m_times hR hMJ, Option.bind_some, gin2 (by omega) (by omega), nI_1, hAk, ← hGk k hkr]
        refine .inl ⟨_, rfl, by omega, _, rfl, q1.trans (Fs_gU (by decide)), fun m hm => by rw [gU_ne _ _ _ _ (by decide)]; exact q2 m hm, fun i hi hir => ?_, fun m h1 h2 => by omega⟩
        by_cases e : i = k
        · rw [e, gU_at]
        · rw [gU_slot _ _ _ e]; exact q3 i (by omega) hir
      · have hAk : A = r + 1 := by omega
        rw [glt_t (by omega) (by omega), hAk, ← hGc k (by omega), nI_1]
        by_cases hz : s k - cmp p G u k = 0
        · rw [if_pos ((co0_iff hR _).mpr hz)]
          refine .inl ⟨_, rfl, by omega, J, rfl, q1, q2, fun i hi hir => q3 i (by omega) hir, fun m h1 h2 => ?_⟩
          by_cases e : m = k
          · rw [e]; grind
          · exact q4 m h1 (by omega)
        · rw [if_neg (fun z => hz ((co0_iff hR _).mp z))]
          exact .inr ⟨_, rfl, J, q1, .inr ⟨rfl, fun z => hz (by rw [z k (by omega) (by omega)]; grind)⟩⟩
  obtain ⟨y, k1, J, k2, k3⟩ := hloop
  have hJf : Fs [91, 103, 107] H J := Fs.trans (J := H1) (fun a ha => hne a (fun e => ha (by rw [e]; decide))) (k2.mono (by decide))
  have hJ91 : ∀ j, j ≠ 1 → J 91 j = H 91 j := fun j hj => by rw [k2 91 (by decide), hH1, gU_slot _ _ _ hj]
  have hJ1 : J 91 1 = 0 := by rw [k2 91 (by decide), hH1, gU_at]
  have e101 : H1 101 (nI w).toNatClampNeg = nI r := by rw [nI_clamp (by omega)]; exact hW1.1
  refine ⟨J, hJf, hJ91, hJ1, ?_⟩
  rcases k3 with ⟨rfl, h3, h4⟩ | ⟨rfl, h3⟩
  · have h0 := hiff.mpr h3
    refine .inl ⟨h0, hrun _ ?_, fun k hk => by rw [h4 k hk, hFq h0 k (by omega)]⟩
    rw [k1, Option.bind_some]
    show (f_X12_lay N J R S a0 (H1 101 (nI w).toNatClampNeg)).bind _ = _
    rw [e101]
  · refine .inr ⟨fun h0 => h3 (hiff.mp h0), hrun _ ?_⟩
    rw [k1, Option.bind_some]
    rfl
end MMap
