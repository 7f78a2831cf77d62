/-! division: the loops -/
section Div2
theorem s_divide {K : Type} [Lean.Grind.CommRing K] {p n : Nat} {X : K} {co : K → Nat} {I : gI} {R : gR} {S : gS} {N l la : Nat} {u s : Nat → K} (hR : RO K p n X co) (hF : FH p n X co I) (h37 : I 37 2 = nI n) (hS55 : S[55]? = some (12, 19)) (hl : l ≤ 4) (hla : la ≤ 18) (hul : u l ≠ 0) (hu0 : ∀ k, l < k → u k = 0) (hrow : ∀ i, i < n → (∀ j, j ≤ l → I (48 + i) j = nI (co (u j ^ (p ^ i)))) ∧ I (48 + i) 5 = nI (co ((u l ^ (p ^ n - 2)) ^ (p ^ i)))) (hs : ∀ k, k < 19 → I 54 k = nI (co (s k))) (hs0 : ∀ k, la < k → s k = 0) (hN : 60 ≤ N) :
    ∃ J, f_X8_divide N I R S (nI la) (nI l) = some J ∧ Fs [54, 55] I J ∧ ∃ q rm, (∀ k, k < 19 → J 55 k = nI (co (q k))) ∧ (∀ k, k < 19 → J 54 k = nI (co (rm k))) ∧ Dv p l (la + 1 - l) u s q rm := by
  have hp := RO_p hR
  have hn1 := hR.2.1
  have hn6 := hR.2.2.1
  unfold f_X8_divide
  rw [s_fill hS55 (by omega) (by omega), Option.bind_some]
  have hcz : ∀ u : Nat → K, ∀ k, cmp p (fun _ => (0 : K)) u k = 0 := fun u k => sm_0 (fun i _ => by grind)
  by_cases hlt : la < l
  · refine ⟨Aw I 55 19 (fun _ => 0), ?_, Fs_Aw (by decide), fun _ => 0, s, fun k hk => by rw [Aw_at hk, RO_0 hR, nI_0], fun k hk => by rw [Aw_ne _ (by decide)]; exact hs k hk, fun k => by rw [hcz]; grind, fun k hk => hs0 k (by omega), fun k _ => rfl⟩
    refine iter_bind (fun _ => (nI la - nI l, Aw I 55 19 (fun _ => 0))) 0 (Aw I 55 19 (fun _ => 0)) rfl (fun i hi => by omega) ?_ (by omega) rfl
    exact if_pos (pk_sneg (by omega) hlt)
  · obtain ⟨T, hT⟩ : ∃ T, T = la - l + 1 := ⟨_, rfl⟩
    have hst : nI la - nI l = nI T - 1 := by rw [pk_sub (by omega), dn1 T (by omega)]; congr 1; omega
    rw [hst]
    refine iter_wpe (fun x z => ∃ J q rm, z = (nI (T - x) - 1, J) ∧ Fs [54, 55] I J ∧ (∀ k, k < 19 → J 55 k = nI (co (q k))) ∧ (∀ k, k < 19 → J 54 k = nI (co (rm k))) ∧ (∀ k, s k = cmp p q u k + rm k) ∧ (∀ k, T - x + l ≤ k → rm k = 0) ∧ (∀ k, T ≤ k → q k = 0) ∧ ∀ k, k < T - x → q k = 0) T ⟨_, fun _ => 0, s, by rw [Nat.sub_zero], Fs_Aw (by decide), fun k hk => by rw [Aw_at hk, RO_0 hR, nI_0], fun k hk => by rw [Aw_ne _ (by decide)]; exact hs k hk, fun k => by rw [hcz]; grind, fun k hk => hs0 k (by omega), fun _ _ => rfl, fun _ _ => rfl⟩ ?_ (by omega)
    rintro x _ hx ⟨J, q, rm, rfl, q1, q2, q3, q4, q5, q6, q7⟩
    dsimp only
    by_cases he : x = T
    · subst he
      rw [Nat.sub_self, dn0]
      exact .inr ⟨J, rfl, J, rfl, q1, q, rm, q2, q3, q4, fun k hk => q5 k (by omega), fun k hk => q6 k (by omega)⟩
    · refine .inl ?_
      obtain ⟨k, hk⟩ : ∃ k, k = T - x - 1 := ⟨_, rfl⟩
      have f2 : J 37 2 = nI n := by rw [q1 37 (by decide)]; exact h37
      have hFJ : FH p n X co J := FH_of hF hn6 (fun a h1 h2 => q1 a (by
        simp only [List.mem_cons, List.mem_nil_iff, or_false]; omega))
      have hkn := Nat.mod_lt k (show 0 < n by omega)
      have hrJ : (∀ j, j ≤ l → J (48 + k % n) j = nI (co (u j ^ (p ^ k)))) ∧ J (48 + k % n) 5 = nI (co ((u l ^ (p ^ n - 2)) ^ (p ^ k))) := by
        have h1 := hrow (k % n) hkn
        rw [q1 (48 + k % n) (by simp only [List.mem_cons, List.mem_nil_iff, or_false]; omega)]
        simp only [fr_k hR] at h1
        exact h1
      have z5 : (5 : Int32).toNatClampNeg = 5 := rfl
      have zg : ¬ ((5 : Int32) < 0 ∨ 6 ≤ 5) := by decide
      have hgU55 : ∀ (v : Int32), gU J 55 k v 55 k = v := fun v => gU_at _ _ _ _
      rw [dn1 _ (by omega), ← hk, gn_f (by omega)]
      simp (disch := omega) only [f2, gnz, pk_div, pk_mul, pk_rem2, nI_add, nI_clamp, gin2, z5, zg, if_false, q3, hrJ.2]
      rw [s_times hR hFJ.1 _ _ (by omega), Option.bind_some]
      obtain ⟨c, hc⟩ : ∃ c, c = rm (k + l) * (u l ^ (p ^ n - 2)) ^ (p ^ k) := ⟨_, rfl⟩
      have hcu : c * u l ^ (p ^ k) = rm (k + l) := by
        have h1 : (u l * u l ^ (p ^ n - 2)) ^ (p ^ k) = 1 ^ (p ^ k) := by rw [inv_ok hR hul]
        rw [frk_mul, Lean.Grind.Semiring.one_pow] at h1
        rw [hc]
        generalize (u l ^ (p ^ n - 2)) ^ (p ^ k) = e at *
        generalize u l ^ (p ^ k) = f at *
        grind
      simp only [← hc, gU_at]
      have hF55 : FH p n X co (gU J 55 k (nI (co c))) := FH_of hFJ hn6 (fun a h1 h2 => gU_cell _ _ _ (by omega))
      rw [s_negative hR hF55.1 _ (by omega), Option.bind_some]
      obtain ⟨d1, d2⟩ := Dv_step hR hu0 q4 (fun m hm => q5 m (by omega)) hcu
      have hFA : ∀ (F : Nat → Int32), FH p n X co (Aw (gU J 55 k (nI (co c))) 54 19 F) := fun F => FH_of hF55 hn6 (fun a h1 h2 => Aw_row (by omega))
      have hrA : ∀ (F : Nat → Int32) j, j ≤ l → Aw (gU J 55 k (nI (co c))) 54 19 F (48 + k % n) j = nI (co (u j ^ (p ^ k))) := fun F j hj => by
        rw [Aw_ne _ (by omega), gU_ne _ _ _ _ (by omega)]; exact hrJ.1 j hj
      have e1 : (iter (σ := Int32 × gI) (ρ := gI) (fun z7 => (if nI l < z7.1 then some (.inr z7.2) else if (nI k + z7.1) < 0 ∨ 19 ≤ (nI k + z7.1).toNatClampNeg then none else if z7.1 < 0 ∨ 6 ≤ z7.1.toNatClampNeg then none else ((f_X2_plusTimes N z7.2 R S (z7.2 54 (nI k + z7.1).toNatClampNeg) (nI (co (-c))) (z7.2 (48 + k % n) z7.1.toNatClampNeg)).bind (fun z9 => if (nI k + z7.1) < 0 ∨ 19 ≤ (nI k + z7.1).toNatClampNeg then none else some (.inl (z7.1 + 1, gU z9.2 54 (nI k + z7.1).toNatClampNeg z9.1)))))) N ((0 : Int32), gU J 55 k (nI (co c)))) = some (Aw (gU J 55 k (nI (co c))) 54 19 (fun m => nI (co (rm m - (if k ≤ m ∧ m ≤ k + l then c * u (m - k) ^ (p ^ k) else 0))))) := by
        refine iter_cnt (fun j => (nI j, Aw (gU J 55 k (nI (co c))) 54 19 (fun m => nI (co (rm m - (if k ≤ m ∧ m < k + j then c * u (m - k) ^ (p ^ k) else 0)))))) (l + 1) ?_ ?_ ?_ (by omega)
        · rw [nI_0]
          congr 1
          refine (Aw_same (fun j hj => ?_)).symm
          rw [if_neg (by omega), gU_ne _ _ _ _ (by decide), q3 j hj]
          congr 2; grind
        · intro j hj
          simp (disch := omega) only [glt_f, nI_add, nI_clamp, gin2, Aw_at, hrA]
          rw [if_neg (show ¬ (k ≤ k + j ∧ k + j < k + j) by omega), s_plusTimes hR (hFA _).1 _ _ _ (by omega), Option.bind_some, nI_1]
          dsimp only
          rw [Aw_up (by omega)]
          congr 4
          funext m
          by_cases e : m = k + j
          · subst e
            rw [if_pos rfl, if_pos (by omega), Nat.add_sub_cancel_left]
            congr 2; grind
          · rw [if_neg e]
            by_cases e2 : k ≤ m ∧ m < k + j
            · rw [if_pos e2, if_pos (by omega)]
            · rw [if_neg e2, if_neg (by omega)]
        · simp (disch := omega) only [glt_t]
          congr 2
          refine Aw_congr (fun m _ => ?_)
          by_cases e2 : k ≤ m ∧ m ≤ k + l
          · rw [if_pos e2, if_pos (by omega)]
          · rw [if_neg e2, if_neg (by omega)]
      rw [e1, Option.bind_some]
      refine ⟨_, rfl, by omega, _, fun i => if i = k then q i + c else q i, _, by rw [dn2, show T - (x + 1) = k by omega], q1.trans ((Fs_gU (by decide)).trans (Fs_Aw (by decide))), ?_, ?_, d1, fun m hm => d2 m (by omega), ?_, ?_⟩
      · intro m hm
        rw [Aw_ne _ (by decide)]
        by_cases e : m = k
        · rw [e, gU_at]
          show nI (co c) = nI (co (if k = k then q k + c else q k))
          rw [if_pos rfl, q7 k (by omega)]
          congr 2; grind
        · rw [gU_slot _ _ _ e]
          show J 55 m = nI (co (if m = k then q m + c else q m))
          rw [if_neg e]; exact q2 m hm
      · intro m hm
        rw [Aw_at hm]
      · intro m hm
        show (if m = k then q m + c else q m) = 0
        rw [if_neg (by omega)]; exact q6 m hm
      · intro m hm
        show (if m = k then q m + c else q m) = 0
        rw [if_neg (by omega)]; exact q7 m (by omega)
theorem m_divide {K : Type} [Lean.Grind.CommRing K] {p n : Nat} {X : K} {co : K → Nat} {I : gI} {R : gR} {S : gS} {N l : Nat} {u s : Nat → K} (hR : RO K p n X co) (hM : MH p n X co I) (hl1 : 1 ≤ l) (hl : l ≤ 4) (hul : u l ≠ 0) (hu0 : ∀ k, l < k → u k = 0) (h108 : ∀ k, k < 5 → I 108 k = nI (co (u k))) (hs : ∀ k, k < 24 → I 103 k = nI (co (s k))) (hs0 : ∀ k, 24 ≤ k → s k = 0) (hN : 60 ≤ N) :
    ∃ J, f_X12_divide N I R S (nI l) = some J ∧ Fs [103, 105] I J ∧ ∃ q rm, (∀ k, k < 24 → J 105 k = nI (co (q k))) ∧ (∀ k, k < 24 → J 103 k = nI (co (rm k))) ∧ Dv p l (24 - l) u s q rm := by
  have hp := RO_p hR
  unfold f_X12_divide
  have hcz : ∀ u : Nat → K, ∀ k, cmp p (fun _ => (0 : K)) u k = 0 := fun u k => sm_0 (fun i _ => by grind)
  have e0 : (iter (σ := Int32 × gI) (ρ := gI) (fun z1 => (if (24 : Int32) ≤ z1.1 then some (.inr z1.2) else if z1.1 < 0 ∨ 24 ≤ z1.1.toNatClampNeg then none else some (.inl (z1.1 + 1, gU z1.2 105 z1.1.toNatClampNeg (0 : Int32))))) N ((0 : Int32), I)) = some (Aw I 105 24 (fun _ => 0)) := by
    refine iter_cnt (fun i => (nI i, Aw I 105 24 (fun j => if j < i then 0 else I 105 j))) 24 ?_ ?_ ?_ (by omega)
    · rw [nI_0]
      congr 1
      exact (Aw_same (fun j _ => if_neg (by omega))).symm
    · intro i hi
      rw [show (24 : Int32) = nI 24 from rfl]
      simp (disch := omega) only [gle_f, nI_clamp, gin2, Aw_up, nI_1]
      congr 4
      funext j
      by_cases h : j = i
      · rw [if_pos h, if_pos (by omega)]
      · rw [if_neg h]
        by_cases h2 : j < i
        · rw [if_pos h2, if_pos (by omega)]
        · rw [if_neg h2, if_neg (by omega)]
    · rw [show (24 : Int32) = nI 24 from rfl]
      simp (disch := omega) only [gle_t]
      congr 2
      exact Aw_congr (fun j hj => if_pos hj)
  rw [e0, Option.bind_some]
  refine iter_wpe (fun x z => ∃ J q rm, z = (nI (23 - x), J) ∧ Fs [103, 105] I J ∧ (∀ k, k < 24 → J 105 k = nI (co (q k))) ∧ (∀ k, k < 24 → J 103 k = nI (co (rm k))) ∧ (∀ k, s k = cmp p q u k + rm k) ∧ (∀ k, 24 - x ≤ k → rm k = 0) ∧ (∀ k, 24 - l ≤ k → q k = 0) ∧ ∀ k, k + l < 24 - x → q k = 0) (24 - l) ⟨_, fun _ => 0, s, rfl, Fs_Aw (by decide), fun k hk => by rw [Aw_at hk, RO_0 hR, nI_0], fun k hk => by rw [Aw_ne _ (by decide)]; exact hs k hk, fun k => by rw [hcz]; grind, fun k hk => hs0 k (by omega), fun _ _ => rfl, fun _ _ => rfl⟩ ?_ (by omega)
  rintro x _ hx ⟨J, q, rm, rfl, q1, q2, q3, q4, q5, q6, q7⟩
  dsimp only
  by_cases he : x = 24 - l
  · subst he
    refine .inr ⟨J, ?_, J, rfl, q1, q, rm, q2, q3, q4, fun k hk => q5 k (by omega), q6⟩
    exact glt_t (by omega) (by omega)
  · refine .inl ?_
    obtain ⟨k, hk⟩ : ∃ k, k = 23 - x - l := ⟨_, rfl⟩
    have hkl : 23 - x = k + l := by omega
    have hMJ := MH_fs hM q1 (by decide) (by decide) (by decide)
    have h8J : ∀ j, j < 5 → J 108 j = nI (co (u j)) := fun j hj => by rw [q1 108 (by decide)]; exact h108 j hj
    rw [hkl, glt_f (by omega) (by omega), nI_clamp (by omega), gin2 (by omega) (by omega), gin2 (by omega) (by omega), pk_sub (by omega), Nat.add_sub_cancel, nI_clamp (by omega), nI_clamp (by omega), gin2 (by omega) (by omega)]
    have e103 := q3 (k + l) (by omega)
    have e108 := h8J l (by omega)
    simp only [e103, e108]
    have hinv : u l ^ (p ^ k) ≠ 0 := frk_ne hR hul _
    obtain ⟨c, hc1, hcu, hc0⟩ : ∃ c : K, (if nI (co (rm (k + l))) = 0 then some (0 : Int32) else ((f_X12_far N J R S (nI (co (u l))) (nI k)).bind (fun z6 => ((f_X12_inverse N J R S z6).bind (fun z7 => ((f_X12_times N J R S (nI (co (rm (k + l)))) z7).bind (fun z8 => some z8))))))) = some (nI (co c)) ∧ c * u l ^ (p ^ k) = rm (k + l) ∧ (rm (k + l) = 0 → c = 0) := by
      by_cases hz : rm (k + l) = 0
      · refine ⟨0, ?_, by rw [hz]; grind, fun _ => rfl⟩
        rw [if_pos ((co0_iff hR _).mpr hz), RO_0 hR, nI_0]
      · refine ⟨rm (k + l) * (u l ^ (p ^ k)) ^ (p ^ n - 2), ?_, ?_, fun z => absurd z hz⟩
        · rw [if_neg (fun z => hz ((co0_iff hR _).mp z)), m_far hR hMJ _ (by omega) (by omega), Option.bind_some, m_inverse hR hMJ hinv, Option.bind_some, m_times hR hMJ, Option.bind_some]
        · have h1 := inv_ok hR hinv
          generalize (u l ^ (p ^ k)) ^ (p ^ n - 2) = e at *
          generalize u l ^ (p ^ k) = f at *
          grind
    rw [hc1, Option.bind_some, gin2 (by omega) (by omega)]
    obtain ⟨d1, d2⟩ := Dv_step hR hu0 q4 (fun m hm => q5 m (by omega)) hcu
    have hMA : ∀ (F : Nat → Int32), MH p n X co (Aw (gU J 105 k (nI (co c))) 103 24 F) := fun F => MH_Aw (MH_of hMJ (fun j _ _ => by rw [gU_ne _ _ _ _ (by decide)]) (gU_cell _ _ _ (by decide)) (gU_cell _ _ _ (by decide))) (by decide) (by decide) (by decide)
    have hrA : ∀ (F : Nat → Int32) j, j < 5 → Aw (gU J 105 k (nI (co c))) 103 24 F 108 j = nI (co (u j)) := fun F j hj => by
      rw [Aw_ne _ (by decide), gU_ne _ _ _ _ (by decide)]; exact h8J j hj
    have e1 : (iter (σ := Int32 × gI) (ρ := gI) (fun z9 => (if nI l < z9.1 then some (.inr z9.2) else (if nI (co c) = 0 then some (.inr z9.2) else if (nI k + z9.1) < 0 ∨ 24 ≤ (nI k + z9.1).toNatClampNeg then none else if z9.1 < 0 ∨ 5 ≤ z9.1.toNatClampNeg then none else ((f_X12_far N z9.2 R S (z9.2 108 z9.1.toNatClampNeg) (nI k)).bind (fun z11 => ((f_X12_times N z9.2 R S (nI (co c)) z11).bind (fun z12 => ((f_X12_less N z9.2 R S (z9.2 103 (nI k + z9.1).toNatClampNeg) z12).bind (fun z13 => if (nI k + z9.1) < 0 ∨ 24 ≤ (nI k + z9.1).toNatClampNeg then none else some (.inl (z9.1 + 1, gU z9.2 103 (nI k + z9.1).toNatClampNeg z13))))))))))) N ((0 : Int32), gU J 105 k (nI (co c)))) = some (Aw (gU J 105 k (nI (co c))) 103 24 (fun m => nI (co (rm m - (if k ≤ m ∧ m ≤ k + l then c * u (m - k) ^ (p ^ k) else 0))))) := by
      by_cases hz : c = 0
      · refine iter_cnt (fun _ => (0, gU J 105 k (nI (co c)))) 0 rfl (fun i hi => by omega) ?_ (by omega)
        dsimp only
        rw [← nI_0, glt_f (by omega) (by omega), nI_0, if_pos ((co0_iff hR _).mpr hz)]
        congr 2
        refine (Aw_same (fun m hm => ?_)).symm
        rw [gU_ne _ _ _ _ (by decide), q3 m hm, hz]
        congr 2
        split <;> grind
      · refine iter_cnt (fun j => (nI j, Aw (gU J 105 k (nI (co c))) 103 24 (fun m => nI (co (rm m - (if k ≤ m ∧ m < k + j then c * u (m - k) ^ (p ^ k) else 0)))))) (l + 1) ?_ ?_ ?_ (by omega)
        · rw [nI_0]
          congr 1
          refine (Aw_same (fun j hj => ?_)).symm
          rw [if_neg (by omega), gU_ne _ _ _ _ (by decide), q3 j hj]
          congr 2; grind
        · intro j hj
          simp (disch := omega) only [glt_f, nI_add, nI_clamp, gin2, Aw_at, hrA]
          rw [if_neg (fun z => hz ((co0_iff hR _).mp z)), m_far hR (hMA _) _ (by omega) (by omega), Option.bind_some, m_times hR (hMA _), Option.bind_some, if_neg (show ¬ (k ≤ k + j ∧ k + j < k + j) by omega), m_less hR (hMA _) _ _ (by omega), Option.bind_some, nI_1, Aw_up (by omega)]
          congr 4
          funext m
          by_cases e : m = k + j
          · subst e
            rw [if_pos rfl, if_pos (by omega), Nat.add_sub_cancel_left]
            congr 2; grind
          · rw [if_neg e]
            by_cases e2 : k ≤ m ∧ m < k + j
            · rw [if_pos e2, if_pos (by omega)]
            · rw [if_neg e2, if_neg (by omega)]
        · simp (disch := omega) only [glt_t]
          congr 2
          refine Aw_congr (fun m _ => ?_)
          by_cases e2 : k ≤ m ∧ m ≤ k + l
          · rw [if_pos e2, if_pos (by omega)]
          · rw [if_neg e2, if_neg (by omega)]
    rw [e1, Option.bind_some]
    refine ⟨_, rfl, by omega, _, fun i => if i = k then q i + c else q i, _, by rw [dn2, dn1 _ (by omega), show 23 - (x + 1) = k + l - 1 by omega], q1.trans ((Fs_gU (by decide)).trans (Fs_Aw (by decide))), ?_, ?_, d1, fun m hm => d2 m (by omega), ?_, ?_⟩
    · intro m hm
      rw [Aw_ne _ (by decide)]
      by_cases e : m = k
      · rw [e, gU_at]
        show nI (co c) = nI (co (if k = k then q k + c else q k))
        rw [if_pos rfl, q7 k (by omega)]
        congr 2; grind
      · rw [gU_slot _ _ _ e]
        show J 105 m = nI (co (if m = k then q m + c else q m))
        rw [if_neg e]; exact q2 m hm
    · intro m hm
      rw [Aw_at hm]
    · intro m hm
      show (if m = k then q m + c else q m) = 0
      rw [if_neg (by omega)]; exact q6 m hm
    · intro m hm
      show (if m = k then q m + c else q m) = 0
      rw [if_neg (by omega)]; exact q7 m (by omega)
end Div2
