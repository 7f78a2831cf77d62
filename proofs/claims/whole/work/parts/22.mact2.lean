/-! the model: act -/
section MAct2
def Hx {K : Type} [Lean.Grind.CommRing K] (p : Nat) (t : Nat → K) (a D x : Nat) : Nat → K := fun k => sm x (fun e => nk (dig p a (D - x + e)) * tp p t e k)
theorem cmp_sm {K : Type} [Lean.Grind.CommRing K] (p x : Nat) (c : Nat → K) (u : Nat → Nat → K) (v : Nat → K) (k : Nat) : cmp p (fun k => sm x (fun e => c e * u e k)) v k = sm x (fun e => c e * cmp p (u e) v k) := by
  unfold cmp
  have e1 : ∀ i, i < k + 1 → sm x (fun e => c e * u e i) * v (k - i) ^ (p ^ i) = sm x (fun e => c e * (u e i * v (k - i) ^ (p ^ i))) := fun i _ => by
    rw [← sm_mulR]
    exact sm_congr (fun e _ => by grind)
  rw [sm_congr e1, sm_comm]
  exact sm_congr (fun e _ => by rw [sm_mulL])
theorem Hx_S {K : Type} [Lean.Grind.CommRing K] {p n : Nat} {X : K} {co : K → Nat} (hR : RO K p n X co) (t : Nat → K) (a : Nat) {D x : Nat} (hx : x < D) (k : Nat) : Hx p t a D (x + 1) k = cmp p (Hx p t a D x) t k + (if k = 0 then nk (dig p a (D - x - 1)) else 0) := by
  unfold Hx
  rw [cmp_sm, sm_first]
  have e1 : sm x (fun i => nk (dig p a (D - (x + 1) + (i + 1))) * tp p t (i + 1) k) = sm x (fun e => nk (dig p a (D - x + e)) * cmp p (tp p t e) t k) := sm_congr (fun i hi => by
    rw [tp_r hR, show D - (x + 1) + (i + 1) = D - x + i by omega])
  rw [e1, show D - (x + 1) + 0 = D - x - 1 by omega]
  show nk (dig p a (D - x - 1)) * d0 k + _ = _
  unfold d0
  split <;> grind
theorem Hx_sup {K : Type} [Lean.Grind.CommRing K] {p n : Nat} {X : K} {co : K → Nat} (hR : RO K p n X co) {t : Nat → K} {r a D x : Nat} (ht : ∀ k, r < k → t k = 0) (hr : r ≤ 3) (hx : x ≤ 6) (k : Nat) (hk : 15 < k) : Hx p t a D x k = 0 := sm_0 (fun e he => by
  have := Nat.mul_le_mul hr (show e ≤ 5 by omega)
  rw [tp_deg hR ht e k (by omega)]; grind)
def Mx {K : Type} [Lean.Grind.CommRing K] (p : Nat) (H t : Nat → K) (i k : Nat) : K := sm i (fun l => if l ≤ k then H l * t (k - l) ^ (p ^ l) else 0)
theorem Mx_all {K : Type} [Lean.Grind.CommRing K] (p : Nat) (H t : Nat → K) {i k : Nat} (hk : k < i) : Mx p H t i k = cmp p H t k := by
  unfold Mx cmp
  rw [sm_ext (n := k + 1) (by omega) (fun j h1 _ => if_neg (by omega))]
  exact sm_congr (fun j hj => if_pos (by omega))
theorem iter_cnt {σ ρ : Type} {b : σ → Option (σ ⊕ ρ)} {N : Nat} {s : σ} {r : ρ} (f : Nat → σ) (k : Nat) (h0 : s = f 0) (hs : ∀ i, i < k → b (f i) = some (.inl (f (i + 1)))) (he : b (f k) = some (.inr r)) (hN : k < N) : iter b N s = some r := by
  rw [h0]; exact iter_count f k hs he hN
theorem m_act {K : Type} [Lean.Grind.CommRing K] {p n : Nat} {X : K} {co : K → Nat} {I : gI} {R : gR} {S : gS} {N w r a D : Nat} {t : Nat → K} (hR : RO K p n X co) (hM : MH p n X co I) (hw : w < 10) (hW : MW co I w r t) (hV : WV r t) (hS : S[95]? = some (12, 16)) (ha : a < 2147483648) (hD : Ln p a D) (hD7 : D ≤ 7) (hN : 30 ≤ N) :
    ∃ J, f_X12_act N I R S (nI w) (nI a) = some J ∧ Fs [95, 103, 104] I J ∧ ∀ k, k < 24 → J 103 k = nI (co (ac p t a D k)) := by
  have hp := RO_p hR
  obtain ⟨r1, r3, _, ht⟩ := hV
  unfold f_X12_act
  have e0 : (iter (σ := Int32 × gI) (ρ := gI) (fun z1 => (if (24 : Int32) ≤ z1.1 then some (.inr z1.2) else if z1.1 < 0 ∨ 24 ≤ z1.1.toNatClampNeg then none else some (.inl (z1.1 + 1, gU z1.2 103 z1.1.toNatClampNeg (0 : Int32))))) N ((0 : Int32), I)) = some (Aw I 103 24 (fun _ => 0)) := by
    refine iter_cnt (fun i => (nI i, Aw I 103 24 (fun j => if j < i then 0 else I 103 j))) 24 ?_ ?_ ?_ (by omega)
    · rw [nI_0]
      congr 1
      exact (Aw_same (fun j _ => if_neg (by omega))).symm
    · intro i hi
      rw [show (24 : Int32) = nI 24 from rfl]
      simp (disch := omega) only [gle_f, nI_clamp, gin2, Aw_up, nI_1]
      congr 4
      funext j
      by_cases h : j = i
      · rw [if_pos h, if_pos (by omega)]
      · rw [if_neg h]
        by_cases h2 : j < i
        · rw [if_pos h2, if_pos (by omega)]
        · rw [if_neg h2, if_neg (by omega)]
    · rw [show (24 : Int32) = nI 24 from rfl]
      simp (disch := omega) only [gle_t]
      congr 2
      exact Aw_congr (fun j hj => if_pos hj)
  rw [e0]
  show ∃ J, (f_X12_figures N _ R S _ 95).bind _ = some J ∧ _
  rw [m_figures hp.1 hp.2 (by rw [Aw_ne _ (by decide)]; exact hM.1) (by decide) hS ha hD (by omega) (by omega)]
  refine iter_wpe (fun x s => ∃ J, s = (nI (D - x) - 1, J) ∧ Fs [95, 103, 104] I J ∧ (∀ j, j < 16 → J 95 j = nI (dig p a j)) ∧ ∀ k, k < 24 → J 103 k = nI (co (Hx p t a D x k))) D ⟨_, rfl, ?_, ?_, ?_⟩ ?_ (by omega)
  · exact (Fs_Aw (by decide)).trans (Fs_Aw (by decide))
  · intro j hj; dsimp only; rw [Aw_at hj]
  · intro k hk
    dsimp only
    rw [Aw_ne _ (by decide), Aw_at hk]
    show 0 = nI (co (0 : K))
    rw [RO_0 hR, nI_0]
  · rintro x _ hx ⟨J, rfl, hJ, h95, h103⟩
    dsimp only
    by_cases hxD : x = D
    · subst hxD
      refine .inr ⟨J, ?_, J, rfl, hJ, ?_⟩
      · rw [Nat.sub_self]; exact dn0
      · intro k hk
        rw [h103 k hk]
        unfold Hx ac
        rw [Nat.sub_self]
        simp only [Nat.zero_add]
    · refine .inl ?_
      rw [dn1 (D - x) (by omega), gn_f (by omega)]
      have hsup := Hx_sup hR (a := a) (D := D) ht r3 (show x ≤ 6 by omega)
      have hHS := Hx_S hR t a (show x < D by omega)
      generalize Hx p t a D x = H at *
      have hM2 : ∀ (A B : Nat → Int32), MH p n X co (Aw (Aw J 104 24 A) 103 24 B) := fun A B => MH_Aw (MH_Aw (MH_fs hM hJ (by decide) (by decide) (by decide)) (by decide) (by decide) (by decide)) (by decide) (by decide) (by decide)
      have hW2 : ∀ (A B : Nat → Int32), MW co (Aw (Aw J 104 24 A) 103 24 B) w r t := fun A B => MW_of hW (by rw [Aw_row (by decide), Aw_row (by decide), hJ 101 (by decide)]) (by rw [Aw_row (by decide), Aw_row (by decide), hJ 102 (by decide)])
      refine ⟨(nI (D - (x + 1)) - 1, gU (Aw (Aw J 104 24 (fun k => nI (co (H k)))) 103 24 (fun k => nI (co (cmp p H t k)))) 103 0 (nI (co (cmp p H t 0 + nk (dig p a (D - x - 1)))))), ?_, by omega, _, rfl, ?_, ?_, ?_⟩
      · refine iter_bind (fun i => (nI i, Aw (Aw J 104 24 (fun k => if k < i then nI (co (H k)) else J 104 k)) 103 24 (fun k => if k < i then 0 else nI (co (H k))))) 24 (Aw (Aw J 104 24 (fun k => nI (co (H k)))) 103 24 (fun _ => 0)) ?_ ?_ ?_ (by omega) ?_
        · rw [nI_0]
          congr 1
          have e1 : Aw J 104 24 (fun k => if k < 0 then nI (co (H k)) else J 104 k) = J := Aw_same (fun j _ => if_neg (by omega))
          rw [e1]
          refine (Aw_same (fun j hj => ?_)).symm
          rw [if_neg (by omega), h103 j hj]
        · intro i hi
          rw [show (24 : Int32) = nI 24 from rfl]
          simp (disch := omega) only [gle_f, nI_clamp, gin2, Aw_at, nI_1]
          rw [if_neg (Nat.lt_irrefl i), Aw_cm (by decide), Aw_up (by omega), Aw_up (by omega)]
          congr 4
          · congr 1
            funext j
            by_cases h : j = i
            · rw [if_pos h, if_pos (by omega), h]
            · rw [if_neg h]
              by_cases h2 : j < i
              · rw [if_pos h2, if_pos (by omega)]
              · rw [if_neg h2, if_neg (by omega)]
          · funext j
            by_cases h : j = i
            · rw [if_pos h, if_pos (by omega)]
            · rw [if_neg h]
              by_cases h2 : j < i
              · rw [if_pos h2, if_pos (by omega)]
              · rw [if_neg h2, if_neg (by omega)]
        · rw [show (24 : Int32) = nI 24 from rfl]
          simp (disch := omega) only [gle_t]
          congr 2
          have e1 : Aw J 104 24 (fun k => if k < 24 then nI (co (H k)) else J 104 k) = Aw J 104 24 (fun k => nI (co (H k))) := Aw_congr (fun j hj => if_pos hj)
          rw [e1]
          exact Aw_congr (fun j hj => if_pos hj)
        · refine iter_bind (fun i => (nI i, Aw (Aw J 104 24 (fun k => nI (co (H k)))) 103 24 (fun k => nI (co (Mx p H t i k))))) 24 (Aw (Aw J 104 24 (fun k => nI (co (H k)))) 103 24 (fun k => nI (co (cmp p H t k)))) ?_ ?_ ?_ (by omega) ?_
          · rw [nI_0]
            congr 2
            funext k
            show 0 = nI (co (0 : K))
            rw [RO_0 hR, nI_0]
          · intro i hi
            rw [show (24 : Int32) = nI 24 from rfl, show (4 : Int32) = nI 4 from rfl]
            simp (disch := omega) only [gle_f, nI_1, nI_clamp, gin2]
            have hend : (∀ k, Mx p H t i k + (if i ≤ k ∧ k < i + (r + 1) then H i * t (k - i) ^ (p ^ i) else 0) = Mx p H t (i + 1) k) := fun k => by
              unfold Mx
              rw [sm_succ]
              by_cases h1 : i ≤ k
              · rw [if_pos h1]
                by_cases h2 : k < i + (r + 1)
                · rw [if_pos ⟨h1, h2⟩]
                · rw [if_neg (fun z => h2 z.2), ht (k - i) (by omega), frk_0 hR]; grind
              · rw [if_neg h1, if_neg (fun z => h1 z.1)]
            by_cases hz : H i = 0
            · refine iter_bind (fun j => (nI j, Aw (Aw J 104 24 (fun k => nI (co (H k)))) 103 24 (fun k => nI (co (Mx p H t i k))))) 0 (Aw (Aw J 104 24 (fun k => nI (co (H k)))) 103 24 (fun k => nI (co (Mx p H t i k)))) (by rw [nI_0]) (fun j hj => by omega) ?_ (by omega) ?_
              · simp (disch := omega) only [(hW2 _ _).1, glt_f, Aw_ne, Aw_at]
                rw [if_pos ((co0_iff hR _).mpr hz)]
              · congr 5
                funext k
                rw [← hend k, hz]
                congr 2
                split <;> grind
            · have hi15 : i ≤ 15 := by
                apply Classical.byContradiction
                intro h
                exact hz (hsup i (by omega))
              refine iter_bind (fun j => (nI j, Aw (Aw J 104 24 (fun k => nI (co (H k)))) 103 24 (fun k => nI (co (Mx p H t i k + (if i ≤ k ∧ k < i + j then H i * t (k - i) ^ (p ^ i) else 0)))))) (r + 1) (Aw (Aw J 104 24 (fun k => nI (co (H k)))) 103 24 (fun k => nI (co (Mx p H t (i + 1) k)))) ?_ ?_ ?_ (by omega) rfl
              · rw [nI_0]
                congr 2
                funext k
                rw [if_neg (by omega)]
                congr 2; grind
              · intro j hj
                simp (disch := omega) only [(hW2 _ _).1, (hW2 _ _).2, glt_f, nI_add, pk_mul, nI_clamp, gin2, Aw_ne, Aw_at]
                rw [if_neg (fun z => hz ((co0_iff hR _).mp z)), m_far hR (hM2 _ _) _ (by omega) (by omega)]
                show (f_X12_times N _ R S _ _).bind _ = _
                rw [m_times hR (hM2 _ _)]
                show (f_X12_add N _ R S _ _).bind _ = _
                rw [m_add hR (hM2 _ _).1 _ _ (by omega)]
                show some (Sum.inl (nI j + 1, gU _ 103 (i + j) (nI (co _)))) = _
                rw [Aw_up (by omega), nI_1]
                congr 4
                funext k
                by_cases h : k = i + j
                · subst h
                  rw [if_pos rfl, if_neg (show ¬ (i ≤ i + j ∧ i + j < i + j) by omega), if_pos (by omega), Nat.add_sub_cancel_left]
                  congr 2; grind
                · rw [if_neg h]
                  by_cases h2 : i ≤ k ∧ k < i + j
                  · rw [if_pos h2, if_pos (by omega)]
                  · rw [if_neg h2, if_neg (by omega)]
              · simp (disch := omega) only [(hW2 _ _).1, glt_t]
                congr 3
                funext k
                rw [hend k]
          · rw [show (24 : Int32) = nI 24 from rfl]
            simp (disch := omega) only [gle_t]
            congr 2
            exact Aw_congr (fun k hk => by rw [Mx_all p H t hk])
          · have z0 : (0 : Int32).toNatClampNeg = 0 := rfl
            have zc : ¬ ((0 : Int32) < 0 ∨ 24 ≤ 0) := by decide
            simp (disch := omega) only [z0, zc, if_false, nI_clamp, gin2, Aw_at, Aw_ne, h95]
            have h1 := m_add (N := N) (R := R) (S := S) hR (hM2 (fun k => nI (co (H k))) (fun k => nI (co (cmp p H t k)))).1 (cmp p H t 0) (nk (dig p a (D - x - 1))) (by omega)
            rw [RO_nk hR (dig_lt (by omega) _ _)] at h1
            rw [h1, dn2, show D - (x + 1) = D - x - 1 by omega]
            rfl
      · exact hJ.trans ((Fs_Aw (by decide)).trans ((Fs_Aw (by decide)).trans (Fs_gU (by decide))))
      · intro j hj
        rw [gU_ne _ _ _ _ (by decide), Aw_ne _ (by decide), Aw_ne _ (by decide), h95 j hj]
      · intro k hk
        rw [hHS k]
        by_cases h : k = 0
        · subst h
          rw [gU_at, if_pos rfl]
        · rw [gU_slot _ _ _ h, Aw_at hk, if_neg h]
          congr 2; grind
end MAct2
