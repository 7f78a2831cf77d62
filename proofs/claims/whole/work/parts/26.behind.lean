/-! the class: one sum of powers behind another; powers of t -/
section Behind
theorem gCopy_Aw {I : gI} {a b m : Nat} : gCopy I a b 0 0 m = Aw I b m (I a) := by
  funext q j
  unfold gCopy Aw
  by_cases h : q = b
  · rw [if_pos h]
    by_cases h2 : j < m
    · rw [pk_cpy_in (by omega) (by omega), if_pos ⟨h, h2⟩]
      congr 1; omega
    · rw [pk_cpy_out (by omega), if_neg (fun z => h2 z.2), h]
  · rw [if_neg h, if_neg (fun z => h z.1)]
theorem s_putBehind {K : Type} [Lean.Grind.CommRing K] {p n : Nat} {X : K} {co : K → Nat} {I : gI} {R : gR} {S : gS} {N a0 a2 a4 A B : Nat} {u v : Nat → K} (hR : RO K p n X co) (hF : FH p n X co I) (ha0 : a0 ≠ a4) (ha46 : a0 ≠ 46) (h24 : a2 ≠ a4) (h4 : 16 < a4 ∧ a4 ≠ 46) (hS4 : S[a4]? = some (12, 19)) {L0 L2 : Nat} (hS0 : S[a0]? = some (12, L0)) (hS2 : S[a2]? = some (12, L2)) (hL0 : A < L0) (hL2 : B < L2) (hAB : A + B ≤ 18) (hL0' : L0 < 1000) (hL2' : L2 < 1000) (hu : ∀ k, k ≤ A → I a0 k = nI (co (u k))) (hv : ∀ k, k ≤ B → I a2 k = nI (co (v k))) (hu0 : ∀ k, A < k → u k = 0) (hv0 : ∀ k, B < k → v k = 0) (hN : 60 ≤ N) :
    ∃ J, f_X8_putBehind N I R S a0 (nI A) a2 (nI B) a4 = some J ∧ Fs [46, a4] I J ∧ ∀ k, k < 19 → J a4 k = nI (co (cmp p u v k)) := by
  have hp := RO_p hR
  have hn6 := hR.2.2.1
  unfold f_X8_putBehind
  rw [s_fill hS4 (by omega) (by omega)]
  have hFk : ∀ (F G : Nat → Int32) m, FH p n X co (Aw (Aw I a4 19 F) 46 m G) := fun F G m => FH_of hF hn6 (fun a h1 h2 => by rw [Aw_row (by omega), Aw_row (by omega)])
  have hru : ∀ (F G : Nat → Int32) m k, k ≤ A → Aw (Aw I a4 19 F) 46 m G a0 k = nI (co (u k)) := fun F G m k hk => by rw [Aw_ne _ ha46, Aw_ne _ ha0, hu k hk]
  have r4 : ∀ (F G : Nat → Int32) m k, k < 19 → Aw (Aw I a4 19 F) 46 m G a4 k = F k := fun F G m k hk => by rw [Aw_ne _ h4.2, Aw_at hk]
  have r46 : ∀ (F G : Nat → Int32) k, k < B + 1 → Aw (Aw I a4 19 F) 46 (B + 1) G 46 k = G k := fun F G k hk => Aw_at hk
  refine ⟨Aw (Aw I a4 19 (fun k => nI (co (cmp p u v k)))) 46 (B + 1) (fun j => nI (co (v j ^ (p ^ (A + 1))))), ?_, ?_, fun k hk => r4 _ _ _ k hk⟩
  · show (if _ then _ else _) = _
    have z0 : (0 : Int32).toNatClampNeg = 0 := rfl
    rw [gAr_of hS2, if_neg (by decide), gLn_of hS2, gLn_of hS4, gLn_of hS0, z0, nI_1, nI_clamp (by omega), if_neg (by
      rintro ((h | h | h) | h | h)
      · exact absurd h (by decide)
      · exact absurd h (by decide)
      · exact nI_pos (by omega) h
      · omega
      · omega), gCopy_Aw]
    refine iter_bind (fun i => (nI i, Aw (Aw I a4 19 (fun k => nI (co (Mx p u v i k)))) 46 (B + 1) (fun j => nI (co (v j ^ (p ^ i)))))) (A + 1) (Aw (Aw I a4 19 (fun k => nI (co (cmp p u v k)))) 46 (B + 1) (fun j => nI (co (v j ^ (p ^ (A + 1)))))) ?_ ?_ ?_ (by omega) rfl
    · rw [nI_0]
      congr 1
      have e1 : Aw I a4 19 (fun k => nI (co (Mx p u v 0 k))) = Aw I a4 19 (fun _ => 0) := Aw_congr (fun j _ => by
        show nI (co (0 : K)) = 0
        rw [RO_0 hR, nI_0])
      rw [e1]
      refine Aw_congr (fun j hj => ?_)
      rw [Aw_ne _ h24, hv j (by omega), Nat.pow_zero, Lean.Grind.Semiring.pow_one]
    · intro i hi
      dsimp only
      rw [glt_f (show i ≤ A by omega) (by omega)]
      have hend : ∀ k, Mx p u v i k + (if i ≤ k ∧ k < i + (B + 1) then u i * v (k - i) ^ (p ^ i) else 0) = Mx p u v (i + 1) k := fun k => by
        unfold Mx
        rw [sm_succ]
        by_cases h1 : i ≤ k
        · rw [if_pos h1]
          by_cases h2 : k < i + (B + 1)
          · rw [if_pos ⟨h1, h2⟩]
          · rw [if_neg (fun z => h2 z.2), hv0 (k - i) (by omega), frk_0 hR]; grind
        · rw [if_neg h1, if_neg (fun z => h1 z.1)]
      refine iter_bind (fun j => (nI j, Aw (Aw I a4 19 (fun k => nI (co (Mx p u v i k + (if i ≤ k ∧ k < i + j then u i * v (k - i) ^ (p ^ i) else 0))))) 46 (B + 1) (fun m => if m < j then nI (co (v m ^ (p ^ (i + 1)))) else nI (co (v m ^ (p ^ i)))))) (B + 1) (Aw (Aw I a4 19 (fun k => nI (co (Mx p u v (i + 1) k)))) 46 (B + 1) (fun j => nI (co (v j ^ (p ^ (i + 1)))))) ?_ ?_ ?_ (by omega) (by rw [nI_1])
      · rw [nI_0]
        congr 1
        have e1 : Aw I a4 19 (fun k => nI (co (Mx p u v i k + (if i ≤ k ∧ k < i + 0 then u i * v (k - i) ^ (p ^ i) else 0)))) = Aw I a4 19 (fun k => nI (co (Mx p u v i k))) := Aw_congr (fun k _ => by
          rw [if_neg (by omega)]; congr 2; grind)
        rw [e1]
        exact Aw_congr (fun j _ => by rw [if_neg (by omega)])
      · intro j hj
        dsimp only
        rw [nI_add, nI_clamp (by omega), nI_clamp (by omega), nI_clamp (by omega), glt_f (show j ≤ B by omega) (by omega), gin2 (by omega) (by omega), gin2 (by omega) (by omega), gin2 (by omega) (by omega), r4 _ _ _ _ (by omega), hru _ _ _ _ (by omega), r46 _ _ _ hj, if_neg (Nat.lt_irrefl j), s_plusTimes hR (hFk _ _ _).1 _ _ _ (by omega)]
        show (if _ then _ else _) = _
        rw [gin2 (by omega) (by omega), gin2 (by omega) (by omega)]
        dsimp only
        rw [Aw_cm h4.2, Aw_up (by omega), r46 _ _ _ hj, if_neg (Nat.lt_irrefl j), s_raised hR (hFk _ _ _) _ (by omega)]
        show (if _ then _ else _) = _
        rw [gin2 (by omega) (by omega)]
        dsimp only
        rw [Aw_up hj, nI_1, frk_S]
        congr 3
        have e1 : Aw I a4 19 (fun k => if k = i + j then nI (co (Mx p u v i (i + j) + (if i ≤ i + j ∧ i + j < i + j then u i * v (i + j - i) ^ (p ^ i) else 0) + u i * v j ^ (p ^ i))) else nI (co (Mx p u v i k + (if i ≤ k ∧ k < i + j then u i * v (k - i) ^ (p ^ i) else 0)))) = Aw I a4 19 (fun k => nI (co (Mx p u v i k + (if i ≤ k ∧ k < i + (j + 1) then u i * v (k - i) ^ (p ^ i) else 0)))) := Aw_congr (fun k _ => by
          by_cases h : k = i + j
          · subst h
            rw [if_pos rfl, if_neg (show ¬ (i ≤ i + j ∧ i + j < i + j) by omega), if_pos (by omega), Nat.add_sub_cancel_left]
            congr 2; grind
          · rw [if_neg h]
            by_cases h2 : i ≤ k ∧ k < i + j
            · rw [if_pos h2, if_pos (by omega)]
            · rw [if_neg h2, if_neg (by omega)])
        rw [e1]
        congr 1
        funext m
        by_cases h : m = j
        · rw [if_pos h, if_pos (by omega), h]
        · rw [if_neg h]
          by_cases h2 : m < j
          · rw [if_pos h2, if_pos (by omega)]
          · rw [if_neg h2, if_neg (by omega)]
      · dsimp only
        rw [glt_t (by omega) (by omega)]
        congr 2
        have e1 : Aw I a4 19 (fun k => nI (co (Mx p u v i k + (if i ≤ k ∧ k < i + (B + 1) then u i * v (k - i) ^ (p ^ i) else 0)))) = Aw I a4 19 (fun k => nI (co (Mx p u v (i + 1) k))) := Aw_congr (fun k _ => by rw [hend k])
        rw [e1]
        exact Aw_congr (fun m hm => by rw [if_pos hm])
    · dsimp only
      rw [glt_t (by omega) (by omega)]
      congr 2
      have e1 : Aw I a4 19 (fun k => nI (co (Mx p u v (A + 1) k))) = Aw I a4 19 (fun k => nI (co (cmp p u v k))) := Aw_congr (fun k _ => by
        congr 2
        by_cases h : k < A + 1
        · exact Mx_all p u v h
        · unfold Mx cmp
          have e2 : sm (k + 1) (fun i => u i * v (k - i) ^ (p ^ i)) = sm (A + 1) (fun i => u i * v (k - i) ^ (p ^ i)) := sm_ext (by omega) (fun i h1 h2 => by rw [hu0 i (by omega)]; grind)
          rw [e2]
          exact sm_congr (fun i hi => if_pos (by omega)))
      rw [e1]
  · intro a ha
    rw [Aw_row (fun e => ha (by rw [e]; simp)), Aw_row (fun e => ha (by rw [e]; simp))]
end Behind
