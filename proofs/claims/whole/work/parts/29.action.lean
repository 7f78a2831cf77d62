/-! the class: what T, and a polynomial, does to the field -/
section Action
theorem dig_pow {p i j : Nat} (hp : 2 ≤ p) : dig p (p ^ i) j = if j = i then 1 else 0 := by
  unfold dig
  by_cases h : j = i
  · rw [if_pos h, h, Nat.div_self (Nat.pow_pos (by omega)), Nat.mod_eq_of_lt (by omega)]
  · rw [if_neg h]
    by_cases h2 : j < i
    · obtain ⟨m, rfl⟩ : ∃ m, i = j + (m + 1) := ⟨i - j - 1, by omega⟩
      rw [Nat.pow_add, Nat.mul_div_cancel_left _ (Nat.pow_pos (by omega)), Nat.pow_succ, Nat.mul_mod_left]
    · rw [Nat.div_eq_of_lt (Nat.pow_lt_pow_right (by omega) (by omega)), Nat.zero_mod]
theorem co_X {K : Type} [Lean.Grind.CommRing K] {p n : Nat} {X : K} {co : K → Nat} (hR : RO K p n X co) {i : Nat} (hi : i < n) : co (X ^ i) = p ^ i := by
  have hp := RO_p hR
  have h := RO_co hR (a := p ^ i) (Nat.pow_lt_pow_right (by omega) hi)
  have e : el p n X (p ^ i) = X ^ i := by
    unfold el
    rw [sm_one hi (fun j _ hj => by rw [dig_pow hp.1, if_neg hj, nk_0]; grind), dig_pow hp.1, if_pos rfl, nk_1]; grind
  rw [e] at h; exact h
/-- the images of the powers of x -/
def Im {K : Type} [Lean.Grind.CommRing K] (p n : Nat) (X : K) (co : K → Nat) (t : Nat → K) (r : Nat) (I : gI) : Prop := ∀ i j, i < n → j < n → I (58 + i) j = nI (dig p (co (ev p (r + 1) t (X ^ i))) j)
def Ad {K : Type} [Lean.Grind.CommRing K] (p n : Nat) (X : K) (co : K → Nat) (I : gI) (R : gR) (S : gS) : Prop := ∀ w, gdec (I 56 5) = some w → w < S.length ∧ gWb R S w = true ∧ ∀ r (t : Nat → K), CW co I R S w r t → WV r t → Im p n X co t r I
def lA : List Nat := [56, 58, 59, 60, 61, 62, 63]
theorem s_actBy {K : Type} [Lean.Grind.CommRing K] {p n : Nat} {X : K} {co : K → Nat} {I : gI} {R : gR} {S : gS} {N w r : Nat} {t : Nat → K} (hR : RO K p n X co) (hF : FH p n X co I) (hW : CW co I R S w r t) (hV : WV r t) (hA : Ad p n X co I R S) (hn : I 56 3 = nI n) (hS : ∀ q, 6 ≤ q → q < 75 → S[q]? = layS[q]?) (hw : w < 100000) (hN : 60 ≤ N) :
    ∃ J, f_X0_actBy N I R S w = some J ∧ Fs lA I J ∧ (∀ j, j ≠ 5 → J 56 j = I 56 j) ∧ gdec (J 56 5) = some w ∧ Im p n X co t r J := by
  have hp := RO_p hR
  have hn1 := hR.2.1
  have hn6 := hR.2.2.1
  have hS58 : ∀ j, j < 6 → S[58 + j]? = some (12, 6) := fun j hj => by
    rw [hS (58 + j) (by omega) (by omega)]
    rcases (show j = 0 ∨ j = 1 ∨ j = 2 ∨ j = 3 ∨ j = 4 ∨ j = 5 by omega) with rfl | rfl | rfl | rfl | rfl | rfl <;> rfl
  unfold f_X0_actBy
  rw [if_pos hW.1]
  by_cases he : gdec (I 56 5) = some w
  · rw [if_pos he]
    exact ⟨I, rfl, Fs_refl _ _, fun _ _ => rfl, he, (hA w he).2.2 r t hW hV⟩
  · rw [if_neg he, if_neg (by omega)]
    have key : ∃ y : gI, ((iter (σ := Int32 × gI) (ρ := gI) (fun z1 => (if (z1.2 56 3) ≤ z1.1 then some (.inr z1.2) else if z1.1 < 0 ∨ 8 ≤ z1.1.toNatClampNeg then none else ((iter (σ := Int32 × Int32 × Int32 × gI) (ρ := Int32 × gI) (fun z3 => (if (z3.2.2.2 w 1) < z3.2.2.1 then some (.inr (z3.2.1, z3.2.2.2)) else if z3.2.2.1 < 0 ∨ 4 ≤ z3.2.2.1.toNatClampNeg then none else ((f_X2_plusTimes N z3.2.2.2 R S z3.2.1 (z3.2.2.2 (gt R w) z3.2.2.1.toNatClampNeg) z3.1).bind (fun z5 => ((f_X2_raised N z5.2 R S z3.1).bind (fun z6 => some (.inl (z6.1, z5.1, z3.2.2.1 + 1, z6.2)))))))) N (z1.2 7 z1.1.toNatClampNeg, (0 : Int32), (0 : Int32), z1.2)).bind (fun r4 => if z1.1 < 0 ∨ 6 ≤ z1.1.toNatClampNeg then none else ((f_X2_split N r4.2 R S r4.1 (58 + z1.1.toNatClampNeg)).bind (fun z8 => some (.inl (z1.1 + 1, z8)))))))) N ((0 : Int32), gU I 56 5 (genc w))).bind (fun r2 => some r2)) = some y ∧ Fs lA I y ∧ (∀ j, j ≠ 5 → y 56 j = I 56 j) ∧ gdec (y 56 5) = some w ∧ Im p n X co t r y := by
      refine iter_wpe (fun i s => ∃ J, s = (nI i, J) ∧ Fs lA I J ∧ (∀ j, j ≠ 5 → J 56 j = I 56 j) ∧ gdec (J 56 5) = some w ∧ ∀ l j, l < i → j < n → J (58 + l) j = nI (dig p (co (ev p (r + 1) t (X ^ l))) j)) n ⟨_, by rw [nI_0], Fs_gU (by decide), fun j hj => gU_slot _ _ _ hj, by rw [gU_at, gdec_enc (by omega)], fun l j hl => by omega⟩ ?_ (by omega)
      rintro i _ hi ⟨J, rfl, c1, c2, c3, c4⟩
      have e3 : J 56 3 = nI n := by rw [c2 3 (by decide)]; exact hn
      simp only [e3]
      by_cases hin : i = n
      · subst hin
        rw [gle_t (Nat.le_refl i) (by omega)]
        exact .inr ⟨J, rfl, J, rfl, c1, c2, c3, c4⟩
      · refine .inl ?_
        have hFJ : FH p n X co J := FH_of hF hn6 (fun a h1 h2 => c1 a (by
          intro z
          simp only [lA, List.mem_cons, List.mem_nil_iff, or_false] at z
          omega))
        have hWJ := CW_fs hW c1 (by decide)
        have h7 := hFJ.2.2.2.1 i (by omega)
        rw [gle_f (by omega) (by omega), nI_clamp (by omega), gin2 (by omega) (by omega), h7, ← co_X hR (show i < n by omega)]
        have e1 : (iter (σ := Int32 × Int32 × Int32 × gI) (ρ := Int32 × gI) (fun z3 => (if (z3.2.2.2 w 1) < z3.2.2.1 then some (.inr (z3.2.1, z3.2.2.2)) else if z3.2.2.1 < 0 ∨ 4 ≤ z3.2.2.1.toNatClampNeg then none else ((f_X2_plusTimes N z3.2.2.2 R S z3.2.1 (z3.2.2.2 (gt R w) z3.2.2.1.toNatClampNeg) z3.1).bind (fun z5 => ((f_X2_raised N z5.2 R S z3.1).bind (fun z6 => some (.inl (z6.1, z5.1, z3.2.2.1 + 1, z6.2)))))))) N (nI (co (X ^ i)), (0 : Int32), (0 : Int32), J)) = some (nI (co (ev p (r + 1) t (X ^ i))), J) := by
          refine iter_cnt (fun k => (nI (co ((X ^ i) ^ (p ^ k))), nI (co (ev p k t (X ^ i))), nI k, J)) (r + 1) ?_ ?_ ?_ (by have := hV.2.1; omega)
          · show (_, _, _, _) = (_, nI (co (0 : K)), _, _)
            rw [RO_0 hR, nI_0, Nat.pow_zero, Lean.Grind.Semiring.pow_one]
          · intro k hk
            have hr := hV.2.1
            have e5 := hWJ.2.2.2.2
            simp only [e5]
            rw [glt_f (by omega) (by omega), nI_clamp (by omega), gin2 (by omega) (by omega), hWJ.2.2.2.1 k (by omega), s_plusTimes hR hFJ.1 _ _ _ (by omega), Option.bind_some, s_raised hR hFJ _ (by omega), Option.bind_some, frk_S, nI_1]
            rfl
          · have hr := hV.2.1
            have e5 := hWJ.2.2.2.2
            simp only [e5]
            rw [glt_t (by omega) (by omega)]
        rw [e1, Option.bind_some, gin2 (by omega) (by omega)]
        have hS1 := hS58 i (by omega)
        rw [s_split (p := p) (n := n) hFJ.1.1.1 hFJ.1.1.2.1 hp.1 hp.2 hn6 (by omega) (by rw [gLn_of hS1]; omega) (by rw [gLn_of hS1]; omega) (co_31 hR _) (by omega), Option.bind_some, nI_1]
        refine ⟨_, rfl, by omega, _, rfl, ?_, ?_, ?_, ?_⟩
        · refine c1.trans (Fs_Aw ?_)
          unfold lA
          simp only [List.mem_cons, List.mem_nil_iff, or_false]
          omega
        · intro j hj
          rw [Aw_ne _ (by omega)]; exact c2 j hj
        · rw [Aw_ne _ (by omega)]; exact c3
        · intro l j hl hj
          by_cases e : l = i
          · rw [e, Aw_at hj]
          · rw [Aw_ne _ (by omega)]; exact c4 l j (by omega) hj
    obtain ⟨y, k1, k2⟩ := key
    exact ⟨y, k1, k2⟩
theorem step_dig {K : Type} [Lean.Grind.CommRing K] {p n : Nat} {X : K} {co : K → Nat} (hR : RO K p n X co) (M : Nat) (t : Nat → K) (y : K) {j : Nat} (hj : j < n) : rvN p (fun i j => dig p (co (ev p M t (X ^ i))) j) (co y) n j % p = dig p (co (ev p M t y)) j := by
  have hp := RO_p hR
  refine nk_inj hR (Nat.mod_lt _ (by omega)) (dig_lt (by omega) _ _) ?_
  rw [nk_mod (RO_z hR), rvN_val]
  have e : ev p M t y = sm n (fun i => nk (dig p (co y) i) * ev p M t (X ^ i)) := by
    rw [← ev_sm hR]
    show _ = ev p M t (el p n X (co y))
    rw [RO_el hR]
  rw [e]
  exact (dk_sm hR hj n _ _).symm
theorem s_step {K : Type} [Lean.Grind.CommRing K] {p n : Nat} {X : K} {co : K → Nat} {I : gI} {R : gR} {S : gS} {N r q : Nat} {t : Nat → K} (hR : RO K p n X co) (hIm : Im p n X co t r I) (hp2 : I 56 2 = nI p) (hn : I 56 3 = nI n) (hS73 : S[73]? = some (12, 6)) (hq : 64 < q) (hq73 : q ≠ 73) (hSq : S[q]? = some (12, 6)) (y : K) (hy : ∀ j, j < n → I q j = nI (dig p (co y) j)) (hN : 60 ≤ N) :
    ∃ J, f_X0_step N I R S q = some J ∧ Fs [73, q] I J ∧ ∀ j, j < n → J q j = nI (dig p (co (ev p (r + 1) t y)) j) := by
  have hp := RO_p hR
  have hn1 := hR.2.1
  have hn6 := hR.2.2.1
  have hxl : ∀ (i j : Nat), dig p (co (ev p (r + 1) t (X ^ i))) j < p := fun i j => dig_lt (by omega) _ _
  have hst := fun j (hj : j < n) => step_dig hR (r + 1) t y hj
  unfold Im at hIm
  generalize hrx : (fun (i j : Nat) => dig p (co (ev p (r + 1) t (X ^ i))) j) = rx at *
  have hxr : ∀ (i j : Nat), dig p (co (ev p (r + 1) t (X ^ i))) j = rx i j := fun i j => by rw [← hrx]
  simp only [hxr] at hIm hxl
  refine ⟨Aw (Aw I 73 6 (fun j => if j < n then nI (rvN p rx (co y) n j) else 0)) q n (fun j => nI (dig p (co (ev p (r + 1) t y)) j)), ?_, ?_, fun j hj => Aw_at hj⟩
  · unfold f_X0_step
    rw [s_fill hS73 (by omega) (by omega), Option.bind_some, gLn_of hSq]
    have k1 : ∀ (F : Nat → Int32) a j, a ≠ 73 → Aw I 73 6 F a j = I a j := fun F a j h => Aw_ne j h
    refine iter_bind (fun i => (nI i, Aw I 73 6 (fun j => if j < n then nI (rvN p rx (co y) i j) else 0))) n (Aw I 73 6 (fun j => if j < n then nI (rvN p rx (co y) n j) else 0)) ?_ ?_ ?_ (by omega) ?_
    · rw [nI_0]
      congr 2
      funext j
      split
      · exact nI_0.symm
      · rfl
    · intro i hi
      have hdl := dig_lt (show 0 < p by omega) (co y) i
      simp (disch := omega) only [k1, hn, gle_f, nI_clamp, gin2, hy, nI_1]
      by_cases hz : dig p (co y) i = 0
      · refine iter_bind (fun j => (nI j, Aw I 73 6 (fun j => if j < n then nI (rvN p rx (co y) i j) else 0))) 0 (Aw I 73 6 (fun j => if j < n then nI (rvN p rx (co y) i j) else 0)) (by rw [nI_0]) (fun j hj => by omega) ?_ (by omega) ?_
        · simp (disch := omega) only [k1, hn, hy, gle_f, g0_t]
        · congr 5
          funext j
          rw [rvN, hz, Nat.zero_mul, Nat.add_zero]
      · refine iter_bind (fun m => (nI m, Aw I 73 6 (fun j => if j < n then nI (if j < m then rvN p rx (co y) (i + 1) j else rvN p rx (co y) i j) else 0))) n (Aw I 73 6 (fun j => if j < n then nI (rvN p rx (co y) (i + 1) j) else 0)) ?_ ?_ ?_ (by omega) rfl
        · rw [nI_0]
          simp
        · intro j hj
          simp (disch := omega) only [k1, hn, hy, hIm, gle_f, g0_f, nI_clamp, gin2, Aw_at, Aw_up, nI_1]
          rw [if_pos hj, if_neg (Nat.lt_irrefl j), pk_mul, nI_add]
          congr 4
          funext m
          by_cases e : m = j
          · rw [if_pos e, e, if_pos hj, if_pos (by omega)]; rfl
          · rw [if_neg e]
            by_cases e2 : m < n
            · rw [if_pos e2, if_pos e2]
              by_cases e3 : m < j
              · rw [if_pos e3, if_pos (by omega)]
              · rw [if_neg e3, if_neg (by omega)]
            · rw [if_neg e2, if_neg e2]
        · simp (disch := omega) only [k1, hn, gle_t]
          congr 3
          funext m
          by_cases e2 : m < n
          · rw [if_pos e2, if_pos e2, if_pos e2]
          · rw [if_neg e2, if_neg e2]
    · simp (disch := omega) only [k1, hn, gle_t]
    · generalize hA : Aw I 73 6 (fun j => if j < n then nI (rvN p rx (co y) n j) else 0) = A
      have hA73 : ∀ j, j < n → A 73 j = nI (rvN p rx (co y) n j) := fun j hj => by rw [← hA, Aw_at (by omega), if_pos hj]
      have hAne : ∀ a j, a ≠ 73 → A a j = I a j := fun a j h => by rw [← hA]; exact k1 _ a j h
      have k2 : ∀ (F : Nat → Int32) a j, a ≠ q → Aw A q n F a j = A a j := fun F a j h => Aw_ne j h
      refine iter_bind (fun i => (nI i, Aw A q n (fun j => if j < i then nI (dig p (co (ev p (r + 1) t y)) j) else A q j))) n (Aw A q n (fun j => nI (dig p (co (ev p (r + 1) t y)) j))) ?_ ?_ ?_ (by omega) rfl
      · rw [nI_0]
        congr 1
        exact (Aw_same (fun j _ => if_neg (by omega))).symm
      · intro i hi
        have hb := rvN_le (e := co y) hp.1 hp.2 hxl n i
        simp (disch := omega) only [k2, hAne, hn, hp2, hA73, gle_f, nI_clamp, gin2, gnz, pk_div, pk_mul, pk_rem2, Aw_up, nI_1]
        rw [hst i hi]
        congr 4
        funext m
        by_cases e : m = i
        · rw [if_pos e, if_pos (by omega), e]
        · rw [if_neg e]
          by_cases e2 : m < i
          · rw [if_pos e2, if_pos (by omega)]
          · rw [if_neg e2, if_neg (by omega)]
      · simp (disch := omega) only [k2, hAne, hn, gle_t]
        congr 2
        exact Aw_congr (fun j hj => if_pos hj)
  · intro a ha
    simp only [List.mem_cons, List.mem_nil_iff, or_false, not_or] at ha
    rw [Aw_row ha.2, Aw_row ha.1]
end Action
