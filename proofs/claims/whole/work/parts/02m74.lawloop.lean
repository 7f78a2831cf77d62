section GN
variable {p : Program} {l : Launch} {e : Env} {s : State} {m : MethodId} {below : List Frame} {meth : Method} {c : Code} {X : gX} {I : gI} {R : gR} {S : gS}
theorem nI_six (k : Nat) : nI (2 + 6 * k) + 6 = nI (2 + 6 * (k + 1)) := by
  rw [show (6 : Int32) = nI 6 from rfl, nI_add]
  rfl
theorem law_ix {L k j : Nat} (hL : L ≤ 3074) (h : 2 + 6 * k + 6 ≤ L) (hj : j < 6) : vp_in (nI (2 + 6 * k) + nI j) L := by
  rw [nI_add]
  exact vp_in_nI (by omega) (by omega)
theorem law_go {L k : Nat} (hL : L ≤ 3074) (h : 2 + 6 * k + 6 ≤ L) : ¬ (Int32.ofNat L - 6 < nI (2 + 6 * k)) := by
  rw [Int32.lt_iff_toInt_lt, show Int32.ofNat L - 6 = nI L - nI 6 from rfl, pk_sub_toInt (by omega) (by omega), nI_toInt (by omega)]
  omega
theorem law_end {L k : Nat} (hL : L ≤ 3074) (hk : k ≤ 1000) (h : ¬ 2 + 6 * k + 6 ≤ L) : Int32.ofNat L - 6 < nI (2 + 6 * k) := by
  rw [Int32.lt_iff_toInt_lt, show Int32.ofNat L - 6 = nI L - nI 6 from rfl, pk_sub_toInt (by omega) (by omega), nI_toInt (by omega)]
  omega
set_option maxRecDepth 100000 in
set_option maxHeartbeats 8000000 in
theorem law_loop {b L : Nat} {xs : Nat → Int32} (N : Nat) (Inv : Nat → gI → gR → gS → Prop) (hlay : ∀ k I R S, Inv k I R S → gLay 0 114 R S) (hstep : ∀ (k : Nat) (I : gI) (R : gR) (S : gS) (op a0 a1 a2 a3 a4 : Int32), k < 512 → Inv k I R S → ∃ J P T, f_step N I R S op a0 a1 a2 a3 a4 = some (J, P, T) ∧ Inv (k + 1) J P T) (C : gC p s m #[Value.ref b] c cL_law 4 RL lw_tbl X) (hr : meth.sig.returnType = ret) (hlk : meth.locks = false) (hXs : X.1 = s.heap.size) (hX : va_X b L xs s s.heap) (hbl : b < s.heap.size) (hbA : ¬ X.1 ≤ b) (hE : gEN s) (hL : L ≤ 3074) :
    ∀ (n k : Nat) (I : gI) (R : gR) (S : gS), k ≤ 512 → L ≤ 2 + 6 * k + 6 * n → Inv k I R S → gW p l e room_1 s m #[Value.ref b] below meth c X 4 (lw_Z below #[Value.ref b] s) (114 + 3 * k) (33337 + 14 * k) I R S 38 [(0, .ref b), (1, .ref (X.1 + 0)), (2, .ref (X.1 + 91)), (3, .int (nI (2 + 6 * k)))] [] := by
  intro n
  induction n with
  | zero =>
    intro k I R S hk hle hI
    have hgo : ¬ 2 + 6 * k + 6 ≤ L := by omega
    refine g_iload_n C dL_law_38 rfl rfl ?_
    refine g_aload_n C dL_law_39 rfl rfl ?_
    refine g_slen C dL_law_40 hX hbl hbA ?_
    refine g_bipush (v := 6) C dL_law_41 (by decide) ?_
    refine g_isub C dL_law_43 ?_
    refine g_icmp_gt_t (tgt := 1062) C dL_law_44 (by decide) (law_end hL (by omega) hgo) ?_
    refine g_iconst (v := 1) C dL_law_1062 (by decide) ?_
    intro H locs ls hR hS hl
    refine va_forget (fun q hq => by have := hS.2.2 q hq; rw [← hXs]; exact this) ?_
    refine W.widen (k := 600000) (n := 7302250) (by omega) (by omega) ?_
    exact lw_ret C.1 C.2.1 hr hlk dL_law_1063
  | succ n ih =>
    intro k I R S hk hle hI
    refine g_iload_n C dL_law_38 rfl rfl ?_
    refine g_aload_n C dL_law_39 rfl rfl ?_
    refine g_slen C dL_law_40 hX hbl hbA ?_
    refine g_bipush (v := 6) C dL_law_41 (by decide) ?_
    refine g_isub C dL_law_43 ?_
    by_cases hgo : 2 + 6 * k + 6 ≤ L
    · refine g_icmp_gt_f (tgt := 1062) C dL_law_44 (by decide) (law_go hL hgo) ?_
      have h0 : vp_in (nI (2 + 6 * k)) L := vp_in_nI (by omega) (by omega)
      have h1 : vp_in (nI (2 + 6 * k) + 1) L := law_ix (j := 1) hL hgo (by omega)
      have h2 : vp_in (nI (2 + 6 * k) + 2) L := law_ix (j := 2) hL hgo (by omega)
      have h3 : vp_in (nI (2 + 6 * k) + 3) L := law_ix (j := 3) hL hgo (by omega)
      have h4 : vp_in (nI (2 + 6 * k) + 4) L := law_ix (j := 4) hL hgo (by omega)
      have h5 : vp_in (nI (2 + 6 * k) + 5) L := law_ix (j := 5) hL hgo (by omega)
      refine g_aload_n C dL_law_47 rfl rfl ?_
      refine g_iload_n C dL_law_48 rfl rfl ?_
      refine g_sld C dL_law_49 hX hbl hbA h0 ?_
      refine g_bipush (v := 31) C dL_law_50 (by decide) ?_
      refine g_iand C dL_law_52 ?_
      obtain ⟨J, P, T, hf, hI2⟩ := hstep k I R S (xs (nI (2 + 6 * k)).toNatClampNeg) (xs (nI (2 + 6 * k) + 1).toNatClampNeg) (xs (nI (2 + 6 * k) + 2).toNatClampNeg) (xs (nI (2 + 6 * k) + 3).toNatClampNeg) (xs (nI (2 + 6 * k) + 4).toNatClampNeg) (xs (nI (2 + 6 * k) + 5).toNatClampNeg) (by omega) hI
      have hL0 := hlay k I R S hI
      have kk : gW p l e room_1 s m #[Value.ref b] below meth c X 4 (lw_Z below #[Value.ref b] s) (114 + 3 * k + 3) (33337 + 14 * k + 14) J P T 1056 [(0, .ref b), (1, .ref (X.1 + 0)), (2, .ref (X.1 + 91)), (3, .int (nI (2 + 6 * k)))] [] := by
        refine g_iinc (d := 6) (v := nI (2 + 6 * (k + 1))) C dL_law_1056 rfl (by decide) (nI_six k) (Nat.le_of_ble_eq_true rfl) rfl rfl ?_
        refine g_goto (tgt := 38) C dL_law_1059 (by decide) ?_
        refine g_widen (k := 114 + 3 * (k + 1)) (n := 33337 + 14 * (k + 1)) (by omega) (by omega) ?_
        refine g_sub ?_ (ih (k + 1) J P T (by omega) (by omega) hI2)
        exact (And.intro rfl (And.intro rfl (And.intro rfl (And.intro rfl trivial))))
      unfold f_step at hf
      by_cases hc0 : (xs (nI (2 + 6 * k)).toNatClampNeg) &&& 31 = (0 : Int32)
      · rw [if_pos hc0] at hf
        refine g_tabC (v := (0 : Int32)) (tgt := 164) C dL_law_53 hc0 (by decide) (by decide) rfl (by decide) ?_
        exact law_row N C hX hbl hbA h1 h2 h3 hE hL0 J P T hf (by omega) (by omega) kk
      rw [if_neg hc0] at hf
      by_cases hc1 : (xs (nI (2 + 6 * k)).toNatClampNeg) &&& 31 = (1 : Int32)
      · rw [if_pos hc1] at hf
        refine g_tabC (v := (1 : Int32)) (tgt := 207) C dL_law_53 hc1 (by decide) (by decide) rfl (by decide) ?_
        exact law_set N C hX hbl hbA h1 h2 h3 hE hL0 J P T hf (by omega) (by omega) kk
      rw [if_neg hc1] at hf
      by_cases hc2 : (xs (nI (2 + 6 * k)).toNatClampNeg) &&& 31 = (2 : Int32)
      · rw [if_pos hc2] at hf
        refine g_tabC (v := (2 : Int32)) (tgt := 250) C dL_law_53 hc2 (by decide) (by decide) rfl (by decide) ?_
        exact law_copy N C hX hbl hbA h1 h2 h3 h4 h5 hE hL0 J P T hf (by omega) (by omega) kk
      rw [if_neg hc2] at hf
      by_cases hc3 : (xs (nI (2 + 6 * k)).toNatClampNeg) &&& 31 = (3 : Int32)
      · rw [if_pos hc3] at hf
        refine g_tabC (v := (3 : Int32)) (tgt := 313) C dL_law_53 hc3 (by decide) (by decide) rfl (by decide) ?_
        exact law_drop N C hX hbl hbA h1 hE hL0 J P T hf (by omega) (by omega) kk
      rw [if_neg hc3] at hf
      by_cases hc4 : (xs (nI (2 + 6 * k)).toNatClampNeg) &&& 31 = (4 : Int32)
      · rw [if_pos hc4] at hf
        refine g_tabC (v := (4 : Int32)) (tgt := 336) C dL_law_53 hc4 (by decide) (by decide) rfl (by decide) ?_
        exact law_field N C hX hbl hbA h1 h2 h3 hE hL0 J P T hf (by omega) (by omega) kk
      rw [if_neg hc4] at hf
      by_cases hc5 : (xs (nI (2 + 6 * k)).toNatClampNeg) &&& 31 = (5 : Int32)
      · rw [if_pos hc5] at hf
        refine g_tabC (v := (5 : Int32)) (tgt := 379) C dL_law_53 hc5 (by decide) (by decide) rfl (by decide) ?_
        exact law_world N C hX hbl hbA h1 h2 h3 h4 hE hL0 J P T hf (by omega) (by omega) kk
      rw [if_neg hc5] at hf
      by_cases hc6 : (xs (nI (2 + 6 * k)).toNatClampNeg) &&& 31 = (6 : Int32)
      · rw [if_pos hc6] at hf
        refine g_tabC (v := (6 : Int32)) (tgt := 432) C dL_law_53 hc6 (by decide) (by decide) rfl (by decide) ?_
        exact law_turn N C hX hbl hbA h1 h2 h3 hE hL0 J P T hf (by omega) (by omega) kk
      rw [if_neg hc6] at hf
      by_cases hc7 : (xs (nI (2 + 6 * k)).toNatClampNeg) &&& 31 = (7 : Int32)
      · rw [if_pos hc7] at hf
        refine g_tabC (v := (7 : Int32)) (tgt := 475) C dL_law_53 hc7 (by decide) (by decide) rfl (by decide) ?_
        exact law_map N C hX hbl hbA h1 h2 h3 h4 h5 hE hL0 J P T hf (by omega) (by omega) kk
      rw [if_neg hc7] at hf
      by_cases hc8 : (xs (nI (2 + 6 * k)).toNatClampNeg) &&& 31 = (8 : Int32)
      · rw [if_pos hc8] at hf
        refine g_tabC (v := (8 : Int32)) (tgt := 538) C dL_law_53 hc8 (by decide) (by decide) rfl (by decide) ?_
        exact law_clear N C hX hbl hbA h1 hE hL0 J P T hf (by omega) (by omega) kk
      rw [if_neg hc8] at hf
      by_cases hc9 : (xs (nI (2 + 6 * k)).toNatClampNeg) &&& 31 = (9 : Int32)
      · rw [if_pos hc9] at hf
        refine g_tabC (v := (9 : Int32)) (tgt := 561) C dL_law_53 hc9 (by decide) (by decide) rfl (by decide) ?_
        exact law_told N C hX hbl hbA h1 h2 hE hL0 J P T hf (by omega) (by omega) kk
      rw [if_neg hc9] at hf
      by_cases hc10 : (xs (nI (2 + 6 * k)).toNatClampNeg) &&& 31 = (10 : Int32)
      · rw [if_pos hc10] at hf
        refine g_tabC (v := (10 : Int32)) (tgt := 594) C dL_law_53 hc10 (by decide) (by decide) rfl (by decide) ?_
        exact law_acts N C hX hbl hbA h1 h2 h3 hE hL0 J P T hf (by omega) (by omega) kk
      rw [if_neg hc10] at hf
      by_cases hc11 : (xs (nI (2 + 6 * k)).toNatClampNeg) &&& 31 = (11 : Int32)
      · rw [if_pos hc11] at hf
        refine g_tabC (v := (11 : Int32)) (tgt := 637) C dL_law_53 hc11 (by decide) (by decide) rfl (by decide) ?_
        exact law_sum N C hX hbl hbA h1 h2 h3 hE hL0 J P T hf (by omega) (by omega) kk
      rw [if_neg hc11] at hf
      by_cases hc12 : (xs (nI (2 + 6 * k)).toNatClampNeg) &&& 31 = (12 : Int32)
      · rw [if_pos hc12] at hf
        refine g_tabC (v := (12 : Int32)) (tgt := 680) C dL_law_53 hc12 (by decide) (by decide) rfl (by decide) ?_
        exact law_order N C hX hbl hbA h1 h2 hE hL0 J P T hf (by omega) (by omega) kk
      rw [if_neg hc12] at hf
      by_cases hc13 : (xs (nI (2 + 6 * k)).toNatClampNeg) &&& 31 = (13 : Int32)
      · rw [if_pos hc13] at hf
        refine g_tabC (v := (13 : Int32)) (tgt := 713) C dL_law_53 hc13 (by decide) (by decide) rfl (by decide) ?_
        exact law_kernel N C hX hbl hbA h1 h2 h3 hE hL0 J P T hf (by omega) (by omega) kk
      rw [if_neg hc13] at hf
      by_cases hc14 : (xs (nI (2 + 6 * k)).toNatClampNeg) &&& 31 = (14 : Int32)
      · rw [if_pos hc14] at hf
        refine g_tabC (v := (14 : Int32)) (tgt := 756) C dL_law_53 hc14 (by decide) (by decide) rfl (by decide) ?_
        exact law_back N C hX hbl hbA h1 h2 h3 h4 h5 hE hL0 J P T hf (by omega) (by omega) kk
      rw [if_neg hc14] at hf
      by_cases hc15 : (xs (nI (2 + 6 * k)).toNatClampNeg) &&& 31 = (15 : Int32)
      · rw [if_pos hc15] at hf
        refine g_tabC (v := (15 : Int32)) (tgt := 819) C dL_law_53 hc15 (by decide) (by decide) rfl (by decide) ?_
        exact law_alike N C hX hbl hbA h1 h2 hE hL0 J P T hf (by omega) (by omega) kk
      rw [if_neg hc15] at hf
      by_cases hc16 : (xs (nI (2 + 6 * k)).toNatClampNeg) &&& 31 = (16 : Int32)
      · rw [if_pos hc16] at hf
        refine g_tabC (v := (16 : Int32)) (tgt := 852) C dL_law_53 hc16 (by decide) (by decide) rfl (by decide) ?_
        exact law_stays N C hX hbl hbA h1 hE hL0 J P T hf (by omega) (by omega) kk
      rw [if_neg hc16] at hf
      by_cases hc17 : (xs (nI (2 + 6 * k)).toNatClampNeg) &&& 31 = (17 : Int32)
      · rw [if_pos hc17] at hf
        refine g_tabC (v := (17 : Int32)) (tgt := 875) C dL_law_53 hc17 (by decide) (by decide) rfl (by decide) ?_
        exact law_kind N C hX hbl hbA h1 hE hL0 J P T hf (by omega) (by omega) kk
      rw [if_neg hc17] at hf
      by_cases hc18 : (xs (nI (2 + 6 * k)).toNatClampNeg) &&& 31 = (18 : Int32)
      · rw [if_pos hc18] at hf
        refine g_tabC (v := (18 : Int32)) (tgt := 898) C dL_law_53 hc18 (by decide) (by decide) rfl (by decide) ?_
        exact law_is N C hX hbl hbA h1 h2 hE hL0 J P T hf (by omega) (by omega) kk
      rw [if_neg hc18] at hf
      by_cases hc19 : (xs (nI (2 + 6 * k)).toNatClampNeg) &&& 31 = (19 : Int32)
      · rw [if_pos hc19] at hf
        refine g_tabC (v := (19 : Int32)) (tgt := 931) C dL_law_53 hc19 (by decide) (by decide) rfl (by decide) ?_
        exact law_as N C hX hbl hbA h1 h2 hE hL0 J P T hf (by omega) (by omega) kk
      rw [if_neg hc19] at hf
      by_cases hc20 : (xs (nI (2 + 6 * k)).toNatClampNeg) &&& 31 = (20 : Int32)
      · rw [if_pos hc20] at hf
        refine g_tabC (v := (20 : Int32)) (tgt := 964) C dL_law_53 hc20 (by decide) (by decide) rfl (by decide) ?_
        exact law_ask N C hX hbl hbA h1 h2 hE hL0 J P T hf (by omega) (by omega) kk
      rw [if_neg hc20] at hf
      by_cases hc21 : (xs (nI (2 + 6 * k)).toNatClampNeg) &&& 31 = (21 : Int32)
      · rw [if_pos hc21] at hf
        refine g_tabC (v := (21 : Int32)) (tgt := 997) C dL_law_53 hc21 (by decide) (by decide) rfl (by decide) ?_
        exact law_trace N C hX hbl hbA h1 hE hL0 J P T hf (by omega) (by omega) kk
      rw [if_neg hc21] at hf
      by_cases hc22 : (xs (nI (2 + 6 * k)).toNatClampNeg) &&& 31 = (22 : Int32)
      · rw [if_pos hc22] at hf
        refine g_tabC (v := (22 : Int32)) (tgt := 1020) C dL_law_53 hc22 (by decide) (by decide) rfl (by decide) ?_
        exact law_count N C hX hbl hbA h1 hE hL0 J P T hf (by omega) (by omega) kk
      rw [if_neg hc22] at hf
      by_cases hc23 : (xs (nI (2 + 6 * k)).toNatClampNeg) &&& 31 = (23 : Int32)
      · rw [if_pos hc23] at hf
        refine g_tabC (v := (23 : Int32)) (tgt := 1043) C dL_law_53 hc23 (by decide) (by decide) rfl (by decide) ?_
        exact law_status N C hX hbl hbA hE hL0 J P T hf (by omega) (by omega) kk
      rw [if_neg hc23] at hf
      obtain ⟨rfl, rfl, rfl⟩ := gs3 hf
      refine g_tabD (cnt := 24) (tgt := 1056) C dL_law_53 (fun k hk => by have hq : k = 0 ∨ k = 1 ∨ k = 2 ∨ k = 3 ∨ k = 4 ∨ k = 5 ∨ k = 6 ∨ k = 7 ∨ k = 8 ∨ k = 9 ∨ k = 10 ∨ k = 11 ∨ k = 12 ∨ k = 13 ∨ k = 14 ∨ k = 15 ∨ k = 16 ∨ k = 17 ∨ k = 18 ∨ k = 19 ∨ k = 20 ∨ k = 21 ∨ k = 22 ∨ k = 23 := (by omega); rcases hq with rfl | rfl | rfl | rfl | rfl | rfl | rfl | rfl | rfl | rfl | rfl | rfl | rfl | rfl | rfl | rfl | rfl | rfl | rfl | rfl | rfl | rfl | rfl | rfl <;> assumption) (by decide) (by decide) ?_
      exact g_widen (by omega) (by omega) kk
    · refine g_icmp_gt_t (tgt := 1062) C dL_law_44 (by decide) (law_end hL (by omega) hgo) ?_
      refine g_iconst (v := 1) C dL_law_1062 (by decide) ?_
      intro H locs ls hR hS hl
      refine va_forget (fun q hq => by have := hS.2.2 q hq; rw [← hXs]; exact this) ?_
      refine W.widen (k := 600000) (n := 7302250) (by omega) (by omega) ?_
      exact lw_ret C.1 C.2.1 hr hlk dL_law_1063
end GN
