def f_X12_step (N : Nat) (I : gI) (R : gR) (S : gS) (a0 : Int32) (a1 : Int32) : Option (Int32) :=
  ((iter (σ := Int32 × Int32 × Int32) (ρ := Int32) (fun z1 => if a0 < 0 ∨ 10 ≤ a0.toNatClampNeg then none else (if (I 101 a0.toNatClampNeg) < z1.2.2 then some (.inr z1.1) else if (((4 : Int32) * a0) + z1.2.2) < 0 ∨ 40 ≤ (((4 : Int32) * a0) + z1.2.2).toNatClampNeg then none else ((f_X12_times N I R S (I 102 (((4 : Int32) * a0) + z1.2.2).toNatClampNeg) z1.2.1).bind (fun z3 => ((f_X12_add N I R S z1.1 z3).bind (fun z4 => ((f_X12_raise N I R S z1.2.1 ((I 91 2).toInt64)).bind (fun z5 => some (.inl (z4, z5, z1.2.2 + 1)))))))))) N ((0 : Int32), a1, (0 : Int32))).bind (fun r2 => some r2))
set_option maxRecDepth 100000 in
set_option maxHeartbeats 8000000 in
theorem m_X12_step (l : Launch) (X : gX) (N : Nat) (I : gI) (R : gR) (S : gS) (hL : gLay 91 114 R S) (a0 : Int32) (a1 : Int32) (v : Int32) (hf : f_X12_step N I R S a0 a1 = some v) : gM l yX12_step wsX12_step { frames := 1, cells := 0, slots := 0, locals := 26 } X gE0 [.ref (X.1 + 91), .int a0, .int a1] I R S (some (.int v)) I R S 0 0 := by
  unfold f_X12_step at hf
  refine gM_of (cc := cX12_step) (own := RX12) (maxL := 6) (ret := (some .int)) (by decide) rfl rfl (Nat.le_of_ble_eq_true rfl) ?_
  intro p e s m args below meth c C hr hlk hnm hE
  have ho : (some v) ≠ none := fun h => by cases h
  have f70 := C.2.2.2.2.1 (.fieldLink RX12 70 "TimesByPowersModel" "rank" "[I") (by decide +kernel)
  have c11 : gCl wsX12_step 11 RX12 TX12 29 := ⟨by decide, rfl, rfl, by decide +kernel⟩
  have f73 := C.2.2.2.2.1 (.fieldLink RX12 73 "TimesByPowersModel" "t" "[I") (by decide +kernel)
  have f11 := C.2.2.2.2.1 (.fieldLink RX12 11 "TimesByPowersModel" "p" "I") (by decide +kernel)
  refine g_iconst (v := 0) C dX12_step_0 (by decide) ?_
  refine g_istore_n C dX12_step_1 rfl (Nat.le_of_ble_eq_true rfl) rfl rfl ?_
  refine g_iload_n C dX12_step_2 rfl rfl ?_
  refine g_istore C dX12_step_3 (Nat.le_of_ble_eq_true rfl) rfl rfl ?_
  refine g_iconst (v := 0) C dX12_step_5 (by decide) ?_
  refine g_istore C dX12_step_6 (Nat.le_of_ble_eq_true rfl) rfl rfl ?_
  refine g_loop (fun z1 => [(0, .ref (X.1 + 91)), (1, .int a0), (3, .int z1.1), (4, .int z1.2.1), (5, .int z1.2.2)]) (fun z1 => I) (fun r2 => [(3, .int r2)]) (fun r2 => I) 61 hf ho ⟨rfl, rfl, rfl, rfl, rfl, trivial⟩ rfl (fun r2 hf => ?_) (fun z1 o1 hf ho hkz1 hez1 => ?_)
  · refine g_iload_n C dX12_step_61 rfl rfl ?_
    cases hf
    exact g_iret C dX12_step_62 hr hlk
  · refine g_iload C dX12_step_8 rfl ?_
    refine g_aload_n C dX12_step_10 rfl rfl ?_
    refine g_getR (i := 15) (j := 15) C dX12_step_11 (L91 hL (by decide) (by decide)) c11 rfl (by decide) f70 (fun _ h9 => h9) (LR91_15 hL (by decide) (by decide)) ?_
    refine g_iload_n C dX12_step_14 rfl rfl ?_
    refine g_iald C dX12_step_15 (L101 hL (by decide) (by decide)) ho hf (fun hf => ?_)
    refine g_icmp_gt (tgt := 61) C dX12_step_16 (by decide) hf (fun hf => ?_) (fun hf => ?_)
    · exact g_sub ⟨rfl, trivial⟩ (hez1 _ hf.symm)
    · refine g_aload_n C dX12_step_19 rfl rfl ?_
      refine g_iload_n C dX12_step_20 rfl rfl ?_
      refine g_aload_n C dX12_step_21 rfl rfl ?_
      refine g_aload_n C dX12_step_22 rfl rfl ?_
      refine g_getR (i := 16) (j := 16) C dX12_step_23 (L91 hL (by decide) (by decide)) c11 rfl (by decide) f73 (fun _ h9 => h9) (LR91_16 hL (by decide) (by decide)) ?_
      refine g_iconst (v := 4) C dX12_step_26 (by decide) ?_
      refine g_iload_n C dX12_step_27 rfl rfl ?_
      refine g_imul C dX12_step_28 ?_
      refine g_iload C dX12_step_29 rfl ?_
      refine g_iadd C dX12_step_31 ?_
      refine g_iald C dX12_step_32 (L102 hL (by decide) (by decide)) ho hf (fun hf => ?_)
      refine g_iload C dX12_step_33 rfl ?_
      obtain ⟨z3, hz3, hf⟩ := gbind hf ho
      refine g_callV C dX12_step_35 (m_X12_times l X N _ _ _  (gLay.sub hL (by decide) (by decide)) _ _ z3 hz3) gEin0 (cwV 2 C.2.2.2.2.1 gX12_step_X12_times rfl rfl rfl (by decide +kernel) ⟨Nat.le_of_ble_eq_true rfl, Nat.le_of_ble_eq_true rfl⟩) (L91 hL (by decide) (by decide)) (by decide) rfl rfl rfl (Nat.le_of_ble_eq_true rfl) ⟨Nat.le_of_ble_eq_true rfl, Nat.le_of_ble_eq_true rfl⟩ ?_
      obtain ⟨z4, hz4, hf⟩ := gbind hf ho
      refine g_callV C dX12_step_38 (m_X12_add l X N _ _ _  (gLay.sub hL (by decide) (by decide)) _ _ z4 hz4) gEin0 (cwV 2 C.2.2.2.2.1 gX12_step_X12_add rfl rfl rfl (by decide +kernel) ⟨Nat.le_of_ble_eq_true rfl, Nat.le_of_ble_eq_true rfl⟩) (L91 hL (by decide) (by decide)) (by decide) rfl rfl rfl (Nat.le_of_ble_eq_true rfl) ⟨Nat.le_of_ble_eq_true rfl, Nat.le_of_ble_eq_true rfl⟩ ?_
      refine g_istore_n C dX12_step_41 rfl (Nat.le_of_ble_eq_true rfl) rfl rfl ?_
      refine g_aload_n C dX12_step_42 rfl rfl ?_
      refine g_iload C dX12_step_43 rfl ?_
      refine g_aload_n C dX12_step_45 rfl rfl ?_
      refine g_getI (i := 2) (j := 2) C dX12_step_46 (L91 hL (by decide) (by decide)) c11 rfl f11 (fun _ h9 => h9) ?_
      refine g_i2l C dX12_step_49 ?_
      obtain ⟨z5, hz5, hf⟩ := gbind hf ho
      refine g_callV C dX12_step_50 (m_X12_raise l X N _ _ _  (gLay.sub hL (by decide) (by decide)) _ _ z5 hz5) gEin0 (cwV 2 C.2.2.2.2.1 gX12_step_X12_raise rfl rfl rfl (by decide +kernel) ⟨Nat.le_of_ble_eq_true rfl, Nat.le_of_ble_eq_true rfl⟩) (L91 hL (by decide) (by decide)) (by decide) rfl rfl rfl (Nat.le_of_ble_eq_true rfl) ⟨Nat.le_of_ble_eq_true rfl, Nat.le_of_ble_eq_true rfl⟩ ?_
      refine g_istore C dX12_step_53 (Nat.le_of_ble_eq_true rfl) rfl rfl ?_
      refine g_iinc (d := 1) C dX12_step_55 rfl (by decide) rfl (Nat.le_of_ble_eq_true rfl) rfl rfl ?_
      refine g_goto (tgt := 8) C dX12_step_58 (by decide) ?_
      exact g_sub ⟨rfl, rfl, rfl, rfl, rfl, trivial⟩ (hkz1 _ hf.symm)
def f_X12_degreeOfOwn (N : Nat) (I : gI) (R : gR) (S : gS) (a0 : Int32) : Option (Int32) :=
  if ((4 : Int32) * a0) < 0 ∨ 40 ≤ ((4 : Int32) * a0).toNatClampNeg then none else ((f_X12_raise N I R S (I 102 ((4 : Int32) * a0).toNatClampNeg) ((I 91 2).toInt64)).bind (fun z1 => ((iter (σ := Int32 × Int32) (ρ := Int32) (fun z2 => if ((4 : Int32) * a0) < 0 ∨ 40 ≤ ((4 : Int32) * a0).toNatClampNeg then none else (if z2.2 = (I 102 ((4 : Int32) * a0).toNatClampNeg) then some (.inr z2.1) else ((f_X12_raise N I R S z2.2 ((I 91 2).toInt64)).bind (fun z4 => some (.inl (z2.1 + 1, z4)))))) N ((1 : Int32), z1)).bind (fun r3 => some r3))))
set_option maxRecDepth 100000 in
set_option maxHeartbeats 8000000 in
theorem m_X12_degreeOfOwn (l : Launch) (X : gX) (N : Nat) (I : gI) (R : gR) (S : gS) (hL : gLay 91 114 R S) (a0 : Int32) (v : Int32) (hf : f_X12_degreeOfOwn N I R S a0 = some v) : gM l yX12_degreeOfOwn wsX12_degreeOfOwn { frames := 1, cells := 0, slots := 0, locals := 23 } X gE0 [.ref (X.1 + 91), .int a0] I R S (some (.int v)) I R S 0 0 := by
  unfold f_X12_degreeOfOwn at hf
  refine gM_of (cc := cX12_degreeOfOwn) (own := RX12) (maxL := 4) (ret := (some .int)) (by decide) rfl rfl (Nat.le_of_ble_eq_true rfl) ?_
  intro p e s m args below meth c C hr hlk hnm hE
  have ho : (some v) ≠ none := fun h => by cases h
  have f73 := C.2.2.2.2.1 (.fieldLink RX12 73 "TimesByPowersModel" "t" "[I") (by decide +kernel)
  have c11 : gCl wsX12_degreeOfOwn 11 RX12 TX12 29 := ⟨by decide, rfl, rfl, by decide +kernel⟩
  have f11 := C.2.2.2.2.1 (.fieldLink RX12 11 "TimesByPowersModel" "p" "I") (by decide +kernel)
  refine g_iconst (v := 1) C dX12_degreeOfOwn_0 (by decide) ?_
  refine g_istore_n C dX12_degreeOfOwn_1 rfl (Nat.le_of_ble_eq_true rfl) rfl rfl ?_
  refine g_aload_n C dX12_degreeOfOwn_2 rfl rfl ?_
  refine g_aload_n C dX12_degreeOfOwn_3 rfl rfl ?_
  refine g_getR (i := 16) (j := 16) C dX12_degreeOfOwn_4 (L91 hL (by decide) (by decide)) c11 rfl (by decide) f73 (fun _ h9 => h9) (LR91_16 hL (by decide) (by decide)) ?_
  refine g_iconst (v := 4) C dX12_degreeOfOwn_7 (by decide) ?_
  refine g_iload_n C dX12_degreeOfOwn_8 rfl rfl ?_
  refine g_imul C dX12_degreeOfOwn_9 ?_
  refine g_iald C dX12_degreeOfOwn_10 (L102 hL (by decide) (by decide)) ho hf (fun hf => ?_)
  refine g_aload_n C dX12_degreeOfOwn_11 rfl rfl ?_
  refine g_getI (i := 2) (j := 2) C dX12_degreeOfOwn_12 (L91 hL (by decide) (by decide)) c11 rfl f11 (fun _ h9 => h9) ?_
  refine g_i2l C dX12_degreeOfOwn_15 ?_
  obtain ⟨z1, hz1, hf⟩ := gbind hf ho
  refine g_callV C dX12_degreeOfOwn_16 (m_X12_raise l X N _ _ _  (gLay.sub hL (by decide) (by decide)) _ _ z1 hz1) gEin0 (cwV 2 C.2.2.2.2.1 gX12_degreeOfOwn_X12_raise rfl rfl rfl (by decide +kernel) ⟨Nat.le_of_ble_eq_true rfl, Nat.le_of_ble_eq_true rfl⟩) (L91 hL (by decide) (by decide)) (by decide) rfl rfl rfl (Nat.le_of_ble_eq_true rfl) ⟨Nat.le_of_ble_eq_true rfl, Nat.le_of_ble_eq_true rfl⟩ ?_
  refine g_istore_n C dX12_degreeOfOwn_19 rfl (Nat.le_of_ble_eq_true rfl) rfl rfl ?_
  refine g_loop (fun z2 => [(0, .ref (X.1 + 91)), (1, .int a0), (2, .int z2.1), (3, .int z2.2)]) (fun z2 => I) (fun r3 => [(2, .int r3)]) (fun r3 => I) 49 hf ho ⟨rfl, rfl, rfl, rfl, trivial⟩ rfl (fun r3 hf => ?_) (fun z2 o1 hf ho hkz2 hez2 => ?_)
  · refine g_iload_n C dX12_degreeOfOwn_49 rfl rfl ?_
    cases hf
    exact g_iret C dX12_degreeOfOwn_50 hr hlk
  · refine g_iload_n C dX12_degreeOfOwn_20 rfl rfl ?_
    refine g_aload_n C dX12_degreeOfOwn_21 rfl rfl ?_
    refine g_getR (i := 16) (j := 16) C dX12_degreeOfOwn_22 (L91 hL (by decide) (by decide)) c11 rfl (by decide) f73 (fun _ h9 => h9) (LR91_16 hL (by decide) (by decide)) ?_
    refine g_iconst (v := 4) C dX12_degreeOfOwn_25 (by decide) ?_
    refine g_iload_n C dX12_degreeOfOwn_26 rfl rfl ?_
    refine g_imul C dX12_degreeOfOwn_27 ?_
    refine g_iald C dX12_degreeOfOwn_28 (L102 hL (by decide) (by decide)) ho hf (fun hf => ?_)
    refine g_icmp_eq (tgt := 49) C dX12_degreeOfOwn_29 (by decide) hf (fun hf => ?_) (fun hf => ?_)
    · exact g_sub ⟨rfl, trivial⟩ (hez2 _ hf.symm)
    · refine g_aload_n C dX12_degreeOfOwn_32 rfl rfl ?_
      refine g_iload_n C dX12_degreeOfOwn_33 rfl rfl ?_
      refine g_aload_n C dX12_degreeOfOwn_34 rfl rfl ?_
      refine g_getI (i := 2) (j := 2) C dX12_degreeOfOwn_35 (L91 hL (by decide) (by decide)) c11 rfl f11 (fun _ h9 => h9) ?_
      refine g_i2l C dX12_degreeOfOwn_38 ?_
      obtain ⟨z4, hz4, hf⟩ := gbind hf ho
      refine g_callV C dX12_degreeOfOwn_39 (m_X12_raise l X N _ _ _  (gLay.sub hL (by decide) (by decide)) _ _ z4 hz4) gEin0 (cwV 2 C.2.2.2.2.1 gX12_degreeOfOwn_X12_raise rfl rfl rfl (by decide +kernel) ⟨Nat.le_of_ble_eq_true rfl, Nat.le_of_ble_eq_true rfl⟩) (L91 hL (by decide) (by decide)) (by decide) rfl rfl rfl (Nat.le_of_ble_eq_true rfl) ⟨Nat.le_of_ble_eq_true rfl, Nat.le_of_ble_eq_true rfl⟩ ?_
      refine g_istore_n C dX12_degreeOfOwn_42 rfl (Nat.le_of_ble_eq_true rfl) rfl rfl ?_
      refine g_iinc (d := 1) C dX12_degreeOfOwn_43 rfl (by decide) rfl (Nat.le_of_ble_eq_true rfl) rfl rfl ?_
      refine g_goto (tgt := 20) C dX12_degreeOfOwn_46 (by decide) ?_
      exact g_sub ⟨rfl, rfl, rfl, rfl, trivial⟩ (hkz2 _ hf.symm)
def f_X12_ownOf (N : Nat) (I : gI) (R : gR) (S : gS) (a0 : Int32) : Option (Int32 × gI) :=
  ((f_X12_degreeOfOwn N I R S a0).bind (fun z1 => ((iter (σ := Int32 × gI) (ρ := gI) (fun z2 => (if (8 : Int32) ≤ z2.1 then some (.inr z2.2) else (if z2.1 = 0 then if z2.1 < 0 ∨ 8 ≤ z2.1.toNatClampNeg then none else some (.inl (z2.1 + 1, gU z2.2 106 z2.1.toNatClampNeg (1 : Int32))) else if z2.1 < 0 ∨ 8 ≤ z2.1.toNatClampNeg then none else some (.inl (z2.1 + 1, gU z2.2 106 z2.1.toNatClampNeg (0 : Int32)))))) N ((0 : Int32), I)).bind (fun r3 => ((iter (σ := Int32 × gI) (ρ := gI) (fun z4 => (if z1 ≤ z4.1 then some (.inr z4.2) else if ((4 : Int32) * a0) < 0 ∨ 40 ≤ ((4 : Int32) * a0).toNatClampNeg then none else ((f_X12_far N z4.2 R S (z4.2 102 ((4 : Int32) * a0).toNatClampNeg) z4.1).bind (fun z6 => ((iter (σ := Int32 × gI) (ρ := gI) (fun z7 => (if z7.1 < 0 then some (.inr z7.2) else (((if z7.1 = 0 then some (0 : Int32) else if (z7.1 - (1 : Int32)) < 0 ∨ 8 ≤ (z7.1 - (1 : Int32)).toNatClampNeg then none else some (z7.2 106 (z7.1 - (1 : Int32)).toNatClampNeg)) : Option (Int32)).bind (fun z9 => if z7.1 < 0 ∨ 8 ≤ z7.1.toNatClampNeg then none else ((f_X12_times N z7.2 R S z6 (z7.2 106 z7.1.toNatClampNeg)).bind (fun z10 => ((f_X12_less N z7.2 R S z9 z10).bind (fun z11 => if z7.1 < 0 ∨ 8 ≤ z7.1.toNatClampNeg then none else some (.inl (z7.1 + (-1), gU z7.2 106 z7.1.toNatClampNeg z11)))))))))) N ((7 : Int32), z4.2)).bind (fun r8 => some (.inl (z4.1 + 1, r8)))))))) N ((0 : Int32), r3)).bind (fun r5 => ((f_X12_codeOf N r5 R S 106 (z1 + (1 : Int32))).bind (fun z12 => some (z12, r5)))))))))
set_option maxRecDepth 100000 in
set_option maxHeartbeats 8000000 in
theorem m_X12_ownOf (l : Launch) (X : gX) (N : Nat) (I : gI) (R : gR) (S : gS) (hL : gLay 91 114 R S) (a0 : Int32) (v : Int32) (J : gI) (hf : f_X12_ownOf N I R S a0 = some (v, J)) : gM l yX12_ownOf wsX12_ownOf { frames := 2, cells := 0, slots := 0, locals := 48 } X gE0 [.ref (X.1 + 91), .int a0] I R S (some (.int v)) J R S 0 0 := by
  unfold f_X12_ownOf at hf
  refine gM_of (cc := cX12_ownOf) (own := RX12) (maxL := 6) (ret := (some .int)) (by decide) rfl rfl (Nat.le_of_ble_eq_true rfl) ?_
  intro p e s m args below meth c C hr hlk hnm hE
  have ho : (some (v, J)) ≠ none := fun h => by cases h
  have f85 := C.2.2.2.2.1 (.fieldLink RX12 85 "TimesByPowersModel" "poly" "[I") (by decide +kernel)
  have c11 : gCl wsX12_ownOf 11 RX12 TX12 29 := ⟨by decide, rfl, rfl, by decide +kernel⟩
  have f73 := C.2.2.2.2.1 (.fieldLink RX12 73 "TimesByPowersModel" "t" "[I") (by decide +kernel)
  refine g_aload_n C dX12_ownOf_0 rfl rfl ?_
  refine g_iload_n C dX12_ownOf_1 rfl rfl ?_
  obtain ⟨z1, hz1, hf⟩ := gbind hf ho
  refine g_callV C dX12_ownOf_2 (m_X12_degreeOfOwn l X N _ _ _  (gLay.sub hL (by decide) (by decide)) _ z1 hz1) gEin0 (cwV 1 C.2.2.2.2.1 gX12_ownOf_X12_degreeOfOwn rfl rfl rfl (by decide +kernel) ⟨Nat.le_of_ble_eq_true rfl, Nat.le_of_ble_eq_true rfl⟩) (L91 hL (by decide) (by decide)) (by decide) rfl rfl rfl (Nat.le_of_ble_eq_true rfl) ⟨Nat.le_of_ble_eq_true rfl, Nat.le_of_ble_eq_true rfl⟩ ?_
  refine g_istore_n C dX12_ownOf_5 rfl (Nat.le_of_ble_eq_true rfl) rfl rfl ?_
  refine g_iconst (v := 0) C dX12_ownOf_6 (by decide) ?_
  refine g_istore_n C dX12_ownOf_7 rfl (Nat.le_of_ble_eq_true rfl) rfl rfl ?_
  refine g_loop (fun z2 => [(0, .ref (X.1 + 91)), (1, .int a0), (2, .int z1), (3, .int z2.1)]) (fun z2 => z2.2) (fun r3 => [(0, .ref (X.1 + 91)), (1, .int a0), (2, .int z1)]) (fun r3 => r3) 35 hf ho ⟨rfl, rfl, rfl, rfl, trivial⟩ rfl (fun r3 hf => ?_) (fun z2 o1 hf ho hkz2 hez2 => ?_)
  · refine g_iconst (v := 0) C dX12_ownOf_35 (by decide) ?_
    refine g_istore_n C dX12_ownOf_36 rfl (Nat.le_of_ble_eq_true rfl) rfl rfl ?_
    refine g_loop (fun z4 => [(0, .ref (X.1 + 91)), (1, .int a0), (2, .int z1), (3, .int z4.1)]) (fun z4 => z4.2) (fun r5 => [(0, .ref (X.1 + 91)), (2, .int z1)]) (fun r5 => r5) 120 hf ho ⟨rfl, rfl, rfl, rfl, trivial⟩ rfl (fun r5 hf => ?_) (fun z4 o1 hf ho hkz4 hez4 => ?_)
    · refine g_aload_n C dX12_ownOf_120 rfl rfl ?_
      refine g_aload_n C dX12_ownOf_121 rfl rfl ?_
      refine g_getR (i := 20) (j := 20) C dX12_ownOf_122 (L91 hL (by decide) (by decide)) c11 rfl (by decide) f85 (fun _ h9 => h9) (LR91_20 hL (by decide) (by decide)) ?_
      refine g_iload_n C dX12_ownOf_125 rfl rfl ?_
      refine g_iconst (v := 1) C dX12_ownOf_126 (by decide) ?_
      refine g_iadd C dX12_ownOf_127 ?_
      obtain ⟨z12, hz12, hf⟩ := gbind hf ho
      refine g_callV C dX12_ownOf_128 (m_X12_codeOf l X N _ _ _  (gLay.sub hL (by decide) (by decide)) _ _ z12 hz12) gEin0 (cwV 2 C.2.2.2.2.1 gX12_ownOf_X12_codeOf rfl rfl rfl (by decide +kernel) ⟨Nat.le_of_ble_eq_true rfl, Nat.le_of_ble_eq_true rfl⟩) (L91 hL (by decide) (by decide)) (by decide) rfl rfl rfl (Nat.le_of_ble_eq_true rfl) ⟨Nat.le_of_ble_eq_true rfl, Nat.le_of_ble_eq_true rfl⟩ ?_
      cases hf
      exact g_iret C dX12_ownOf_131 hr hlk
    · refine g_iload_n C dX12_ownOf_37 rfl rfl ?_
      refine g_iload_n C dX12_ownOf_38 rfl rfl ?_
      refine g_icmp_ge (tgt := 120) C dX12_ownOf_39 (by decide) hf (fun hf => ?_) (fun hf => ?_)
      · exact g_sub ⟨rfl, rfl, trivial⟩ (hez4 _ hf.symm)
      · refine g_aload_n C dX12_ownOf_42 rfl rfl ?_
        refine g_aload_n C dX12_ownOf_43 rfl rfl ?_
        refine g_getR (i := 16) (j := 16) C dX12_ownOf_44 (L91 hL (by decide) (by decide)) c11 rfl (by decide) f73 (fun _ h9 => h9) (LR91_16 hL (by decide) (by decide)) ?_
        refine g_iconst (v := 4) C dX12_ownOf_47 (by decide) ?_
        refine g_iload_n C dX12_ownOf_48 rfl rfl ?_
        refine g_imul C dX12_ownOf_49 ?_
        refine g_iald C dX12_ownOf_50 (L102 hL (by decide) (by decide)) ho hf (fun hf => ?_)
        refine g_iload_n C dX12_ownOf_51 rfl rfl ?_
        obtain ⟨z6, hz6, hf⟩ := gbind hf ho
        refine g_callV C dX12_ownOf_52 (m_X12_far l X N _ _ _  (gLay.sub hL (by decide) (by decide)) _ _ z6 hz6) gEin0 (cwV 2 C.2.2.2.2.1 gX12_ownOf_X12_far rfl rfl rfl (by decide +kernel) ⟨Nat.le_of_ble_eq_true rfl, Nat.le_of_ble_eq_true rfl⟩) (L91 hL (by decide) (by decide)) (by decide) rfl rfl rfl (Nat.le_of_ble_eq_true rfl) ⟨Nat.le_of_ble_eq_true rfl, Nat.le_of_ble_eq_true rfl⟩ ?_
        refine g_istore C dX12_ownOf_55 (Nat.le_of_ble_eq_true rfl) rfl rfl ?_
        refine g_bipush (v := 7) C dX12_ownOf_57 (by decide) ?_
        refine g_istore C dX12_ownOf_59 (Nat.le_of_ble_eq_true rfl) rfl rfl ?_
        refine g_loop (fun z7 => [(0, .ref (X.1 + 91)), (1, .int a0), (2, .int z1), (3, .int z4.1), (4, .int z6), (5, .int z7.1)]) (fun z7 => z7.2) (fun r8 => [(0, .ref (X.1 + 91)), (1, .int a0), (2, .int z1), (3, .int z4.1)]) (fun r8 => r8) 114 hf ho ⟨rfl, rfl, rfl, rfl, rfl, rfl, trivial⟩ rfl (fun r8 hf => ?_) (fun z7 o1 hf ho hkz7 hez7 => ?_)
        · refine g_iinc (d := 1) C dX12_ownOf_114 rfl (by decide) rfl (Nat.le_of_ble_eq_true rfl) rfl rfl ?_
          refine g_goto (tgt := 37) C dX12_ownOf_117 (by decide) ?_
          exact g_sub ⟨rfl, rfl, rfl, rfl, trivial⟩ (hkz4 _ hf.symm)
        · refine g_iload C dX12_ownOf_61 rfl ?_
          refine g_if_lt (tgt := 114) C dX12_ownOf_63 (by decide) hf (fun hf => ?_) (fun hf => ?_)
          · exact g_sub ⟨rfl, rfl, rfl, rfl, trivial⟩ (hez7 _ hf.symm)
          · refine g_aload_n C dX12_ownOf_66 rfl rfl ?_
            refine g_getR (i := 20) (j := 20) C dX12_ownOf_67 (L91 hL (by decide) (by decide)) c11 rfl (by decide) f85 (fun _ h9 => h9) (LR91_20 hL (by decide) (by decide)) ?_
            refine g_iload C dX12_ownOf_70 rfl ?_
            refine g_aload_n C dX12_ownOf_72 rfl rfl ?_
            refine g_iload C dX12_ownOf_73 rfl ?_
            refine g_join (fun z9 => [(0, .ref (X.1 + 91)), (1, .int a0), (2, .int z1), (3, .int z4.1), (4, .int z6), (5, .int z7.1)]) (fun z9 => [.int z9, .ref (X.1 + 91), .int z7.1, .ref (X.1 + 106)]) (fun z9 => z7.2) 91 hf ho (fun z9 hf => ?_) (fun o1 hf ho hkz9 => ?_)
            · refine g_aload_n C dX12_ownOf_91 rfl rfl ?_
              refine g_iload C dX12_ownOf_92 rfl ?_
              refine g_aload_n C dX12_ownOf_94 rfl rfl ?_
              refine g_getR (i := 20) (j := 20) C dX12_ownOf_95 (L91 hL (by decide) (by decide)) c11 rfl (by decide) f85 (fun _ h9 => h9) (LR91_20 hL (by decide) (by decide)) ?_
              refine g_iload C dX12_ownOf_98 rfl ?_
              refine g_iald C dX12_ownOf_100 (L106 hL (by decide) (by decide)) ho hf (fun hf => ?_)
              obtain ⟨z10, hz10, hf⟩ := gbind hf ho
              refine g_callV C dX12_ownOf_101 (m_X12_times l X N _ _ _  (gLay.sub hL (by decide) (by decide)) _ _ z10 hz10) gEin0 (cwV 2 C.2.2.2.2.1 gX12_ownOf_X12_times rfl rfl rfl (by decide +kernel) ⟨Nat.le_of_ble_eq_true rfl, Nat.le_of_ble_eq_true rfl⟩) (L91 hL (by decide) (by decide)) (by decide) rfl rfl rfl (Nat.le_of_ble_eq_true rfl) ⟨Nat.le_of_ble_eq_true rfl, Nat.le_of_ble_eq_true rfl⟩ ?_
              obtain ⟨z11, hz11, hf⟩ := gbind hf ho
              refine g_callV C dX12_ownOf_104 (m_X12_less l X N _ _ _  (gLay.sub hL (by decide) (by decide)) _ _ z11 hz11) gEin0 (cwV 2 C.2.2.2.2.1 gX12_ownOf_X12_less rfl rfl rfl (by decide +kernel) ⟨Nat.le_of_ble_eq_true rfl, Nat.le_of_ble_eq_true rfl⟩) (L91 hL (by decide) (by decide)) (by decide) rfl rfl rfl (Nat.le_of_ble_eq_true rfl) ⟨Nat.le_of_ble_eq_true rfl, Nat.le_of_ble_eq_true rfl⟩ ?_
              refine g_iast C dX12_ownOf_107 (L106 hL (by decide) (by decide)) ho hf (fun hf => ?_)
              refine g_iinc (d := -1) C dX12_ownOf_108 rfl (by decide) rfl (Nat.le_of_ble_eq_true rfl) rfl rfl ?_
              refine g_goto (tgt := 61) C dX12_ownOf_111 (by decide) ?_
              exact g_sub ⟨rfl, rfl, rfl, rfl, rfl, rfl, trivial⟩ (hkz7 _ hf.symm)
            · refine g_if_ne (tgt := 82) C dX12_ownOf_75 (by decide) hf (fun hf => ?_) (fun hf => ?_)
              · refine g_aload_n C dX12_ownOf_82 rfl rfl ?_
                refine g_getR (i := 20) (j := 20) C dX12_ownOf_83 (L91 hL (by decide) (by decide)) c11 rfl (by decide) f85 (fun _ h9 => h9) (LR91_20 hL (by decide) (by decide)) ?_
                refine g_iload C dX12_ownOf_86 rfl ?_
                refine g_iconst (v := 1) C dX12_ownOf_88 (by decide) ?_
                refine g_isub C dX12_ownOf_89 ?_
                refine g_iald C dX12_ownOf_90 (L106 hL (by decide) (by decide)) ho hf (fun hf => ?_)
                exact g_sub ⟨rfl, rfl, rfl, rfl, rfl, rfl, trivial⟩ (hkz9 _ hf.symm)
              · refine g_iconst (v := 0) C dX12_ownOf_78 (by decide) ?_
                refine g_goto (tgt := 91) C dX12_ownOf_79 (by decide) ?_
                exact g_sub ⟨rfl, rfl, rfl, rfl, rfl, rfl, trivial⟩ (hkz9 _ hf.symm)
  · refine g_iload_n C dX12_ownOf_8 rfl rfl ?_
    refine g_bipush (v := 8) C dX12_ownOf_9 (by decide) ?_
    refine g_icmp_ge (tgt := 35) C dX12_ownOf_11 (by decide) hf (fun hf => ?_) (fun hf => ?_)
    · exact g_sub ⟨rfl, rfl, rfl, trivial⟩ (hez2 _ hf.symm)
    · refine g_aload_n C dX12_ownOf_14 rfl rfl ?_
      refine g_getR (i := 20) (j := 20) C dX12_ownOf_15 (L91 hL (by decide) (by decide)) c11 rfl (by decide) f85 (fun _ h9 => h9) (LR91_20 hL (by decide) (by decide)) ?_
      refine g_iload_n C dX12_ownOf_18 rfl rfl ?_
      refine g_iload_n C dX12_ownOf_19 rfl rfl ?_
      refine g_if_ne (tgt := 27) C dX12_ownOf_20 (by decide) hf (fun hf => ?_) (fun hf => ?_)
      · refine g_iconst (v := 0) C dX12_ownOf_27 (by decide) ?_
        refine g_iast C dX12_ownOf_28 (L106 hL (by decide) (by decide)) ho hf (fun hf => ?_)
        refine g_iinc (d := 1) C dX12_ownOf_29 rfl (by decide) rfl (Nat.le_of_ble_eq_true rfl) rfl rfl ?_
        refine g_goto (tgt := 8) C dX12_ownOf_32 (by decide) ?_
        exact g_sub ⟨rfl, rfl, rfl, rfl, trivial⟩ (hkz2 _ hf.symm)
      · refine g_iconst (v := 1) C dX12_ownOf_23 (by decide) ?_
        refine g_goto (tgt := 28) C dX12_ownOf_24 (by decide) ?_
        refine g_iast C dX12_ownOf_28 (L106 hL (by decide) (by decide)) ho hf (fun hf => ?_)
        refine g_iinc (d := 1) C dX12_ownOf_29 rfl (by decide) rfl (Nat.le_of_ble_eq_true rfl) rfl rfl ?_
        refine g_goto (tgt := 8) C dX12_ownOf_32 (by decide) ?_
        exact g_sub ⟨rfl, rfl, rfl, rfl, trivial⟩ (hkz2 _ hf.symm)
def f_X12_heightOf (N : Nat) (I : gI) (R : gR) (S : gS) (a0 : Int32) : Option (Int32 × gI) :=
  ((f_X12_ownOf N I R S a0).bind (fun z1 => ((f_X12_act N z1.2 R S a0 z1.1).bind (fun z2 => ((iter (σ := Int32) (ρ := Int32) (fun z3 => if z3 < 0 ∨ 24 ≤ z3.toNatClampNeg then none else (if (z2 103 z3.toNatClampNeg) = 0 then some (.inl (z3 + 1)) else some (.inr z3))) N (0 : Int32)).bind (fun r4 => ((f_X12_degreeOfOwn N z2 R S a0).bind (fun z5 => if z5 = 0 then none else some (r4 / z5, z2)))))))))
set_option maxRecDepth 100000 in
set_option maxHeartbeats 8000000 in
theorem m_X12_heightOf (l : Launch) (X : gX) (N : Nat) (I : gI) (R : gR) (S : gS) (hL : gLay 91 114 R S) (a0 : Int32) (v : Int32) (J : gI) (hf : f_X12_heightOf N I R S a0 = some (v, J)) : gM l yX12_heightOf wsX12_heightOf { frames := 3, cells := 0, slots := 0, locals := 73 } X gE0 [.ref (X.1 + 91), .int a0] I R S (some (.int v)) J R S 0 0 := by
  unfold f_X12_heightOf at hf
  refine gM_of (cc := cX12_heightOf) (own := RX12) (maxL := 3) (ret := (some .int)) (by decide) rfl rfl (Nat.le_of_ble_eq_true rfl) ?_
  intro p e s m args below meth c C hr hlk hnm hE
  have ho : (some (v, J)) ≠ none := fun h => by cases h
  have f76 := C.2.2.2.2.1 (.fieldLink RX12 76 "TimesByPowersModel" "made" "[I") (by decide +kernel)
  have c11 : gCl wsX12_heightOf 11 RX12 TX12 29 := ⟨by decide, rfl, rfl, by decide +kernel⟩
  refine g_aload_n C dX12_heightOf_0 rfl rfl ?_
  refine g_iload_n C dX12_heightOf_1 rfl rfl ?_
  refine g_aload_n C dX12_heightOf_2 rfl rfl ?_
  refine g_iload_n C dX12_heightOf_3 rfl rfl ?_
  obtain ⟨z1, hz1, hf⟩ := gbind hf ho
  refine g_callV C dX12_heightOf_4 (m_X12_ownOf l X N _ _ _  (gLay.sub hL (by decide) (by decide)) _ z1.1 z1.2 hz1) gEin0 (cwV 1 C.2.2.2.2.1 gX12_heightOf_X12_ownOf rfl rfl rfl (by decide +kernel) ⟨Nat.le_of_ble_eq_true rfl, Nat.le_of_ble_eq_true rfl⟩) (L91 hL (by decide) (by decide)) (by decide) rfl rfl rfl (Nat.le_of_ble_eq_true rfl) ⟨Nat.le_of_ble_eq_true rfl, Nat.le_of_ble_eq_true rfl⟩ ?_
  obtain ⟨z2, hz2, hf⟩ := gbind hf ho
  refine g_callV C dX12_heightOf_7 (m_X12_act l X N _ _ _  (gLay.sub hL (by decide) (by decide)) _ _ z2 hz2) gEin0 (cwV 2 C.2.2.2.2.1 gX12_heightOf_X12_act rfl rfl rfl (by decide +kernel) ⟨Nat.le_of_ble_eq_true rfl, Nat.le_of_ble_eq_true rfl⟩) (L91 hL (by decide) (by decide)) (by decide) rfl rfl rfl (Nat.le_of_ble_eq_true rfl) ⟨Nat.le_of_ble_eq_true rfl, Nat.le_of_ble_eq_true rfl⟩ ?_
  refine g_iconst (v := 0) C dX12_heightOf_10 (by decide) ?_
  refine g_istore_n C dX12_heightOf_11 rfl (Nat.le_of_ble_eq_true rfl) rfl rfl ?_
  refine g_loop (fun z3 => [(0, .ref (X.1 + 91)), (1, .int a0), (2, .int z3)]) (fun z3 => z2) (fun r4 => [(0, .ref (X.1 + 91)), (1, .int a0), (2, .int r4)]) (fun r4 => z2) 27 hf ho ⟨rfl, rfl, rfl, trivial⟩ rfl (fun r4 hf => ?_) (fun z3 o1 hf ho hkz3 hez3 => ?_)
  · refine g_iload_n C dX12_heightOf_27 rfl rfl ?_
    refine g_aload_n C dX12_heightOf_28 rfl rfl ?_
    refine g_iload_n C dX12_heightOf_29 rfl rfl ?_
    obtain ⟨z5, hz5, hf⟩ := gbind hf ho
    refine g_callV C dX12_heightOf_30 (m_X12_degreeOfOwn l X N _ _ _  (gLay.sub hL (by decide) (by decide)) _ z5 hz5) gEin0 (cwV 1 C.2.2.2.2.1 gX12_heightOf_X12_degreeOfOwn rfl rfl rfl (by decide +kernel) ⟨Nat.le_of_ble_eq_true rfl, Nat.le_of_ble_eq_true rfl⟩) (L91 hL (by decide) (by decide)) (by decide) rfl rfl rfl (Nat.le_of_ble_eq_true rfl) ⟨Nat.le_of_ble_eq_true rfl, Nat.le_of_ble_eq_true rfl⟩ ?_
    refine g_idiv C dX12_heightOf_33 ho hf (fun hf => ?_)
    cases hf
    exact g_iret C dX12_heightOf_34 hr hlk
  · refine g_aload_n C dX12_heightOf_12 rfl rfl ?_
    refine g_getR (i := 17) (j := 17) C dX12_heightOf_13 (L91 hL (by decide) (by decide)) c11 rfl (by decide) f76 (fun _ h9 => h9) (LR91_17 hL (by decide) (by decide)) ?_
    refine g_iload_n C dX12_heightOf_16 rfl rfl ?_
    refine g_iald C dX12_heightOf_17 (L103 hL (by decide) (by decide)) ho hf (fun hf => ?_)
    refine g_if_ne (tgt := 27) C dX12_heightOf_18 (by decide) hf (fun hf => ?_) (fun hf => ?_)
    · exact g_sub ⟨rfl, rfl, rfl, trivial⟩ (hez3 _ hf.symm)
    · refine g_iinc (d := 1) C dX12_heightOf_21 rfl (by decide) rfl (Nat.le_of_ble_eq_true rfl) rfl rfl ?_
      refine g_goto (tgt := 12) C dX12_heightOf_24 (by decide) ?_
      exact g_sub ⟨rfl, rfl, rfl, trivial⟩ (hkz3 _ hf.symm)
def f_X12_kindOf (N : Nat) (I : gI) (R : gR) (S : gS) (a0 : Int32) : Option (Int32 × gI) :=
  if a0 < 0 ∨ 10 ≤ a0.toNatClampNeg then none else (if (I 101 a0.toNatClampNeg) = (1 : Int32) then some ((1 : Int32), I) else if a0 < 0 ∨ 10 ≤ a0.toNatClampNeg then none else (if (I 101 a0.toNatClampNeg) = (3 : Int32) then some ((4 : Int32), I) else ((f_X12_heightOf N I R S a0).bind (fun z1 => (if z1.1 = (2 : Int32) then some ((3 : Int32), z1.2) else some ((2 : Int32), z1.2))))))
set_option maxRecDepth 100000 in
set_option maxHeartbeats 8000000 in
theorem m_X12_kindOf (l : Launch) (X : gX) (N : Nat) (I : gI) (R : gR) (S : gS) (hL : gLay 91 114 R S) (a0 : Int32) (v : Int32) (J : gI) (hf : f_X12_kindOf N I R S a0 = some (v, J)) : gM l yX12_kindOf wsX12_kindOf { frames := 4, cells := 0, slots := 0, locals := 95 } X gE0 [.ref (X.1 + 91), .int a0] I R S (some (.int v)) J R S 0 0 := by
  unfold f_X12_kindOf at hf
  refine gM_of (cc := cX12_kindOf) (own := RX12) (maxL := 2) (ret := (some .int)) (by decide) rfl rfl (Nat.le_of_ble_eq_true rfl) ?_
  intro p e s m args below meth c C hr hlk hnm hE
  have ho : (some (v, J)) ≠ none := fun h => by cases h
  have f70 := C.2.2.2.2.1 (.fieldLink RX12 70 "TimesByPowersModel" "rank" "[I") (by decide +kernel)
  have c11 : gCl wsX12_kindOf 11 RX12 TX12 29 := ⟨by decide, rfl, rfl, by decide +kernel⟩
  refine g_aload_n C dX12_kindOf_0 rfl rfl ?_
  refine g_getR (i := 15) (j := 15) C dX12_kindOf_1 (L91 hL (by decide) (by decide)) c11 rfl (by decide) f70 (fun _ h9 => h9) (LR91_15 hL (by decide) (by decide)) ?_
  refine g_iload_n C dX12_kindOf_4 rfl rfl ?_
  refine g_iald C dX12_kindOf_5 (L101 hL (by decide) (by decide)) ho hf (fun hf => ?_)
  refine g_iconst (v := 1) C dX12_kindOf_6 (by decide) ?_
  refine g_icmp_ne (tgt := 14) C dX12_kindOf_7 (by decide) hf (fun hf => ?_) (fun hf => ?_)
  · refine g_aload_n C dX12_kindOf_14 rfl rfl ?_
    refine g_getR (i := 15) (j := 15) C dX12_kindOf_15 (L91 hL (by decide) (by decide)) c11 rfl (by decide) f70 (fun _ h9 => h9) (LR91_15 hL (by decide) (by decide)) ?_
    refine g_iload_n C dX12_kindOf_18 rfl rfl ?_
    refine g_iald C dX12_kindOf_19 (L101 hL (by decide) (by decide)) ho hf (fun hf => ?_)
    refine g_iconst (v := 3) C dX12_kindOf_20 (by decide) ?_
    refine g_icmp_ne (tgt := 28) C dX12_kindOf_21 (by decide) hf (fun hf => ?_) (fun hf => ?_)
    · refine g_aload_n C dX12_kindOf_28 rfl rfl ?_
      refine g_iload_n C dX12_kindOf_29 rfl rfl ?_
      obtain ⟨z1, hz1, hf⟩ := gbind hf ho
      refine g_callV C dX12_kindOf_30 (m_X12_heightOf l X N _ _ _  (gLay.sub hL (by decide) (by decide)) _ z1.1 z1.2 hz1) gEin0 (cwV 1 C.2.2.2.2.1 gX12_kindOf_X12_heightOf rfl rfl rfl (by decide +kernel) ⟨Nat.le_of_ble_eq_true rfl, Nat.le_of_ble_eq_true rfl⟩) (L91 hL (by decide) (by decide)) (by decide) rfl rfl rfl (Nat.le_of_ble_eq_true rfl) ⟨Nat.le_of_ble_eq_true rfl, Nat.le_of_ble_eq_true rfl⟩ ?_
      refine g_iconst (v := 2) C dX12_kindOf_33 (by decide) ?_
      refine g_icmp_ne (tgt := 41) C dX12_kindOf_34 (by decide) hf (fun hf => ?_) (fun hf => ?_)
      · refine g_iconst (v := 2) C dX12_kindOf_41 (by decide) ?_
        cases hf
        exact g_iret C dX12_kindOf_42 hr hlk
      · refine g_iconst (v := 3) C dX12_kindOf_37 (by decide) ?_
        refine g_goto (tgt := 42) C dX12_kindOf_38 (by decide) ?_
        cases hf
        exact g_iret C dX12_kindOf_42 hr hlk
    · refine g_iconst (v := 4) C dX12_kindOf_24 (by decide) ?_
      refine g_goto (tgt := 42) C dX12_kindOf_25 (by decide) ?_
      cases hf
      exact g_iret C dX12_kindOf_42 hr hlk
  · refine g_iconst (v := 1) C dX12_kindOf_10 (by decide) ?_
    refine g_goto (tgt := 42) C dX12_kindOf_11 (by decide) ?_
    cases hf
    exact g_iret C dX12_kindOf_42 hr hlk
def f_X12_isOf (N : Nat) (I : gI) (R : gR) (S : gS) (a0 : Int32) (a1 : Int32) : Option (Int32) :=
  (if a1 = 0 then some (1 : Int32) else (if a0 = a1 then some (1 : Int32) else (if a1 = (2 : Int32) then (if a0 = (3 : Int32) then some (1 : Int32) else some (0 : Int32)) else some (0 : Int32))))
set_option maxRecDepth 100000 in
set_option maxHeartbeats 8000000 in
theorem m_X12_isOf (l : Launch) (X : gX) (N : Nat) (I : gI) (R : gR) (S : gS) (hL : gLay 91 114 R S) (a0 : Int32) (a1 : Int32) (v : Int32) (hf : f_X12_isOf N I R S a0 a1 = some v) : gM l yX12_isOf wsX12_isOf { frames := 0, cells := 0, slots := 0, locals := 0 } X gE0 [.int a0, .int a1] I R S (some (.int v)) I R S 0 0 := by
  unfold f_X12_isOf at hf
  refine gM_of (cc := cX12_isOf) (own := RX12) (maxL := 2) (ret := (some .boolean)) (by decide) rfl rfl (Nat.le_of_ble_eq_true rfl) ?_
  intro p e s m args below meth c C hr hlk hnm hE
  have ho : (some v) ≠ none := fun h => by cases h
  refine g_iload_n C dX12_isOf_0 rfl rfl ?_
  refine g_if_eq (tgt := 19) C dX12_isOf_1 (by decide) hf (fun hf => ?_) (fun hf => ?_)
  · refine g_iconst (v := 1) C dX12_isOf_19 (by decide) ?_
    refine g_goto (tgt := 24) C dX12_isOf_20 (by decide) ?_
    cases hf
    exact g_zret C dX12_isOf_24 hr hlk (by decide)
  · refine g_iload_n C dX12_isOf_4 rfl rfl ?_
    refine g_iload_n C dX12_isOf_5 rfl rfl ?_
    refine g_icmp_eq (tgt := 19) C dX12_isOf_6 (by decide) hf (fun hf => ?_) (fun hf => ?_)
    · refine g_iconst (v := 1) C dX12_isOf_19 (by decide) ?_
      refine g_goto (tgt := 24) C dX12_isOf_20 (by decide) ?_
      cases hf
      exact g_zret C dX12_isOf_24 hr hlk (by decide)
    · refine g_iload_n C dX12_isOf_9 rfl rfl ?_
      refine g_iconst (v := 2) C dX12_isOf_10 (by decide) ?_
      refine g_icmp_ne (tgt := 23) C dX12_isOf_11 (by decide) hf (fun hf => ?_) (fun hf => ?_)
      · refine g_iconst (v := 0) C dX12_isOf_23 (by decide) ?_
        cases hf
        exact g_zret C dX12_isOf_24 hr hlk (by decide)
      · refine g_iload_n C dX12_isOf_14 rfl rfl ?_
        refine g_iconst (v := 3) C dX12_isOf_15 (by decide) ?_
        refine g_icmp_ne (tgt := 23) C dX12_isOf_16 (by decide) hf (fun hf => ?_) (fun hf => ?_)
        · refine g_iconst (v := 0) C dX12_isOf_23 (by decide) ?_
          cases hf
          exact g_zret C dX12_isOf_24 hr hlk (by decide)
        · refine g_iconst (v := 1) C dX12_isOf_19 (by decide) ?_
          refine g_goto (tgt := 24) C dX12_isOf_20 (by decide) ?_
          cases hf
          exact g_zret C dX12_isOf_24 hr hlk (by decide)
def f_X12_lay (N : Nat) (I : gI) (R : gR) (S : gS) (a0 : Int32) (a1 : Int32) : Option (Int32 × gI) :=
  if a0 < 0 ∨ 10 ≤ a0.toNatClampNeg then none else ((iter (σ := Int32 × gI) (ρ := gI) (fun z1 => (if (4 : Int32) ≤ z1.1 then some (.inr z1.2) else (if z1.1 ≤ a1 then if z1.1 < 0 ∨ 4 ≤ z1.1.toNatClampNeg then none else if (((4 : Int32) * a0) + z1.1) < 0 ∨ 40 ≤ (((4 : Int32) * a0) + z1.1).toNatClampNeg then none else some (.inl (z1.1 + 1, gU z1.2 102 (((4 : Int32) * a0) + z1.1).toNatClampNeg (z1.2 107 z1.1.toNatClampNeg))) else if (((4 : Int32) * a0) + z1.1) < 0 ∨ 40 ≤ (((4 : Int32) * a0) + z1.1).toNatClampNeg then none else some (.inl (z1.1 + 1, gU z1.2 102 (((4 : Int32) * a0) + z1.1).toNatClampNeg (0 : Int32)))))) N ((0 : Int32), gU (gU I 91 1 (0 : Int32)) 101 a0.toNatClampNeg a1)).bind (fun r2 => ((f_X12_kindOf N r2 R S a0).bind (fun z3 => some (z3.1, z3.2)))))
set_option maxRecDepth 100000 in
set_option maxHeartbeats 8000000 in
theorem m_X12_lay (l : Launch) (X : gX) (N : Nat) (I : gI) (R : gR) (S : gS) (hL : gLay 91 114 R S) (a0 : Int32) (a1 : Int32) (v : Int32) (J : gI) (hf : f_X12_lay N I R S a0 a1 = some (v, J)) : gM l yX12_lay wsX12_lay { frames := 5, cells := 0, slots := 0, locals := 116 } X gE0 [.ref (X.1 + 91), .int a0, .int a1] I R S (some (.int v)) J R S 0 0 := by
  unfold f_X12_lay at hf
  refine gM_of (cc := cX12_lay) (own := RX12) (maxL := 4) (ret := (some .int)) (by decide) rfl rfl (Nat.le_of_ble_eq_true rfl) ?_
  intro p e s m args below meth c C hr hlk hnm hE
  have ho : (some (v, J)) ≠ none := fun h => by cases h
  have f7 := C.2.2.2.2.1 (.fieldLink RX12 7 "TimesByPowersModel" "status" "I") (by decide +kernel)
  have c11 : gCl wsX12_lay 11 RX12 TX12 29 := ⟨by decide, rfl, rfl, by decide +kernel⟩
  have f70 := C.2.2.2.2.1 (.fieldLink RX12 70 "TimesByPowersModel" "rank" "[I") (by decide +kernel)
  have f73 := C.2.2.2.2.1 (.fieldLink RX12 73 "TimesByPowersModel" "t" "[I") (by decide +kernel)
  have f88 := C.2.2.2.2.1 (.fieldLink RX12 88 "TimesByPowersModel" "fresh" "[I") (by decide +kernel)
  refine g_aload_n C dX12_lay_0 rfl rfl ?_
  refine g_iconst (v := 0) C dX12_lay_1 (by decide) ?_
  refine g_putI (i := 1) (j := 1) C dX12_lay_2 (L91 hL (by decide) (by decide)) c11 gy11 rfl f7 (fun _ h9 => h9) (Or.inl rfl) rfl ?_
  refine g_aload_n C dX12_lay_5 rfl rfl ?_
  refine g_getR (i := 15) (j := 15) C dX12_lay_6 (L91 hL (by decide) (by decide)) c11 rfl (by decide) f70 (fun _ h9 => h9) (LR91_15 hL (by decide) (by decide)) ?_
  refine g_iload_n C dX12_lay_9 rfl rfl ?_
  refine g_iload_n C dX12_lay_10 rfl rfl ?_
  refine g_iast C dX12_lay_11 (L101 hL (by decide) (by decide)) ho hf (fun hf => ?_)
  refine g_iconst (v := 0) C dX12_lay_12 (by decide) ?_
  refine g_istore_n C dX12_lay_13 rfl (Nat.le_of_ble_eq_true rfl) rfl rfl ?_
  refine g_loop (fun z1 => [(0, .ref (X.1 + 91)), (1, .int a0), (2, .int a1), (3, .int z1.1)]) (fun z1 => z1.2) (fun r2 => [(0, .ref (X.1 + 91)), (1, .int a0)]) (fun r2 => r2) 50 hf ho ⟨rfl, rfl, rfl, rfl, trivial⟩ rfl (fun r2 hf => ?_) (fun z1 o1 hf ho hkz1 hez1 => ?_)
  · refine g_aload_n C dX12_lay_50 rfl rfl ?_
    refine g_iload_n C dX12_lay_51 rfl rfl ?_
    obtain ⟨z3, hz3, hf⟩ := gbind hf ho
    refine g_callV C dX12_lay_52 (m_X12_kindOf l X N _ _ _  (gLay.sub hL (by decide) (by decide)) _ z3.1 z3.2 hz3) gEin0 (cwV 1 C.2.2.2.2.1 gX12_lay_X12_kindOf rfl rfl rfl (by decide +kernel) ⟨Nat.le_of_ble_eq_true rfl, Nat.le_of_ble_eq_true rfl⟩) (L91 hL (by decide) (by decide)) (by decide) rfl rfl rfl (Nat.le_of_ble_eq_true rfl) ⟨Nat.le_of_ble_eq_true rfl, Nat.le_of_ble_eq_true rfl⟩ ?_
    cases hf
    exact g_iret C dX12_lay_55 hr hlk
  · refine g_iload_n C dX12_lay_14 rfl rfl ?_
    refine g_iconst (v := 4) C dX12_lay_15 (by decide) ?_
    refine g_icmp_ge (tgt := 50) C dX12_lay_16 (by decide) hf (fun hf => ?_) (fun hf => ?_)
    · exact g_sub ⟨rfl, rfl, trivial⟩ (hez1 _ hf.symm)
    · refine g_aload_n C dX12_lay_19 rfl rfl ?_
      refine g_getR (i := 16) (j := 16) C dX12_lay_20 (L91 hL (by decide) (by decide)) c11 rfl (by decide) f73 (fun _ h9 => h9) (LR91_16 hL (by decide) (by decide)) ?_
      refine g_iconst (v := 4) C dX12_lay_23 (by decide) ?_
      refine g_iload_n C dX12_lay_24 rfl rfl ?_
      refine g_imul C dX12_lay_25 ?_
      refine g_iload_n C dX12_lay_26 rfl rfl ?_
      refine g_iadd C dX12_lay_27 ?_
      refine g_iload_n C dX12_lay_28 rfl rfl ?_
      refine g_iload_n C dX12_lay_29 rfl rfl ?_
      refine g_icmp_le (tgt := 37) C dX12_lay_30 (by decide) hf (fun hf => ?_) (fun hf => ?_)
      · refine g_aload_n C dX12_lay_37 rfl rfl ?_
        refine g_getR (i := 21) (j := 21) C dX12_lay_38 (L91 hL (by decide) (by decide)) c11 rfl (by decide) f88 (fun _ h9 => h9) (LR91_21 hL (by decide) (by decide)) ?_
        refine g_iload_n C dX12_lay_41 rfl rfl ?_
        refine g_iald C dX12_lay_42 (L107 hL (by decide) (by decide)) ho hf (fun hf => ?_)
        refine g_iast C dX12_lay_43 (L102 hL (by decide) (by decide)) ho hf (fun hf => ?_)
        refine g_iinc (d := 1) C dX12_lay_44 rfl (by decide) rfl (Nat.le_of_ble_eq_true rfl) rfl rfl ?_
        refine g_goto (tgt := 14) C dX12_lay_47 (by decide) ?_
        exact g_sub ⟨rfl, rfl, rfl, rfl, trivial⟩ (hkz1 _ hf.symm)
      · refine g_iconst (v := 0) C dX12_lay_33 (by decide) ?_
        refine g_goto (tgt := 43) C dX12_lay_34 (by decide) ?_
        refine g_iast C dX12_lay_43 (L102 hL (by decide) (by decide)) ho hf (fun hf => ?_)
        refine g_iinc (d := 1) C dX12_lay_44 rfl (by decide) rfl (Nat.le_of_ble_eq_true rfl) rfl rfl ?_
        refine g_goto (tgt := 14) C dX12_lay_47 (by decide) ?_
        exact g_sub ⟨rfl, rfl, rfl, rfl, trivial⟩ (hkz1 _ hf.symm)
def f_X12_world (N : Nat) (I : gI) (R : gR) (S : gS) (a0 : Int32) (a1 : Int32) (a2 : Int32) (a3 : Int32) : Option (Int32 × gI) :=
  ((f_X12_isPlace N (gU I 91 0 (0 : Int32)) R S a0).bind (fun z1 => (if z1 = 0 then some ((-1000001 : Int32), gU I 91 0 (0 : Int32)) else ((f_X12_isRow N (gU I 91 0 (0 : Int32)) R S a1).bind (fun z2 => (if z2 = 0 then some ((-1000001 : Int32), gU I 91 0 (0 : Int32)) else ((f_X12_in N (gU I 91 0 (0 : Int32)) R S a3.toInt64 (1 : Int64) (3 : Int64)).bind (fun z3 => (if z3 = 0 then some ((-1000001 : Int32), gU I 91 0 (0 : Int32)) else if a1 < 0 ∨ 8 ≤ a1.toNatClampNeg then none else (if 0 ≤ ((gU I 91 0 (0 : Int32)) 98 a1.toNatClampNeg) then (if a2 < 0 then ((f_X12_found N (gU I 91 0 (0 : Int32)) R S (2 : Int32)).bind (fun z4 => some (z4.1, z4.2))) else if a1 < 0 ∨ 8 ≤ a1.toNatClampNeg then none else (if (lg_cmp ((a2.toInt64 + a3.toInt64) + (1 : Int64)) (((gU I 91 0 (0 : Int32)) 99 a1.toNatClampNeg).toInt64)) ≤ 0 then ((iter (σ := Int32 × gI) (ρ := (gI) ⊕ (Int32 × gI)) (fun z5 => (if a3 < z5.1 then some (.inr (.inl z5.2)) else if ((((24 : Int32) * a1) + a2) + z5.1) < 0 ∨ 192 ≤ ((((24 : Int32) * a1) + a2) + z5.1).toNatClampNeg then none else if z5.1 < 0 ∨ 4 ≤ z5.1.toNatClampNeg then none else if z5.1 < 0 ∨ 4 ≤ z5.1.toNatClampNeg then none else ((f_X12_isElement N (gU z5.2 107 z5.1.toNatClampNeg (z5.2 100 ((((24 : Int32) * a1) + a2) + z5.1).toNatClampNeg)) R S ((gU z5.2 107 z5.1.toNatClampNeg (z5.2 100 ((((24 : Int32) * a1) + a2) + z5.1).toNatClampNeg)) 107 z5.1.toNatClampNeg)).bind (fun z7 => (if z7 = 0 then some (.inr (.inr ((-1000001 : Int32), gU z5.2 107 z5.1.toNatClampNeg (z5.2 100 ((((24 : Int32) * a1) + a2) + z5.1).toNatClampNeg)))) else some (.inl (z5.1 + 1, gU z5.2 107 z5.1.toNatClampNeg (z5.2 100 ((((24 : Int32) * a1) + a2) + z5.1).toNatClampNeg)))))))) N ((0 : Int32), gU I 91 0 (0 : Int32))).bind (fun y10 => Sum.elim (fun r6 => if a3 < 0 ∨ 4 ≤ a3.toNatClampNeg then none else (if (r6 107 a3.toNatClampNeg) = 0 then some ((-1000001 : Int32), r6) else ((f_X12_lay N r6 R S a0 a3).bind (fun z8 => some (z8.1, z8.2))))) (fun x9 => some x9) y10)) else ((f_X12_found N (gU I 91 0 (0 : Int32)) R S (2 : Int32)).bind (fun z11 => some (z11.1, z11.2))))) else ((f_X12_found N (gU I 91 0 (0 : Int32)) R S (1 : Int32)).bind (fun z12 => some (z12.1, z12.2)))))))))))))
set_option maxRecDepth 100000 in
set_option maxHeartbeats 8000000 in
theorem m_X12_world (l : Launch) (X : gX) (N : Nat) (I : gI) (R : gR) (S : gS) (hL : gLay 91 114 R S) (a0 : Int32) (a1 : Int32) (a2 : Int32) (a3 : Int32) (v : Int32) (J : gI) (hf : f_X12_world N I R S a0 a1 a2 a3 = some (v, J)) : gM l yX12_world wsX12_world { frames := 6, cells := 0, slots := 0, locals := 139 } X gE0 [.ref (X.1 + 91), .int a0, .int a1, .int a2, .int a3] I R S (some (.int v)) J R S 0 0 := by
  unfold f_X12_world at hf
  refine gM_of (cc := cX12_world) (own := RX12) (maxL := 6) (ret := (some .int)) (by decide) rfl rfl (Nat.le_of_ble_eq_true rfl) ?_
  intro p e s m args below meth c C hr hlk hnm hE
  have ho : (some (v, J)) ≠ none := fun h => by cases h
  have f1 := C.2.2.2.2.1 (.fieldLink RX12 1 "TimesByPowersModel" "thrown" "I") (by decide +kernel)
  have c11 : gCl wsX12_world 11 RX12 TX12 29 := ⟨by decide, rfl, rfl, by decide +kernel⟩
  have k141 := C.2.2.2.2.1 (.constant RX12 141 (-1000001)) (by decide +kernel)
  have k137 := C.2.2.2.2.1 (.constantLong RX12 137 (3)) (by decide +kernel)
  have f61 := C.2.2.2.2.1 (.fieldLink RX12 61 "TimesByPowersModel" "lane" "[I") (by decide +kernel)
  have f64 := C.2.2.2.2.1 (.fieldLink RX12 64 "TimesByPowersModel" "many" "[I") (by decide +kernel)
  have f88 := C.2.2.2.2.1 (.fieldLink RX12 88 "TimesByPowersModel" "fresh" "[I") (by decide +kernel)
  have f67 := C.2.2.2.2.1 (.fieldLink RX12 67 "TimesByPowersModel" "item" "[I") (by decide +kernel)
  refine g_aload_n C dX12_world_0 rfl rfl ?_
  refine g_iconst (v := 0) C dX12_world_1 (by decide) ?_
  refine g_putI (i := 0) (j := 0) C dX12_world_2 (L91 hL (by decide) (by decide)) c11 gy11 rfl f1 (fun _ h9 => h9) (Or.inl rfl) rfl ?_
  refine g_iload_n C dX12_world_5 rfl rfl ?_
  obtain ⟨z1, hz1, hf⟩ := gbind hf ho
  refine g_callS C dX12_world_6 (m_X12_isPlace l X N _ _ _  (gLay.sub hL (by decide) (by decide)) _ z1 hz1) gEin0 (va_cwS 1 C.2.2.2.2.1 gX12_world_X12_isPlace rfl rfl rfl (by decide +kernel) ⟨Nat.le_of_ble_eq_true rfl, Nat.le_of_ble_eq_true rfl⟩) rfl rfl (Nat.le_of_ble_eq_true rfl) ⟨Nat.le_of_ble_eq_true rfl, Nat.le_of_ble_eq_true rfl⟩ ?_
  refine g_if_eq (tgt := 32) C dX12_world_9 (by decide) hf (fun hf => ?_) (fun hf => ?_)
  · refine g_ldc C k141 dX12_world_32 ?_
    cases hf
    exact g_iret C dX12_world_34 hr hlk
  · refine g_iload_n C dX12_world_12 rfl rfl ?_
    obtain ⟨z2, hz2, hf⟩ := gbind hf ho
    refine g_callS C dX12_world_13 (m_X12_isRow l X N _ _ _  (gLay.sub hL (by decide) (by decide)) _ z2 hz2) gEin0 (va_cwS 1 C.2.2.2.2.1 gX12_world_X12_isRow rfl rfl rfl (by decide +kernel) ⟨Nat.le_of_ble_eq_true rfl, Nat.le_of_ble_eq_true rfl⟩) rfl rfl (Nat.le_of_ble_eq_true rfl) ⟨Nat.le_of_ble_eq_true rfl, Nat.le_of_ble_eq_true rfl⟩ ?_
    refine g_if_eq (tgt := 32) C dX12_world_16 (by decide) hf (fun hf => ?_) (fun hf => ?_)
    · refine g_ldc C k141 dX12_world_32 ?_
      cases hf
      exact g_iret C dX12_world_34 hr hlk
    · refine g_iload C dX12_world_19 rfl ?_
      refine g_i2l C dX12_world_21 ?_
      refine g_lconst (v := 1) C dX12_world_22 (by decide) ?_
      refine g_ldc2 C k137 dX12_world_23 ?_
      obtain ⟨z3, hz3, hf⟩ := gbind hf ho
      refine g_callS C dX12_world_26 (m_X12_in l X N _ _ _  (gLay.sub hL (by decide) (by decide)) _ _ _ z3 hz3) gEin0 (va_cwS 3 C.2.2.2.2.1 gX12_world_X12_in rfl rfl rfl (by decide +kernel) ⟨Nat.le_of_ble_eq_true rfl, Nat.le_of_ble_eq_true rfl⟩) rfl rfl (Nat.le_of_ble_eq_true rfl) ⟨Nat.le_of_ble_eq_true rfl, Nat.le_of_ble_eq_true rfl⟩ ?_
      refine g_if_ne (tgt := 35) C dX12_world_29 (by decide) hf (fun hf => ?_) (fun hf => ?_)
      · refine g_aload_n C dX12_world_35 rfl rfl ?_
        refine g_getR (i := 12) (j := 12) C dX12_world_36 (L91 hL (by decide) (by decide)) c11 rfl (by decide) f61 (fun _ h9 => h9) (LR91_12 hL (by decide) (by decide)) ?_
        refine g_iload_n C dX12_world_39 rfl rfl ?_
        refine g_iald C dX12_world_40 (L98 hL (by decide) (by decide)) ho hf (fun hf => ?_)
        refine g_if_ge (tgt := 50) C dX12_world_41 (by decide) hf (fun hf => ?_) (fun hf => ?_)
        · refine g_iload_n C dX12_world_50 rfl rfl ?_
          refine g_if_lt (tgt := 73) C dX12_world_51 (by decide) hf (fun hf => ?_) (fun hf => ?_)
          · refine g_aload_n C dX12_world_73 rfl rfl ?_
            refine g_iconst (v := 2) C dX12_world_74 (by decide) ?_
            obtain ⟨z4, hz4, hf⟩ := gbind hf ho
            refine g_callV C dX12_world_75 (m_X12_found l X N _ _ _  (gLay.sub hL (by decide) (by decide)) _ z4.1 z4.2 hz4) gEin0 (cwV 1 C.2.2.2.2.1 gX12_world_X12_found rfl rfl rfl (by decide +kernel) ⟨Nat.le_of_ble_eq_true rfl, Nat.le_of_ble_eq_true rfl⟩) (L91 hL (by decide) (by decide)) (by decide) rfl rfl rfl (Nat.le_of_ble_eq_true rfl) ⟨Nat.le_of_ble_eq_true rfl, Nat.le_of_ble_eq_true rfl⟩ ?_
            cases hf
            exact g_iret C dX12_world_78 hr hlk
          · refine g_iload_n C dX12_world_54 rfl rfl ?_
            refine g_i2l C dX12_world_55 ?_
            refine g_iload C dX12_world_56 rfl ?_
            refine g_i2l C dX12_world_58 ?_
            refine g_ladd C dX12_world_59 ?_
            refine g_lconst (v := 1) C dX12_world_60 (by decide) ?_
            refine g_ladd C dX12_world_61 ?_
            refine g_aload_n C dX12_world_62 rfl rfl ?_
            refine g_getR (i := 13) (j := 13) C dX12_world_63 (L91 hL (by decide) (by decide)) c11 rfl (by decide) f64 (fun _ h9 => h9) (LR91_13 hL (by decide) (by decide)) ?_
            refine g_iload_n C dX12_world_66 rfl rfl ?_
            refine g_iald C dX12_world_67 (L99 hL (by decide) (by decide)) ho hf (fun hf => ?_)
            refine g_i2l C dX12_world_68 ?_
            refine g_lcmp C dX12_world_69 ?_
            refine g_if_le (tgt := 79) C dX12_world_70 (by decide) hf (fun hf => ?_) (fun hf => ?_)
            · refine g_iconst (v := 0) C dX12_world_79 (by decide) ?_
              refine g_istore C dX12_world_80 (Nat.le_of_ble_eq_true rfl) rfl rfl ?_
              refine g_loopR (fun z5 => [(0, .ref (X.1 + 91)), (1, .int a0), (2, .int a1), (3, .int a2), (4, .int a3), (5, .int z5.1)]) (fun z5 => z5.2) (fun r6 => [(0, .ref (X.1 + 91)), (1, .int a0), (4, .int a3)]) (fun r6 => r6) 133 hf ho ⟨rfl, rfl, rfl, rfl, rfl, rfl, trivial⟩ rfl (fun r6 hf => ?_) (fun z5 o1 hf ho hkz5 hez5 hrz5 => ?_)
              · refine g_aload_n C dX12_world_133 rfl rfl ?_
                refine g_getR (i := 21) (j := 21) C dX12_world_134 (L91 hL (by decide) (by decide)) c11 rfl (by decide) f88 (fun _ h9 => h9) (LR91_21 hL (by decide) (by decide)) ?_
                refine g_iload C dX12_world_137 rfl ?_
                refine g_iald C dX12_world_139 (L107 hL (by decide) (by decide)) ho hf (fun hf => ?_)
                refine g_if_ne (tgt := 148) C dX12_world_140 (by decide) hf (fun hf => ?_) (fun hf => ?_)
                · refine g_aload_n C dX12_world_148 rfl rfl ?_
                  refine g_iload_n C dX12_world_149 rfl rfl ?_
                  refine g_iload C dX12_world_150 rfl ?_
                  obtain ⟨z8, hz8, hf⟩ := gbind hf ho
                  refine g_callV C dX12_world_152 (m_X12_lay l X N _ _ _  (gLay.sub hL (by decide) (by decide)) _ _ z8.1 z8.2 hz8) gEin0 (cwV 2 C.2.2.2.2.1 gX12_world_X12_lay rfl rfl rfl (by decide +kernel) ⟨Nat.le_of_ble_eq_true rfl, Nat.le_of_ble_eq_true rfl⟩) (L91 hL (by decide) (by decide)) (by decide) rfl rfl rfl (Nat.le_of_ble_eq_true rfl) ⟨Nat.le_of_ble_eq_true rfl, Nat.le_of_ble_eq_true rfl⟩ ?_
                  cases hf
                  exact g_iret C dX12_world_155 hr hlk
                · refine g_ldc C k141 dX12_world_143 ?_
                  refine g_goto (tgt := 155) C dX12_world_145 (by decide) ?_
                  cases hf
                  exact g_iret C dX12_world_155 hr hlk
              · refine g_iload C dX12_world_82 rfl ?_
                refine g_iload C dX12_world_84 rfl ?_
                refine g_icmp_gt (tgt := 133) C dX12_world_86 (by decide) hf (fun hf => ?_) (fun hf => ?_)
                · exact g_sub ⟨rfl, rfl, rfl, trivial⟩ (hez5 _ hf.symm)
                · refine g_aload_n C dX12_world_89 rfl rfl ?_
                  refine g_getR (i := 21) (j := 21) C dX12_world_90 (L91 hL (by decide) (by decide)) c11 rfl (by decide) f88 (fun _ h9 => h9) (LR91_21 hL (by decide) (by decide)) ?_
                  refine g_iload C dX12_world_93 rfl ?_
                  refine g_aload_n C dX12_world_95 rfl rfl ?_
                  refine g_getR (i := 14) (j := 14) C dX12_world_96 (L91 hL (by decide) (by decide)) c11 rfl (by decide) f67 (fun _ h9 => h9) (LR91_14 hL (by decide) (by decide)) ?_
                  refine g_bipush (v := 24) C dX12_world_99 (by decide) ?_
                  refine g_iload_n C dX12_world_101 rfl rfl ?_
                  refine g_imul C dX12_world_102 ?_
                  refine g_iload_n C dX12_world_103 rfl rfl ?_
                  refine g_iadd C dX12_world_104 ?_
                  refine g_iload C dX12_world_105 rfl ?_
                  refine g_iadd C dX12_world_107 ?_
                  refine g_iald C dX12_world_108 (L100 hL (by decide) (by decide)) ho hf (fun hf => ?_)
                  refine g_iast C dX12_world_109 (L107 hL (by decide) (by decide)) ho hf (fun hf => ?_)
                  refine g_aload_n C dX12_world_110 rfl rfl ?_
                  refine g_aload_n C dX12_world_111 rfl rfl ?_
                  refine g_getR (i := 21) (j := 21) C dX12_world_112 (L91 hL (by decide) (by decide)) c11 rfl (by decide) f88 (fun _ h9 => h9) (LR91_21 hL (by decide) (by decide)) ?_
                  refine g_iload C dX12_world_115 rfl ?_
                  refine g_iald C dX12_world_117 (L107 hL (by decide) (by decide)) ho hf (fun hf => ?_)
                  obtain ⟨z7, hz7, hf⟩ := gbind hf ho
                  refine g_callV C dX12_world_118 (m_X12_isElement l X N _ _ _  (gLay.sub hL (by decide) (by decide)) _ z7 hz7) gEin0 (cwV 1 C.2.2.2.2.1 gX12_world_X12_isElement rfl rfl rfl (by decide +kernel) ⟨Nat.le_of_ble_eq_true rfl, Nat.le_of_ble_eq_true rfl⟩) (L91 hL (by decide) (by decide)) (by decide) rfl rfl rfl (Nat.le_of_ble_eq_true rfl) ⟨Nat.le_of_ble_eq_true rfl, Nat.le_of_ble_eq_true rfl⟩ ?_
                  refine g_if_ne (tgt := 127) C dX12_world_121 (by decide) hf (fun hf => ?_) (fun hf => ?_)
                  · refine g_iinc (d := 1) C dX12_world_127 rfl (by decide) rfl (Nat.le_of_ble_eq_true rfl) rfl rfl ?_
                    refine g_goto (tgt := 82) C dX12_world_130 (by decide) ?_
                    exact g_sub ⟨rfl, rfl, rfl, rfl, rfl, rfl, trivial⟩ (hkz5 _ hf.symm)
                  · refine g_ldc C k141 dX12_world_124 ?_
                    replace hf := hrz5 _ hf.symm
                    dsimp only [Sum.elim_inr] at hf
                    cases hf
                    exact g_iret C dX12_world_126 hr hlk
            · refine g_aload_n C dX12_world_73 rfl rfl ?_
              refine g_iconst (v := 2) C dX12_world_74 (by decide) ?_
              obtain ⟨z11, hz11, hf⟩ := gbind hf ho
              refine g_callV C dX12_world_75 (m_X12_found l X N _ _ _  (gLay.sub hL (by decide) (by decide)) _ z11.1 z11.2 hz11) gEin0 (cwV 1 C.2.2.2.2.1 gX12_world_X12_found rfl rfl rfl (by decide +kernel) ⟨Nat.le_of_ble_eq_true rfl, Nat.le_of_ble_eq_true rfl⟩) (L91 hL (by decide) (by decide)) (by decide) rfl rfl rfl (Nat.le_of_ble_eq_true rfl) ⟨Nat.le_of_ble_eq_true rfl, Nat.le_of_ble_eq_true rfl⟩ ?_
              cases hf
              exact g_iret C dX12_world_78 hr hlk
        · refine g_aload_n C dX12_world_44 rfl rfl ?_
          refine g_iconst (v := 1) C dX12_world_45 (by decide) ?_
          obtain ⟨z12, hz12, hf⟩ := gbind hf ho
          refine g_callV C dX12_world_46 (m_X12_found l X N _ _ _  (gLay.sub hL (by decide) (by decide)) _ z12.1 z12.2 hz12) gEin0 (cwV 1 C.2.2.2.2.1 gX12_world_X12_found rfl rfl rfl (by decide +kernel) ⟨Nat.le_of_ble_eq_true rfl, Nat.le_of_ble_eq_true rfl⟩) (L91 hL (by decide) (by decide)) (by decide) rfl rfl rfl (Nat.le_of_ble_eq_true rfl) ⟨Nat.le_of_ble_eq_true rfl, Nat.le_of_ble_eq_true rfl⟩ ?_
          cases hf
          exact g_iret C dX12_world_49 hr hlk
      · refine g_ldc C k141 dX12_world_32 ?_
        cases hf
        exact g_iret C dX12_world_34 hr hlk
def f_X12_turned (N : Nat) (I : gI) (R : gR) (S : gS) (a0 : Int32) (a1 : Int32) (a2 : Int32) : Option (Int32) :=
  if (((4 : Int32) * a0) + a1) < 0 ∨ 40 ≤ (((4 : Int32) * a0) + a1).toNatClampNeg then none else ((f_X12_power N I R S (I 91 2) a1).bind (fun z1 => ((f_X12_raise N I R S a2 ((z1 - (1 : Int32)).toInt64)).bind (fun z2 => ((f_X12_times N I R S (I 102 (((4 : Int32) * a0) + a1).toNatClampNeg) z2).bind (fun z3 => some z3))))))
set_option maxRecDepth 100000 in
set_option maxHeartbeats 8000000 in
theorem m_X12_turned (l : Launch) (X : gX) (N : Nat) (I : gI) (R : gR) (S : gS) (hL : gLay 91 114 R S) (a0 : Int32) (a1 : Int32) (a2 : Int32) (v : Int32) (hf : f_X12_turned N I R S a0 a1 a2 = some v) : gM l yX12_turned wsX12_turned { frames := 1, cells := 0, slots := 0, locals := 23 } X gE0 [.ref (X.1 + 91), .int a0, .int a1, .int a2] I R S (some (.int v)) I R S 0 0 := by
  unfold f_X12_turned at hf
  refine gM_of (cc := cX12_turned) (own := RX12) (maxL := 4) (ret := (some .int)) (by decide) rfl rfl (Nat.le_of_ble_eq_true rfl) ?_
  intro p e s m args below meth c C hr hlk hnm hE
  have ho : (some v) ≠ none := fun h => by cases h
  have f73 := C.2.2.2.2.1 (.fieldLink RX12 73 "TimesByPowersModel" "t" "[I") (by decide +kernel)
  have c11 : gCl wsX12_turned 11 RX12 TX12 29 := ⟨by decide, rfl, rfl, by decide +kernel⟩
  have f11 := C.2.2.2.2.1 (.fieldLink RX12 11 "TimesByPowersModel" "p" "I") (by decide +kernel)
  refine g_aload_n C dX12_turned_0 rfl rfl ?_
  refine g_aload_n C dX12_turned_1 rfl rfl ?_
  refine g_getR (i := 16) (j := 16) C dX12_turned_2 (L91 hL (by decide) (by decide)) c11 rfl (by decide) f73 (fun _ h9 => h9) (LR91_16 hL (by decide) (by decide)) ?_
  refine g_iconst (v := 4) C dX12_turned_5 (by decide) ?_
  refine g_iload_n C dX12_turned_6 rfl rfl ?_
  refine g_imul C dX12_turned_7 ?_
  refine g_iload_n C dX12_turned_8 rfl rfl ?_
  refine g_iadd C dX12_turned_9 ?_
  refine g_iald C dX12_turned_10 (L102 hL (by decide) (by decide)) ho hf (fun hf => ?_)
  refine g_aload_n C dX12_turned_11 rfl rfl ?_
  refine g_iload_n C dX12_turned_12 rfl rfl ?_
  refine g_aload_n C dX12_turned_13 rfl rfl ?_
  refine g_getI (i := 2) (j := 2) C dX12_turned_14 (L91 hL (by decide) (by decide)) c11 rfl f11 (fun _ h9 => h9) ?_
  refine g_iload_n C dX12_turned_17 rfl rfl ?_
  obtain ⟨z1, hz1, hf⟩ := gbind hf ho
  refine g_callS C dX12_turned_18 (m_X12_power l X N _ _ _  (gLay.sub hL (by decide) (by decide)) _ _ z1 hz1) gEin0 (va_cwS 2 C.2.2.2.2.1 gX12_turned_X12_power rfl rfl rfl (by decide +kernel) ⟨Nat.le_of_ble_eq_true rfl, Nat.le_of_ble_eq_true rfl⟩) rfl rfl (Nat.le_of_ble_eq_true rfl) ⟨Nat.le_of_ble_eq_true rfl, Nat.le_of_ble_eq_true rfl⟩ ?_
  refine g_iconst (v := 1) C dX12_turned_21 (by decide) ?_
  refine g_isub C dX12_turned_22 ?_
  refine g_i2l C dX12_turned_23 ?_
  obtain ⟨z2, hz2, hf⟩ := gbind hf ho
  refine g_callV C dX12_turned_24 (m_X12_raise l X N _ _ _  (gLay.sub hL (by decide) (by decide)) _ _ z2 hz2) gEin0 (cwV 2 C.2.2.2.2.1 gX12_turned_X12_raise rfl rfl rfl (by decide +kernel) ⟨Nat.le_of_ble_eq_true rfl, Nat.le_of_ble_eq_true rfl⟩) (L91 hL (by decide) (by decide)) (by decide) rfl rfl rfl (Nat.le_of_ble_eq_true rfl) ⟨Nat.le_of_ble_eq_true rfl, Nat.le_of_ble_eq_true rfl⟩ ?_
  obtain ⟨z3, hz3, hf⟩ := gbind hf ho
  refine g_callV C dX12_turned_27 (m_X12_times l X N _ _ _  (gLay.sub hL (by decide) (by decide)) _ _ z3 hz3) gEin0 (cwV 2 C.2.2.2.2.1 gX12_turned_X12_times rfl rfl rfl (by decide +kernel) ⟨Nat.le_of_ble_eq_true rfl, Nat.le_of_ble_eq_true rfl⟩) (L91 hL (by decide) (by decide)) (by decide) rfl rfl rfl (Nat.le_of_ble_eq_true rfl) ⟨Nat.le_of_ble_eq_true rfl, Nat.le_of_ble_eq_true rfl⟩ ?_
  cases hf
  exact g_iret C dX12_turned_30 hr hlk
def f_X12_turn (N : Nat) (I : gI) (R : gR) (S : gS) (a0 : Int32) (a1 : Int32) (a2 : Int32) : Option (Int32 × gI) :=
  ((f_X12_isPlace N (gU I 91 0 (0 : Int32)) R S a0).bind (fun z1 => (if z1 = 0 then some ((-1000001 : Int32), gU I 91 0 (0 : Int32)) else ((f_X12_isPlace N (gU I 91 0 (0 : Int32)) R S a1).bind (fun z2 => (if z2 = 0 then some ((-1000001 : Int32), gU I 91 0 (0 : Int32)) else ((f_X12_in N (gU I 91 0 (0 : Int32)) R S a2.toInt64 (1 : Int64) ((((gU I 91 0 (0 : Int32)) 91 4) - (1 : Int32)).toInt64)).bind (fun z3 => (if z3 = 0 then some ((-1000001 : Int32), gU I 91 0 (0 : Int32)) else if a1 < 0 ∨ 10 ≤ a1.toNatClampNeg then none else (if ((gU I 91 0 (0 : Int32)) 101 a1.toNatClampNeg) = 0 then ((f_X12_found N (gU I 91 0 (0 : Int32)) R S (1 : Int32)).bind (fun z8 => some (z8.1, z8.2))) else ((iter (σ := Int32 × gI) (ρ := gI) (fun z4 => if a1 < 0 ∨ 10 ≤ a1.toNatClampNeg then none else (if (z4.2 101 a1.toNatClampNeg) < z4.1 then some (.inr z4.2) else ((f_X12_turned N z4.2 R S a1 z4.1 a2).bind (fun z6 => if z4.1 < 0 ∨ 4 ≤ z4.1.toNatClampNeg then none else some (.inl (z4.1 + 1, gU z4.2 107 z4.1.toNatClampNeg z6)))))) N ((0 : Int32), gU I 91 0 (0 : Int32))).bind (fun r5 => if a1 < 0 ∨ 10 ≤ a1.toNatClampNeg then none else ((f_X12_lay N r5 R S a0 (r5 101 a1.toNatClampNeg)).bind (fun z7 => some (z7.1, z7.2)))))))))))))))
set_option maxRecDepth 100000 in
set_option maxHeartbeats 8000000 in
theorem m_X12_turn (l : Launch) (X : gX) (N : Nat) (I : gI) (R : gR) (S : gS) (hL : gLay 91 114 R S) (a0 : Int32) (a1 : Int32) (a2 : Int32) (v : Int32) (J : gI) (hf : f_X12_turn N I R S a0 a1 a2 = some (v, J)) : gM l yX12_turn wsX12_turn { frames := 6, cells := 0, slots := 0, locals := 139 } X gE0 [.ref (X.1 + 91), .int a0, .int a1, .int a2] I R S (some (.int v)) J R S 0 0 := by
  unfold f_X12_turn at hf
  refine gM_of (cc := cX12_turn) (own := RX12) (maxL := 5) (ret := (some .int)) (by decide) rfl rfl (Nat.le_of_ble_eq_true rfl) ?_
  intro p e s m args below meth c C hr hlk hnm hE
  have ho : (some (v, J)) ≠ none := fun h => by cases h
  have f1 := C.2.2.2.2.1 (.fieldLink RX12 1 "TimesByPowersModel" "thrown" "I") (by decide +kernel)
  have c11 : gCl wsX12_turn 11 RX12 TX12 29 := ⟨by decide, rfl, rfl, by decide +kernel⟩
  have k141 := C.2.2.2.2.1 (.constant RX12 141 (-1000001)) (by decide +kernel)
  have f109 := C.2.2.2.2.1 (.fieldLink RX12 109 "TimesByPowersModel" "q" "I") (by decide +kernel)
  have f70 := C.2.2.2.2.1 (.fieldLink RX12 70 "TimesByPowersModel" "rank" "[I") (by decide +kernel)
  have f88 := C.2.2.2.2.1 (.fieldLink RX12 88 "TimesByPowersModel" "fresh" "[I") (by decide +kernel)
  refine g_aload_n C dX12_turn_0 rfl rfl ?_
  refine g_iconst (v := 0) C dX12_turn_1 (by decide) ?_
  refine g_putI (i := 0) (j := 0) C dX12_turn_2 (L91 hL (by decide) (by decide)) c11 gy11 rfl f1 (fun _ h9 => h9) (Or.inl rfl) rfl ?_
  refine g_iload_n C dX12_turn_5 rfl rfl ?_
  obtain ⟨z1, hz1, hf⟩ := gbind hf ho
  refine g_callS C dX12_turn_6 (m_X12_isPlace l X N _ _ _  (gLay.sub hL (by decide) (by decide)) _ z1 hz1) gEin0 (va_cwS 1 C.2.2.2.2.1 gX12_turn_X12_isPlace rfl rfl rfl (by decide +kernel) ⟨Nat.le_of_ble_eq_true rfl, Nat.le_of_ble_eq_true rfl⟩) rfl rfl (Nat.le_of_ble_eq_true rfl) ⟨Nat.le_of_ble_eq_true rfl, Nat.le_of_ble_eq_true rfl⟩ ?_
  refine g_if_eq (tgt := 35) C dX12_turn_9 (by decide) hf (fun hf => ?_) (fun hf => ?_)
  · refine g_ldc C k141 dX12_turn_35 ?_
    cases hf
    exact g_iret C dX12_turn_37 hr hlk
  · refine g_iload_n C dX12_turn_12 rfl rfl ?_
    obtain ⟨z2, hz2, hf⟩ := gbind hf ho
    refine g_callS C dX12_turn_13 (m_X12_isPlace l X N _ _ _  (gLay.sub hL (by decide) (by decide)) _ z2 hz2) gEin0 (va_cwS 1 C.2.2.2.2.1 gX12_turn_X12_isPlace rfl rfl rfl (by decide +kernel) ⟨Nat.le_of_ble_eq_true rfl, Nat.le_of_ble_eq_true rfl⟩) rfl rfl (Nat.le_of_ble_eq_true rfl) ⟨Nat.le_of_ble_eq_true rfl, Nat.le_of_ble_eq_true rfl⟩ ?_
    refine g_if_eq (tgt := 35) C dX12_turn_16 (by decide) hf (fun hf => ?_) (fun hf => ?_)
    · refine g_ldc C k141 dX12_turn_35 ?_
      cases hf
      exact g_iret C dX12_turn_37 hr hlk
    · refine g_iload_n C dX12_turn_19 rfl rfl ?_
      refine g_i2l C dX12_turn_20 ?_
      refine g_lconst (v := 1) C dX12_turn_21 (by decide) ?_
      refine g_aload_n C dX12_turn_22 rfl rfl ?_
      refine g_getI (i := 4) (j := 4) C dX12_turn_23 (L91 hL (by decide) (by decide)) c11 rfl f109 (fun _ h9 => h9) ?_
      refine g_iconst (v := 1) C dX12_turn_26 (by decide) ?_
      refine g_isub C dX12_turn_27 ?_
      refine g_i2l C dX12_turn_28 ?_
      obtain ⟨z3, hz3, hf⟩ := gbind hf ho
      refine g_callS C dX12_turn_29 (m_X12_in l X N _ _ _  (gLay.sub hL (by decide) (by decide)) _ _ _ z3 hz3) gEin0 (va_cwS 3 C.2.2.2.2.1 gX12_turn_X12_in rfl rfl rfl (by decide +kernel) ⟨Nat.le_of_ble_eq_true rfl, Nat.le_of_ble_eq_true rfl⟩) rfl rfl (Nat.le_of_ble_eq_true rfl) ⟨Nat.le_of_ble_eq_true rfl, Nat.le_of_ble_eq_true rfl⟩ ?_
      refine g_if_ne (tgt := 38) C dX12_turn_32 (by decide) hf (fun hf => ?_) (fun hf => ?_)
      · refine g_aload_n C dX12_turn_38 rfl rfl ?_
        refine g_getR (i := 15) (j := 15) C dX12_turn_39 (L91 hL (by decide) (by decide)) c11 rfl (by decide) f70 (fun _ h9 => h9) (LR91_15 hL (by decide) (by decide)) ?_
        refine g_iload_n C dX12_turn_42 rfl rfl ?_
        refine g_iald C dX12_turn_43 (L101 hL (by decide) (by decide)) ho hf (fun hf => ?_)
        refine g_if_ne (tgt := 53) C dX12_turn_44 (by decide) hf (fun hf => ?_) (fun hf => ?_)
        · refine g_iconst (v := 0) C dX12_turn_53 (by decide) ?_
          refine g_istore C dX12_turn_54 (Nat.le_of_ble_eq_true rfl) rfl rfl ?_
          refine g_loop (fun z4 => [(0, .ref (X.1 + 91)), (1, .int a0), (2, .int a1), (3, .int a2), (4, .int z4.1)]) (fun z4 => z4.2) (fun r5 => [(0, .ref (X.1 + 91)), (1, .int a0), (2, .int a1)]) (fun r5 => r5) 88 hf ho ⟨rfl, rfl, rfl, rfl, rfl, trivial⟩ rfl (fun r5 hf => ?_) (fun z4 o1 hf ho hkz4 hez4 => ?_)
          · refine g_aload_n C dX12_turn_88 rfl rfl ?_
            refine g_iload_n C dX12_turn_89 rfl rfl ?_
            refine g_aload_n C dX12_turn_90 rfl rfl ?_
            refine g_getR (i := 15) (j := 15) C dX12_turn_91 (L91 hL (by decide) (by decide)) c11 rfl (by decide) f70 (fun _ h9 => h9) (LR91_15 hL (by decide) (by decide)) ?_
            refine g_iload_n C dX12_turn_94 rfl rfl ?_
            refine g_iald C dX12_turn_95 (L101 hL (by decide) (by decide)) ho hf (fun hf => ?_)
            obtain ⟨z7, hz7, hf⟩ := gbind hf ho
            refine g_callV C dX12_turn_96 (m_X12_lay l X N _ _ _  (gLay.sub hL (by decide) (by decide)) _ _ z7.1 z7.2 hz7) gEin0 (cwV 2 C.2.2.2.2.1 gX12_turn_X12_lay rfl rfl rfl (by decide +kernel) ⟨Nat.le_of_ble_eq_true rfl, Nat.le_of_ble_eq_true rfl⟩) (L91 hL (by decide) (by decide)) (by decide) rfl rfl rfl (Nat.le_of_ble_eq_true rfl) ⟨Nat.le_of_ble_eq_true rfl, Nat.le_of_ble_eq_true rfl⟩ ?_
            cases hf
            exact g_iret C dX12_turn_99 hr hlk
          · refine g_iload C dX12_turn_56 rfl ?_
            refine g_aload_n C dX12_turn_58 rfl rfl ?_
            refine g_getR (i := 15) (j := 15) C dX12_turn_59 (L91 hL (by decide) (by decide)) c11 rfl (by decide) f70 (fun _ h9 => h9) (LR91_15 hL (by decide) (by decide)) ?_
            refine g_iload_n C dX12_turn_62 rfl rfl ?_
            refine g_iald C dX12_turn_63 (L101 hL (by decide) (by decide)) ho hf (fun hf => ?_)
            refine g_icmp_gt (tgt := 88) C dX12_turn_64 (by decide) hf (fun hf => ?_) (fun hf => ?_)
            · exact g_sub ⟨rfl, rfl, rfl, trivial⟩ (hez4 _ hf.symm)
            · refine g_aload_n C dX12_turn_67 rfl rfl ?_
              refine g_getR (i := 21) (j := 21) C dX12_turn_68 (L91 hL (by decide) (by decide)) c11 rfl (by decide) f88 (fun _ h9 => h9) (LR91_21 hL (by decide) (by decide)) ?_
              refine g_iload C dX12_turn_71 rfl ?_
              refine g_aload_n C dX12_turn_73 rfl rfl ?_
              refine g_iload_n C dX12_turn_74 rfl rfl ?_
              refine g_iload C dX12_turn_75 rfl ?_
              refine g_iload_n C dX12_turn_77 rfl rfl ?_
              obtain ⟨z6, hz6, hf⟩ := gbind hf ho
              refine g_callV C dX12_turn_78 (m_X12_turned l X N _ _ _  (gLay.sub hL (by decide) (by decide)) _ _ _ z6 hz6) gEin0 (cwV 3 C.2.2.2.2.1 gX12_turn_X12_turned rfl rfl rfl (by decide +kernel) ⟨Nat.le_of_ble_eq_true rfl, Nat.le_of_ble_eq_true rfl⟩) (L91 hL (by decide) (by decide)) (by decide) rfl rfl rfl (Nat.le_of_ble_eq_true rfl) ⟨Nat.le_of_ble_eq_true rfl, Nat.le_of_ble_eq_true rfl⟩ ?_
              refine g_iast C dX12_turn_81 (L107 hL (by decide) (by decide)) ho hf (fun hf => ?_)
              refine g_iinc (d := 1) C dX12_turn_82 rfl (by decide) rfl (Nat.le_of_ble_eq_true rfl) rfl rfl ?_
              refine g_goto (tgt := 56) C dX12_turn_85 (by decide) ?_
              exact g_sub ⟨rfl, rfl, rfl, rfl, rfl, trivial⟩ (hkz4 _ hf.symm)
        · refine g_aload_n C dX12_turn_47 rfl rfl ?_
          refine g_iconst (v := 1) C dX12_turn_48 (by decide) ?_
          obtain ⟨z8, hz8, hf⟩ := gbind hf ho
          refine g_callV C dX12_turn_49 (m_X12_found l X N _ _ _  (gLay.sub hL (by decide) (by decide)) _ z8.1 z8.2 hz8) gEin0 (cwV 1 C.2.2.2.2.1 gX12_turn_X12_found rfl rfl rfl (by decide +kernel) ⟨Nat.le_of_ble_eq_true rfl, Nat.le_of_ble_eq_true rfl⟩) (L91 hL (by decide) (by decide)) (by decide) rfl rfl rfl (Nat.le_of_ble_eq_true rfl) ⟨Nat.le_of_ble_eq_true rfl, Nat.le_of_ble_eq_true rfl⟩ ?_
          cases hf
          exact g_iret C dX12_turn_52 hr hlk
      · refine g_ldc C k141 dX12_turn_35 ?_
        cases hf
        exact g_iret C dX12_turn_37 hr hlk
def f_X12_lookMap (N : Nat) (I : gI) (R : gR) (S : gS) (a0 : Int32) (a1 : Int32) (a2 : Int32) (a3 : Int32) : Option (Int32 × gI) :=
  ((f_X12_isPlace N I R S a0).bind (fun z1 => (if z1 = 0 then some ((-1000001 : Int32), I) else ((f_X12_isRow N I R S a1).bind (fun z2 => (if z2 = 0 then some ((-1000001 : Int32), I) else ((f_X12_in N I R S a3.toInt64 (1 : Int64) (4 : Int64)).bind (fun z3 => (if z3 = 0 then some ((-1000001 : Int32), I) else if a0 < 0 ∨ 10 ≤ a0.toNatClampNeg then none else (if (I 101 a0.toNatClampNeg) = 0 then ((f_X12_found N I R S (1 : Int32)).bind (fun z4 => some (z4.1, z4.2))) else if a1 < 0 ∨ 8 ≤ a1.toNatClampNeg then none else (if 0 ≤ (I 98 a1.toNatClampNeg) then (if a2 < 0 then ((f_X12_found N I R S (2 : Int32)).bind (fun z5 => some (z5.1, z5.2))) else if a1 < 0 ∨ 8 ≤ a1.toNatClampNeg then none else (if (lg_cmp ((a2.toInt64 + a3.toInt64) + (1 : Int64)) ((I 99 a1.toNatClampNeg).toInt64)) ≤ 0 then ((iter (σ := Int32 × gI) (ρ := (gI) ⊕ (Int32 × gI)) (fun z6 => (if (5 : Int32) ≤ z6.1 then some (.inr (.inl z6.2)) else (((if z6.1 ≤ a3 then if ((((24 : Int32) * a1) + a2) + z6.1) < 0 ∨ 192 ≤ ((((24 : Int32) * a1) + a2) + z6.1).toNatClampNeg then none else some (z6.2 100 ((((24 : Int32) * a1) + a2) + z6.1).toNatClampNeg) else some (0 : Int32)) : Option (Int32)).bind (fun z8 => if z6.1 < 0 ∨ 5 ≤ z6.1.toNatClampNeg then none else if z6.1 < 0 ∨ 5 ≤ z6.1.toNatClampNeg then none else ((f_X12_isElement N (gU z6.2 108 z6.1.toNatClampNeg z8) R S ((gU z6.2 108 z6.1.toNatClampNeg z8) 108 z6.1.toNatClampNeg)).bind (fun z9 => (if z9 = 0 then some (.inr (.inr ((-1000001 : Int32), gU z6.2 108 z6.1.toNatClampNeg z8))) else some (.inl (z6.1 + 1, gU z6.2 108 z6.1.toNatClampNeg z8))))))))) N ((0 : Int32), I)).bind (fun y11 => Sum.elim (fun r7 => if (0 : Int32) < 0 ∨ 5 ≤ (0 : Int32).toNatClampNeg then none else (if (r7 108 (0 : Int32).toNatClampNeg) = 0 then some ((-1000001 : Int32), r7) else if a3 < 0 ∨ 5 ≤ a3.toNatClampNeg then none else (if (r7 108 a3.toNatClampNeg) = 0 then some ((-1000001 : Int32), r7) else some ((0 : Int32), r7)))) (fun x10 => some x10) y11)) else ((f_X12_found N I R S (2 : Int32)).bind (fun z12 => some (z12.1, z12.2))))) else ((f_X12_found N I R S (1 : Int32)).bind (fun z13 => some (z13.1, z13.2))))))))))))))
set_option maxRecDepth 100000 in
set_option maxHeartbeats 8000000 in
theorem m_X12_lookMap (l : Launch) (X : gX) (N : Nat) (I : gI) (R : gR) (S : gS) (hL : gLay 91 114 R S) (a0 : Int32) (a1 : Int32) (a2 : Int32) (a3 : Int32) (v : Int32) (J : gI) (hf : f_X12_lookMap N I R S a0 a1 a2 a3 = some (v, J)) : gM l yX12_lookMap wsX12_lookMap { frames := 2, cells := 0, slots := 0, locals := 46 } X gE0 [.ref (X.1 + 91), .int a0, .int a1, .int a2, .int a3] I R S (some (.int v)) J R S 0 0 := by
  unfold f_X12_lookMap at hf
  refine gM_of (cc := cX12_lookMap) (own := RX12) (maxL := 6) (ret := (some .int)) (by decide) rfl rfl (Nat.le_of_ble_eq_true rfl) ?_
  intro p e s m args below meth c C hr hlk hnm hE
  have ho : (some (v, J)) ≠ none := fun h => by cases h
  have k141 := C.2.2.2.2.1 (.constant RX12 141 (-1000001)) (by decide +kernel)
  have k191 := C.2.2.2.2.1 (.constantLong RX12 191 (4)) (by decide +kernel)
  have f70 := C.2.2.2.2.1 (.fieldLink RX12 70 "TimesByPowersModel" "rank" "[I") (by decide +kernel)
  have c11 : gCl wsX12_lookMap 11 RX12 TX12 29 := ⟨by decide, rfl, rfl, by decide +kernel⟩
  have f61 := C.2.2.2.2.1 (.fieldLink RX12 61 "TimesByPowersModel" "lane" "[I") (by decide +kernel)
  have f64 := C.2.2.2.2.1 (.fieldLink RX12 64 "TimesByPowersModel" "many" "[I") (by decide +kernel)
  have f91 := C.2.2.2.2.1 (.fieldLink RX12 91 "TimesByPowersModel" "u" "[I") (by decide +kernel)
  have f67 := C.2.2.2.2.1 (.fieldLink RX12 67 "TimesByPowersModel" "item" "[I") (by decide +kernel)
  refine g_iload_n C dX12_lookMap_0 rfl rfl ?_
  obtain ⟨z1, hz1, hf⟩ := gbind hf ho
  refine g_callS C dX12_lookMap_1 (m_X12_isPlace l X N _ _ _  (gLay.sub hL (by decide) (by decide)) _ z1 hz1) gEin0 (va_cwS 1 C.2.2.2.2.1 gX12_lookMap_X12_isPlace rfl rfl rfl (by decide +kernel) ⟨Nat.le_of_ble_eq_true rfl, Nat.le_of_ble_eq_true rfl⟩) rfl rfl (Nat.le_of_ble_eq_true rfl) ⟨Nat.le_of_ble_eq_true rfl, Nat.le_of_ble_eq_true rfl⟩ ?_
  refine g_if_eq (tgt := 27) C dX12_lookMap_4 (by decide) hf (fun hf => ?_) (fun hf => ?_)
  · refine g_ldc C k141 dX12_lookMap_27 ?_
    cases hf
    exact g_iret C dX12_lookMap_29 hr hlk
  · refine g_iload_n C dX12_lookMap_7 rfl rfl ?_
    obtain ⟨z2, hz2, hf⟩ := gbind hf ho
    refine g_callS C dX12_lookMap_8 (m_X12_isRow l X N _ _ _  (gLay.sub hL (by decide) (by decide)) _ z2 hz2) gEin0 (va_cwS 1 C.2.2.2.2.1 gX12_lookMap_X12_isRow rfl rfl rfl (by decide +kernel) ⟨Nat.le_of_ble_eq_true rfl, Nat.le_of_ble_eq_true rfl⟩) rfl rfl (Nat.le_of_ble_eq_true rfl) ⟨Nat.le_of_ble_eq_true rfl, Nat.le_of_ble_eq_true rfl⟩ ?_
    refine g_if_eq (tgt := 27) C dX12_lookMap_11 (by decide) hf (fun hf => ?_) (fun hf => ?_)
    · refine g_ldc C k141 dX12_lookMap_27 ?_
      cases hf
      exact g_iret C dX12_lookMap_29 hr hlk
    · refine g_iload C dX12_lookMap_14 rfl ?_
      refine g_i2l C dX12_lookMap_16 ?_
      refine g_lconst (v := 1) C dX12_lookMap_17 (by decide) ?_
      refine g_ldc2 C k191 dX12_lookMap_18 ?_
      obtain ⟨z3, hz3, hf⟩ := gbind hf ho
      refine g_callS C dX12_lookMap_21 (m_X12_in l X N _ _ _  (gLay.sub hL (by decide) (by decide)) _ _ _ z3 hz3) gEin0 (va_cwS 3 C.2.2.2.2.1 gX12_lookMap_X12_in rfl rfl rfl (by decide +kernel) ⟨Nat.le_of_ble_eq_true rfl, Nat.le_of_ble_eq_true rfl⟩) rfl rfl (Nat.le_of_ble_eq_true rfl) ⟨Nat.le_of_ble_eq_true rfl, Nat.le_of_ble_eq_true rfl⟩ ?_
      refine g_if_ne (tgt := 30) C dX12_lookMap_24 (by decide) hf (fun hf => ?_) (fun hf => ?_)
      · refine g_aload_n C dX12_lookMap_30 rfl rfl ?_
        refine g_getR (i := 15) (j := 15) C dX12_lookMap_31 (L91 hL (by decide) (by decide)) c11 rfl (by decide) f70 (fun _ h9 => h9) (LR91_15 hL (by decide) (by decide)) ?_
        refine g_iload_n C dX12_lookMap_34 rfl rfl ?_
        refine g_iald C dX12_lookMap_35 (L101 hL (by decide) (by decide)) ho hf (fun hf => ?_)
        refine g_if_eq (tgt := 48) C dX12_lookMap_36 (by decide) hf (fun hf => ?_) (fun hf => ?_)
        · refine g_aload_n C dX12_lookMap_48 rfl rfl ?_
          refine g_iconst (v := 1) C dX12_lookMap_49 (by decide) ?_
          obtain ⟨z4, hz4, hf⟩ := gbind hf ho
          refine g_callV C dX12_lookMap_50 (m_X12_found l X N _ _ _  (gLay.sub hL (by decide) (by decide)) _ z4.1 z4.2 hz4) gEin0 (cwV 1 C.2.2.2.2.1 gX12_lookMap_X12_found rfl rfl rfl (by decide +kernel) ⟨Nat.le_of_ble_eq_true rfl, Nat.le_of_ble_eq_true rfl⟩) (L91 hL (by decide) (by decide)) (by decide) rfl rfl rfl (Nat.le_of_ble_eq_true rfl) ⟨Nat.le_of_ble_eq_true rfl, Nat.le_of_ble_eq_true rfl⟩ ?_
          cases hf
          exact g_iret C dX12_lookMap_53 hr hlk
        · refine g_aload_n C dX12_lookMap_39 rfl rfl ?_
          refine g_getR (i := 12) (j := 12) C dX12_lookMap_40 (L91 hL (by decide) (by decide)) c11 rfl (by decide) f61 (fun _ h9 => h9) (LR91_12 hL (by decide) (by decide)) ?_
          refine g_iload_n C dX12_lookMap_43 rfl rfl ?_
          refine g_iald C dX12_lookMap_44 (L98 hL (by decide) (by decide)) ho hf (fun hf => ?_)
          refine g_if_ge (tgt := 54) C dX12_lookMap_45 (by decide) hf (fun hf => ?_) (fun hf => ?_)
          · refine g_iload_n C dX12_lookMap_54 rfl rfl ?_
            refine g_if_lt (tgt := 77) C dX12_lookMap_55 (by decide) hf (fun hf => ?_) (fun hf => ?_)
            · refine g_aload_n C dX12_lookMap_77 rfl rfl ?_
              refine g_iconst (v := 2) C dX12_lookMap_78 (by decide) ?_
              obtain ⟨z5, hz5, hf⟩ := gbind hf ho
              refine g_callV C dX12_lookMap_79 (m_X12_found l X N _ _ _  (gLay.sub hL (by decide) (by decide)) _ z5.1 z5.2 hz5) gEin0 (cwV 1 C.2.2.2.2.1 gX12_lookMap_X12_found rfl rfl rfl (by decide +kernel) ⟨Nat.le_of_ble_eq_true rfl, Nat.le_of_ble_eq_true rfl⟩) (L91 hL (by decide) (by decide)) (by decide) rfl rfl rfl (Nat.le_of_ble_eq_true rfl) ⟨Nat.le_of_ble_eq_true rfl, Nat.le_of_ble_eq_true rfl⟩ ?_
              cases hf
              exact g_iret C dX12_lookMap_82 hr hlk
            · refine g_iload_n C dX12_lookMap_58 rfl rfl ?_
              refine g_i2l C dX12_lookMap_59 ?_
              refine g_iload C dX12_lookMap_60 rfl ?_
              refine g_i2l C dX12_lookMap_62 ?_
              refine g_ladd C dX12_lookMap_63 ?_
              refine g_lconst (v := 1) C dX12_lookMap_64 (by decide) ?_
              refine g_ladd C dX12_lookMap_65 ?_
              refine g_aload_n C dX12_lookMap_66 rfl rfl ?_
              refine g_getR (i := 13) (j := 13) C dX12_lookMap_67 (L91 hL (by decide) (by decide)) c11 rfl (by decide) f64 (fun _ h9 => h9) (LR91_13 hL (by decide) (by decide)) ?_
              refine g_iload_n C dX12_lookMap_70 rfl rfl ?_
              refine g_iald C dX12_lookMap_71 (L99 hL (by decide) (by decide)) ho hf (fun hf => ?_)
              refine g_i2l C dX12_lookMap_72 ?_
              refine g_lcmp C dX12_lookMap_73 ?_
              refine g_if_le (tgt := 83) C dX12_lookMap_74 (by decide) hf (fun hf => ?_) (fun hf => ?_)
              · refine g_iconst (v := 0) C dX12_lookMap_83 (by decide) ?_
                refine g_istore C dX12_lookMap_84 (Nat.le_of_ble_eq_true rfl) rfl rfl ?_
                refine g_loopR (fun z6 => [(0, .ref (X.1 + 91)), (2, .int a1), (3, .int a2), (4, .int a3), (5, .int z6.1)]) (fun z6 => z6.2) (fun r7 => [(0, .ref (X.1 + 91)), (4, .int a3)]) (fun r7 => r7) 147 hf ho ⟨rfl, rfl, rfl, rfl, rfl, trivial⟩ rfl (fun r7 hf => ?_) (fun z6 o1 hf ho hkz6 hez6 hrz6 => ?_)
                · refine g_aload_n C dX12_lookMap_147 rfl rfl ?_
                  refine g_getR (i := 22) (j := 22) C dX12_lookMap_148 (L91 hL (by decide) (by decide)) c11 rfl (by decide) f91 (fun _ h9 => h9) (LR91_22 hL (by decide) (by decide)) ?_
                  refine g_iconst (v := 0) C dX12_lookMap_151 (by decide) ?_
                  refine g_iald C dX12_lookMap_152 (L108 hL (by decide) (by decide)) ho hf (fun hf => ?_)
                  refine g_if_eq (tgt := 166) C dX12_lookMap_153 (by decide) hf (fun hf => ?_) (fun hf => ?_)
                  · refine g_ldc C k141 dX12_lookMap_166 ?_
                    refine g_goto (tgt := 172) C dX12_lookMap_168 (by decide) ?_
                    cases hf
                    exact g_iret C dX12_lookMap_172 hr hlk
                  · refine g_aload_n C dX12_lookMap_156 rfl rfl ?_
                    refine g_getR (i := 22) (j := 22) C dX12_lookMap_157 (L91 hL (by decide) (by decide)) c11 rfl (by decide) f91 (fun _ h9 => h9) (LR91_22 hL (by decide) (by decide)) ?_
                    refine g_iload C dX12_lookMap_160 rfl ?_
                    refine g_iald C dX12_lookMap_162 (L108 hL (by decide) (by decide)) ho hf (fun hf => ?_)
                    refine g_if_ne (tgt := 171) C dX12_lookMap_163 (by decide) hf (fun hf => ?_) (fun hf => ?_)
                    · refine g_iconst (v := 0) C dX12_lookMap_171 (by decide) ?_
                      cases hf
                      exact g_iret C dX12_lookMap_172 hr hlk
                    · refine g_ldc C k141 dX12_lookMap_166 ?_
                      refine g_goto (tgt := 172) C dX12_lookMap_168 (by decide) ?_
                      cases hf
                      exact g_iret C dX12_lookMap_172 hr hlk
                · refine g_iload C dX12_lookMap_86 rfl ?_
                  refine g_iconst (v := 5) C dX12_lookMap_88 (by decide) ?_
                  refine g_icmp_ge (tgt := 147) C dX12_lookMap_89 (by decide) hf (fun hf => ?_) (fun hf => ?_)
                  · exact g_sub ⟨rfl, rfl, trivial⟩ (hez6 _ hf.symm)
                  · refine g_aload_n C dX12_lookMap_92 rfl rfl ?_
                    refine g_getR (i := 22) (j := 22) C dX12_lookMap_93 (L91 hL (by decide) (by decide)) c11 rfl (by decide) f91 (fun _ h9 => h9) (LR91_22 hL (by decide) (by decide)) ?_
                    refine g_iload C dX12_lookMap_96 rfl ?_
                    refine g_iload C dX12_lookMap_98 rfl ?_
                    refine g_iload C dX12_lookMap_100 rfl ?_
                    refine g_join (fun z8 => [(0, .ref (X.1 + 91)), (2, .int a1), (3, .int a2), (4, .int a3), (5, .int z6.1)]) (fun z8 => [.int z8, .int z6.1, .ref (X.1 + 108)]) (fun z8 => z6.2) 123 hf ho (fun z8 hf => ?_) (fun o1 hf ho hkz8 => ?_)
                    · refine g_iast C dX12_lookMap_123 (L108 hL (by decide) (by decide)) ho hf (fun hf => ?_)
                      refine g_aload_n C dX12_lookMap_124 rfl rfl ?_
                      refine g_aload_n C dX12_lookMap_125 rfl rfl ?_
                      refine g_getR (i := 22) (j := 22) C dX12_lookMap_126 (L91 hL (by decide) (by decide)) c11 rfl (by decide) f91 (fun _ h9 => h9) (LR91_22 hL (by decide) (by decide)) ?_
                      refine g_iload C dX12_lookMap_129 rfl ?_
                      refine g_iald C dX12_lookMap_131 (L108 hL (by decide) (by decide)) ho hf (fun hf => ?_)
                      obtain ⟨z9, hz9, hf⟩ := gbind hf ho
                      refine g_callV C dX12_lookMap_132 (m_X12_isElement l X N _ _ _  (gLay.sub hL (by decide) (by decide)) _ z9 hz9) gEin0 (cwV 1 C.2.2.2.2.1 gX12_lookMap_X12_isElement rfl rfl rfl (by decide +kernel) ⟨Nat.le_of_ble_eq_true rfl, Nat.le_of_ble_eq_true rfl⟩) (L91 hL (by decide) (by decide)) (by decide) rfl rfl rfl (Nat.le_of_ble_eq_true rfl) ⟨Nat.le_of_ble_eq_true rfl, Nat.le_of_ble_eq_true rfl⟩ ?_
                      refine g_if_ne (tgt := 141) C dX12_lookMap_135 (by decide) hf (fun hf => ?_) (fun hf => ?_)
                      · refine g_iinc (d := 1) C dX12_lookMap_141 rfl (by decide) rfl (Nat.le_of_ble_eq_true rfl) rfl rfl ?_
                        refine g_goto (tgt := 86) C dX12_lookMap_144 (by decide) ?_
                        exact g_sub ⟨rfl, rfl, rfl, rfl, rfl, trivial⟩ (hkz6 _ hf.symm)
                      · refine g_ldc C k141 dX12_lookMap_138 ?_
                        replace hf := hrz6 _ hf.symm
                        dsimp only [Sum.elim_inr] at hf
                        cases hf
                        exact g_iret C dX12_lookMap_140 hr hlk
                    · refine g_icmp_le (tgt := 109) C dX12_lookMap_102 (by decide) hf (fun hf => ?_) (fun hf => ?_)
                      · refine g_aload_n C dX12_lookMap_109 rfl rfl ?_
                        refine g_getR (i := 14) (j := 14) C dX12_lookMap_110 (L91 hL (by decide) (by decide)) c11 rfl (by decide) f67 (fun _ h9 => h9) (LR91_14 hL (by decide) (by decide)) ?_
                        refine g_bipush (v := 24) C dX12_lookMap_113 (by decide) ?_
                        refine g_iload_n C dX12_lookMap_115 rfl rfl ?_
                        refine g_imul C dX12_lookMap_116 ?_
                        refine g_iload_n C dX12_lookMap_117 rfl rfl ?_
                        refine g_iadd C dX12_lookMap_118 ?_
                        refine g_iload C dX12_lookMap_119 rfl ?_
                        refine g_iadd C dX12_lookMap_121 ?_
                        refine g_iald C dX12_lookMap_122 (L100 hL (by decide) (by decide)) ho hf (fun hf => ?_)
                        exact g_sub ⟨rfl, rfl, rfl, rfl, rfl, trivial⟩ (hkz8 _ hf.symm)
                      · refine g_iconst (v := 0) C dX12_lookMap_105 (by decide) ?_
                        refine g_goto (tgt := 123) C dX12_lookMap_106 (by decide) ?_
                        exact g_sub ⟨rfl, rfl, rfl, rfl, rfl, trivial⟩ (hkz8 _ hf.symm)
              · refine g_aload_n C dX12_lookMap_77 rfl rfl ?_
                refine g_iconst (v := 2) C dX12_lookMap_78 (by decide) ?_
                obtain ⟨z12, hz12, hf⟩ := gbind hf ho
                refine g_callV C dX12_lookMap_79 (m_X12_found l X N _ _ _  (gLay.sub hL (by decide) (by decide)) _ z12.1 z12.2 hz12) gEin0 (cwV 1 C.2.2.2.2.1 gX12_lookMap_X12_found rfl rfl rfl (by decide +kernel) ⟨Nat.le_of_ble_eq_true rfl, Nat.le_of_ble_eq_true rfl⟩) (L91 hL (by decide) (by decide)) (by decide) rfl rfl rfl (Nat.le_of_ble_eq_true rfl) ⟨Nat.le_of_ble_eq_true rfl, Nat.le_of_ble_eq_true rfl⟩ ?_
                cases hf
                exact g_iret C dX12_lookMap_82 hr hlk
          · refine g_aload_n C dX12_lookMap_48 rfl rfl ?_
            refine g_iconst (v := 1) C dX12_lookMap_49 (by decide) ?_
            obtain ⟨z13, hz13, hf⟩ := gbind hf ho
            refine g_callV C dX12_lookMap_50 (m_X12_found l X N _ _ _  (gLay.sub hL (by decide) (by decide)) _ z13.1 z13.2 hz13) gEin0 (cwV 1 C.2.2.2.2.1 gX12_lookMap_X12_found rfl rfl rfl (by decide +kernel) ⟨Nat.le_of_ble_eq_true rfl, Nat.le_of_ble_eq_true rfl⟩) (L91 hL (by decide) (by decide)) (by decide) rfl rfl rfl (Nat.le_of_ble_eq_true rfl) ⟨Nat.le_of_ble_eq_true rfl, Nat.le_of_ble_eq_true rfl⟩ ?_
            cases hf
            exact g_iret C dX12_lookMap_53 hr hlk
      · refine g_ldc C k141 dX12_lookMap_27 ?_
        cases hf
        exact g_iret C dX12_lookMap_29 hr hlk
def f_X12_map (N : Nat) (I : gI) (R : gR) (S : gS) (a0 : Int32) (a1 : Int32) (a2 : Int32) (a3 : Int32) (a4 : Int32) : Option (Int32 × gI) :=
  ((f_X12_isPlace N (gU I 91 0 (0 : Int32)) R S a0).bind (fun z1 => (if z1 = 0 then some ((-1000001 : Int32), gU I 91 0 (0 : Int32)) else ((f_X12_lookMap N (gU I 91 0 (0 : Int32)) R S a1 a2 a3 a4).bind (fun z2 => (if 0 ≤ z2.1 then if a1 < 0 ∨ 10 ≤ a1.toNatClampNeg then none else ((iter (σ := Int32 × gI) (ρ := gI) (fun z3 => (if (24 : Int32) ≤ z3.1 then some (.inr z3.2) else if z3.1 < 0 ∨ 24 ≤ z3.1.toNatClampNeg then none else some (.inl (z3.1 + 1, gU z3.2 103 z3.1.toNatClampNeg (0 : Int32))))) N ((0 : Int32), gU z2.2 91 1 (0 : Int32))).bind (fun r4 => ((iter (σ := Int32 × gI) (ρ := gI) (fun z5 => (if a4 < z5.1 then some (.inr z5.2) else ((iter (σ := Int32 × gI) (ρ := gI) (fun z7 => (if ((gU z2.2 91 1 (0 : Int32)) 101 a1.toNatClampNeg) < z7.1 then some (.inr z7.2) else if (z5.1 + z7.1) < 0 ∨ 24 ≤ (z5.1 + z7.1).toNatClampNeg then none else if z5.1 < 0 ∨ 5 ≤ z5.1.toNatClampNeg then none else if (((4 : Int32) * a1) + z7.1) < 0 ∨ 40 ≤ (((4 : Int32) * a1) + z7.1).toNatClampNeg then none else ((f_X12_far N z7.2 R S (z7.2 102 (((4 : Int32) * a1) + z7.1).toNatClampNeg) z5.1).bind (fun z9 => ((f_X12_times N z7.2 R S (z7.2 108 z5.1.toNatClampNeg) z9).bind (fun z10 => ((f_X12_add N z7.2 R S (z7.2 103 (z5.1 + z7.1).toNatClampNeg) z10).bind (fun z11 => if (z5.1 + z7.1) < 0 ∨ 24 ≤ (z5.1 + z7.1).toNatClampNeg then none else some (.inl (z7.1 + 1, gU z7.2 103 (z5.1 + z7.1).toNatClampNeg z11)))))))))) N ((0 : Int32), z5.2)).bind (fun r8 => some (.inl (z5.1 + 1, r8)))))) N ((0 : Int32), r4)).bind (fun r6 => ((iter (σ := Int32 × gI) (ρ := (gI) ⊕ (Int32 × gI)) (fun z12 => (if (((gU z2.2 91 1 (0 : Int32)) 101 a1.toNatClampNeg) + a4) < z12.1 then some (.inr (.inl z12.2)) else if z12.1 < 0 ∨ 24 ≤ z12.1.toNatClampNeg then none else ((iter (σ := Int32 × Int32) (ρ := Int32) (fun z14 => (if z12.1 ≤ z14.2 then some (.inr z14.1) else (if ((gU z2.2 91 1 (0 : Int32)) 101 a1.toNatClampNeg) < z14.2 then some (.inr z14.1) else (((if (z12.1 - z14.2) ≤ a4 then if z14.2 < 0 ∨ 4 ≤ z14.2.toNatClampNeg then none else if (z12.1 - z14.2) < 0 ∨ 5 ≤ (z12.1 - z14.2).toNatClampNeg then none else ((f_X12_far N z12.2 R S (z12.2 108 (z12.1 - z14.2).toNatClampNeg) z14.2).bind (fun z17 => ((f_X12_times N z12.2 R S (z12.2 107 z14.2.toNatClampNeg) z17).bind (fun z18 => some z18)))) else some (0 : Int32)) : Option (Int32)).bind (fun z16 => ((f_X12_less N z12.2 R S z14.1 z16).bind (fun z19 => some (.inl (z19, z14.2 + 1))))))))) N (z12.2 103 z12.1.toNatClampNeg, (0 : Int32))).bind (fun r15 => (if ((gU z2.2 91 1 (0 : Int32)) 101 a1.toNatClampNeg) < z12.1 then (if r15 = 0 then some (.inl (z12.1 + 1, z12.2)) else some (.inr (.inr ((-1000000 : Int32), z12.2)))) else if (0 : Int32) < 0 ∨ 5 ≤ (0 : Int32).toNatClampNeg then none else ((f_X12_far N z12.2 R S (z12.2 108 (0 : Int32).toNatClampNeg) z12.1).bind (fun z20 => ((f_X12_inverse N z12.2 R S z20).bind (fun z21 => ((f_X12_times N z12.2 R S r15 z21).bind (fun z22 => if z12.1 < 0 ∨ 4 ≤ z12.1.toNatClampNeg then none else some (.inl (z12.1 + 1, gU z12.2 107 z12.1.toNatClampNeg z22))))))))))))) N ((0 : Int32), r6)).bind (fun y25 => Sum.elim (fun r13 => ((f_X12_lay N r13 R S a0 ((gU z2.2 91 1 (0 : Int32)) 101 a1.toNatClampNeg)).bind (fun z23 => some (z23.1, z23.2)))) (fun x24 => some x24) y25)))))) else some (z2.1, z2.2)))))))
set_option maxRecDepth 100000 in
set_option maxHeartbeats 8000000 in
theorem m_X12_map (l : Launch) (X : gX) (N : Nat) (I : gI) (R : gR) (S : gS) (hL : gLay 91 114 R S) (a0 : Int32) (a1 : Int32) (a2 : Int32) (a3 : Int32) (a4 : Int32) (v : Int32) (J : gI) (hf : f_X12_map N I R S a0 a1 a2 a3 a4 = some (v, J)) : gM l yX12_map wsX12_map { frames := 6, cells := 0, slots := 0, locals := 139 } X gE0 [.ref (X.1 + 91), .int a0, .int a1, .int a2, .int a3, .int a4] I R S (some (.int v)) J R S 0 0 := by
  unfold f_X12_map at hf
  refine gM_of (cc := cX12_map) (own := RX12) (maxL := 11) (ret := (some .int)) (by decide) rfl rfl (Nat.le_of_ble_eq_true rfl) ?_
  intro p e s m args below meth c C hr hlk hnm hE
  have ho : (some (v, J)) ≠ none := fun h => by cases h
  have f1 := C.2.2.2.2.1 (.fieldLink RX12 1 "TimesByPowersModel" "thrown" "I") (by decide +kernel)
  have c11 : gCl wsX12_map 11 RX12 TX12 29 := ⟨by decide, rfl, rfl, by decide +kernel⟩
  have f7 := C.2.2.2.2.1 (.fieldLink RX12 7 "TimesByPowersModel" "status" "I") (by decide +kernel)
  have f70 := C.2.2.2.2.1 (.fieldLink RX12 70 "TimesByPowersModel" "rank" "[I") (by decide +kernel)
  have f76 := C.2.2.2.2.1 (.fieldLink RX12 76 "TimesByPowersModel" "made" "[I") (by decide +kernel)
  have f91 := C.2.2.2.2.1 (.fieldLink RX12 91 "TimesByPowersModel" "u" "[I") (by decide +kernel)
  have f73 := C.2.2.2.2.1 (.fieldLink RX12 73 "TimesByPowersModel" "t" "[I") (by decide +kernel)
  have f88 := C.2.2.2.2.1 (.fieldLink RX12 88 "TimesByPowersModel" "fresh" "[I") (by decide +kernel)
  have k142 := C.2.2.2.2.1 (.constant RX12 142 (-1000000)) (by decide +kernel)
  have k141 := C.2.2.2.2.1 (.constant RX12 141 (-1000001)) (by decide +kernel)
  refine g_aload_n C dX12_map_0 rfl rfl ?_
  refine g_iconst (v := 0) C dX12_map_1 (by decide) ?_
  refine g_putI (i := 0) (j := 0) C dX12_map_2 (L91 hL (by decide) (by decide)) c11 gy11 rfl f1 (fun _ h9 => h9) (Or.inl rfl) rfl ?_
  refine g_iload_n C dX12_map_5 rfl rfl ?_
  obtain ⟨z1, hz1, hf⟩ := gbind hf ho
  refine g_callS C dX12_map_6 (m_X12_isPlace l X N _ _ _  (gLay.sub hL (by decide) (by decide)) _ z1 hz1) gEin0 (va_cwS 1 C.2.2.2.2.1 gX12_map_X12_isPlace rfl rfl rfl (by decide +kernel) ⟨Nat.le_of_ble_eq_true rfl, Nat.le_of_ble_eq_true rfl⟩) rfl rfl (Nat.le_of_ble_eq_true rfl) ⟨Nat.le_of_ble_eq_true rfl, Nat.le_of_ble_eq_true rfl⟩ ?_
  refine g_if_ne (tgt := 15) C dX12_map_9 (by decide) hf (fun hf => ?_) (fun hf => ?_)
  · refine g_aload_n C dX12_map_15 rfl rfl ?_
    refine g_iload_n C dX12_map_16 rfl rfl ?_
    refine g_iload_n C dX12_map_17 rfl rfl ?_
    refine g_iload C dX12_map_18 rfl ?_
    refine g_iload C dX12_map_20 rfl ?_
    obtain ⟨z2, hz2, hf⟩ := gbind hf ho
    refine g_callV C dX12_map_22 (m_X12_lookMap l X N _ _ _  (gLay.sub hL (by decide) (by decide)) _ _ _ _ z2.1 z2.2 hz2) gEin0 (cwV 4 C.2.2.2.2.1 gX12_map_X12_lookMap rfl rfl rfl (by decide +kernel) ⟨Nat.le_of_ble_eq_true rfl, Nat.le_of_ble_eq_true rfl⟩) (L91 hL (by decide) (by decide)) (by decide) rfl rfl rfl (Nat.le_of_ble_eq_true rfl) ⟨Nat.le_of_ble_eq_true rfl, Nat.le_of_ble_eq_true rfl⟩ ?_
    refine g_istore C dX12_map_25 (Nat.le_of_ble_eq_true rfl) rfl rfl ?_
    refine g_iload C dX12_map_27 rfl ?_
    refine g_if_ge (tgt := 35) C dX12_map_29 (by decide) hf (fun hf => ?_) (fun hf => ?_)
    · refine g_aload_n C dX12_map_35 rfl rfl ?_
      refine g_iconst (v := 0) C dX12_map_36 (by decide) ?_
      refine g_putI (i := 1) (j := 1) C dX12_map_37 (L91 hL (by decide) (by decide)) c11 gy11 rfl f7 (fun _ h9 => h9) (Or.inl rfl) rfl ?_
      refine g_aload_n C dX12_map_40 rfl rfl ?_
      refine g_getR (i := 15) (j := 15) C dX12_map_41 (L91 hL (by decide) (by decide)) c11 rfl (by decide) f70 (fun _ h9 => h9) (LR91_15 hL (by decide) (by decide)) ?_
      refine g_iload_n C dX12_map_44 rfl rfl ?_
      refine g_iald C dX12_map_45 (L101 hL (by decide) (by decide)) ho hf (fun hf => ?_)
      refine g_istore C dX12_map_46 (Nat.le_of_ble_eq_true rfl) rfl rfl ?_
      refine g_iconst (v := 0) C dX12_map_48 (by decide) ?_
      refine g_istore C dX12_map_49 (Nat.le_of_ble_eq_true rfl) rfl rfl ?_
      refine g_loop (fun z3 => [(0, .ref (X.1 + 91)), (1, .int a0), (2, .int a1), (5, .int a4), (7, .int ((gU z2.2 91 1 (0 : Int32)) 101 a1.toNatClampNeg)), (8, .int z3.1)]) (fun z3 => z3.2) (fun r4 => [(0, .ref (X.1 + 91)), (1, .int a0), (2, .int a1), (5, .int a4), (7, .int ((gU z2.2 91 1 (0 : Int32)) 101 a1.toNatClampNeg))]) (fun r4 => r4) 72 hf ho ⟨rfl, rfl, rfl, rfl, rfl, rfl, trivial⟩ rfl (fun r4 hf => ?_) (fun z3 o1 hf ho hkz3 hez3 => ?_)
      · refine g_iconst (v := 0) C dX12_map_72 (by decide) ?_
        refine g_istore C dX12_map_73 (Nat.le_of_ble_eq_true rfl) rfl rfl ?_
        refine g_loop (fun z5 => [(0, .ref (X.1 + 91)), (1, .int a0), (2, .int a1), (5, .int a4), (7, .int ((gU z2.2 91 1 (0 : Int32)) 101 a1.toNatClampNeg)), (8, .int z5.1)]) (fun z5 => z5.2) (fun r6 => [(0, .ref (X.1 + 91)), (1, .int a0), (5, .int a4), (7, .int ((gU z2.2 91 1 (0 : Int32)) 101 a1.toNatClampNeg))]) (fun r6 => r6) 156 hf ho ⟨rfl, rfl, rfl, rfl, rfl, rfl, trivial⟩ rfl (fun r6 hf => ?_) (fun z5 o1 hf ho hkz5 hez5 => ?_)
        · refine g_iconst (v := 0) C dX12_map_156 (by decide) ?_
          refine g_istore C dX12_map_157 (Nat.le_of_ble_eq_true rfl) rfl rfl ?_
          refine g_loopR (fun z12 => [(0, .ref (X.1 + 91)), (1, .int a0), (5, .int a4), (7, .int ((gU z2.2 91 1 (0 : Int32)) 101 a1.toNatClampNeg)), (8, .int z12.1)]) (fun z12 => z12.2) (fun r13 => [(0, .ref (X.1 + 91)), (1, .int a0), (7, .int ((gU z2.2 91 1 (0 : Int32)) 101 a1.toNatClampNeg))]) (fun r13 => r13) 303 hf ho ⟨rfl, rfl, rfl, rfl, rfl, trivial⟩ rfl (fun r13 hf => ?_) (fun z12 o1 hf ho hkz12 hez12 hrz12 => ?_)
          · refine g_aload_n C dX12_map_303 rfl rfl ?_
            refine g_iload_n C dX12_map_304 rfl rfl ?_
            refine g_iload C dX12_map_305 rfl ?_
            obtain ⟨z23, hz23, hf⟩ := gbind hf ho
            refine g_callV C dX12_map_307 (m_X12_lay l X N _ _ _  (gLay.sub hL (by decide) (by decide)) _ _ z23.1 z23.2 hz23) gEin0 (cwV 2 C.2.2.2.2.1 gX12_map_X12_lay rfl rfl rfl (by decide +kernel) ⟨Nat.le_of_ble_eq_true rfl, Nat.le_of_ble_eq_true rfl⟩) (L91 hL (by decide) (by decide)) (by decide) rfl rfl rfl (Nat.le_of_ble_eq_true rfl) ⟨Nat.le_of_ble_eq_true rfl, Nat.le_of_ble_eq_true rfl⟩ ?_
            cases hf
            exact g_iret C dX12_map_310 hr hlk
          · refine g_iload C dX12_map_159 rfl ?_
            refine g_iload C dX12_map_161 rfl ?_
            refine g_iload C dX12_map_163 rfl ?_
            refine g_iadd C dX12_map_165 ?_
            refine g_icmp_gt (tgt := 303) C dX12_map_166 (by decide) hf (fun hf => ?_) (fun hf => ?_)
            · exact g_sub ⟨rfl, rfl, rfl, trivial⟩ (hez12 _ hf.symm)
            · refine g_aload_n C dX12_map_169 rfl rfl ?_
              refine g_getR (i := 17) (j := 17) C dX12_map_170 (L91 hL (by decide) (by decide)) c11 rfl (by decide) f76 (fun _ h9 => h9) (LR91_17 hL (by decide) (by decide)) ?_
              refine g_iload C dX12_map_173 rfl ?_
              refine g_iald C dX12_map_175 (L103 hL (by decide) (by decide)) ho hf (fun hf => ?_)
              refine g_istore C dX12_map_176 (Nat.le_of_ble_eq_true rfl) rfl rfl ?_
              refine g_iconst (v := 0) C dX12_map_178 (by decide) ?_
              refine g_istore C dX12_map_179 (Nat.le_of_ble_eq_true rfl) rfl rfl ?_
              refine g_loop (fun z14 => [(0, .ref (X.1 + 91)), (1, .int a0), (5, .int a4), (7, .int ((gU z2.2 91 1 (0 : Int32)) 101 a1.toNatClampNeg)), (8, .int z12.1), (9, .int z14.1), (10, .int z14.2)]) (fun z14 => z12.2) (fun r15 => [(0, .ref (X.1 + 91)), (1, .int a0), (5, .int a4), (7, .int ((gU z2.2 91 1 (0 : Int32)) 101 a1.toNatClampNeg)), (8, .int z12.1), (9, .int r15)]) (fun r15 => z12.2) 250 hf ho ⟨rfl, rfl, rfl, rfl, rfl, rfl, rfl, trivial⟩ rfl (fun r15 hf => ?_) (fun z14 o1 hf ho hkz14 hez14 => ?_)
              · refine g_iload C dX12_map_250 rfl ?_
                refine g_iload C dX12_map_252 rfl ?_
                refine g_icmp_gt (tgt := 289) C dX12_map_254 (by decide) hf (fun hf => ?_) (fun hf => ?_)
                · refine g_iload C dX12_map_289 rfl ?_
                  refine g_if_eq (tgt := 297) C dX12_map_291 (by decide) hf (fun hf => ?_) (fun hf => ?_)
                  · refine g_iinc (d := 1) C dX12_map_297 rfl (by decide) rfl (Nat.le_of_ble_eq_true rfl) rfl rfl ?_
                    refine g_goto (tgt := 159) C dX12_map_300 (by decide) ?_
                    exact g_sub ⟨rfl, rfl, rfl, rfl, rfl, trivial⟩ (hkz12 _ hf.symm)
                  · refine g_ldc C k142 dX12_map_294 ?_
                    replace hf := hrz12 _ hf.symm
                    dsimp only [Sum.elim_inr] at hf
                    cases hf
                    exact g_iret C dX12_map_296 hr hlk
                · refine g_aload_n C dX12_map_257 rfl rfl ?_
                  refine g_getR (i := 21) (j := 21) C dX12_map_258 (L91 hL (by decide) (by decide)) c11 rfl (by decide) f88 (fun _ h9 => h9) (LR91_21 hL (by decide) (by decide)) ?_
                  refine g_iload C dX12_map_261 rfl ?_
                  refine g_aload_n C dX12_map_263 rfl rfl ?_
                  refine g_iload C dX12_map_264 rfl ?_
                  refine g_aload_n C dX12_map_266 rfl rfl ?_
                  refine g_aload_n C dX12_map_267 rfl rfl ?_
                  refine g_aload_n C dX12_map_268 rfl rfl ?_
                  refine g_getR (i := 22) (j := 22) C dX12_map_269 (L91 hL (by decide) (by decide)) c11 rfl (by decide) f91 (fun _ h9 => h9) (LR91_22 hL (by decide) (by decide)) ?_
                  refine g_iconst (v := 0) C dX12_map_272 (by decide) ?_
                  refine g_iald C dX12_map_273 (L108 hL (by decide) (by decide)) ho hf (fun hf => ?_)
                  refine g_iload C dX12_map_274 rfl ?_
                  obtain ⟨z20, hz20, hf⟩ := gbind hf ho
                  refine g_callV C dX12_map_276 (m_X12_far l X N _ _ _  (gLay.sub hL (by decide) (by decide)) _ _ z20 hz20) gEin0 (cwV 2 C.2.2.2.2.1 gX12_map_X12_far rfl rfl rfl (by decide +kernel) ⟨Nat.le_of_ble_eq_true rfl, Nat.le_of_ble_eq_true rfl⟩) (L91 hL (by decide) (by decide)) (by decide) rfl rfl rfl (Nat.le_of_ble_eq_true rfl) ⟨Nat.le_of_ble_eq_true rfl, Nat.le_of_ble_eq_true rfl⟩ ?_
                  obtain ⟨z21, hz21, hf⟩ := gbind hf ho
                  refine g_callV C dX12_map_279 (m_X12_inverse l X N _ _ _  (gLay.sub hL (by decide) (by decide)) _ z21 hz21) gEin0 (cwV 1 C.2.2.2.2.1 gX12_map_X12_inverse rfl rfl rfl (by decide +kernel) ⟨Nat.le_of_ble_eq_true rfl, Nat.le_of_ble_eq_true rfl⟩) (L91 hL (by decide) (by decide)) (by decide) rfl rfl rfl (Nat.le_of_ble_eq_true rfl) ⟨Nat.le_of_ble_eq_true rfl, Nat.le_of_ble_eq_true rfl⟩ ?_
                  obtain ⟨z22, hz22, hf⟩ := gbind hf ho
                  refine g_callV C dX12_map_282 (m_X12_times l X N _ _ _  (gLay.sub hL (by decide) (by decide)) _ _ z22 hz22) gEin0 (cwV 2 C.2.2.2.2.1 gX12_map_X12_times rfl rfl rfl (by decide +kernel) ⟨Nat.le_of_ble_eq_true rfl, Nat.le_of_ble_eq_true rfl⟩) (L91 hL (by decide) (by decide)) (by decide) rfl rfl rfl (Nat.le_of_ble_eq_true rfl) ⟨Nat.le_of_ble_eq_true rfl, Nat.le_of_ble_eq_true rfl⟩ ?_
                  refine g_iast C dX12_map_285 (L107 hL (by decide) (by decide)) ho hf (fun hf => ?_)
                  refine g_goto (tgt := 297) C dX12_map_286 (by decide) ?_
                  refine g_iinc (d := 1) C dX12_map_297 rfl (by decide) rfl (Nat.le_of_ble_eq_true rfl) rfl rfl ?_
                  refine g_goto (tgt := 159) C dX12_map_300 (by decide) ?_
                  exact g_sub ⟨rfl, rfl, rfl, rfl, rfl, trivial⟩ (hkz12 _ hf.symm)
              · refine g_iload C dX12_map_181 rfl ?_
                refine g_iload C dX12_map_183 rfl ?_
                refine g_icmp_ge (tgt := 250) C dX12_map_185 (by decide) hf (fun hf => ?_) (fun hf => ?_)
                · exact g_sub ⟨rfl, rfl, rfl, rfl, rfl, rfl, trivial⟩ (hez14 _ hf.symm)
                · refine g_iload C dX12_map_188 rfl ?_
                  refine g_iload C dX12_map_190 rfl ?_
                  refine g_icmp_gt (tgt := 250) C dX12_map_192 (by decide) hf (fun hf => ?_) (fun hf => ?_)
                  · exact g_sub ⟨rfl, rfl, rfl, rfl, rfl, rfl, trivial⟩ (hez14 _ hf.symm)
                  · refine g_aload_n C dX12_map_195 rfl rfl ?_
                    refine g_iload C dX12_map_196 rfl ?_
                    refine g_iload C dX12_map_198 rfl ?_
                    refine g_iload C dX12_map_200 rfl ?_
                    refine g_isub C dX12_map_202 ?_
                    refine g_iload C dX12_map_203 rfl ?_
                    refine g_join (fun z16 => [(0, .ref (X.1 + 91)), (1, .int a0), (5, .int a4), (7, .int ((gU z2.2 91 1 (0 : Int32)) 101 a1.toNatClampNeg)), (8, .int z12.1), (10, .int z14.2)]) (fun z16 => [.int z16, .int z14.1, .ref (X.1 + 91)]) (fun z16 => z12.2) 239 hf ho (fun z16 hf => ?_) (fun o1 hf ho hkz16 => ?_)
                    · obtain ⟨z19, hz19, hf⟩ := gbind hf ho
                      refine g_callV C dX12_map_239 (m_X12_less l X N _ _ _  (gLay.sub hL (by decide) (by decide)) _ _ z19 hz19) gEin0 (cwV 2 C.2.2.2.2.1 gX12_map_X12_less rfl rfl rfl (by decide +kernel) ⟨Nat.le_of_ble_eq_true rfl, Nat.le_of_ble_eq_true rfl⟩) (L91 hL (by decide) (by decide)) (by decide) rfl rfl rfl (Nat.le_of_ble_eq_true rfl) ⟨Nat.le_of_ble_eq_true rfl, Nat.le_of_ble_eq_true rfl⟩ ?_
                      refine g_istore C dX12_map_242 (Nat.le_of_ble_eq_true rfl) rfl rfl ?_
                      refine g_iinc (d := 1) C dX12_map_244 rfl (by decide) rfl (Nat.le_of_ble_eq_true rfl) rfl rfl ?_
                      refine g_goto (tgt := 181) C dX12_map_247 (by decide) ?_
                      exact g_sub ⟨rfl, rfl, rfl, rfl, rfl, rfl, rfl, trivial⟩ (hkz14 _ hf.symm)
                    · refine g_icmp_le (tgt := 212) C dX12_map_205 (by decide) hf (fun hf => ?_) (fun hf => ?_)
                      · refine g_aload_n C dX12_map_212 rfl rfl ?_
                        refine g_aload_n C dX12_map_213 rfl rfl ?_
                        refine g_getR (i := 21) (j := 21) C dX12_map_214 (L91 hL (by decide) (by decide)) c11 rfl (by decide) f88 (fun _ h9 => h9) (LR91_21 hL (by decide) (by decide)) ?_
                        refine g_iload C dX12_map_217 rfl ?_
                        refine g_iald C dX12_map_219 (L107 hL (by decide) (by decide)) ho hf (fun hf => ?_)
                        refine g_aload_n C dX12_map_220 rfl rfl ?_
                        refine g_aload_n C dX12_map_221 rfl rfl ?_
                        refine g_getR (i := 22) (j := 22) C dX12_map_222 (L91 hL (by decide) (by decide)) c11 rfl (by decide) f91 (fun _ h9 => h9) (LR91_22 hL (by decide) (by decide)) ?_
                        refine g_iload C dX12_map_225 rfl ?_
                        refine g_iload C dX12_map_227 rfl ?_
                        refine g_isub C dX12_map_229 ?_
                        refine g_iald C dX12_map_230 (L108 hL (by decide) (by decide)) ho hf (fun hf => ?_)
                        refine g_iload C dX12_map_231 rfl ?_
                        obtain ⟨z17, hz17, hf⟩ := gbind hf ho
                        refine g_callV C dX12_map_233 (m_X12_far l X N _ _ _  (gLay.sub hL (by decide) (by decide)) _ _ z17 hz17) gEin0 (cwV 2 C.2.2.2.2.1 gX12_map_X12_far rfl rfl rfl (by decide +kernel) ⟨Nat.le_of_ble_eq_true rfl, Nat.le_of_ble_eq_true rfl⟩) (L91 hL (by decide) (by decide)) (by decide) rfl rfl rfl (Nat.le_of_ble_eq_true rfl) ⟨Nat.le_of_ble_eq_true rfl, Nat.le_of_ble_eq_true rfl⟩ ?_
                        obtain ⟨z18, hz18, hf⟩ := gbind hf ho
                        refine g_callV C dX12_map_236 (m_X12_times l X N _ _ _  (gLay.sub hL (by decide) (by decide)) _ _ z18 hz18) gEin0 (cwV 2 C.2.2.2.2.1 gX12_map_X12_times rfl rfl rfl (by decide +kernel) ⟨Nat.le_of_ble_eq_true rfl, Nat.le_of_ble_eq_true rfl⟩) (L91 hL (by decide) (by decide)) (by decide) rfl rfl rfl (Nat.le_of_ble_eq_true rfl) ⟨Nat.le_of_ble_eq_true rfl, Nat.le_of_ble_eq_true rfl⟩ ?_
                        exact g_sub ⟨rfl, rfl, rfl, rfl, rfl, rfl, trivial⟩ (hkz16 _ hf.symm)
                      · refine g_iconst (v := 0) C dX12_map_208 (by decide) ?_
                        refine g_goto (tgt := 239) C dX12_map_209 (by decide) ?_
                        exact g_sub ⟨rfl, rfl, rfl, rfl, rfl, rfl, trivial⟩ (hkz16 _ hf.symm)
        · refine g_iload C dX12_map_75 rfl ?_
          refine g_iload C dX12_map_77 rfl ?_
          refine g_icmp_gt (tgt := 156) C dX12_map_79 (by decide) hf (fun hf => ?_) (fun hf => ?_)
          · exact g_sub ⟨rfl, rfl, rfl, rfl, trivial⟩ (hez5 _ hf.symm)
          · refine g_iconst (v := 0) C dX12_map_82 (by decide) ?_
            refine g_istore C dX12_map_83 (Nat.le_of_ble_eq_true rfl) rfl rfl ?_
            refine g_loop (fun z7 => [(0, .ref (X.1 + 91)), (1, .int a0), (2, .int a1), (5, .int a4), (7, .int ((gU z2.2 91 1 (0 : Int32)) 101 a1.toNatClampNeg)), (8, .int z5.1), (9, .int z7.1)]) (fun z7 => z7.2) (fun r8 => [(0, .ref (X.1 + 91)), (1, .int a0), (2, .int a1), (5, .int a4), (7, .int ((gU z2.2 91 1 (0 : Int32)) 101 a1.toNatClampNeg)), (8, .int z5.1)]) (fun r8 => r8) 150 hf ho ⟨rfl, rfl, rfl, rfl, rfl, rfl, rfl, trivial⟩ rfl (fun r8 hf => ?_) (fun z7 o1 hf ho hkz7 hez7 => ?_)
            · refine g_iinc (d := 1) C dX12_map_150 rfl (by decide) rfl (Nat.le_of_ble_eq_true rfl) rfl rfl ?_
              refine g_goto (tgt := 75) C dX12_map_153 (by decide) ?_
              exact g_sub ⟨rfl, rfl, rfl, rfl, rfl, rfl, trivial⟩ (hkz5 _ hf.symm)
            · refine g_iload C dX12_map_85 rfl ?_
              refine g_iload C dX12_map_87 rfl ?_
              refine g_icmp_gt (tgt := 150) C dX12_map_89 (by decide) hf (fun hf => ?_) (fun hf => ?_)
              · exact g_sub ⟨rfl, rfl, rfl, rfl, rfl, rfl, trivial⟩ (hez7 _ hf.symm)
              · refine g_aload_n C dX12_map_92 rfl rfl ?_
                refine g_getR (i := 17) (j := 17) C dX12_map_93 (L91 hL (by decide) (by decide)) c11 rfl (by decide) f76 (fun _ h9 => h9) (LR91_17 hL (by decide) (by decide)) ?_
                refine g_iload C dX12_map_96 rfl ?_
                refine g_iload C dX12_map_98 rfl ?_
                refine g_iadd C dX12_map_100 ?_
                refine g_aload_n C dX12_map_101 rfl rfl ?_
                refine g_aload_n C dX12_map_102 rfl rfl ?_
                refine g_getR (i := 17) (j := 17) C dX12_map_103 (L91 hL (by decide) (by decide)) c11 rfl (by decide) f76 (fun _ h9 => h9) (LR91_17 hL (by decide) (by decide)) ?_
                refine g_iload C dX12_map_106 rfl ?_
                refine g_iload C dX12_map_108 rfl ?_
                refine g_iadd C dX12_map_110 ?_
                refine g_iald C dX12_map_111 (L103 hL (by decide) (by decide)) ho hf (fun hf => ?_)
                refine g_aload_n C dX12_map_112 rfl rfl ?_
                refine g_aload_n C dX12_map_113 rfl rfl ?_
                refine g_getR (i := 22) (j := 22) C dX12_map_114 (L91 hL (by decide) (by decide)) c11 rfl (by decide) f91 (fun _ h9 => h9) (LR91_22 hL (by decide) (by decide)) ?_
                refine g_iload C dX12_map_117 rfl ?_
                refine g_iald C dX12_map_119 (L108 hL (by decide) (by decide)) ho hf (fun hf => ?_)
                refine g_aload_n C dX12_map_120 rfl rfl ?_
                refine g_aload_n C dX12_map_121 rfl rfl ?_
                refine g_getR (i := 16) (j := 16) C dX12_map_122 (L91 hL (by decide) (by decide)) c11 rfl (by decide) f73 (fun _ h9 => h9) (LR91_16 hL (by decide) (by decide)) ?_
                refine g_iconst (v := 4) C dX12_map_125 (by decide) ?_
                refine g_iload_n C dX12_map_126 rfl rfl ?_
                refine g_imul C dX12_map_127 ?_
                refine g_iload C dX12_map_128 rfl ?_
                refine g_iadd C dX12_map_130 ?_
                refine g_iald C dX12_map_131 (L102 hL (by decide) (by decide)) ho hf (fun hf => ?_)
                refine g_iload C dX12_map_132 rfl ?_
                obtain ⟨z9, hz9, hf⟩ := gbind hf ho
                refine g_callV C dX12_map_134 (m_X12_far l X N _ _ _  (gLay.sub hL (by decide) (by decide)) _ _ z9 hz9) gEin0 (cwV 2 C.2.2.2.2.1 gX12_map_X12_far rfl rfl rfl (by decide +kernel) ⟨Nat.le_of_ble_eq_true rfl, Nat.le_of_ble_eq_true rfl⟩) (L91 hL (by decide) (by decide)) (by decide) rfl rfl rfl (Nat.le_of_ble_eq_true rfl) ⟨Nat.le_of_ble_eq_true rfl, Nat.le_of_ble_eq_true rfl⟩ ?_
                obtain ⟨z10, hz10, hf⟩ := gbind hf ho
                refine g_callV C dX12_map_137 (m_X12_times l X N _ _ _  (gLay.sub hL (by decide) (by decide)) _ _ z10 hz10) gEin0 (cwV 2 C.2.2.2.2.1 gX12_map_X12_times rfl rfl rfl (by decide +kernel) ⟨Nat.le_of_ble_eq_true rfl, Nat.le_of_ble_eq_true rfl⟩) (L91 hL (by decide) (by decide)) (by decide) rfl rfl rfl (Nat.le_of_ble_eq_true rfl) ⟨Nat.le_of_ble_eq_true rfl, Nat.le_of_ble_eq_true rfl⟩ ?_
                obtain ⟨z11, hz11, hf⟩ := gbind hf ho
                refine g_callV C dX12_map_140 (m_X12_add l X N _ _ _  (gLay.sub hL (by decide) (by decide)) _ _ z11 hz11) gEin0 (cwV 2 C.2.2.2.2.1 gX12_map_X12_add rfl rfl rfl (by decide +kernel) ⟨Nat.le_of_ble_eq_true rfl, Nat.le_of_ble_eq_true rfl⟩) (L91 hL (by decide) (by decide)) (by decide) rfl rfl rfl (Nat.le_of_ble_eq_true rfl) ⟨Nat.le_of_ble_eq_true rfl, Nat.le_of_ble_eq_true rfl⟩ ?_
                refine g_iast C dX12_map_143 (L103 hL (by decide) (by decide)) ho hf (fun hf => ?_)
                refine g_iinc (d := 1) C dX12_map_144 rfl (by decide) rfl (Nat.le_of_ble_eq_true rfl) rfl rfl ?_
                refine g_goto (tgt := 85) C dX12_map_147 (by decide) ?_
                exact g_sub ⟨rfl, rfl, rfl, rfl, rfl, rfl, rfl, trivial⟩ (hkz7 _ hf.symm)
      · refine g_iload C dX12_map_51 rfl ?_
        refine g_bipush (v := 24) C dX12_map_53 (by decide) ?_
        refine g_icmp_ge (tgt := 72) C dX12_map_55 (by decide) hf (fun hf => ?_) (fun hf => ?_)
        · exact g_sub ⟨rfl, rfl, rfl, rfl, rfl, trivial⟩ (hez3 _ hf.symm)
        · refine g_aload_n C dX12_map_58 rfl rfl ?_
          refine g_getR (i := 17) (j := 17) C dX12_map_59 (L91 hL (by decide) (by decide)) c11 rfl (by decide) f76 (fun _ h9 => h9) (LR91_17 hL (by decide) (by decide)) ?_
          refine g_iload C dX12_map_62 rfl ?_
          refine g_iconst (v := 0) C dX12_map_64 (by decide) ?_
          refine g_iast C dX12_map_65 (L103 hL (by decide) (by decide)) ho hf (fun hf => ?_)
          refine g_iinc (d := 1) C dX12_map_66 rfl (by decide) rfl (Nat.le_of_ble_eq_true rfl) rfl rfl ?_
          refine g_goto (tgt := 51) C dX12_map_69 (by decide) ?_
          exact g_sub ⟨rfl, rfl, rfl, rfl, rfl, rfl, trivial⟩ (hkz3 _ hf.symm)
    · refine g_iload C dX12_map_32 rfl ?_
      cases hf
      exact g_iret C dX12_map_34 hr hlk
  · refine g_ldc C k141 dX12_map_12 ?_
    cases hf
    exact g_iret C dX12_map_14 hr hlk
def f_X12_clear (N : Nat) (I : gI) (R : gR) (S : gS) (a0 : Int32) : Option (Int32 × gI) :=
  ((f_X12_isPlace N (gU I 91 0 (0 : Int32)) R S a0).bind (fun z1 => (if z1 = 0 then some ((-1000001 : Int32), gU I 91 0 (0 : Int32)) else if a0 < 0 ∨ 10 ≤ a0.toNatClampNeg then none else (((if ((gU I 91 0 (0 : Int32)) 101 a0.toNatClampNeg) ≤ 0 then some (0 : Int32) else some (1 : Int32)) : Option (Int32)).bind (fun z2 => if a0 < 0 ∨ 10 ≤ a0.toNatClampNeg then none else (if z2 = 0 then some ((0 : Int32), gU (gU I 91 0 (0 : Int32)) 101 a0.toNatClampNeg (0 : Int32)) else some ((1 : Int32), gU (gU I 91 0 (0 : Int32)) 101 a0.toNatClampNeg (0 : Int32))))))))
set_option maxRecDepth 100000 in
set_option maxHeartbeats 8000000 in
theorem m_X12_clear (l : Launch) (X : gX) (N : Nat) (I : gI) (R : gR) (S : gS) (hL : gLay 91 114 R S) (a0 : Int32) (v : Int32) (J : gI) (hf : f_X12_clear N I R S a0 = some (v, J)) : gM l yX12_clear wsX12_clear { frames := 2, cells := 0, slots := 0, locals := 45 } X gE0 [.ref (X.1 + 91), .int a0] I R S (some (.int v)) J R S 0 0 := by
  unfold f_X12_clear at hf
  refine gM_of (cc := cX12_clear) (own := RX12) (maxL := 3) (ret := (some .int)) (by decide) rfl rfl (Nat.le_of_ble_eq_true rfl) ?_
  intro p e s m args below meth c C hr hlk hnm hE
  have ho : (some (v, J)) ≠ none := fun h => by cases h
  have f1 := C.2.2.2.2.1 (.fieldLink RX12 1 "TimesByPowersModel" "thrown" "I") (by decide +kernel)
  have c11 : gCl wsX12_clear 11 RX12 TX12 29 := ⟨by decide, rfl, rfl, by decide +kernel⟩
  have f70 := C.2.2.2.2.1 (.fieldLink RX12 70 "TimesByPowersModel" "rank" "[I") (by decide +kernel)
  have k141 := C.2.2.2.2.1 (.constant RX12 141 (-1000001)) (by decide +kernel)
  refine g_aload_n C dX12_clear_0 rfl rfl ?_
  refine g_iconst (v := 0) C dX12_clear_1 (by decide) ?_
  refine g_putI (i := 0) (j := 0) C dX12_clear_2 (L91 hL (by decide) (by decide)) c11 gy11 rfl f1 (fun _ h9 => h9) (Or.inl rfl) rfl ?_
  refine g_iload_n C dX12_clear_5 rfl rfl ?_
  obtain ⟨z1, hz1, hf⟩ := gbind hf ho
  refine g_callS C dX12_clear_6 (m_X12_isPlace l X N _ _ _  (gLay.sub hL (by decide) (by decide)) _ z1 hz1) gEin0 (va_cwS 1 C.2.2.2.2.1 gX12_clear_X12_isPlace rfl rfl rfl (by decide +kernel) ⟨Nat.le_of_ble_eq_true rfl, Nat.le_of_ble_eq_true rfl⟩) rfl rfl (Nat.le_of_ble_eq_true rfl) ⟨Nat.le_of_ble_eq_true rfl, Nat.le_of_ble_eq_true rfl⟩ ?_
  refine g_if_ne (tgt := 15) C dX12_clear_9 (by decide) hf (fun hf => ?_) (fun hf => ?_)
  · refine g_aload_n C dX12_clear_15 rfl rfl ?_
    refine g_getR (i := 15) (j := 15) C dX12_clear_16 (L91 hL (by decide) (by decide)) c11 rfl (by decide) f70 (fun _ h9 => h9) (LR91_15 hL (by decide) (by decide)) ?_
    refine g_iload_n C dX12_clear_19 rfl rfl ?_
    refine g_iald C dX12_clear_20 (L101 hL (by decide) (by decide)) ho hf (fun hf => ?_)
    refine g_join (fun z2 => [(0, .ref (X.1 + 91)), (1, .int a0)]) (fun z2 => [.int z2]) (fun z2 => gU I 91 0 (0 : Int32)) 29 hf ho (fun z2 hf => ?_) (fun o1 hf ho hkz2 => ?_)
    · refine g_istore_n C dX12_clear_29 rfl (Nat.le_of_ble_eq_true rfl) rfl rfl ?_
      refine g_aload_n C dX12_clear_30 rfl rfl ?_
      refine g_getR (i := 15) (j := 15) C dX12_clear_31 (L91 hL (by decide) (by decide)) c11 rfl (by decide) f70 (fun _ h9 => h9) (LR91_15 hL (by decide) (by decide)) ?_
      refine g_iload_n C dX12_clear_34 rfl rfl ?_
      refine g_iconst (v := 0) C dX12_clear_35 (by decide) ?_
      refine g_iast C dX12_clear_36 (L101 hL (by decide) (by decide)) ho hf (fun hf => ?_)
      refine g_iload_n C dX12_clear_37 rfl rfl ?_
      refine g_if_eq (tgt := 45) C dX12_clear_38 (by decide) hf (fun hf => ?_) (fun hf => ?_)
      · refine g_iconst (v := 0) C dX12_clear_45 (by decide) ?_
        cases hf
        exact g_iret C dX12_clear_46 hr hlk
      · refine g_iconst (v := 1) C dX12_clear_41 (by decide) ?_
        refine g_goto (tgt := 46) C dX12_clear_42 (by decide) ?_
        cases hf
        exact g_iret C dX12_clear_46 hr hlk
    · refine g_if_le (tgt := 28) C dX12_clear_21 (by decide) hf (fun hf => ?_) (fun hf => ?_)
      · refine g_iconst (v := 0) C dX12_clear_28 (by decide) ?_
        exact g_sub ⟨rfl, rfl, trivial⟩ (hkz2 _ hf.symm)
      · refine g_iconst (v := 1) C dX12_clear_24 (by decide) ?_
        refine g_goto (tgt := 29) C dX12_clear_25 (by decide) ?_
        exact g_sub ⟨rfl, rfl, trivial⟩ (hkz2 _ hf.symm)
  · refine g_ldc C k141 dX12_clear_12 ?_
    cases hf
    exact g_iret C dX12_clear_14 hr hlk
