def f_X12_look (N : Nat) (I : gI) (R : gR) (S : gS) (a0 : Int32) : Option (Int32 × gI) :=
  if a0 < 0 ∨ 10 ≤ a0.toNatClampNeg then none else (if ((gU I 91 1 (0 : Int32)) 101 a0.toNatClampNeg) = 0 then ((f_X12_found N (gU I 91 1 (0 : Int32)) R S (1 : Int32)).bind (fun z1 => some (z1.1, z1.2))) else some ((0 : Int32), gU I 91 1 (0 : Int32)))
set_option maxRecDepth 100000 in
set_option maxHeartbeats 8000000 in
theorem m_X12_look (l : Launch) (X : gX) (N : Nat) (I : gI) (R : gR) (S : gS) (hL : gLay 91 114 R S) (a0 : Int32) (v : Int32) (J : gI) (hf : f_X12_look N I R S a0 = some (v, J)) : gM l yX12_look wsX12_look { frames := 1, cells := 0, slots := 0, locals := 21 } X gE0 [.ref (X.1 + 91), .int a0] I R S (some (.int v)) J R S 0 0 := by
  unfold f_X12_look at hf
  refine gM_of (cc := cX12_look) (own := RX12) (maxL := 2) (ret := (some .int)) (by decide) rfl rfl (Nat.le_of_ble_eq_true rfl) ?_
  intro p e s m args below meth c C hr hlk hnm hE
  have ho : (some (v, J)) ≠ none := fun h => by cases h
  have f7 := C.2.2.2.2.1 (.fieldLink RX12 7 "TimesByPowersModel" "status" "I") (by decide +kernel)
  have c11 : gCl wsX12_look 11 RX12 TX12 29 := ⟨by decide, rfl, rfl, by decide +kernel⟩
  have f70 := C.2.2.2.2.1 (.fieldLink RX12 70 "TimesByPowersModel" "rank" "[I") (by decide +kernel)
  refine g_aload_n C dX12_look_0 rfl rfl ?_
  refine g_iconst (v := 0) C dX12_look_1 (by decide) ?_
  refine g_putI (i := 1) (j := 1) C dX12_look_2 (L91 hL (by decide) (by decide)) c11 gy11 rfl f7 (fun _ h9 => h9) (Or.inl rfl) rfl ?_
  refine g_aload_n C dX12_look_5 rfl rfl ?_
  refine g_getR (i := 15) (j := 15) C dX12_look_6 (L91 hL (by decide) (by decide)) c11 rfl (by decide) f70 (fun _ h9 => h9) (LR91_15 hL (by decide) (by decide)) ?_
  refine g_iload_n C dX12_look_9 rfl rfl ?_
  refine g_iald C dX12_look_10 (L101 hL (by decide) (by decide)) ho hf (fun hf => ?_)
  refine g_if_ne (tgt := 22) C dX12_look_11 (by decide) hf (fun hf => ?_) (fun hf => ?_)
  · refine g_iconst (v := 0) C dX12_look_22 (by decide) ?_
    cases hf
    exact g_iret C dX12_look_23 hr hlk
  · refine g_aload_n C dX12_look_14 rfl rfl ?_
    refine g_iconst (v := 1) C dX12_look_15 (by decide) ?_
    obtain ⟨z1, hz1, hf⟩ := gbind hf ho
    refine g_callV C dX12_look_16 (m_X12_found l X N _ _ _  (gLay.sub hL (by decide) (by decide)) _ z1.1 z1.2 hz1) gEin0 (cwV 1 C.2.2.2.2.1 gX12_look_X12_found rfl rfl rfl (by decide +kernel) ⟨Nat.le_of_ble_eq_true rfl, Nat.le_of_ble_eq_true rfl⟩) (L91 hL (by decide) (by decide)) (by decide) rfl rfl rfl (Nat.le_of_ble_eq_true rfl) ⟨Nat.le_of_ble_eq_true rfl, Nat.le_of_ble_eq_true rfl⟩ ?_
    refine g_goto (tgt := 23) C dX12_look_19 (by decide) ?_
    cases hf
    exact g_iret C dX12_look_23 hr hlk
def f_X12_markOf (N : Nat) (I : gI) (R : gR) (S : gS) (a0 : Int32) : Option (Int32) :=
  if (((4 : Int32) * a0) + (1 : Int32)) < 0 ∨ 40 ≤ (((4 : Int32) * a0) + (1 : Int32)).toNatClampNeg then none else ((f_X12_raise N I R S (I 102 (((4 : Int32) * a0) + (1 : Int32)).toNatClampNeg) (((I 91 2) + (1 : Int32)).toInt64)).bind (fun z1 => if (((4 : Int32) * a0) + (2 : Int32)) < 0 ∨ 40 ≤ (((4 : Int32) * a0) + (2 : Int32)).toNatClampNeg then none else ((f_X12_inverse N I R S (I 102 (((4 : Int32) * a0) + (2 : Int32)).toNatClampNeg)).bind (fun z2 => ((f_X12_times N I R S z1 z2).bind (fun z3 => some z3))))))
set_option maxRecDepth 100000 in
set_option maxHeartbeats 8000000 in
theorem m_X12_markOf (l : Launch) (X : gX) (N : Nat) (I : gI) (R : gR) (S : gS) (hL : gLay 91 114 R S) (a0 : Int32) (v : Int32) (hf : f_X12_markOf N I R S a0 = some v) : gM l yX12_markOf wsX12_markOf { frames := 1, cells := 0, slots := 0, locals := 23 } X gE0 [.ref (X.1 + 91), .int a0] I R S (some (.int v)) I R S 0 0 := by
  unfold f_X12_markOf at hf
  refine gM_of (cc := cX12_markOf) (own := RX12) (maxL := 2) (ret := (some .int)) (by decide) rfl rfl (Nat.le_of_ble_eq_true rfl) ?_
  intro p e s m args below meth c C hr hlk hnm hE
  have ho : (some v) ≠ none := fun h => by cases h
  have f73 := C.2.2.2.2.1 (.fieldLink RX12 73 "TimesByPowersModel" "t" "[I") (by decide +kernel)
  have c11 : gCl wsX12_markOf 11 RX12 TX12 29 := ⟨by decide, rfl, rfl, by decide +kernel⟩
  have f11 := C.2.2.2.2.1 (.fieldLink RX12 11 "TimesByPowersModel" "p" "I") (by decide +kernel)
  refine g_aload_n C dX12_markOf_0 rfl rfl ?_
  refine g_aload_n C dX12_markOf_1 rfl rfl ?_
  refine g_aload_n C dX12_markOf_2 rfl rfl ?_
  refine g_getR (i := 16) (j := 16) C dX12_markOf_3 (L91 hL (by decide) (by decide)) c11 rfl (by decide) f73 (fun _ h9 => h9) (LR91_16 hL (by decide) (by decide)) ?_
  refine g_iconst (v := 4) C dX12_markOf_6 (by decide) ?_
  refine g_iload_n C dX12_markOf_7 rfl rfl ?_
  refine g_imul C dX12_markOf_8 ?_
  refine g_iconst (v := 1) C dX12_markOf_9 (by decide) ?_
  refine g_iadd C dX12_markOf_10 ?_
  refine g_iald C dX12_markOf_11 (L102 hL (by decide) (by decide)) ho hf (fun hf => ?_)
  refine g_aload_n C dX12_markOf_12 rfl rfl ?_
  refine g_getI (i := 2) (j := 2) C dX12_markOf_13 (L91 hL (by decide) (by decide)) c11 rfl f11 (fun _ h9 => h9) ?_
  refine g_iconst (v := 1) C dX12_markOf_16 (by decide) ?_
  refine g_iadd C dX12_markOf_17 ?_
  refine g_i2l C dX12_markOf_18 ?_
  obtain ⟨z1, hz1, hf⟩ := gbind hf ho
  refine g_callV C dX12_markOf_19 (m_X12_raise l X N _ _ _  (gLay.sub hL (by decide) (by decide)) _ _ z1 hz1) gEin0 (cwV 2 C.2.2.2.2.1 gX12_markOf_X12_raise rfl rfl rfl (by decide +kernel) ⟨Nat.le_of_ble_eq_true rfl, Nat.le_of_ble_eq_true rfl⟩) (L91 hL (by decide) (by decide)) (by decide) rfl rfl rfl (Nat.le_of_ble_eq_true rfl) ⟨Nat.le_of_ble_eq_true rfl, Nat.le_of_ble_eq_true rfl⟩ ?_
  refine g_aload_n C dX12_markOf_22 rfl rfl ?_
  refine g_aload_n C dX12_markOf_23 rfl rfl ?_
  refine g_getR (i := 16) (j := 16) C dX12_markOf_24 (L91 hL (by decide) (by decide)) c11 rfl (by decide) f73 (fun _ h9 => h9) (LR91_16 hL (by decide) (by decide)) ?_
  refine g_iconst (v := 4) C dX12_markOf_27 (by decide) ?_
  refine g_iload_n C dX12_markOf_28 rfl rfl ?_
  refine g_imul C dX12_markOf_29 ?_
  refine g_iconst (v := 2) C dX12_markOf_30 (by decide) ?_
  refine g_iadd C dX12_markOf_31 ?_
  refine g_iald C dX12_markOf_32 (L102 hL (by decide) (by decide)) ho hf (fun hf => ?_)
  obtain ⟨z2, hz2, hf⟩ := gbind hf ho
  refine g_callV C dX12_markOf_33 (m_X12_inverse l X N _ _ _  (gLay.sub hL (by decide) (by decide)) _ z2 hz2) gEin0 (cwV 1 C.2.2.2.2.1 gX12_markOf_X12_inverse rfl rfl rfl (by decide +kernel) ⟨Nat.le_of_ble_eq_true rfl, Nat.le_of_ble_eq_true rfl⟩) (L91 hL (by decide) (by decide)) (by decide) rfl rfl rfl (Nat.le_of_ble_eq_true rfl) ⟨Nat.le_of_ble_eq_true rfl, Nat.le_of_ble_eq_true rfl⟩ ?_
  obtain ⟨z3, hz3, hf⟩ := gbind hf ho
  refine g_callV C dX12_markOf_36 (m_X12_times l X N _ _ _  (gLay.sub hL (by decide) (by decide)) _ _ z3 hz3) gEin0 (cwV 2 C.2.2.2.2.1 gX12_markOf_X12_times rfl rfl rfl (by decide +kernel) ⟨Nat.le_of_ble_eq_true rfl, Nat.le_of_ble_eq_true rfl⟩) (L91 hL (by decide) (by decide)) (by decide) rfl rfl rfl (Nat.le_of_ble_eq_true rfl) ⟨Nat.le_of_ble_eq_true rfl, Nat.le_of_ble_eq_true rfl⟩ ?_
  cases hf
  exact g_iret C dX12_markOf_39 hr hlk
def f_X12_goOn (N : Nat) (I : gI) (R : gR) (S : gS) (a0 : Int32) (a1 : Int32) (a2 : Int32) : Option (gI) :=
  if ((7 : Int32) * a1) < 0 ∨ 42 ≤ ((7 : Int32) * a1).toNatClampNeg then none else ((iter (σ := Int32 × gI) (ρ := gI) (fun z1 => (if (7 : Int32) ≤ z1.1 then some (.inr z1.2) else if ((((7 : Int32) * a1) + z1.1) - (1 : Int32)) < 0 ∨ 42 ≤ ((((7 : Int32) * a1) + z1.1) - (1 : Int32)).toNatClampNeg then none else ((f_X12_step N z1.2 R S a0 (z1.2 109 ((((7 : Int32) * a1) + z1.1) - (1 : Int32)).toNatClampNeg)).bind (fun z3 => if (((7 : Int32) * a1) + z1.1) < 0 ∨ 42 ≤ (((7 : Int32) * a1) + z1.1).toNatClampNeg then none else some (.inl (z1.1 + 1, gU z1.2 109 (((7 : Int32) * a1) + z1.1).toNatClampNeg z3)))))) N ((1 : Int32), gU I 109 ((7 : Int32) * a1).toNatClampNeg a2)).bind (fun r2 => some r2))
set_option maxRecDepth 100000 in
set_option maxHeartbeats 8000000 in
theorem m_X12_goOn (l : Launch) (X : gX) (N : Nat) (I : gI) (R : gR) (S : gS) (hL : gLay 91 114 R S) (a0 : Int32) (a1 : Int32) (a2 : Int32) (J : gI) (hf : f_X12_goOn N I R S a0 a1 a2 = some J) : gM l yX12_goOn wsX12_goOn { frames := 2, cells := 0, slots := 0, locals := 51 } X gE0 [.ref (X.1 + 91), .int a0, .int a1, .int a2] I R S none J R S 0 0 := by
  unfold f_X12_goOn at hf
  refine gM_of (cc := cX12_goOn) (own := RX12) (maxL := 5) (ret := none) (by decide) rfl rfl (Nat.le_of_ble_eq_true rfl) ?_
  intro p e s m args below meth c C hr hlk hnm hE
  have ho : (some J) ≠ none := fun h => by cases h
  have f94 := C.2.2.2.2.1 (.fieldLink RX12 94 "TimesByPowersModel" "way" "[I") (by decide +kernel)
  have c11 : gCl wsX12_goOn 11 RX12 TX12 29 := ⟨by decide, rfl, rfl, by decide +kernel⟩
  refine g_aload_n C dX12_goOn_0 rfl rfl ?_
  refine g_getR (i := 23) (j := 23) C dX12_goOn_1 (L91 hL (by decide) (by decide)) c11 rfl (by decide) f94 (fun _ h9 => h9) (LR91_23 hL (by decide) (by decide)) ?_
  refine g_bipush (v := 7) C dX12_goOn_4 (by decide) ?_
  refine g_iload_n C dX12_goOn_6 rfl rfl ?_
  refine g_imul C dX12_goOn_7 ?_
  refine g_iload_n C dX12_goOn_8 rfl rfl ?_
  refine g_iast C dX12_goOn_9 (L109 hL (by decide) (by decide)) ho hf (fun hf => ?_)
  refine g_iconst (v := 1) C dX12_goOn_10 (by decide) ?_
  refine g_istore C dX12_goOn_11 (Nat.le_of_ble_eq_true rfl) rfl rfl ?_
  refine g_loop (fun z1 => [(0, .ref (X.1 + 91)), (1, .int a0), (2, .int a1), (4, .int z1.1)]) (fun z1 => z1.2) (fun r2 => []) (fun r2 => r2) 57 hf ho ⟨rfl, rfl, rfl, rfl, trivial⟩ rfl (fun r2 hf => ?_) (fun z1 o1 hf ho hkz1 hez1 => ?_)
  · cases hf
    exact g_vret C dX12_goOn_57 hr hlk
  · refine g_iload C dX12_goOn_13 rfl ?_
    refine g_bipush (v := 7) C dX12_goOn_15 (by decide) ?_
    refine g_icmp_ge (tgt := 57) C dX12_goOn_17 (by decide) hf (fun hf => ?_) (fun hf => ?_)
    · exact g_sub ⟨trivial⟩ (hez1 _ hf.symm)
    · refine g_aload_n C dX12_goOn_20 rfl rfl ?_
      refine g_getR (i := 23) (j := 23) C dX12_goOn_21 (L91 hL (by decide) (by decide)) c11 rfl (by decide) f94 (fun _ h9 => h9) (LR91_23 hL (by decide) (by decide)) ?_
      refine g_bipush (v := 7) C dX12_goOn_24 (by decide) ?_
      refine g_iload_n C dX12_goOn_26 rfl rfl ?_
      refine g_imul C dX12_goOn_27 ?_
      refine g_iload C dX12_goOn_28 rfl ?_
      refine g_iadd C dX12_goOn_30 ?_
      refine g_aload_n C dX12_goOn_31 rfl rfl ?_
      refine g_iload_n C dX12_goOn_32 rfl rfl ?_
      refine g_aload_n C dX12_goOn_33 rfl rfl ?_
      refine g_getR (i := 23) (j := 23) C dX12_goOn_34 (L91 hL (by decide) (by decide)) c11 rfl (by decide) f94 (fun _ h9 => h9) (LR91_23 hL (by decide) (by decide)) ?_
      refine g_bipush (v := 7) C dX12_goOn_37 (by decide) ?_
      refine g_iload_n C dX12_goOn_39 rfl rfl ?_
      refine g_imul C dX12_goOn_40 ?_
      refine g_iload C dX12_goOn_41 rfl ?_
      refine g_iadd C dX12_goOn_43 ?_
      refine g_iconst (v := 1) C dX12_goOn_44 (by decide) ?_
      refine g_isub C dX12_goOn_45 ?_
      refine g_iald C dX12_goOn_46 (L109 hL (by decide) (by decide)) ho hf (fun hf => ?_)
      obtain ⟨z3, hz3, hf⟩ := gbind hf ho
      refine g_callV C dX12_goOn_47 (m_X12_step l X N _ _ _  (gLay.sub hL (by decide) (by decide)) _ _ z3 hz3) gEin0 (cwV 2 C.2.2.2.2.1 gX12_goOn_X12_step rfl rfl rfl (by decide +kernel) ⟨Nat.le_of_ble_eq_true rfl, Nat.le_of_ble_eq_true rfl⟩) (L91 hL (by decide) (by decide)) (by decide) rfl rfl rfl (Nat.le_of_ble_eq_true rfl) ⟨Nat.le_of_ble_eq_true rfl, Nat.le_of_ble_eq_true rfl⟩ ?_
      refine g_iast C dX12_goOn_50 (L109 hL (by decide) (by decide)) ho hf (fun hf => ?_)
      refine g_iinc (d := 1) C dX12_goOn_51 rfl (by decide) rfl (Nat.le_of_ble_eq_true rfl) rfl rfl ?_
      refine g_goto (tgt := 13) C dX12_goOn_54 (by decide) ?_
      exact g_sub ⟨rfl, rfl, rfl, rfl, trivial⟩ (hkz1 _ hf.symm)
def f_X12_leastOf (N : Nat) (I : gI) (R : gR) (S : gS) (a0 : Int32) : Option (Int32 × gI) :=
  ((iter (σ := Int32 × gI) (ρ := (gI) ⊕ (Int32 × gI)) (fun z1 => (if (z1.2 91 3) < z1.1 then some (.inr (.inl z1.2)) else ((f_X12_power N z1.2 R S (z1.2 91 2) z1.1).bind (fun z3 => ((iter (σ := Int32 × gI) (ρ := (gI) ⊕ (Int32 × gI)) (fun z4 => (if z3 ≤ z4.1 then some (.inr (.inl z4.2)) else ((f_X12_figures N z4.2 R S z4.1 92).bind (fun z6 => ((iter (σ := Int32 × Int32) (ρ := Int32) (fun z7 => (if a0 ≤ z7.2 then some (.inr z7.1) else (if z7.1 = 0 then some (.inr z7.1) else if (((7 : Int32) * z7.2) + z1.1) < 0 ∨ 42 ≤ (((7 : Int32) * z7.2) + z1.1).toNatClampNeg then none else ((iter (σ := Int32 × Int32) (ρ := Int32) (fun z9 => (if z1.1 ≤ z9.2 then some (.inr z9.1) else if z9.2 < 0 ∨ 16 ≤ z9.2.toNatClampNeg then none else if (((7 : Int32) * z7.2) + z9.2) < 0 ∨ 42 ≤ (((7 : Int32) * z7.2) + z9.2).toNatClampNeg then none else ((f_X12_times N z6.2 R S (z6.2 92 z9.2.toNatClampNeg) (z6.2 109 (((7 : Int32) * z7.2) + z9.2).toNatClampNeg)).bind (fun z11 => ((f_X12_add N z6.2 R S z9.1 z11).bind (fun z12 => some (.inl (z12, z9.2 + 1)))))))) N (z6.2 109 (((7 : Int32) * z7.2) + z1.1).toNatClampNeg, (0 : Int32))).bind (fun r10 => (if r10 = 0 then some (.inl ((1 : Int32), z7.2 + 1)) else some (.inl ((0 : Int32), z7.2 + 1)))))))) N ((1 : Int32), (0 : Int32))).bind (fun r8 => (if r8 = 0 then some (.inl (z4.1 + 1, z6.2)) else some (.inr (.inr (z3 + z4.1, z6.2)))))))))) N ((0 : Int32), z1.2)).bind (fun y14 => Sum.elim (fun r5 => some (.inl (z1.1 + 1, r5))) (fun x13 => some (.inr (.inr x13))) y14)))))) N ((0 : Int32), I)).bind (fun y16 => Sum.elim (fun r2 => some ((-1000000 : Int32), r2)) (fun x15 => some x15) y16))
set_option maxRecDepth 100000 in
set_option maxHeartbeats 8000000 in
theorem m_X12_leastOf (l : Launch) (X : gX) (N : Nat) (I : gI) (R : gR) (S : gS) (hL : gLay 91 114 R S) (a0 : Int32) (v : Int32) (J : gI) (hf : f_X12_leastOf N I R S a0 = some (v, J)) : gM l yX12_leastOf wsX12_leastOf { frames := 1, cells := 0, slots := 0, locals := 26 } X gE0 [.ref (X.1 + 91), .int a0] I R S (some (.int v)) J R S 0 0 := by
  unfold f_X12_leastOf at hf
  refine gM_of (cc := cX12_leastOf) (own := RX12) (maxL := 10) (ret := (some .int)) (by decide) rfl rfl (Nat.le_of_ble_eq_true rfl) ?_
  intro p e s m args below meth c C hr hlk hnm hE
  have ho : (some (v, J)) ≠ none := fun h => by cases h
  have f42 := C.2.2.2.2.1 (.fieldLink RX12 42 "TimesByPowersModel" "n" "I") (by decide +kernel)
  have c11 : gCl wsX12_leastOf 11 RX12 TX12 29 := ⟨by decide, rfl, rfl, by decide +kernel⟩
  have f11 := C.2.2.2.2.1 (.fieldLink RX12 11 "TimesByPowersModel" "p" "I") (by decide +kernel)
  have f26 := C.2.2.2.2.1 (.fieldLink RX12 26 "TimesByPowersModel" "one" "[I") (by decide +kernel)
  have f94 := C.2.2.2.2.1 (.fieldLink RX12 94 "TimesByPowersModel" "way" "[I") (by decide +kernel)
  have k142 := C.2.2.2.2.1 (.constant RX12 142 (-1000000)) (by decide +kernel)
  refine g_iconst (v := 0) C dX12_leastOf_0 (by decide) ?_
  refine g_istore_n C dX12_leastOf_1 rfl (Nat.le_of_ble_eq_true rfl) rfl rfl ?_
  refine g_loopR (fun z1 => [(0, .ref (X.1 + 91)), (1, .int a0), (2, .int z1.1)]) (fun z1 => z1.2) (fun r2 => []) (fun r2 => r2) 158 hf ho ⟨rfl, rfl, rfl, trivial⟩ rfl (fun r2 hf => ?_) (fun z1 o1 hf ho hkz1 hez1 hrz1 => ?_)
  · refine g_ldc C k142 dX12_leastOf_158 ?_
    cases hf
    exact g_iret C dX12_leastOf_160 hr hlk
  · refine g_iload_n C dX12_leastOf_2 rfl rfl ?_
    refine g_aload_n C dX12_leastOf_3 rfl rfl ?_
    refine g_getI (i := 3) (j := 3) C dX12_leastOf_4 (L91 hL (by decide) (by decide)) c11 rfl f42 (fun _ h9 => h9) ?_
    refine g_icmp_gt (tgt := 158) C dX12_leastOf_7 (by decide) hf (fun hf => ?_) (fun hf => ?_)
    · exact g_sub ⟨trivial⟩ (hez1 _ hf.symm)
    · refine g_aload_n C dX12_leastOf_10 rfl rfl ?_
      refine g_getI (i := 2) (j := 2) C dX12_leastOf_11 (L91 hL (by decide) (by decide)) c11 rfl f11 (fun _ h9 => h9) ?_
      refine g_iload_n C dX12_leastOf_14 rfl rfl ?_
      obtain ⟨z3, hz3, hf⟩ := gbind hf ho
      refine g_callS C dX12_leastOf_15 (m_X12_power l X N _ _ _  (gLay.sub hL (by decide) (by decide)) _ _ z3 hz3) gEin0 (va_cwS 2 C.2.2.2.2.1 gX12_leastOf_X12_power rfl rfl rfl (by decide +kernel) ⟨Nat.le_of_ble_eq_true rfl, Nat.le_of_ble_eq_true rfl⟩) rfl rfl (Nat.le_of_ble_eq_true rfl) ⟨Nat.le_of_ble_eq_true rfl, Nat.le_of_ble_eq_true rfl⟩ ?_
      refine g_istore_n C dX12_leastOf_18 rfl (Nat.le_of_ble_eq_true rfl) rfl rfl ?_
      refine g_iconst (v := 0) C dX12_leastOf_19 (by decide) ?_
      refine g_istore C dX12_leastOf_20 (Nat.le_of_ble_eq_true rfl) rfl rfl ?_
      refine g_loopR (fun z4 => [(0, .ref (X.1 + 91)), (1, .int a0), (2, .int z1.1), (3, .int z3), (4, .int z4.1)]) (fun z4 => z4.2) (fun r5 => [(0, .ref (X.1 + 91)), (1, .int a0), (2, .int z1.1)]) (fun r5 => r5) 152 hf ho ⟨rfl, rfl, rfl, rfl, rfl, trivial⟩ rfl (fun r5 hf => ?_) (fun z4 o1 hf ho hkz4 hez4 hrz4 => ?_)
      · refine g_iinc (d := 1) C dX12_leastOf_152 rfl (by decide) rfl (Nat.le_of_ble_eq_true rfl) rfl rfl ?_
        refine g_goto (tgt := 2) C dX12_leastOf_155 (by decide) ?_
        exact g_sub ⟨rfl, rfl, rfl, trivial⟩ (hkz1 _ hf.symm)
      · refine g_iload C dX12_leastOf_22 rfl ?_
        refine g_iload_n C dX12_leastOf_24 rfl rfl ?_
        refine g_icmp_ge (tgt := 152) C dX12_leastOf_25 (by decide) hf (fun hf => ?_) (fun hf => ?_)
        · exact g_sub ⟨rfl, rfl, rfl, trivial⟩ (hez4 _ hf.symm)
        · refine g_aload_n C dX12_leastOf_28 rfl rfl ?_
          refine g_iload C dX12_leastOf_29 rfl ?_
          refine g_aload_n C dX12_leastOf_31 rfl rfl ?_
          refine g_getR (i := 6) (j := 6) C dX12_leastOf_32 (L91 hL (by decide) (by decide)) c11 rfl (by decide) f26 (fun _ h9 => h9) (LR91_6 hL (by decide) (by decide)) ?_
          obtain ⟨z6, hz6, hf⟩ := gbind hf ho
          refine g_callV C dX12_leastOf_35 (m_X12_figures l X N _ _ _  (gLay.sub hL (by decide) (by decide)) _ _ z6.1 z6.2 hz6) gEin0 (cwV 2 C.2.2.2.2.1 gX12_leastOf_X12_figures rfl rfl rfl (by decide +kernel) ⟨Nat.le_of_ble_eq_true rfl, Nat.le_of_ble_eq_true rfl⟩) (L91 hL (by decide) (by decide)) (by decide) rfl rfl rfl (Nat.le_of_ble_eq_true rfl) ⟨Nat.le_of_ble_eq_true rfl, Nat.le_of_ble_eq_true rfl⟩ ?_
          refine g_istore C dX12_leastOf_38 (Nat.le_of_ble_eq_true rfl) rfl rfl ?_
          refine g_iconst (v := 1) C dX12_leastOf_40 (by decide) ?_
          refine g_istore C dX12_leastOf_41 (Nat.le_of_ble_eq_true rfl) rfl rfl ?_
          refine g_iconst (v := 0) C dX12_leastOf_43 (by decide) ?_
          refine g_istore C dX12_leastOf_44 (Nat.le_of_ble_eq_true rfl) rfl rfl ?_
          refine g_loop (fun z7 => [(0, .ref (X.1 + 91)), (1, .int a0), (2, .int z1.1), (3, .int z3), (4, .int z4.1), (6, .int z7.1), (7, .int z7.2)]) (fun z7 => z6.2) (fun r8 => [(0, .ref (X.1 + 91)), (1, .int a0), (2, .int z1.1), (3, .int z3), (4, .int z4.1), (6, .int r8)]) (fun r8 => z6.2) 136 hf ho ⟨rfl, rfl, rfl, rfl, rfl, rfl, rfl, trivial⟩ rfl (fun r8 hf => ?_) (fun z7 o1 hf ho hkz7 hez7 => ?_)
          · refine g_iload C dX12_leastOf_136 rfl ?_
            refine g_if_eq (tgt := 146) C dX12_leastOf_138 (by decide) hf (fun hf => ?_) (fun hf => ?_)
            · refine g_iinc (d := 1) C dX12_leastOf_146 rfl (by decide) rfl (Nat.le_of_ble_eq_true rfl) rfl rfl ?_
              refine g_goto (tgt := 22) C dX12_leastOf_149 (by decide) ?_
              exact g_sub ⟨rfl, rfl, rfl, rfl, rfl, trivial⟩ (hkz4 _ hf.symm)
            · refine g_iload_n C dX12_leastOf_141 rfl rfl ?_
              refine g_iload C dX12_leastOf_142 rfl ?_
              refine g_iadd C dX12_leastOf_144 ?_
              replace hf := hrz4 _ hf.symm
              dsimp only [Sum.elim_inr] at hf
              replace hf := hrz1 _ hf.symm
              dsimp only [Sum.elim_inr] at hf
              cases hf
              exact g_iret C dX12_leastOf_145 hr hlk
          · refine g_iload C dX12_leastOf_46 rfl ?_
            refine g_iload_n C dX12_leastOf_48 rfl rfl ?_
            refine g_icmp_ge (tgt := 136) C dX12_leastOf_49 (by decide) hf (fun hf => ?_) (fun hf => ?_)
            · exact g_sub ⟨rfl, rfl, rfl, rfl, rfl, rfl, trivial⟩ (hez7 _ hf.symm)
            · refine g_iload C dX12_leastOf_52 rfl ?_
              refine g_if_eq (tgt := 136) C dX12_leastOf_54 (by decide) hf (fun hf => ?_) (fun hf => ?_)
              · exact g_sub ⟨rfl, rfl, rfl, rfl, rfl, rfl, trivial⟩ (hez7 _ hf.symm)
              · refine g_aload_n C dX12_leastOf_57 rfl rfl ?_
                refine g_getR (i := 23) (j := 23) C dX12_leastOf_58 (L91 hL (by decide) (by decide)) c11 rfl (by decide) f94 (fun _ h9 => h9) (LR91_23 hL (by decide) (by decide)) ?_
                refine g_bipush (v := 7) C dX12_leastOf_61 (by decide) ?_
                refine g_iload C dX12_leastOf_63 rfl ?_
                refine g_imul C dX12_leastOf_65 ?_
                refine g_iload_n C dX12_leastOf_66 rfl rfl ?_
                refine g_iadd C dX12_leastOf_67 ?_
                refine g_iald C dX12_leastOf_68 (L109 hL (by decide) (by decide)) ho hf (fun hf => ?_)
                refine g_istore C dX12_leastOf_69 (Nat.le_of_ble_eq_true rfl) rfl rfl ?_
                refine g_iconst (v := 0) C dX12_leastOf_71 (by decide) ?_
                refine g_istore C dX12_leastOf_72 (Nat.le_of_ble_eq_true rfl) rfl rfl ?_
                refine g_loop (fun z9 => [(0, .ref (X.1 + 91)), (1, .int a0), (2, .int z1.1), (3, .int z3), (4, .int z4.1), (7, .int z7.2), (8, .int z9.1), (9, .int z9.2)]) (fun z9 => z6.2) (fun r10 => [(0, .ref (X.1 + 91)), (1, .int a0), (2, .int z1.1), (3, .int z3), (4, .int z4.1), (7, .int z7.2), (8, .int r10)]) (fun r10 => z6.2) 118 hf ho ⟨rfl, rfl, rfl, rfl, rfl, rfl, rfl, rfl, trivial⟩ rfl (fun r10 hf => ?_) (fun z9 o1 hf ho hkz9 hez9 => ?_)
                · refine g_iload C dX12_leastOf_118 rfl ?_
                  refine g_if_ne (tgt := 127) C dX12_leastOf_120 (by decide) hf (fun hf => ?_) (fun hf => ?_)
                  · refine g_iconst (v := 0) C dX12_leastOf_127 (by decide) ?_
                    refine g_istore C dX12_leastOf_128 (Nat.le_of_ble_eq_true rfl) rfl rfl ?_
                    refine g_iinc (d := 1) C dX12_leastOf_130 rfl (by decide) rfl (Nat.le_of_ble_eq_true rfl) rfl rfl ?_
                    refine g_goto (tgt := 46) C dX12_leastOf_133 (by decide) ?_
                    exact g_sub ⟨rfl, rfl, rfl, rfl, rfl, rfl, rfl, trivial⟩ (hkz7 _ hf.symm)
                  · refine g_iconst (v := 1) C dX12_leastOf_123 (by decide) ?_
                    refine g_goto (tgt := 128) C dX12_leastOf_124 (by decide) ?_
                    refine g_istore C dX12_leastOf_128 (Nat.le_of_ble_eq_true rfl) rfl rfl ?_
                    refine g_iinc (d := 1) C dX12_leastOf_130 rfl (by decide) rfl (Nat.le_of_ble_eq_true rfl) rfl rfl ?_
                    refine g_goto (tgt := 46) C dX12_leastOf_133 (by decide) ?_
                    exact g_sub ⟨rfl, rfl, rfl, rfl, rfl, rfl, rfl, trivial⟩ (hkz7 _ hf.symm)
                · refine g_iload C dX12_leastOf_74 rfl ?_
                  refine g_iload_n C dX12_leastOf_76 rfl rfl ?_
                  refine g_icmp_ge (tgt := 118) C dX12_leastOf_77 (by decide) hf (fun hf => ?_) (fun hf => ?_)
                  · exact g_sub ⟨rfl, rfl, rfl, rfl, rfl, rfl, rfl, trivial⟩ (hez9 _ hf.symm)
                  · refine g_aload_n C dX12_leastOf_80 rfl rfl ?_
                    refine g_iload C dX12_leastOf_81 rfl ?_
                    refine g_aload_n C dX12_leastOf_83 rfl rfl ?_
                    refine g_aload_n C dX12_leastOf_84 rfl rfl ?_
                    refine g_getR (i := 6) (j := 6) C dX12_leastOf_85 (L91 hL (by decide) (by decide)) c11 rfl (by decide) f26 (fun _ h9 => h9) (LR91_6 hL (by decide) (by decide)) ?_
                    refine g_iload C dX12_leastOf_88 rfl ?_
                    refine g_iald C dX12_leastOf_90 (L92 hL (by decide) (by decide)) ho hf (fun hf => ?_)
                    refine g_aload_n C dX12_leastOf_91 rfl rfl ?_
                    refine g_getR (i := 23) (j := 23) C dX12_leastOf_92 (L91 hL (by decide) (by decide)) c11 rfl (by decide) f94 (fun _ h9 => h9) (LR91_23 hL (by decide) (by decide)) ?_
                    refine g_bipush (v := 7) C dX12_leastOf_95 (by decide) ?_
                    refine g_iload C dX12_leastOf_97 rfl ?_
                    refine g_imul C dX12_leastOf_99 ?_
                    refine g_iload C dX12_leastOf_100 rfl ?_
                    refine g_iadd C dX12_leastOf_102 ?_
                    refine g_iald C dX12_leastOf_103 (L109 hL (by decide) (by decide)) ho hf (fun hf => ?_)
                    obtain ⟨z11, hz11, hf⟩ := gbind hf ho
                    refine g_callV C dX12_leastOf_104 (m_X12_times l X N _ _ _  (gLay.sub hL (by decide) (by decide)) _ _ z11 hz11) gEin0 (cwV 2 C.2.2.2.2.1 gX12_leastOf_X12_times rfl rfl rfl (by decide +kernel) ⟨Nat.le_of_ble_eq_true rfl, Nat.le_of_ble_eq_true rfl⟩) (L91 hL (by decide) (by decide)) (by decide) rfl rfl rfl (Nat.le_of_ble_eq_true rfl) ⟨Nat.le_of_ble_eq_true rfl, Nat.le_of_ble_eq_true rfl⟩ ?_
                    obtain ⟨z12, hz12, hf⟩ := gbind hf ho
                    refine g_callV C dX12_leastOf_107 (m_X12_add l X N _ _ _  (gLay.sub hL (by decide) (by decide)) _ _ z12 hz12) gEin0 (cwV 2 C.2.2.2.2.1 gX12_leastOf_X12_add rfl rfl rfl (by decide +kernel) ⟨Nat.le_of_ble_eq_true rfl, Nat.le_of_ble_eq_true rfl⟩) (L91 hL (by decide) (by decide)) (by decide) rfl rfl rfl (Nat.le_of_ble_eq_true rfl) ⟨Nat.le_of_ble_eq_true rfl, Nat.le_of_ble_eq_true rfl⟩ ?_
                    refine g_istore C dX12_leastOf_110 (Nat.le_of_ble_eq_true rfl) rfl rfl ?_
                    refine g_iinc (d := 1) C dX12_leastOf_112 rfl (by decide) rfl (Nat.le_of_ble_eq_true rfl) rfl rfl ?_
                    refine g_goto (tgt := 74) C dX12_leastOf_115 (by decide) ?_
                    exact g_sub ⟨rfl, rfl, rfl, rfl, rfl, rfl, rfl, rfl, trivial⟩ (hkz9 _ hf.symm)
def f_X12_wholeOf (N : Nat) (I : gI) (R : gR) (S : gS) (a0 : Int32) : Option (Int32 × gI) :=
  ((iter (σ := Int32 × gI) (ρ := gI) (fun z1 => (if (z1.2 91 3) ≤ z1.1 then some (.inr z1.2) else ((f_X12_power N z1.2 R S (z1.2 91 2) z1.1).bind (fun z3 => ((f_X12_step N z1.2 R S a0 z3).bind (fun z4 => ((f_X12_figures N z1.2 R S z4 92).bind (fun z5 => ((iter (σ := Int32 × gI) (ρ := gI) (fun z6 => (if (z6.2 91 3) ≤ z6.1 then some (.inr z6.2) else if z6.1 < 0 ∨ 16 ≤ z6.1.toNatClampNeg then none else if (((6 : Int32) * z1.1) + z6.1) < 0 ∨ 36 ≤ (((6 : Int32) * z1.1) + z6.1).toNatClampNeg then none else some (.inl (z6.1 + 1, gU z6.2 111 (((6 : Int32) * z1.1) + z6.1).toNatClampNeg (z6.2 92 z6.1.toNatClampNeg))))) N ((0 : Int32), z5.2)).bind (fun r7 => some (.inl (z1.1 + 1, r7)))))))))))) N ((0 : Int32), I)).bind (fun r2 => ((iter (σ := Int32 × gI) (ρ := gI) (fun z8 => (if (448 : Int32) ≤ z8.1 then some (.inr z8.2) else (if z8.1 = 0 then if z8.1 < 0 ∨ 448 ≤ z8.1.toNatClampNeg then none else some (.inl (z8.1 + 1, gU z8.2 110 z8.1.toNatClampNeg (1 : Int32))) else if z8.1 < 0 ∨ 448 ≤ z8.1.toNatClampNeg then none else some (.inl (z8.1 + 1, gU z8.2 110 z8.1.toNatClampNeg (0 : Int32)))))) N ((0 : Int32), r2)).bind (fun r9 => ((iter (σ := Int32 × gI) (ρ := gI) (fun z10 => (if ((1 : Int32) <<< ((z10.2 91 3) &&& 31)) ≤ z10.1 then some (.inr z10.2) else ((iter (σ := Int32 × Int32) (ρ := Int32) (fun z12 => (if (z10.2 91 3) ≤ z12.2 then some (.inr z12.1) else some (.inl (z12.1 + ((z10.1 >>> (z12.2 &&& 31)) &&& (1 : Int32)), z12.2 + 1)))) N ((-1 : Int32), (0 : Int32))).bind (fun r13 => ((iter (σ := Int32 × Int32 × gI) (ρ := gI) (fun z14 => (if z14.2.1 < 0 then some (.inr z14.2.2) else (if ((z10.1 >>> (z14.2.1 &&& 31)) &&& (1 : Int32)) = (1 : Int32) then ((iter (σ := Int32 × gI) (ρ := gI) (fun z16 => (if (7 : Int32) ≤ z16.1 then some (.inr z16.2) else if (((6 : Int32) * r13) + z14.2.1) < 0 ∨ 36 ≤ (((6 : Int32) * r13) + z14.2.1).toNatClampNeg then none else if (((7 : Int32) * (z10.1 &&& (((1 : Int32) <<< (z14.2.1 &&& 31)) ^^^ (-1 : Int32)))) + z16.1) < 0 ∨ 448 ≤ (((7 : Int32) * (z10.1 &&& (((1 : Int32) <<< (z14.2.1 &&& 31)) ^^^ (-1 : Int32)))) + z16.1).toNatClampNeg then none else (((if r13 = z14.2.1 then (if z16.1 ≤ 0 then some (0 : Int32) else if ((((7 : Int32) * (z10.1 &&& (((1 : Int32) <<< (z14.2.1 &&& 31)) ^^^ (-1 : Int32)))) + z16.1) - (1 : Int32)) < 0 ∨ 448 ≤ ((((7 : Int32) * (z10.1 &&& (((1 : Int32) <<< (z14.2.1 &&& 31)) ^^^ (-1 : Int32)))) + z16.1) - (1 : Int32)).toNatClampNeg then none else some (z16.2 110 ((((7 : Int32) * (z10.1 &&& (((1 : Int32) <<< (z14.2.1 &&& 31)) ^^^ (-1 : Int32)))) + z16.1) - (1 : Int32)).toNatClampNeg)) else some (0 : Int32)) : Option (Int32)).bind (fun z18 => if (((7 : Int32) * z10.1) + z16.1) < 0 ∨ 448 ≤ (((7 : Int32) * z10.1) + z16.1).toNatClampNeg then none else if (2 : Int32) = 0 then none else (if (z14.1 - z14.1 / (2 : Int32) * (2 : Int32)) = 0 then if (z16.2 91 2) = 0 then none else if (((7 : Int32) * z10.1) + z16.1) < 0 ∨ 448 ≤ (((7 : Int32) * z10.1) + z16.1).toNatClampNeg then none else some (.inl (z16.1 + 1, gU z16.2 110 (((7 : Int32) * z10.1) + z16.1).toNatClampNeg (((z16.2 110 (((7 : Int32) * z10.1) + z16.1).toNatClampNeg) + ((((z16.2 91 2) - (z16.2 111 (((6 : Int32) * r13) + z14.2.1).toNatClampNeg)) * (z16.2 110 (((7 : Int32) * (z10.1 &&& (((1 : Int32) <<< (z14.2.1 &&& 31)) ^^^ (-1 : Int32)))) + z16.1).toNatClampNeg)) + z18)) - ((z16.2 110 (((7 : Int32) * z10.1) + z16.1).toNatClampNeg) + ((((z16.2 91 2) - (z16.2 111 (((6 : Int32) * r13) + z14.2.1).toNatClampNeg)) * (z16.2 110 (((7 : Int32) * (z10.1 &&& (((1 : Int32) <<< (z14.2.1 &&& 31)) ^^^ (-1 : Int32)))) + z16.1).toNatClampNeg)) + z18)) / (z16.2 91 2) * (z16.2 91 2)))) else if (z16.2 91 2) = 0 then none else if (((7 : Int32) * z10.1) + z16.1) < 0 ∨ 448 ≤ (((7 : Int32) * z10.1) + z16.1).toNatClampNeg then none else some (.inl (z16.1 + 1, gU z16.2 110 (((7 : Int32) * z10.1) + z16.1).toNatClampNeg (((z16.2 110 (((7 : Int32) * z10.1) + z16.1).toNatClampNeg) + (((z16.2 91 2) - (1 : Int32)) * ((((z16.2 91 2) - (z16.2 111 (((6 : Int32) * r13) + z14.2.1).toNatClampNeg)) * (z16.2 110 (((7 : Int32) * (z10.1 &&& (((1 : Int32) <<< (z14.2.1 &&& 31)) ^^^ (-1 : Int32)))) + z16.1).toNatClampNeg)) + z18))) - ((z16.2 110 (((7 : Int32) * z10.1) + z16.1).toNatClampNeg) + (((z16.2 91 2) - (1 : Int32)) * ((((z16.2 91 2) - (z16.2 111 (((6 : Int32) * r13) + z14.2.1).toNatClampNeg)) * (z16.2 110 (((7 : Int32) * (z10.1 &&& (((1 : Int32) <<< (z14.2.1 &&& 31)) ^^^ (-1 : Int32)))) + z16.1).toNatClampNeg)) + z18))) / (z16.2 91 2) * (z16.2 91 2))))))))) N ((0 : Int32), z14.2.2)).bind (fun r17 => some (.inl (z14.1 + 1, z14.2.1 + (-1), r17)))) else some (.inl (z14.1, z14.2.1 + (-1), z14.2.2))))) N ((0 : Int32), (z10.2 91 3) - (1 : Int32), z10.2)).bind (fun r15 => some (.inl (z10.1 + 1, r15)))))))) N ((1 : Int32), r9)).bind (fun r11 => ((iter (σ := Int32 × Int32) (ρ := Int32) (fun z19 => (if z19.2 < 0 then some (.inr z19.1) else if (((7 : Int32) * (((1 : Int32) <<< ((r11 91 3) &&& 31)) - (1 : Int32))) + z19.2) < 0 ∨ 448 ≤ (((7 : Int32) * (((1 : Int32) <<< ((r11 91 3) &&& 31)) - (1 : Int32))) + z19.2).toNatClampNeg then none else some (.inl ((z19.1 * (r11 91 2)) + (r11 110 (((7 : Int32) * (((1 : Int32) <<< ((r11 91 3) &&& 31)) - (1 : Int32))) + z19.2).toNatClampNeg), z19.2 + (-1))))) N ((0 : Int32), (6 : Int32))).bind (fun r20 => some (r20, r11)))))))))
set_option maxRecDepth 100000 in
set_option maxHeartbeats 8000000 in
theorem m_X12_wholeOf (l : Launch) (X : gX) (N : Nat) (I : gI) (R : gR) (S : gS) (hL : gLay 91 114 R S) (a0 : Int32) (v : Int32) (J : gI) (hf : f_X12_wholeOf N I R S a0 = some (v, J)) : gM l yX12_wholeOf wsX12_wholeOf { frames := 2, cells := 0, slots := 0, locals := 51 } X gE0 [.ref (X.1 + 91), .int a0] I R S (some (.int v)) J R S 0 0 := by
  unfold f_X12_wholeOf at hf
  refine gM_of (cc := cX12_wholeOf) (own := RX12) (maxL := 9) (ret := (some .int)) (by decide) rfl rfl (Nat.le_of_ble_eq_true rfl) ?_
  intro p e s m args below meth c C hr hlk hnm hE
  have ho : (some (v, J)) ≠ none := fun h => by cases h
  have f42 := C.2.2.2.2.1 (.fieldLink RX12 42 "TimesByPowersModel" "n" "I") (by decide +kernel)
  have c11 : gCl wsX12_wholeOf 11 RX12 TX12 29 := ⟨by decide, rfl, rfl, by decide +kernel⟩
  have f11 := C.2.2.2.2.1 (.fieldLink RX12 11 "TimesByPowersModel" "p" "I") (by decide +kernel)
  have f26 := C.2.2.2.2.1 (.fieldLink RX12 26 "TimesByPowersModel" "one" "[I") (by decide +kernel)
  have f100 := C.2.2.2.2.1 (.fieldLink RX12 100 "TimesByPowersModel" "entry" "[I") (by decide +kernel)
  have f97 := C.2.2.2.2.1 (.fieldLink RX12 97 "TimesByPowersModel" "minors" "[I") (by decide +kernel)
  refine g_iconst (v := 0) C dX12_wholeOf_0 (by decide) ?_
  refine g_istore_n C dX12_wholeOf_1 rfl (Nat.le_of_ble_eq_true rfl) rfl rfl ?_
  refine g_loop (fun z1 => [(0, .ref (X.1 + 91)), (1, .int a0), (2, .int z1.1)]) (fun z1 => z1.2) (fun r2 => [(0, .ref (X.1 + 91))]) (fun r2 => r2) 75 hf ho ⟨rfl, rfl, rfl, trivial⟩ rfl (fun r2 hf => ?_) (fun z1 o1 hf ho hkz1 hez1 => ?_)
  · refine g_iconst (v := 0) C dX12_wholeOf_75 (by decide) ?_
    refine g_istore_n C dX12_wholeOf_76 rfl (Nat.le_of_ble_eq_true rfl) rfl rfl ?_
    refine g_loop (fun z8 => [(0, .ref (X.1 + 91)), (2, .int z8.1)]) (fun z8 => z8.2) (fun r9 => [(0, .ref (X.1 + 91))]) (fun r9 => r9) 105 hf ho ⟨rfl, rfl, trivial⟩ rfl (fun r9 hf => ?_) (fun z8 o1 hf ho hkz8 hez8 => ?_)
    · refine g_iconst (v := 1) C dX12_wholeOf_105 (by decide) ?_
      refine g_istore_n C dX12_wholeOf_106 rfl (Nat.le_of_ble_eq_true rfl) rfl rfl ?_
      refine g_loop (fun z10 => [(0, .ref (X.1 + 91)), (2, .int z10.1)]) (fun z10 => z10.2) (fun r11 => [(0, .ref (X.1 + 91))]) (fun r11 => r11) 325 hf ho ⟨rfl, rfl, trivial⟩ rfl (fun r11 hf => ?_) (fun z10 o1 hf ho hkz10 hez10 => ?_)
      · refine g_iconst (v := 0) C dX12_wholeOf_325 (by decide) ?_
        refine g_istore_n C dX12_wholeOf_326 rfl (Nat.le_of_ble_eq_true rfl) rfl rfl ?_
        refine g_bipush (v := 6) C dX12_wholeOf_327 (by decide) ?_
        refine g_istore_n C dX12_wholeOf_329 rfl (Nat.le_of_ble_eq_true rfl) rfl rfl ?_
        refine g_loop (fun z19 => [(0, .ref (X.1 + 91)), (2, .int z19.1), (3, .int z19.2)]) (fun z19 => r11) (fun r20 => [(2, .int r20)]) (fun r20 => r11) 366 hf ho ⟨rfl, rfl, rfl, trivial⟩ rfl (fun r20 hf => ?_) (fun z19 o1 hf ho hkz19 hez19 => ?_)
        · refine g_iload_n C dX12_wholeOf_366 rfl rfl ?_
          cases hf
          exact g_iret C dX12_wholeOf_367 hr hlk
        · refine g_iload_n C dX12_wholeOf_330 rfl rfl ?_
          refine g_if_lt (tgt := 366) C dX12_wholeOf_331 (by decide) hf (fun hf => ?_) (fun hf => ?_)
          · exact g_sub ⟨rfl, trivial⟩ (hez19 _ hf.symm)
          · refine g_iload_n C dX12_wholeOf_334 rfl rfl ?_
            refine g_aload_n C dX12_wholeOf_335 rfl rfl ?_
            refine g_getI (i := 2) (j := 2) C dX12_wholeOf_336 (L91 hL (by decide) (by decide)) c11 rfl f11 (fun _ h9 => h9) ?_
            refine g_imul C dX12_wholeOf_339 ?_
            refine g_aload_n C dX12_wholeOf_340 rfl rfl ?_
            refine g_getR (i := 24) (j := 24) C dX12_wholeOf_341 (L91 hL (by decide) (by decide)) c11 rfl (by decide) f97 (fun _ h9 => h9) (LR91_24 hL (by decide) (by decide)) ?_
            refine g_bipush (v := 7) C dX12_wholeOf_344 (by decide) ?_
            refine g_iconst (v := 1) C dX12_wholeOf_346 (by decide) ?_
            refine g_aload_n C dX12_wholeOf_347 rfl rfl ?_
            refine g_getI (i := 3) (j := 3) C dX12_wholeOf_348 (L91 hL (by decide) (by decide)) c11 rfl f42 (fun _ h9 => h9) ?_
            refine g_ishl C dX12_wholeOf_351 ?_
            refine g_iconst (v := 1) C dX12_wholeOf_352 (by decide) ?_
            refine g_isub C dX12_wholeOf_353 ?_
            refine g_imul C dX12_wholeOf_354 ?_
            refine g_iload_n C dX12_wholeOf_355 rfl rfl ?_
            refine g_iadd C dX12_wholeOf_356 ?_
            refine g_iald C dX12_wholeOf_357 (L110 hL (by decide) (by decide)) ho hf (fun hf => ?_)
            refine g_iadd C dX12_wholeOf_358 ?_
            refine g_istore_n C dX12_wholeOf_359 rfl (Nat.le_of_ble_eq_true rfl) rfl rfl ?_
            refine g_iinc (d := -1) C dX12_wholeOf_360 rfl (by decide) rfl (Nat.le_of_ble_eq_true rfl) rfl rfl ?_
            refine g_goto (tgt := 330) C dX12_wholeOf_363 (by decide) ?_
            exact g_sub ⟨rfl, rfl, rfl, trivial⟩ (hkz19 _ hf.symm)
      · refine g_iload_n C dX12_wholeOf_107 rfl rfl ?_
        refine g_iconst (v := 1) C dX12_wholeOf_108 (by decide) ?_
        refine g_aload_n C dX12_wholeOf_109 rfl rfl ?_
        refine g_getI (i := 3) (j := 3) C dX12_wholeOf_110 (L91 hL (by decide) (by decide)) c11 rfl f42 (fun _ h9 => h9) ?_
        refine g_ishl C dX12_wholeOf_113 ?_
        refine g_icmp_ge (tgt := 325) C dX12_wholeOf_114 (by decide) hf (fun hf => ?_) (fun hf => ?_)
        · exact g_sub ⟨rfl, trivial⟩ (hez10 _ hf.symm)
        · refine g_iconst (v := -1) C dX12_wholeOf_117 (by decide) ?_
          refine g_istore_n C dX12_wholeOf_118 rfl (Nat.le_of_ble_eq_true rfl) rfl rfl ?_
          refine g_iconst (v := 0) C dX12_wholeOf_119 (by decide) ?_
          refine g_istore C dX12_wholeOf_120 (Nat.le_of_ble_eq_true rfl) rfl rfl ?_
          refine g_loop (fun z12 => [(0, .ref (X.1 + 91)), (2, .int z10.1), (3, .int z12.1), (4, .int z12.2)]) (fun z12 => z10.2) (fun r13 => [(0, .ref (X.1 + 91)), (2, .int z10.1), (3, .int r13)]) (fun r13 => z10.2) 146 hf ho ⟨rfl, rfl, rfl, rfl, trivial⟩ rfl (fun r13 hf => ?_) (fun z12 o1 hf ho hkz12 hez12 => ?_)
          · refine g_iconst (v := 0) C dX12_wholeOf_146 (by decide) ?_
            refine g_istore C dX12_wholeOf_147 (Nat.le_of_ble_eq_true rfl) rfl rfl ?_
            refine g_aload_n C dX12_wholeOf_149 rfl rfl ?_
            refine g_getI (i := 3) (j := 3) C dX12_wholeOf_150 (L91 hL (by decide) (by decide)) c11 rfl f42 (fun _ h9 => h9) ?_
            refine g_iconst (v := 1) C dX12_wholeOf_153 (by decide) ?_
            refine g_isub C dX12_wholeOf_154 ?_
            refine g_istore C dX12_wholeOf_155 (Nat.le_of_ble_eq_true rfl) rfl rfl ?_
            refine g_loop (fun z14 => [(0, .ref (X.1 + 91)), (2, .int z10.1), (3, .int r13), (4, .int z14.1), (5, .int z14.2.1)]) (fun z14 => z14.2.2) (fun r15 => [(0, .ref (X.1 + 91)), (2, .int z10.1)]) (fun r15 => r15) 319 hf ho ⟨rfl, rfl, rfl, rfl, rfl, trivial⟩ rfl (fun r15 hf => ?_) (fun z14 o1 hf ho hkz14 hez14 => ?_)
            · refine g_iinc (d := 1) C dX12_wholeOf_319 rfl (by decide) rfl (Nat.le_of_ble_eq_true rfl) rfl rfl ?_
              refine g_goto (tgt := 107) C dX12_wholeOf_322 (by decide) ?_
              exact g_sub ⟨rfl, rfl, trivial⟩ (hkz10 _ hf.symm)
            · refine g_iload C dX12_wholeOf_157 rfl ?_
              refine g_if_lt (tgt := 319) C dX12_wholeOf_159 (by decide) hf (fun hf => ?_) (fun hf => ?_)
              · exact g_sub ⟨rfl, rfl, trivial⟩ (hez14 _ hf.symm)
              · refine g_iload_n C dX12_wholeOf_162 rfl rfl ?_
                refine g_iload C dX12_wholeOf_163 rfl ?_
                refine g_ishr C dX12_wholeOf_165 ?_
                refine g_iconst (v := 1) C dX12_wholeOf_166 (by decide) ?_
                refine g_iand C dX12_wholeOf_167 ?_
                refine g_iconst (v := 1) C dX12_wholeOf_168 (by decide) ?_
                refine g_icmp_ne (tgt := 313) C dX12_wholeOf_169 (by decide) hf (fun hf => ?_) (fun hf => ?_)
                · refine g_iinc (d := -1) C dX12_wholeOf_313 rfl (by decide) rfl (Nat.le_of_ble_eq_true rfl) rfl rfl ?_
                  refine g_goto (tgt := 157) C dX12_wholeOf_316 (by decide) ?_
                  exact g_sub ⟨rfl, rfl, rfl, rfl, rfl, trivial⟩ (hkz14 _ hf.symm)
                · refine g_bipush (v := 7) C dX12_wholeOf_172 (by decide) ?_
                  refine g_iload_n C dX12_wholeOf_174 rfl rfl ?_
                  refine g_iconst (v := 1) C dX12_wholeOf_175 (by decide) ?_
                  refine g_iload C dX12_wholeOf_176 rfl ?_
                  refine g_ishl C dX12_wholeOf_178 ?_
                  refine g_iconst (v := -1) C dX12_wholeOf_179 (by decide) ?_
                  refine g_ixor C dX12_wholeOf_180 ?_
                  refine g_iand C dX12_wholeOf_181 ?_
                  refine g_imul C dX12_wholeOf_182 ?_
                  refine g_istore C dX12_wholeOf_183 (Nat.le_of_ble_eq_true rfl) rfl rfl ?_
                  refine g_iconst (v := 0) C dX12_wholeOf_185 (by decide) ?_
                  refine g_istore C dX12_wholeOf_186 (Nat.le_of_ble_eq_true rfl) rfl rfl ?_
                  refine g_loop (fun z16 => [(0, .ref (X.1 + 91)), (2, .int z10.1), (3, .int r13), (4, .int z14.1), (5, .int z14.2.1), (6, .int ((7 : Int32) * (z10.1 &&& (((1 : Int32) <<< (z14.2.1 &&& 31)) ^^^ (-1 : Int32))))), (7, .int z16.1)]) (fun z16 => z16.2) (fun r17 => [(0, .ref (X.1 + 91)), (2, .int z10.1), (3, .int r13), (4, .int z14.1), (5, .int z14.2.1)]) (fun r17 => r17) 310 hf ho ⟨rfl, rfl, rfl, rfl, rfl, rfl, rfl, trivial⟩ rfl (fun r17 hf => ?_) (fun z16 o1 hf ho hkz16 hez16 => ?_)
                  · refine g_iinc (d := 1) C dX12_wholeOf_310 rfl (by decide) rfl (Nat.le_of_ble_eq_true rfl) rfl rfl ?_
                    refine g_iinc (d := -1) C dX12_wholeOf_313 rfl (by decide) rfl (Nat.le_of_ble_eq_true rfl) rfl rfl ?_
                    refine g_goto (tgt := 157) C dX12_wholeOf_316 (by decide) ?_
                    exact g_sub ⟨rfl, rfl, rfl, rfl, rfl, trivial⟩ (hkz14 _ hf.symm)
                  · refine g_iload C dX12_wholeOf_188 rfl ?_
                    refine g_bipush (v := 7) C dX12_wholeOf_190 (by decide) ?_
                    refine g_icmp_ge (tgt := 310) C dX12_wholeOf_192 (by decide) hf (fun hf => ?_) (fun hf => ?_)
                    · exact g_sub ⟨rfl, rfl, rfl, rfl, rfl, trivial⟩ (hez16 _ hf.symm)
                    · refine g_aload_n C dX12_wholeOf_195 rfl rfl ?_
                      refine g_getI (i := 2) (j := 2) C dX12_wholeOf_196 (L91 hL (by decide) (by decide)) c11 rfl f11 (fun _ h9 => h9) ?_
                      refine g_aload_n C dX12_wholeOf_199 rfl rfl ?_
                      refine g_getR (i := 25) (j := 25) C dX12_wholeOf_200 (L91 hL (by decide) (by decide)) c11 rfl (by decide) f100 (fun _ h9 => h9) (LR91_25 hL (by decide) (by decide)) ?_
                      refine g_bipush (v := 6) C dX12_wholeOf_203 (by decide) ?_
                      refine g_iload_n C dX12_wholeOf_205 rfl rfl ?_
                      refine g_imul C dX12_wholeOf_206 ?_
                      refine g_iload C dX12_wholeOf_207 rfl ?_
                      refine g_iadd C dX12_wholeOf_209 ?_
                      refine g_iald C dX12_wholeOf_210 (L111 hL (by decide) (by decide)) ho hf (fun hf => ?_)
                      refine g_isub C dX12_wholeOf_211 ?_
                      refine g_aload_n C dX12_wholeOf_212 rfl rfl ?_
                      refine g_getR (i := 24) (j := 24) C dX12_wholeOf_213 (L91 hL (by decide) (by decide)) c11 rfl (by decide) f97 (fun _ h9 => h9) (LR91_24 hL (by decide) (by decide)) ?_
                      refine g_iload C dX12_wholeOf_216 rfl ?_
                      refine g_iload C dX12_wholeOf_218 rfl ?_
                      refine g_iadd C dX12_wholeOf_220 ?_
                      refine g_iald C dX12_wholeOf_221 (L110 hL (by decide) (by decide)) ho hf (fun hf => ?_)
                      refine g_imul C dX12_wholeOf_222 ?_
                      refine g_iload_n C dX12_wholeOf_223 rfl rfl ?_
                      refine g_iload C dX12_wholeOf_224 rfl ?_
                      refine g_join (fun z18 => [(0, .ref (X.1 + 91)), (2, .int z10.1), (3, .int r13), (4, .int z14.1), (5, .int z14.2.1), (6, .int ((7 : Int32) * (z10.1 &&& (((1 : Int32) <<< (z14.2.1 &&& 31)) ^^^ (-1 : Int32))))), (7, .int z16.1)]) (fun z18 => [.int z18, .int (((z16.2 91 2) - (z16.2 111 (((6 : Int32) * r13) + z14.2.1).toNatClampNeg)) * (z16.2 110 (((7 : Int32) * (z10.1 &&& (((1 : Int32) <<< (z14.2.1 &&& 31)) ^^^ (-1 : Int32)))) + z16.1).toNatClampNeg))]) (fun z18 => z16.2) 250 hf ho (fun z18 hf => ?_) (fun o1 hf ho hkz18 => ?_)
                      · refine g_iadd C dX12_wholeOf_250 ?_
                        refine g_istore C dX12_wholeOf_251 (Nat.le_of_ble_eq_true rfl) rfl rfl ?_
                        refine g_aload_n C dX12_wholeOf_253 rfl rfl ?_
                        refine g_getR (i := 24) (j := 24) C dX12_wholeOf_254 (L91 hL (by decide) (by decide)) c11 rfl (by decide) f97 (fun _ h9 => h9) (LR91_24 hL (by decide) (by decide)) ?_
                        refine g_bipush (v := 7) C dX12_wholeOf_257 (by decide) ?_
                        refine g_iload_n C dX12_wholeOf_259 rfl rfl ?_
                        refine g_imul C dX12_wholeOf_260 ?_
                        refine g_iload C dX12_wholeOf_261 rfl ?_
                        refine g_iadd C dX12_wholeOf_263 ?_
                        refine g_aload_n C dX12_wholeOf_264 rfl rfl ?_
                        refine g_getR (i := 24) (j := 24) C dX12_wholeOf_265 (L91 hL (by decide) (by decide)) c11 rfl (by decide) f97 (fun _ h9 => h9) (LR91_24 hL (by decide) (by decide)) ?_
                        refine g_bipush (v := 7) C dX12_wholeOf_268 (by decide) ?_
                        refine g_iload_n C dX12_wholeOf_270 rfl rfl ?_
                        refine g_imul C dX12_wholeOf_271 ?_
                        refine g_iload C dX12_wholeOf_272 rfl ?_
                        refine g_iadd C dX12_wholeOf_274 ?_
                        refine g_iald C dX12_wholeOf_275 (L110 hL (by decide) (by decide)) ho hf (fun hf => ?_)
                        refine g_iload C dX12_wholeOf_276 rfl ?_
                        refine g_iconst (v := 2) C dX12_wholeOf_278 (by decide) ?_
                        refine g_irem C dX12_wholeOf_279 ho hf (fun hf => ?_)
                        refine g_if_ne (tgt := 288) C dX12_wholeOf_280 (by decide) hf (fun hf => ?_) (fun hf => ?_)
                        · refine g_aload_n C dX12_wholeOf_288 rfl rfl ?_
                          refine g_getI (i := 2) (j := 2) C dX12_wholeOf_289 (L91 hL (by decide) (by decide)) c11 rfl f11 (fun _ h9 => h9) ?_
                          refine g_iconst (v := 1) C dX12_wholeOf_292 (by decide) ?_
                          refine g_isub C dX12_wholeOf_293 ?_
                          refine g_iload C dX12_wholeOf_294 rfl ?_
                          refine g_imul C dX12_wholeOf_296 ?_
                          refine g_iadd C dX12_wholeOf_297 ?_
                          refine g_aload_n C dX12_wholeOf_298 rfl rfl ?_
                          refine g_getI (i := 2) (j := 2) C dX12_wholeOf_299 (L91 hL (by decide) (by decide)) c11 rfl f11 (fun _ h9 => h9) ?_
                          refine g_irem C dX12_wholeOf_302 ho hf (fun hf => ?_)
                          refine g_iast C dX12_wholeOf_303 (L110 hL (by decide) (by decide)) ho hf (fun hf => ?_)
                          refine g_iinc (d := 1) C dX12_wholeOf_304 rfl (by decide) rfl (Nat.le_of_ble_eq_true rfl) rfl rfl ?_
                          refine g_goto (tgt := 188) C dX12_wholeOf_307 (by decide) ?_
                          exact g_sub ⟨rfl, rfl, rfl, rfl, rfl, rfl, rfl, trivial⟩ (hkz16 _ hf.symm)
                        · refine g_iload C dX12_wholeOf_283 rfl ?_
                          refine g_goto (tgt := 297) C dX12_wholeOf_285 (by decide) ?_
                          refine g_iadd C dX12_wholeOf_297 ?_
                          refine g_aload_n C dX12_wholeOf_298 rfl rfl ?_
                          refine g_getI (i := 2) (j := 2) C dX12_wholeOf_299 (L91 hL (by decide) (by decide)) c11 rfl f11 (fun _ h9 => h9) ?_
                          refine g_irem C dX12_wholeOf_302 ho hf (fun hf => ?_)
                          refine g_iast C dX12_wholeOf_303 (L110 hL (by decide) (by decide)) ho hf (fun hf => ?_)
                          refine g_iinc (d := 1) C dX12_wholeOf_304 rfl (by decide) rfl (Nat.le_of_ble_eq_true rfl) rfl rfl ?_
                          refine g_goto (tgt := 188) C dX12_wholeOf_307 (by decide) ?_
                          exact g_sub ⟨rfl, rfl, rfl, rfl, rfl, rfl, rfl, trivial⟩ (hkz16 _ hf.symm)
                      · refine g_icmp_ne (tgt := 249) C dX12_wholeOf_226 (by decide) hf (fun hf => ?_) (fun hf => ?_)
                        · refine g_iconst (v := 0) C dX12_wholeOf_249 (by decide) ?_
                          exact g_sub ⟨rfl, rfl, rfl, rfl, rfl, rfl, rfl, trivial⟩ (hkz18 _ hf.symm)
                        · refine g_iload C dX12_wholeOf_229 rfl ?_
                          refine g_if_le (tgt := 249) C dX12_wholeOf_231 (by decide) hf (fun hf => ?_) (fun hf => ?_)
                          · refine g_iconst (v := 0) C dX12_wholeOf_249 (by decide) ?_
                            exact g_sub ⟨rfl, rfl, rfl, rfl, rfl, rfl, rfl, trivial⟩ (hkz18 _ hf.symm)
                          · refine g_aload_n C dX12_wholeOf_234 rfl rfl ?_
                            refine g_getR (i := 24) (j := 24) C dX12_wholeOf_235 (L91 hL (by decide) (by decide)) c11 rfl (by decide) f97 (fun _ h9 => h9) (LR91_24 hL (by decide) (by decide)) ?_
                            refine g_iload C dX12_wholeOf_238 rfl ?_
                            refine g_iload C dX12_wholeOf_240 rfl ?_
                            refine g_iadd C dX12_wholeOf_242 ?_
                            refine g_iconst (v := 1) C dX12_wholeOf_243 (by decide) ?_
                            refine g_isub C dX12_wholeOf_244 ?_
                            refine g_iald C dX12_wholeOf_245 (L110 hL (by decide) (by decide)) ho hf (fun hf => ?_)
                            refine g_goto (tgt := 250) C dX12_wholeOf_246 (by decide) ?_
                            exact g_sub ⟨rfl, rfl, rfl, rfl, rfl, rfl, rfl, trivial⟩ (hkz18 _ hf.symm)
          · refine g_iload C dX12_wholeOf_122 rfl ?_
            refine g_aload_n C dX12_wholeOf_124 rfl rfl ?_
            refine g_getI (i := 3) (j := 3) C dX12_wholeOf_125 (L91 hL (by decide) (by decide)) c11 rfl f42 (fun _ h9 => h9) ?_
            refine g_icmp_ge (tgt := 146) C dX12_wholeOf_128 (by decide) hf (fun hf => ?_) (fun hf => ?_)
            · exact g_sub ⟨rfl, rfl, rfl, trivial⟩ (hez12 _ hf.symm)
            · refine g_iload_n C dX12_wholeOf_131 rfl rfl ?_
              refine g_iload_n C dX12_wholeOf_132 rfl rfl ?_
              refine g_iload C dX12_wholeOf_133 rfl ?_
              refine g_ishr C dX12_wholeOf_135 ?_
              refine g_iconst (v := 1) C dX12_wholeOf_136 (by decide) ?_
              refine g_iand C dX12_wholeOf_137 ?_
              refine g_iadd C dX12_wholeOf_138 ?_
              refine g_istore_n C dX12_wholeOf_139 rfl (Nat.le_of_ble_eq_true rfl) rfl rfl ?_
              refine g_iinc (d := 1) C dX12_wholeOf_140 rfl (by decide) rfl (Nat.le_of_ble_eq_true rfl) rfl rfl ?_
              refine g_goto (tgt := 122) C dX12_wholeOf_143 (by decide) ?_
              exact g_sub ⟨rfl, rfl, rfl, rfl, trivial⟩ (hkz12 _ hf.symm)
    · refine g_iload_n C dX12_wholeOf_77 rfl rfl ?_
      refine g_sipush (v := 448) C dX12_wholeOf_78 (by decide) ?_
      refine g_icmp_ge (tgt := 105) C dX12_wholeOf_81 (by decide) hf (fun hf => ?_) (fun hf => ?_)
      · exact g_sub ⟨rfl, trivial⟩ (hez8 _ hf.symm)
      · refine g_aload_n C dX12_wholeOf_84 rfl rfl ?_
        refine g_getR (i := 24) (j := 24) C dX12_wholeOf_85 (L91 hL (by decide) (by decide)) c11 rfl (by decide) f97 (fun _ h9 => h9) (LR91_24 hL (by decide) (by decide)) ?_
        refine g_iload_n C dX12_wholeOf_88 rfl rfl ?_
        refine g_iload_n C dX12_wholeOf_89 rfl rfl ?_
        refine g_if_ne (tgt := 97) C dX12_wholeOf_90 (by decide) hf (fun hf => ?_) (fun hf => ?_)
        · refine g_iconst (v := 0) C dX12_wholeOf_97 (by decide) ?_
          refine g_iast C dX12_wholeOf_98 (L110 hL (by decide) (by decide)) ho hf (fun hf => ?_)
          refine g_iinc (d := 1) C dX12_wholeOf_99 rfl (by decide) rfl (Nat.le_of_ble_eq_true rfl) rfl rfl ?_
          refine g_goto (tgt := 77) C dX12_wholeOf_102 (by decide) ?_
          exact g_sub ⟨rfl, rfl, trivial⟩ (hkz8 _ hf.symm)
        · refine g_iconst (v := 1) C dX12_wholeOf_93 (by decide) ?_
          refine g_goto (tgt := 98) C dX12_wholeOf_94 (by decide) ?_
          refine g_iast C dX12_wholeOf_98 (L110 hL (by decide) (by decide)) ho hf (fun hf => ?_)
          refine g_iinc (d := 1) C dX12_wholeOf_99 rfl (by decide) rfl (Nat.le_of_ble_eq_true rfl) rfl rfl ?_
          refine g_goto (tgt := 77) C dX12_wholeOf_102 (by decide) ?_
          exact g_sub ⟨rfl, rfl, trivial⟩ (hkz8 _ hf.symm)
  · refine g_iload_n C dX12_wholeOf_2 rfl rfl ?_
    refine g_aload_n C dX12_wholeOf_3 rfl rfl ?_
    refine g_getI (i := 3) (j := 3) C dX12_wholeOf_4 (L91 hL (by decide) (by decide)) c11 rfl f42 (fun _ h9 => h9) ?_
    refine g_icmp_ge (tgt := 75) C dX12_wholeOf_7 (by decide) hf (fun hf => ?_) (fun hf => ?_)
    · exact g_sub ⟨rfl, trivial⟩ (hez1 _ hf.symm)
    · refine g_aload_n C dX12_wholeOf_10 rfl rfl ?_
      refine g_aload_n C dX12_wholeOf_11 rfl rfl ?_
      refine g_iload_n C dX12_wholeOf_12 rfl rfl ?_
      refine g_aload_n C dX12_wholeOf_13 rfl rfl ?_
      refine g_getI (i := 2) (j := 2) C dX12_wholeOf_14 (L91 hL (by decide) (by decide)) c11 rfl f11 (fun _ h9 => h9) ?_
      refine g_iload_n C dX12_wholeOf_17 rfl rfl ?_
      obtain ⟨z3, hz3, hf⟩ := gbind hf ho
      refine g_callS C dX12_wholeOf_18 (m_X12_power l X N _ _ _  (gLay.sub hL (by decide) (by decide)) _ _ z3 hz3) gEin0 (va_cwS 2 C.2.2.2.2.1 gX12_wholeOf_X12_power rfl rfl rfl (by decide +kernel) ⟨Nat.le_of_ble_eq_true rfl, Nat.le_of_ble_eq_true rfl⟩) rfl rfl (Nat.le_of_ble_eq_true rfl) ⟨Nat.le_of_ble_eq_true rfl, Nat.le_of_ble_eq_true rfl⟩ ?_
      obtain ⟨z4, hz4, hf⟩ := gbind hf ho
      refine g_callV C dX12_wholeOf_21 (m_X12_step l X N _ _ _  (gLay.sub hL (by decide) (by decide)) _ _ z4 hz4) gEin0 (cwV 2 C.2.2.2.2.1 gX12_wholeOf_X12_step rfl rfl rfl (by decide +kernel) ⟨Nat.le_of_ble_eq_true rfl, Nat.le_of_ble_eq_true rfl⟩) (L91 hL (by decide) (by decide)) (by decide) rfl rfl rfl (Nat.le_of_ble_eq_true rfl) ⟨Nat.le_of_ble_eq_true rfl, Nat.le_of_ble_eq_true rfl⟩ ?_
      refine g_aload_n C dX12_wholeOf_24 rfl rfl ?_
      refine g_getR (i := 6) (j := 6) C dX12_wholeOf_25 (L91 hL (by decide) (by decide)) c11 rfl (by decide) f26 (fun _ h9 => h9) (LR91_6 hL (by decide) (by decide)) ?_
      obtain ⟨z5, hz5, hf⟩ := gbind hf ho
      refine g_callV C dX12_wholeOf_28 (m_X12_figures l X N _ _ _  (gLay.sub hL (by decide) (by decide)) _ _ z5.1 z5.2 hz5) gEin0 (cwV 2 C.2.2.2.2.1 gX12_wholeOf_X12_figures rfl rfl rfl (by decide +kernel) ⟨Nat.le_of_ble_eq_true rfl, Nat.le_of_ble_eq_true rfl⟩) (L91 hL (by decide) (by decide)) (by decide) rfl rfl rfl (Nat.le_of_ble_eq_true rfl) ⟨Nat.le_of_ble_eq_true rfl, Nat.le_of_ble_eq_true rfl⟩ ?_
      refine g_istore_n C dX12_wholeOf_31 rfl (Nat.le_of_ble_eq_true rfl) rfl rfl ?_
      refine g_iconst (v := 0) C dX12_wholeOf_32 (by decide) ?_
      refine g_istore C dX12_wholeOf_33 (Nat.le_of_ble_eq_true rfl) rfl rfl ?_
      refine g_loop (fun z6 => [(0, .ref (X.1 + 91)), (1, .int a0), (2, .int z1.1), (4, .int z6.1)]) (fun z6 => z6.2) (fun r7 => [(0, .ref (X.1 + 91)), (1, .int a0), (2, .int z1.1)]) (fun r7 => r7) 69 hf ho ⟨rfl, rfl, rfl, rfl, trivial⟩ rfl (fun r7 hf => ?_) (fun z6 o1 hf ho hkz6 hez6 => ?_)
      · refine g_iinc (d := 1) C dX12_wholeOf_69 rfl (by decide) rfl (Nat.le_of_ble_eq_true rfl) rfl rfl ?_
        refine g_goto (tgt := 2) C dX12_wholeOf_72 (by decide) ?_
        exact g_sub ⟨rfl, rfl, rfl, trivial⟩ (hkz1 _ hf.symm)
      · refine g_iload C dX12_wholeOf_35 rfl ?_
        refine g_aload_n C dX12_wholeOf_37 rfl rfl ?_
        refine g_getI (i := 3) (j := 3) C dX12_wholeOf_38 (L91 hL (by decide) (by decide)) c11 rfl f42 (fun _ h9 => h9) ?_
        refine g_icmp_ge (tgt := 69) C dX12_wholeOf_41 (by decide) hf (fun hf => ?_) (fun hf => ?_)
        · exact g_sub ⟨rfl, rfl, rfl, trivial⟩ (hez6 _ hf.symm)
        · refine g_aload_n C dX12_wholeOf_44 rfl rfl ?_
          refine g_getR (i := 25) (j := 25) C dX12_wholeOf_45 (L91 hL (by decide) (by decide)) c11 rfl (by decide) f100 (fun _ h9 => h9) (LR91_25 hL (by decide) (by decide)) ?_
          refine g_bipush (v := 6) C dX12_wholeOf_48 (by decide) ?_
          refine g_iload_n C dX12_wholeOf_50 rfl rfl ?_
          refine g_imul C dX12_wholeOf_51 ?_
          refine g_iload C dX12_wholeOf_52 rfl ?_
          refine g_iadd C dX12_wholeOf_54 ?_
          refine g_aload_n C dX12_wholeOf_55 rfl rfl ?_
          refine g_getR (i := 6) (j := 6) C dX12_wholeOf_56 (L91 hL (by decide) (by decide)) c11 rfl (by decide) f26 (fun _ h9 => h9) (LR91_6 hL (by decide) (by decide)) ?_
          refine g_iload C dX12_wholeOf_59 rfl ?_
          refine g_iald C dX12_wholeOf_61 (L92 hL (by decide) (by decide)) ho hf (fun hf => ?_)
          refine g_iast C dX12_wholeOf_62 (L111 hL (by decide) (by decide)) ho hf (fun hf => ?_)
          refine g_iinc (d := 1) C dX12_wholeOf_63 rfl (by decide) rfl (Nat.le_of_ble_eq_true rfl) rfl rfl ?_
          refine g_goto (tgt := 35) C dX12_wholeOf_66 (by decide) ?_
          exact g_sub ⟨rfl, rfl, rfl, rfl, trivial⟩ (hkz6 _ hf.symm)
def f_X12_told (N : Nat) (I : gI) (R : gR) (S : gS) (a0 : Int32) (a1 : Int32) : Option (Int32 × gI) :=
  ((f_X12_isPlace N (gU I 91 0 (0 : Int32)) R S a0).bind (fun z1 => (if z1 = 0 then some ((-1000001 : Int32), gU I 91 0 (0 : Int32)) else ((f_X12_in N (gU I 91 0 (0 : Int32)) R S a1.toInt64 (0 : Int64) (9 : Int64)).bind (fun z2 => (if z2 = 0 then some ((-1000001 : Int32), gU I 91 0 (0 : Int32)) else ((f_X12_look N (gU I 91 0 (0 : Int32)) R S a0).bind (fun z3 => (if 0 ≤ z3.1 then (if a1 = (0 : Int32) then if a0 < 0 ∨ 10 ≤ a0.toNatClampNeg then none else some (z3.2 101 a0.toNatClampNeg, z3.2) else (if a1 = (1 : Int32) then if ((((4 : Int32) * a0) + a1) - (1 : Int32)) < 0 ∨ 40 ≤ ((((4 : Int32) * a0) + a1) - (1 : Int32)).toNatClampNeg then none else some (z3.2 102 ((((4 : Int32) * a0) + a1) - (1 : Int32)).toNatClampNeg, z3.2) else (if a1 = (2 : Int32) then if ((((4 : Int32) * a0) + a1) - (1 : Int32)) < 0 ∨ 40 ≤ ((((4 : Int32) * a0) + a1) - (1 : Int32)).toNatClampNeg then none else some (z3.2 102 ((((4 : Int32) * a0) + a1) - (1 : Int32)).toNatClampNeg, z3.2) else (if a1 = (3 : Int32) then if ((((4 : Int32) * a0) + a1) - (1 : Int32)) < 0 ∨ 40 ≤ ((((4 : Int32) * a0) + a1) - (1 : Int32)).toNatClampNeg then none else some (z3.2 102 ((((4 : Int32) * a0) + a1) - (1 : Int32)).toNatClampNeg, z3.2) else (if a1 = (4 : Int32) then if ((((4 : Int32) * a0) + a1) - (1 : Int32)) < 0 ∨ 40 ≤ ((((4 : Int32) * a0) + a1) - (1 : Int32)).toNatClampNeg then none else some (z3.2 102 ((((4 : Int32) * a0) + a1) - (1 : Int32)).toNatClampNeg, z3.2) else (if a1 = (5 : Int32) then ((f_X12_ownOf N z3.2 R S a0).bind (fun z5 => some (z5.1, z5.2))) else (if a1 = (6 : Int32) then ((f_X12_heightOf N z3.2 R S a0).bind (fun z6 => some (z6.1, z6.2))) else (if a1 = (7 : Int32) then ((f_X12_wholeOf N z3.2 R S a0).bind (fun z7 => some (z7.1, z7.2))) else (if a1 = (8 : Int32) then ((iter (σ := Int32 × gI) (ρ := gI) (fun z8 => (if (z8.2 91 3) ≤ z8.1 then some (.inr z8.2) else ((f_X12_power N z8.2 R S (z8.2 91 2) z8.1).bind (fun z10 => ((f_X12_goOn N z8.2 R S a0 z8.1 z10).bind (fun z11 => some (.inl (z8.1 + 1, z11)))))))) N ((0 : Int32), z3.2)).bind (fun r9 => ((f_X12_leastOf N r9 R S (r9 91 3)).bind (fun z12 => some (z12.1, z12.2))))) else if a0 < 0 ∨ 10 ≤ a0.toNatClampNeg then none else (if (z3.2 101 a0.toNatClampNeg) = (2 : Int32) then ((f_X12_markOf N z3.2 R S a0).bind (fun z14 => some (z14, z3.2))) else ((f_X12_found N z3.2 R S (3 : Int32)).bind (fun z13 => some (z13.1, z13.2))))))))))))) else some (z3.1, z3.2))))))))))
set_option maxRecDepth 100000 in
set_option maxHeartbeats 8000000 in
theorem m_X12_told (l : Launch) (X : gX) (N : Nat) (I : gI) (R : gR) (S : gS) (hL : gLay 91 114 R S) (a0 : Int32) (a1 : Int32) (v : Int32) (J : gI) (hf : f_X12_told N I R S a0 a1 = some (v, J)) : gM l yX12_told wsX12_told { frames := 4, cells := 0, slots := 0, locals := 95 } X gE0 [.ref (X.1 + 91), .int a0, .int a1] I R S (some (.int v)) J R S 0 0 := by
  unfold f_X12_told at hf
  refine gM_of (cc := cX12_told) (own := RX12) (maxL := 5) (ret := (some .int)) (by decide) rfl rfl (Nat.le_of_ble_eq_true rfl) ?_
  intro p e s m args below meth c C hr hlk hnm hE
  have ho : (some (v, J)) ≠ none := fun h => by cases h
  have f1 := C.2.2.2.2.1 (.fieldLink RX12 1 "TimesByPowersModel" "thrown" "I") (by decide +kernel)
  have c11 : gCl wsX12_told 11 RX12 TX12 29 := ⟨by decide, rfl, rfl, by decide +kernel⟩
  have k141 := C.2.2.2.2.1 (.constant RX12 141 (-1000001)) (by decide +kernel)
  have k157 := C.2.2.2.2.1 (.constantLong RX12 157 (9)) (by decide +kernel)
  have f70 := C.2.2.2.2.1 (.fieldLink RX12 70 "TimesByPowersModel" "rank" "[I") (by decide +kernel)
  have f73 := C.2.2.2.2.1 (.fieldLink RX12 73 "TimesByPowersModel" "t" "[I") (by decide +kernel)
  have f42 := C.2.2.2.2.1 (.fieldLink RX12 42 "TimesByPowersModel" "n" "I") (by decide +kernel)
  have f11 := C.2.2.2.2.1 (.fieldLink RX12 11 "TimesByPowersModel" "p" "I") (by decide +kernel)
  refine g_aload_n C dX12_told_0 rfl rfl ?_
  refine g_iconst (v := 0) C dX12_told_1 (by decide) ?_
  refine g_putI (i := 0) (j := 0) C dX12_told_2 (L91 hL (by decide) (by decide)) c11 gy11 rfl f1 (fun _ h9 => h9) (Or.inl rfl) rfl ?_
  refine g_iload_n C dX12_told_5 rfl rfl ?_
  obtain ⟨z1, hz1, hf⟩ := gbind hf ho
  refine g_callS C dX12_told_6 (m_X12_isPlace l X N _ _ _  (gLay.sub hL (by decide) (by decide)) _ z1 hz1) gEin0 (va_cwS 1 C.2.2.2.2.1 gX12_told_X12_isPlace rfl rfl rfl (by decide +kernel) ⟨Nat.le_of_ble_eq_true rfl, Nat.le_of_ble_eq_true rfl⟩) rfl rfl (Nat.le_of_ble_eq_true rfl) ⟨Nat.le_of_ble_eq_true rfl, Nat.le_of_ble_eq_true rfl⟩ ?_
  refine g_if_eq (tgt := 24) C dX12_told_9 (by decide) hf (fun hf => ?_) (fun hf => ?_)
  · refine g_ldc C k141 dX12_told_24 ?_
    cases hf
    exact g_iret C dX12_told_26 hr hlk
  · refine g_iload_n C dX12_told_12 rfl rfl ?_
    refine g_i2l C dX12_told_13 ?_
    refine g_lconst (v := 0) C dX12_told_14 (by decide) ?_
    refine g_ldc2 C k157 dX12_told_15 ?_
    obtain ⟨z2, hz2, hf⟩ := gbind hf ho
    refine g_callS C dX12_told_18 (m_X12_in l X N _ _ _  (gLay.sub hL (by decide) (by decide)) _ _ _ z2 hz2) gEin0 (va_cwS 3 C.2.2.2.2.1 gX12_told_X12_in rfl rfl rfl (by decide +kernel) ⟨Nat.le_of_ble_eq_true rfl, Nat.le_of_ble_eq_true rfl⟩) rfl rfl (Nat.le_of_ble_eq_true rfl) ⟨Nat.le_of_ble_eq_true rfl, Nat.le_of_ble_eq_true rfl⟩ ?_
    refine g_if_ne (tgt := 27) C dX12_told_21 (by decide) hf (fun hf => ?_) (fun hf => ?_)
    · refine g_aload_n C dX12_told_27 rfl rfl ?_
      refine g_iload_n C dX12_told_28 rfl rfl ?_
      obtain ⟨z3, hz3, hf⟩ := gbind hf ho
      refine g_callV C dX12_told_29 (m_X12_look l X N _ _ _  (gLay.sub hL (by decide) (by decide)) _ z3.1 z3.2 hz3) gEin0 (cwV 1 C.2.2.2.2.1 gX12_told_X12_look rfl rfl rfl (by decide +kernel) ⟨Nat.le_of_ble_eq_true rfl, Nat.le_of_ble_eq_true rfl⟩) (L91 hL (by decide) (by decide)) (by decide) rfl rfl rfl (Nat.le_of_ble_eq_true rfl) ⟨Nat.le_of_ble_eq_true rfl, Nat.le_of_ble_eq_true rfl⟩ ?_
      refine g_istore_n C dX12_told_32 rfl (Nat.le_of_ble_eq_true rfl) rfl rfl ?_
      refine g_iload_n C dX12_told_33 rfl rfl ?_
      refine g_if_ge (tgt := 39) C dX12_told_34 (by decide) hf (fun hf => ?_) (fun hf => ?_)
      · refine g_iload_n C dX12_told_39 rfl rfl ?_
        by_cases ht4_0 : a1 = (0 : Int32)
        · rw [if_pos ht4_0] at hf
          refine g_tabC (v := (0 : Int32)) (tgt := 92) C dX12_told_40 ht4_0 (by decide) (by decide) rfl (by decide) ?_
          refine g_aload_n C dX12_told_92 rfl rfl ?_
          refine g_getR (i := 15) (j := 15) C dX12_told_93 (L91 hL (by decide) (by decide)) c11 rfl (by decide) f70 (fun _ h9 => h9) (LR91_15 hL (by decide) (by decide)) ?_
          refine g_iload_n C dX12_told_96 rfl rfl ?_
          refine g_iald C dX12_told_97 (L101 hL (by decide) (by decide)) ho hf (fun hf => ?_)
          cases hf
          exact g_iret C dX12_told_98 hr hlk
        · rw [if_neg ht4_0] at hf
          by_cases ht4_1 : a1 = (1 : Int32)
          · rw [if_pos ht4_1] at hf
            refine g_tabC (v := (1 : Int32)) (tgt := 99) C dX12_told_40 ht4_1 (by decide) (by decide) rfl (by decide) ?_
            refine g_aload_n C dX12_told_99 rfl rfl ?_
            refine g_getR (i := 16) (j := 16) C dX12_told_100 (L91 hL (by decide) (by decide)) c11 rfl (by decide) f73 (fun _ h9 => h9) (LR91_16 hL (by decide) (by decide)) ?_
            refine g_iconst (v := 4) C dX12_told_103 (by decide) ?_
            refine g_iload_n C dX12_told_104 rfl rfl ?_
            refine g_imul C dX12_told_105 ?_
            refine g_iload_n C dX12_told_106 rfl rfl ?_
            refine g_iadd C dX12_told_107 ?_
            refine g_iconst (v := 1) C dX12_told_108 (by decide) ?_
            refine g_isub C dX12_told_109 ?_
            refine g_iald C dX12_told_110 (L102 hL (by decide) (by decide)) ho hf (fun hf => ?_)
            cases hf
            exact g_iret C dX12_told_111 hr hlk
          · rw [if_neg ht4_1] at hf
            by_cases ht4_2 : a1 = (2 : Int32)
            · rw [if_pos ht4_2] at hf
              refine g_tabC (v := (2 : Int32)) (tgt := 99) C dX12_told_40 ht4_2 (by decide) (by decide) rfl (by decide) ?_
              refine g_aload_n C dX12_told_99 rfl rfl ?_
              refine g_getR (i := 16) (j := 16) C dX12_told_100 (L91 hL (by decide) (by decide)) c11 rfl (by decide) f73 (fun _ h9 => h9) (LR91_16 hL (by decide) (by decide)) ?_
              refine g_iconst (v := 4) C dX12_told_103 (by decide) ?_
              refine g_iload_n C dX12_told_104 rfl rfl ?_
              refine g_imul C dX12_told_105 ?_
              refine g_iload_n C dX12_told_106 rfl rfl ?_
              refine g_iadd C dX12_told_107 ?_
              refine g_iconst (v := 1) C dX12_told_108 (by decide) ?_
              refine g_isub C dX12_told_109 ?_
              refine g_iald C dX12_told_110 (L102 hL (by decide) (by decide)) ho hf (fun hf => ?_)
              cases hf
              exact g_iret C dX12_told_111 hr hlk
            · rw [if_neg ht4_2] at hf
              by_cases ht4_3 : a1 = (3 : Int32)
              · rw [if_pos ht4_3] at hf
                refine g_tabC (v := (3 : Int32)) (tgt := 99) C dX12_told_40 ht4_3 (by decide) (by decide) rfl (by decide) ?_
                refine g_aload_n C dX12_told_99 rfl rfl ?_
                refine g_getR (i := 16) (j := 16) C dX12_told_100 (L91 hL (by decide) (by decide)) c11 rfl (by decide) f73 (fun _ h9 => h9) (LR91_16 hL (by decide) (by decide)) ?_
                refine g_iconst (v := 4) C dX12_told_103 (by decide) ?_
                refine g_iload_n C dX12_told_104 rfl rfl ?_
                refine g_imul C dX12_told_105 ?_
                refine g_iload_n C dX12_told_106 rfl rfl ?_
                refine g_iadd C dX12_told_107 ?_
                refine g_iconst (v := 1) C dX12_told_108 (by decide) ?_
                refine g_isub C dX12_told_109 ?_
                refine g_iald C dX12_told_110 (L102 hL (by decide) (by decide)) ho hf (fun hf => ?_)
                cases hf
                exact g_iret C dX12_told_111 hr hlk
              · rw [if_neg ht4_3] at hf
                by_cases ht4_4 : a1 = (4 : Int32)
                · rw [if_pos ht4_4] at hf
                  refine g_tabC (v := (4 : Int32)) (tgt := 99) C dX12_told_40 ht4_4 (by decide) (by decide) rfl (by decide) ?_
                  refine g_aload_n C dX12_told_99 rfl rfl ?_
                  refine g_getR (i := 16) (j := 16) C dX12_told_100 (L91 hL (by decide) (by decide)) c11 rfl (by decide) f73 (fun _ h9 => h9) (LR91_16 hL (by decide) (by decide)) ?_
                  refine g_iconst (v := 4) C dX12_told_103 (by decide) ?_
                  refine g_iload_n C dX12_told_104 rfl rfl ?_
                  refine g_imul C dX12_told_105 ?_
                  refine g_iload_n C dX12_told_106 rfl rfl ?_
                  refine g_iadd C dX12_told_107 ?_
                  refine g_iconst (v := 1) C dX12_told_108 (by decide) ?_
                  refine g_isub C dX12_told_109 ?_
                  refine g_iald C dX12_told_110 (L102 hL (by decide) (by decide)) ho hf (fun hf => ?_)
                  cases hf
                  exact g_iret C dX12_told_111 hr hlk
                · rw [if_neg ht4_4] at hf
                  by_cases ht4_5 : a1 = (5 : Int32)
                  · rw [if_pos ht4_5] at hf
                    refine g_tabC (v := (5 : Int32)) (tgt := 112) C dX12_told_40 ht4_5 (by decide) (by decide) rfl (by decide) ?_
                    refine g_aload_n C dX12_told_112 rfl rfl ?_
                    refine g_iload_n C dX12_told_113 rfl rfl ?_
                    obtain ⟨z5, hz5, hf⟩ := gbind hf ho
                    refine g_callV C dX12_told_114 (m_X12_ownOf l X N _ _ _  (gLay.sub hL (by decide) (by decide)) _ z5.1 z5.2 hz5) gEin0 (cwV 1 C.2.2.2.2.1 gX12_told_X12_ownOf rfl rfl rfl (by decide +kernel) ⟨Nat.le_of_ble_eq_true rfl, Nat.le_of_ble_eq_true rfl⟩) (L91 hL (by decide) (by decide)) (by decide) rfl rfl rfl (Nat.le_of_ble_eq_true rfl) ⟨Nat.le_of_ble_eq_true rfl, Nat.le_of_ble_eq_true rfl⟩ ?_
                    cases hf
                    exact g_iret C dX12_told_117 hr hlk
                  · rw [if_neg ht4_5] at hf
                    by_cases ht4_6 : a1 = (6 : Int32)
                    · rw [if_pos ht4_6] at hf
                      refine g_tabC (v := (6 : Int32)) (tgt := 118) C dX12_told_40 ht4_6 (by decide) (by decide) rfl (by decide) ?_
                      refine g_aload_n C dX12_told_118 rfl rfl ?_
                      refine g_iload_n C dX12_told_119 rfl rfl ?_
                      obtain ⟨z6, hz6, hf⟩ := gbind hf ho
                      refine g_callV C dX12_told_120 (m_X12_heightOf l X N _ _ _  (gLay.sub hL (by decide) (by decide)) _ z6.1 z6.2 hz6) gEin0 (cwV 1 C.2.2.2.2.1 gX12_told_X12_heightOf rfl rfl rfl (by decide +kernel) ⟨Nat.le_of_ble_eq_true rfl, Nat.le_of_ble_eq_true rfl⟩) (L91 hL (by decide) (by decide)) (by decide) rfl rfl rfl (Nat.le_of_ble_eq_true rfl) ⟨Nat.le_of_ble_eq_true rfl, Nat.le_of_ble_eq_true rfl⟩ ?_
                      cases hf
                      exact g_iret C dX12_told_123 hr hlk
                    · rw [if_neg ht4_6] at hf
                      by_cases ht4_7 : a1 = (7 : Int32)
                      · rw [if_pos ht4_7] at hf
                        refine g_tabC (v := (7 : Int32)) (tgt := 124) C dX12_told_40 ht4_7 (by decide) (by decide) rfl (by decide) ?_
                        refine g_aload_n C dX12_told_124 rfl rfl ?_
                        refine g_iload_n C dX12_told_125 rfl rfl ?_
                        obtain ⟨z7, hz7, hf⟩ := gbind hf ho
                        refine g_callV C dX12_told_126 (m_X12_wholeOf l X N _ _ _  (gLay.sub hL (by decide) (by decide)) _ z7.1 z7.2 hz7) gEin0 (cwV 1 C.2.2.2.2.1 gX12_told_X12_wholeOf rfl rfl rfl (by decide +kernel) ⟨Nat.le_of_ble_eq_true rfl, Nat.le_of_ble_eq_true rfl⟩) (L91 hL (by decide) (by decide)) (by decide) rfl rfl rfl (Nat.le_of_ble_eq_true rfl) ⟨Nat.le_of_ble_eq_true rfl, Nat.le_of_ble_eq_true rfl⟩ ?_
                        cases hf
                        exact g_iret C dX12_told_129 hr hlk
                      · rw [if_neg ht4_7] at hf
                        by_cases ht4_8 : a1 = (8 : Int32)
                        · rw [if_pos ht4_8] at hf
                          refine g_tabC (v := (8 : Int32)) (tgt := 130) C dX12_told_40 ht4_8 (by decide) (by decide) rfl (by decide) ?_
                          refine g_iconst (v := 0) C dX12_told_130 (by decide) ?_
                          refine g_istore C dX12_told_131 (Nat.le_of_ble_eq_true rfl) rfl rfl ?_
                          refine g_loop (fun z8 => [(0, .ref (X.1 + 91)), (1, .int a0), (4, .int z8.1)]) (fun z8 => z8.2) (fun r9 => [(0, .ref (X.1 + 91))]) (fun r9 => r9) 164 hf ho ⟨rfl, rfl, rfl, trivial⟩ rfl (fun r9 hf => ?_) (fun z8 o1 hf ho hkz8 hez8 => ?_)
                          · refine g_aload_n C dX12_told_164 rfl rfl ?_
                            refine g_aload_n C dX12_told_165 rfl rfl ?_
                            refine g_getI (i := 3) (j := 3) C dX12_told_166 (L91 hL (by decide) (by decide)) c11 rfl f42 (fun _ h9 => h9) ?_
                            obtain ⟨z12, hz12, hf⟩ := gbind hf ho
                            refine g_callV C dX12_told_169 (m_X12_leastOf l X N _ _ _  (gLay.sub hL (by decide) (by decide)) _ z12.1 z12.2 hz12) gEin0 (cwV 1 C.2.2.2.2.1 gX12_told_X12_leastOf rfl rfl rfl (by decide +kernel) ⟨Nat.le_of_ble_eq_true rfl, Nat.le_of_ble_eq_true rfl⟩) (L91 hL (by decide) (by decide)) (by decide) rfl rfl rfl (Nat.le_of_ble_eq_true rfl) ⟨Nat.le_of_ble_eq_true rfl, Nat.le_of_ble_eq_true rfl⟩ ?_
                            cases hf
                            exact g_iret C dX12_told_172 hr hlk
                          · refine g_iload C dX12_told_133 rfl ?_
                            refine g_aload_n C dX12_told_135 rfl rfl ?_
                            refine g_getI (i := 3) (j := 3) C dX12_told_136 (L91 hL (by decide) (by decide)) c11 rfl f42 (fun _ h9 => h9) ?_
                            refine g_icmp_ge (tgt := 164) C dX12_told_139 (by decide) hf (fun hf => ?_) (fun hf => ?_)
                            · exact g_sub ⟨rfl, trivial⟩ (hez8 _ hf.symm)
                            · refine g_aload_n C dX12_told_142 rfl rfl ?_
                              refine g_iload_n C dX12_told_143 rfl rfl ?_
                              refine g_iload C dX12_told_144 rfl ?_
                              refine g_aload_n C dX12_told_146 rfl rfl ?_
                              refine g_getI (i := 2) (j := 2) C dX12_told_147 (L91 hL (by decide) (by decide)) c11 rfl f11 (fun _ h9 => h9) ?_
                              refine g_iload C dX12_told_150 rfl ?_
                              obtain ⟨z10, hz10, hf⟩ := gbind hf ho
                              refine g_callS C dX12_told_152 (m_X12_power l X N _ _ _  (gLay.sub hL (by decide) (by decide)) _ _ z10 hz10) gEin0 (va_cwS 2 C.2.2.2.2.1 gX12_told_X12_power rfl rfl rfl (by decide +kernel) ⟨Nat.le_of_ble_eq_true rfl, Nat.le_of_ble_eq_true rfl⟩) rfl rfl (Nat.le_of_ble_eq_true rfl) ⟨Nat.le_of_ble_eq_true rfl, Nat.le_of_ble_eq_true rfl⟩ ?_
                              obtain ⟨z11, hz11, hf⟩ := gbind hf ho
                              refine g_callV C dX12_told_155 (m_X12_goOn l X N _ _ _  (gLay.sub hL (by decide) (by decide)) _ _ _ z11 hz11) gEin0 (cwV 3 C.2.2.2.2.1 gX12_told_X12_goOn rfl rfl rfl (by decide +kernel) ⟨Nat.le_of_ble_eq_true rfl, Nat.le_of_ble_eq_true rfl⟩) (L91 hL (by decide) (by decide)) (by decide) rfl rfl rfl (Nat.le_of_ble_eq_true rfl) ⟨Nat.le_of_ble_eq_true rfl, Nat.le_of_ble_eq_true rfl⟩ ?_
                              refine g_iinc (d := 1) C dX12_told_158 rfl (by decide) rfl (Nat.le_of_ble_eq_true rfl) rfl rfl ?_
                              refine g_goto (tgt := 133) C dX12_told_161 (by decide) ?_
                              exact g_sub ⟨rfl, rfl, rfl, trivial⟩ (hkz8 _ hf.symm)
                        · rw [if_neg ht4_8] at hf
                          refine g_tabD (cnt := 9) (tgt := 173) C dX12_told_40 (fun k hk => by have hq : k = 0 ∨ k = 1 ∨ k = 2 ∨ k = 3 ∨ k = 4 ∨ k = 5 ∨ k = 6 ∨ k = 7 ∨ k = 8 := (by omega); rcases hq with rfl | rfl | rfl | rfl | rfl | rfl | rfl | rfl | rfl <;> assumption) (by decide) (by decide) ?_
                          refine g_aload_n C dX12_told_173 rfl rfl ?_
                          refine g_getR (i := 15) (j := 15) C dX12_told_174 (L91 hL (by decide) (by decide)) c11 rfl (by decide) f70 (fun _ h9 => h9) (LR91_15 hL (by decide) (by decide)) ?_
                          refine g_iload_n C dX12_told_177 rfl rfl ?_
                          refine g_iald C dX12_told_178 (L101 hL (by decide) (by decide)) ho hf (fun hf => ?_)
                          refine g_iconst (v := 2) C dX12_told_179 (by decide) ?_
                          refine g_icmp_ne (tgt := 191) C dX12_told_180 (by decide) hf (fun hf => ?_) (fun hf => ?_)
                          · refine g_aload_n C dX12_told_191 rfl rfl ?_
                            refine g_iconst (v := 3) C dX12_told_192 (by decide) ?_
                            obtain ⟨z13, hz13, hf⟩ := gbind hf ho
                            refine g_callV C dX12_told_193 (m_X12_found l X N _ _ _  (gLay.sub hL (by decide) (by decide)) _ z13.1 z13.2 hz13) gEin0 (cwV 1 C.2.2.2.2.1 gX12_told_X12_found rfl rfl rfl (by decide +kernel) ⟨Nat.le_of_ble_eq_true rfl, Nat.le_of_ble_eq_true rfl⟩) (L91 hL (by decide) (by decide)) (by decide) rfl rfl rfl (Nat.le_of_ble_eq_true rfl) ⟨Nat.le_of_ble_eq_true rfl, Nat.le_of_ble_eq_true rfl⟩ ?_
                            cases hf
                            exact g_iret C dX12_told_196 hr hlk
                          · refine g_aload_n C dX12_told_183 rfl rfl ?_
                            refine g_iload_n C dX12_told_184 rfl rfl ?_
                            obtain ⟨z14, hz14, hf⟩ := gbind hf ho
                            refine g_callV C dX12_told_185 (m_X12_markOf l X N _ _ _  (gLay.sub hL (by decide) (by decide)) _ z14 hz14) gEin0 (cwV 1 C.2.2.2.2.1 gX12_told_X12_markOf rfl rfl rfl (by decide +kernel) ⟨Nat.le_of_ble_eq_true rfl, Nat.le_of_ble_eq_true rfl⟩) (L91 hL (by decide) (by decide)) (by decide) rfl rfl rfl (Nat.le_of_ble_eq_true rfl) ⟨Nat.le_of_ble_eq_true rfl, Nat.le_of_ble_eq_true rfl⟩ ?_
                            refine g_goto (tgt := 196) C dX12_told_188 (by decide) ?_
                            cases hf
                            exact g_iret C dX12_told_196 hr hlk
      · refine g_iload_n C dX12_told_37 rfl rfl ?_
        cases hf
        exact g_iret C dX12_told_38 hr hlk
    · refine g_ldc C k141 dX12_told_24 ?_
      cases hf
      exact g_iret C dX12_told_26 hr hlk
def f_X12_isPolynomial (N : Nat) (I : gI) (R : gR) (S : gS) (a0 : Int32) : Option (Int32) :=
  ((f_X12_power N I R S (I 91 2) (7 : Int32)).bind (fun z1 => ((f_X12_in N I R S a0.toInt64 (0 : Int64) ((z1 - (1 : Int32)).toInt64)).bind (fun z2 => if z2 = 0 ∨ z2 = 1 then some z2 else none))))
set_option maxRecDepth 100000 in
set_option maxHeartbeats 8000000 in
theorem m_X12_isPolynomial (l : Launch) (X : gX) (N : Nat) (I : gI) (R : gR) (S : gS) (hL : gLay 91 114 R S) (a0 : Int32) (v : Int32) (hf : f_X12_isPolynomial N I R S a0 = some v) : gM l yX12_isPolynomial wsX12_isPolynomial { frames := 1, cells := 0, slots := 0, locals := 25 } X gE0 [.ref (X.1 + 91), .int a0] I R S (some (.int v)) I R S 0 0 := by
  unfold f_X12_isPolynomial at hf
  refine gM_of (cc := cX12_isPolynomial) (own := RX12) (maxL := 2) (ret := (some .boolean)) (by decide) rfl rfl (Nat.le_of_ble_eq_true rfl) ?_
  intro p e s m args below meth c C hr hlk hnm hE
  have ho : (some v) ≠ none := fun h => by cases h
  have f11 := C.2.2.2.2.1 (.fieldLink RX12 11 "TimesByPowersModel" "p" "I") (by decide +kernel)
  have c11 : gCl wsX12_isPolynomial 11 RX12 TX12 29 := ⟨by decide, rfl, rfl, by decide +kernel⟩
  refine g_iload_n C dX12_isPolynomial_0 rfl rfl ?_
  refine g_i2l C dX12_isPolynomial_1 ?_
  refine g_lconst (v := 0) C dX12_isPolynomial_2 (by decide) ?_
  refine g_aload_n C dX12_isPolynomial_3 rfl rfl ?_
  refine g_getI (i := 2) (j := 2) C dX12_isPolynomial_4 (L91 hL (by decide) (by decide)) c11 rfl f11 (fun _ h9 => h9) ?_
  refine g_bipush (v := 7) C dX12_isPolynomial_7 (by decide) ?_
  obtain ⟨z1, hz1, hf⟩ := gbind hf ho
  refine g_callS C dX12_isPolynomial_9 (m_X12_power l X N _ _ _  (gLay.sub hL (by decide) (by decide)) _ _ z1 hz1) gEin0 (va_cwS 2 C.2.2.2.2.1 gX12_isPolynomial_X12_power rfl rfl rfl (by decide +kernel) ⟨Nat.le_of_ble_eq_true rfl, Nat.le_of_ble_eq_true rfl⟩) rfl rfl (Nat.le_of_ble_eq_true rfl) ⟨Nat.le_of_ble_eq_true rfl, Nat.le_of_ble_eq_true rfl⟩ ?_
  refine g_iconst (v := 1) C dX12_isPolynomial_12 (by decide) ?_
  refine g_isub C dX12_isPolynomial_13 ?_
  refine g_i2l C dX12_isPolynomial_14 ?_
  obtain ⟨z2, hz2, hf⟩ := gbind hf ho
  refine g_callS C dX12_isPolynomial_15 (m_X12_in l X N _ _ _  (gLay.sub hL (by decide) (by decide)) _ _ _ z2 hz2) gEin0 (va_cwS 3 C.2.2.2.2.1 gX12_isPolynomial_X12_in rfl rfl rfl (by decide +kernel) ⟨Nat.le_of_ble_eq_true rfl, Nat.le_of_ble_eq_true rfl⟩) rfl rfl (Nat.le_of_ble_eq_true rfl) ⟨Nat.le_of_ble_eq_true rfl, Nat.le_of_ble_eq_true rfl⟩ ?_
  obtain ⟨hb01, hf⟩ := gcase hf ho
  cases hf
  exact g_zret C dX12_isPolynomial_18 hr hlk hb01
def f_X12_acts (N : Nat) (I : gI) (R : gR) (S : gS) (a0 : Int32) (a1 : Int32) (a2 : Int32) : Option (Int32 × gI) :=
  ((f_X12_isPlace N (gU I 91 0 (0 : Int32)) R S a0).bind (fun z1 => (if z1 = 0 then some ((-1000001 : Int32), gU I 91 0 (0 : Int32)) else ((f_X12_isPolynomial N (gU I 91 0 (0 : Int32)) R S a1).bind (fun z2 => (if z2 = 0 then some ((-1000001 : Int32), gU I 91 0 (0 : Int32)) else ((f_X12_isElement N (gU I 91 0 (0 : Int32)) R S a2).bind (fun z3 => (if z3 = 0 then some ((-1000001 : Int32), gU I 91 0 (0 : Int32)) else ((f_X12_look N (gU I 91 0 (0 : Int32)) R S a0).bind (fun z4 => (if 0 ≤ z4.1 then ((f_X12_act N z4.2 R S a0 a1).bind (fun z5 => ((f_X12_done N z5 R S 103 a2).bind (fun z6 => some (z6, z5))))) else some (z4.1, z4.2)))))))))))))
set_option maxRecDepth 100000 in
set_option maxHeartbeats 8000000 in
theorem m_X12_acts (l : Launch) (X : gX) (N : Nat) (I : gI) (R : gR) (S : gS) (hL : gLay 91 114 R S) (a0 : Int32) (a1 : Int32) (a2 : Int32) (v : Int32) (J : gI) (hf : f_X12_acts N I R S a0 a1 a2 = some (v, J)) : gM l yX12_acts wsX12_acts { frames := 3, cells := 0, slots := 0, locals := 73 } X gE0 [.ref (X.1 + 91), .int a0, .int a1, .int a2] I R S (some (.int v)) J R S 0 0 := by
  unfold f_X12_acts at hf
  refine gM_of (cc := cX12_acts) (own := RX12) (maxL := 5) (ret := (some .int)) (by decide) rfl rfl (Nat.le_of_ble_eq_true rfl) ?_
  intro p e s m args below meth c C hr hlk hnm hE
  have ho : (some (v, J)) ≠ none := fun h => by cases h
  have f1 := C.2.2.2.2.1 (.fieldLink RX12 1 "TimesByPowersModel" "thrown" "I") (by decide +kernel)
  have c11 : gCl wsX12_acts 11 RX12 TX12 29 := ⟨by decide, rfl, rfl, by decide +kernel⟩
  have k141 := C.2.2.2.2.1 (.constant RX12 141 (-1000001)) (by decide +kernel)
  have f76 := C.2.2.2.2.1 (.fieldLink RX12 76 "TimesByPowersModel" "made" "[I") (by decide +kernel)
  refine g_aload_n C dX12_acts_0 rfl rfl ?_
  refine g_iconst (v := 0) C dX12_acts_1 (by decide) ?_
  refine g_putI (i := 0) (j := 0) C dX12_acts_2 (L91 hL (by decide) (by decide)) c11 gy11 rfl f1 (fun _ h9 => h9) (Or.inl rfl) rfl ?_
  refine g_iload_n C dX12_acts_5 rfl rfl ?_
  obtain ⟨z1, hz1, hf⟩ := gbind hf ho
  refine g_callS C dX12_acts_6 (m_X12_isPlace l X N _ _ _  (gLay.sub hL (by decide) (by decide)) _ z1 hz1) gEin0 (va_cwS 1 C.2.2.2.2.1 gX12_acts_X12_isPlace rfl rfl rfl (by decide +kernel) ⟨Nat.le_of_ble_eq_true rfl, Nat.le_of_ble_eq_true rfl⟩) rfl rfl (Nat.le_of_ble_eq_true rfl) ⟨Nat.le_of_ble_eq_true rfl, Nat.le_of_ble_eq_true rfl⟩ ?_
  refine g_if_eq (tgt := 28) C dX12_acts_9 (by decide) hf (fun hf => ?_) (fun hf => ?_)
  · refine g_ldc C k141 dX12_acts_28 ?_
    cases hf
    exact g_iret C dX12_acts_30 hr hlk
  · refine g_aload_n C dX12_acts_12 rfl rfl ?_
    refine g_iload_n C dX12_acts_13 rfl rfl ?_
    obtain ⟨z2, hz2, hf⟩ := gbind hf ho
    refine g_callV C dX12_acts_14 (m_X12_isPolynomial l X N _ _ _  (gLay.sub hL (by decide) (by decide)) _ z2 hz2) gEin0 (cwV 1 C.2.2.2.2.1 gX12_acts_X12_isPolynomial rfl rfl rfl (by decide +kernel) ⟨Nat.le_of_ble_eq_true rfl, Nat.le_of_ble_eq_true rfl⟩) (L91 hL (by decide) (by decide)) (by decide) rfl rfl rfl (Nat.le_of_ble_eq_true rfl) ⟨Nat.le_of_ble_eq_true rfl, Nat.le_of_ble_eq_true rfl⟩ ?_
    refine g_if_eq (tgt := 28) C dX12_acts_17 (by decide) hf (fun hf => ?_) (fun hf => ?_)
    · refine g_ldc C k141 dX12_acts_28 ?_
      cases hf
      exact g_iret C dX12_acts_30 hr hlk
    · refine g_aload_n C dX12_acts_20 rfl rfl ?_
      refine g_iload_n C dX12_acts_21 rfl rfl ?_
      obtain ⟨z3, hz3, hf⟩ := gbind hf ho
      refine g_callV C dX12_acts_22 (m_X12_isElement l X N _ _ _  (gLay.sub hL (by decide) (by decide)) _ z3 hz3) gEin0 (cwV 1 C.2.2.2.2.1 gX12_acts_X12_isElement rfl rfl rfl (by decide +kernel) ⟨Nat.le_of_ble_eq_true rfl, Nat.le_of_ble_eq_true rfl⟩) (L91 hL (by decide) (by decide)) (by decide) rfl rfl rfl (Nat.le_of_ble_eq_true rfl) ⟨Nat.le_of_ble_eq_true rfl, Nat.le_of_ble_eq_true rfl⟩ ?_
      refine g_if_ne (tgt := 31) C dX12_acts_25 (by decide) hf (fun hf => ?_) (fun hf => ?_)
      · refine g_aload_n C dX12_acts_31 rfl rfl ?_
        refine g_iload_n C dX12_acts_32 rfl rfl ?_
        obtain ⟨z4, hz4, hf⟩ := gbind hf ho
        refine g_callV C dX12_acts_33 (m_X12_look l X N _ _ _  (gLay.sub hL (by decide) (by decide)) _ z4.1 z4.2 hz4) gEin0 (cwV 1 C.2.2.2.2.1 gX12_acts_X12_look rfl rfl rfl (by decide +kernel) ⟨Nat.le_of_ble_eq_true rfl, Nat.le_of_ble_eq_true rfl⟩) (L91 hL (by decide) (by decide)) (by decide) rfl rfl rfl (Nat.le_of_ble_eq_true rfl) ⟨Nat.le_of_ble_eq_true rfl, Nat.le_of_ble_eq_true rfl⟩ ?_
        refine g_istore C dX12_acts_36 (Nat.le_of_ble_eq_true rfl) rfl rfl ?_
        refine g_iload C dX12_acts_38 rfl ?_
        refine g_if_ge (tgt := 46) C dX12_acts_40 (by decide) hf (fun hf => ?_) (fun hf => ?_)
        · refine g_aload_n C dX12_acts_46 rfl rfl ?_
          refine g_iload_n C dX12_acts_47 rfl rfl ?_
          refine g_iload_n C dX12_acts_48 rfl rfl ?_
          obtain ⟨z5, hz5, hf⟩ := gbind hf ho
          refine g_callV C dX12_acts_49 (m_X12_act l X N _ _ _  (gLay.sub hL (by decide) (by decide)) _ _ z5 hz5) gEin0 (cwV 2 C.2.2.2.2.1 gX12_acts_X12_act rfl rfl rfl (by decide +kernel) ⟨Nat.le_of_ble_eq_true rfl, Nat.le_of_ble_eq_true rfl⟩) (L91 hL (by decide) (by decide)) (by decide) rfl rfl rfl (Nat.le_of_ble_eq_true rfl) ⟨Nat.le_of_ble_eq_true rfl, Nat.le_of_ble_eq_true rfl⟩ ?_
          refine g_aload_n C dX12_acts_52 rfl rfl ?_
          refine g_aload_n C dX12_acts_53 rfl rfl ?_
          refine g_getR (i := 17) (j := 17) C dX12_acts_54 (L91 hL (by decide) (by decide)) c11 rfl (by decide) f76 (fun _ h9 => h9) (LR91_17 hL (by decide) (by decide)) ?_
          refine g_iload_n C dX12_acts_57 rfl rfl ?_
          obtain ⟨z6, hz6, hf⟩ := gbind hf ho
          refine g_callV C dX12_acts_58 (m_X12_done l X N _ _ _  (gLay.sub hL (by decide) (by decide)) _ _ z6 hz6) gEin0 (cwV 2 C.2.2.2.2.1 gX12_acts_X12_done rfl rfl rfl (by decide +kernel) ⟨Nat.le_of_ble_eq_true rfl, Nat.le_of_ble_eq_true rfl⟩) (L91 hL (by decide) (by decide)) (by decide) rfl rfl rfl (Nat.le_of_ble_eq_true rfl) ⟨Nat.le_of_ble_eq_true rfl, Nat.le_of_ble_eq_true rfl⟩ ?_
          cases hf
          exact g_iret C dX12_acts_61 hr hlk
        · refine g_iload C dX12_acts_43 rfl ?_
          cases hf
          exact g_iret C dX12_acts_45 hr hlk
      · refine g_ldc C k141 dX12_acts_28 ?_
        cases hf
        exact g_iret C dX12_acts_30 hr hlk
def f_X12_sum (N : Nat) (I : gI) (R : gR) (S : gS) (a0 : Int32) (a1 : Int32) (a2 : Int32) : Option (Int32 × gI) :=
  ((f_X12_isPlace N (gU I 91 0 (0 : Int32)) R S a0).bind (fun z1 => (if z1 = 0 then some ((-1000001 : Int32), gU I 91 0 (0 : Int32)) else ((f_X12_isPolynomial N (gU I 91 0 (0 : Int32)) R S a1).bind (fun z2 => (if z2 = 0 then some ((-1000001 : Int32), gU I 91 0 (0 : Int32)) else (if (-1 : Int32) ≤ a2 then ((f_X12_look N (gU I 91 0 (0 : Int32)) R S a0).bind (fun z3 => (if 0 ≤ z3.1 then ((f_X12_act N z3.2 R S a0 a1).bind (fun z4 => (if a2 = (-1 : Int32) then ((f_X12_lengthOf N z4 R S 103).bind (fun z5 => some (z5, z4))) else (if a2 ≤ (23 : Int32) then if a2 < 0 ∨ 24 ≤ a2.toNatClampNeg then none else some (z4 103 a2.toNatClampNeg, z4) else some ((0 : Int32), z4))))) else some (z3.1, z3.2)))) else some ((-1000001 : Int32), gU I 91 0 (0 : Int32)))))))))
set_option maxRecDepth 100000 in
set_option maxHeartbeats 8000000 in
theorem m_X12_sum (l : Launch) (X : gX) (N : Nat) (I : gI) (R : gR) (S : gS) (hL : gLay 91 114 R S) (a0 : Int32) (a1 : Int32) (a2 : Int32) (v : Int32) (J : gI) (hf : f_X12_sum N I R S a0 a1 a2 = some (v, J)) : gM l yX12_sum wsX12_sum { frames := 3, cells := 0, slots := 0, locals := 73 } X gE0 [.ref (X.1 + 91), .int a0, .int a1, .int a2] I R S (some (.int v)) J R S 0 0 := by
  unfold f_X12_sum at hf
  refine gM_of (cc := cX12_sum) (own := RX12) (maxL := 5) (ret := (some .int)) (by decide) rfl rfl (Nat.le_of_ble_eq_true rfl) ?_
  intro p e s m args below meth c C hr hlk hnm hE
  have ho : (some (v, J)) ≠ none := fun h => by cases h
  have f1 := C.2.2.2.2.1 (.fieldLink RX12 1 "TimesByPowersModel" "thrown" "I") (by decide +kernel)
  have c11 : gCl wsX12_sum 11 RX12 TX12 29 := ⟨by decide, rfl, rfl, by decide +kernel⟩
  have k141 := C.2.2.2.2.1 (.constant RX12 141 (-1000001)) (by decide +kernel)
  have f76 := C.2.2.2.2.1 (.fieldLink RX12 76 "TimesByPowersModel" "made" "[I") (by decide +kernel)
  refine g_aload_n C dX12_sum_0 rfl rfl ?_
  refine g_iconst (v := 0) C dX12_sum_1 (by decide) ?_
  refine g_putI (i := 0) (j := 0) C dX12_sum_2 (L91 hL (by decide) (by decide)) c11 gy11 rfl f1 (fun _ h9 => h9) (Or.inl rfl) rfl ?_
  refine g_iload_n C dX12_sum_5 rfl rfl ?_
  obtain ⟨z1, hz1, hf⟩ := gbind hf ho
  refine g_callS C dX12_sum_6 (m_X12_isPlace l X N _ _ _  (gLay.sub hL (by decide) (by decide)) _ z1 hz1) gEin0 (va_cwS 1 C.2.2.2.2.1 gX12_sum_X12_isPlace rfl rfl rfl (by decide +kernel) ⟨Nat.le_of_ble_eq_true rfl, Nat.le_of_ble_eq_true rfl⟩) rfl rfl (Nat.le_of_ble_eq_true rfl) ⟨Nat.le_of_ble_eq_true rfl, Nat.le_of_ble_eq_true rfl⟩ ?_
  refine g_if_eq (tgt := 25) C dX12_sum_9 (by decide) hf (fun hf => ?_) (fun hf => ?_)
  · refine g_ldc C k141 dX12_sum_25 ?_
    cases hf
    exact g_iret C dX12_sum_27 hr hlk
  · refine g_aload_n C dX12_sum_12 rfl rfl ?_
    refine g_iload_n C dX12_sum_13 rfl rfl ?_
    obtain ⟨z2, hz2, hf⟩ := gbind hf ho
    refine g_callV C dX12_sum_14 (m_X12_isPolynomial l X N _ _ _  (gLay.sub hL (by decide) (by decide)) _ z2 hz2) gEin0 (cwV 1 C.2.2.2.2.1 gX12_sum_X12_isPolynomial rfl rfl rfl (by decide +kernel) ⟨Nat.le_of_ble_eq_true rfl, Nat.le_of_ble_eq_true rfl⟩) (L91 hL (by decide) (by decide)) (by decide) rfl rfl rfl (Nat.le_of_ble_eq_true rfl) ⟨Nat.le_of_ble_eq_true rfl, Nat.le_of_ble_eq_true rfl⟩ ?_
    refine g_if_eq (tgt := 25) C dX12_sum_17 (by decide) hf (fun hf => ?_) (fun hf => ?_)
    · refine g_ldc C k141 dX12_sum_25 ?_
      cases hf
      exact g_iret C dX12_sum_27 hr hlk
    · refine g_iload_n C dX12_sum_20 rfl rfl ?_
      refine g_iconst (v := -1) C dX12_sum_21 (by decide) ?_
      refine g_icmp_ge (tgt := 28) C dX12_sum_22 (by decide) hf (fun hf => ?_) (fun hf => ?_)
      · refine g_aload_n C dX12_sum_28 rfl rfl ?_
        refine g_iload_n C dX12_sum_29 rfl rfl ?_
        obtain ⟨z3, hz3, hf⟩ := gbind hf ho
        refine g_callV C dX12_sum_30 (m_X12_look l X N _ _ _  (gLay.sub hL (by decide) (by decide)) _ z3.1 z3.2 hz3) gEin0 (cwV 1 C.2.2.2.2.1 gX12_sum_X12_look rfl rfl rfl (by decide +kernel) ⟨Nat.le_of_ble_eq_true rfl, Nat.le_of_ble_eq_true rfl⟩) (L91 hL (by decide) (by decide)) (by decide) rfl rfl rfl (Nat.le_of_ble_eq_true rfl) ⟨Nat.le_of_ble_eq_true rfl, Nat.le_of_ble_eq_true rfl⟩ ?_
        refine g_istore C dX12_sum_33 (Nat.le_of_ble_eq_true rfl) rfl rfl ?_
        refine g_iload C dX12_sum_35 rfl ?_
        refine g_if_ge (tgt := 43) C dX12_sum_37 (by decide) hf (fun hf => ?_) (fun hf => ?_)
        · refine g_aload_n C dX12_sum_43 rfl rfl ?_
          refine g_iload_n C dX12_sum_44 rfl rfl ?_
          refine g_iload_n C dX12_sum_45 rfl rfl ?_
          obtain ⟨z4, hz4, hf⟩ := gbind hf ho
          refine g_callV C dX12_sum_46 (m_X12_act l X N _ _ _  (gLay.sub hL (by decide) (by decide)) _ _ z4 hz4) gEin0 (cwV 2 C.2.2.2.2.1 gX12_sum_X12_act rfl rfl rfl (by decide +kernel) ⟨Nat.le_of_ble_eq_true rfl, Nat.le_of_ble_eq_true rfl⟩) (L91 hL (by decide) (by decide)) (by decide) rfl rfl rfl (Nat.le_of_ble_eq_true rfl) ⟨Nat.le_of_ble_eq_true rfl, Nat.le_of_ble_eq_true rfl⟩ ?_
          refine g_iload_n C dX12_sum_49 rfl rfl ?_
          refine g_iconst (v := -1) C dX12_sum_50 (by decide) ?_
          refine g_icmp_ne (tgt := 64) C dX12_sum_51 (by decide) hf (fun hf => ?_) (fun hf => ?_)
          · refine g_iload_n C dX12_sum_64 rfl rfl ?_
            refine g_bipush (v := 23) C dX12_sum_65 (by decide) ?_
            refine g_icmp_le (tgt := 74) C dX12_sum_67 (by decide) hf (fun hf => ?_) (fun hf => ?_)
            · refine g_aload_n C dX12_sum_74 rfl rfl ?_
              refine g_getR (i := 17) (j := 17) C dX12_sum_75 (L91 hL (by decide) (by decide)) c11 rfl (by decide) f76 (fun _ h9 => h9) (LR91_17 hL (by decide) (by decide)) ?_
              refine g_iload_n C dX12_sum_78 rfl rfl ?_
              refine g_iald C dX12_sum_79 (L103 hL (by decide) (by decide)) ho hf (fun hf => ?_)
              cases hf
              exact g_iret C dX12_sum_80 hr hlk
            · refine g_iconst (v := 0) C dX12_sum_70 (by decide) ?_
              refine g_goto (tgt := 80) C dX12_sum_71 (by decide) ?_
              cases hf
              exact g_iret C dX12_sum_80 hr hlk
          · refine g_aload_n C dX12_sum_54 rfl rfl ?_
            refine g_getR (i := 17) (j := 17) C dX12_sum_55 (L91 hL (by decide) (by decide)) c11 rfl (by decide) f76 (fun _ h9 => h9) (LR91_17 hL (by decide) (by decide)) ?_
            obtain ⟨z5, hz5, hf⟩ := gbind hf ho
            refine g_callS C dX12_sum_58 (m_X12_lengthOf l X N _ _ _  (gLay.sub hL (by decide) (by decide)) _ z5 hz5) gEin0 (va_cwS 1 C.2.2.2.2.1 gX12_sum_X12_lengthOf rfl rfl rfl (by decide +kernel) ⟨Nat.le_of_ble_eq_true rfl, Nat.le_of_ble_eq_true rfl⟩) rfl rfl (Nat.le_of_ble_eq_true rfl) ⟨Nat.le_of_ble_eq_true rfl, Nat.le_of_ble_eq_true rfl⟩ ?_
            refine g_goto (tgt := 80) C dX12_sum_61 (by decide) ?_
            cases hf
            exact g_iret C dX12_sum_80 hr hlk
        · refine g_iload C dX12_sum_40 rfl ?_
          cases hf
          exact g_iret C dX12_sum_42 hr hlk
      · refine g_ldc C k141 dX12_sum_25 ?_
        cases hf
        exact g_iret C dX12_sum_27 hr hlk
def f_X12_order (N : Nat) (I : gI) (R : gR) (S : gS) (a0 : Int32) (a1 : Int32) : Option (Int32 × gI) :=
  ((f_X12_isPlace N (gU I 91 0 (0 : Int32)) R S a0).bind (fun z1 => (if z1 = 0 then some ((-1000001 : Int32), gU I 91 0 (0 : Int32)) else ((f_X12_isElement N (gU I 91 0 (0 : Int32)) R S a1).bind (fun z2 => (if z2 = 0 then some ((-1000001 : Int32), gU I 91 0 (0 : Int32)) else ((f_X12_look N (gU I 91 0 (0 : Int32)) R S a0).bind (fun z3 => (if 0 ≤ z3.1 then ((f_X12_goOn N z3.2 R S a0 (0 : Int32) a1).bind (fun z4 => ((f_X12_leastOf N z4 R S (1 : Int32)).bind (fun z5 => some (z5.1, z5.2))))) else some (z3.1, z3.2))))))))))
set_option maxRecDepth 100000 in
set_option maxHeartbeats 8000000 in
theorem m_X12_order (l : Launch) (X : gX) (N : Nat) (I : gI) (R : gR) (S : gS) (hL : gLay 91 114 R S) (a0 : Int32) (a1 : Int32) (v : Int32) (J : gI) (hf : f_X12_order N I R S a0 a1 = some (v, J)) : gM l yX12_order wsX12_order { frames := 3, cells := 0, slots := 0, locals := 75 } X gE0 [.ref (X.1 + 91), .int a0, .int a1] I R S (some (.int v)) J R S 0 0 := by
  unfold f_X12_order at hf
  refine gM_of (cc := cX12_order) (own := RX12) (maxL := 4) (ret := (some .int)) (by decide) rfl rfl (Nat.le_of_ble_eq_true rfl) ?_
  intro p e s m args below meth c C hr hlk hnm hE
  have ho : (some (v, J)) ≠ none := fun h => by cases h
  have f1 := C.2.2.2.2.1 (.fieldLink RX12 1 "TimesByPowersModel" "thrown" "I") (by decide +kernel)
  have c11 : gCl wsX12_order 11 RX12 TX12 29 := ⟨by decide, rfl, rfl, by decide +kernel⟩
  have k141 := C.2.2.2.2.1 (.constant RX12 141 (-1000001)) (by decide +kernel)
  refine g_aload_n C dX12_order_0 rfl rfl ?_
  refine g_iconst (v := 0) C dX12_order_1 (by decide) ?_
  refine g_putI (i := 0) (j := 0) C dX12_order_2 (L91 hL (by decide) (by decide)) c11 gy11 rfl f1 (fun _ h9 => h9) (Or.inl rfl) rfl ?_
  refine g_iload_n C dX12_order_5 rfl rfl ?_
  obtain ⟨z1, hz1, hf⟩ := gbind hf ho
  refine g_callS C dX12_order_6 (m_X12_isPlace l X N _ _ _  (gLay.sub hL (by decide) (by decide)) _ z1 hz1) gEin0 (va_cwS 1 C.2.2.2.2.1 gX12_order_X12_isPlace rfl rfl rfl (by decide +kernel) ⟨Nat.le_of_ble_eq_true rfl, Nat.le_of_ble_eq_true rfl⟩) rfl rfl (Nat.le_of_ble_eq_true rfl) ⟨Nat.le_of_ble_eq_true rfl, Nat.le_of_ble_eq_true rfl⟩ ?_
  refine g_if_eq (tgt := 20) C dX12_order_9 (by decide) hf (fun hf => ?_) (fun hf => ?_)
  · refine g_ldc C k141 dX12_order_20 ?_
    cases hf
    exact g_iret C dX12_order_22 hr hlk
  · refine g_aload_n C dX12_order_12 rfl rfl ?_
    refine g_iload_n C dX12_order_13 rfl rfl ?_
    obtain ⟨z2, hz2, hf⟩ := gbind hf ho
    refine g_callV C dX12_order_14 (m_X12_isElement l X N _ _ _  (gLay.sub hL (by decide) (by decide)) _ z2 hz2) gEin0 (cwV 1 C.2.2.2.2.1 gX12_order_X12_isElement rfl rfl rfl (by decide +kernel) ⟨Nat.le_of_ble_eq_true rfl, Nat.le_of_ble_eq_true rfl⟩) (L91 hL (by decide) (by decide)) (by decide) rfl rfl rfl (Nat.le_of_ble_eq_true rfl) ⟨Nat.le_of_ble_eq_true rfl, Nat.le_of_ble_eq_true rfl⟩ ?_
    refine g_if_ne (tgt := 23) C dX12_order_17 (by decide) hf (fun hf => ?_) (fun hf => ?_)
    · refine g_aload_n C dX12_order_23 rfl rfl ?_
      refine g_iload_n C dX12_order_24 rfl rfl ?_
      obtain ⟨z3, hz3, hf⟩ := gbind hf ho
      refine g_callV C dX12_order_25 (m_X12_look l X N _ _ _  (gLay.sub hL (by decide) (by decide)) _ z3.1 z3.2 hz3) gEin0 (cwV 1 C.2.2.2.2.1 gX12_order_X12_look rfl rfl rfl (by decide +kernel) ⟨Nat.le_of_ble_eq_true rfl, Nat.le_of_ble_eq_true rfl⟩) (L91 hL (by decide) (by decide)) (by decide) rfl rfl rfl (Nat.le_of_ble_eq_true rfl) ⟨Nat.le_of_ble_eq_true rfl, Nat.le_of_ble_eq_true rfl⟩ ?_
      refine g_istore_n C dX12_order_28 rfl (Nat.le_of_ble_eq_true rfl) rfl rfl ?_
      refine g_iload_n C dX12_order_29 rfl rfl ?_
      refine g_if_ge (tgt := 35) C dX12_order_30 (by decide) hf (fun hf => ?_) (fun hf => ?_)
      · refine g_aload_n C dX12_order_35 rfl rfl ?_
        refine g_iload_n C dX12_order_36 rfl rfl ?_
        refine g_iconst (v := 0) C dX12_order_37 (by decide) ?_
        refine g_iload_n C dX12_order_38 rfl rfl ?_
        obtain ⟨z4, hz4, hf⟩ := gbind hf ho
        refine g_callV C dX12_order_39 (m_X12_goOn l X N _ _ _  (gLay.sub hL (by decide) (by decide)) _ _ _ z4 hz4) gEin0 (cwV 3 C.2.2.2.2.1 gX12_order_X12_goOn rfl rfl rfl (by decide +kernel) ⟨Nat.le_of_ble_eq_true rfl, Nat.le_of_ble_eq_true rfl⟩) (L91 hL (by decide) (by decide)) (by decide) rfl rfl rfl (Nat.le_of_ble_eq_true rfl) ⟨Nat.le_of_ble_eq_true rfl, Nat.le_of_ble_eq_true rfl⟩ ?_
        refine g_aload_n C dX12_order_42 rfl rfl ?_
        refine g_iconst (v := 1) C dX12_order_43 (by decide) ?_
        obtain ⟨z5, hz5, hf⟩ := gbind hf ho
        refine g_callV C dX12_order_44 (m_X12_leastOf l X N _ _ _  (gLay.sub hL (by decide) (by decide)) _ z5.1 z5.2 hz5) gEin0 (cwV 1 C.2.2.2.2.1 gX12_order_X12_leastOf rfl rfl rfl (by decide +kernel) ⟨Nat.le_of_ble_eq_true rfl, Nat.le_of_ble_eq_true rfl⟩) (L91 hL (by decide) (by decide)) (by decide) rfl rfl rfl (Nat.le_of_ble_eq_true rfl) ⟨Nat.le_of_ble_eq_true rfl, Nat.le_of_ble_eq_true rfl⟩ ?_
        cases hf
        exact g_iret C dX12_order_47 hr hlk
      · refine g_iload_n C dX12_order_33 rfl rfl ?_
        cases hf
        exact g_iret C dX12_order_34 hr hlk
    · refine g_ldc C k141 dX12_order_20 ?_
      cases hf
      exact g_iret C dX12_order_22 hr hlk
def f_X12_kernel (N : Nat) (I : gI) (R : gR) (S : gS) (a0 : Int32) (a1 : Int32) (a2 : Int32) : Option (Int32 × gI) :=
  ((f_X12_isPlace N (gU I 91 0 (0 : Int32)) R S a0).bind (fun z1 => (if z1 = 0 then some ((-1000001 : Int32), gU I 91 0 (0 : Int32)) else ((f_X12_isPolynomial N (gU I 91 0 (0 : Int32)) R S a1).bind (fun z2 => (if z2 = 0 then some ((-1000001 : Int32), gU I 91 0 (0 : Int32)) else ((f_X12_look N (gU I 91 0 (0 : Int32)) R S a0).bind (fun z3 => (if 0 ≤ z3.1 then ((f_X12_act N z3.2 R S a0 a1).bind (fun z4 => ((iter (σ := Int32 × Int32) (ρ := (Int32) ⊕ (Int32 × gI)) (fun z5 => (if (z4 91 4) ≤ z5.2 then some (.inr (.inl z5.1)) else ((f_X12_done N z4 R S 103 z5.2).bind (fun z7 => (if z7 = 0 then (if z5.1 = a2 then some (.inr (.inr (z5.2, z4))) else some (.inl (z5.1 + 1, z5.2 + 1))) else some (.inl (z5.1, z5.2 + 1))))))) N ((0 : Int32), (0 : Int32))).bind (fun y9 => Sum.elim (fun r6 => (if a2 = (-1000000 : Int32) then some (r6, z4) else some ((-1000000 : Int32), z4))) (fun x8 => some x8) y9)))) else some (z3.1, z3.2))))))))))
set_option maxRecDepth 100000 in
set_option maxHeartbeats 8000000 in
theorem m_X12_kernel (l : Launch) (X : gX) (N : Nat) (I : gI) (R : gR) (S : gS) (hL : gLay 91 114 R S) (a0 : Int32) (a1 : Int32) (a2 : Int32) (v : Int32) (J : gI) (hf : f_X12_kernel N I R S a0 a1 a2 = some (v, J)) : gM l yX12_kernel wsX12_kernel { frames := 3, cells := 0, slots := 0, locals := 73 } X gE0 [.ref (X.1 + 91), .int a0, .int a1, .int a2] I R S (some (.int v)) J R S 0 0 := by
  unfold f_X12_kernel at hf
  refine gM_of (cc := cX12_kernel) (own := RX12) (maxL := 7) (ret := (some .int)) (by decide) rfl rfl (Nat.le_of_ble_eq_true rfl) ?_
  intro p e s m args below meth c C hr hlk hnm hE
  have ho : (some (v, J)) ≠ none := fun h => by cases h
  have f1 := C.2.2.2.2.1 (.fieldLink RX12 1 "TimesByPowersModel" "thrown" "I") (by decide +kernel)
  have c11 : gCl wsX12_kernel 11 RX12 TX12 29 := ⟨by decide, rfl, rfl, by decide +kernel⟩
  have k141 := C.2.2.2.2.1 (.constant RX12 141 (-1000001)) (by decide +kernel)
  have f109 := C.2.2.2.2.1 (.fieldLink RX12 109 "TimesByPowersModel" "q" "I") (by decide +kernel)
  have f76 := C.2.2.2.2.1 (.fieldLink RX12 76 "TimesByPowersModel" "made" "[I") (by decide +kernel)
  have k142 := C.2.2.2.2.1 (.constant RX12 142 (-1000000)) (by decide +kernel)
  refine g_aload_n C dX12_kernel_0 rfl rfl ?_
  refine g_iconst (v := 0) C dX12_kernel_1 (by decide) ?_
  refine g_putI (i := 0) (j := 0) C dX12_kernel_2 (L91 hL (by decide) (by decide)) c11 gy11 rfl f1 (fun _ h9 => h9) (Or.inl rfl) rfl ?_
  refine g_iload_n C dX12_kernel_5 rfl rfl ?_
  obtain ⟨z1, hz1, hf⟩ := gbind hf ho
  refine g_callS C dX12_kernel_6 (m_X12_isPlace l X N _ _ _  (gLay.sub hL (by decide) (by decide)) _ z1 hz1) gEin0 (va_cwS 1 C.2.2.2.2.1 gX12_kernel_X12_isPlace rfl rfl rfl (by decide +kernel) ⟨Nat.le_of_ble_eq_true rfl, Nat.le_of_ble_eq_true rfl⟩) rfl rfl (Nat.le_of_ble_eq_true rfl) ⟨Nat.le_of_ble_eq_true rfl, Nat.le_of_ble_eq_true rfl⟩ ?_
  refine g_if_eq (tgt := 20) C dX12_kernel_9 (by decide) hf (fun hf => ?_) (fun hf => ?_)
  · refine g_ldc C k141 dX12_kernel_20 ?_
    cases hf
    exact g_iret C dX12_kernel_22 hr hlk
  · refine g_aload_n C dX12_kernel_12 rfl rfl ?_
    refine g_iload_n C dX12_kernel_13 rfl rfl ?_
    obtain ⟨z2, hz2, hf⟩ := gbind hf ho
    refine g_callV C dX12_kernel_14 (m_X12_isPolynomial l X N _ _ _  (gLay.sub hL (by decide) (by decide)) _ z2 hz2) gEin0 (cwV 1 C.2.2.2.2.1 gX12_kernel_X12_isPolynomial rfl rfl rfl (by decide +kernel) ⟨Nat.le_of_ble_eq_true rfl, Nat.le_of_ble_eq_true rfl⟩) (L91 hL (by decide) (by decide)) (by decide) rfl rfl rfl (Nat.le_of_ble_eq_true rfl) ⟨Nat.le_of_ble_eq_true rfl, Nat.le_of_ble_eq_true rfl⟩ ?_
    refine g_if_ne (tgt := 23) C dX12_kernel_17 (by decide) hf (fun hf => ?_) (fun hf => ?_)
    · refine g_aload_n C dX12_kernel_23 rfl rfl ?_
      refine g_iload_n C dX12_kernel_24 rfl rfl ?_
      obtain ⟨z3, hz3, hf⟩ := gbind hf ho
      refine g_callV C dX12_kernel_25 (m_X12_look l X N _ _ _  (gLay.sub hL (by decide) (by decide)) _ z3.1 z3.2 hz3) gEin0 (cwV 1 C.2.2.2.2.1 gX12_kernel_X12_look rfl rfl rfl (by decide +kernel) ⟨Nat.le_of_ble_eq_true rfl, Nat.le_of_ble_eq_true rfl⟩) (L91 hL (by decide) (by decide)) (by decide) rfl rfl rfl (Nat.le_of_ble_eq_true rfl) ⟨Nat.le_of_ble_eq_true rfl, Nat.le_of_ble_eq_true rfl⟩ ?_
      refine g_istore C dX12_kernel_28 (Nat.le_of_ble_eq_true rfl) rfl rfl ?_
      refine g_iload C dX12_kernel_30 rfl ?_
      refine g_if_ge (tgt := 38) C dX12_kernel_32 (by decide) hf (fun hf => ?_) (fun hf => ?_)
      · refine g_aload_n C dX12_kernel_38 rfl rfl ?_
        refine g_iload_n C dX12_kernel_39 rfl rfl ?_
        refine g_iload_n C dX12_kernel_40 rfl rfl ?_
        obtain ⟨z4, hz4, hf⟩ := gbind hf ho
        refine g_callV C dX12_kernel_41 (m_X12_act l X N _ _ _  (gLay.sub hL (by decide) (by decide)) _ _ z4 hz4) gEin0 (cwV 2 C.2.2.2.2.1 gX12_kernel_X12_act rfl rfl rfl (by decide +kernel) ⟨Nat.le_of_ble_eq_true rfl, Nat.le_of_ble_eq_true rfl⟩) (L91 hL (by decide) (by decide)) (by decide) rfl rfl rfl (Nat.le_of_ble_eq_true rfl) ⟨Nat.le_of_ble_eq_true rfl, Nat.le_of_ble_eq_true rfl⟩ ?_
        refine g_iconst (v := 0) C dX12_kernel_44 (by decide) ?_
        refine g_istore C dX12_kernel_45 (Nat.le_of_ble_eq_true rfl) rfl rfl ?_
        refine g_iconst (v := 0) C dX12_kernel_47 (by decide) ?_
        refine g_istore C dX12_kernel_48 (Nat.le_of_ble_eq_true rfl) rfl rfl ?_
        refine g_loopR (fun z5 => [(0, .ref (X.1 + 91)), (3, .int a2), (5, .int z5.1), (6, .int z5.2)]) (fun z5 => z4) (fun r6 => [(3, .int a2), (5, .int r6)]) (fun r6 => z4) 90 hf ho ⟨rfl, rfl, rfl, rfl, trivial⟩ rfl (fun r6 hf => ?_) (fun z5 o1 hf ho hkz5 hez5 hrz5 => ?_)
        · refine g_iload_n C dX12_kernel_90 rfl rfl ?_
          refine g_ldc C k142 dX12_kernel_91 ?_
          refine g_icmp_ne (tgt := 101) C dX12_kernel_93 (by decide) hf (fun hf => ?_) (fun hf => ?_)
          · refine g_ldc C k142 dX12_kernel_101 ?_
            cases hf
            exact g_iret C dX12_kernel_103 hr hlk
          · refine g_iload C dX12_kernel_96 rfl ?_
            refine g_goto (tgt := 103) C dX12_kernel_98 (by decide) ?_
            cases hf
            exact g_iret C dX12_kernel_103 hr hlk
        · refine g_iload C dX12_kernel_50 rfl ?_
          refine g_aload_n C dX12_kernel_52 rfl rfl ?_
          refine g_getI (i := 4) (j := 4) C dX12_kernel_53 (L91 hL (by decide) (by decide)) c11 rfl f109 (fun _ h9 => h9) ?_
          refine g_icmp_ge (tgt := 90) C dX12_kernel_56 (by decide) hf (fun hf => ?_) (fun hf => ?_)
          · exact g_sub ⟨rfl, rfl, trivial⟩ (hez5 _ hf.symm)
          · refine g_aload_n C dX12_kernel_59 rfl rfl ?_
            refine g_aload_n C dX12_kernel_60 rfl rfl ?_
            refine g_getR (i := 17) (j := 17) C dX12_kernel_61 (L91 hL (by decide) (by decide)) c11 rfl (by decide) f76 (fun _ h9 => h9) (LR91_17 hL (by decide) (by decide)) ?_
            refine g_iload C dX12_kernel_64 rfl ?_
            obtain ⟨z7, hz7, hf⟩ := gbind hf ho
            refine g_callV C dX12_kernel_66 (m_X12_done l X N _ _ _  (gLay.sub hL (by decide) (by decide)) _ _ z7 hz7) gEin0 (cwV 2 C.2.2.2.2.1 gX12_kernel_X12_done rfl rfl rfl (by decide +kernel) ⟨Nat.le_of_ble_eq_true rfl, Nat.le_of_ble_eq_true rfl⟩) (L91 hL (by decide) (by decide)) (by decide) rfl rfl rfl (Nat.le_of_ble_eq_true rfl) ⟨Nat.le_of_ble_eq_true rfl, Nat.le_of_ble_eq_true rfl⟩ ?_
            refine g_if_ne (tgt := 84) C dX12_kernel_69 (by decide) hf (fun hf => ?_) (fun hf => ?_)
            · refine g_iinc (d := 1) C dX12_kernel_84 rfl (by decide) rfl (Nat.le_of_ble_eq_true rfl) rfl rfl ?_
              refine g_goto (tgt := 50) C dX12_kernel_87 (by decide) ?_
              exact g_sub ⟨rfl, rfl, rfl, rfl, trivial⟩ (hkz5 _ hf.symm)
            · refine g_iload C dX12_kernel_72 rfl ?_
              refine g_iload_n C dX12_kernel_74 rfl rfl ?_
              refine g_icmp_ne (tgt := 81) C dX12_kernel_75 (by decide) hf (fun hf => ?_) (fun hf => ?_)
              · refine g_iinc (d := 1) C dX12_kernel_81 rfl (by decide) rfl (Nat.le_of_ble_eq_true rfl) rfl rfl ?_
                refine g_iinc (d := 1) C dX12_kernel_84 rfl (by decide) rfl (Nat.le_of_ble_eq_true rfl) rfl rfl ?_
                refine g_goto (tgt := 50) C dX12_kernel_87 (by decide) ?_
                exact g_sub ⟨rfl, rfl, rfl, rfl, trivial⟩ (hkz5 _ hf.symm)
              · refine g_iload C dX12_kernel_78 rfl ?_
                replace hf := hrz5 _ hf.symm
                dsimp only [Sum.elim_inr] at hf
                cases hf
                exact g_iret C dX12_kernel_80 hr hlk
      · refine g_iload C dX12_kernel_35 rfl ?_
        cases hf
        exact g_iret C dX12_kernel_37 hr hlk
    · refine g_ldc C k141 dX12_kernel_20 ?_
      cases hf
      exact g_iret C dX12_kernel_22 hr hlk
def f_X12_divide (N : Nat) (I : gI) (R : gR) (S : gS) (a0 : Int32) : Option (gI) :=
  ((iter (σ := Int32 × gI) (ρ := gI) (fun z1 => (if (24 : Int32) ≤ z1.1 then some (.inr z1.2) else if z1.1 < 0 ∨ 24 ≤ z1.1.toNatClampNeg then none else some (.inl (z1.1 + 1, gU z1.2 105 z1.1.toNatClampNeg (0 : Int32))))) N ((0 : Int32), I)).bind (fun r2 => ((iter (σ := Int32 × gI) (ρ := gI) (fun z3 => (if z3.1 < a0 then some (.inr z3.2) else if z3.1 < 0 ∨ 24 ≤ z3.1.toNatClampNeg then none else (((if (z3.2 103 z3.1.toNatClampNeg) = 0 then some (0 : Int32) else if z3.1 < 0 ∨ 24 ≤ z3.1.toNatClampNeg then none else if a0 < 0 ∨ 5 ≤ a0.toNatClampNeg then none else ((f_X12_far N z3.2 R S (z3.2 108 a0.toNatClampNeg) (z3.1 - a0)).bind (fun z6 => ((f_X12_inverse N z3.2 R S z6).bind (fun z7 => ((f_X12_times N z3.2 R S (z3.2 103 z3.1.toNatClampNeg) z7).bind (fun z8 => some z8))))))) : Option (Int32)).bind (fun z5 => if (z3.1 - a0) < 0 ∨ 24 ≤ (z3.1 - a0).toNatClampNeg then none else ((iter (σ := Int32 × gI) (ρ := gI) (fun z9 => (if a0 < z9.1 then some (.inr z9.2) else (if z5 = 0 then some (.inr z9.2) else if ((z3.1 - a0) + z9.1) < 0 ∨ 24 ≤ ((z3.1 - a0) + z9.1).toNatClampNeg then none else if z9.1 < 0 ∨ 5 ≤ z9.1.toNatClampNeg then none else ((f_X12_far N z9.2 R S (z9.2 108 z9.1.toNatClampNeg) (z3.1 - a0)).bind (fun z11 => ((f_X12_times N z9.2 R S z5 z11).bind (fun z12 => ((f_X12_less N z9.2 R S (z9.2 103 ((z3.1 - a0) + z9.1).toNatClampNeg) z12).bind (fun z13 => if ((z3.1 - a0) + z9.1) < 0 ∨ 24 ≤ ((z3.1 - a0) + z9.1).toNatClampNeg then none else some (.inl (z9.1 + 1, gU z9.2 103 ((z3.1 - a0) + z9.1).toNatClampNeg z13))))))))))) N ((0 : Int32), gU z3.2 105 (z3.1 - a0).toNatClampNeg z5)).bind (fun r10 => some (.inl (z3.1 + (-1), r10)))))))) N ((23 : Int32), r2)).bind (fun r4 => some r4))))
set_option maxRecDepth 100000 in
set_option maxHeartbeats 8000000 in
theorem m_X12_divide (l : Launch) (X : gX) (N : Nat) (I : gI) (R : gR) (S : gS) (hL : gLay 91 114 R S) (a0 : Int32) (J : gI) (hf : f_X12_divide N I R S a0 = some J) : gM l yX12_divide wsX12_divide { frames := 2, cells := 0, slots := 0, locals := 48 } X gE0 [.ref (X.1 + 91), .int a0] I R S none J R S 0 0 := by
  unfold f_X12_divide at hf
  refine gM_of (cc := cX12_divide) (own := RX12) (maxL := 5) (ret := none) (by decide) rfl rfl (Nat.le_of_ble_eq_true rfl) ?_
  intro p e s m args below meth c C hr hlk hnm hE
  have ho : (some J) ≠ none := fun h => by cases h
  have f82 := C.2.2.2.2.1 (.fieldLink RX12 82 "TimesByPowersModel" "own" "[I") (by decide +kernel)
  have c11 : gCl wsX12_divide 11 RX12 TX12 29 := ⟨by decide, rfl, rfl, by decide +kernel⟩
  have f76 := C.2.2.2.2.1 (.fieldLink RX12 76 "TimesByPowersModel" "made" "[I") (by decide +kernel)
  have f91 := C.2.2.2.2.1 (.fieldLink RX12 91 "TimesByPowersModel" "u" "[I") (by decide +kernel)
  refine g_iconst (v := 0) C dX12_divide_0 (by decide) ?_
  refine g_istore_n C dX12_divide_1 rfl (Nat.le_of_ble_eq_true rfl) rfl rfl ?_
  refine g_loop (fun z1 => [(0, .ref (X.1 + 91)), (1, .int a0), (2, .int z1.1)]) (fun z1 => z1.2) (fun r2 => [(0, .ref (X.1 + 91)), (1, .int a0)]) (fun r2 => r2) 21 hf ho ⟨rfl, rfl, rfl, trivial⟩ rfl (fun r2 hf => ?_) (fun z1 o1 hf ho hkz1 hez1 => ?_)
  · refine g_bipush (v := 23) C dX12_divide_21 (by decide) ?_
    refine g_istore_n C dX12_divide_23 rfl (Nat.le_of_ble_eq_true rfl) rfl rfl ?_
    refine g_loop (fun z3 => [(0, .ref (X.1 + 91)), (1, .int a0), (2, .int z3.1)]) (fun z3 => z3.2) (fun r4 => []) (fun r4 => r4) 149 hf ho ⟨rfl, rfl, rfl, trivial⟩ rfl (fun r4 hf => ?_) (fun z3 o1 hf ho hkz3 hez3 => ?_)
    · cases hf
      exact g_vret C dX12_divide_149 hr hlk
    · refine g_iload_n C dX12_divide_24 rfl rfl ?_
      refine g_iload_n C dX12_divide_25 rfl rfl ?_
      refine g_icmp_lt (tgt := 149) C dX12_divide_26 (by decide) hf (fun hf => ?_) (fun hf => ?_)
      · exact g_sub ⟨trivial⟩ (hez3 _ hf.symm)
      · refine g_aload_n C dX12_divide_29 rfl rfl ?_
        refine g_getR (i := 17) (j := 17) C dX12_divide_30 (L91 hL (by decide) (by decide)) c11 rfl (by decide) f76 (fun _ h9 => h9) (LR91_17 hL (by decide) (by decide)) ?_
        refine g_iload_n C dX12_divide_33 rfl rfl ?_
        refine g_iald C dX12_divide_34 (L103 hL (by decide) (by decide)) ho hf (fun hf => ?_)
        refine g_join (fun z5 => [(0, .ref (X.1 + 91)), (1, .int a0), (2, .int z3.1)]) (fun z5 => [.int z5]) (fun z5 => z3.2) 69 hf ho (fun z5 hf => ?_) (fun o1 hf ho hkz5 => ?_)
        · refine g_istore_n C dX12_divide_69 rfl (Nat.le_of_ble_eq_true rfl) rfl rfl ?_
          refine g_aload_n C dX12_divide_70 rfl rfl ?_
          refine g_getR (i := 19) (j := 19) C dX12_divide_71 (L91 hL (by decide) (by decide)) c11 rfl (by decide) f82 (fun _ h9 => h9) (LR91_19 hL (by decide) (by decide)) ?_
          refine g_iload_n C dX12_divide_74 rfl rfl ?_
          refine g_iload_n C dX12_divide_75 rfl rfl ?_
          refine g_isub C dX12_divide_76 ?_
          refine g_iload_n C dX12_divide_77 rfl rfl ?_
          refine g_iast C dX12_divide_78 (L105 hL (by decide) (by decide)) ho hf (fun hf => ?_)
          refine g_iconst (v := 0) C dX12_divide_79 (by decide) ?_
          refine g_istore C dX12_divide_80 (Nat.le_of_ble_eq_true rfl) rfl rfl ?_
          refine g_loop (fun z9 => [(0, .ref (X.1 + 91)), (1, .int a0), (2, .int z3.1), (3, .int z5), (4, .int z9.1)]) (fun z9 => z9.2) (fun r10 => [(0, .ref (X.1 + 91)), (1, .int a0), (2, .int z3.1)]) (fun r10 => r10) 143 hf ho ⟨rfl, rfl, rfl, rfl, rfl, trivial⟩ rfl (fun r10 hf => ?_) (fun z9 o1 hf ho hkz9 hez9 => ?_)
          · refine g_iinc (d := -1) C dX12_divide_143 rfl (by decide) rfl (Nat.le_of_ble_eq_true rfl) rfl rfl ?_
            refine g_goto (tgt := 24) C dX12_divide_146 (by decide) ?_
            exact g_sub ⟨rfl, rfl, rfl, trivial⟩ (hkz3 _ hf.symm)
          · refine g_iload C dX12_divide_82 rfl ?_
            refine g_iload_n C dX12_divide_84 rfl rfl ?_
            refine g_icmp_gt (tgt := 143) C dX12_divide_85 (by decide) hf (fun hf => ?_) (fun hf => ?_)
            · exact g_sub ⟨rfl, rfl, rfl, trivial⟩ (hez9 _ hf.symm)
            · refine g_iload_n C dX12_divide_88 rfl rfl ?_
              refine g_if_eq (tgt := 143) C dX12_divide_89 (by decide) hf (fun hf => ?_) (fun hf => ?_)
              · exact g_sub ⟨rfl, rfl, rfl, trivial⟩ (hez9 _ hf.symm)
              · refine g_aload_n C dX12_divide_92 rfl rfl ?_
                refine g_getR (i := 17) (j := 17) C dX12_divide_93 (L91 hL (by decide) (by decide)) c11 rfl (by decide) f76 (fun _ h9 => h9) (LR91_17 hL (by decide) (by decide)) ?_
                refine g_iload_n C dX12_divide_96 rfl rfl ?_
                refine g_iload_n C dX12_divide_97 rfl rfl ?_
                refine g_isub C dX12_divide_98 ?_
                refine g_iload C dX12_divide_99 rfl ?_
                refine g_iadd C dX12_divide_101 ?_
                refine g_aload_n C dX12_divide_102 rfl rfl ?_
                refine g_aload_n C dX12_divide_103 rfl rfl ?_
                refine g_getR (i := 17) (j := 17) C dX12_divide_104 (L91 hL (by decide) (by decide)) c11 rfl (by decide) f76 (fun _ h9 => h9) (LR91_17 hL (by decide) (by decide)) ?_
                refine g_iload_n C dX12_divide_107 rfl rfl ?_
                refine g_iload_n C dX12_divide_108 rfl rfl ?_
                refine g_isub C dX12_divide_109 ?_
                refine g_iload C dX12_divide_110 rfl ?_
                refine g_iadd C dX12_divide_112 ?_
                refine g_iald C dX12_divide_113 (L103 hL (by decide) (by decide)) ho hf (fun hf => ?_)
                refine g_aload_n C dX12_divide_114 rfl rfl ?_
                refine g_iload_n C dX12_divide_115 rfl rfl ?_
                refine g_aload_n C dX12_divide_116 rfl rfl ?_
                refine g_aload_n C dX12_divide_117 rfl rfl ?_
                refine g_getR (i := 22) (j := 22) C dX12_divide_118 (L91 hL (by decide) (by decide)) c11 rfl (by decide) f91 (fun _ h9 => h9) (LR91_22 hL (by decide) (by decide)) ?_
                refine g_iload C dX12_divide_121 rfl ?_
                refine g_iald C dX12_divide_123 (L108 hL (by decide) (by decide)) ho hf (fun hf => ?_)
                refine g_iload_n C dX12_divide_124 rfl rfl ?_
                refine g_iload_n C dX12_divide_125 rfl rfl ?_
                refine g_isub C dX12_divide_126 ?_
                obtain ⟨z11, hz11, hf⟩ := gbind hf ho
                refine g_callV C dX12_divide_127 (m_X12_far l X N _ _ _  (gLay.sub hL (by decide) (by decide)) _ _ z11 hz11) gEin0 (cwV 2 C.2.2.2.2.1 gX12_divide_X12_far rfl rfl rfl (by decide +kernel) ⟨Nat.le_of_ble_eq_true rfl, Nat.le_of_ble_eq_true rfl⟩) (L91 hL (by decide) (by decide)) (by decide) rfl rfl rfl (Nat.le_of_ble_eq_true rfl) ⟨Nat.le_of_ble_eq_true rfl, Nat.le_of_ble_eq_true rfl⟩ ?_
                obtain ⟨z12, hz12, hf⟩ := gbind hf ho
                refine g_callV C dX12_divide_130 (m_X12_times l X N _ _ _  (gLay.sub hL (by decide) (by decide)) _ _ z12 hz12) gEin0 (cwV 2 C.2.2.2.2.1 gX12_divide_X12_times rfl rfl rfl (by decide +kernel) ⟨Nat.le_of_ble_eq_true rfl, Nat.le_of_ble_eq_true rfl⟩) (L91 hL (by decide) (by decide)) (by decide) rfl rfl rfl (Nat.le_of_ble_eq_true rfl) ⟨Nat.le_of_ble_eq_true rfl, Nat.le_of_ble_eq_true rfl⟩ ?_
                obtain ⟨z13, hz13, hf⟩ := gbind hf ho
                refine g_callV C dX12_divide_133 (m_X12_less l X N _ _ _  (gLay.sub hL (by decide) (by decide)) _ _ z13 hz13) gEin0 (cwV 2 C.2.2.2.2.1 gX12_divide_X12_less rfl rfl rfl (by decide +kernel) ⟨Nat.le_of_ble_eq_true rfl, Nat.le_of_ble_eq_true rfl⟩) (L91 hL (by decide) (by decide)) (by decide) rfl rfl rfl (Nat.le_of_ble_eq_true rfl) ⟨Nat.le_of_ble_eq_true rfl, Nat.le_of_ble_eq_true rfl⟩ ?_
                refine g_iast C dX12_divide_136 (L103 hL (by decide) (by decide)) ho hf (fun hf => ?_)
                refine g_iinc (d := 1) C dX12_divide_137 rfl (by decide) rfl (Nat.le_of_ble_eq_true rfl) rfl rfl ?_
                refine g_goto (tgt := 82) C dX12_divide_140 (by decide) ?_
                exact g_sub ⟨rfl, rfl, rfl, rfl, rfl, trivial⟩ (hkz9 _ hf.symm)
        · refine g_if_ne (tgt := 42) C dX12_divide_35 (by decide) hf (fun hf => ?_) (fun hf => ?_)
          · refine g_aload_n C dX12_divide_42 rfl rfl ?_
            refine g_aload_n C dX12_divide_43 rfl rfl ?_
            refine g_getR (i := 17) (j := 17) C dX12_divide_44 (L91 hL (by decide) (by decide)) c11 rfl (by decide) f76 (fun _ h9 => h9) (LR91_17 hL (by decide) (by decide)) ?_
            refine g_iload_n C dX12_divide_47 rfl rfl ?_
            refine g_iald C dX12_divide_48 (L103 hL (by decide) (by decide)) ho hf (fun hf => ?_)
            refine g_aload_n C dX12_divide_49 rfl rfl ?_
            refine g_aload_n C dX12_divide_50 rfl rfl ?_
            refine g_aload_n C dX12_divide_51 rfl rfl ?_
            refine g_getR (i := 22) (j := 22) C dX12_divide_52 (L91 hL (by decide) (by decide)) c11 rfl (by decide) f91 (fun _ h9 => h9) (LR91_22 hL (by decide) (by decide)) ?_
            refine g_iload_n C dX12_divide_55 rfl rfl ?_
            refine g_iald C dX12_divide_56 (L108 hL (by decide) (by decide)) ho hf (fun hf => ?_)
            refine g_iload_n C dX12_divide_57 rfl rfl ?_
            refine g_iload_n C dX12_divide_58 rfl rfl ?_
            refine g_isub C dX12_divide_59 ?_
            obtain ⟨z6, hz6, hf⟩ := gbind hf ho
            refine g_callV C dX12_divide_60 (m_X12_far l X N _ _ _  (gLay.sub hL (by decide) (by decide)) _ _ z6 hz6) gEin0 (cwV 2 C.2.2.2.2.1 gX12_divide_X12_far rfl rfl rfl (by decide +kernel) ⟨Nat.le_of_ble_eq_true rfl, Nat.le_of_ble_eq_true rfl⟩) (L91 hL (by decide) (by decide)) (by decide) rfl rfl rfl (Nat.le_of_ble_eq_true rfl) ⟨Nat.le_of_ble_eq_true rfl, Nat.le_of_ble_eq_true rfl⟩ ?_
            obtain ⟨z7, hz7, hf⟩ := gbind hf ho
            refine g_callV C dX12_divide_63 (m_X12_inverse l X N _ _ _  (gLay.sub hL (by decide) (by decide)) _ z7 hz7) gEin0 (cwV 1 C.2.2.2.2.1 gX12_divide_X12_inverse rfl rfl rfl (by decide +kernel) ⟨Nat.le_of_ble_eq_true rfl, Nat.le_of_ble_eq_true rfl⟩) (L91 hL (by decide) (by decide)) (by decide) rfl rfl rfl (Nat.le_of_ble_eq_true rfl) ⟨Nat.le_of_ble_eq_true rfl, Nat.le_of_ble_eq_true rfl⟩ ?_
            obtain ⟨z8, hz8, hf⟩ := gbind hf ho
            refine g_callV C dX12_divide_66 (m_X12_times l X N _ _ _  (gLay.sub hL (by decide) (by decide)) _ _ z8 hz8) gEin0 (cwV 2 C.2.2.2.2.1 gX12_divide_X12_times rfl rfl rfl (by decide +kernel) ⟨Nat.le_of_ble_eq_true rfl, Nat.le_of_ble_eq_true rfl⟩) (L91 hL (by decide) (by decide)) (by decide) rfl rfl rfl (Nat.le_of_ble_eq_true rfl) ⟨Nat.le_of_ble_eq_true rfl, Nat.le_of_ble_eq_true rfl⟩ ?_
            exact g_sub ⟨rfl, rfl, rfl, trivial⟩ (hkz5 _ hf.symm)
          · refine g_iconst (v := 0) C dX12_divide_38 (by decide) ?_
            refine g_goto (tgt := 69) C dX12_divide_39 (by decide) ?_
            exact g_sub ⟨rfl, rfl, rfl, trivial⟩ (hkz5 _ hf.symm)
  · refine g_iload_n C dX12_divide_2 rfl rfl ?_
    refine g_bipush (v := 24) C dX12_divide_3 (by decide) ?_
    refine g_icmp_ge (tgt := 21) C dX12_divide_5 (by decide) hf (fun hf => ?_) (fun hf => ?_)
    · exact g_sub ⟨rfl, rfl, trivial⟩ (hez1 _ hf.symm)
    · refine g_aload_n C dX12_divide_8 rfl rfl ?_
      refine g_getR (i := 19) (j := 19) C dX12_divide_9 (L91 hL (by decide) (by decide)) c11 rfl (by decide) f82 (fun _ h9 => h9) (LR91_19 hL (by decide) (by decide)) ?_
      refine g_iload_n C dX12_divide_12 rfl rfl ?_
      refine g_iconst (v := 0) C dX12_divide_13 (by decide) ?_
      refine g_iast C dX12_divide_14 (L105 hL (by decide) (by decide)) ho hf (fun hf => ?_)
      refine g_iinc (d := 1) C dX12_divide_15 rfl (by decide) rfl (Nat.le_of_ble_eq_true rfl) rfl rfl ?_
      refine g_goto (tgt := 2) C dX12_divide_18 (by decide) ?_
      exact g_sub ⟨rfl, rfl, rfl, trivial⟩ (hkz1 _ hf.symm)
