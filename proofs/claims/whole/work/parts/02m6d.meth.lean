set_option maxRecDepth 100000 in
set_option maxHeartbeats 8000000 in
theorem m_X8_raisePowers (l : Launch) (X : gX) (N : Nat) (I : gI) (R : gR) (S : gS) (hL : gLay 6 56 R S) (a0 : Nat) (a1 : Int32) (J : gI) (hf : f_X8_raisePowers N I R S a0 a1 = some J) : gM l yX8_raisePowers wsX8_raisePowers { frames := 3, cells := 0, slots := 0, locals := 77 } X gE0 [.ref (X.1 + 37), .ref (X.1 + a0), .int a1] I R S none J R S 0 0 := by
  unfold f_X8_raisePowers at hf
  refine gM_of (cc := cX8_raisePowers) (own := RX8) (maxL := 4) (ret := none) (by decide) rfl rfl (Nat.le_of_ble_eq_true rfl) ?_
  intro p e s m args below meth c C hr hlk hnm hE
  have ho : (some J) ≠ none := fun h => by cases h
  have f16 := C.2.2.2.2.1 (.fieldLink RX8 16 "TimesByPowers$Sums" "poweredWorld" "LTimesByPowers$World;") (by decide +kernel)
  have c8 : gCl wsX8_raisePowers 8 RX8 TX8 10 := ⟨by decide, rfl, rfl, by decide +kernel⟩
  have f20 := C.2.2.2.2.1 (.fieldLink RX8 20 "TimesByPowers$Sums" "highestPower" "I") (by decide +kernel)
  have f13 := C.2.2.2.2.1 (.fieldLink RX8 13 "TimesByPowers$Sums" "powers" "[[I") (by decide +kernel)
  have f126 := C.2.2.2.2.1 (.fieldLink RX8 126 "TimesByPowers$World" "\x72" "I") (by decide +kernel)
  have cw : gWc wsX8_raisePowers := ⟨⟨by decide, rfl, rfl, by decide +kernel⟩, ⟨by decide, rfl, rfl, by decide +kernel⟩, ⟨by decide, rfl, rfl, by decide +kernel⟩, ⟨by decide, rfl, rfl, by decide +kernel⟩⟩
  have f144 := C.2.2.2.2.1 (.fieldLink RX8 144 "TimesByPowers$World" "t" "[I") (by decide +kernel)
  obtain ⟨hwa0, hf⟩ := gcase hf ho
  refine g_aload_n C dX8_raisePowers_0 rfl rfl ?_
  refine g_getE (i := 4) (j := 4) C dX8_raisePowers_1 (L37 hL (by decide) (by decide)) c8 rfl f16 (fun _ h9 => h9) ?_
  refine g_aload_n C dX8_raisePowers_4 rfl rfl ?_
  refine g_join (fun z1 => [(0, .ref (X.1 + 37)), (1, .ref (X.1 + a0)), (2, .int a1)]) (fun z1 => []) (fun z1 => z1) 37 hf ho (fun z1 hf => ?_) (fun o1 hf ho hkz1 => ?_)
  · refine g_loop (fun z5 => [(0, .ref (X.1 + 37)), (1, .ref (X.1 + a0)), (2, .int a1)]) (fun z5 => z5) (fun r6 => []) (fun r6 => r6) 110 hf ho (And.intro rfl (And.intro rfl (And.intro rfl trivial))) rfl (fun r6 hf => ?_) (fun z5 o1 hf ho hkz5 hez5 => ?_)
    · obtain rfl := gs1 hf
      exact g_vret C dX8_raisePowers_110 hr hlk
    · refine g_aload_n C dX8_raisePowers_37 rfl rfl ?_
      refine g_getI (i := 5) (j := 5) C dX8_raisePowers_38 (L37 hL (by decide) (by decide)) c8 rfl f20 (fun _ h9 => h9) ?_
      refine g_iload_n C dX8_raisePowers_41 rfl rfl ?_
      refine g_icmp_ge (tgt := 110) C dX8_raisePowers_42 (by decide) hf (fun hf => ?_) (fun hf => ?_)
      · have hx := hez5 _ hf.symm
        refine g_sub ?_ hx
        exact trivial
      · refine g_aload_n C dX8_raisePowers_45 rfl rfl ?_
        refine g_getI (i := 5) (j := 5) C dX8_raisePowers_46 (L37 hL (by decide) (by decide)) c8 rfl f20 (fun _ h9 => h9) ?_
        refine g_bipush (v := 6) C dX8_raisePowers_49 (by decide) ?_
        refine g_icmp_ge (tgt := 110) C dX8_raisePowers_51 (by decide) hf (fun hf => ?_) (fun hf => ?_)
        · have hx := hez5 _ hf.symm
          refine g_sub ?_ hx
          exact trivial
        · refine g_aload_n C dX8_raisePowers_54 rfl rfl ?_
          refine g_getWI 1 C dX8_raisePowers_55 hwa0 cw ⟨rfl, rfl, rfl, rfl⟩ f126 ⟨rfl, rfl, rfl, rfl⟩ ?_
          refine g_aload_n C dX8_raisePowers_58 rfl rfl ?_
          refine g_getI (i := 5) (j := 5) C dX8_raisePowers_59 (L37 hL (by decide) (by decide)) c8 rfl f20 (fun _ h9 => h9) ?_
          refine g_imul C dX8_raisePowers_62 ?_
          refine g_istore_n C dX8_raisePowers_63 rfl (Nat.le_of_ble_eq_true rfl) rfl rfl ?_
          refine g_aload_n C dX8_raisePowers_64 rfl rfl ?_
          refine g_aload_n C dX8_raisePowers_65 rfl rfl ?_
          refine g_getWt C dX8_raisePowers_66 hwa0 cw f144 ⟨rfl, rfl, rfl, rfl⟩ ?_
          refine g_aload_n C dX8_raisePowers_69 rfl rfl ?_
          refine g_getWI 1 C dX8_raisePowers_70 hwa0 cw ⟨rfl, rfl, rfl, rfl⟩ f126 ⟨rfl, rfl, rfl, rfl⟩ ?_
          refine g_aload_n C dX8_raisePowers_73 rfl rfl ?_
          refine g_getR (i := 3) (j := 3) C dX8_raisePowers_74 (L37 hL (by decide) (by decide)) c8 rfl (by decide) f13 (fun _ h9 => h9) (LR37_3 hL (by decide) (by decide)) ?_
          refine g_aload_n C dX8_raisePowers_77 rfl rfl ?_
          refine g_getI (i := 5) (j := 5) C dX8_raisePowers_78 (L37 hL (by decide) (by decide)) c8 rfl f20 (fun _ h9 => h9) ?_
          refine g_aaldG 1 (fun j => 39 + j) C dX8_raisePowers_81 (by decide) (L38 hL (by decide) (by decide)) rfl rfl (fun j hj => LG38 hL (by decide) (by decide) hj) ho hf (fun hj7 hf => ?_)
          refine g_iload_n C dX8_raisePowers_82 rfl rfl ?_
          refine g_aload_n C dX8_raisePowers_83 rfl rfl ?_
          refine g_getR (i := 3) (j := 3) C dX8_raisePowers_84 (L37 hL (by decide) (by decide)) c8 rfl (by decide) f13 (fun _ h9 => h9) (LR37_3 hL (by decide) (by decide)) ?_
          refine g_aload_n C dX8_raisePowers_87 rfl rfl ?_
          refine g_getI (i := 5) (j := 5) C dX8_raisePowers_88 (L37 hL (by decide) (by decide)) c8 rfl f20 (fun _ h9 => h9) ?_
          refine g_iconst (v := 1) C dX8_raisePowers_91 (by decide) ?_
          refine g_iadd C dX8_raisePowers_92 ?_
          refine g_aaldG 1 (fun j => 39 + j) C dX8_raisePowers_93 (by decide) (L38 hL (by decide) (by decide)) rfl rfl (fun j hj => LG38 hL (by decide) (by decide) hj) ho hf (fun hj8 hf => ?_)
          obtain ⟨z9, hz9, hf⟩ := gbind hf ho
          refine g_callV C dX8_raisePowers_94 (m_X8_putBehind l X N _ _ _  (gLay.sub hL (by decide) (by decide)) _ _ _ _ _ z9 hz9) gEin0 (cwV 5 C.2.2.2.2.1 gX8_raisePowers_X8_putBehind rfl rfl rfl (by decide +kernel) ⟨Nat.le_of_ble_eq_true rfl, Nat.le_of_ble_eq_true rfl⟩) (L37 hL (by decide) (by decide)) (by decide) rfl rfl rfl (Nat.le_of_ble_eq_true rfl) ⟨Nat.le_of_ble_eq_true rfl, Nat.le_of_ble_eq_true rfl⟩ ?_
          refine g_aload_n C dX8_raisePowers_97 rfl rfl ?_
          refine g_dup C dX8_raisePowers_98 rfl ?_
          refine g_getI (i := 5) (j := 5) C dX8_raisePowers_99 (L37 hL (by decide) (by decide)) c8 rfl f20 (fun _ h9 => h9) ?_
          refine g_iconst (v := 1) C dX8_raisePowers_102 (by decide) ?_
          refine g_iadd C dX8_raisePowers_103 ?_
          refine g_putI (i := 5) (j := 5) C dX8_raisePowers_104 (L37 hL (by decide) (by decide)) c8 gy8 rfl f20 (fun _ h9 => h9) (Or.inl rfl) rfl ?_
          refine g_goto (tgt := 37) C dX8_raisePowers_107 (by decide) ?_
          have hx := hkz5 _ hf.symm
          refine g_sub ?_ hx
          exact (And.intro rfl (And.intro rfl (And.intro rfl trivial)))
  · refine g_acmp_eq (rx := gdec (I 37 4)) (ry := some a0) (tgt := 37) C dX8_raisePowers_5 (by decide) hf (fun hf => ?_) (fun hf => ?_)
    · have hx := hkz1 _ hf.symm
      refine g_sub ?_ hx
      exact (And.intro rfl (And.intro rfl (And.intro rfl trivial)))
    · refine g_aload_n C dX8_raisePowers_8 rfl rfl ?_
      refine g_aload_n C dX8_raisePowers_9 rfl rfl ?_
      refine g_putE (i := 4) (j := 4) C dX8_raisePowers_10 (L37 hL (by decide) (by decide)) c8 gy8 rfl f16 (fun _ h9 => h9) (Or.inl rfl) (fun _ => ⟨rfl, rfl⟩) ho hf (fun hf => ?_)
      refine g_aload_n C dX8_raisePowers_13 rfl rfl ?_
      refine g_iconst (v := 0) C dX8_raisePowers_14 (by decide) ?_
      refine g_putI (i := 5) (j := 5) C dX8_raisePowers_15 (L37 hL (by decide) (by decide)) c8 gy8 rfl f20 (fun _ h9 => h9) (Or.inl rfl) rfl ?_
      refine g_aload_n C dX8_raisePowers_18 rfl rfl ?_
      refine g_getR (i := 3) (j := 3) C dX8_raisePowers_19 (L37 hL (by decide) (by decide)) c8 rfl (by decide) f13 (fun _ h9 => h9) (LR37_3 hL (by decide) (by decide)) ?_
      refine g_iconst (v := 0) C dX8_raisePowers_22 (by decide) ?_
      refine g_aaldG 1 (fun j => 39 + j) C dX8_raisePowers_23 (by decide) (L38 hL (by decide) (by decide)) rfl rfl (fun j hj => LG38 hL (by decide) (by decide) hj) ho hf (fun hj2 hf => ?_)
      refine g_iconst (v := 0) C dX8_raisePowers_24 (by decide) ?_
      obtain ⟨z3, hz3, hf⟩ := gbind hf ho
      refine g_callS C dX8_raisePowers_25 (m_J7_fill_53178 l X N _ _ _   _ _ z3 hz3) gEin0 (va_cwS 2 C.2.2.2.2.1 gX8_raisePowers_J7_fill_53178 rfl rfl rfl (by decide +kernel) ⟨Nat.le_of_ble_eq_true rfl, Nat.le_of_ble_eq_true rfl⟩) rfl rfl (Nat.le_of_ble_eq_true rfl) ⟨Nat.le_of_ble_eq_true rfl, Nat.le_of_ble_eq_true rfl⟩ ?_
      refine g_aload_n C dX8_raisePowers_28 rfl rfl ?_
      refine g_getR (i := 3) (j := 3) C dX8_raisePowers_29 (L37 hL (by decide) (by decide)) c8 rfl (by decide) f13 (fun _ h9 => h9) (LR37_3 hL (by decide) (by decide)) ?_
      refine g_iconst (v := 0) C dX8_raisePowers_32 (by decide) ?_
      refine g_aaldG 1 (fun j => 39 + j) C dX8_raisePowers_33 (by decide) (L38 hL (by decide) (by decide)) rfl rfl (fun j hj => LG38 hL (by decide) (by decide) hj) ho hf (fun hj4 hf => ?_)
      refine g_iconst (v := 0) C dX8_raisePowers_34 (by decide) ?_
      refine g_iconst (v := 1) C dX8_raisePowers_35 (by decide) ?_
      refine g_iast C dX8_raisePowers_36 (LH38 hL (by decide) (by decide) hj4) ho hf (fun hf => ?_)
      have hx := hkz1 _ hf.symm
      refine g_sub ?_ hx
      exact (And.intro rfl (And.intro rfl (And.intro rfl trivial)))
set_option maxRecDepth 100000 in
set_option maxHeartbeats 8000000 in
theorem m_X8_mixed (l : Launch) (X : gX) (N : Nat) (I : gI) (R : gR) (S : gS) (hL : gLay 6 56 R S) (a0 : Int32) (a1 : Int32) (v : Int32) (J : gI) (hf : f_X8_mixed N I R S a0 a1 = some (v, J)) : gM l yX8_mixed wsX8_mixed { frames := 1, cells := 0, slots := 0, locals := 24 } X gE0 [.ref (X.1 + 37), .int a0, .int a1] I R S (some (.int v)) J R S 0 0 := by
  unfold f_X8_mixed at hf
  refine gM_of (cc := cX8_mixed) (own := RX8) (maxL := 4) (ret := (some .int)) (by decide) rfl rfl (Nat.le_of_ble_eq_true rfl) ?_
  intro p e s m args below meth c C hr hlk hnm hE
  have ho : (some (v, J)) ≠ none := fun h => by cases h
  have f20 := C.2.2.2.2.1 (.fieldLink RX8 20 "TimesByPowers$Sums" "highestPower" "I") (by decide +kernel)
  have c8 : gCl wsX8_mixed 8 RX8 TX8 10 := ⟨by decide, rfl, rfl, by decide +kernel⟩
  have f37 := C.2.2.2.2.1 (.fieldLink RX8 37 "TimesByPowers$Sums" "elements" "LTimesByPowers$Field;") (by decide +kernel)
  have f13 := C.2.2.2.2.1 (.fieldLink RX8 13 "TimesByPowers$Sums" "powers" "[[I") (by decide +kernel)
  refine g_iconst (v := 0) C dX8_mixed_0 (by decide) ?_
  refine g_istore_n C dX8_mixed_1 rfl (Nat.le_of_ble_eq_true rfl) rfl rfl ?_
  refine g_loop (fun z1 => [(0, .ref (X.1 + 37)), (1, .int a0), (2, .int a1), (3, .int z1.1)]) (fun z1 => z1.2) (fun r2 => [(0, .ref (X.1 + 37))]) (fun r2 => r2) 40 hf ho (And.intro rfl (And.intro rfl (And.intro rfl (And.intro rfl trivial)))) rfl (fun r2 hf => ?_) (fun z1 o1 hf ho hkz1 hez1 => ?_)
  · refine g_aload_n C dX8_mixed_40 rfl rfl ?_
    refine g_getR (i := 0) (j := 0) C dX8_mixed_41 (L37 hL (by decide) (by decide)) c8 rfl (by decide) f37 (fun _ h9 => h9) (LR37_0 hL (by decide) (by decide)) ?_
    obtain ⟨z6, hz6, hf⟩ := gbind hf ho
    refine g_callV C dX8_mixed_44 (m_X2_folded l X N _ _ _  (gLay.sub hL (by decide) (by decide))  z6.1 z6.2 hz6) gEin0 (cwV 0 C.2.2.2.2.1 gX8_mixed_X2_folded rfl rfl rfl (by decide +kernel) ⟨Nat.le_of_ble_eq_true rfl, Nat.le_of_ble_eq_true rfl⟩) (L6 hL (by decide) (by decide)) (by decide) rfl rfl rfl (Nat.le_of_ble_eq_true rfl) ⟨Nat.le_of_ble_eq_true rfl, Nat.le_of_ble_eq_true rfl⟩ ?_
    obtain ⟨rfl, rfl⟩ := gs2 hf
    exact g_iret C dX8_mixed_47 hr hlk
  · refine g_iload_n C dX8_mixed_2 rfl rfl ?_
    refine g_aload_n C dX8_mixed_3 rfl rfl ?_
    refine g_getI (i := 5) (j := 5) C dX8_mixed_4 (L37 hL (by decide) (by decide)) c8 rfl f20 (fun _ h9 => h9) ?_
    refine g_icmp_gt (tgt := 40) C dX8_mixed_7 (by decide) hf (fun hf => ?_) (fun hf => ?_)
    · have hx := hez1 _ hf.symm
      refine g_sub ?_ hx
      exact (And.intro rfl trivial)
    · refine g_aload_n C dX8_mixed_10 rfl rfl ?_
      refine g_getR (i := 0) (j := 0) C dX8_mixed_11 (L37 hL (by decide) (by decide)) c8 rfl (by decide) f37 (fun _ h9 => h9) (LR37_0 hL (by decide) (by decide)) ?_
      refine g_aload_n C dX8_mixed_14 rfl rfl ?_
      refine g_getR (i := 3) (j := 3) C dX8_mixed_15 (L37 hL (by decide) (by decide)) c8 rfl (by decide) f13 (fun _ h9 => h9) (LR37_3 hL (by decide) (by decide)) ?_
      refine g_iload_n C dX8_mixed_18 rfl rfl ?_
      refine g_aaldG 1 (fun j => 39 + j) C dX8_mixed_19 (by decide) (L38 hL (by decide) (by decide)) rfl rfl (fun j hj => LG38 hL (by decide) (by decide) hj) ho hf (fun hj3 hf => ?_)
      refine g_iload_n C dX8_mixed_20 rfl rfl ?_
      refine g_iald C dX8_mixed_21 (LH38 hL (by decide) (by decide) hj3) ho hf (fun hf => ?_)
      refine g_aload_n C dX8_mixed_22 rfl rfl ?_
      refine g_getR (i := 0) (j := 0) C dX8_mixed_23 (L37 hL (by decide) (by decide)) c8 rfl (by decide) f37 (fun _ h9 => h9) (LR37_0 hL (by decide) (by decide)) ?_
      refine g_iload_n C dX8_mixed_26 rfl rfl ?_
      refine g_iload_n C dX8_mixed_27 rfl rfl ?_
      obtain ⟨z4, hz4, hf⟩ := gbind hf ho
      refine g_callV C dX8_mixed_28 (m_X2_numberAt l X N _ _ _  (gLay.sub hL (by decide) (by decide)) _ _ z4 hz4) gEin0 (cwV 2 C.2.2.2.2.1 gX8_mixed_X2_numberAt rfl rfl rfl (by decide +kernel) ⟨Nat.le_of_ble_eq_true rfl, Nat.le_of_ble_eq_true rfl⟩) (L6 hL (by decide) (by decide)) (by decide) rfl rfl rfl (Nat.le_of_ble_eq_true rfl) ⟨Nat.le_of_ble_eq_true rfl, Nat.le_of_ble_eq_true rfl⟩ ?_
      obtain ⟨z5, hz5, hf⟩ := gbind hf ho
      refine g_callV C dX8_mixed_31 (m_X2_addTimes l X N _ _ _  (gLay.sub hL (by decide) (by decide)) _ _ z5 hz5) gEin0 (cwV 2 C.2.2.2.2.1 gX8_mixed_X2_addTimes rfl rfl rfl (by decide +kernel) ⟨Nat.le_of_ble_eq_true rfl, Nat.le_of_ble_eq_true rfl⟩) (L6 hL (by decide) (by decide)) (by decide) rfl rfl rfl (Nat.le_of_ble_eq_true rfl) ⟨Nat.le_of_ble_eq_true rfl, Nat.le_of_ble_eq_true rfl⟩ ?_
      refine g_iinc (d := 1) C dX8_mixed_34 rfl (by decide) rfl (Nat.le_of_ble_eq_true rfl) rfl rfl ?_
      refine g_goto (tgt := 2) C dX8_mixed_37 (by decide) ?_
      have hx := hkz1 _ hf.symm
      refine g_sub ?_ hx
      exact (And.intro rfl (And.intro rfl (And.intro rfl (And.intro rfl trivial))))
set_option maxRecDepth 100000 in
set_option maxHeartbeats 8000000 in
theorem m_X8_heightOf (l : Launch) (X : gX) (N : Nat) (I : gI) (R : gR) (S : gS) (hL : gLay 6 56 R S) (a0 : Nat) (v : Int32) (J : gI) (hf : f_X8_heightOf N I R S a0 = some (v, J)) : gM l yX8_heightOf wsX8_heightOf { frames := 4, cells := 0, slots := 0, locals := 100 } X gE0 [.ref (X.1 + 37), .ref (X.1 + a0)] I R S (some (.int v)) J R S 0 0 := by
  unfold f_X8_heightOf at hf
  refine gM_of (cc := cX8_heightOf) (own := RX8) (maxL := 4) (ret := (some .int)) (by decide) rfl rfl (Nat.le_of_ble_eq_true rfl) ?_
  intro p e s m args below meth c C hr hlk hnm hE
  have ho : (some (v, J)) ≠ none := fun h => by cases h
  have f107 := C.2.2.2.2.1 (.fieldLink RX8 107 "TimesByPowers$World" "own" "I") (by decide +kernel)
  have cw : gWc wsX8_heightOf := ⟨⟨by decide, rfl, rfl, by decide +kernel⟩, ⟨by decide, rfl, rfl, by decide +kernel⟩, ⟨by decide, rfl, rfl, by decide +kernel⟩, ⟨by decide, rfl, rfl, by decide +kernel⟩⟩
  have f116 := C.2.2.2.2.1 (.fieldLink RX8 116 "TimesByPowers$World" "d" "I") (by decide +kernel)
  obtain ⟨hwa0, hf⟩ := gcase hf ho
  refine g_aload_n C dX8_heightOf_0 rfl rfl ?_
  refine g_aload_n C dX8_heightOf_1 rfl rfl ?_
  refine g_aload_n C dX8_heightOf_2 rfl rfl ?_
  refine g_getWI 2 C dX8_heightOf_3 hwa0 cw ⟨rfl, rfl, rfl, rfl⟩ f107 ⟨rfl, rfl, rfl, rfl⟩ ?_
  obtain ⟨z1, hz1, hf⟩ := gbind hf ho
  refine g_callV C dX8_heightOf_6 (m_X8_lengthOf l X N _ _ _  (gLay.sub hL (by decide) (by decide)) _ _ z1 hz1) gEin0 (cwV 2 C.2.2.2.2.1 gX8_heightOf_X8_lengthOf rfl rfl rfl (by decide +kernel) ⟨Nat.le_of_ble_eq_true rfl, Nat.le_of_ble_eq_true rfl⟩) (L37 hL (by decide) (by decide)) (by decide) rfl rfl rfl (Nat.le_of_ble_eq_true rfl) ⟨Nat.le_of_ble_eq_true rfl, Nat.le_of_ble_eq_true rfl⟩ ?_
  refine g_istore_n C dX8_heightOf_9 rfl (Nat.le_of_ble_eq_true rfl) rfl rfl ?_
  refine g_iconst (v := 0) C dX8_heightOf_10 (by decide) ?_
  refine g_istore_n C dX8_heightOf_11 rfl (Nat.le_of_ble_eq_true rfl) rfl rfl ?_
  refine g_aload_n C dX8_heightOf_12 rfl rfl ?_
  refine g_aload_n C dX8_heightOf_13 rfl rfl ?_
  refine g_aload_n C dX8_heightOf_14 rfl rfl ?_
  refine g_getWI 3 C dX8_heightOf_15 hwa0 cw ⟨rfl, rfl, rfl, rfl⟩ f116 ⟨rfl, rfl, rfl, rfl⟩ ?_
  obtain ⟨z2, hz2, hf⟩ := gbind hf ho
  refine g_callV C dX8_heightOf_18 (m_X8_raisePowers l X N _ _ _  (gLay.sub hL (by decide) (by decide)) _ _ z2 hz2) gEin0 (cwV 2 C.2.2.2.2.1 gX8_heightOf_X8_raisePowers rfl rfl rfl (by decide +kernel) ⟨Nat.le_of_ble_eq_true rfl, Nat.le_of_ble_eq_true rfl⟩) (L37 hL (by decide) (by decide)) (by decide) rfl rfl rfl (Nat.le_of_ble_eq_true rfl) ⟨Nat.le_of_ble_eq_true rfl, Nat.le_of_ble_eq_true rfl⟩ ?_
  refine g_loop (fun z3 => [(0, .ref (X.1 + 37)), (1, .ref (X.1 + a0)), (2, .int z1), (3, .int z3.1)]) (fun z3 => z3.2) (fun r4 => [(1, .ref (X.1 + a0)), (3, .int r4.1)]) (fun r4 => r4.2) 44 hf ho (And.intro rfl (And.intro rfl (And.intro rfl (And.intro rfl trivial)))) rfl (fun r4 hf => ?_) (fun z3 o1 hf ho hkz3 hez3 => ?_)
  · refine g_aload_n C dX8_heightOf_44 rfl rfl ?_
    refine g_getWI 3 C dX8_heightOf_45 hwa0 cw ⟨rfl, rfl, rfl, rfl⟩ f116 ⟨rfl, rfl, rfl, rfl⟩ ?_
    refine g_if_le (tgt := 60) C dX8_heightOf_48 (by decide) hf (fun hf => ?_) (fun hf => ?_)
    · refine g_iconst (v := 0) C dX8_heightOf_60 (by decide) ?_
      obtain ⟨rfl, rfl⟩ := gs2 hf
      exact g_iret C dX8_heightOf_61 hr hlk
    · refine g_iload_n C dX8_heightOf_51 rfl rfl ?_
      refine g_aload_n C dX8_heightOf_52 rfl rfl ?_
      refine g_getWI 3 C dX8_heightOf_53 hwa0 cw ⟨rfl, rfl, rfl, rfl⟩ f116 ⟨rfl, rfl, rfl, rfl⟩ ?_
      refine g_idiv C dX8_heightOf_56 ho hf (fun hf => ?_)
      refine g_goto (tgt := 61) C dX8_heightOf_57 (by decide) ?_
      obtain ⟨rfl, rfl⟩ := gs2 hf
      exact g_iret C dX8_heightOf_61 hr hlk
  · refine g_iload_n C dX8_heightOf_21 rfl rfl ?_
    refine g_iload_n C dX8_heightOf_22 rfl rfl ?_
    refine g_icmp_ge (tgt := 44) C dX8_heightOf_23 (by decide) hf (fun hf => ?_) (fun hf => ?_)
    · have hx := hez3 _ hf.symm
      refine g_sub ?_ hx
      exact (And.intro rfl (And.intro rfl trivial))
    · refine g_aload_n C dX8_heightOf_26 rfl rfl ?_
      refine g_aload_n C dX8_heightOf_27 rfl rfl ?_
      refine g_getWI 2 C dX8_heightOf_28 hwa0 cw ⟨rfl, rfl, rfl, rfl⟩ f107 ⟨rfl, rfl, rfl, rfl⟩ ?_
      refine g_iload_n C dX8_heightOf_31 rfl rfl ?_
      obtain ⟨z5, hz5, hf⟩ := gbind hf ho
      refine g_callV C dX8_heightOf_32 (m_X8_mixed l X N _ _ _  (gLay.sub hL (by decide) (by decide)) _ _ z5.1 z5.2 hz5) gEin0 (cwV 2 C.2.2.2.2.1 gX8_heightOf_X8_mixed rfl rfl rfl (by decide +kernel) ⟨Nat.le_of_ble_eq_true rfl, Nat.le_of_ble_eq_true rfl⟩) (L37 hL (by decide) (by decide)) (by decide) rfl rfl rfl (Nat.le_of_ble_eq_true rfl) ⟨Nat.le_of_ble_eq_true rfl, Nat.le_of_ble_eq_true rfl⟩ ?_
      refine g_if_ne (tgt := 44) C dX8_heightOf_35 (by decide) hf (fun hf => ?_) (fun hf => ?_)
      · have hx := hez3 _ hf.symm
        refine g_sub ?_ hx
        exact (And.intro rfl (And.intro rfl trivial))
      · refine g_iinc (d := 1) C dX8_heightOf_38 rfl (by decide) rfl (Nat.le_of_ble_eq_true rfl) rfl rfl ?_
        refine g_goto (tgt := 21) C dX8_heightOf_41 (by decide) ?_
        have hx := hkz3 _ hf.symm
        refine g_sub ?_ hx
        exact (And.intro rfl (And.intro rfl (And.intro rfl (And.intro rfl trivial))))
set_option maxRecDepth 100000 in
set_option maxHeartbeats 8000000 in
theorem m_X8_worldOf (l : Launch) (X : gX) (N : Nat) (I : gI) (R : gR) (S : gS) (hL : gLay 6 56 R S) (a0 : Nat) (a1 : Int32) (v : Nat) (J : gI) (P : gR) (T : gS) (hf : f_X8_worldOf N I R S a0 a1 = some (v, J, P, T)) : gM l yX8_worldOf wsX8_worldOf { frames := 5, cells := 2, slots := 10, locals := 123 } X gE0 [.ref (X.1 + 37), .ref (X.1 + a0), .int a1] I R S (some (.ref (X.1 + v))) J P T 2 10 := by
  unfold f_X8_worldOf at hf
  refine gM_of (cc := cX8_worldOf) (own := RX8) (maxL := 7) (ret := (some (.object "TimesByPowers$World"))) (by decide) rfl rfl (Nat.le_of_ble_eq_true rfl) ?_
  intro p e s m args below meth c C hr hlk hnm hE
  have ho : (some (v, J, P, T)) ≠ none := fun h => by cases h
  have f37 := C.2.2.2.2.1 (.fieldLink RX8 37 "TimesByPowers$Sums" "elements" "LTimesByPowers$Field;") (by decide +kernel)
  have c8 : gCl wsX8_worldOf 8 RX8 TX8 10 := ⟨by decide, rfl, rfl, by decide +kernel⟩
  have f66 := C.2.2.2.2.1 (.fieldLink RX8 66 "TimesByPowers$Field" "p" "I") (by decide +kernel)
  have c2 : gCl wsX8_worldOf 2 RX2 TX2 8 := ⟨by decide, rfl, rfl, by decide +kernel⟩
  have c4 : gCl wsX8_worldOf 4 RX4 TX4 5 := ⟨by decide, rfl, rfl, by decide +kernel⟩
  have cl79 := C.2.2.2.2.1 (.classLink RX8 79 RX4) (by decide +kernel)
  have inX4 := C.2.2.2.2.1 (.instantiable RX4 5) (by decide +kernel)
  have niX4 := C.2.2.2.2.1 (.initialized RX4) (by decide +kernel)
  have imX4 := C.2.2.2.2.1 (.instanceMethod yX4_init) (by decide +kernel)
  have m81 := C.2.2.2.2.1 (.methodLink RX8 81 yX4_init) (by decide +kernel)
  have c7 : gCl wsX8_worldOf 7 RX7 TX7 5 := ⟨by decide, rfl, rfl, by decide +kernel⟩
  have cl88 := C.2.2.2.2.1 (.classLink RX8 88 RX7) (by decide +kernel)
  have inX7 := C.2.2.2.2.1 (.instantiable RX7 5) (by decide +kernel)
  have niX7 := C.2.2.2.2.1 (.initialized RX7) (by decide +kernel)
  have imX7 := C.2.2.2.2.1 (.instanceMethod yX7_init) (by decide +kernel)
  have m90 := C.2.2.2.2.1 (.methodLink RX8 90 yX7_init) (by decide +kernel)
  have c1 : gCl wsX8_worldOf 1 RX1 TX1 4 := ⟨by decide, rfl, rfl, by decide +kernel⟩
  have cl63 := C.2.2.2.2.1 (.classLink RX8 63 RX1) (by decide +kernel)
  have inX1 := C.2.2.2.2.1 (.instantiable RX1 4) (by decide +kernel)
  have niX1 := C.2.2.2.2.1 (.initialized RX1) (by decide +kernel)
  have imX1 := C.2.2.2.2.1 (.instanceMethod yX1_init) (by decide +kernel)
  have m65 := C.2.2.2.2.1 (.methodLink RX8 65 yX1_init) (by decide +kernel)
  have c3 : gCl wsX8_worldOf 3 RX3 TX3 4 := ⟨by decide, rfl, rfl, by decide +kernel⟩
  have cl58 := C.2.2.2.2.1 (.classLink RX8 58 RX3) (by decide +kernel)
  have inX3 := C.2.2.2.2.1 (.instantiable RX3 4) (by decide +kernel)
  have niX3 := C.2.2.2.2.1 (.initialized RX3) (by decide +kernel)
  have imX3 := C.2.2.2.2.1 (.instanceMethod yX3_init) (by decide +kernel)
  have m60 := C.2.2.2.2.1 (.methodLink RX8 60 yX3_init) (by decide +kernel)
  refine g_aload_n C dX8_worldOf_0 rfl rfl ?_
  refine g_aload_n C dX8_worldOf_1 rfl rfl ?_
  refine g_iconst (v := 0) C dX8_worldOf_2 (by decide) ?_
  refine g_ialdD C dX8_worldOf_3 ho hf (fun hf => ?_)
  obtain ⟨z1, hz1, hf⟩ := gbind hf ho
  refine g_callV C dX8_worldOf_4 (m_X8_ownOf l X N _ _ _  (gLay.sub hL (by decide) (by decide)) _ z1.1 z1.2 hz1) gEin0 (cwV 1 C.2.2.2.2.1 gX8_worldOf_X8_ownOf rfl rfl rfl (by decide +kernel) ⟨Nat.le_of_ble_eq_true rfl, Nat.le_of_ble_eq_true rfl⟩) (L37 hL (by decide) (by decide)) (by decide) rfl rfl rfl (Nat.le_of_ble_eq_true rfl) ⟨Nat.le_of_ble_eq_true rfl, Nat.le_of_ble_eq_true rfl⟩ ?_
  refine g_istore_n C dX8_worldOf_7 rfl (Nat.le_of_ble_eq_true rfl) rfl rfl ?_
  refine g_aload_n C dX8_worldOf_8 rfl rfl ?_
  refine g_getR (i := 0) (j := 0) C dX8_worldOf_9 (L37 hL (by decide) (by decide)) c8 rfl (by decide) f37 (fun _ h9 => h9) (LR37_0 hL (by decide) (by decide)) ?_
  refine g_iload_n C dX8_worldOf_12 rfl rfl ?_
  obtain ⟨z2, hz2, hf⟩ := gbind hf ho
  refine g_callV C dX8_worldOf_13 (m_X2_degreeOf l X N _ _ _  (gLay.sub hL (by decide) (by decide)) _ z2 hz2) gEin0 (cwV 1 C.2.2.2.2.1 gX8_worldOf_X2_degreeOf rfl rfl rfl (by decide +kernel) ⟨Nat.le_of_ble_eq_true rfl, Nat.le_of_ble_eq_true rfl⟩) (L6 hL (by decide) (by decide)) (by decide) rfl rfl rfl (Nat.le_of_ble_eq_true rfl) ⟨Nat.le_of_ble_eq_true rfl, Nat.le_of_ble_eq_true rfl⟩ ?_
  refine g_istore C dX8_worldOf_16 (Nat.le_of_ble_eq_true rfl) rfl rfl ?_
  refine g_iload_n C dX8_worldOf_18 rfl rfl ?_
  refine g_iconst (v := 1) C dX8_worldOf_19 (by decide) ?_
  refine g_icmp_ne (tgt := 35) C dX8_worldOf_20 (by decide) hf (fun hf => ?_) (fun hf => ?_)
  · refine g_iload_n C dX8_worldOf_35 rfl rfl ?_
    refine g_iconst (v := 3) C dX8_worldOf_36 (by decide) ?_
    refine g_icmp_ne (tgt := 52) C dX8_worldOf_37 (by decide) hf (fun hf => ?_) (fun hf => ?_)
    · refine g_aload_n C dX8_worldOf_52 rfl rfl ?_
      refine g_getR (i := 0) (j := 0) C dX8_worldOf_53 (L37 hL (by decide) (by decide)) c8 rfl (by decide) f37 (fun _ h9 => h9) (LR37_0 hL (by decide) (by decide)) ?_
      refine g_aload_n C dX8_worldOf_56 rfl rfl ?_
      refine g_getR (i := 0) (j := 0) C dX8_worldOf_57 (L37 hL (by decide) (by decide)) c8 rfl (by decide) f37 (fun _ h9 => h9) (LR37_0 hL (by decide) (by decide)) ?_
      refine g_aload_n C dX8_worldOf_60 rfl rfl ?_
      refine g_iconst (v := 1) C dX8_worldOf_61 (by decide) ?_
      refine g_ialdD C dX8_worldOf_62 ho hf (fun hf => ?_)
      refine g_aload_n C dX8_worldOf_63 rfl rfl ?_
      refine g_getR (i := 0) (j := 0) C dX8_worldOf_64 (L37 hL (by decide) (by decide)) c8 rfl (by decide) f37 (fun _ h9 => h9) (LR37_0 hL (by decide) (by decide)) ?_
      refine g_getI (i := 0) (j := 0) C dX8_worldOf_67 (L6 hL (by decide) (by decide)) c2 rfl f66 (fun _ h9 => h9) ?_
      refine g_iconst (v := 1) C dX8_worldOf_70 (by decide) ?_
      refine g_iadd C dX8_worldOf_71 ?_
      obtain ⟨z3, hz3, hf⟩ := gbind hf ho
      refine g_callV C dX8_worldOf_72 (m_X2_power l X N _ _ _  (gLay.sub hL (by decide) (by decide)) _ _ z3.1 z3.2 hz3) gEin0 (cwV 2 C.2.2.2.2.1 gX8_worldOf_X2_power rfl rfl rfl (by decide +kernel) ⟨Nat.le_of_ble_eq_true rfl, Nat.le_of_ble_eq_true rfl⟩) (L6 hL (by decide) (by decide)) (by decide) rfl rfl rfl (Nat.le_of_ble_eq_true rfl) ⟨Nat.le_of_ble_eq_true rfl, Nat.le_of_ble_eq_true rfl⟩ ?_
      refine g_aload_n C dX8_worldOf_75 rfl rfl ?_
      refine g_getR (i := 0) (j := 0) C dX8_worldOf_76 (L37 hL (by decide) (by decide)) c8 rfl (by decide) f37 (fun _ h9 => h9) (LR37_0 hL (by decide) (by decide)) ?_
      refine g_aload_n C dX8_worldOf_79 rfl rfl ?_
      refine g_iconst (v := 2) C dX8_worldOf_80 (by decide) ?_
      refine g_ialdD C dX8_worldOf_81 ho hf (fun hf => ?_)
      obtain ⟨z4, hz4, hf⟩ := gbind hf ho
      refine g_callV C dX8_worldOf_82 (m_X2_inverse l X N _ _ _  (gLay.sub hL (by decide) (by decide)) _ z4.1 z4.2 hz4) gEin0 (cwV 1 C.2.2.2.2.1 gX8_worldOf_X2_inverse rfl rfl rfl (by decide +kernel) ⟨Nat.le_of_ble_eq_true rfl, Nat.le_of_ble_eq_true rfl⟩) (L6 hL (by decide) (by decide)) (by decide) rfl rfl rfl (Nat.le_of_ble_eq_true rfl) ⟨Nat.le_of_ble_eq_true rfl, Nat.le_of_ble_eq_true rfl⟩ ?_
      obtain ⟨z5, hz5, hf⟩ := gbind hf ho
      refine g_callV C dX8_worldOf_85 (m_X2_times l X N _ _ _  (gLay.sub hL (by decide) (by decide)) _ _ z5.1 z5.2 hz5) gEin0 (cwV 2 C.2.2.2.2.1 gX8_worldOf_X2_times rfl rfl rfl (by decide +kernel) ⟨Nat.le_of_ble_eq_true rfl, Nat.le_of_ble_eq_true rfl⟩) (L6 hL (by decide) (by decide)) (by decide) rfl rfl rfl (Nat.le_of_ble_eq_true rfl) ⟨Nat.le_of_ble_eq_true rfl, Nat.le_of_ble_eq_true rfl⟩ ?_
      refine g_istore C dX8_worldOf_88 (Nat.le_of_ble_eq_true rfl) rfl rfl ?_
      refine g_new (q := S.length) C dX8_worldOf_90 c4 gy4 cl79 inX4 niX4 gd4 ⟨Nat.le_of_ble_eq_true rfl, Nat.le_of_ble_eq_true rfl⟩ rfl ?_
      refine g_dup C dX8_worldOf_93 rfl ?_
      refine g_aload_n C dX8_worldOf_94 rfl rfl ?_
      refine g_iload_n C dX8_worldOf_95 rfl rfl ?_
      refine g_iload C dX8_worldOf_96 rfl ?_
      refine g_iload C dX8_worldOf_98 rfl ?_
      obtain ⟨z6, hz6, hf⟩ := gbind hf ho
      refine g_callI C dX8_worldOf_100 (m_X4_init l X N _ _ _   _ _ _ _ _ z6.1 z6.2.1 z6.2.2 hz6) gEin0 (cwI 4 C.2.2.2.2.1 gX8_worldOf_X4_init rfl rfl rfl niX4 m81 imX4 rfl (by decide +kernel) ⟨Nat.le_of_ble_eq_true rfl, Nat.le_of_ble_eq_true rfl⟩) rfl rfl (Nat.le_of_ble_eq_true rfl) ⟨Nat.le_of_ble_eq_true rfl, Nat.le_of_ble_eq_true rfl⟩ ?_
      refine g_astore C dX8_worldOf_103 (Nat.le_of_ble_eq_true rfl) rfl rfl ?_
      refine g_aload_n C dX8_worldOf_105 rfl rfl ?_
      refine g_aload C dX8_worldOf_106 rfl ?_
      obtain ⟨hL8, hf⟩ := gcase hf ho
      have hL8 := gLayb_ok (by decide) hL8
      obtain ⟨z7, hz7, hf⟩ := gbind hf ho
      refine g_callV C dX8_worldOf_108 (m_X8_heightOf l X N _ _ _  (gLay.sub hL8 (by decide) (by decide)) _ z7.1 z7.2 hz7) gEin0 (cwV 1 C.2.2.2.2.1 gX8_worldOf_X8_heightOf rfl rfl rfl (by decide +kernel) ⟨Nat.le_of_ble_eq_true rfl, Nat.le_of_ble_eq_true rfl⟩) (L37 hL8 (by decide) (by decide)) (by decide) rfl rfl rfl (Nat.le_of_ble_eq_true rfl) ⟨Nat.le_of_ble_eq_true rfl, Nat.le_of_ble_eq_true rfl⟩ ?_
      refine g_iconst (v := 2) C dX8_worldOf_111 (by decide) ?_
      refine g_icmp_ne (tgt := 127) C dX8_worldOf_112 (by decide) hf (fun hf => ?_) (fun hf => ?_)
      · refine g_aload C dX8_worldOf_127 rfl ?_
        obtain ⟨rfl, rfl, rfl, rfl⟩ := gs4 hf
        refine g_widen (k := 2) (n := 10) (Nat.le_of_ble_eq_true rfl) (Nat.le_of_ble_eq_true rfl) ?_
        exact g_aret C dX8_worldOf_129 hr (by first | exact Or.inl ⟨_, rfl⟩ | exact Or.inr ⟨_, rfl⟩) hlk
      · refine g_new (q := z6.2.2.length) C dX8_worldOf_115 c7 gy7 cl88 inX7 niX7 gd7 ⟨Nat.le_of_ble_eq_true rfl, Nat.le_of_ble_eq_true rfl⟩ rfl ?_
        refine g_dup C dX8_worldOf_118 rfl ?_
        refine g_aload C dX8_worldOf_119 rfl ?_
        obtain ⟨z9, hz9, hf⟩ := gbind hf ho
        refine g_callI C dX8_worldOf_121 (m_X7_init l X N _ _ _   _ _ z9.1 z9.2.1 z9.2.2 hz9) gEin0 (cwI 1 C.2.2.2.2.1 gX8_worldOf_X7_init rfl rfl rfl niX7 m90 imX7 rfl (by decide +kernel) ⟨Nat.le_of_ble_eq_true rfl, Nat.le_of_ble_eq_true rfl⟩) rfl rfl (Nat.le_of_ble_eq_true rfl) ⟨Nat.le_of_ble_eq_true rfl, Nat.le_of_ble_eq_true rfl⟩ ?_
        refine g_goto (tgt := 129) C dX8_worldOf_124 (by decide) ?_
        obtain ⟨rfl, rfl, rfl, rfl⟩ := gs4 hf
        refine g_widen (k := 2) (n := 10) (Nat.le_of_ble_eq_true rfl) (Nat.le_of_ble_eq_true rfl) ?_
        exact g_aret C dX8_worldOf_129 hr (by first | exact Or.inl ⟨_, rfl⟩ | exact Or.inr ⟨_, rfl⟩) hlk
    · refine g_new (q := S.length) C dX8_worldOf_40 c1 gy1 cl63 inX1 niX1 gd1 ⟨Nat.le_of_ble_eq_true rfl, Nat.le_of_ble_eq_true rfl⟩ rfl ?_
      refine g_dup C dX8_worldOf_43 rfl ?_
      refine g_aload_n C dX8_worldOf_44 rfl rfl ?_
      refine g_iload_n C dX8_worldOf_45 rfl rfl ?_
      refine g_iload C dX8_worldOf_46 rfl ?_
      obtain ⟨z10, hz10, hf⟩ := gbind hf ho
      refine g_callI C dX8_worldOf_48 (m_X1_init l X N _ _ _   _ _ _ _ z10.1 z10.2.1 z10.2.2 hz10) gEin0 (cwI 3 C.2.2.2.2.1 gX8_worldOf_X1_init rfl rfl rfl niX1 m65 imX1 rfl (by decide +kernel) ⟨Nat.le_of_ble_eq_true rfl, Nat.le_of_ble_eq_true rfl⟩) rfl rfl (Nat.le_of_ble_eq_true rfl) ⟨Nat.le_of_ble_eq_true rfl, Nat.le_of_ble_eq_true rfl⟩ ?_
      obtain ⟨rfl, rfl, rfl, rfl⟩ := gs4 hf
      refine g_widen (k := 2) (n := 10) (Nat.le_of_ble_eq_true rfl) (Nat.le_of_ble_eq_true rfl) ?_
      exact g_aret C dX8_worldOf_51 hr (by first | exact Or.inl ⟨_, rfl⟩ | exact Or.inr ⟨_, rfl⟩) hlk
  · refine g_new (q := S.length) C dX8_worldOf_23 c3 gy3 cl58 inX3 niX3 gd3 ⟨Nat.le_of_ble_eq_true rfl, Nat.le_of_ble_eq_true rfl⟩ rfl ?_
    refine g_dup C dX8_worldOf_26 rfl ?_
    refine g_aload_n C dX8_worldOf_27 rfl rfl ?_
    refine g_iload_n C dX8_worldOf_28 rfl rfl ?_
    refine g_iload C dX8_worldOf_29 rfl ?_
    obtain ⟨z11, hz11, hf⟩ := gbind hf ho
    refine g_callI C dX8_worldOf_31 (m_X3_init l X N _ _ _   _ _ _ _ z11.1 z11.2.1 z11.2.2 hz11) gEin0 (cwI 3 C.2.2.2.2.1 gX8_worldOf_X3_init rfl rfl rfl niX3 m60 imX3 rfl (by decide +kernel) ⟨Nat.le_of_ble_eq_true rfl, Nat.le_of_ble_eq_true rfl⟩) rfl rfl (Nat.le_of_ble_eq_true rfl) ⟨Nat.le_of_ble_eq_true rfl, Nat.le_of_ble_eq_true rfl⟩ ?_
    obtain ⟨rfl, rfl, rfl, rfl⟩ := gs4 hf
    refine g_widen (k := 2) (n := 10) (Nat.le_of_ble_eq_true rfl) (Nat.le_of_ble_eq_true rfl) ?_
    exact g_aret C dX8_worldOf_34 hr (by first | exact Or.inl ⟨_, rfl⟩ | exact Or.inr ⟨_, rfl⟩) hlk
set_option maxRecDepth 100000 in
set_option maxHeartbeats 8000000 in
theorem m_X8_numberOf (l : Launch) (X : gX) (N : Nat) (I : gI) (R : gR) (S : gS) (hL : gLay 6 56 R S) (a0 : Nat) (a1 : Int32) (a2 : Int32) (v : Int32) (J : gI) (hf : f_X8_numberOf N I R S a0 a1 a2 = some (v, J)) : gM l yX8_numberOf wsX8_numberOf { frames := 4, cells := 0, slots := 0, locals := 100 } X gE0 [.ref (X.1 + 37), .ref (X.1 + a0), .int a1, .int a2] I R S (some (.int v)) J R S 0 0 := by
  unfold f_X8_numberOf at hf
  refine gM_of (cc := cX8_numberOf) (own := RX8) (maxL := 4) (ret := (some .int)) (by decide) rfl rfl (Nat.le_of_ble_eq_true rfl) ?_
  intro p e s m args below meth c C hr hlk hnm hE
  have ho : (some (v, J)) ≠ none := fun h => by cases h
  have f37 := C.2.2.2.2.1 (.fieldLink RX8 37 "TimesByPowers$Sums" "elements" "LTimesByPowers$Field;") (by decide +kernel)
  have c8 : gCl wsX8_numberOf 8 RX8 TX8 10 := ⟨by decide, rfl, rfl, by decide +kernel⟩
  obtain ⟨hwa0, hf⟩ := gcase hf ho
  refine g_aload_n C dX8_numberOf_0 rfl rfl ?_
  refine g_aload_n C dX8_numberOf_1 rfl rfl ?_
  refine g_aload_n C dX8_numberOf_2 rfl rfl ?_
  refine g_getR (i := 0) (j := 0) C dX8_numberOf_3 (L37 hL (by decide) (by decide)) c8 rfl (by decide) f37 (fun _ h9 => h9) (LR37_0 hL (by decide) (by decide)) ?_
  refine g_iload_n C dX8_numberOf_6 rfl rfl ?_
  obtain ⟨z1, hz1, hf⟩ := gbind hf ho
  refine g_callV C dX8_numberOf_7 (m_X2_degreeOf l X N _ _ _  (gLay.sub hL (by decide) (by decide)) _ z1 hz1) gEin0 (cwV 1 C.2.2.2.2.1 gX8_numberOf_X2_degreeOf rfl rfl rfl (by decide +kernel) ⟨Nat.le_of_ble_eq_true rfl, Nat.le_of_ble_eq_true rfl⟩) (L6 hL (by decide) (by decide)) (by decide) rfl rfl rfl (Nat.le_of_ble_eq_true rfl) ⟨Nat.le_of_ble_eq_true rfl, Nat.le_of_ble_eq_true rfl⟩ ?_
  obtain ⟨z2, hz2, hf⟩ := gbind hf ho
  refine g_callV C dX8_numberOf_10 (m_X8_raisePowers l X N _ _ _  (gLay.sub hL (by decide) (by decide)) _ _ z2 hz2) gEin0 (cwV 2 C.2.2.2.2.1 gX8_numberOf_X8_raisePowers rfl rfl rfl (by decide +kernel) ⟨Nat.le_of_ble_eq_true rfl, Nat.le_of_ble_eq_true rfl⟩) (L37 hL (by decide) (by decide)) (by decide) rfl rfl rfl (Nat.le_of_ble_eq_true rfl) ⟨Nat.le_of_ble_eq_true rfl, Nat.le_of_ble_eq_true rfl⟩ ?_
  refine g_aload_n C dX8_numberOf_13 rfl rfl ?_
  refine g_iload_n C dX8_numberOf_14 rfl rfl ?_
  refine g_iload_n C dX8_numberOf_15 rfl rfl ?_
  obtain ⟨z3, hz3, hf⟩ := gbind hf ho
  refine g_callV C dX8_numberOf_16 (m_X8_mixed l X N _ _ _  (gLay.sub hL (by decide) (by decide)) _ _ z3.1 z3.2 hz3) gEin0 (cwV 2 C.2.2.2.2.1 gX8_numberOf_X8_mixed rfl rfl rfl (by decide +kernel) ⟨Nat.le_of_ble_eq_true rfl, Nat.le_of_ble_eq_true rfl⟩) (L37 hL (by decide) (by decide)) (by decide) rfl rfl rfl (Nat.le_of_ble_eq_true rfl) ⟨Nat.le_of_ble_eq_true rfl, Nat.le_of_ble_eq_true rfl⟩ ?_
  obtain ⟨rfl, rfl⟩ := gs2 hf
  exact g_iret C dX8_numberOf_19 hr hlk
set_option maxRecDepth 100000 in
set_option maxHeartbeats 8000000 in
theorem m_X8_divideBy (l : Launch) (X : gX) (N : Nat) (I : gI) (R : gR) (S : gS) (hL : gLay 6 56 R S) (a0 : Nat) (a1 : Int32) (J : gI) (hf : f_X8_divideBy N I R S a0 a1 = some J) : gM l yX8_divideBy wsX8_divideBy { frames := 4, cells := 0, slots := 0, locals := 95 } X gE0 [.ref (X.1 + 37), .ref (X.1 + a0), .int a1] I R S none J R S 0 0 := by
  unfold f_X8_divideBy at hf
  refine gM_of (cc := cX8_divideBy) (own := RX8) (maxL := 5) (ret := none) (by decide) rfl rfl (Nat.le_of_ble_eq_true rfl) ?_
  intro p e s m args below meth c C hr hlk hnm hE
  have ho : (some J) ≠ none := fun h => by cases h
  have f28 := C.2.2.2.2.1 (.fieldLink RX8 28 "TimesByPowers$Sums" "divisor" "[[I") (by decide +kernel)
  have c8 : gCl wsX8_divideBy 8 RX8 TX8 10 := ⟨by decide, rfl, rfl, by decide +kernel⟩
  have m151 := C.2.2.2.2.1 (.methodLink RX8 151 arraycopyName) (by decide +kernel)
  have hacw : gAcw s args := ⟨C.2.2.2.2.1 (.native arraycopyName) (by decide +kernel), C.2.2.2.2.1 (.static arraycopyName) (by decide +kernel), C.2.2.2.2.1 (.initialized "java/lang/System") (by decide +kernel)⟩
  have f37 := C.2.2.2.2.1 (.fieldLink RX8 37 "TimesByPowers$Sums" "elements" "LTimesByPowers$Field;") (by decide +kernel)
  have f50 := C.2.2.2.2.1 (.fieldLink RX8 50 "TimesByPowers$Sums" "n" "I") (by decide +kernel)
  refine g_aload_n C dX8_divideBy_0 rfl rfl ?_
  refine g_iconst (v := 0) C dX8_divideBy_1 (by decide) ?_
  refine g_aload_n C dX8_divideBy_2 rfl rfl ?_
  refine g_getR (i := 7) (j := 7) C dX8_divideBy_3 (L37 hL (by decide) (by decide)) c8 rfl (by decide) f28 (fun _ h9 => h9) (LR37_7 hL (by decide) (by decide)) ?_
  refine g_iconst (v := 0) C dX8_divideBy_6 (by decide) ?_
  refine g_aaldG 1 (fun j => 48 + j) C dX8_divideBy_7 (by decide) (L47 hL (by decide) (by decide)) rfl rfl (fun j hj => LG47 hL (by decide) (by decide) hj) ho hf (fun hj1 hf => ?_)
  refine g_iconst (v := 0) C dX8_divideBy_8 (by decide) ?_
  refine g_iload_n C dX8_divideBy_9 rfl rfl ?_
  refine g_iconst (v := 1) C dX8_divideBy_10 (by decide) ?_
  refine g_iadd C dX8_divideBy_11 ?_
  obtain ⟨ha2, hf⟩ := gcaseF hf ho
  refine g_copy C dX8_divideBy_12 m151 hacw (gAr_at ha2) (LH47 hL (by decide) (by decide) hj1) ho hf (Nat.le_of_ble_eq_true rfl) (Nat.le_of_ble_eq_true rfl) (fun hf => ?_)
  refine g_aload_n C dX8_divideBy_15 rfl rfl ?_
  refine g_getR (i := 7) (j := 7) C dX8_divideBy_16 (L37 hL (by decide) (by decide)) c8 rfl (by decide) f28 (fun _ h9 => h9) (LR37_7 hL (by decide) (by decide)) ?_
  refine g_iconst (v := 0) C dX8_divideBy_19 (by decide) ?_
  refine g_aaldG 1 (fun j => 48 + j) C dX8_divideBy_20 (by decide) (L47 hL (by decide) (by decide)) rfl rfl (fun j hj => LG47 hL (by decide) (by decide) hj) ho hf (fun hj3 hf => ?_)
  refine g_iconst (v := 5) C dX8_divideBy_21 (by decide) ?_
  refine g_aload_n C dX8_divideBy_22 rfl rfl ?_
  refine g_getR (i := 0) (j := 0) C dX8_divideBy_23 (L37 hL (by decide) (by decide)) c8 rfl (by decide) f37 (fun _ h9 => h9) (LR37_0 hL (by decide) (by decide)) ?_
  refine g_aload_n C dX8_divideBy_26 rfl rfl ?_
  refine g_iload_n C dX8_divideBy_27 rfl rfl ?_
  refine g_ialdD C dX8_divideBy_28 ho hf (fun hf => ?_)
  obtain ⟨z4, hz4, hf⟩ := gbind hf ho
  refine g_callV C dX8_divideBy_29 (m_X2_inverse l X N _ _ _  (gLay.sub hL (by decide) (by decide)) _ z4.1 z4.2 hz4) gEin0 (cwV 1 C.2.2.2.2.1 gX8_divideBy_X2_inverse rfl rfl rfl (by decide +kernel) ⟨Nat.le_of_ble_eq_true rfl, Nat.le_of_ble_eq_true rfl⟩) (L6 hL (by decide) (by decide)) (by decide) rfl rfl rfl (Nat.le_of_ble_eq_true rfl) ⟨Nat.le_of_ble_eq_true rfl, Nat.le_of_ble_eq_true rfl⟩ ?_
  refine g_iast C dX8_divideBy_32 (LH47 hL (by decide) (by decide) hj3) ho hf (fun hf => ?_)
  refine g_iconst (v := 1) C dX8_divideBy_33 (by decide) ?_
  refine g_istore_n C dX8_divideBy_34 rfl (Nat.le_of_ble_eq_true rfl) rfl rfl ?_
  refine g_loop (fun z5 => [(0, .ref (X.1 + 37)), (2, .int a1), (3, .int z5.1)]) (fun z5 => z5.2) (fun r6 => []) (fun r6 => r6) 116 hf ho (And.intro rfl (And.intro rfl (And.intro rfl trivial))) rfl (fun r6 hf => ?_) (fun z5 o1 hf ho hkz5 hez5 => ?_)
  · obtain rfl := gs1 hf
    exact g_vret C dX8_divideBy_116 hr hlk
  · refine g_iload_n C dX8_divideBy_35 rfl rfl ?_
    refine g_aload_n C dX8_divideBy_36 rfl rfl ?_
    refine g_getI (i := 2) (j := 2) C dX8_divideBy_37 (L37 hL (by decide) (by decide)) c8 rfl f50 (fun _ h9 => h9) ?_
    refine g_icmp_ge (tgt := 116) C dX8_divideBy_40 (by decide) hf (fun hf => ?_) (fun hf => ?_)
    · have hx := hez5 _ hf.symm
      refine g_sub ?_ hx
      exact trivial
    · refine g_iconst (v := 0) C dX8_divideBy_43 (by decide) ?_
      refine g_istore C dX8_divideBy_44 (Nat.le_of_ble_eq_true rfl) rfl rfl ?_
      refine g_loop (fun z7 => [(0, .ref (X.1 + 37)), (2, .int a1), (3, .int z5.1), (4, .int z7.1)]) (fun z7 => z7.2) (fun r8 => [(0, .ref (X.1 + 37)), (2, .int a1), (3, .int z5.1)]) (fun r8 => r8) 85 hf ho (And.intro rfl (And.intro rfl (And.intro rfl (And.intro rfl trivial)))) rfl (fun r8 hf => ?_) (fun z7 o1 hf ho hkz7 hez7 => ?_)
      · refine g_aload_n C dX8_divideBy_85 rfl rfl ?_
        refine g_getR (i := 7) (j := 7) C dX8_divideBy_86 (L37 hL (by decide) (by decide)) c8 rfl (by decide) f28 (fun _ h9 => h9) (LR37_7 hL (by decide) (by decide)) ?_
        refine g_iload_n C dX8_divideBy_89 rfl rfl ?_
        refine g_aaldG 1 (fun j => 48 + j) C dX8_divideBy_90 (by decide) (L47 hL (by decide) (by decide)) rfl rfl (fun j hj => LG47 hL (by decide) (by decide) hj) ho hf (fun hj12 hf => ?_)
        refine g_iconst (v := 5) C dX8_divideBy_91 (by decide) ?_
        refine g_aload_n C dX8_divideBy_92 rfl rfl ?_
        refine g_getR (i := 0) (j := 0) C dX8_divideBy_93 (L37 hL (by decide) (by decide)) c8 rfl (by decide) f37 (fun _ h9 => h9) (LR37_0 hL (by decide) (by decide)) ?_
        refine g_aload_n C dX8_divideBy_96 rfl rfl ?_
        refine g_getR (i := 7) (j := 7) C dX8_divideBy_97 (L37 hL (by decide) (by decide)) c8 rfl (by decide) f28 (fun _ h9 => h9) (LR37_7 hL (by decide) (by decide)) ?_
        refine g_iload_n C dX8_divideBy_100 rfl rfl ?_
        refine g_iconst (v := 1) C dX8_divideBy_101 (by decide) ?_
        refine g_isub C dX8_divideBy_102 ?_
        refine g_aaldG 1 (fun j => 48 + j) C dX8_divideBy_103 (by decide) (L47 hL (by decide) (by decide)) rfl rfl (fun j hj => LG47 hL (by decide) (by decide) hj) ho hf (fun hj13 hf => ?_)
        refine g_iconst (v := 5) C dX8_divideBy_104 (by decide) ?_
        refine g_iald C dX8_divideBy_105 (LH47 hL (by decide) (by decide) hj13) ho hf (fun hf => ?_)
        obtain ⟨z14, hz14, hf⟩ := gbind hf ho
        refine g_callV C dX8_divideBy_106 (m_X2_raised l X N _ _ _  (gLay.sub hL (by decide) (by decide)) _ z14.1 z14.2 hz14) gEin0 (cwV 1 C.2.2.2.2.1 gX8_divideBy_X2_raised rfl rfl rfl (by decide +kernel) ⟨Nat.le_of_ble_eq_true rfl, Nat.le_of_ble_eq_true rfl⟩) (L6 hL (by decide) (by decide)) (by decide) rfl rfl rfl (Nat.le_of_ble_eq_true rfl) ⟨Nat.le_of_ble_eq_true rfl, Nat.le_of_ble_eq_true rfl⟩ ?_
        refine g_iast C dX8_divideBy_109 (LH47 hL (by decide) (by decide) hj12) ho hf (fun hf => ?_)
        refine g_iinc (d := 1) C dX8_divideBy_110 rfl (by decide) rfl (Nat.le_of_ble_eq_true rfl) rfl rfl ?_
        refine g_goto (tgt := 35) C dX8_divideBy_113 (by decide) ?_
        have hx := hkz5 _ hf.symm
        refine g_sub ?_ hx
        exact (And.intro rfl (And.intro rfl (And.intro rfl trivial)))
      · refine g_iload C dX8_divideBy_46 rfl ?_
        refine g_iload_n C dX8_divideBy_48 rfl rfl ?_
        refine g_icmp_gt (tgt := 85) C dX8_divideBy_49 (by decide) hf (fun hf => ?_) (fun hf => ?_)
        · have hx := hez7 _ hf.symm
          refine g_sub ?_ hx
          exact (And.intro rfl (And.intro rfl (And.intro rfl trivial)))
        · refine g_aload_n C dX8_divideBy_52 rfl rfl ?_
          refine g_getR (i := 7) (j := 7) C dX8_divideBy_53 (L37 hL (by decide) (by decide)) c8 rfl (by decide) f28 (fun _ h9 => h9) (LR37_7 hL (by decide) (by decide)) ?_
          refine g_iload_n C dX8_divideBy_56 rfl rfl ?_
          refine g_aaldG 1 (fun j => 48 + j) C dX8_divideBy_57 (by decide) (L47 hL (by decide) (by decide)) rfl rfl (fun j hj => LG47 hL (by decide) (by decide) hj) ho hf (fun hj9 hf => ?_)
          refine g_iload C dX8_divideBy_58 rfl ?_
          refine g_aload_n C dX8_divideBy_60 rfl rfl ?_
          refine g_getR (i := 0) (j := 0) C dX8_divideBy_61 (L37 hL (by decide) (by decide)) c8 rfl (by decide) f37 (fun _ h9 => h9) (LR37_0 hL (by decide) (by decide)) ?_
          refine g_aload_n C dX8_divideBy_64 rfl rfl ?_
          refine g_getR (i := 7) (j := 7) C dX8_divideBy_65 (L37 hL (by decide) (by decide)) c8 rfl (by decide) f28 (fun _ h9 => h9) (LR37_7 hL (by decide) (by decide)) ?_
          refine g_iload_n C dX8_divideBy_68 rfl rfl ?_
          refine g_iconst (v := 1) C dX8_divideBy_69 (by decide) ?_
          refine g_isub C dX8_divideBy_70 ?_
          refine g_aaldG 1 (fun j => 48 + j) C dX8_divideBy_71 (by decide) (L47 hL (by decide) (by decide)) rfl rfl (fun j hj => LG47 hL (by decide) (by decide) hj) ho hf (fun hj10 hf => ?_)
          refine g_iload C dX8_divideBy_72 rfl ?_
          refine g_iald C dX8_divideBy_74 (LH47 hL (by decide) (by decide) hj10) ho hf (fun hf => ?_)
          obtain ⟨z11, hz11, hf⟩ := gbind hf ho
          refine g_callV C dX8_divideBy_75 (m_X2_raised l X N _ _ _  (gLay.sub hL (by decide) (by decide)) _ z11.1 z11.2 hz11) gEin0 (cwV 1 C.2.2.2.2.1 gX8_divideBy_X2_raised rfl rfl rfl (by decide +kernel) ⟨Nat.le_of_ble_eq_true rfl, Nat.le_of_ble_eq_true rfl⟩) (L6 hL (by decide) (by decide)) (by decide) rfl rfl rfl (Nat.le_of_ble_eq_true rfl) ⟨Nat.le_of_ble_eq_true rfl, Nat.le_of_ble_eq_true rfl⟩ ?_
          refine g_iast C dX8_divideBy_78 (LH47 hL (by decide) (by decide) hj9) ho hf (fun hf => ?_)
          refine g_iinc (d := 1) C dX8_divideBy_79 rfl (by decide) rfl (Nat.le_of_ble_eq_true rfl) rfl rfl ?_
          refine g_goto (tgt := 46) C dX8_divideBy_82 (by decide) ?_
          have hx := hkz7 _ hf.symm
          refine g_sub ?_ hx
          exact (And.intro rfl (And.intro rfl (And.intro rfl (And.intro rfl trivial))))
set_option maxRecDepth 100000 in
set_option maxHeartbeats 8000000 in
theorem m_X8_divide (l : Launch) (X : gX) (N : Nat) (I : gI) (R : gR) (S : gS) (hL : gLay 6 56 R S) (a0 : Int32) (a1 : Int32) (J : gI) (hf : f_X8_divide N I R S a0 a1 = some J) : gM l yX8_divide wsX8_divide { frames := 2, cells := 0, slots := 0, locals := 50 } X gE0 [.ref (X.1 + 37), .int a0, .int a1] I R S none J R S 0 0 := by
  unfold f_X8_divide at hf
  refine gM_of (cc := cX8_divide) (own := RX8) (maxL := 7) (ret := none) (by decide) rfl rfl (Nat.le_of_ble_eq_true rfl) ?_
  intro p e s m args below meth c C hr hlk hnm hE
  have ho : (some J) ≠ none := fun h => by cases h
  have f34 := C.2.2.2.2.1 (.fieldLink RX8 34 "TimesByPowers$Sums" "quotient" "[I") (by decide +kernel)
  have c8 : gCl wsX8_divide 8 RX8 TX8 10 := ⟨by decide, rfl, rfl, by decide +kernel⟩
  have f28 := C.2.2.2.2.1 (.fieldLink RX8 28 "TimesByPowers$Sums" "divisor" "[[I") (by decide +kernel)
  have f50 := C.2.2.2.2.1 (.fieldLink RX8 50 "TimesByPowers$Sums" "n" "I") (by decide +kernel)
  have f37 := C.2.2.2.2.1 (.fieldLink RX8 37 "TimesByPowers$Sums" "elements" "LTimesByPowers$Field;") (by decide +kernel)
  have f31 := C.2.2.2.2.1 (.fieldLink RX8 31 "TimesByPowers$Sums" "remainder" "[I") (by decide +kernel)
  refine g_aload_n C dX8_divide_0 rfl rfl ?_
  refine g_getR (i := 9) (j := 9) C dX8_divide_1 (L37 hL (by decide) (by decide)) c8 rfl (by decide) f34 (fun _ h9 => h9) (LR37_9 hL (by decide) (by decide)) ?_
  refine g_iconst (v := 0) C dX8_divide_4 (by decide) ?_
  obtain ⟨z1, hz1, hf⟩ := gbind hf ho
  refine g_callS C dX8_divide_5 (m_J7_fill_53178 l X N _ _ _   _ _ z1 hz1) gEin0 (va_cwS 2 C.2.2.2.2.1 gX8_divide_J7_fill_53178 rfl rfl rfl (by decide +kernel) ⟨Nat.le_of_ble_eq_true rfl, Nat.le_of_ble_eq_true rfl⟩) rfl rfl (Nat.le_of_ble_eq_true rfl) ⟨Nat.le_of_ble_eq_true rfl, Nat.le_of_ble_eq_true rfl⟩ ?_
  refine g_iload_n C dX8_divide_8 rfl rfl ?_
  refine g_iload_n C dX8_divide_9 rfl rfl ?_
  refine g_isub C dX8_divide_10 ?_
  refine g_istore_n C dX8_divide_11 rfl (Nat.le_of_ble_eq_true rfl) rfl rfl ?_
  refine g_loop (fun z2 => [(0, .ref (X.1 + 37)), (2, .int a1), (3, .int z2.1)]) (fun z2 => z2.2) (fun r3 => []) (fun r3 => r3) 122 hf ho (And.intro rfl (And.intro rfl (And.intro rfl trivial))) rfl (fun r3 hf => ?_) (fun z2 o1 hf ho hkz2 hez2 => ?_)
  · obtain rfl := gs1 hf
    exact g_vret C dX8_divide_122 hr hlk
  · refine g_iload_n C dX8_divide_12 rfl rfl ?_
    refine g_if_lt (tgt := 122) C dX8_divide_13 (by decide) hf (fun hf => ?_) (fun hf => ?_)
    · have hx := hez2 _ hf.symm
      refine g_sub ?_ hx
      exact trivial
    · refine g_aload_n C dX8_divide_16 rfl rfl ?_
      refine g_getR (i := 7) (j := 7) C dX8_divide_17 (L37 hL (by decide) (by decide)) c8 rfl (by decide) f28 (fun _ h9 => h9) (LR37_7 hL (by decide) (by decide)) ?_
      refine g_iload_n C dX8_divide_20 rfl rfl ?_
      refine g_aload_n C dX8_divide_21 rfl rfl ?_
      refine g_getI (i := 2) (j := 2) C dX8_divide_22 (L37 hL (by decide) (by decide)) c8 rfl f50 (fun _ h9 => h9) ?_
      refine g_irem C dX8_divide_25 ho hf (fun hf => ?_)
      refine g_aaldG 1 (fun j => 48 + j) C dX8_divide_26 (by decide) (L47 hL (by decide) (by decide)) rfl rfl (fun j hj => LG47 hL (by decide) (by decide) hj) ho hf (fun hj4 hf => ?_)
      refine g_astore C dX8_divide_27 (Nat.le_of_ble_eq_true rfl) rfl rfl ?_
      refine g_aload_n C dX8_divide_29 rfl rfl ?_
      refine g_getR (i := 9) (j := 9) C dX8_divide_30 (L37 hL (by decide) (by decide)) c8 rfl (by decide) f34 (fun _ h9 => h9) (LR37_9 hL (by decide) (by decide)) ?_
      refine g_iload_n C dX8_divide_33 rfl rfl ?_
      refine g_aload_n C dX8_divide_34 rfl rfl ?_
      refine g_getR (i := 0) (j := 0) C dX8_divide_35 (L37 hL (by decide) (by decide)) c8 rfl (by decide) f37 (fun _ h9 => h9) (LR37_0 hL (by decide) (by decide)) ?_
      refine g_aload_n C dX8_divide_38 rfl rfl ?_
      refine g_getR (i := 8) (j := 8) C dX8_divide_39 (L37 hL (by decide) (by decide)) c8 rfl (by decide) f31 (fun _ h9 => h9) (LR37_8 hL (by decide) (by decide)) ?_
      refine g_iload_n C dX8_divide_42 rfl rfl ?_
      refine g_iload_n C dX8_divide_43 rfl rfl ?_
      refine g_iadd C dX8_divide_44 ?_
      refine g_iald C dX8_divide_45 (L54 hL (by decide) (by decide)) ho hf (fun hf => ?_)
      refine g_aload C dX8_divide_46 rfl ?_
      refine g_iconst (v := 5) C dX8_divide_48 (by decide) ?_
      refine g_iald C dX8_divide_49 (LH47 hL (by decide) (by decide) hj4) ho hf (fun hf => ?_)
      obtain ⟨z5, hz5, hf⟩ := gbind hf ho
      refine g_callV C dX8_divide_50 (m_X2_times l X N _ _ _  (gLay.sub hL (by decide) (by decide)) _ _ z5.1 z5.2 hz5) gEin0 (cwV 2 C.2.2.2.2.1 gX8_divide_X2_times rfl rfl rfl (by decide +kernel) ⟨Nat.le_of_ble_eq_true rfl, Nat.le_of_ble_eq_true rfl⟩) (L6 hL (by decide) (by decide)) (by decide) rfl rfl rfl (Nat.le_of_ble_eq_true rfl) ⟨Nat.le_of_ble_eq_true rfl, Nat.le_of_ble_eq_true rfl⟩ ?_
      refine g_iast C dX8_divide_53 (L55 hL (by decide) (by decide)) ho hf (fun hf => ?_)
      refine g_aload_n C dX8_divide_54 rfl rfl ?_
      refine g_getR (i := 0) (j := 0) C dX8_divide_55 (L37 hL (by decide) (by decide)) c8 rfl (by decide) f37 (fun _ h9 => h9) (LR37_0 hL (by decide) (by decide)) ?_
      refine g_aload_n C dX8_divide_58 rfl rfl ?_
      refine g_getR (i := 9) (j := 9) C dX8_divide_59 (L37 hL (by decide) (by decide)) c8 rfl (by decide) f34 (fun _ h9 => h9) (LR37_9 hL (by decide) (by decide)) ?_
      refine g_iload_n C dX8_divide_62 rfl rfl ?_
      refine g_iald C dX8_divide_63 (L55 hL (by decide) (by decide)) ho hf (fun hf => ?_)
      obtain ⟨z6, hz6, hf⟩ := gbind hf ho
      refine g_callV C dX8_divide_64 (m_X2_negative l X N _ _ _  (gLay.sub hL (by decide) (by decide)) _ z6.1 z6.2 hz6) gEin0 (cwV 1 C.2.2.2.2.1 gX8_divide_X2_negative rfl rfl rfl (by decide +kernel) ⟨Nat.le_of_ble_eq_true rfl, Nat.le_of_ble_eq_true rfl⟩) (L6 hL (by decide) (by decide)) (by decide) rfl rfl rfl (Nat.le_of_ble_eq_true rfl) ⟨Nat.le_of_ble_eq_true rfl, Nat.le_of_ble_eq_true rfl⟩ ?_
      refine g_istore C dX8_divide_67 (Nat.le_of_ble_eq_true rfl) rfl rfl ?_
      refine g_iconst (v := 0) C dX8_divide_69 (by decide) ?_
      refine g_istore C dX8_divide_70 (Nat.le_of_ble_eq_true rfl) rfl rfl ?_
      refine g_loop (fun z7 => [(0, .ref (X.1 + 37)), (2, .int a1), (3, .int z2.1), (4, .ref (X.1 + (48 + (z2.1 - z2.1 / (z2.2 37 2) * (z2.2 37 2)).toNatClampNeg))), (5, .int z6.1), (6, .int z7.1)]) (fun z7 => z7.2) (fun r8 => [(0, .ref (X.1 + 37)), (2, .int a1), (3, .int z2.1)]) (fun r8 => r8) 116 hf ho (And.intro rfl (And.intro rfl (And.intro rfl (And.intro rfl (And.intro rfl (And.intro rfl trivial)))))) rfl (fun r8 hf => ?_) (fun z7 o1 hf ho hkz7 hez7 => ?_)
      · refine g_iinc (d := -1) C dX8_divide_116 rfl (by decide) rfl (Nat.le_of_ble_eq_true rfl) rfl rfl ?_
        refine g_goto (tgt := 12) C dX8_divide_119 (by decide) ?_
        have hx := hkz2 _ hf.symm
        refine g_sub ?_ hx
        exact (And.intro rfl (And.intro rfl (And.intro rfl trivial)))
      · refine g_iload C dX8_divide_72 rfl ?_
        refine g_iload_n C dX8_divide_74 rfl rfl ?_
        refine g_icmp_gt (tgt := 116) C dX8_divide_75 (by decide) hf (fun hf => ?_) (fun hf => ?_)
        · have hx := hez7 _ hf.symm
          refine g_sub ?_ hx
          exact (And.intro rfl (And.intro rfl (And.intro rfl trivial)))
        · refine g_aload_n C dX8_divide_78 rfl rfl ?_
          refine g_getR (i := 8) (j := 8) C dX8_divide_79 (L37 hL (by decide) (by decide)) c8 rfl (by decide) f31 (fun _ h9 => h9) (LR37_8 hL (by decide) (by decide)) ?_
          refine g_iload_n C dX8_divide_82 rfl rfl ?_
          refine g_iload C dX8_divide_83 rfl ?_
          refine g_iadd C dX8_divide_85 ?_
          refine g_aload_n C dX8_divide_86 rfl rfl ?_
          refine g_getR (i := 0) (j := 0) C dX8_divide_87 (L37 hL (by decide) (by decide)) c8 rfl (by decide) f37 (fun _ h9 => h9) (LR37_0 hL (by decide) (by decide)) ?_
          refine g_aload_n C dX8_divide_90 rfl rfl ?_
          refine g_getR (i := 8) (j := 8) C dX8_divide_91 (L37 hL (by decide) (by decide)) c8 rfl (by decide) f31 (fun _ h9 => h9) (LR37_8 hL (by decide) (by decide)) ?_
          refine g_iload_n C dX8_divide_94 rfl rfl ?_
          refine g_iload C dX8_divide_95 rfl ?_
          refine g_iadd C dX8_divide_97 ?_
          refine g_iald C dX8_divide_98 (L54 hL (by decide) (by decide)) ho hf (fun hf => ?_)
          refine g_iload C dX8_divide_99 rfl ?_
          refine g_aload C dX8_divide_101 rfl ?_
          refine g_iload C dX8_divide_103 rfl ?_
          refine g_iald C dX8_divide_105 (LH47 hL (by decide) (by decide) hj4) ho hf (fun hf => ?_)
          obtain ⟨z9, hz9, hf⟩ := gbind hf ho
          refine g_callV C dX8_divide_106 (m_X2_plusTimes l X N _ _ _  (gLay.sub hL (by decide) (by decide)) _ _ _ z9.1 z9.2 hz9) gEin0 (cwV 3 C.2.2.2.2.1 gX8_divide_X2_plusTimes rfl rfl rfl (by decide +kernel) ⟨Nat.le_of_ble_eq_true rfl, Nat.le_of_ble_eq_true rfl⟩) (L6 hL (by decide) (by decide)) (by decide) rfl rfl rfl (Nat.le_of_ble_eq_true rfl) ⟨Nat.le_of_ble_eq_true rfl, Nat.le_of_ble_eq_true rfl⟩ ?_
          refine g_iast C dX8_divide_109 (L54 hL (by decide) (by decide)) ho hf (fun hf => ?_)
          refine g_iinc (d := 1) C dX8_divide_110 rfl (by decide) rfl (Nat.le_of_ble_eq_true rfl) rfl rfl ?_
          refine g_goto (tgt := 72) C dX8_divide_113 (by decide) ?_
          have hx := hkz7 _ hf.symm
          refine g_sub ?_ hx
          exact (And.intro rfl (And.intro rfl (And.intro rfl (And.intro rfl (And.intro rfl (And.intro rfl trivial))))))
set_option maxRecDepth 100000 in
set_option maxHeartbeats 8000000 in
theorem m_X8_leads (l : Launch) (X : gX) (N : Nat) (I : gI) (R : gR) (S : gS) (hL : gLay 6 56 R S) (a0 : Nat) (a1 : Nat) (a2 : Int32) (v : Int32) (J : gI) (hf : f_X8_leads N I R S a0 a1 a2 = some (v, J)) : gM l yX8_leads wsX8_leads { frames := 5, cells := 0, slots := 0, locals := 119 } X gE0 [.ref (X.1 + 37), .ref (X.1 + a0), .ref (X.1 + a1), .int a2] I R S (some (.int v)) J R S 0 0 := by
  unfold f_X8_leads at hf
  refine gM_of (cc := cX8_leads) (own := RX8) (maxL := 5) (ret := (some .boolean)) (by decide) rfl rfl (Nat.le_of_ble_eq_true rfl) ?_
  intro p e s m args below meth c C hr hlk hnm hE
  have ho : (some (v, J)) ≠ none := fun h => by cases h
  have f144 := C.2.2.2.2.1 (.fieldLink RX8 144 "TimesByPowers$World" "t" "[I") (by decide +kernel)
  have cw : gWc wsX8_leads := ⟨⟨by decide, rfl, rfl, by decide +kernel⟩, ⟨by decide, rfl, rfl, by decide +kernel⟩, ⟨by decide, rfl, rfl, by decide +kernel⟩, ⟨by decide, rfl, rfl, by decide +kernel⟩⟩
  have f126 := C.2.2.2.2.1 (.fieldLink RX8 126 "TimesByPowers$World" "\x72" "I") (by decide +kernel)
  have f31 := C.2.2.2.2.1 (.fieldLink RX8 31 "TimesByPowers$Sums" "remainder" "[I") (by decide +kernel)
  have c8 : gCl wsX8_leads 8 RX8 TX8 10 := ⟨by decide, rfl, rfl, by decide +kernel⟩
  obtain ⟨hwa0, hf⟩ := gcase hf ho
  refine g_aload_n C dX8_leads_0 rfl rfl ?_
  refine g_aload_n C dX8_leads_1 rfl rfl ?_
  refine g_iload_n C dX8_leads_2 rfl rfl ?_
  refine g_aload_n C dX8_leads_3 rfl rfl ?_
  refine g_getWt C dX8_leads_4 hwa0 cw f144 ⟨rfl, rfl, rfl, rfl⟩ ?_
  refine g_aload_n C dX8_leads_7 rfl rfl ?_
  refine g_getWI 1 C dX8_leads_8 hwa0 cw ⟨rfl, rfl, rfl, rfl⟩ f126 ⟨rfl, rfl, rfl, rfl⟩ ?_
  refine g_aload_n C dX8_leads_11 rfl rfl ?_
  refine g_getR (i := 8) (j := 8) C dX8_leads_12 (L37 hL (by decide) (by decide)) c8 rfl (by decide) f31 (fun _ h9 => h9) (LR37_8 hL (by decide) (by decide)) ?_
  obtain ⟨z1, hz1, hf⟩ := gbind hf ho
  refine g_callV C dX8_leads_15 (m_X8_putBehind l X N _ _ _  (gLay.sub hL (by decide) (by decide)) _ _ _ _ _ z1 hz1) gEin0 (cwV 5 C.2.2.2.2.1 gX8_leads_X8_putBehind rfl rfl rfl (by decide +kernel) ⟨Nat.le_of_ble_eq_true rfl, Nat.le_of_ble_eq_true rfl⟩) (L37 hL (by decide) (by decide)) (by decide) rfl rfl rfl (Nat.le_of_ble_eq_true rfl) ⟨Nat.le_of_ble_eq_true rfl, Nat.le_of_ble_eq_true rfl⟩ ?_
  refine g_aload_n C dX8_leads_18 rfl rfl ?_
  refine g_aload_n C dX8_leads_19 rfl rfl ?_
  refine g_iload_n C dX8_leads_20 rfl rfl ?_
  obtain ⟨z2, hz2, hf⟩ := gbind hf ho
  refine g_callV C dX8_leads_21 (m_X8_divideBy l X N _ _ _  (gLay.sub hL (by decide) (by decide)) _ _ z2 hz2) gEin0 (cwV 2 C.2.2.2.2.1 gX8_leads_X8_divideBy rfl rfl rfl (by decide +kernel) ⟨Nat.le_of_ble_eq_true rfl, Nat.le_of_ble_eq_true rfl⟩) (L37 hL (by decide) (by decide)) (by decide) rfl rfl rfl (Nat.le_of_ble_eq_true rfl) ⟨Nat.le_of_ble_eq_true rfl, Nat.le_of_ble_eq_true rfl⟩ ?_
  refine g_aload_n C dX8_leads_24 rfl rfl ?_
  refine g_iload_n C dX8_leads_25 rfl rfl ?_
  refine g_aload_n C dX8_leads_26 rfl rfl ?_
  refine g_getWI 1 C dX8_leads_27 hwa0 cw ⟨rfl, rfl, rfl, rfl⟩ f126 ⟨rfl, rfl, rfl, rfl⟩ ?_
  refine g_iadd C dX8_leads_30 ?_
  refine g_iload_n C dX8_leads_31 rfl rfl ?_
  obtain ⟨z3, hz3, hf⟩ := gbind hf ho
  refine g_callV C dX8_leads_32 (m_X8_divide l X N _ _ _  (gLay.sub hL (by decide) (by decide)) _ _ z3 hz3) gEin0 (cwV 2 C.2.2.2.2.1 gX8_leads_X8_divide rfl rfl rfl (by decide +kernel) ⟨Nat.le_of_ble_eq_true rfl, Nat.le_of_ble_eq_true rfl⟩) (L37 hL (by decide) (by decide)) (by decide) rfl rfl rfl (Nat.le_of_ble_eq_true rfl) ⟨Nat.le_of_ble_eq_true rfl, Nat.le_of_ble_eq_true rfl⟩ ?_
  refine g_iconst (v := 0) C dX8_leads_35 (by decide) ?_
  refine g_istore C dX8_leads_36 (Nat.le_of_ble_eq_true rfl) rfl rfl ?_
  refine g_loopR (fun z4 => [(0, .ref (X.1 + 37)), (3, .int a2), (4, .int z4)]) (fun z4 => z3) (fun r5 => []) (fun r5 => z3) 62 hf ho (And.intro rfl (And.intro rfl (And.intro rfl trivial))) rfl (fun r5 hf => ?_) (fun z4 o1 hf ho hkz4 hez4 hrz4 => ?_)
  · refine g_iconst (v := 1) C dX8_leads_62 (by decide) ?_
    obtain ⟨rfl, rfl⟩ := gs2 hf
    exact g_zret C dX8_leads_63 hr hlk (by decide)
  · refine g_iload C dX8_leads_38 rfl ?_
    refine g_iload_n C dX8_leads_40 rfl rfl ?_
    refine g_icmp_ge (tgt := 62) C dX8_leads_41 (by decide) hf (fun hf => ?_) (fun hf => ?_)
    · have hx := hez4 _ hf.symm
      refine g_sub ?_ hx
      exact trivial
    · refine g_aload_n C dX8_leads_44 rfl rfl ?_
      refine g_getR (i := 8) (j := 8) C dX8_leads_45 (L37 hL (by decide) (by decide)) c8 rfl (by decide) f31 (fun _ h9 => h9) (LR37_8 hL (by decide) (by decide)) ?_
      refine g_iload C dX8_leads_48 rfl ?_
      refine g_iald C dX8_leads_50 (L54 hL (by decide) (by decide)) ho hf (fun hf => ?_)
      refine g_if_eq (tgt := 56) C dX8_leads_51 (by decide) hf (fun hf => ?_) (fun hf => ?_)
      · refine g_iinc (d := 1) C dX8_leads_56 rfl (by decide) rfl (Nat.le_of_ble_eq_true rfl) rfl rfl ?_
        refine g_goto (tgt := 38) C dX8_leads_59 (by decide) ?_
        have hx := hkz4 _ hf.symm
        refine g_sub ?_ hx
        exact (And.intro rfl (And.intro rfl (And.intro rfl trivial)))
      · refine g_iconst (v := 0) C dX8_leads_54 (by decide) ?_
        replace hf := hrz4 _ hf.symm
        dsimp only [Sum.elim_inr] at hf
        obtain ⟨rfl, rfl⟩ := gs2 hf
        exact g_zret C dX8_leads_55 hr hlk (by decide)
set_option maxRecDepth 100000 in
set_option maxHeartbeats 8000000 in
theorem m_X8_divideSumOf (l : Launch) (X : gX) (N : Nat) (I : gI) (R : gR) (S : gS) (hL : gLay 6 56 R S) (a0 : Nat) (a1 : Int32) (a2 : Int32) (J : gI) (hf : f_X8_divideSumOf N I R S a0 a1 a2 = some J) : gM l yX8_divideSumOf wsX8_divideSumOf { frames := 4, cells := 0, slots := 0, locals := 100 } X gE0 [.ref (X.1 + 37), .ref (X.1 + a0), .int a1, .int a2] I R S none J R S 0 0 := by
  unfold f_X8_divideSumOf at hf
  refine gM_of (cc := cX8_divideSumOf) (own := RX8) (maxL := 6) (ret := none) (by decide) rfl rfl (Nat.le_of_ble_eq_true rfl) ?_
  intro p e s m args below meth c C hr hlk hnm hE
  have ho : (some J) ≠ none := fun h => by cases h
  have f37 := C.2.2.2.2.1 (.fieldLink RX8 37 "TimesByPowers$Sums" "elements" "LTimesByPowers$Field;") (by decide +kernel)
  have c8 : gCl wsX8_divideSumOf 8 RX8 TX8 10 := ⟨by decide, rfl, rfl, by decide +kernel⟩
  have f31 := C.2.2.2.2.1 (.fieldLink RX8 31 "TimesByPowers$Sums" "remainder" "[I") (by decide +kernel)
  obtain ⟨hwa0, hf⟩ := gcase hf ho
  refine g_aload_n C dX8_divideSumOf_0 rfl rfl ?_
  refine g_aload_n C dX8_divideSumOf_1 rfl rfl ?_
  refine g_iload_n C dX8_divideSumOf_2 rfl rfl ?_
  obtain ⟨z1, hz1, hf⟩ := gbind hf ho
  refine g_callV C dX8_divideSumOf_3 (m_X8_lengthOf l X N _ _ _  (gLay.sub hL (by decide) (by decide)) _ _ z1 hz1) gEin0 (cwV 2 C.2.2.2.2.1 gX8_divideSumOf_X8_lengthOf rfl rfl rfl (by decide +kernel) ⟨Nat.le_of_ble_eq_true rfl, Nat.le_of_ble_eq_true rfl⟩) (L37 hL (by decide) (by decide)) (by decide) rfl rfl rfl (Nat.le_of_ble_eq_true rfl) ⟨Nat.le_of_ble_eq_true rfl, Nat.le_of_ble_eq_true rfl⟩ ?_
  refine g_istore C dX8_divideSumOf_6 (Nat.le_of_ble_eq_true rfl) rfl rfl ?_
  refine g_aload_n C dX8_divideSumOf_8 rfl rfl ?_
  refine g_aload_n C dX8_divideSumOf_9 rfl rfl ?_
  refine g_aload_n C dX8_divideSumOf_10 rfl rfl ?_
  refine g_getR (i := 0) (j := 0) C dX8_divideSumOf_11 (L37 hL (by decide) (by decide)) c8 rfl (by decide) f37 (fun _ h9 => h9) (LR37_0 hL (by decide) (by decide)) ?_
  refine g_iload_n C dX8_divideSumOf_14 rfl rfl ?_
  obtain ⟨z2, hz2, hf⟩ := gbind hf ho
  refine g_callV C dX8_divideSumOf_15 (m_X2_degreeOf l X N _ _ _  (gLay.sub hL (by decide) (by decide)) _ z2 hz2) gEin0 (cwV 1 C.2.2.2.2.1 gX8_divideSumOf_X2_degreeOf rfl rfl rfl (by decide +kernel) ⟨Nat.le_of_ble_eq_true rfl, Nat.le_of_ble_eq_true rfl⟩) (L6 hL (by decide) (by decide)) (by decide) rfl rfl rfl (Nat.le_of_ble_eq_true rfl) ⟨Nat.le_of_ble_eq_true rfl, Nat.le_of_ble_eq_true rfl⟩ ?_
  obtain ⟨z3, hz3, hf⟩ := gbind hf ho
  refine g_callV C dX8_divideSumOf_18 (m_X8_raisePowers l X N _ _ _  (gLay.sub hL (by decide) (by decide)) _ _ z3 hz3) gEin0 (cwV 2 C.2.2.2.2.1 gX8_divideSumOf_X8_raisePowers rfl rfl rfl (by decide +kernel) ⟨Nat.le_of_ble_eq_true rfl, Nat.le_of_ble_eq_true rfl⟩) (L37 hL (by decide) (by decide)) (by decide) rfl rfl rfl (Nat.le_of_ble_eq_true rfl) ⟨Nat.le_of_ble_eq_true rfl, Nat.le_of_ble_eq_true rfl⟩ ?_
  refine g_aload_n C dX8_divideSumOf_21 rfl rfl ?_
  refine g_getR (i := 8) (j := 8) C dX8_divideSumOf_22 (L37 hL (by decide) (by decide)) c8 rfl (by decide) f31 (fun _ h9 => h9) (LR37_8 hL (by decide) (by decide)) ?_
  refine g_iconst (v := 0) C dX8_divideSumOf_25 (by decide) ?_
  obtain ⟨z4, hz4, hf⟩ := gbind hf ho
  refine g_callS C dX8_divideSumOf_26 (m_J7_fill_53178 l X N _ _ _   _ _ z4 hz4) gEin0 (va_cwS 2 C.2.2.2.2.1 gX8_divideSumOf_J7_fill_53178 rfl rfl rfl (by decide +kernel) ⟨Nat.le_of_ble_eq_true rfl, Nat.le_of_ble_eq_true rfl⟩) rfl rfl (Nat.le_of_ble_eq_true rfl) ⟨Nat.le_of_ble_eq_true rfl, Nat.le_of_ble_eq_true rfl⟩ ?_
  refine g_iconst (v := 0) C dX8_divideSumOf_29 (by decide) ?_
  refine g_istore C dX8_divideSumOf_30 (Nat.le_of_ble_eq_true rfl) rfl rfl ?_
  refine g_loop (fun z5 => [(0, .ref (X.1 + 37)), (2, .int a1), (3, .int a2), (4, .int z1), (5, .int z5.1)]) (fun z5 => z5.2) (fun r6 => [(0, .ref (X.1 + 37)), (3, .int a2), (4, .int z1)]) (fun r6 => r6) 59 hf ho (And.intro rfl (And.intro rfl (And.intro rfl (And.intro rfl (And.intro rfl trivial))))) rfl (fun r6 hf => ?_) (fun z5 o1 hf ho hkz5 hez5 => ?_)
  · refine g_aload_n C dX8_divideSumOf_59 rfl rfl ?_
    refine g_iload C dX8_divideSumOf_60 rfl ?_
    refine g_iload_n C dX8_divideSumOf_62 rfl rfl ?_
    obtain ⟨z8, hz8, hf⟩ := gbind hf ho
    refine g_callV C dX8_divideSumOf_63 (m_X8_divide l X N _ _ _  (gLay.sub hL (by decide) (by decide)) _ _ z8 hz8) gEin0 (cwV 2 C.2.2.2.2.1 gX8_divideSumOf_X8_divide rfl rfl rfl (by decide +kernel) ⟨Nat.le_of_ble_eq_true rfl, Nat.le_of_ble_eq_true rfl⟩) (L37 hL (by decide) (by decide)) (by decide) rfl rfl rfl (Nat.le_of_ble_eq_true rfl) ⟨Nat.le_of_ble_eq_true rfl, Nat.le_of_ble_eq_true rfl⟩ ?_
    obtain rfl := gs1 hf
    exact g_vret C dX8_divideSumOf_66 hr hlk
  · refine g_iload C dX8_divideSumOf_32 rfl ?_
    refine g_iload C dX8_divideSumOf_34 rfl ?_
    refine g_icmp_gt (tgt := 59) C dX8_divideSumOf_36 (by decide) hf (fun hf => ?_) (fun hf => ?_)
    · have hx := hez5 _ hf.symm
      refine g_sub ?_ hx
      exact (And.intro rfl (And.intro rfl (And.intro rfl trivial)))
    · refine g_aload_n C dX8_divideSumOf_39 rfl rfl ?_
      refine g_getR (i := 8) (j := 8) C dX8_divideSumOf_40 (L37 hL (by decide) (by decide)) c8 rfl (by decide) f31 (fun _ h9 => h9) (LR37_8 hL (by decide) (by decide)) ?_
      refine g_iload C dX8_divideSumOf_43 rfl ?_
      refine g_aload_n C dX8_divideSumOf_45 rfl rfl ?_
      refine g_iload_n C dX8_divideSumOf_46 rfl rfl ?_
      refine g_iload C dX8_divideSumOf_47 rfl ?_
      obtain ⟨z7, hz7, hf⟩ := gbind hf ho
      refine g_callV C dX8_divideSumOf_49 (m_X8_mixed l X N _ _ _  (gLay.sub hL (by decide) (by decide)) _ _ z7.1 z7.2 hz7) gEin0 (cwV 2 C.2.2.2.2.1 gX8_divideSumOf_X8_mixed rfl rfl rfl (by decide +kernel) ⟨Nat.le_of_ble_eq_true rfl, Nat.le_of_ble_eq_true rfl⟩) (L37 hL (by decide) (by decide)) (by decide) rfl rfl rfl (Nat.le_of_ble_eq_true rfl) ⟨Nat.le_of_ble_eq_true rfl, Nat.le_of_ble_eq_true rfl⟩ ?_
      refine g_iast C dX8_divideSumOf_52 (L54 hL (by decide) (by decide)) ho hf (fun hf => ?_)
      refine g_iinc (d := 1) C dX8_divideSumOf_53 rfl (by decide) rfl (Nat.le_of_ble_eq_true rfl) rfl rfl ?_
      refine g_goto (tgt := 32) C dX8_divideSumOf_56 (by decide) ?_
      have hx := hkz5 _ hf.symm
      refine g_sub ?_ hx
      exact (And.intro rfl (And.intro rfl (And.intro rfl (And.intro rfl (And.intro rfl trivial)))))
set_option maxRecDepth 100000 in
set_option maxHeartbeats 8000000 in
theorem m_X8_wayBack (l : Launch) (X : gX) (N : Nat) (I : gI) (R : gR) (S : gS) (hL : gLay 6 56 R S) (a0 : Nat) (a1 : Nat) (a2 : Int32) (v : Int32) (J : gI) (hf : f_X8_wayBack N I R S a0 a1 a2 = some (v, J)) : gM l yX8_wayBack wsX8_wayBack { frames := 5, cells := 0, slots := 0, locals := 125 } X gE0 [.ref (X.1 + 37), .ref (X.1 + a0), .ref (X.1 + a1), .int a2] I R S (some (.int v)) J R S 0 0 := by
  unfold f_X8_wayBack at hf
  refine gM_of (cc := cX8_wayBack) (own := RX8) (maxL := 7) (ret := (some .int)) (by decide) rfl rfl (Nat.le_of_ble_eq_true rfl) ?_
  intro p e s m args below meth c C hr hlk hnm hE
  have ho : (some (v, J)) ≠ none := fun h => by cases h
  have f41 := C.2.2.2.2.1 (.fieldLink RX8 41 "TimesByPowers$Sums" "span" "LTimesByPowers$Span;") (by decide +kernel)
  have c8 : gCl wsX8_wayBack 8 RX8 TX8 10 := ⟨by decide, rfl, rfl, by decide +kernel⟩
  have f50 := C.2.2.2.2.1 (.fieldLink RX8 50 "TimesByPowers$Sums" "n" "I") (by decide +kernel)
  have f37 := C.2.2.2.2.1 (.fieldLink RX8 37 "TimesByPowers$Sums" "elements" "LTimesByPowers$Field;") (by decide +kernel)
  have f173 := C.2.2.2.2.1 (.fieldLink RX8 173 "TimesByPowers$Field" "place" "[I") (by decide +kernel)
  have c2 : gCl wsX8_wayBack 2 RX2 TX2 8 := ⟨by decide, rfl, rfl, by decide +kernel⟩
  have f31 := C.2.2.2.2.1 (.fieldLink RX8 31 "TimesByPowers$Sums" "remainder" "[I") (by decide +kernel)
  obtain ⟨hwa0, hf⟩ := gcase hf ho
  refine g_aload_n C dX8_wayBack_0 rfl rfl ?_
  refine g_aload_n C dX8_wayBack_1 rfl rfl ?_
  refine g_iload_n C dX8_wayBack_2 rfl rfl ?_
  obtain ⟨z1, hz1, hf⟩ := gbind hf ho
  refine g_callV C dX8_wayBack_3 (m_X8_divideBy l X N _ _ _  (gLay.sub hL (by decide) (by decide)) _ _ z1 hz1) gEin0 (cwV 2 C.2.2.2.2.1 gX8_wayBack_X8_divideBy rfl rfl rfl (by decide +kernel) ⟨Nat.le_of_ble_eq_true rfl, Nat.le_of_ble_eq_true rfl⟩) (L37 hL (by decide) (by decide)) (by decide) rfl rfl rfl (Nat.le_of_ble_eq_true rfl) ⟨Nat.le_of_ble_eq_true rfl, Nat.le_of_ble_eq_true rfl⟩ ?_
  refine g_aload_n C dX8_wayBack_6 rfl rfl ?_
  refine g_getR (i := 1) (j := 1) C dX8_wayBack_7 (L37 hL (by decide) (by decide)) c8 rfl (by decide) f41 (fun _ h9 => h9) (LR37_1 hL (by decide) (by decide)) ?_
  refine g_iload_n C dX8_wayBack_10 rfl rfl ?_
  refine g_aload_n C dX8_wayBack_11 rfl rfl ?_
  refine g_getI (i := 2) (j := 2) C dX8_wayBack_12 (L37 hL (by decide) (by decide)) c8 rfl f50 (fun _ h9 => h9) ?_
  refine g_imul C dX8_wayBack_15 ?_
  obtain ⟨z2, hz2, hf⟩ := gbind hf ho
  refine g_callV C dX8_wayBack_16 (m_X6_begin l X N _ _ _  (gLay.sub hL (by decide) (by decide)) _ z2 hz2) gEin0 (cwV 1 C.2.2.2.2.1 gX8_wayBack_X6_begin rfl rfl rfl (by decide +kernel) ⟨Nat.le_of_ble_eq_true rfl, Nat.le_of_ble_eq_true rfl⟩) (L17 hL (by decide) (by decide)) (by decide) rfl rfl rfl (Nat.le_of_ble_eq_true rfl) ⟨Nat.le_of_ble_eq_true rfl, Nat.le_of_ble_eq_true rfl⟩ ?_
  refine g_iconst (v := 0) C dX8_wayBack_19 (by decide) ?_
  refine g_istore C dX8_wayBack_20 (Nat.le_of_ble_eq_true rfl) rfl rfl ?_
  refine g_iconst (v := 0) C dX8_wayBack_22 (by decide) ?_
  refine g_istore C dX8_wayBack_23 (Nat.le_of_ble_eq_true rfl) rfl rfl ?_
  refine g_loop (fun z3 => [(0, .ref (X.1 + 37)), (1, .ref (X.1 + a0)), (3, .int a2), (4, .int z3.1), (5, .int z3.2.1)]) (fun z3 => z3.2.2) (fun r4 => [(0, .ref (X.1 + 37)), (1, .ref (X.1 + a0)), (3, .int a2), (4, .int r4.1)]) (fun r4 => r4.2) 103 hf ho (And.intro rfl (And.intro rfl (And.intro rfl (And.intro rfl (And.intro rfl trivial))))) rfl (fun r4 hf => ?_) (fun z3 o1 hf ho hkz3 hez3 => ?_)
  · refine g_iload C dX8_wayBack_103 rfl ?_
    refine g_if_eq (tgt := 116) C dX8_wayBack_105 (by decide) hf (fun hf => ?_) (fun hf => ?_)
    · refine g_iload C dX8_wayBack_116 rfl ?_
      obtain ⟨rfl, rfl⟩ := gs2 hf
      exact g_iret C dX8_wayBack_118 hr hlk
    · refine g_aload_n C dX8_wayBack_108 rfl rfl ?_
      refine g_aload_n C dX8_wayBack_109 rfl rfl ?_
      refine g_iload C dX8_wayBack_110 rfl ?_
      refine g_iload_n C dX8_wayBack_112 rfl rfl ?_
      obtain ⟨z10, hz10, hf⟩ := gbind hf ho
      refine g_callV C dX8_wayBack_113 (m_X8_divideSumOf l X N _ _ _  (gLay.sub hL (by decide) (by decide)) _ _ _ z10 hz10) gEin0 (cwV 3 C.2.2.2.2.1 gX8_wayBack_X8_divideSumOf rfl rfl rfl (by decide +kernel) ⟨Nat.le_of_ble_eq_true rfl, Nat.le_of_ble_eq_true rfl⟩) (L37 hL (by decide) (by decide)) (by decide) rfl rfl rfl (Nat.le_of_ble_eq_true rfl) ⟨Nat.le_of_ble_eq_true rfl, Nat.le_of_ble_eq_true rfl⟩ ?_
      refine g_iload C dX8_wayBack_116 rfl ?_
      obtain ⟨rfl, rfl⟩ := gs2 hf
      exact g_iret C dX8_wayBack_118 hr hlk
  · refine g_iload C dX8_wayBack_25 rfl ?_
    refine g_iconst (v := 4) C dX8_wayBack_27 (by decide) ?_
    refine g_icmp_gt (tgt := 103) C dX8_wayBack_28 (by decide) hf (fun hf => ?_) (fun hf => ?_)
    · have hx := hez3 _ hf.symm
      refine g_sub ?_ hx
      exact (And.intro rfl (And.intro rfl (And.intro rfl (And.intro rfl trivial))))
    · refine g_iload C dX8_wayBack_31 rfl ?_
      refine g_if_ne (tgt := 103) C dX8_wayBack_33 (by decide) hf (fun hf => ?_) (fun hf => ?_)
      · have hx := hez3 _ hf.symm
        refine g_sub ?_ hx
        exact (And.intro rfl (And.intro rfl (And.intro rfl (And.intro rfl trivial))))
      · refine g_aload_n C dX8_wayBack_36 rfl rfl ?_
        refine g_aload_n C dX8_wayBack_37 rfl rfl ?_
        refine g_aload_n C dX8_wayBack_38 rfl rfl ?_
        refine g_getR (i := 0) (j := 0) C dX8_wayBack_39 (L37 hL (by decide) (by decide)) c8 rfl (by decide) f37 (fun _ h9 => h9) (LR37_0 hL (by decide) (by decide)) ?_
        refine g_getR (i := 4) (j := 4) C dX8_wayBack_42 (L6 hL (by decide) (by decide)) c2 rfl (by decide) f173 (fun _ h9 => h9) (LR6_4 hL (by decide) (by decide)) ?_
        refine g_iload C dX8_wayBack_45 rfl ?_
        refine g_iald C dX8_wayBack_47 (L7 hL (by decide) (by decide)) ho hf (fun hf => ?_)
        refine g_iload_n C dX8_wayBack_48 rfl rfl ?_
        obtain ⟨z5, hz5, hf⟩ := gbind hf ho
        refine g_callV C dX8_wayBack_49 (m_X8_divideSumOf l X N _ _ _  (gLay.sub hL (by decide) (by decide)) _ _ _ z5 hz5) gEin0 (cwV 3 C.2.2.2.2.1 gX8_wayBack_X8_divideSumOf rfl rfl rfl (by decide +kernel) ⟨Nat.le_of_ble_eq_true rfl, Nat.le_of_ble_eq_true rfl⟩) (L37 hL (by decide) (by decide)) (by decide) rfl rfl rfl (Nat.le_of_ble_eq_true rfl) ⟨Nat.le_of_ble_eq_true rfl, Nat.le_of_ble_eq_true rfl⟩ ?_
        refine g_iconst (v := 0) C dX8_wayBack_52 (by decide) ?_
        refine g_istore C dX8_wayBack_53 (Nat.le_of_ble_eq_true rfl) rfl rfl ?_
        refine g_loop (fun z6 => [(0, .ref (X.1 + 37)), (1, .ref (X.1 + a0)), (3, .int a2), (5, .int z3.2.1), (6, .int z6.1)]) (fun z6 => z6.2) (fun r7 => [(0, .ref (X.1 + 37)), (1, .ref (X.1 + a0)), (3, .int a2), (5, .int z3.2.1)]) (fun r7 => r7) 88 hf ho (And.intro rfl (And.intro rfl (And.intro rfl (And.intro rfl (And.intro rfl trivial))))) rfl (fun r7 hf => ?_) (fun z6 o1 hf ho hkz6 hez6 => ?_)
        · refine g_aload_n C dX8_wayBack_88 rfl rfl ?_
          refine g_getR (i := 1) (j := 1) C dX8_wayBack_89 (L37 hL (by decide) (by decide)) c8 rfl (by decide) f41 (fun _ h9 => h9) (LR37_1 hL (by decide) (by decide)) ?_
          obtain ⟨z9, hz9, hf⟩ := gbind hf ho
          refine g_callV C dX8_wayBack_92 (m_X6_feed l X N _ _ _  (gLay.sub hL (by decide) (by decide))  z9.1 z9.2 hz9) gEin0 (cwV 0 C.2.2.2.2.1 gX8_wayBack_X6_feed rfl rfl rfl (by decide +kernel) ⟨Nat.le_of_ble_eq_true rfl, Nat.le_of_ble_eq_true rfl⟩) (L17 hL (by decide) (by decide)) (by decide) rfl rfl rfl (Nat.le_of_ble_eq_true rfl) ⟨Nat.le_of_ble_eq_true rfl, Nat.le_of_ble_eq_true rfl⟩ ?_
          refine g_istore C dX8_wayBack_95 (Nat.le_of_ble_eq_true rfl) rfl rfl ?_
          refine g_iinc (d := 1) C dX8_wayBack_97 rfl (by decide) rfl (Nat.le_of_ble_eq_true rfl) rfl rfl ?_
          refine g_goto (tgt := 25) C dX8_wayBack_100 (by decide) ?_
          have hx := hkz3 _ hf.symm
          refine g_sub ?_ hx
          exact (And.intro rfl (And.intro rfl (And.intro rfl (And.intro rfl (And.intro rfl trivial)))))
        · refine g_iload C dX8_wayBack_55 rfl ?_
          refine g_iload_n C dX8_wayBack_57 rfl rfl ?_
          refine g_icmp_ge (tgt := 88) C dX8_wayBack_58 (by decide) hf (fun hf => ?_) (fun hf => ?_)
          · have hx := hez6 _ hf.symm
            refine g_sub ?_ hx
            exact (And.intro rfl (And.intro rfl (And.intro rfl (And.intro rfl trivial))))
          · refine g_aload_n C dX8_wayBack_61 rfl rfl ?_
            refine g_getR (i := 1) (j := 1) C dX8_wayBack_62 (L37 hL (by decide) (by decide)) c8 rfl (by decide) f41 (fun _ h9 => h9) (LR37_1 hL (by decide) (by decide)) ?_
            refine g_iload C dX8_wayBack_65 rfl ?_
            refine g_aload_n C dX8_wayBack_67 rfl rfl ?_
            refine g_getI (i := 2) (j := 2) C dX8_wayBack_68 (L37 hL (by decide) (by decide)) c8 rfl f50 (fun _ h9 => h9) ?_
            refine g_imul C dX8_wayBack_71 ?_
            refine g_aload_n C dX8_wayBack_72 rfl rfl ?_
            refine g_getR (i := 8) (j := 8) C dX8_wayBack_73 (L37 hL (by decide) (by decide)) c8 rfl (by decide) f31 (fun _ h9 => h9) (LR37_8 hL (by decide) (by decide)) ?_
            refine g_iload C dX8_wayBack_76 rfl ?_
            refine g_iald C dX8_wayBack_78 (L54 hL (by decide) (by decide)) ho hf (fun hf => ?_)
            obtain ⟨z8, hz8, hf⟩ := gbind hf ho
            refine g_callV C dX8_wayBack_79 (m_X6_putElement l X N _ _ _  (gLay.sub hL (by decide) (by decide)) _ _ z8 hz8) gEin0 (cwV 2 C.2.2.2.2.1 gX8_wayBack_X6_putElement rfl rfl rfl (by decide +kernel) ⟨Nat.le_of_ble_eq_true rfl, Nat.le_of_ble_eq_true rfl⟩) (L17 hL (by decide) (by decide)) (by decide) rfl rfl rfl (Nat.le_of_ble_eq_true rfl) ⟨Nat.le_of_ble_eq_true rfl, Nat.le_of_ble_eq_true rfl⟩ ?_
            refine g_iinc (d := 1) C dX8_wayBack_82 rfl (by decide) rfl (Nat.le_of_ble_eq_true rfl) rfl rfl ?_
            refine g_goto (tgt := 55) C dX8_wayBack_85 (by decide) ?_
            have hx := hkz6 _ hf.symm
            refine g_sub ?_ hx
            exact (And.intro rfl (And.intro rfl (And.intro rfl (And.intro rfl (And.intro rfl trivial)))))
set_option maxRecDepth 100000 in
set_option maxHeartbeats 8000000 in
theorem m_X8_turned (l : Launch) (X : gX) (N : Nat) (I : gI) (R : gR) (S : gS) (hL : gLay 6 56 R S) (a0 : Nat) (a1 : Int32) (v : Nat) (J : gI) (P : gR) (T : gS) (hf : f_X8_turned N I R S a0 a1 = some (v, J, P, T)) : gM l yX8_turned wsX8_turned { frames := 4, cells := 1, slots := 4, locals := 95 } X gE0 [.ref (X.1 + 37), .ref (X.1 + a0), .int a1] I R S (some (.ref (X.1 + v))) J P T 1 4 := by
  unfold f_X8_turned at hf
  refine gM_of (cc := cX8_turned) (own := RX8) (maxL := 7) (ret := (some (.array .int))) (by decide) rfl rfl (Nat.le_of_ble_eq_true rfl) ?_
  intro p e s m args below meth c C hr hlk hnm hE
  have ho : (some (v, J, P, T)) ≠ none := fun h => by cases h
  have ai := C.2.2.2.2.1 (.arrayClass .int) (by decide +kernel)
  have f37 := C.2.2.2.2.1 (.fieldLink RX8 37 "TimesByPowers$Sums" "elements" "LTimesByPowers$Field;") (by decide +kernel)
  have c8 : gCl wsX8_turned 8 RX8 TX8 10 := ⟨by decide, rfl, rfl, by decide +kernel⟩
  have f126 := C.2.2.2.2.1 (.fieldLink RX8 126 "TimesByPowers$World" "\x72" "I") (by decide +kernel)
  have cw : gWc wsX8_turned := ⟨⟨by decide, rfl, rfl, by decide +kernel⟩, ⟨by decide, rfl, rfl, by decide +kernel⟩, ⟨by decide, rfl, rfl, by decide +kernel⟩, ⟨by decide, rfl, rfl, by decide +kernel⟩⟩
  have f144 := C.2.2.2.2.1 (.fieldLink RX8 144 "TimesByPowers$World" "t" "[I") (by decide +kernel)
  obtain ⟨hwa0, hf⟩ := gcase hf ho
  refine g_iconst (v := 4) C dX8_turned_0 (by decide) ?_
  refine g_newa (q := S.length) (N' := 4) C dX8_turned_1 ai (by decide) (by decide) (by decide) ⟨Nat.le_of_ble_eq_true rfl, Nat.le_of_ble_eq_true rfl⟩ rfl ?_
  have hL := gLay.app hL (T := [(12, 4)]) (by decide)
  refine g_astore_n C dX8_turned_3 rfl (Nat.le_of_ble_eq_true rfl) rfl rfl ?_
  refine g_aload_n C dX8_turned_4 rfl rfl ?_
  refine g_getR (i := 0) (j := 0) C dX8_turned_5 (L37 hL (by decide) (by decide)) c8 rfl (by decide) f37 (fun _ h9 => h9) (LR37_0 hL (by decide) (by decide)) ?_
  refine g_iload_n C dX8_turned_8 rfl rfl ?_
  obtain ⟨z1, hz1, hf⟩ := gbind hf ho
  refine g_callV C dX8_turned_9 (m_X2_inverse l X N _ _ _  (gLay.sub hL (by decide) (by decide)) _ z1.1 z1.2 hz1) gEin0 (cwV 1 C.2.2.2.2.1 gX8_turned_X2_inverse rfl rfl rfl (by decide +kernel) ⟨Nat.le_of_ble_eq_true rfl, Nat.le_of_ble_eq_true rfl⟩) (L6 hL (by decide) (by decide)) (by decide) rfl rfl rfl (Nat.le_of_ble_eq_true rfl) ⟨Nat.le_of_ble_eq_true rfl, Nat.le_of_ble_eq_true rfl⟩ ?_
  refine g_istore C dX8_turned_12 (Nat.le_of_ble_eq_true rfl) rfl rfl ?_
  refine g_iload_n C dX8_turned_14 rfl rfl ?_
  refine g_istore C dX8_turned_15 (Nat.le_of_ble_eq_true rfl) rfl rfl ?_
  refine g_iconst (v := 0) C dX8_turned_17 (by decide) ?_
  refine g_istore C dX8_turned_18 (Nat.le_of_ble_eq_true rfl) rfl rfl ?_
  refine g_loop (fun z2 => [(0, .ref (X.1 + 37)), (1, .ref (X.1 + a0)), (3, .ref (X.1 + S.length)), (4, .int z1.1), (5, .int z2.1), (6, .int z2.2.1)]) (fun z2 => z2.2.2) (fun r3 => [(3, .ref (X.1 + S.length))]) (fun r3 => r3) 75 hf ho (And.intro rfl (And.intro rfl (And.intro rfl (And.intro rfl (And.intro rfl (And.intro rfl trivial)))))) rfl (fun r3 hf => ?_) (fun z2 o1 hf ho hkz2 hez2 => ?_)
  · refine g_aload_n C dX8_turned_75 rfl rfl ?_
    obtain ⟨rfl, rfl, rfl, rfl⟩ := gs4 hf
    refine g_widen (k := 1) (n := 4) (Nat.le_of_ble_eq_true rfl) (Nat.le_of_ble_eq_true rfl) ?_
    exact g_aret C dX8_turned_76 hr (by first | exact Or.inl ⟨_, rfl⟩ | exact Or.inr ⟨_, rfl⟩) hlk
  · refine g_iload C dX8_turned_20 rfl ?_
    refine g_aload_n C dX8_turned_22 rfl rfl ?_
    obtain ⟨hw4, hf⟩ := gcase hf ho
    refine g_getWI 1 C dX8_turned_23 hw4 cw ⟨rfl, rfl, rfl, rfl⟩ f126 ⟨rfl, rfl, rfl, rfl⟩ ?_
    refine g_icmp_gt (tgt := 75) C dX8_turned_26 (by decide) hf (fun hf => ?_) (fun hf => ?_)
    · have hx := hez2 _ hf.symm
      refine g_sub ?_ hx
      exact (And.intro rfl trivial)
    · refine g_aload_n C dX8_turned_29 rfl rfl ?_
      refine g_iload C dX8_turned_30 rfl ?_
      refine g_aload_n C dX8_turned_32 rfl rfl ?_
      refine g_getR (i := 0) (j := 0) C dX8_turned_33 (L37 hL (by decide) (by decide)) c8 rfl (by decide) f37 (fun _ h9 => h9) (LR37_0 hL (by decide) (by decide)) ?_
      refine g_aload_n C dX8_turned_36 rfl rfl ?_
      refine g_getWt C dX8_turned_37 hw4 cw f144 ⟨rfl, rfl, rfl, rfl⟩ ?_
      refine g_iload C dX8_turned_40 rfl ?_
      refine g_iald C dX8_turned_42 (gWb_t hw4).2 ho hf (fun hf => ?_)
      refine g_aload_n C dX8_turned_43 rfl rfl ?_
      refine g_getR (i := 0) (j := 0) C dX8_turned_44 (L37 hL (by decide) (by decide)) c8 rfl (by decide) f37 (fun _ h9 => h9) (LR37_0 hL (by decide) (by decide)) ?_
      refine g_iload C dX8_turned_47 rfl ?_
      refine g_iload C dX8_turned_49 rfl ?_
      obtain ⟨z5, hz5, hf⟩ := gbind hf ho
      refine g_callV C dX8_turned_51 (m_X2_times l X N _ _ _  (gLay.sub hL (by decide) (by decide)) _ _ z5.1 z5.2 hz5) gEin0 (cwV 2 C.2.2.2.2.1 gX8_turned_X2_times rfl rfl rfl (by decide +kernel) ⟨Nat.le_of_ble_eq_true rfl, Nat.le_of_ble_eq_true rfl⟩) (L6 hL (by decide) (by decide)) (by decide) rfl rfl rfl (Nat.le_of_ble_eq_true rfl) ⟨Nat.le_of_ble_eq_true rfl, Nat.le_of_ble_eq_true rfl⟩ ?_
      obtain ⟨z6, hz6, hf⟩ := gbind hf ho
      refine g_callV C dX8_turned_54 (m_X2_times l X N _ _ _  (gLay.sub hL (by decide) (by decide)) _ _ z6.1 z6.2 hz6) gEin0 (cwV 2 C.2.2.2.2.1 gX8_turned_X2_times rfl rfl rfl (by decide +kernel) ⟨Nat.le_of_ble_eq_true rfl, Nat.le_of_ble_eq_true rfl⟩) (L6 hL (by decide) (by decide)) (by decide) rfl rfl rfl (Nat.le_of_ble_eq_true rfl) ⟨Nat.le_of_ble_eq_true rfl, Nat.le_of_ble_eq_true rfl⟩ ?_
      refine g_iastD C dX8_turned_57 ho hf (fun hf => ?_)
      refine g_aload_n C dX8_turned_58 rfl rfl ?_
      refine g_getR (i := 0) (j := 0) C dX8_turned_59 (L37 hL (by decide) (by decide)) c8 rfl (by decide) f37 (fun _ h9 => h9) (LR37_0 hL (by decide) (by decide)) ?_
      refine g_iload C dX8_turned_62 rfl ?_
      obtain ⟨z7, hz7, hf⟩ := gbind hf ho
      refine g_callV C dX8_turned_64 (m_X2_raised l X N _ _ _  (gLay.sub hL (by decide) (by decide)) _ z7.1 z7.2 hz7) gEin0 (cwV 1 C.2.2.2.2.1 gX8_turned_X2_raised rfl rfl rfl (by decide +kernel) ⟨Nat.le_of_ble_eq_true rfl, Nat.le_of_ble_eq_true rfl⟩) (L6 hL (by decide) (by decide)) (by decide) rfl rfl rfl (Nat.le_of_ble_eq_true rfl) ⟨Nat.le_of_ble_eq_true rfl, Nat.le_of_ble_eq_true rfl⟩ ?_
      refine g_istore C dX8_turned_67 (Nat.le_of_ble_eq_true rfl) rfl rfl ?_
      refine g_iinc (d := 1) C dX8_turned_69 rfl (by decide) rfl (Nat.le_of_ble_eq_true rfl) rfl rfl ?_
      refine g_goto (tgt := 20) C dX8_turned_72 (by decide) ?_
      have hx := hkz2 _ hf.symm
      refine g_sub ?_ hx
      exact (And.intro rfl (And.intro rfl (And.intro rfl (And.intro rfl (And.intro rfl (And.intro rfl trivial))))))
set_option maxRecDepth 100000 in
set_option maxHeartbeats 8000000 in
theorem m_X8_putTurning (l : Launch) (X : gX) (N : Nat) (I : gI) (R : gR) (S : gS) (hL : gLay 6 56 R S) (a0 : Nat) (a1 : Nat) (a2 : Int32) (J : gI) (hf : f_X8_putTurning N I R S a0 a1 a2 = some J) : gM l yX8_putTurning wsX8_putTurning { frames := 2, cells := 0, slots := 0, locals := 50 } X gE0 [.ref (X.1 + 37), .ref (X.1 + a0), .ref (X.1 + a1), .int a2] I R S none J R S 0 0 := by
  unfold f_X8_putTurning at hf
  refine gM_of (cc := cX8_putTurning) (own := RX8) (maxL := 7) (ret := none) (by decide) rfl rfl (Nat.le_of_ble_eq_true rfl) ?_
  intro p e s m args below meth c C hr hlk hnm hE
  have ho : (some J) ≠ none := fun h => by cases h
  have f126 := C.2.2.2.2.1 (.fieldLink RX8 126 "TimesByPowers$World" "\x72" "I") (by decide +kernel)
  have cw : gWc wsX8_putTurning := ⟨⟨by decide, rfl, rfl, by decide +kernel⟩, ⟨by decide, rfl, rfl, by decide +kernel⟩, ⟨by decide, rfl, rfl, by decide +kernel⟩, ⟨by decide, rfl, rfl, by decide +kernel⟩⟩
  have f37 := C.2.2.2.2.1 (.fieldLink RX8 37 "TimesByPowers$Sums" "elements" "LTimesByPowers$Field;") (by decide +kernel)
  have c8 : gCl wsX8_putTurning 8 RX8 TX8 10 := ⟨by decide, rfl, rfl, by decide +kernel⟩
  have f144 := C.2.2.2.2.1 (.fieldLink RX8 144 "TimesByPowers$World" "t" "[I") (by decide +kernel)
  have f41 := C.2.2.2.2.1 (.fieldLink RX8 41 "TimesByPowers$Sums" "span" "LTimesByPowers$Span;") (by decide +kernel)
  have f50 := C.2.2.2.2.1 (.fieldLink RX8 50 "TimesByPowers$Sums" "n" "I") (by decide +kernel)
  obtain ⟨hwa0, hf⟩ := gcase hf ho
  obtain ⟨hwa1, hf⟩ := gcase hf ho
  refine g_iload_n C dX8_putTurning_0 rfl rfl ?_
  refine g_istore C dX8_putTurning_1 (Nat.le_of_ble_eq_true rfl) rfl rfl ?_
  refine g_iconst (v := 0) C dX8_putTurning_3 (by decide) ?_
  refine g_istore C dX8_putTurning_4 (Nat.le_of_ble_eq_true rfl) rfl rfl ?_
  refine g_loop (fun z1 => [(0, .ref (X.1 + 37)), (1, .ref (X.1 + a0)), (2, .ref (X.1 + a1)), (3, .int a2), (4, .int z1.1), (5, .int z1.2.1)]) (fun z1 => z1.2.2) (fun r2 => []) (fun r2 => r2) 88 hf ho (And.intro rfl (And.intro rfl (And.intro rfl (And.intro rfl (And.intro rfl (And.intro rfl trivial)))))) rfl (fun r2 hf => ?_) (fun z1 o1 hf ho hkz1 hez1 => ?_)
  · obtain rfl := gs1 hf
    exact g_vret C dX8_putTurning_88 hr hlk
  · refine g_iload C dX8_putTurning_6 rfl ?_
    refine g_aload_n C dX8_putTurning_8 rfl rfl ?_
    refine g_getWI 1 C dX8_putTurning_9 hwa0 cw ⟨rfl, rfl, rfl, rfl⟩ f126 ⟨rfl, rfl, rfl, rfl⟩ ?_
    refine g_icmp_gt (tgt := 88) C dX8_putTurning_12 (by decide) hf (fun hf => ?_) (fun hf => ?_)
    · have hx := hez1 _ hf.symm
      refine g_sub ?_ hx
      exact trivial
    · refine g_aload_n C dX8_putTurning_15 rfl rfl ?_
      refine g_getR (i := 0) (j := 0) C dX8_putTurning_16 (L37 hL (by decide) (by decide)) c8 rfl (by decide) f37 (fun _ h9 => h9) (LR37_0 hL (by decide) (by decide)) ?_
      refine g_aload_n C dX8_putTurning_19 rfl rfl ?_
      refine g_getR (i := 0) (j := 0) C dX8_putTurning_20 (L37 hL (by decide) (by decide)) c8 rfl (by decide) f37 (fun _ h9 => h9) (LR37_0 hL (by decide) (by decide)) ?_
      refine g_aload_n C dX8_putTurning_23 rfl rfl ?_
      refine g_getWt C dX8_putTurning_24 hwa0 cw f144 ⟨rfl, rfl, rfl, rfl⟩ ?_
      refine g_iload C dX8_putTurning_27 rfl ?_
      refine g_iald C dX8_putTurning_29 (gWb_t hwa0).2 ho hf (fun hf => ?_)
      refine g_iload C dX8_putTurning_30 rfl ?_
      obtain ⟨z3, hz3, hf⟩ := gbind hf ho
      refine g_callV C dX8_putTurning_32 (m_X2_times l X N _ _ _  (gLay.sub hL (by decide) (by decide)) _ _ z3.1 z3.2 hz3) gEin0 (cwV 2 C.2.2.2.2.1 gX8_putTurning_X2_times rfl rfl rfl (by decide +kernel) ⟨Nat.le_of_ble_eq_true rfl, Nat.le_of_ble_eq_true rfl⟩) (L6 hL (by decide) (by decide)) (by decide) rfl rfl rfl (Nat.le_of_ble_eq_true rfl) ⟨Nat.le_of_ble_eq_true rfl, Nat.le_of_ble_eq_true rfl⟩ ?_
      obtain ⟨z4, hz4, hf⟩ := gbind hf ho
      refine g_callV C dX8_putTurning_35 (m_X2_negative l X N _ _ _  (gLay.sub hL (by decide) (by decide)) _ z4.1 z4.2 hz4) gEin0 (cwV 1 C.2.2.2.2.1 gX8_putTurning_X2_negative rfl rfl rfl (by decide +kernel) ⟨Nat.le_of_ble_eq_true rfl, Nat.le_of_ble_eq_true rfl⟩) (L6 hL (by decide) (by decide)) (by decide) rfl rfl rfl (Nat.le_of_ble_eq_true rfl) ⟨Nat.le_of_ble_eq_true rfl, Nat.le_of_ble_eq_true rfl⟩ ?_
      refine g_istore C dX8_putTurning_38 (Nat.le_of_ble_eq_true rfl) rfl rfl ?_
      refine g_aload_n C dX8_putTurning_40 rfl rfl ?_
      refine g_getR (i := 1) (j := 1) C dX8_putTurning_41 (L37 hL (by decide) (by decide)) c8 rfl (by decide) f41 (fun _ h9 => h9) (LR37_1 hL (by decide) (by decide)) ?_
      refine g_iload C dX8_putTurning_44 rfl ?_
      refine g_aload_n C dX8_putTurning_46 rfl rfl ?_
      refine g_getI (i := 2) (j := 2) C dX8_putTurning_47 (L37 hL (by decide) (by decide)) c8 rfl f50 (fun _ h9 => h9) ?_
      refine g_imul C dX8_putTurning_50 ?_
      refine g_aload_n C dX8_putTurning_51 rfl rfl ?_
      refine g_getR (i := 0) (j := 0) C dX8_putTurning_52 (L37 hL (by decide) (by decide)) c8 rfl (by decide) f37 (fun _ h9 => h9) (LR37_0 hL (by decide) (by decide)) ?_
      refine g_iload C dX8_putTurning_55 rfl ?_
      refine g_aload_n C dX8_putTurning_57 rfl rfl ?_
      refine g_getWt C dX8_putTurning_58 hwa1 cw f144 ⟨rfl, rfl, rfl, rfl⟩ ?_
      refine g_iload C dX8_putTurning_61 rfl ?_
      refine g_iald C dX8_putTurning_63 (gWb_t hwa1).2 ho hf (fun hf => ?_)
      refine g_iload_n C dX8_putTurning_64 rfl rfl ?_
      obtain ⟨z5, hz5, hf⟩ := gbind hf ho
      refine g_callV C dX8_putTurning_65 (m_X2_plusTimes l X N _ _ _  (gLay.sub hL (by decide) (by decide)) _ _ _ z5.1 z5.2 hz5) gEin0 (cwV 3 C.2.2.2.2.1 gX8_putTurning_X2_plusTimes rfl rfl rfl (by decide +kernel) ⟨Nat.le_of_ble_eq_true rfl, Nat.le_of_ble_eq_true rfl⟩) (L6 hL (by decide) (by decide)) (by decide) rfl rfl rfl (Nat.le_of_ble_eq_true rfl) ⟨Nat.le_of_ble_eq_true rfl, Nat.le_of_ble_eq_true rfl⟩ ?_
      obtain ⟨z6, hz6, hf⟩ := gbind hf ho
      refine g_callV C dX8_putTurning_68 (m_X6_putElement l X N _ _ _  (gLay.sub hL (by decide) (by decide)) _ _ z6 hz6) gEin0 (cwV 2 C.2.2.2.2.1 gX8_putTurning_X6_putElement rfl rfl rfl (by decide +kernel) ⟨Nat.le_of_ble_eq_true rfl, Nat.le_of_ble_eq_true rfl⟩) (L17 hL (by decide) (by decide)) (by decide) rfl rfl rfl (Nat.le_of_ble_eq_true rfl) ⟨Nat.le_of_ble_eq_true rfl, Nat.le_of_ble_eq_true rfl⟩ ?_
      refine g_aload_n C dX8_putTurning_71 rfl rfl ?_
      refine g_getR (i := 0) (j := 0) C dX8_putTurning_72 (L37 hL (by decide) (by decide)) c8 rfl (by decide) f37 (fun _ h9 => h9) (LR37_0 hL (by decide) (by decide)) ?_
      refine g_iload C dX8_putTurning_75 rfl ?_
      obtain ⟨z7, hz7, hf⟩ := gbind hf ho
      refine g_callV C dX8_putTurning_77 (m_X2_raised l X N _ _ _  (gLay.sub hL (by decide) (by decide)) _ z7.1 z7.2 hz7) gEin0 (cwV 1 C.2.2.2.2.1 gX8_putTurning_X2_raised rfl rfl rfl (by decide +kernel) ⟨Nat.le_of_ble_eq_true rfl, Nat.le_of_ble_eq_true rfl⟩) (L6 hL (by decide) (by decide)) (by decide) rfl rfl rfl (Nat.le_of_ble_eq_true rfl) ⟨Nat.le_of_ble_eq_true rfl, Nat.le_of_ble_eq_true rfl⟩ ?_
      refine g_istore C dX8_putTurning_80 (Nat.le_of_ble_eq_true rfl) rfl rfl ?_
      refine g_iinc (d := 1) C dX8_putTurning_82 rfl (by decide) rfl (Nat.le_of_ble_eq_true rfl) rfl rfl ?_
      refine g_goto (tgt := 6) C dX8_putTurning_85 (by decide) ?_
      have hx := hkz1 _ hf.symm
      refine g_sub ?_ hx
      exact (And.intro rfl (And.intro rfl (And.intro rfl (And.intro rfl (And.intro rfl (And.intro rfl trivial))))))
set_option maxRecDepth 100000 in
set_option maxHeartbeats 8000000 in
theorem m_X8_turnsFromTo (l : Launch) (X : gX) (N : Nat) (I : gI) (R : gR) (S : gS) (hL : gLay 6 56 R S) (a0 : Nat) (a1 : Nat) (v : Int32) (J : gI) (hf : f_X8_turnsFromTo N I R S a0 a1 = some (v, J)) : gM l yX8_turnsFromTo wsX8_turnsFromTo { frames := 3, cells := 0, slots := 0, locals := 76 } X gE0 [.ref (X.1 + 37), .ref (X.1 + a0), .ref (X.1 + a1)] I R S (some (.int v)) J R S 0 0 := by
  unfold f_X8_turnsFromTo at hf
  refine gM_of (cc := cX8_turnsFromTo) (own := RX8) (maxL := 5) (ret := (some .int)) (by decide) rfl rfl (Nat.le_of_ble_eq_true rfl) ?_
  intro p e s m args below meth c C hr hlk hnm hE
  have ho : (some (v, J)) ≠ none := fun h => by cases h
  have f126 := C.2.2.2.2.1 (.fieldLink RX8 126 "TimesByPowers$World" "\x72" "I") (by decide +kernel)
  have cw : gWc wsX8_turnsFromTo := ⟨⟨by decide, rfl, rfl, by decide +kernel⟩, ⟨by decide, rfl, rfl, by decide +kernel⟩, ⟨by decide, rfl, rfl, by decide +kernel⟩, ⟨by decide, rfl, rfl, by decide +kernel⟩⟩
  have f41 := C.2.2.2.2.1 (.fieldLink RX8 41 "TimesByPowers$Sums" "span" "LTimesByPowers$Span;") (by decide +kernel)
  have c8 : gCl wsX8_turnsFromTo 8 RX8 TX8 10 := ⟨by decide, rfl, rfl, by decide +kernel⟩
  have f50 := C.2.2.2.2.1 (.fieldLink RX8 50 "TimesByPowers$Sums" "n" "I") (by decide +kernel)
  have f37 := C.2.2.2.2.1 (.fieldLink RX8 37 "TimesByPowers$Sums" "elements" "LTimesByPowers$Field;") (by decide +kernel)
  have f173 := C.2.2.2.2.1 (.fieldLink RX8 173 "TimesByPowers$Field" "place" "[I") (by decide +kernel)
  have c2 : gCl wsX8_turnsFromTo 2 RX2 TX2 8 := ⟨by decide, rfl, rfl, by decide +kernel⟩
  obtain ⟨hwa0, hf⟩ := gcase hf ho
  obtain ⟨hwa1, hf⟩ := gcase hf ho
  refine g_aload_n C dX8_turnsFromTo_0 rfl rfl ?_
  refine g_getWI 1 C dX8_turnsFromTo_1 hwa0 cw ⟨rfl, rfl, rfl, rfl⟩ f126 ⟨rfl, rfl, rfl, rfl⟩ ?_
  refine g_aload_n C dX8_turnsFromTo_4 rfl rfl ?_
  refine g_getWI 1 C dX8_turnsFromTo_5 hwa1 cw ⟨rfl, rfl, rfl, rfl⟩ f126 ⟨rfl, rfl, rfl, rfl⟩ ?_
  refine g_icmp_eq (tgt := 13) C dX8_turnsFromTo_8 (by decide) hf (fun hf => ?_) (fun hf => ?_)
  · refine g_aload_n C dX8_turnsFromTo_13 rfl rfl ?_
    refine g_getR (i := 1) (j := 1) C dX8_turnsFromTo_14 (L37 hL (by decide) (by decide)) c8 rfl (by decide) f41 (fun _ h9 => h9) (LR37_1 hL (by decide) (by decide)) ?_
    refine g_aload_n C dX8_turnsFromTo_17 rfl rfl ?_
    refine g_getWI 1 C dX8_turnsFromTo_18 hwa0 cw ⟨rfl, rfl, rfl, rfl⟩ f126 ⟨rfl, rfl, rfl, rfl⟩ ?_
    refine g_iconst (v := 1) C dX8_turnsFromTo_21 (by decide) ?_
    refine g_iadd C dX8_turnsFromTo_22 ?_
    refine g_aload_n C dX8_turnsFromTo_23 rfl rfl ?_
    refine g_getI (i := 2) (j := 2) C dX8_turnsFromTo_24 (L37 hL (by decide) (by decide)) c8 rfl f50 (fun _ h9 => h9) ?_
    refine g_imul C dX8_turnsFromTo_27 ?_
    obtain ⟨z1, hz1, hf⟩ := gbind hf ho
    refine g_callV C dX8_turnsFromTo_28 (m_X6_begin l X N _ _ _  (gLay.sub hL (by decide) (by decide)) _ z1 hz1) gEin0 (cwV 1 C.2.2.2.2.1 gX8_turnsFromTo_X6_begin rfl rfl rfl (by decide +kernel) ⟨Nat.le_of_ble_eq_true rfl, Nat.le_of_ble_eq_true rfl⟩) (L17 hL (by decide) (by decide)) (by decide) rfl rfl rfl (Nat.le_of_ble_eq_true rfl) ⟨Nat.le_of_ble_eq_true rfl, Nat.le_of_ble_eq_true rfl⟩ ?_
    refine g_iconst (v := 0) C dX8_turnsFromTo_31 (by decide) ?_
    refine g_istore_n C dX8_turnsFromTo_32 rfl (Nat.le_of_ble_eq_true rfl) rfl rfl ?_
    refine g_iconst (v := 0) C dX8_turnsFromTo_33 (by decide) ?_
    refine g_istore C dX8_turnsFromTo_34 (Nat.le_of_ble_eq_true rfl) rfl rfl ?_
    refine g_loop (fun z2 => [(0, .ref (X.1 + 37)), (1, .ref (X.1 + a0)), (2, .ref (X.1 + a1)), (3, .int z2.1), (4, .int z2.2.1)]) (fun z2 => z2.2.2) (fun r3 => [(0, .ref (X.1 + 37)), (3, .int r3.1)]) (fun r3 => r3.2) 80 hf ho (And.intro rfl (And.intro rfl (And.intro rfl (And.intro rfl (And.intro rfl trivial))))) rfl (fun r3 hf => ?_) (fun z2 o1 hf ho hkz2 hez2 => ?_)
    · refine g_aload_n C dX8_turnsFromTo_80 rfl rfl ?_
      refine g_getR (i := 0) (j := 0) C dX8_turnsFromTo_81 (L37 hL (by decide) (by decide)) c8 rfl (by decide) f37 (fun _ h9 => h9) (LR37_0 hL (by decide) (by decide)) ?_
      refine g_getR (i := 4) (j := 4) C dX8_turnsFromTo_84 (L6 hL (by decide) (by decide)) c2 rfl (by decide) f173 (fun _ h9 => h9) (LR6_4 hL (by decide) (by decide)) ?_
      refine g_iload_n C dX8_turnsFromTo_87 rfl rfl ?_
      refine g_iald C dX8_turnsFromTo_88 (L7 hL (by decide) (by decide)) ho hf (fun hf => ?_)
      refine g_iconst (v := 1) C dX8_turnsFromTo_89 (by decide) ?_
      refine g_isub C dX8_turnsFromTo_90 ?_
      obtain ⟨rfl, rfl⟩ := gs2 hf
      exact g_iret C dX8_turnsFromTo_91 hr hlk
    · refine g_iload C dX8_turnsFromTo_36 rfl ?_
      refine g_aload_n C dX8_turnsFromTo_38 rfl rfl ?_
      refine g_getI (i := 2) (j := 2) C dX8_turnsFromTo_39 (L37 hL (by decide) (by decide)) c8 rfl f50 (fun _ h9 => h9) ?_
      refine g_icmp_ge (tgt := 80) C dX8_turnsFromTo_42 (by decide) hf (fun hf => ?_) (fun hf => ?_)
      · have hx := hez2 _ hf.symm
        refine g_sub ?_ hx
        exact (And.intro rfl (And.intro rfl trivial))
      · refine g_aload_n C dX8_turnsFromTo_45 rfl rfl ?_
        refine g_aload_n C dX8_turnsFromTo_46 rfl rfl ?_
        refine g_aload_n C dX8_turnsFromTo_47 rfl rfl ?_
        refine g_aload_n C dX8_turnsFromTo_48 rfl rfl ?_
        refine g_getR (i := 0) (j := 0) C dX8_turnsFromTo_49 (L37 hL (by decide) (by decide)) c8 rfl (by decide) f37 (fun _ h9 => h9) (LR37_0 hL (by decide) (by decide)) ?_
        refine g_getR (i := 4) (j := 4) C dX8_turnsFromTo_52 (L6 hL (by decide) (by decide)) c2 rfl (by decide) f173 (fun _ h9 => h9) (LR6_4 hL (by decide) (by decide)) ?_
        refine g_iload C dX8_turnsFromTo_55 rfl ?_
        refine g_iald C dX8_turnsFromTo_57 (L7 hL (by decide) (by decide)) ho hf (fun hf => ?_)
        obtain ⟨z4, hz4, hf⟩ := gbind hf ho
        refine g_callV C dX8_turnsFromTo_58 (m_X8_putTurning l X N _ _ _  (gLay.sub hL (by decide) (by decide)) _ _ _ z4 hz4) gEin0 (cwV 3 C.2.2.2.2.1 gX8_turnsFromTo_X8_putTurning rfl rfl rfl (by decide +kernel) ⟨Nat.le_of_ble_eq_true rfl, Nat.le_of_ble_eq_true rfl⟩) (L37 hL (by decide) (by decide)) (by decide) rfl rfl rfl (Nat.le_of_ble_eq_true rfl) ⟨Nat.le_of_ble_eq_true rfl, Nat.le_of_ble_eq_true rfl⟩ ?_
        refine g_aload_n C dX8_turnsFromTo_61 rfl rfl ?_
        refine g_getR (i := 1) (j := 1) C dX8_turnsFromTo_62 (L37 hL (by decide) (by decide)) c8 rfl (by decide) f41 (fun _ h9 => h9) (LR37_1 hL (by decide) (by decide)) ?_
        obtain ⟨z5, hz5, hf⟩ := gbind hf ho
        refine g_callV C dX8_turnsFromTo_65 (m_X6_feed l X N _ _ _  (gLay.sub hL (by decide) (by decide))  z5.1 z5.2 hz5) gEin0 (cwV 0 C.2.2.2.2.1 gX8_turnsFromTo_X6_feed rfl rfl rfl (by decide +kernel) ⟨Nat.le_of_ble_eq_true rfl, Nat.le_of_ble_eq_true rfl⟩) (L17 hL (by decide) (by decide)) (by decide) rfl rfl rfl (Nat.le_of_ble_eq_true rfl) ⟨Nat.le_of_ble_eq_true rfl, Nat.le_of_ble_eq_true rfl⟩ ?_
        refine g_if_eq (tgt := 74) C dX8_turnsFromTo_68 (by decide) hf (fun hf => ?_) (fun hf => ?_)
        · refine g_iinc (d := 1) C dX8_turnsFromTo_74 rfl (by decide) rfl (Nat.le_of_ble_eq_true rfl) rfl rfl ?_
          refine g_goto (tgt := 36) C dX8_turnsFromTo_77 (by decide) ?_
          have hx := hkz2 _ hf.symm
          refine g_sub ?_ hx
          exact (And.intro rfl (And.intro rfl (And.intro rfl (And.intro rfl (And.intro rfl trivial)))))
        · refine g_iinc (d := 1) C dX8_turnsFromTo_71 rfl (by decide) rfl (Nat.le_of_ble_eq_true rfl) rfl rfl ?_
          refine g_iinc (d := 1) C dX8_turnsFromTo_74 rfl (by decide) rfl (Nat.le_of_ble_eq_true rfl) rfl rfl ?_
          refine g_goto (tgt := 36) C dX8_turnsFromTo_77 (by decide) ?_
          have hx := hkz2 _ hf.symm
          refine g_sub ?_ hx
          exact (And.intro rfl (And.intro rfl (And.intro rfl (And.intro rfl (And.intro rfl trivial)))))
  · refine g_iconst (v := 0) C dX8_turnsFromTo_11 (by decide) ?_
    obtain ⟨rfl, rfl⟩ := gs2 hf
    exact g_iret C dX8_turnsFromTo_12 hr hlk

