set_option maxRecDepth 100000 in
set_option maxHeartbeats 8000000 in
theorem m_X12_turned (l : Launch) (X : gX) (N : Nat) (I : gI) (R : gR) (S : gS) (hL : gLay 91 114 R S) (a0 : Int32) (a1 : Int32) (a2 : Int32) (v : Int32) (hf : f_X12_turned N I R S a0 a1 a2 = some v) : gM l yX12_turned wsX12_turned { frames := 1, cells := 0, slots := 0, locals := 23 } X gE0 [.ref (X.1 + 91), .int a0, .int a1, .int a2] I R S (some (.int v)) I R S 0 0 := by
  unfold f_X12_turned at hf
  refine gM_of (cc := cX12_turned) (own := RX12) (maxL := 4) (ret := (some .int)) (by decide) rfl rfl (Nat.le_of_ble_eq_true rfl) ?_
  intro p e s m args below meth c C hr hlk hnm hE
  have ho : (some v) ≠ none := fun h => by cases h
  have f73 := C.2.2.2.2.1 (.fieldLink RX12 73 "TimesByPowersModel" "t" "[I") (by decide +kernel)
  have c11 : gCl wsX12_turned 11 RX12 TX12 29 := ⟨by decide, rfl, rfl, by decide +kernel⟩
  have f11 := C.2.2.2.2.1 (.fieldLink RX12 11 "TimesByPowersModel" "p" "I") (by decide +kernel)
  refine g_aload_n C dX12_turned_0 rfl rfl ?_
  refine g_aload_n C dX12_turned_1 rfl rfl ?_
  refine g_getR (i := 16) (j := 16) C dX12_turned_2 (L91 hL (by decide) (by decide)) c11 rfl (by decide) f73 (fun _ h9 => h9) (LR91_16 hL (by decide) (by decide)) ?_
  refine g_iconst (v := 4) C dX12_turned_5 (by decide) ?_
  refine g_iload_n C dX12_turned_6 rfl rfl ?_
  refine g_imul C dX12_turned_7 ?_
  refine g_iload_n C dX12_turned_8 rfl rfl ?_
  refine g_iadd C dX12_turned_9 ?_
  refine g_iald C dX12_turned_10 (L102 hL (by decide) (by decide)) ho hf (fun hf => ?_)
  refine g_aload_n C dX12_turned_11 rfl rfl ?_
  refine g_iload_n C dX12_turned_12 rfl rfl ?_
  refine g_aload_n C dX12_turned_13 rfl rfl ?_
  refine g_getI (i := 2) (j := 2) C dX12_turned_14 (L91 hL (by decide) (by decide)) c11 rfl f11 (fun _ h9 => h9) ?_
  refine g_iload_n C dX12_turned_17 rfl rfl ?_
  obtain ⟨z1, hz1, hf⟩ := gbind hf ho
  refine g_callS C dX12_turned_18 (m_X12_power l X N _ _ _  (gLay.sub hL (by decide) (by decide)) _ _ z1 hz1) gEin0 (va_cwS 2 C.2.2.2.2.1 gX12_turned_X12_power rfl rfl rfl (by decide +kernel) ⟨Nat.le_of_ble_eq_true rfl, Nat.le_of_ble_eq_true rfl⟩) rfl rfl (Nat.le_of_ble_eq_true rfl) ⟨Nat.le_of_ble_eq_true rfl, Nat.le_of_ble_eq_true rfl⟩ ?_
  refine g_iconst (v := 1) C dX12_turned_21 (by decide) ?_
  refine g_isub C dX12_turned_22 ?_
  refine g_i2l C dX12_turned_23 ?_
  obtain ⟨z2, hz2, hf⟩ := gbind hf ho
  refine g_callV C dX12_turned_24 (m_X12_raise l X N _ _ _  (gLay.sub hL (by decide) (by decide)) _ _ z2 hz2) gEin0 (cwV 2 C.2.2.2.2.1 gX12_turned_X12_raise rfl rfl rfl (by decide +kernel) ⟨Nat.le_of_ble_eq_true rfl, Nat.le_of_ble_eq_true rfl⟩) (L91 hL (by decide) (by decide)) (by decide) rfl rfl rfl (Nat.le_of_ble_eq_true rfl) ⟨Nat.le_of_ble_eq_true rfl, Nat.le_of_ble_eq_true rfl⟩ ?_
  obtain ⟨z3, hz3, hf⟩ := gbind hf ho
  refine g_callV C dX12_turned_27 (m_X12_times l X N _ _ _  (gLay.sub hL (by decide) (by decide)) _ _ z3 hz3) gEin0 (cwV 2 C.2.2.2.2.1 gX12_turned_X12_times rfl rfl rfl (by decide +kernel) ⟨Nat.le_of_ble_eq_true rfl, Nat.le_of_ble_eq_true rfl⟩) (L91 hL (by decide) (by decide)) (by decide) rfl rfl rfl (Nat.le_of_ble_eq_true rfl) ⟨Nat.le_of_ble_eq_true rfl, Nat.le_of_ble_eq_true rfl⟩ ?_
  obtain rfl := gs1 hf
  exact g_iret C dX12_turned_30 hr hlk
set_option maxRecDepth 100000 in
set_option maxHeartbeats 8000000 in
theorem m_X12_turn (l : Launch) (X : gX) (N : Nat) (I : gI) (R : gR) (S : gS) (hL : gLay 91 114 R S) (a0 : Int32) (a1 : Int32) (a2 : Int32) (v : Int32) (J : gI) (hf : f_X12_turn N I R S a0 a1 a2 = some (v, J)) : gM l yX12_turn wsX12_turn { frames := 6, cells := 0, slots := 0, locals := 139 } X gE0 [.ref (X.1 + 91), .int a0, .int a1, .int a2] I R S (some (.int v)) J R S 0 0 := by
  unfold f_X12_turn at hf
  refine gM_of (cc := cX12_turn) (own := RX12) (maxL := 5) (ret := (some .int)) (by decide) rfl rfl (Nat.le_of_ble_eq_true rfl) ?_
  intro p e s m args below meth c C hr hlk hnm hE
  have ho : (some (v, J)) ≠ none := fun h => by cases h
  have f1 := C.2.2.2.2.1 (.fieldLink RX12 1 "TimesByPowersModel" "thrown" "I") (by decide +kernel)
  have c11 : gCl wsX12_turn 11 RX12 TX12 29 := ⟨by decide, rfl, rfl, by decide +kernel⟩
  have k141 := C.2.2.2.2.1 (.constant RX12 141 (-1000001)) (by decide +kernel)
  have f109 := C.2.2.2.2.1 (.fieldLink RX12 109 "TimesByPowersModel" "q" "I") (by decide +kernel)
  have f70 := C.2.2.2.2.1 (.fieldLink RX12 70 "TimesByPowersModel" "rank" "[I") (by decide +kernel)
  have f88 := C.2.2.2.2.1 (.fieldLink RX12 88 "TimesByPowersModel" "fresh" "[I") (by decide +kernel)
  refine g_aload_n C dX12_turn_0 rfl rfl ?_
  refine g_iconst (v := 0) C dX12_turn_1 (by decide) ?_
  refine g_putI (i := 0) (j := 0) C dX12_turn_2 (L91 hL (by decide) (by decide)) c11 gy11 rfl f1 (fun _ h9 => h9) (Or.inl rfl) rfl ?_
  refine g_iload_n C dX12_turn_5 rfl rfl ?_
  obtain ⟨z1, hz1, hf⟩ := gbind hf ho
  refine g_callS C dX12_turn_6 (m_X12_isPlace l X N _ _ _  (gLay.sub hL (by decide) (by decide)) _ z1 hz1) gEin0 (va_cwS 1 C.2.2.2.2.1 gX12_turn_X12_isPlace rfl rfl rfl (by decide +kernel) ⟨Nat.le_of_ble_eq_true rfl, Nat.le_of_ble_eq_true rfl⟩) rfl rfl (Nat.le_of_ble_eq_true rfl) ⟨Nat.le_of_ble_eq_true rfl, Nat.le_of_ble_eq_true rfl⟩ ?_
  refine g_if_eq (tgt := 35) C dX12_turn_9 (by decide) hf (fun hf => ?_) (fun hf => ?_)
  · refine g_ldc C k141 dX12_turn_35 ?_
    obtain ⟨rfl, rfl⟩ := gs2 hf
    exact g_iret C dX12_turn_37 hr hlk
  · refine g_iload_n C dX12_turn_12 rfl rfl ?_
    obtain ⟨z2, hz2, hf⟩ := gbind hf ho
    refine g_callS C dX12_turn_13 (m_X12_isPlace l X N _ _ _  (gLay.sub hL (by decide) (by decide)) _ z2 hz2) gEin0 (va_cwS 1 C.2.2.2.2.1 gX12_turn_X12_isPlace rfl rfl rfl (by decide +kernel) ⟨Nat.le_of_ble_eq_true rfl, Nat.le_of_ble_eq_true rfl⟩) rfl rfl (Nat.le_of_ble_eq_true rfl) ⟨Nat.le_of_ble_eq_true rfl, Nat.le_of_ble_eq_true rfl⟩ ?_
    refine g_if_eq (tgt := 35) C dX12_turn_16 (by decide) hf (fun hf => ?_) (fun hf => ?_)
    · refine g_ldc C k141 dX12_turn_35 ?_
      obtain ⟨rfl, rfl⟩ := gs2 hf
      exact g_iret C dX12_turn_37 hr hlk
    · refine g_iload_n C dX12_turn_19 rfl rfl ?_
      refine g_i2l C dX12_turn_20 ?_
      refine g_lconst (v := 1) C dX12_turn_21 (by decide) ?_
      refine g_aload_n C dX12_turn_22 rfl rfl ?_
      refine g_getI (i := 4) (j := 4) C dX12_turn_23 (L91 hL (by decide) (by decide)) c11 rfl f109 (fun _ h9 => h9) ?_
      refine g_iconst (v := 1) C dX12_turn_26 (by decide) ?_
      refine g_isub C dX12_turn_27 ?_
      refine g_i2l C dX12_turn_28 ?_
      obtain ⟨z3, hz3, hf⟩ := gbind hf ho
      refine g_callS C dX12_turn_29 (m_X12_in l X N _ _ _  (gLay.sub hL (by decide) (by decide)) _ _ _ z3 hz3) gEin0 (va_cwS 3 C.2.2.2.2.1 gX12_turn_X12_in rfl rfl rfl (by decide +kernel) ⟨Nat.le_of_ble_eq_true rfl, Nat.le_of_ble_eq_true rfl⟩) rfl rfl (Nat.le_of_ble_eq_true rfl) ⟨Nat.le_of_ble_eq_true rfl, Nat.le_of_ble_eq_true rfl⟩ ?_
      refine g_if_ne (tgt := 38) C dX12_turn_32 (by decide) hf (fun hf => ?_) (fun hf => ?_)
      · refine g_aload_n C dX12_turn_38 rfl rfl ?_
        refine g_getR (i := 15) (j := 15) C dX12_turn_39 (L91 hL (by decide) (by decide)) c11 rfl (by decide) f70 (fun _ h9 => h9) (LR91_15 hL (by decide) (by decide)) ?_
        refine g_iload_n C dX12_turn_42 rfl rfl ?_
        refine g_iald C dX12_turn_43 (L101 hL (by decide) (by decide)) ho hf (fun hf => ?_)
        refine g_if_ne (tgt := 53) C dX12_turn_44 (by decide) hf (fun hf => ?_) (fun hf => ?_)
        · refine g_iconst (v := 0) C dX12_turn_53 (by decide) ?_
          refine g_istore C dX12_turn_54 (Nat.le_of_ble_eq_true rfl) rfl rfl ?_
          refine g_loop (fun z4 => [(0, .ref (X.1 + 91)), (1, .int a0), (2, .int a1), (3, .int a2), (4, .int z4.1)]) (fun z4 => z4.2) (fun r5 => [(0, .ref (X.1 + 91)), (1, .int a0), (2, .int a1)]) (fun r5 => r5) 88 hf ho (And.intro rfl (And.intro rfl (And.intro rfl (And.intro rfl (And.intro rfl trivial))))) rfl (fun r5 hf => ?_) (fun z4 o1 hf ho hkz4 hez4 => ?_)
          · refine g_aload_n C dX12_turn_88 rfl rfl ?_
            refine g_iload_n C dX12_turn_89 rfl rfl ?_
            refine g_aload_n C dX12_turn_90 rfl rfl ?_
            refine g_getR (i := 15) (j := 15) C dX12_turn_91 (L91 hL (by decide) (by decide)) c11 rfl (by decide) f70 (fun _ h9 => h9) (LR91_15 hL (by decide) (by decide)) ?_
            refine g_iload_n C dX12_turn_94 rfl rfl ?_
            refine g_iald C dX12_turn_95 (L101 hL (by decide) (by decide)) ho hf (fun hf => ?_)
            obtain ⟨z7, hz7, hf⟩ := gbind hf ho
            refine g_callV C dX12_turn_96 (m_X12_lay l X N _ _ _  (gLay.sub hL (by decide) (by decide)) _ _ z7.1 z7.2 hz7) gEin0 (cwV 2 C.2.2.2.2.1 gX12_turn_X12_lay rfl rfl rfl (by decide +kernel) ⟨Nat.le_of_ble_eq_true rfl, Nat.le_of_ble_eq_true rfl⟩) (L91 hL (by decide) (by decide)) (by decide) rfl rfl rfl (Nat.le_of_ble_eq_true rfl) ⟨Nat.le_of_ble_eq_true rfl, Nat.le_of_ble_eq_true rfl⟩ ?_
            obtain ⟨rfl, rfl⟩ := gs2 hf
            exact g_iret C dX12_turn_99 hr hlk
          · refine g_iload C dX12_turn_56 rfl ?_
            refine g_aload_n C dX12_turn_58 rfl rfl ?_
            refine g_getR (i := 15) (j := 15) C dX12_turn_59 (L91 hL (by decide) (by decide)) c11 rfl (by decide) f70 (fun _ h9 => h9) (LR91_15 hL (by decide) (by decide)) ?_
            refine g_iload_n C dX12_turn_62 rfl rfl ?_
            refine g_iald C dX12_turn_63 (L101 hL (by decide) (by decide)) ho hf (fun hf => ?_)
            refine g_icmp_gt (tgt := 88) C dX12_turn_64 (by decide) hf (fun hf => ?_) (fun hf => ?_)
            · have hx := hez4 _ hf.symm
              refine g_sub ?_ hx
              exact (And.intro rfl (And.intro rfl (And.intro rfl trivial)))
            · refine g_aload_n C dX12_turn_67 rfl rfl ?_
              refine g_getR (i := 21) (j := 21) C dX12_turn_68 (L91 hL (by decide) (by decide)) c11 rfl (by decide) f88 (fun _ h9 => h9) (LR91_21 hL (by decide) (by decide)) ?_
              refine g_iload C dX12_turn_71 rfl ?_
              refine g_aload_n C dX12_turn_73 rfl rfl ?_
              refine g_iload_n C dX12_turn_74 rfl rfl ?_
              refine g_iload C dX12_turn_75 rfl ?_
              refine g_iload_n C dX12_turn_77 rfl rfl ?_
              obtain ⟨z6, hz6, hf⟩ := gbind hf ho
              refine g_callV C dX12_turn_78 (m_X12_turned l X N _ _ _  (gLay.sub hL (by decide) (by decide)) _ _ _ z6 hz6) gEin0 (cwV 3 C.2.2.2.2.1 gX12_turn_X12_turned rfl rfl rfl (by decide +kernel) ⟨Nat.le_of_ble_eq_true rfl, Nat.le_of_ble_eq_true rfl⟩) (L91 hL (by decide) (by decide)) (by decide) rfl rfl rfl (Nat.le_of_ble_eq_true rfl) ⟨Nat.le_of_ble_eq_true rfl, Nat.le_of_ble_eq_true rfl⟩ ?_
              refine g_iast C dX12_turn_81 (L107 hL (by decide) (by decide)) ho hf (fun hf => ?_)
              refine g_iinc (d := 1) C dX12_turn_82 rfl (by decide) rfl (Nat.le_of_ble_eq_true rfl) rfl rfl ?_
              refine g_goto (tgt := 56) C dX12_turn_85 (by decide) ?_
              have hx := hkz4 _ hf.symm
              refine g_sub ?_ hx
              exact (And.intro rfl (And.intro rfl (And.intro rfl (And.intro rfl (And.intro rfl trivial)))))
        · refine g_aload_n C dX12_turn_47 rfl rfl ?_
          refine g_iconst (v := 1) C dX12_turn_48 (by decide) ?_
          obtain ⟨z8, hz8, hf⟩ := gbind hf ho
          refine g_callV C dX12_turn_49 (m_X12_found l X N _ _ _  (gLay.sub hL (by decide) (by decide)) _ z8.1 z8.2 hz8) gEin0 (cwV 1 C.2.2.2.2.1 gX12_turn_X12_found rfl rfl rfl (by decide +kernel) ⟨Nat.le_of_ble_eq_true rfl, Nat.le_of_ble_eq_true rfl⟩) (L91 hL (by decide) (by decide)) (by decide) rfl rfl rfl (Nat.le_of_ble_eq_true rfl) ⟨Nat.le_of_ble_eq_true rfl, Nat.le_of_ble_eq_true rfl⟩ ?_
          obtain ⟨rfl, rfl⟩ := gs2 hf
          exact g_iret C dX12_turn_52 hr hlk
      · refine g_ldc C k141 dX12_turn_35 ?_
        obtain ⟨rfl, rfl⟩ := gs2 hf
        exact g_iret C dX12_turn_37 hr hlk
set_option maxRecDepth 100000 in
set_option maxHeartbeats 8000000 in
theorem m_X12_lookMap (l : Launch) (X : gX) (N : Nat) (I : gI) (R : gR) (S : gS) (hL : gLay 91 114 R S) (a0 : Int32) (a1 : Int32) (a2 : Int32) (a3 : Int32) (v : Int32) (J : gI) (hf : f_X12_lookMap N I R S a0 a1 a2 a3 = some (v, J)) : gM l yX12_lookMap wsX12_lookMap { frames := 2, cells := 0, slots := 0, locals := 46 } X gE0 [.ref (X.1 + 91), .int a0, .int a1, .int a2, .int a3] I R S (some (.int v)) J R S 0 0 := by
  unfold f_X12_lookMap at hf
  refine gM_of (cc := cX12_lookMap) (own := RX12) (maxL := 6) (ret := (some .int)) (by decide) rfl rfl (Nat.le_of_ble_eq_true rfl) ?_
  intro p e s m args below meth c C hr hlk hnm hE
  have ho : (some (v, J)) ≠ none := fun h => by cases h
  have k141 := C.2.2.2.2.1 (.constant RX12 141 (-1000001)) (by decide +kernel)
  have k191 := C.2.2.2.2.1 (.constantLong RX12 191 (4)) (by decide +kernel)
  have f70 := C.2.2.2.2.1 (.fieldLink RX12 70 "TimesByPowersModel" "rank" "[I") (by decide +kernel)
  have c11 : gCl wsX12_lookMap 11 RX12 TX12 29 := ⟨by decide, rfl, rfl, by decide +kernel⟩
  have f61 := C.2.2.2.2.1 (.fieldLink RX12 61 "TimesByPowersModel" "lane" "[I") (by decide +kernel)
  have f64 := C.2.2.2.2.1 (.fieldLink RX12 64 "TimesByPowersModel" "many" "[I") (by decide +kernel)
  have f91 := C.2.2.2.2.1 (.fieldLink RX12 91 "TimesByPowersModel" "u" "[I") (by decide +kernel)
  have f67 := C.2.2.2.2.1 (.fieldLink RX12 67 "TimesByPowersModel" "item" "[I") (by decide +kernel)
  refine g_iload_n C dX12_lookMap_0 rfl rfl ?_
  obtain ⟨z1, hz1, hf⟩ := gbind hf ho
  refine g_callS C dX12_lookMap_1 (m_X12_isPlace l X N _ _ _  (gLay.sub hL (by decide) (by decide)) _ z1 hz1) gEin0 (va_cwS 1 C.2.2.2.2.1 gX12_lookMap_X12_isPlace rfl rfl rfl (by decide +kernel) ⟨Nat.le_of_ble_eq_true rfl, Nat.le_of_ble_eq_true rfl⟩) rfl rfl (Nat.le_of_ble_eq_true rfl) ⟨Nat.le_of_ble_eq_true rfl, Nat.le_of_ble_eq_true rfl⟩ ?_
  refine g_if_eq (tgt := 27) C dX12_lookMap_4 (by decide) hf (fun hf => ?_) (fun hf => ?_)
  · refine g_ldc C k141 dX12_lookMap_27 ?_
    obtain ⟨rfl, rfl⟩ := gs2 hf
    exact g_iret C dX12_lookMap_29 hr hlk
  · refine g_iload_n C dX12_lookMap_7 rfl rfl ?_
    obtain ⟨z2, hz2, hf⟩ := gbind hf ho
    refine g_callS C dX12_lookMap_8 (m_X12_isRow l X N _ _ _  (gLay.sub hL (by decide) (by decide)) _ z2 hz2) gEin0 (va_cwS 1 C.2.2.2.2.1 gX12_lookMap_X12_isRow rfl rfl rfl (by decide +kernel) ⟨Nat.le_of_ble_eq_true rfl, Nat.le_of_ble_eq_true rfl⟩) rfl rfl (Nat.le_of_ble_eq_true rfl) ⟨Nat.le_of_ble_eq_true rfl, Nat.le_of_ble_eq_true rfl⟩ ?_
    refine g_if_eq (tgt := 27) C dX12_lookMap_11 (by decide) hf (fun hf => ?_) (fun hf => ?_)
    · refine g_ldc C k141 dX12_lookMap_27 ?_
      obtain ⟨rfl, rfl⟩ := gs2 hf
      exact g_iret C dX12_lookMap_29 hr hlk
    · refine g_iload C dX12_lookMap_14 rfl ?_
      refine g_i2l C dX12_lookMap_16 ?_
      refine g_lconst (v := 1) C dX12_lookMap_17 (by decide) ?_
      refine g_ldc2 C k191 dX12_lookMap_18 ?_
      obtain ⟨z3, hz3, hf⟩ := gbind hf ho
      refine g_callS C dX12_lookMap_21 (m_X12_in l X N _ _ _  (gLay.sub hL (by decide) (by decide)) _ _ _ z3 hz3) gEin0 (va_cwS 3 C.2.2.2.2.1 gX12_lookMap_X12_in rfl rfl rfl (by decide +kernel) ⟨Nat.le_of_ble_eq_true rfl, Nat.le_of_ble_eq_true rfl⟩) rfl rfl (Nat.le_of_ble_eq_true rfl) ⟨Nat.le_of_ble_eq_true rfl, Nat.le_of_ble_eq_true rfl⟩ ?_
      refine g_if_ne (tgt := 30) C dX12_lookMap_24 (by decide) hf (fun hf => ?_) (fun hf => ?_)
      · refine g_aload_n C dX12_lookMap_30 rfl rfl ?_
        refine g_getR (i := 15) (j := 15) C dX12_lookMap_31 (L91 hL (by decide) (by decide)) c11 rfl (by decide) f70 (fun _ h9 => h9) (LR91_15 hL (by decide) (by decide)) ?_
        refine g_iload_n C dX12_lookMap_34 rfl rfl ?_
        refine g_iald C dX12_lookMap_35 (L101 hL (by decide) (by decide)) ho hf (fun hf => ?_)
        refine g_if_eq (tgt := 48) C dX12_lookMap_36 (by decide) hf (fun hf => ?_) (fun hf => ?_)
        · refine g_aload_n C dX12_lookMap_48 rfl rfl ?_
          refine g_iconst (v := 1) C dX12_lookMap_49 (by decide) ?_
          obtain ⟨z4, hz4, hf⟩ := gbind hf ho
          refine g_callV C dX12_lookMap_50 (m_X12_found l X N _ _ _  (gLay.sub hL (by decide) (by decide)) _ z4.1 z4.2 hz4) gEin0 (cwV 1 C.2.2.2.2.1 gX12_lookMap_X12_found rfl rfl rfl (by decide +kernel) ⟨Nat.le_of_ble_eq_true rfl, Nat.le_of_ble_eq_true rfl⟩) (L91 hL (by decide) (by decide)) (by decide) rfl rfl rfl (Nat.le_of_ble_eq_true rfl) ⟨Nat.le_of_ble_eq_true rfl, Nat.le_of_ble_eq_true rfl⟩ ?_
          obtain ⟨rfl, rfl⟩ := gs2 hf
          exact g_iret C dX12_lookMap_53 hr hlk
        · refine g_aload_n C dX12_lookMap_39 rfl rfl ?_
          refine g_getR (i := 12) (j := 12) C dX12_lookMap_40 (L91 hL (by decide) (by decide)) c11 rfl (by decide) f61 (fun _ h9 => h9) (LR91_12 hL (by decide) (by decide)) ?_
          refine g_iload_n C dX12_lookMap_43 rfl rfl ?_
          refine g_iald C dX12_lookMap_44 (L98 hL (by decide) (by decide)) ho hf (fun hf => ?_)
          refine g_if_ge (tgt := 54) C dX12_lookMap_45 (by decide) hf (fun hf => ?_) (fun hf => ?_)
          · refine g_iload_n C dX12_lookMap_54 rfl rfl ?_
            refine g_if_lt (tgt := 77) C dX12_lookMap_55 (by decide) hf (fun hf => ?_) (fun hf => ?_)
            · refine g_aload_n C dX12_lookMap_77 rfl rfl ?_
              refine g_iconst (v := 2) C dX12_lookMap_78 (by decide) ?_
              obtain ⟨z5, hz5, hf⟩ := gbind hf ho
              refine g_callV C dX12_lookMap_79 (m_X12_found l X N _ _ _  (gLay.sub hL (by decide) (by decide)) _ z5.1 z5.2 hz5) gEin0 (cwV 1 C.2.2.2.2.1 gX12_lookMap_X12_found rfl rfl rfl (by decide +kernel) ⟨Nat.le_of_ble_eq_true rfl, Nat.le_of_ble_eq_true rfl⟩) (L91 hL (by decide) (by decide)) (by decide) rfl rfl rfl (Nat.le_of_ble_eq_true rfl) ⟨Nat.le_of_ble_eq_true rfl, Nat.le_of_ble_eq_true rfl⟩ ?_
              obtain ⟨rfl, rfl⟩ := gs2 hf
              exact g_iret C dX12_lookMap_82 hr hlk
            · refine g_iload_n C dX12_lookMap_58 rfl rfl ?_
              refine g_i2l C dX12_lookMap_59 ?_
              refine g_iload C dX12_lookMap_60 rfl ?_
              refine g_i2l C dX12_lookMap_62 ?_
              refine g_ladd C dX12_lookMap_63 ?_
              refine g_lconst (v := 1) C dX12_lookMap_64 (by decide) ?_
              refine g_ladd C dX12_lookMap_65 ?_
              refine g_aload_n C dX12_lookMap_66 rfl rfl ?_
              refine g_getR (i := 13) (j := 13) C dX12_lookMap_67 (L91 hL (by decide) (by decide)) c11 rfl (by decide) f64 (fun _ h9 => h9) (LR91_13 hL (by decide) (by decide)) ?_
              refine g_iload_n C dX12_lookMap_70 rfl rfl ?_
              refine g_iald C dX12_lookMap_71 (L99 hL (by decide) (by decide)) ho hf (fun hf => ?_)
              refine g_i2l C dX12_lookMap_72 ?_
              refine g_lcmp C dX12_lookMap_73 ?_
              refine g_if_le (tgt := 83) C dX12_lookMap_74 (by decide) hf (fun hf => ?_) (fun hf => ?_)
              · refine g_iconst (v := 0) C dX12_lookMap_83 (by decide) ?_
                refine g_istore C dX12_lookMap_84 (Nat.le_of_ble_eq_true rfl) rfl rfl ?_
                refine g_loopR (fun z6 => [(0, .ref (X.1 + 91)), (2, .int a1), (3, .int a2), (4, .int a3), (5, .int z6.1)]) (fun z6 => z6.2) (fun r7 => [(0, .ref (X.1 + 91)), (4, .int a3)]) (fun r7 => r7) 147 hf ho (And.intro rfl (And.intro rfl (And.intro rfl (And.intro rfl (And.intro rfl trivial))))) rfl (fun r7 hf => ?_) (fun z6 o1 hf ho hkz6 hez6 hrz6 => ?_)
                · refine g_aload_n C dX12_lookMap_147 rfl rfl ?_
                  refine g_getR (i := 22) (j := 22) C dX12_lookMap_148 (L91 hL (by decide) (by decide)) c11 rfl (by decide) f91 (fun _ h9 => h9) (LR91_22 hL (by decide) (by decide)) ?_
                  refine g_iconst (v := 0) C dX12_lookMap_151 (by decide) ?_
                  refine g_iald C dX12_lookMap_152 (L108 hL (by decide) (by decide)) ho hf (fun hf => ?_)
                  refine g_if_eq (tgt := 166) C dX12_lookMap_153 (by decide) hf (fun hf => ?_) (fun hf => ?_)
                  · refine g_ldc C k141 dX12_lookMap_166 ?_
                    refine g_goto (tgt := 172) C dX12_lookMap_168 (by decide) ?_
                    obtain ⟨rfl, rfl⟩ := gs2 hf
                    exact g_iret C dX12_lookMap_172 hr hlk
                  · refine g_aload_n C dX12_lookMap_156 rfl rfl ?_
                    refine g_getR (i := 22) (j := 22) C dX12_lookMap_157 (L91 hL (by decide) (by decide)) c11 rfl (by decide) f91 (fun _ h9 => h9) (LR91_22 hL (by decide) (by decide)) ?_
                    refine g_iload C dX12_lookMap_160 rfl ?_
                    refine g_iald C dX12_lookMap_162 (L108 hL (by decide) (by decide)) ho hf (fun hf => ?_)
                    refine g_if_ne (tgt := 171) C dX12_lookMap_163 (by decide) hf (fun hf => ?_) (fun hf => ?_)
                    · refine g_iconst (v := 0) C dX12_lookMap_171 (by decide) ?_
                      obtain ⟨rfl, rfl⟩ := gs2 hf
                      exact g_iret C dX12_lookMap_172 hr hlk
                    · refine g_ldc C k141 dX12_lookMap_166 ?_
                      refine g_goto (tgt := 172) C dX12_lookMap_168 (by decide) ?_
                      obtain ⟨rfl, rfl⟩ := gs2 hf
                      exact g_iret C dX12_lookMap_172 hr hlk
                · refine g_iload C dX12_lookMap_86 rfl ?_
                  refine g_iconst (v := 5) C dX12_lookMap_88 (by decide) ?_
                  refine g_icmp_ge (tgt := 147) C dX12_lookMap_89 (by decide) hf (fun hf => ?_) (fun hf => ?_)
                  · have hx := hez6 _ hf.symm
                    refine g_sub ?_ hx
                    exact (And.intro rfl (And.intro rfl trivial))
                  · refine g_aload_n C dX12_lookMap_92 rfl rfl ?_
                    refine g_getR (i := 22) (j := 22) C dX12_lookMap_93 (L91 hL (by decide) (by decide)) c11 rfl (by decide) f91 (fun _ h9 => h9) (LR91_22 hL (by decide) (by decide)) ?_
                    refine g_iload C dX12_lookMap_96 rfl ?_
                    refine g_iload C dX12_lookMap_98 rfl ?_
                    refine g_iload C dX12_lookMap_100 rfl ?_
                    refine g_join (fun z8 => [(0, .ref (X.1 + 91)), (2, .int a1), (3, .int a2), (4, .int a3), (5, .int z6.1)]) (fun z8 => [.int z8, .int z6.1, .ref (X.1 + 108)]) (fun z8 => z6.2) 123 hf ho (fun z8 hf => ?_) (fun o1 hf ho hkz8 => ?_)
                    · refine g_iast C dX12_lookMap_123 (L108 hL (by decide) (by decide)) ho hf (fun hf => ?_)
                      refine g_aload_n C dX12_lookMap_124 rfl rfl ?_
                      refine g_aload_n C dX12_lookMap_125 rfl rfl ?_
                      refine g_getR (i := 22) (j := 22) C dX12_lookMap_126 (L91 hL (by decide) (by decide)) c11 rfl (by decide) f91 (fun _ h9 => h9) (LR91_22 hL (by decide) (by decide)) ?_
                      refine g_iload C dX12_lookMap_129 rfl ?_
                      refine g_iald C dX12_lookMap_131 (L108 hL (by decide) (by decide)) ho hf (fun hf => ?_)
                      obtain ⟨z9, hz9, hf⟩ := gbind hf ho
                      refine g_callV C dX12_lookMap_132 (m_X12_isElement l X N _ _ _  (gLay.sub hL (by decide) (by decide)) _ z9 hz9) gEin0 (cwV 1 C.2.2.2.2.1 gX12_lookMap_X12_isElement rfl rfl rfl (by decide +kernel) ⟨Nat.le_of_ble_eq_true rfl, Nat.le_of_ble_eq_true rfl⟩) (L91 hL (by decide) (by decide)) (by decide) rfl rfl rfl (Nat.le_of_ble_eq_true rfl) ⟨Nat.le_of_ble_eq_true rfl, Nat.le_of_ble_eq_true rfl⟩ ?_
                      refine g_if_ne (tgt := 141) C dX12_lookMap_135 (by decide) hf (fun hf => ?_) (fun hf => ?_)
                      · refine g_iinc (d := 1) C dX12_lookMap_141 rfl (by decide) rfl (Nat.le_of_ble_eq_true rfl) rfl rfl ?_
                        refine g_goto (tgt := 86) C dX12_lookMap_144 (by decide) ?_
                        have hx := hkz6 _ hf.symm
                        refine g_sub ?_ hx
                        exact (And.intro rfl (And.intro rfl (And.intro rfl (And.intro rfl (And.intro rfl trivial)))))
                      · refine g_ldc C k141 dX12_lookMap_138 ?_
                        replace hf := hrz6 _ hf.symm
                        dsimp only [Sum.elim_inr] at hf
                        obtain ⟨rfl, rfl⟩ := gs2 hf
                        exact g_iret C dX12_lookMap_140 hr hlk
                    · refine g_icmp_le (tgt := 109) C dX12_lookMap_102 (by decide) hf (fun hf => ?_) (fun hf => ?_)
                      · refine g_aload_n C dX12_lookMap_109 rfl rfl ?_
                        refine g_getR (i := 14) (j := 14) C dX12_lookMap_110 (L91 hL (by decide) (by decide)) c11 rfl (by decide) f67 (fun _ h9 => h9) (LR91_14 hL (by decide) (by decide)) ?_
                        refine g_bipush (v := 24) C dX12_lookMap_113 (by decide) ?_
                        refine g_iload_n C dX12_lookMap_115 rfl rfl ?_
                        refine g_imul C dX12_lookMap_116 ?_
                        refine g_iload_n C dX12_lookMap_117 rfl rfl ?_
                        refine g_iadd C dX12_lookMap_118 ?_
                        refine g_iload C dX12_lookMap_119 rfl ?_
                        refine g_iadd C dX12_lookMap_121 ?_
                        refine g_iald C dX12_lookMap_122 (L100 hL (by decide) (by decide)) ho hf (fun hf => ?_)
                        have hx := hkz8 _ hf.symm
                        refine g_sub ?_ hx
                        exact (And.intro rfl (And.intro rfl (And.intro rfl (And.intro rfl (And.intro rfl trivial)))))
                      · refine g_iconst (v := 0) C dX12_lookMap_105 (by decide) ?_
                        refine g_goto (tgt := 123) C dX12_lookMap_106 (by decide) ?_
                        have hx := hkz8 _ hf.symm
                        refine g_sub ?_ hx
                        exact (And.intro rfl (And.intro rfl (And.intro rfl (And.intro rfl (And.intro rfl trivial)))))
              · refine g_aload_n C dX12_lookMap_77 rfl rfl ?_
                refine g_iconst (v := 2) C dX12_lookMap_78 (by decide) ?_
                obtain ⟨z12, hz12, hf⟩ := gbind hf ho
                refine g_callV C dX12_lookMap_79 (m_X12_found l X N _ _ _  (gLay.sub hL (by decide) (by decide)) _ z12.1 z12.2 hz12) gEin0 (cwV 1 C.2.2.2.2.1 gX12_lookMap_X12_found rfl rfl rfl (by decide +kernel) ⟨Nat.le_of_ble_eq_true rfl, Nat.le_of_ble_eq_true rfl⟩) (L91 hL (by decide) (by decide)) (by decide) rfl rfl rfl (Nat.le_of_ble_eq_true rfl) ⟨Nat.le_of_ble_eq_true rfl, Nat.le_of_ble_eq_true rfl⟩ ?_
                obtain ⟨rfl, rfl⟩ := gs2 hf
                exact g_iret C dX12_lookMap_82 hr hlk
          · refine g_aload_n C dX12_lookMap_48 rfl rfl ?_
            refine g_iconst (v := 1) C dX12_lookMap_49 (by decide) ?_
            obtain ⟨z13, hz13, hf⟩ := gbind hf ho
            refine g_callV C dX12_lookMap_50 (m_X12_found l X N _ _ _  (gLay.sub hL (by decide) (by decide)) _ z13.1 z13.2 hz13) gEin0 (cwV 1 C.2.2.2.2.1 gX12_lookMap_X12_found rfl rfl rfl (by decide +kernel) ⟨Nat.le_of_ble_eq_true rfl, Nat.le_of_ble_eq_true rfl⟩) (L91 hL (by decide) (by decide)) (by decide) rfl rfl rfl (Nat.le_of_ble_eq_true rfl) ⟨Nat.le_of_ble_eq_true rfl, Nat.le_of_ble_eq_true rfl⟩ ?_
            obtain ⟨rfl, rfl⟩ := gs2 hf
            exact g_iret C dX12_lookMap_53 hr hlk
      · refine g_ldc C k141 dX12_lookMap_27 ?_
        obtain ⟨rfl, rfl⟩ := gs2 hf
        exact g_iret C dX12_lookMap_29 hr hlk
set_option maxRecDepth 100000 in
set_option maxHeartbeats 8000000 in
theorem m_X12_map (l : Launch) (X : gX) (N : Nat) (I : gI) (R : gR) (S : gS) (hL : gLay 91 114 R S) (a0 : Int32) (a1 : Int32) (a2 : Int32) (a3 : Int32) (a4 : Int32) (v : Int32) (J : gI) (hf : f_X12_map N I R S a0 a1 a2 a3 a4 = some (v, J)) : gM l yX12_map wsX12_map { frames := 6, cells := 0, slots := 0, locals := 139 } X gE0 [.ref (X.1 + 91), .int a0, .int a1, .int a2, .int a3, .int a4] I R S (some (.int v)) J R S 0 0 := by
  unfold f_X12_map at hf
  refine gM_of (cc := cX12_map) (own := RX12) (maxL := 11) (ret := (some .int)) (by decide) rfl rfl (Nat.le_of_ble_eq_true rfl) ?_
  intro p e s m args below meth c C hr hlk hnm hE
  have ho : (some (v, J)) ≠ none := fun h => by cases h
  have f1 := C.2.2.2.2.1 (.fieldLink RX12 1 "TimesByPowersModel" "thrown" "I") (by decide +kernel)
  have c11 : gCl wsX12_map 11 RX12 TX12 29 := ⟨by decide, rfl, rfl, by decide +kernel⟩
  have f7 := C.2.2.2.2.1 (.fieldLink RX12 7 "TimesByPowersModel" "status" "I") (by decide +kernel)
  have f70 := C.2.2.2.2.1 (.fieldLink RX12 70 "TimesByPowersModel" "rank" "[I") (by decide +kernel)
  have f76 := C.2.2.2.2.1 (.fieldLink RX12 76 "TimesByPowersModel" "made" "[I") (by decide +kernel)
  have f91 := C.2.2.2.2.1 (.fieldLink RX12 91 "TimesByPowersModel" "u" "[I") (by decide +kernel)
  have f73 := C.2.2.2.2.1 (.fieldLink RX12 73 "TimesByPowersModel" "t" "[I") (by decide +kernel)
  have f88 := C.2.2.2.2.1 (.fieldLink RX12 88 "TimesByPowersModel" "fresh" "[I") (by decide +kernel)
  have k142 := C.2.2.2.2.1 (.constant RX12 142 (-1000000)) (by decide +kernel)
  have k141 := C.2.2.2.2.1 (.constant RX12 141 (-1000001)) (by decide +kernel)
  refine g_aload_n C dX12_map_0 rfl rfl ?_
  refine g_iconst (v := 0) C dX12_map_1 (by decide) ?_
  refine g_putI (i := 0) (j := 0) C dX12_map_2 (L91 hL (by decide) (by decide)) c11 gy11 rfl f1 (fun _ h9 => h9) (Or.inl rfl) rfl ?_
  refine g_iload_n C dX12_map_5 rfl rfl ?_
  obtain ⟨z1, hz1, hf⟩ := gbind hf ho
  refine g_callS C dX12_map_6 (m_X12_isPlace l X N _ _ _  (gLay.sub hL (by decide) (by decide)) _ z1 hz1) gEin0 (va_cwS 1 C.2.2.2.2.1 gX12_map_X12_isPlace rfl rfl rfl (by decide +kernel) ⟨Nat.le_of_ble_eq_true rfl, Nat.le_of_ble_eq_true rfl⟩) rfl rfl (Nat.le_of_ble_eq_true rfl) ⟨Nat.le_of_ble_eq_true rfl, Nat.le_of_ble_eq_true rfl⟩ ?_
  refine g_if_ne (tgt := 15) C dX12_map_9 (by decide) hf (fun hf => ?_) (fun hf => ?_)
  · refine g_aload_n C dX12_map_15 rfl rfl ?_
    refine g_iload_n C dX12_map_16 rfl rfl ?_
    refine g_iload_n C dX12_map_17 rfl rfl ?_
    refine g_iload C dX12_map_18 rfl ?_
    refine g_iload C dX12_map_20 rfl ?_
    obtain ⟨z2, hz2, hf⟩ := gbind hf ho
    refine g_callV C dX12_map_22 (m_X12_lookMap l X N _ _ _  (gLay.sub hL (by decide) (by decide)) _ _ _ _ z2.1 z2.2 hz2) gEin0 (cwV 4 C.2.2.2.2.1 gX12_map_X12_lookMap rfl rfl rfl (by decide +kernel) ⟨Nat.le_of_ble_eq_true rfl, Nat.le_of_ble_eq_true rfl⟩) (L91 hL (by decide) (by decide)) (by decide) rfl rfl rfl (Nat.le_of_ble_eq_true rfl) ⟨Nat.le_of_ble_eq_true rfl, Nat.le_of_ble_eq_true rfl⟩ ?_
    refine g_istore C dX12_map_25 (Nat.le_of_ble_eq_true rfl) rfl rfl ?_
    refine g_iload C dX12_map_27 rfl ?_
    refine g_if_ge (tgt := 35) C dX12_map_29 (by decide) hf (fun hf => ?_) (fun hf => ?_)
    · refine g_aload_n C dX12_map_35 rfl rfl ?_
      refine g_iconst (v := 0) C dX12_map_36 (by decide) ?_
      refine g_putI (i := 1) (j := 1) C dX12_map_37 (L91 hL (by decide) (by decide)) c11 gy11 rfl f7 (fun _ h9 => h9) (Or.inl rfl) rfl ?_
      refine g_aload_n C dX12_map_40 rfl rfl ?_
      refine g_getR (i := 15) (j := 15) C dX12_map_41 (L91 hL (by decide) (by decide)) c11 rfl (by decide) f70 (fun _ h9 => h9) (LR91_15 hL (by decide) (by decide)) ?_
      refine g_iload_n C dX12_map_44 rfl rfl ?_
      refine g_iald C dX12_map_45 (L101 hL (by decide) (by decide)) ho hf (fun hf => ?_)
      refine g_istore C dX12_map_46 (Nat.le_of_ble_eq_true rfl) rfl rfl ?_
      refine g_iconst (v := 0) C dX12_map_48 (by decide) ?_
      refine g_istore C dX12_map_49 (Nat.le_of_ble_eq_true rfl) rfl rfl ?_
      refine g_loop (fun z3 => [(0, .ref (X.1 + 91)), (1, .int a0), (2, .int a1), (5, .int a4), (7, .int ((gU z2.2 91 1 (0 : Int32)) 101 a1.toNatClampNeg)), (8, .int z3.1)]) (fun z3 => z3.2) (fun r4 => [(0, .ref (X.1 + 91)), (1, .int a0), (2, .int a1), (5, .int a4), (7, .int ((gU z2.2 91 1 (0 : Int32)) 101 a1.toNatClampNeg))]) (fun r4 => r4) 72 hf ho (And.intro rfl (And.intro rfl (And.intro rfl (And.intro rfl (And.intro rfl (And.intro rfl trivial)))))) rfl (fun r4 hf => ?_) (fun z3 o1 hf ho hkz3 hez3 => ?_)
      · refine g_iconst (v := 0) C dX12_map_72 (by decide) ?_
        refine g_istore C dX12_map_73 (Nat.le_of_ble_eq_true rfl) rfl rfl ?_
        refine g_loop (fun z5 => [(0, .ref (X.1 + 91)), (1, .int a0), (2, .int a1), (5, .int a4), (7, .int ((gU z2.2 91 1 (0 : Int32)) 101 a1.toNatClampNeg)), (8, .int z5.1)]) (fun z5 => z5.2) (fun r6 => [(0, .ref (X.1 + 91)), (1, .int a0), (5, .int a4), (7, .int ((gU z2.2 91 1 (0 : Int32)) 101 a1.toNatClampNeg))]) (fun r6 => r6) 156 hf ho (And.intro rfl (And.intro rfl (And.intro rfl (And.intro rfl (And.intro rfl (And.intro rfl trivial)))))) rfl (fun r6 hf => ?_) (fun z5 o1 hf ho hkz5 hez5 => ?_)
        · refine g_iconst (v := 0) C dX12_map_156 (by decide) ?_
          refine g_istore C dX12_map_157 (Nat.le_of_ble_eq_true rfl) rfl rfl ?_
          refine g_loopR (fun z12 => [(0, .ref (X.1 + 91)), (1, .int a0), (5, .int a4), (7, .int ((gU z2.2 91 1 (0 : Int32)) 101 a1.toNatClampNeg)), (8, .int z12.1)]) (fun z12 => z12.2) (fun r13 => [(0, .ref (X.1 + 91)), (1, .int a0), (7, .int ((gU z2.2 91 1 (0 : Int32)) 101 a1.toNatClampNeg))]) (fun r13 => r13) 303 hf ho (And.intro rfl (And.intro rfl (And.intro rfl (And.intro rfl (And.intro rfl trivial))))) rfl (fun r13 hf => ?_) (fun z12 o1 hf ho hkz12 hez12 hrz12 => ?_)
          · refine g_aload_n C dX12_map_303 rfl rfl ?_
            refine g_iload_n C dX12_map_304 rfl rfl ?_
            refine g_iload C dX12_map_305 rfl ?_
            obtain ⟨z23, hz23, hf⟩ := gbind hf ho
            refine g_callV C dX12_map_307 (m_X12_lay l X N _ _ _  (gLay.sub hL (by decide) (by decide)) _ _ z23.1 z23.2 hz23) gEin0 (cwV 2 C.2.2.2.2.1 gX12_map_X12_lay rfl rfl rfl (by decide +kernel) ⟨Nat.le_of_ble_eq_true rfl, Nat.le_of_ble_eq_true rfl⟩) (L91 hL (by decide) (by decide)) (by decide) rfl rfl rfl (Nat.le_of_ble_eq_true rfl) ⟨Nat.le_of_ble_eq_true rfl, Nat.le_of_ble_eq_true rfl⟩ ?_
            obtain ⟨rfl, rfl⟩ := gs2 hf
            exact g_iret C dX12_map_310 hr hlk
          · refine g_iload C dX12_map_159 rfl ?_
            refine g_iload C dX12_map_161 rfl ?_
            refine g_iload C dX12_map_163 rfl ?_
            refine g_iadd C dX12_map_165 ?_
            refine g_icmp_gt (tgt := 303) C dX12_map_166 (by decide) hf (fun hf => ?_) (fun hf => ?_)
            · have hx := hez12 _ hf.symm
              refine g_sub ?_ hx
              exact (And.intro rfl (And.intro rfl (And.intro rfl trivial)))
            · refine g_aload_n C dX12_map_169 rfl rfl ?_
              refine g_getR (i := 17) (j := 17) C dX12_map_170 (L91 hL (by decide) (by decide)) c11 rfl (by decide) f76 (fun _ h9 => h9) (LR91_17 hL (by decide) (by decide)) ?_
              refine g_iload C dX12_map_173 rfl ?_
              refine g_iald C dX12_map_175 (L103 hL (by decide) (by decide)) ho hf (fun hf => ?_)
              refine g_istore C dX12_map_176 (Nat.le_of_ble_eq_true rfl) rfl rfl ?_
              refine g_iconst (v := 0) C dX12_map_178 (by decide) ?_
              refine g_istore C dX12_map_179 (Nat.le_of_ble_eq_true rfl) rfl rfl ?_
              refine g_loop (fun z14 => [(0, .ref (X.1 + 91)), (1, .int a0), (5, .int a4), (7, .int ((gU z2.2 91 1 (0 : Int32)) 101 a1.toNatClampNeg)), (8, .int z12.1), (9, .int z14.1), (10, .int z14.2)]) (fun z14 => z12.2) (fun r15 => [(0, .ref (X.1 + 91)), (1, .int a0), (5, .int a4), (7, .int ((gU z2.2 91 1 (0 : Int32)) 101 a1.toNatClampNeg)), (8, .int z12.1), (9, .int r15)]) (fun r15 => z12.2) 250 hf ho (And.intro rfl (And.intro rfl (And.intro rfl (And.intro rfl (And.intro rfl (And.intro rfl (And.intro rfl trivial))))))) rfl (fun r15 hf => ?_) (fun z14 o1 hf ho hkz14 hez14 => ?_)
              · refine g_iload C dX12_map_250 rfl ?_
                refine g_iload C dX12_map_252 rfl ?_
                refine g_icmp_gt (tgt := 289) C dX12_map_254 (by decide) hf (fun hf => ?_) (fun hf => ?_)
                · refine g_iload C dX12_map_289 rfl ?_
                  refine g_if_eq (tgt := 297) C dX12_map_291 (by decide) hf (fun hf => ?_) (fun hf => ?_)
                  · refine g_iinc (d := 1) C dX12_map_297 rfl (by decide) rfl (Nat.le_of_ble_eq_true rfl) rfl rfl ?_
                    refine g_goto (tgt := 159) C dX12_map_300 (by decide) ?_
                    have hx := hkz12 _ hf.symm
                    refine g_sub ?_ hx
                    exact (And.intro rfl (And.intro rfl (And.intro rfl (And.intro rfl (And.intro rfl trivial)))))
                  · refine g_ldc C k142 dX12_map_294 ?_
                    replace hf := hrz12 _ hf.symm
                    dsimp only [Sum.elim_inr] at hf
                    obtain ⟨rfl, rfl⟩ := gs2 hf
                    exact g_iret C dX12_map_296 hr hlk
                · refine g_aload_n C dX12_map_257 rfl rfl ?_
                  refine g_getR (i := 21) (j := 21) C dX12_map_258 (L91 hL (by decide) (by decide)) c11 rfl (by decide) f88 (fun _ h9 => h9) (LR91_21 hL (by decide) (by decide)) ?_
                  refine g_iload C dX12_map_261 rfl ?_
                  refine g_aload_n C dX12_map_263 rfl rfl ?_
                  refine g_iload C dX12_map_264 rfl ?_
                  refine g_aload_n C dX12_map_266 rfl rfl ?_
                  refine g_aload_n C dX12_map_267 rfl rfl ?_
                  refine g_aload_n C dX12_map_268 rfl rfl ?_
                  refine g_getR (i := 22) (j := 22) C dX12_map_269 (L91 hL (by decide) (by decide)) c11 rfl (by decide) f91 (fun _ h9 => h9) (LR91_22 hL (by decide) (by decide)) ?_
                  refine g_iconst (v := 0) C dX12_map_272 (by decide) ?_
                  refine g_iald C dX12_map_273 (L108 hL (by decide) (by decide)) ho hf (fun hf => ?_)
                  refine g_iload C dX12_map_274 rfl ?_
                  obtain ⟨z20, hz20, hf⟩ := gbind hf ho
                  refine g_callV C dX12_map_276 (m_X12_far l X N _ _ _  (gLay.sub hL (by decide) (by decide)) _ _ z20 hz20) gEin0 (cwV 2 C.2.2.2.2.1 gX12_map_X12_far rfl rfl rfl (by decide +kernel) ⟨Nat.le_of_ble_eq_true rfl, Nat.le_of_ble_eq_true rfl⟩) (L91 hL (by decide) (by decide)) (by decide) rfl rfl rfl (Nat.le_of_ble_eq_true rfl) ⟨Nat.le_of_ble_eq_true rfl, Nat.le_of_ble_eq_true rfl⟩ ?_
                  obtain ⟨z21, hz21, hf⟩ := gbind hf ho
                  refine g_callV C dX12_map_279 (m_X12_inverse l X N _ _ _  (gLay.sub hL (by decide) (by decide)) _ z21 hz21) gEin0 (cwV 1 C.2.2.2.2.1 gX12_map_X12_inverse rfl rfl rfl (by decide +kernel) ⟨Nat.le_of_ble_eq_true rfl, Nat.le_of_ble_eq_true rfl⟩) (L91 hL (by decide) (by decide)) (by decide) rfl rfl rfl (Nat.le_of_ble_eq_true rfl) ⟨Nat.le_of_ble_eq_true rfl, Nat.le_of_ble_eq_true rfl⟩ ?_
                  obtain ⟨z22, hz22, hf⟩ := gbind hf ho
                  refine g_callV C dX12_map_282 (m_X12_times l X N _ _ _  (gLay.sub hL (by decide) (by decide)) _ _ z22 hz22) gEin0 (cwV 2 C.2.2.2.2.1 gX12_map_X12_times rfl rfl rfl (by decide +kernel) ⟨Nat.le_of_ble_eq_true rfl, Nat.le_of_ble_eq_true rfl⟩) (L91 hL (by decide) (by decide)) (by decide) rfl rfl rfl (Nat.le_of_ble_eq_true rfl) ⟨Nat.le_of_ble_eq_true rfl, Nat.le_of_ble_eq_true rfl⟩ ?_
                  refine g_iast C dX12_map_285 (L107 hL (by decide) (by decide)) ho hf (fun hf => ?_)
                  refine g_goto (tgt := 297) C dX12_map_286 (by decide) ?_
                  refine g_iinc (d := 1) C dX12_map_297 rfl (by decide) rfl (Nat.le_of_ble_eq_true rfl) rfl rfl ?_
                  refine g_goto (tgt := 159) C dX12_map_300 (by decide) ?_
                  have hx := hkz12 _ hf.symm
                  refine g_sub ?_ hx
                  exact (And.intro rfl (And.intro rfl (And.intro rfl (And.intro rfl (And.intro rfl trivial)))))
              · refine g_iload C dX12_map_181 rfl ?_
                refine g_iload C dX12_map_183 rfl ?_
                refine g_icmp_ge (tgt := 250) C dX12_map_185 (by decide) hf (fun hf => ?_) (fun hf => ?_)
                · have hx := hez14 _ hf.symm
                  refine g_sub ?_ hx
                  exact (And.intro rfl (And.intro rfl (And.intro rfl (And.intro rfl (And.intro rfl (And.intro rfl trivial))))))
                · refine g_iload C dX12_map_188 rfl ?_
                  refine g_iload C dX12_map_190 rfl ?_
                  refine g_icmp_gt (tgt := 250) C dX12_map_192 (by decide) hf (fun hf => ?_) (fun hf => ?_)
                  · have hx := hez14 _ hf.symm
                    refine g_sub ?_ hx
                    exact (And.intro rfl (And.intro rfl (And.intro rfl (And.intro rfl (And.intro rfl (And.intro rfl trivial))))))
                  · refine g_aload_n C dX12_map_195 rfl rfl ?_
                    refine g_iload C dX12_map_196 rfl ?_
                    refine g_iload C dX12_map_198 rfl ?_
                    refine g_iload C dX12_map_200 rfl ?_
                    refine g_isub C dX12_map_202 ?_
                    refine g_iload C dX12_map_203 rfl ?_
                    refine g_join (fun z16 => [(0, .ref (X.1 + 91)), (1, .int a0), (5, .int a4), (7, .int ((gU z2.2 91 1 (0 : Int32)) 101 a1.toNatClampNeg)), (8, .int z12.1), (10, .int z14.2)]) (fun z16 => [.int z16, .int z14.1, .ref (X.1 + 91)]) (fun z16 => z12.2) 239 hf ho (fun z16 hf => ?_) (fun o1 hf ho hkz16 => ?_)
                    · obtain ⟨z19, hz19, hf⟩ := gbind hf ho
                      refine g_callV C dX12_map_239 (m_X12_less l X N _ _ _  (gLay.sub hL (by decide) (by decide)) _ _ z19 hz19) gEin0 (cwV 2 C.2.2.2.2.1 gX12_map_X12_less rfl rfl rfl (by decide +kernel) ⟨Nat.le_of_ble_eq_true rfl, Nat.le_of_ble_eq_true rfl⟩) (L91 hL (by decide) (by decide)) (by decide) rfl rfl rfl (Nat.le_of_ble_eq_true rfl) ⟨Nat.le_of_ble_eq_true rfl, Nat.le_of_ble_eq_true rfl⟩ ?_
                      refine g_istore C dX12_map_242 (Nat.le_of_ble_eq_true rfl) rfl rfl ?_
                      refine g_iinc (d := 1) C dX12_map_244 rfl (by decide) rfl (Nat.le_of_ble_eq_true rfl) rfl rfl ?_
                      refine g_goto (tgt := 181) C dX12_map_247 (by decide) ?_
                      have hx := hkz14 _ hf.symm
                      refine g_sub ?_ hx
                      exact (And.intro rfl (And.intro rfl (And.intro rfl (And.intro rfl (And.intro rfl (And.intro rfl (And.intro rfl trivial)))))))
                    · refine g_icmp_le (tgt := 212) C dX12_map_205 (by decide) hf (fun hf => ?_) (fun hf => ?_)
                      · refine g_aload_n C dX12_map_212 rfl rfl ?_
                        refine g_aload_n C dX12_map_213 rfl rfl ?_
                        refine g_getR (i := 21) (j := 21) C dX12_map_214 (L91 hL (by decide) (by decide)) c11 rfl (by decide) f88 (fun _ h9 => h9) (LR91_21 hL (by decide) (by decide)) ?_
                        refine g_iload C dX12_map_217 rfl ?_
                        refine g_iald C dX12_map_219 (L107 hL (by decide) (by decide)) ho hf (fun hf => ?_)
                        refine g_aload_n C dX12_map_220 rfl rfl ?_
                        refine g_aload_n C dX12_map_221 rfl rfl ?_
                        refine g_getR (i := 22) (j := 22) C dX12_map_222 (L91 hL (by decide) (by decide)) c11 rfl (by decide) f91 (fun _ h9 => h9) (LR91_22 hL (by decide) (by decide)) ?_
                        refine g_iload C dX12_map_225 rfl ?_
                        refine g_iload C dX12_map_227 rfl ?_
                        refine g_isub C dX12_map_229 ?_
                        refine g_iald C dX12_map_230 (L108 hL (by decide) (by decide)) ho hf (fun hf => ?_)
                        refine g_iload C dX12_map_231 rfl ?_
                        obtain ⟨z17, hz17, hf⟩ := gbind hf ho
                        refine g_callV C dX12_map_233 (m_X12_far l X N _ _ _  (gLay.sub hL (by decide) (by decide)) _ _ z17 hz17) gEin0 (cwV 2 C.2.2.2.2.1 gX12_map_X12_far rfl rfl rfl (by decide +kernel) ⟨Nat.le_of_ble_eq_true rfl, Nat.le_of_ble_eq_true rfl⟩) (L91 hL (by decide) (by decide)) (by decide) rfl rfl rfl (Nat.le_of_ble_eq_true rfl) ⟨Nat.le_of_ble_eq_true rfl, Nat.le_of_ble_eq_true rfl⟩ ?_
                        obtain ⟨z18, hz18, hf⟩ := gbind hf ho
                        refine g_callV C dX12_map_236 (m_X12_times l X N _ _ _  (gLay.sub hL (by decide) (by decide)) _ _ z18 hz18) gEin0 (cwV 2 C.2.2.2.2.1 gX12_map_X12_times rfl rfl rfl (by decide +kernel) ⟨Nat.le_of_ble_eq_true rfl, Nat.le_of_ble_eq_true rfl⟩) (L91 hL (by decide) (by decide)) (by decide) rfl rfl rfl (Nat.le_of_ble_eq_true rfl) ⟨Nat.le_of_ble_eq_true rfl, Nat.le_of_ble_eq_true rfl⟩ ?_
                        have hx := hkz16 _ hf.symm
                        refine g_sub ?_ hx
                        exact (And.intro rfl (And.intro rfl (And.intro rfl (And.intro rfl (And.intro rfl (And.intro rfl trivial))))))
                      · refine g_iconst (v := 0) C dX12_map_208 (by decide) ?_
                        refine g_goto (tgt := 239) C dX12_map_209 (by decide) ?_
                        have hx := hkz16 _ hf.symm
                        refine g_sub ?_ hx
                        exact (And.intro rfl (And.intro rfl (And.intro rfl (And.intro rfl (And.intro rfl (And.intro rfl trivial))))))
        · refine g_iload C dX12_map_75 rfl ?_
          refine g_iload C dX12_map_77 rfl ?_
          refine g_icmp_gt (tgt := 156) C dX12_map_79 (by decide) hf (fun hf => ?_) (fun hf => ?_)
          · have hx := hez5 _ hf.symm
            refine g_sub ?_ hx
            exact (And.intro rfl (And.intro rfl (And.intro rfl (And.intro rfl trivial))))
          · refine g_iconst (v := 0) C dX12_map_82 (by decide) ?_
            refine g_istore C dX12_map_83 (Nat.le_of_ble_eq_true rfl) rfl rfl ?_
            refine g_loop (fun z7 => [(0, .ref (X.1 + 91)), (1, .int a0), (2, .int a1), (5, .int a4), (7, .int ((gU z2.2 91 1 (0 : Int32)) 101 a1.toNatClampNeg)), (8, .int z5.1), (9, .int z7.1)]) (fun z7 => z7.2) (fun r8 => [(0, .ref (X.1 + 91)), (1, .int a0), (2, .int a1), (5, .int a4), (7, .int ((gU z2.2 91 1 (0 : Int32)) 101 a1.toNatClampNeg)), (8, .int z5.1)]) (fun r8 => r8) 150 hf ho (And.intro rfl (And.intro rfl (And.intro rfl (And.intro rfl (And.intro rfl (And.intro rfl (And.intro rfl trivial))))))) rfl (fun r8 hf => ?_) (fun z7 o1 hf ho hkz7 hez7 => ?_)
            · refine g_iinc (d := 1) C dX12_map_150 rfl (by decide) rfl (Nat.le_of_ble_eq_true rfl) rfl rfl ?_
              refine g_goto (tgt := 75) C dX12_map_153 (by decide) ?_
              have hx := hkz5 _ hf.symm
              refine g_sub ?_ hx
              exact (And.intro rfl (And.intro rfl (And.intro rfl (And.intro rfl (And.intro rfl (And.intro rfl trivial))))))
            · refine g_iload C dX12_map_85 rfl ?_
              refine g_iload C dX12_map_87 rfl ?_
              refine g_icmp_gt (tgt := 150) C dX12_map_89 (by decide) hf (fun hf => ?_) (fun hf => ?_)
              · have hx := hez7 _ hf.symm
                refine g_sub ?_ hx
                exact (And.intro rfl (And.intro rfl (And.intro rfl (And.intro rfl (And.intro rfl (And.intro rfl trivial))))))
              · refine g_aload_n C dX12_map_92 rfl rfl ?_
                refine g_getR (i := 17) (j := 17) C dX12_map_93 (L91 hL (by decide) (by decide)) c11 rfl (by decide) f76 (fun _ h9 => h9) (LR91_17 hL (by decide) (by decide)) ?_
                refine g_iload C dX12_map_96 rfl ?_
                refine g_iload C dX12_map_98 rfl ?_
                refine g_iadd C dX12_map_100 ?_
                refine g_aload_n C dX12_map_101 rfl rfl ?_
                refine g_aload_n C dX12_map_102 rfl rfl ?_
                refine g_getR (i := 17) (j := 17) C dX12_map_103 (L91 hL (by decide) (by decide)) c11 rfl (by decide) f76 (fun _ h9 => h9) (LR91_17 hL (by decide) (by decide)) ?_
                refine g_iload C dX12_map_106 rfl ?_
                refine g_iload C dX12_map_108 rfl ?_
                refine g_iadd C dX12_map_110 ?_
                refine g_iald C dX12_map_111 (L103 hL (by decide) (by decide)) ho hf (fun hf => ?_)
                refine g_aload_n C dX12_map_112 rfl rfl ?_
                refine g_aload_n C dX12_map_113 rfl rfl ?_
                refine g_getR (i := 22) (j := 22) C dX12_map_114 (L91 hL (by decide) (by decide)) c11 rfl (by decide) f91 (fun _ h9 => h9) (LR91_22 hL (by decide) (by decide)) ?_
                refine g_iload C dX12_map_117 rfl ?_
                refine g_iald C dX12_map_119 (L108 hL (by decide) (by decide)) ho hf (fun hf => ?_)
                refine g_aload_n C dX12_map_120 rfl rfl ?_
                refine g_aload_n C dX12_map_121 rfl rfl ?_
                refine g_getR (i := 16) (j := 16) C dX12_map_122 (L91 hL (by decide) (by decide)) c11 rfl (by decide) f73 (fun _ h9 => h9) (LR91_16 hL (by decide) (by decide)) ?_
                refine g_iconst (v := 4) C dX12_map_125 (by decide) ?_
                refine g_iload_n C dX12_map_126 rfl rfl ?_
                refine g_imul C dX12_map_127 ?_
                refine g_iload C dX12_map_128 rfl ?_
                refine g_iadd C dX12_map_130 ?_
                refine g_iald C dX12_map_131 (L102 hL (by decide) (by decide)) ho hf (fun hf => ?_)
                refine g_iload C dX12_map_132 rfl ?_
                obtain ⟨z9, hz9, hf⟩ := gbind hf ho
                refine g_callV C dX12_map_134 (m_X12_far l X N _ _ _  (gLay.sub hL (by decide) (by decide)) _ _ z9 hz9) gEin0 (cwV 2 C.2.2.2.2.1 gX12_map_X12_far rfl rfl rfl (by decide +kernel) ⟨Nat.le_of_ble_eq_true rfl, Nat.le_of_ble_eq_true rfl⟩) (L91 hL (by decide) (by decide)) (by decide) rfl rfl rfl (Nat.le_of_ble_eq_true rfl) ⟨Nat.le_of_ble_eq_true rfl, Nat.le_of_ble_eq_true rfl⟩ ?_
                obtain ⟨z10, hz10, hf⟩ := gbind hf ho
                refine g_callV C dX12_map_137 (m_X12_times l X N _ _ _  (gLay.sub hL (by decide) (by decide)) _ _ z10 hz10) gEin0 (cwV 2 C.2.2.2.2.1 gX12_map_X12_times rfl rfl rfl (by decide +kernel) ⟨Nat.le_of_ble_eq_true rfl, Nat.le_of_ble_eq_true rfl⟩) (L91 hL (by decide) (by decide)) (by decide) rfl rfl rfl (Nat.le_of_ble_eq_true rfl) ⟨Nat.le_of_ble_eq_true rfl, Nat.le_of_ble_eq_true rfl⟩ ?_
                obtain ⟨z11, hz11, hf⟩ := gbind hf ho
                refine g_callV C dX12_map_140 (m_X12_add l X N _ _ _  (gLay.sub hL (by decide) (by decide)) _ _ z11 hz11) gEin0 (cwV 2 C.2.2.2.2.1 gX12_map_X12_add rfl rfl rfl (by decide +kernel) ⟨Nat.le_of_ble_eq_true rfl, Nat.le_of_ble_eq_true rfl⟩) (L91 hL (by decide) (by decide)) (by decide) rfl rfl rfl (Nat.le_of_ble_eq_true rfl) ⟨Nat.le_of_ble_eq_true rfl, Nat.le_of_ble_eq_true rfl⟩ ?_
                refine g_iast C dX12_map_143 (L103 hL (by decide) (by decide)) ho hf (fun hf => ?_)
                refine g_iinc (d := 1) C dX12_map_144 rfl (by decide) rfl (Nat.le_of_ble_eq_true rfl) rfl rfl ?_
                refine g_goto (tgt := 85) C dX12_map_147 (by decide) ?_
                have hx := hkz7 _ hf.symm
                refine g_sub ?_ hx
                exact (And.intro rfl (And.intro rfl (And.intro rfl (And.intro rfl (And.intro rfl (And.intro rfl (And.intro rfl trivial)))))))
      · refine g_iload C dX12_map_51 rfl ?_
        refine g_bipush (v := 24) C dX12_map_53 (by decide) ?_
        refine g_icmp_ge (tgt := 72) C dX12_map_55 (by decide) hf (fun hf => ?_) (fun hf => ?_)
        · have hx := hez3 _ hf.symm
          refine g_sub ?_ hx
          exact (And.intro rfl (And.intro rfl (And.intro rfl (And.intro rfl (And.intro rfl trivial)))))
        · refine g_aload_n C dX12_map_58 rfl rfl ?_
          refine g_getR (i := 17) (j := 17) C dX12_map_59 (L91 hL (by decide) (by decide)) c11 rfl (by decide) f76 (fun _ h9 => h9) (LR91_17 hL (by decide) (by decide)) ?_
          refine g_iload C dX12_map_62 rfl ?_
          refine g_iconst (v := 0) C dX12_map_64 (by decide) ?_
          refine g_iast C dX12_map_65 (L103 hL (by decide) (by decide)) ho hf (fun hf => ?_)
          refine g_iinc (d := 1) C dX12_map_66 rfl (by decide) rfl (Nat.le_of_ble_eq_true rfl) rfl rfl ?_
          refine g_goto (tgt := 51) C dX12_map_69 (by decide) ?_
          have hx := hkz3 _ hf.symm
          refine g_sub ?_ hx
          exact (And.intro rfl (And.intro rfl (And.intro rfl (And.intro rfl (And.intro rfl (And.intro rfl trivial))))))
    · refine g_iload C dX12_map_32 rfl ?_
      obtain ⟨rfl, rfl⟩ := gs2 hf
      exact g_iret C dX12_map_34 hr hlk
  · refine g_ldc C k141 dX12_map_12 ?_
    obtain ⟨rfl, rfl⟩ := gs2 hf
    exact g_iret C dX12_map_14 hr hlk
set_option maxRecDepth 100000 in
set_option maxHeartbeats 8000000 in
theorem m_X12_clear (l : Launch) (X : gX) (N : Nat) (I : gI) (R : gR) (S : gS) (hL : gLay 91 114 R S) (a0 : Int32) (v : Int32) (J : gI) (hf : f_X12_clear N I R S a0 = some (v, J)) : gM l yX12_clear wsX12_clear { frames := 2, cells := 0, slots := 0, locals := 45 } X gE0 [.ref (X.1 + 91), .int a0] I R S (some (.int v)) J R S 0 0 := by
  unfold f_X12_clear at hf
  refine gM_of (cc := cX12_clear) (own := RX12) (maxL := 3) (ret := (some .int)) (by decide) rfl rfl (Nat.le_of_ble_eq_true rfl) ?_
  intro p e s m args below meth c C hr hlk hnm hE
  have ho : (some (v, J)) ≠ none := fun h => by cases h
  have f1 := C.2.2.2.2.1 (.fieldLink RX12 1 "TimesByPowersModel" "thrown" "I") (by decide +kernel)
  have c11 : gCl wsX12_clear 11 RX12 TX12 29 := ⟨by decide, rfl, rfl, by decide +kernel⟩
  have f70 := C.2.2.2.2.1 (.fieldLink RX12 70 "TimesByPowersModel" "rank" "[I") (by decide +kernel)
  have k141 := C.2.2.2.2.1 (.constant RX12 141 (-1000001)) (by decide +kernel)
  refine g_aload_n C dX12_clear_0 rfl rfl ?_
  refine g_iconst (v := 0) C dX12_clear_1 (by decide) ?_
  refine g_putI (i := 0) (j := 0) C dX12_clear_2 (L91 hL (by decide) (by decide)) c11 gy11 rfl f1 (fun _ h9 => h9) (Or.inl rfl) rfl ?_
  refine g_iload_n C dX12_clear_5 rfl rfl ?_
  obtain ⟨z1, hz1, hf⟩ := gbind hf ho
  refine g_callS C dX12_clear_6 (m_X12_isPlace l X N _ _ _  (gLay.sub hL (by decide) (by decide)) _ z1 hz1) gEin0 (va_cwS 1 C.2.2.2.2.1 gX12_clear_X12_isPlace rfl rfl rfl (by decide +kernel) ⟨Nat.le_of_ble_eq_true rfl, Nat.le_of_ble_eq_true rfl⟩) rfl rfl (Nat.le_of_ble_eq_true rfl) ⟨Nat.le_of_ble_eq_true rfl, Nat.le_of_ble_eq_true rfl⟩ ?_
  refine g_if_ne (tgt := 15) C dX12_clear_9 (by decide) hf (fun hf => ?_) (fun hf => ?_)
  · refine g_aload_n C dX12_clear_15 rfl rfl ?_
    refine g_getR (i := 15) (j := 15) C dX12_clear_16 (L91 hL (by decide) (by decide)) c11 rfl (by decide) f70 (fun _ h9 => h9) (LR91_15 hL (by decide) (by decide)) ?_
    refine g_iload_n C dX12_clear_19 rfl rfl ?_
    refine g_iald C dX12_clear_20 (L101 hL (by decide) (by decide)) ho hf (fun hf => ?_)
    refine g_join (fun z2 => [(0, .ref (X.1 + 91)), (1, .int a0)]) (fun z2 => [.int z2]) (fun z2 => gU I 91 0 (0 : Int32)) 29 hf ho (fun z2 hf => ?_) (fun o1 hf ho hkz2 => ?_)
    · refine g_istore_n C dX12_clear_29 rfl (Nat.le_of_ble_eq_true rfl) rfl rfl ?_
      refine g_aload_n C dX12_clear_30 rfl rfl ?_
      refine g_getR (i := 15) (j := 15) C dX12_clear_31 (L91 hL (by decide) (by decide)) c11 rfl (by decide) f70 (fun _ h9 => h9) (LR91_15 hL (by decide) (by decide)) ?_
      refine g_iload_n C dX12_clear_34 rfl rfl ?_
      refine g_iconst (v := 0) C dX12_clear_35 (by decide) ?_
      refine g_iast C dX12_clear_36 (L101 hL (by decide) (by decide)) ho hf (fun hf => ?_)
      refine g_iload_n C dX12_clear_37 rfl rfl ?_
      refine g_if_eq (tgt := 45) C dX12_clear_38 (by decide) hf (fun hf => ?_) (fun hf => ?_)
      · refine g_iconst (v := 0) C dX12_clear_45 (by decide) ?_
        obtain ⟨rfl, rfl⟩ := gs2 hf
        exact g_iret C dX12_clear_46 hr hlk
      · refine g_iconst (v := 1) C dX12_clear_41 (by decide) ?_
        refine g_goto (tgt := 46) C dX12_clear_42 (by decide) ?_
        obtain ⟨rfl, rfl⟩ := gs2 hf
        exact g_iret C dX12_clear_46 hr hlk
    · refine g_if_le (tgt := 28) C dX12_clear_21 (by decide) hf (fun hf => ?_) (fun hf => ?_)
      · refine g_iconst (v := 0) C dX12_clear_28 (by decide) ?_
        have hx := hkz2 _ hf.symm
        refine g_sub ?_ hx
        exact (And.intro rfl (And.intro rfl trivial))
      · refine g_iconst (v := 1) C dX12_clear_24 (by decide) ?_
        refine g_goto (tgt := 29) C dX12_clear_25 (by decide) ?_
        have hx := hkz2 _ hf.symm
        refine g_sub ?_ hx
        exact (And.intro rfl (And.intro rfl trivial))
  · refine g_ldc C k141 dX12_clear_12 ?_
    obtain ⟨rfl, rfl⟩ := gs2 hf
    exact g_iret C dX12_clear_14 hr hlk
set_option maxRecDepth 100000 in
set_option maxHeartbeats 8000000 in
theorem m_X12_look (l : Launch) (X : gX) (N : Nat) (I : gI) (R : gR) (S : gS) (hL : gLay 91 114 R S) (a0 : Int32) (v : Int32) (J : gI) (hf : f_X12_look N I R S a0 = some (v, J)) : gM l yX12_look wsX12_look { frames := 1, cells := 0, slots := 0, locals := 21 } X gE0 [.ref (X.1 + 91), .int a0] I R S (some (.int v)) J R S 0 0 := by
  unfold f_X12_look at hf
  refine gM_of (cc := cX12_look) (own := RX12) (maxL := 2) (ret := (some .int)) (by decide) rfl rfl (Nat.le_of_ble_eq_true rfl) ?_
  intro p e s m args below meth c C hr hlk hnm hE
  have ho : (some (v, J)) ≠ none := fun h => by cases h
  have f7 := C.2.2.2.2.1 (.fieldLink RX12 7 "TimesByPowersModel" "status" "I") (by decide +kernel)
  have c11 : gCl wsX12_look 11 RX12 TX12 29 := ⟨by decide, rfl, rfl, by decide +kernel⟩
  have f70 := C.2.2.2.2.1 (.fieldLink RX12 70 "TimesByPowersModel" "rank" "[I") (by decide +kernel)
  refine g_aload_n C dX12_look_0 rfl rfl ?_
  refine g_iconst (v := 0) C dX12_look_1 (by decide) ?_
  refine g_putI (i := 1) (j := 1) C dX12_look_2 (L91 hL (by decide) (by decide)) c11 gy11 rfl f7 (fun _ h9 => h9) (Or.inl rfl) rfl ?_
  refine g_aload_n C dX12_look_5 rfl rfl ?_
  refine g_getR (i := 15) (j := 15) C dX12_look_6 (L91 hL (by decide) (by decide)) c11 rfl (by decide) f70 (fun _ h9 => h9) (LR91_15 hL (by decide) (by decide)) ?_
  refine g_iload_n C dX12_look_9 rfl rfl ?_
  refine g_iald C dX12_look_10 (L101 hL (by decide) (by decide)) ho hf (fun hf => ?_)
  refine g_if_ne (tgt := 22) C dX12_look_11 (by decide) hf (fun hf => ?_) (fun hf => ?_)
  · refine g_iconst (v := 0) C dX12_look_22 (by decide) ?_
    obtain ⟨rfl, rfl⟩ := gs2 hf
    exact g_iret C dX12_look_23 hr hlk
  · refine g_aload_n C dX12_look_14 rfl rfl ?_
    refine g_iconst (v := 1) C dX12_look_15 (by decide) ?_
    obtain ⟨z1, hz1, hf⟩ := gbind hf ho
    refine g_callV C dX12_look_16 (m_X12_found l X N _ _ _  (gLay.sub hL (by decide) (by decide)) _ z1.1 z1.2 hz1) gEin0 (cwV 1 C.2.2.2.2.1 gX12_look_X12_found rfl rfl rfl (by decide +kernel) ⟨Nat.le_of_ble_eq_true rfl, Nat.le_of_ble_eq_true rfl⟩) (L91 hL (by decide) (by decide)) (by decide) rfl rfl rfl (Nat.le_of_ble_eq_true rfl) ⟨Nat.le_of_ble_eq_true rfl, Nat.le_of_ble_eq_true rfl⟩ ?_
    refine g_goto (tgt := 23) C dX12_look_19 (by decide) ?_
    obtain ⟨rfl, rfl⟩ := gs2 hf
    exact g_iret C dX12_look_23 hr hlk
set_option maxRecDepth 100000 in
set_option maxHeartbeats 8000000 in
theorem m_X12_markOf (l : Launch) (X : gX) (N : Nat) (I : gI) (R : gR) (S : gS) (hL : gLay 91 114 R S) (a0 : Int32) (v : Int32) (hf : f_X12_markOf N I R S a0 = some v) : gM l yX12_markOf wsX12_markOf { frames := 1, cells := 0, slots := 0, locals := 23 } X gE0 [.ref (X.1 + 91), .int a0] I R S (some (.int v)) I R S 0 0 := by
  unfold f_X12_markOf at hf
  refine gM_of (cc := cX12_markOf) (own := RX12) (maxL := 2) (ret := (some .int)) (by decide) rfl rfl (Nat.le_of_ble_eq_true rfl) ?_
  intro p e s m args below meth c C hr hlk hnm hE
  have ho : (some v) ≠ none := fun h => by cases h
  have f73 := C.2.2.2.2.1 (.fieldLink RX12 73 "TimesByPowersModel" "t" "[I") (by decide +kernel)
  have c11 : gCl wsX12_markOf 11 RX12 TX12 29 := ⟨by decide, rfl, rfl, by decide +kernel⟩
  have f11 := C.2.2.2.2.1 (.fieldLink RX12 11 "TimesByPowersModel" "p" "I") (by decide +kernel)
  refine g_aload_n C dX12_markOf_0 rfl rfl ?_
  refine g_aload_n C dX12_markOf_1 rfl rfl ?_
  refine g_aload_n C dX12_markOf_2 rfl rfl ?_
  refine g_getR (i := 16) (j := 16) C dX12_markOf_3 (L91 hL (by decide) (by decide)) c11 rfl (by decide) f73 (fun _ h9 => h9) (LR91_16 hL (by decide) (by decide)) ?_
  refine g_iconst (v := 4) C dX12_markOf_6 (by decide) ?_
  refine g_iload_n C dX12_markOf_7 rfl rfl ?_
  refine g_imul C dX12_markOf_8 ?_
  refine g_iconst (v := 1) C dX12_markOf_9 (by decide) ?_
  refine g_iadd C dX12_markOf_10 ?_
  refine g_iald C dX12_markOf_11 (L102 hL (by decide) (by decide)) ho hf (fun hf => ?_)
  refine g_aload_n C dX12_markOf_12 rfl rfl ?_
  refine g_getI (i := 2) (j := 2) C dX12_markOf_13 (L91 hL (by decide) (by decide)) c11 rfl f11 (fun _ h9 => h9) ?_
  refine g_iconst (v := 1) C dX12_markOf_16 (by decide) ?_
  refine g_iadd C dX12_markOf_17 ?_
  refine g_i2l C dX12_markOf_18 ?_
  obtain ⟨z1, hz1, hf⟩ := gbind hf ho
  refine g_callV C dX12_markOf_19 (m_X12_raise l X N _ _ _  (gLay.sub hL (by decide) (by decide)) _ _ z1 hz1) gEin0 (cwV 2 C.2.2.2.2.1 gX12_markOf_X12_raise rfl rfl rfl (by decide +kernel) ⟨Nat.le_of_ble_eq_true rfl, Nat.le_of_ble_eq_true rfl⟩) (L91 hL (by decide) (by decide)) (by decide) rfl rfl rfl (Nat.le_of_ble_eq_true rfl) ⟨Nat.le_of_ble_eq_true rfl, Nat.le_of_ble_eq_true rfl⟩ ?_
  refine g_aload_n C dX12_markOf_22 rfl rfl ?_
  refine g_aload_n C dX12_markOf_23 rfl rfl ?_
  refine g_getR (i := 16) (j := 16) C dX12_markOf_24 (L91 hL (by decide) (by decide)) c11 rfl (by decide) f73 (fun _ h9 => h9) (LR91_16 hL (by decide) (by decide)) ?_
  refine g_iconst (v := 4) C dX12_markOf_27 (by decide) ?_
  refine g_iload_n C dX12_markOf_28 rfl rfl ?_
  refine g_imul C dX12_markOf_29 ?_
  refine g_iconst (v := 2) C dX12_markOf_30 (by decide) ?_
  refine g_iadd C dX12_markOf_31 ?_
  refine g_iald C dX12_markOf_32 (L102 hL (by decide) (by decide)) ho hf (fun hf => ?_)
  obtain ⟨z2, hz2, hf⟩ := gbind hf ho
  refine g_callV C dX12_markOf_33 (m_X12_inverse l X N _ _ _  (gLay.sub hL (by decide) (by decide)) _ z2 hz2) gEin0 (cwV 1 C.2.2.2.2.1 gX12_markOf_X12_inverse rfl rfl rfl (by decide +kernel) ⟨Nat.le_of_ble_eq_true rfl, Nat.le_of_ble_eq_true rfl⟩) (L91 hL (by decide) (by decide)) (by decide) rfl rfl rfl (Nat.le_of_ble_eq_true rfl) ⟨Nat.le_of_ble_eq_true rfl, Nat.le_of_ble_eq_true rfl⟩ ?_
  obtain ⟨z3, hz3, hf⟩ := gbind hf ho
  refine g_callV C dX12_markOf_36 (m_X12_times l X N _ _ _  (gLay.sub hL (by decide) (by decide)) _ _ z3 hz3) gEin0 (cwV 2 C.2.2.2.2.1 gX12_markOf_X12_times rfl rfl rfl (by decide +kernel) ⟨Nat.le_of_ble_eq_true rfl, Nat.le_of_ble_eq_true rfl⟩) (L91 hL (by decide) (by decide)) (by decide) rfl rfl rfl (Nat.le_of_ble_eq_true rfl) ⟨Nat.le_of_ble_eq_true rfl, Nat.le_of_ble_eq_true rfl⟩ ?_
  obtain rfl := gs1 hf
  exact g_iret C dX12_markOf_39 hr hlk
set_option maxRecDepth 100000 in
set_option maxHeartbeats 8000000 in
theorem m_X12_goOn (l : Launch) (X : gX) (N : Nat) (I : gI) (R : gR) (S : gS) (hL : gLay 91 114 R S) (a0 : Int32) (a1 : Int32) (a2 : Int32) (J : gI) (hf : f_X12_goOn N I R S a0 a1 a2 = some J) : gM l yX12_goOn wsX12_goOn { frames := 2, cells := 0, slots := 0, locals := 51 } X gE0 [.ref (X.1 + 91), .int a0, .int a1, .int a2] I R S none J R S 0 0 := by
  unfold f_X12_goOn at hf
  refine gM_of (cc := cX12_goOn) (own := RX12) (maxL := 5) (ret := none) (by decide) rfl rfl (Nat.le_of_ble_eq_true rfl) ?_
  intro p e s m args below meth c C hr hlk hnm hE
  have ho : (some J) ≠ none := fun h => by cases h
  have f94 := C.2.2.2.2.1 (.fieldLink RX12 94 "TimesByPowersModel" "way" "[I") (by decide +kernel)
  have c11 : gCl wsX12_goOn 11 RX12 TX12 29 := ⟨by decide, rfl, rfl, by decide +kernel⟩
  refine g_aload_n C dX12_goOn_0 rfl rfl ?_
  refine g_getR (i := 23) (j := 23) C dX12_goOn_1 (L91 hL (by decide) (by decide)) c11 rfl (by decide) f94 (fun _ h9 => h9) (LR91_23 hL (by decide) (by decide)) ?_
  refine g_bipush (v := 7) C dX12_goOn_4 (by decide) ?_
  refine g_iload_n C dX12_goOn_6 rfl rfl ?_
  refine g_imul C dX12_goOn_7 ?_
  refine g_iload_n C dX12_goOn_8 rfl rfl ?_
  refine g_iast C dX12_goOn_9 (L109 hL (by decide) (by decide)) ho hf (fun hf => ?_)
  refine g_iconst (v := 1) C dX12_goOn_10 (by decide) ?_
  refine g_istore C dX12_goOn_11 (Nat.le_of_ble_eq_true rfl) rfl rfl ?_
  refine g_loop (fun z1 => [(0, .ref (X.1 + 91)), (1, .int a0), (2, .int a1), (4, .int z1.1)]) (fun z1 => z1.2) (fun r2 => []) (fun r2 => r2) 57 hf ho (And.intro rfl (And.intro rfl (And.intro rfl (And.intro rfl trivial)))) rfl (fun r2 hf => ?_) (fun z1 o1 hf ho hkz1 hez1 => ?_)
  · obtain rfl := gs1 hf
    exact g_vret C dX12_goOn_57 hr hlk
  · refine g_iload C dX12_goOn_13 rfl ?_
    refine g_bipush (v := 7) C dX12_goOn_15 (by decide) ?_
    refine g_icmp_ge (tgt := 57) C dX12_goOn_17 (by decide) hf (fun hf => ?_) (fun hf => ?_)
    · have hx := hez1 _ hf.symm
      refine g_sub ?_ hx
      exact trivial
    · refine g_aload_n C dX12_goOn_20 rfl rfl ?_
      refine g_getR (i := 23) (j := 23) C dX12_goOn_21 (L91 hL (by decide) (by decide)) c11 rfl (by decide) f94 (fun _ h9 => h9) (LR91_23 hL (by decide) (by decide)) ?_
      refine g_bipush (v := 7) C dX12_goOn_24 (by decide) ?_
      refine g_iload_n C dX12_goOn_26 rfl rfl ?_
      refine g_imul C dX12_goOn_27 ?_
      refine g_iload C dX12_goOn_28 rfl ?_
      refine g_iadd C dX12_goOn_30 ?_
      refine g_aload_n C dX12_goOn_31 rfl rfl ?_
      refine g_iload_n C dX12_goOn_32 rfl rfl ?_
      refine g_aload_n C dX12_goOn_33 rfl rfl ?_
      refine g_getR (i := 23) (j := 23) C dX12_goOn_34 (L91 hL (by decide) (by decide)) c11 rfl (by decide) f94 (fun _ h9 => h9) (LR91_23 hL (by decide) (by decide)) ?_
      refine g_bipush (v := 7) C dX12_goOn_37 (by decide) ?_
      refine g_iload_n C dX12_goOn_39 rfl rfl ?_
      refine g_imul C dX12_goOn_40 ?_
      refine g_iload C dX12_goOn_41 rfl ?_
      refine g_iadd C dX12_goOn_43 ?_
      refine g_iconst (v := 1) C dX12_goOn_44 (by decide) ?_
      refine g_isub C dX12_goOn_45 ?_
      refine g_iald C dX12_goOn_46 (L109 hL (by decide) (by decide)) ho hf (fun hf => ?_)
      obtain ⟨z3, hz3, hf⟩ := gbind hf ho
      refine g_callV C dX12_goOn_47 (m_X12_step l X N _ _ _  (gLay.sub hL (by decide) (by decide)) _ _ z3 hz3) gEin0 (cwV 2 C.2.2.2.2.1 gX12_goOn_X12_step rfl rfl rfl (by decide +kernel) ⟨Nat.le_of_ble_eq_true rfl, Nat.le_of_ble_eq_true rfl⟩) (L91 hL (by decide) (by decide)) (by decide) rfl rfl rfl (Nat.le_of_ble_eq_true rfl) ⟨Nat.le_of_ble_eq_true rfl, Nat.le_of_ble_eq_true rfl⟩ ?_
      refine g_iast C dX12_goOn_50 (L109 hL (by decide) (by decide)) ho hf (fun hf => ?_)
      refine g_iinc (d := 1) C dX12_goOn_51 rfl (by decide) rfl (Nat.le_of_ble_eq_true rfl) rfl rfl ?_
      refine g_goto (tgt := 13) C dX12_goOn_54 (by decide) ?_
      have hx := hkz1 _ hf.symm
      refine g_sub ?_ hx
      exact (And.intro rfl (And.intro rfl (And.intro rfl (And.intro rfl trivial))))
set_option maxRecDepth 100000 in
set_option maxHeartbeats 8000000 in
theorem m_X12_leastOf (l : Launch) (X : gX) (N : Nat) (I : gI) (R : gR) (S : gS) (hL : gLay 91 114 R S) (a0 : Int32) (v : Int32) (J : gI) (hf : f_X12_leastOf N I R S a0 = some (v, J)) : gM l yX12_leastOf wsX12_leastOf { frames := 1, cells := 0, slots := 0, locals := 26 } X gE0 [.ref (X.1 + 91), .int a0] I R S (some (.int v)) J R S 0 0 := by
  unfold f_X12_leastOf at hf
  refine gM_of (cc := cX12_leastOf) (own := RX12) (maxL := 10) (ret := (some .int)) (by decide) rfl rfl (Nat.le_of_ble_eq_true rfl) ?_
  intro p e s m args below meth c C hr hlk hnm hE
  have ho : (some (v, J)) ≠ none := fun h => by cases h
  have f42 := C.2.2.2.2.1 (.fieldLink RX12 42 "TimesByPowersModel" "n" "I") (by decide +kernel)
  have c11 : gCl wsX12_leastOf 11 RX12 TX12 29 := ⟨by decide, rfl, rfl, by decide +kernel⟩
  have f11 := C.2.2.2.2.1 (.fieldLink RX12 11 "TimesByPowersModel" "p" "I") (by decide +kernel)
  have f26 := C.2.2.2.2.1 (.fieldLink RX12 26 "TimesByPowersModel" "one" "[I") (by decide +kernel)
  have f94 := C.2.2.2.2.1 (.fieldLink RX12 94 "TimesByPowersModel" "way" "[I") (by decide +kernel)
  have k142 := C.2.2.2.2.1 (.constant RX12 142 (-1000000)) (by decide +kernel)
  refine g_iconst (v := 0) C dX12_leastOf_0 (by decide) ?_
  refine g_istore_n C dX12_leastOf_1 rfl (Nat.le_of_ble_eq_true rfl) rfl rfl ?_
  refine g_loopR (fun z1 => [(0, .ref (X.1 + 91)), (1, .int a0), (2, .int z1.1)]) (fun z1 => z1.2) (fun r2 => []) (fun r2 => r2) 158 hf ho (And.intro rfl (And.intro rfl (And.intro rfl trivial))) rfl (fun r2 hf => ?_) (fun z1 o1 hf ho hkz1 hez1 hrz1 => ?_)
  · refine g_ldc C k142 dX12_leastOf_158 ?_
    obtain ⟨rfl, rfl⟩ := gs2 hf
    exact g_iret C dX12_leastOf_160 hr hlk
  · refine g_iload_n C dX12_leastOf_2 rfl rfl ?_
    refine g_aload_n C dX12_leastOf_3 rfl rfl ?_
    refine g_getI (i := 3) (j := 3) C dX12_leastOf_4 (L91 hL (by decide) (by decide)) c11 rfl f42 (fun _ h9 => h9) ?_
    refine g_icmp_gt (tgt := 158) C dX12_leastOf_7 (by decide) hf (fun hf => ?_) (fun hf => ?_)
    · have hx := hez1 _ hf.symm
      refine g_sub ?_ hx
      exact trivial
    · refine g_aload_n C dX12_leastOf_10 rfl rfl ?_
      refine g_getI (i := 2) (j := 2) C dX12_leastOf_11 (L91 hL (by decide) (by decide)) c11 rfl f11 (fun _ h9 => h9) ?_
      refine g_iload_n C dX12_leastOf_14 rfl rfl ?_
      obtain ⟨z3, hz3, hf⟩ := gbind hf ho
      refine g_callS C dX12_leastOf_15 (m_X12_power l X N _ _ _  (gLay.sub hL (by decide) (by decide)) _ _ z3 hz3) gEin0 (va_cwS 2 C.2.2.2.2.1 gX12_leastOf_X12_power rfl rfl rfl (by decide +kernel) ⟨Nat.le_of_ble_eq_true rfl, Nat.le_of_ble_eq_true rfl⟩) rfl rfl (Nat.le_of_ble_eq_true rfl) ⟨Nat.le_of_ble_eq_true rfl, Nat.le_of_ble_eq_true rfl⟩ ?_
      refine g_istore_n C dX12_leastOf_18 rfl (Nat.le_of_ble_eq_true rfl) rfl rfl ?_
      refine g_iconst (v := 0) C dX12_leastOf_19 (by decide) ?_
      refine g_istore C dX12_leastOf_20 (Nat.le_of_ble_eq_true rfl) rfl rfl ?_
      refine g_loopR (fun z4 => [(0, .ref (X.1 + 91)), (1, .int a0), (2, .int z1.1), (3, .int z3), (4, .int z4.1)]) (fun z4 => z4.2) (fun r5 => [(0, .ref (X.1 + 91)), (1, .int a0), (2, .int z1.1)]) (fun r5 => r5) 152 hf ho (And.intro rfl (And.intro rfl (And.intro rfl (And.intro rfl (And.intro rfl trivial))))) rfl (fun r5 hf => ?_) (fun z4 o1 hf ho hkz4 hez4 hrz4 => ?_)
      · refine g_iinc (d := 1) C dX12_leastOf_152 rfl (by decide) rfl (Nat.le_of_ble_eq_true rfl) rfl rfl ?_
        refine g_goto (tgt := 2) C dX12_leastOf_155 (by decide) ?_
        have hx := hkz1 _ hf.symm
        refine g_sub ?_ hx
        exact (And.intro rfl (And.intro rfl (And.intro rfl trivial)))
      · refine g_iload C dX12_leastOf_22 rfl ?_
        refine g_iload_n C dX12_leastOf_24 rfl rfl ?_
        refine g_icmp_ge (tgt := 152) C dX12_leastOf_25 (by decide) hf (fun hf => ?_) (fun hf => ?_)
        · have hx := hez4 _ hf.symm
          refine g_sub ?_ hx
          exact (And.intro rfl (And.intro rfl (And.intro rfl trivial)))
        · refine g_aload_n C dX12_leastOf_28 rfl rfl ?_
          refine g_iload C dX12_leastOf_29 rfl ?_
          refine g_aload_n C dX12_leastOf_31 rfl rfl ?_
          refine g_getR (i := 6) (j := 6) C dX12_leastOf_32 (L91 hL (by decide) (by decide)) c11 rfl (by decide) f26 (fun _ h9 => h9) (LR91_6 hL (by decide) (by decide)) ?_
          obtain ⟨z6, hz6, hf⟩ := gbind hf ho
          refine g_callV C dX12_leastOf_35 (m_X12_figures l X N _ _ _  (gLay.sub hL (by decide) (by decide)) _ _ z6.1 z6.2 hz6) gEin0 (cwV 2 C.2.2.2.2.1 gX12_leastOf_X12_figures rfl rfl rfl (by decide +kernel) ⟨Nat.le_of_ble_eq_true rfl, Nat.le_of_ble_eq_true rfl⟩) (L91 hL (by decide) (by decide)) (by decide) rfl rfl rfl (Nat.le_of_ble_eq_true rfl) ⟨Nat.le_of_ble_eq_true rfl, Nat.le_of_ble_eq_true rfl⟩ ?_
          refine g_istore C dX12_leastOf_38 (Nat.le_of_ble_eq_true rfl) rfl rfl ?_
          refine g_iconst (v := 1) C dX12_leastOf_40 (by decide) ?_
          refine g_istore C dX12_leastOf_41 (Nat.le_of_ble_eq_true rfl) rfl rfl ?_
          refine g_iconst (v := 0) C dX12_leastOf_43 (by decide) ?_
          refine g_istore C dX12_leastOf_44 (Nat.le_of_ble_eq_true rfl) rfl rfl ?_
          refine g_loop (fun z7 => [(0, .ref (X.1 + 91)), (1, .int a0), (2, .int z1.1), (3, .int z3), (4, .int z4.1), (6, .int z7.1), (7, .int z7.2)]) (fun z7 => z6.2) (fun r8 => [(0, .ref (X.1 + 91)), (1, .int a0), (2, .int z1.1), (3, .int z3), (4, .int z4.1), (6, .int r8)]) (fun r8 => z6.2) 136 hf ho (And.intro rfl (And.intro rfl (And.intro rfl (And.intro rfl (And.intro rfl (And.intro rfl (And.intro rfl trivial))))))) rfl (fun r8 hf => ?_) (fun z7 o1 hf ho hkz7 hez7 => ?_)
          · refine g_iload C dX12_leastOf_136 rfl ?_
            refine g_if_eq (tgt := 146) C dX12_leastOf_138 (by decide) hf (fun hf => ?_) (fun hf => ?_)
            · refine g_iinc (d := 1) C dX12_leastOf_146 rfl (by decide) rfl (Nat.le_of_ble_eq_true rfl) rfl rfl ?_
              refine g_goto (tgt := 22) C dX12_leastOf_149 (by decide) ?_
              have hx := hkz4 _ hf.symm
              refine g_sub ?_ hx
              exact (And.intro rfl (And.intro rfl (And.intro rfl (And.intro rfl (And.intro rfl trivial)))))
            · refine g_iload_n C dX12_leastOf_141 rfl rfl ?_
              refine g_iload C dX12_leastOf_142 rfl ?_
              refine g_iadd C dX12_leastOf_144 ?_
              replace hf := hrz4 _ hf.symm
              dsimp only [Sum.elim_inr] at hf
              replace hf := hrz1 _ hf.symm
              dsimp only [Sum.elim_inr] at hf
              obtain ⟨rfl, rfl⟩ := gs2 hf
              exact g_iret C dX12_leastOf_145 hr hlk
          · refine g_iload C dX12_leastOf_46 rfl ?_
            refine g_iload_n C dX12_leastOf_48 rfl rfl ?_
            refine g_icmp_ge (tgt := 136) C dX12_leastOf_49 (by decide) hf (fun hf => ?_) (fun hf => ?_)
            · have hx := hez7 _ hf.symm
              refine g_sub ?_ hx
              exact (And.intro rfl (And.intro rfl (And.intro rfl (And.intro rfl (And.intro rfl (And.intro rfl trivial))))))
            · refine g_iload C dX12_leastOf_52 rfl ?_
              refine g_if_eq (tgt := 136) C dX12_leastOf_54 (by decide) hf (fun hf => ?_) (fun hf => ?_)
              · have hx := hez7 _ hf.symm
                refine g_sub ?_ hx
                exact (And.intro rfl (And.intro rfl (And.intro rfl (And.intro rfl (And.intro rfl (And.intro rfl trivial))))))
              · refine g_aload_n C dX12_leastOf_57 rfl rfl ?_
                refine g_getR (i := 23) (j := 23) C dX12_leastOf_58 (L91 hL (by decide) (by decide)) c11 rfl (by decide) f94 (fun _ h9 => h9) (LR91_23 hL (by decide) (by decide)) ?_
                refine g_bipush (v := 7) C dX12_leastOf_61 (by decide) ?_
                refine g_iload C dX12_leastOf_63 rfl ?_
                refine g_imul C dX12_leastOf_65 ?_
                refine g_iload_n C dX12_leastOf_66 rfl rfl ?_
                refine g_iadd C dX12_leastOf_67 ?_
                refine g_iald C dX12_leastOf_68 (L109 hL (by decide) (by decide)) ho hf (fun hf => ?_)
                refine g_istore C dX12_leastOf_69 (Nat.le_of_ble_eq_true rfl) rfl rfl ?_
                refine g_iconst (v := 0) C dX12_leastOf_71 (by decide) ?_
                refine g_istore C dX12_leastOf_72 (Nat.le_of_ble_eq_true rfl) rfl rfl ?_
                refine g_loop (fun z9 => [(0, .ref (X.1 + 91)), (1, .int a0), (2, .int z1.1), (3, .int z3), (4, .int z4.1), (7, .int z7.2), (8, .int z9.1), (9, .int z9.2)]) (fun z9 => z6.2) (fun r10 => [(0, .ref (X.1 + 91)), (1, .int a0), (2, .int z1.1), (3, .int z3), (4, .int z4.1), (7, .int z7.2), (8, .int r10)]) (fun r10 => z6.2) 118 hf ho (And.intro rfl (And.intro rfl (And.intro rfl (And.intro rfl (And.intro rfl (And.intro rfl (And.intro rfl (And.intro rfl trivial)))))))) rfl (fun r10 hf => ?_) (fun z9 o1 hf ho hkz9 hez9 => ?_)
                · refine g_iload C dX12_leastOf_118 rfl ?_
                  refine g_if_ne (tgt := 127) C dX12_leastOf_120 (by decide) hf (fun hf => ?_) (fun hf => ?_)
                  · refine g_iconst (v := 0) C dX12_leastOf_127 (by decide) ?_
                    refine g_istore C dX12_leastOf_128 (Nat.le_of_ble_eq_true rfl) rfl rfl ?_
                    refine g_iinc (d := 1) C dX12_leastOf_130 rfl (by decide) rfl (Nat.le_of_ble_eq_true rfl) rfl rfl ?_
                    refine g_goto (tgt := 46) C dX12_leastOf_133 (by decide) ?_
                    have hx := hkz7 _ hf.symm
                    refine g_sub ?_ hx
                    exact (And.intro rfl (And.intro rfl (And.intro rfl (And.intro rfl (And.intro rfl (And.intro rfl (And.intro rfl trivial)))))))
                  · refine g_iconst (v := 1) C dX12_leastOf_123 (by decide) ?_
                    refine g_goto (tgt := 128) C dX12_leastOf_124 (by decide) ?_
                    refine g_istore C dX12_leastOf_128 (Nat.le_of_ble_eq_true rfl) rfl rfl ?_
                    refine g_iinc (d := 1) C dX12_leastOf_130 rfl (by decide) rfl (Nat.le_of_ble_eq_true rfl) rfl rfl ?_
                    refine g_goto (tgt := 46) C dX12_leastOf_133 (by decide) ?_
                    have hx := hkz7 _ hf.symm
                    refine g_sub ?_ hx
                    exact (And.intro rfl (And.intro rfl (And.intro rfl (And.intro rfl (And.intro rfl (And.intro rfl (And.intro rfl trivial)))))))
                · refine g_iload C dX12_leastOf_74 rfl ?_
                  refine g_iload_n C dX12_leastOf_76 rfl rfl ?_
                  refine g_icmp_ge (tgt := 118) C dX12_leastOf_77 (by decide) hf (fun hf => ?_) (fun hf => ?_)
                  · have hx := hez9 _ hf.symm
                    refine g_sub ?_ hx
                    exact (And.intro rfl (And.intro rfl (And.intro rfl (And.intro rfl (And.intro rfl (And.intro rfl (And.intro rfl trivial)))))))
                  · refine g_aload_n C dX12_leastOf_80 rfl rfl ?_
                    refine g_iload C dX12_leastOf_81 rfl ?_
                    refine g_aload_n C dX12_leastOf_83 rfl rfl ?_
                    refine g_aload_n C dX12_leastOf_84 rfl rfl ?_
                    refine g_getR (i := 6) (j := 6) C dX12_leastOf_85 (L91 hL (by decide) (by decide)) c11 rfl (by decide) f26 (fun _ h9 => h9) (LR91_6 hL (by decide) (by decide)) ?_
                    refine g_iload C dX12_leastOf_88 rfl ?_
                    refine g_iald C dX12_leastOf_90 (L92 hL (by decide) (by decide)) ho hf (fun hf => ?_)
                    refine g_aload_n C dX12_leastOf_91 rfl rfl ?_
                    refine g_getR (i := 23) (j := 23) C dX12_leastOf_92 (L91 hL (by decide) (by decide)) c11 rfl (by decide) f94 (fun _ h9 => h9) (LR91_23 hL (by decide) (by decide)) ?_
                    refine g_bipush (v := 7) C dX12_leastOf_95 (by decide) ?_
                    refine g_iload C dX12_leastOf_97 rfl ?_
                    refine g_imul C dX12_leastOf_99 ?_
                    refine g_iload C dX12_leastOf_100 rfl ?_
                    refine g_iadd C dX12_leastOf_102 ?_
                    refine g_iald C dX12_leastOf_103 (L109 hL (by decide) (by decide)) ho hf (fun hf => ?_)
                    obtain ⟨z11, hz11, hf⟩ := gbind hf ho
                    refine g_callV C dX12_leastOf_104 (m_X12_times l X N _ _ _  (gLay.sub hL (by decide) (by decide)) _ _ z11 hz11) gEin0 (cwV 2 C.2.2.2.2.1 gX12_leastOf_X12_times rfl rfl rfl (by decide +kernel) ⟨Nat.le_of_ble_eq_true rfl, Nat.le_of_ble_eq_true rfl⟩) (L91 hL (by decide) (by decide)) (by decide) rfl rfl rfl (Nat.le_of_ble_eq_true rfl) ⟨Nat.le_of_ble_eq_true rfl, Nat.le_of_ble_eq_true rfl⟩ ?_
                    obtain ⟨z12, hz12, hf⟩ := gbind hf ho
                    refine g_callV C dX12_leastOf_107 (m_X12_add l X N _ _ _  (gLay.sub hL (by decide) (by decide)) _ _ z12 hz12) gEin0 (cwV 2 C.2.2.2.2.1 gX12_leastOf_X12_add rfl rfl rfl (by decide +kernel) ⟨Nat.le_of_ble_eq_true rfl, Nat.le_of_ble_eq_true rfl⟩) (L91 hL (by decide) (by decide)) (by decide) rfl rfl rfl (Nat.le_of_ble_eq_true rfl) ⟨Nat.le_of_ble_eq_true rfl, Nat.le_of_ble_eq_true rfl⟩ ?_
                    refine g_istore C dX12_leastOf_110 (Nat.le_of_ble_eq_true rfl) rfl rfl ?_
                    refine g_iinc (d := 1) C dX12_leastOf_112 rfl (by decide) rfl (Nat.le_of_ble_eq_true rfl) rfl rfl ?_
                    refine g_goto (tgt := 74) C dX12_leastOf_115 (by decide) ?_
                    have hx := hkz9 _ hf.symm
                    refine g_sub ?_ hx
                    exact (And.intro rfl (And.intro rfl (And.intro rfl (And.intro rfl (And.intro rfl (And.intro rfl (And.intro rfl (And.intro rfl trivial))))))))
set_option maxRecDepth 100000 in
set_option maxHeartbeats 8000000 in
theorem m_X12_wholeOf (l : Launch) (X : gX) (N : Nat) (I : gI) (R : gR) (S : gS) (hL : gLay 91 114 R S) (a0 : Int32) (v : Int32) (J : gI) (hf : f_X12_wholeOf N I R S a0 = some (v, J)) : gM l yX12_wholeOf wsX12_wholeOf { frames := 2, cells := 0, slots := 0, locals := 51 } X gE0 [.ref (X.1 + 91), .int a0] I R S (some (.int v)) J R S 0 0 := by
  unfold f_X12_wholeOf at hf
  refine gM_of (cc := cX12_wholeOf) (own := RX12) (maxL := 9) (ret := (some .int)) (by decide) rfl rfl (Nat.le_of_ble_eq_true rfl) ?_
  intro p e s m args below meth c C hr hlk hnm hE
  have ho : (some (v, J)) ≠ none := fun h => by cases h
  have f42 := C.2.2.2.2.1 (.fieldLink RX12 42 "TimesByPowersModel" "n" "I") (by decide +kernel)
  have c11 : gCl wsX12_wholeOf 11 RX12 TX12 29 := ⟨by decide, rfl, rfl, by decide +kernel⟩
  have f11 := C.2.2.2.2.1 (.fieldLink RX12 11 "TimesByPowersModel" "p" "I") (by decide +kernel)
  have f26 := C.2.2.2.2.1 (.fieldLink RX12 26 "TimesByPowersModel" "one" "[I") (by decide +kernel)
  have f100 := C.2.2.2.2.1 (.fieldLink RX12 100 "TimesByPowersModel" "entry" "[I") (by decide +kernel)
  have f97 := C.2.2.2.2.1 (.fieldLink RX12 97 "TimesByPowersModel" "minors" "[I") (by decide +kernel)
  refine g_iconst (v := 0) C dX12_wholeOf_0 (by decide) ?_
  refine g_istore_n C dX12_wholeOf_1 rfl (Nat.le_of_ble_eq_true rfl) rfl rfl ?_
  refine g_loop (fun z1 => [(0, .ref (X.1 + 91)), (1, .int a0), (2, .int z1.1)]) (fun z1 => z1.2) (fun r2 => [(0, .ref (X.1 + 91))]) (fun r2 => r2) 75 hf ho (And.intro rfl (And.intro rfl (And.intro rfl trivial))) rfl (fun r2 hf => ?_) (fun z1 o1 hf ho hkz1 hez1 => ?_)
  · refine g_iconst (v := 0) C dX12_wholeOf_75 (by decide) ?_
    refine g_istore_n C dX12_wholeOf_76 rfl (Nat.le_of_ble_eq_true rfl) rfl rfl ?_
    refine g_loop (fun z8 => [(0, .ref (X.1 + 91)), (2, .int z8.1)]) (fun z8 => z8.2) (fun r9 => [(0, .ref (X.1 + 91))]) (fun r9 => r9) 105 hf ho (And.intro rfl (And.intro rfl trivial)) rfl (fun r9 hf => ?_) (fun z8 o1 hf ho hkz8 hez8 => ?_)
    · refine g_iconst (v := 1) C dX12_wholeOf_105 (by decide) ?_
      refine g_istore_n C dX12_wholeOf_106 rfl (Nat.le_of_ble_eq_true rfl) rfl rfl ?_
      refine g_loop (fun z10 => [(0, .ref (X.1 + 91)), (2, .int z10.1)]) (fun z10 => z10.2) (fun r11 => [(0, .ref (X.1 + 91))]) (fun r11 => r11) 325 hf ho (And.intro rfl (And.intro rfl trivial)) rfl (fun r11 hf => ?_) (fun z10 o1 hf ho hkz10 hez10 => ?_)
      · refine g_iconst (v := 0) C dX12_wholeOf_325 (by decide) ?_
        refine g_istore_n C dX12_wholeOf_326 rfl (Nat.le_of_ble_eq_true rfl) rfl rfl ?_
        refine g_bipush (v := 6) C dX12_wholeOf_327 (by decide) ?_
        refine g_istore_n C dX12_wholeOf_329 rfl (Nat.le_of_ble_eq_true rfl) rfl rfl ?_
        refine g_loop (fun z19 => [(0, .ref (X.1 + 91)), (2, .int z19.1), (3, .int z19.2)]) (fun z19 => r11) (fun r20 => [(2, .int r20)]) (fun r20 => r11) 366 hf ho (And.intro rfl (And.intro rfl (And.intro rfl trivial))) rfl (fun r20 hf => ?_) (fun z19 o1 hf ho hkz19 hez19 => ?_)
        · refine g_iload_n C dX12_wholeOf_366 rfl rfl ?_
          obtain ⟨rfl, rfl⟩ := gs2 hf
          exact g_iret C dX12_wholeOf_367 hr hlk
        · obtain ⟨z19a, z19b⟩ := z19
          dsimp only at hf ⊢
          refine g_iload_n C dX12_wholeOf_330 rfl rfl ?_
          refine g_if_lt (tgt := 366) C dX12_wholeOf_331 (by decide) hf (fun hf => ?_) (fun hf => ?_)
          · have hx := hez19 _ hf.symm
            refine g_sub ?_ hx
            exact (And.intro rfl trivial)
          · refine g_iload_n C dX12_wholeOf_334 rfl rfl ?_
            refine g_aload_n C dX12_wholeOf_335 rfl rfl ?_
            refine g_getI (i := 2) (j := 2) C dX12_wholeOf_336 (L91 hL (by decide) (by decide)) c11 rfl f11 (fun _ h9 => h9) ?_
            refine g_imul C dX12_wholeOf_339 ?_
            refine g_aload_n C dX12_wholeOf_340 rfl rfl ?_
            refine g_getR (i := 24) (j := 24) C dX12_wholeOf_341 (L91 hL (by decide) (by decide)) c11 rfl (by decide) f97 (fun _ h9 => h9) (LR91_24 hL (by decide) (by decide)) ?_
            refine g_bipush (v := 7) C dX12_wholeOf_344 (by decide) ?_
            refine g_iconst (v := 1) C dX12_wholeOf_346 (by decide) ?_
            refine g_aload_n C dX12_wholeOf_347 rfl rfl ?_
            refine g_getI (i := 3) (j := 3) C dX12_wholeOf_348 (L91 hL (by decide) (by decide)) c11 rfl f42 (fun _ h9 => h9) ?_
            refine g_ishl C dX12_wholeOf_351 ?_
            refine g_iconst (v := 1) C dX12_wholeOf_352 (by decide) ?_
            refine g_isub C dX12_wholeOf_353 ?_
            refine g_imul C dX12_wholeOf_354 ?_
            refine g_iload_n C dX12_wholeOf_355 rfl rfl ?_
            refine g_iadd C dX12_wholeOf_356 ?_
            refine g_iald C dX12_wholeOf_357 (L110 hL (by decide) (by decide)) ho hf (fun hf => ?_)
            refine g_iadd C dX12_wholeOf_358 ?_
            refine g_istore_n C dX12_wholeOf_359 rfl (Nat.le_of_ble_eq_true rfl) rfl rfl ?_
            refine g_iinc (d := -1) C dX12_wholeOf_360 rfl (by decide) rfl (Nat.le_of_ble_eq_true rfl) rfl rfl ?_
            refine g_goto (tgt := 330) C dX12_wholeOf_363 (by decide) ?_
            have hx := hkz19 _ hf.symm
            refine g_sub ?_ hx
            exact (And.intro rfl (And.intro rfl (And.intro rfl trivial)))
      · obtain ⟨z10a, z10b⟩ := z10
        dsimp only at hf ⊢
        refine g_iload_n C dX12_wholeOf_107 rfl rfl ?_
        refine g_iconst (v := 1) C dX12_wholeOf_108 (by decide) ?_
        refine g_aload_n C dX12_wholeOf_109 rfl rfl ?_
        refine g_getI (i := 3) (j := 3) C dX12_wholeOf_110 (L91 hL (by decide) (by decide)) c11 rfl f42 (fun _ h9 => h9) ?_
        refine g_ishl C dX12_wholeOf_113 ?_
        refine g_icmp_ge (tgt := 325) C dX12_wholeOf_114 (by decide) hf (fun hf => ?_) (fun hf => ?_)
        · have hx := hez10 _ hf.symm
          refine g_sub ?_ hx
          exact (And.intro rfl trivial)
        · refine g_iconst (v := -1) C dX12_wholeOf_117 (by decide) ?_
          refine g_istore_n C dX12_wholeOf_118 rfl (Nat.le_of_ble_eq_true rfl) rfl rfl ?_
          refine g_iconst (v := 0) C dX12_wholeOf_119 (by decide) ?_
          refine g_istore C dX12_wholeOf_120 (Nat.le_of_ble_eq_true rfl) rfl rfl ?_
          refine g_loop (fun z12 => [(0, .ref (X.1 + 91)), (2, .int z10a), (3, .int z12.1), (4, .int z12.2)]) (fun z12 => z10b) (fun r13 => [(0, .ref (X.1 + 91)), (2, .int z10a), (3, .int r13)]) (fun r13 => z10b) 146 hf ho (And.intro rfl (And.intro rfl (And.intro rfl (And.intro rfl trivial)))) rfl (fun r13 hf => ?_) (fun z12 o1 hf ho hkz12 hez12 => ?_)
          · refine g_iconst (v := 0) C dX12_wholeOf_146 (by decide) ?_
            refine g_istore C dX12_wholeOf_147 (Nat.le_of_ble_eq_true rfl) rfl rfl ?_
            refine g_aload_n C dX12_wholeOf_149 rfl rfl ?_
            refine g_getI (i := 3) (j := 3) C dX12_wholeOf_150 (L91 hL (by decide) (by decide)) c11 rfl f42 (fun _ h9 => h9) ?_
            refine g_iconst (v := 1) C dX12_wholeOf_153 (by decide) ?_
            refine g_isub C dX12_wholeOf_154 ?_
            refine g_istore C dX12_wholeOf_155 (Nat.le_of_ble_eq_true rfl) rfl rfl ?_
            refine g_loop (fun z14 => [(0, .ref (X.1 + 91)), (2, .int z10a), (3, .int r13), (4, .int z14.1), (5, .int z14.2.1)]) (fun z14 => z14.2.2) (fun r15 => [(0, .ref (X.1 + 91)), (2, .int z10a)]) (fun r15 => r15) 319 hf ho (And.intro rfl (And.intro rfl (And.intro rfl (And.intro rfl (And.intro rfl trivial))))) rfl (fun r15 hf => ?_) (fun z14 o1 hf ho hkz14 hez14 => ?_)
            · refine g_iinc (d := 1) C dX12_wholeOf_319 rfl (by decide) rfl (Nat.le_of_ble_eq_true rfl) rfl rfl ?_
              refine g_goto (tgt := 107) C dX12_wholeOf_322 (by decide) ?_
              have hx := hkz10 _ hf.symm
              refine g_sub ?_ hx
              exact (And.intro rfl (And.intro rfl trivial))
            · obtain ⟨z14a, z14b, z14c⟩ := z14
              dsimp only at hf ⊢
              refine g_iload C dX12_wholeOf_157 rfl ?_
              refine g_if_lt (tgt := 319) C dX12_wholeOf_159 (by decide) hf (fun hf => ?_) (fun hf => ?_)
              · have hx := hez14 _ hf.symm
                refine g_sub ?_ hx
                exact (And.intro rfl (And.intro rfl trivial))
              · refine g_iload_n C dX12_wholeOf_162 rfl rfl ?_
                refine g_iload C dX12_wholeOf_163 rfl ?_
                refine g_ishr C dX12_wholeOf_165 ?_
                refine g_iconst (v := 1) C dX12_wholeOf_166 (by decide) ?_
                refine g_iand C dX12_wholeOf_167 ?_
                refine g_iconst (v := 1) C dX12_wholeOf_168 (by decide) ?_
                refine g_icmp_ne (tgt := 313) C dX12_wholeOf_169 (by decide) hf (fun hf => ?_) (fun hf => ?_)
                · refine g_iinc (d := -1) C dX12_wholeOf_313 rfl (by decide) rfl (Nat.le_of_ble_eq_true rfl) rfl rfl ?_
                  refine g_goto (tgt := 157) C dX12_wholeOf_316 (by decide) ?_
                  have hx := hkz14 _ hf.symm
                  refine g_sub ?_ hx
                  exact (And.intro rfl (And.intro rfl (And.intro rfl (And.intro rfl (And.intro rfl trivial)))))
                · refine g_bipush (v := 7) C dX12_wholeOf_172 (by decide) ?_
                  refine g_iload_n C dX12_wholeOf_174 rfl rfl ?_
                  refine g_iconst (v := 1) C dX12_wholeOf_175 (by decide) ?_
                  refine g_iload C dX12_wholeOf_176 rfl ?_
                  refine g_ishl C dX12_wholeOf_178 ?_
                  refine g_iconst (v := -1) C dX12_wholeOf_179 (by decide) ?_
                  refine g_ixor C dX12_wholeOf_180 ?_
                  refine g_iand C dX12_wholeOf_181 ?_
                  refine g_imul C dX12_wholeOf_182 ?_
                  refine g_istore C dX12_wholeOf_183 (Nat.le_of_ble_eq_true rfl) rfl rfl ?_
                  refine g_iconst (v := 0) C dX12_wholeOf_185 (by decide) ?_
                  refine g_istore C dX12_wholeOf_186 (Nat.le_of_ble_eq_true rfl) rfl rfl ?_
                  refine g_loop (fun z16 => [(0, .ref (X.1 + 91)), (2, .int z10a), (3, .int r13), (4, .int z14a), (5, .int z14b), (6, .int ((7 : Int32) * (z10a &&& (((1 : Int32) <<< (z14b &&& 31)) ^^^ (-1 : Int32))))), (7, .int z16.1)]) (fun z16 => z16.2) (fun r17 => [(0, .ref (X.1 + 91)), (2, .int z10a), (3, .int r13), (4, .int z14a), (5, .int z14b)]) (fun r17 => r17) 310 hf ho (And.intro rfl (And.intro rfl (And.intro rfl (And.intro rfl (And.intro rfl (And.intro rfl (And.intro rfl trivial))))))) rfl (fun r17 hf => ?_) (fun z16 o1 hf ho hkz16 hez16 => ?_)
                  · refine g_iinc (d := 1) C dX12_wholeOf_310 rfl (by decide) rfl (Nat.le_of_ble_eq_true rfl) rfl rfl ?_
                    refine g_iinc (d := -1) C dX12_wholeOf_313 rfl (by decide) rfl (Nat.le_of_ble_eq_true rfl) rfl rfl ?_
                    refine g_goto (tgt := 157) C dX12_wholeOf_316 (by decide) ?_
                    have hx := hkz14 _ hf.symm
                    refine g_sub ?_ hx
                    exact (And.intro rfl (And.intro rfl (And.intro rfl (And.intro rfl (And.intro rfl trivial)))))
                  · obtain ⟨z16a, z16b⟩ := z16
                    dsimp only at hf ⊢
                    refine g_iload C dX12_wholeOf_188 rfl ?_
                    refine g_bipush (v := 7) C dX12_wholeOf_190 (by decide) ?_
                    refine g_icmp_ge (tgt := 310) C dX12_wholeOf_192 (by decide) hf (fun hf => ?_) (fun hf => ?_)
                    · have hx := hez16 _ hf.symm
                      refine g_sub ?_ hx
                      exact (And.intro rfl (And.intro rfl (And.intro rfl (And.intro rfl (And.intro rfl trivial)))))
                    · refine g_aload_n C dX12_wholeOf_195 rfl rfl ?_
                      refine g_getI (i := 2) (j := 2) C dX12_wholeOf_196 (L91 hL (by decide) (by decide)) c11 rfl f11 (fun _ h9 => h9) ?_
                      refine g_aload_n C dX12_wholeOf_199 rfl rfl ?_
                      refine g_getR (i := 25) (j := 25) C dX12_wholeOf_200 (L91 hL (by decide) (by decide)) c11 rfl (by decide) f100 (fun _ h9 => h9) (LR91_25 hL (by decide) (by decide)) ?_
                      refine g_bipush (v := 6) C dX12_wholeOf_203 (by decide) ?_
                      refine g_iload_n C dX12_wholeOf_205 rfl rfl ?_
                      refine g_imul C dX12_wholeOf_206 ?_
                      refine g_iload C dX12_wholeOf_207 rfl ?_
                      refine g_iadd C dX12_wholeOf_209 ?_
                      refine g_iald C dX12_wholeOf_210 (L111 hL (by decide) (by decide)) ho hf (fun hf => ?_)
                      refine g_isub C dX12_wholeOf_211 ?_
                      refine g_aload_n C dX12_wholeOf_212 rfl rfl ?_
                      refine g_getR (i := 24) (j := 24) C dX12_wholeOf_213 (L91 hL (by decide) (by decide)) c11 rfl (by decide) f97 (fun _ h9 => h9) (LR91_24 hL (by decide) (by decide)) ?_
                      refine g_iload C dX12_wholeOf_216 rfl ?_
                      refine g_iload C dX12_wholeOf_218 rfl ?_
                      refine g_iadd C dX12_wholeOf_220 ?_
                      refine g_iald C dX12_wholeOf_221 (L110 hL (by decide) (by decide)) ho hf (fun hf => ?_)
                      refine g_imul C dX12_wholeOf_222 ?_
                      refine g_iload_n C dX12_wholeOf_223 rfl rfl ?_
                      refine g_iload C dX12_wholeOf_224 rfl ?_
                      refine g_join (fun z18 => [(0, .ref (X.1 + 91)), (2, .int z10a), (3, .int r13), (4, .int z14a), (5, .int z14b), (6, .int ((7 : Int32) * (z10a &&& (((1 : Int32) <<< (z14b &&& 31)) ^^^ (-1 : Int32))))), (7, .int z16a)]) (fun z18 => [.int z18, .int (((z16b 91 2) - (z16b 111 (((6 : Int32) * r13) + z14b).toNatClampNeg)) * (z16b 110 (((7 : Int32) * (z10a &&& (((1 : Int32) <<< (z14b &&& 31)) ^^^ (-1 : Int32)))) + z16a).toNatClampNeg))]) (fun z18 => z16b) 250 hf ho (fun z18 hf => ?_) (fun o1 hf ho hkz18 => ?_)
                      · refine g_iadd C dX12_wholeOf_250 ?_
                        refine g_istore C dX12_wholeOf_251 (Nat.le_of_ble_eq_true rfl) rfl rfl ?_
                        refine g_aload_n C dX12_wholeOf_253 rfl rfl ?_
                        refine g_getR (i := 24) (j := 24) C dX12_wholeOf_254 (L91 hL (by decide) (by decide)) c11 rfl (by decide) f97 (fun _ h9 => h9) (LR91_24 hL (by decide) (by decide)) ?_
                        refine g_bipush (v := 7) C dX12_wholeOf_257 (by decide) ?_
                        refine g_iload_n C dX12_wholeOf_259 rfl rfl ?_
                        refine g_imul C dX12_wholeOf_260 ?_
                        refine g_iload C dX12_wholeOf_261 rfl ?_
                        refine g_iadd C dX12_wholeOf_263 ?_
                        refine g_aload_n C dX12_wholeOf_264 rfl rfl ?_
                        refine g_getR (i := 24) (j := 24) C dX12_wholeOf_265 (L91 hL (by decide) (by decide)) c11 rfl (by decide) f97 (fun _ h9 => h9) (LR91_24 hL (by decide) (by decide)) ?_
                        refine g_bipush (v := 7) C dX12_wholeOf_268 (by decide) ?_
                        refine g_iload_n C dX12_wholeOf_270 rfl rfl ?_
                        refine g_imul C dX12_wholeOf_271 ?_
                        refine g_iload C dX12_wholeOf_272 rfl ?_
                        refine g_iadd C dX12_wholeOf_274 ?_
                        refine g_iald C dX12_wholeOf_275 (L110 hL (by decide) (by decide)) ho hf (fun hf => ?_)
                        refine g_iload C dX12_wholeOf_276 rfl ?_
                        refine g_iconst (v := 2) C dX12_wholeOf_278 (by decide) ?_
                        refine g_irem C dX12_wholeOf_279 ho hf (fun hf => ?_)
                        refine g_if_ne (tgt := 288) C dX12_wholeOf_280 (by decide) hf (fun hf => ?_) (fun hf => ?_)
                        · refine g_aload_n C dX12_wholeOf_288 rfl rfl ?_
                          refine g_getI (i := 2) (j := 2) C dX12_wholeOf_289 (L91 hL (by decide) (by decide)) c11 rfl f11 (fun _ h9 => h9) ?_
                          refine g_iconst (v := 1) C dX12_wholeOf_292 (by decide) ?_
                          refine g_isub C dX12_wholeOf_293 ?_
                          refine g_iload C dX12_wholeOf_294 rfl ?_
                          refine g_imul C dX12_wholeOf_296 ?_
                          refine g_iadd C dX12_wholeOf_297 ?_
                          refine g_aload_n C dX12_wholeOf_298 rfl rfl ?_
                          refine g_getI (i := 2) (j := 2) C dX12_wholeOf_299 (L91 hL (by decide) (by decide)) c11 rfl f11 (fun _ h9 => h9) ?_
                          refine g_irem C dX12_wholeOf_302 ho hf (fun hf => ?_)
                          refine g_iast C dX12_wholeOf_303 (L110 hL (by decide) (by decide)) ho hf (fun hf => ?_)
                          refine g_iinc (d := 1) C dX12_wholeOf_304 rfl (by decide) rfl (Nat.le_of_ble_eq_true rfl) rfl rfl ?_
                          refine g_goto (tgt := 188) C dX12_wholeOf_307 (by decide) ?_
                          have hx := hkz16 _ hf.symm
                          refine g_sub ?_ hx
                          exact (And.intro rfl (And.intro rfl (And.intro rfl (And.intro rfl (And.intro rfl (And.intro rfl (And.intro rfl trivial)))))))
                        · refine g_iload C dX12_wholeOf_283 rfl ?_
                          refine g_goto (tgt := 297) C dX12_wholeOf_285 (by decide) ?_
                          refine g_iadd C dX12_wholeOf_297 ?_
                          refine g_aload_n C dX12_wholeOf_298 rfl rfl ?_
                          refine g_getI (i := 2) (j := 2) C dX12_wholeOf_299 (L91 hL (by decide) (by decide)) c11 rfl f11 (fun _ h9 => h9) ?_
                          refine g_irem C dX12_wholeOf_302 ho hf (fun hf => ?_)
                          refine g_iast C dX12_wholeOf_303 (L110 hL (by decide) (by decide)) ho hf (fun hf => ?_)
                          refine g_iinc (d := 1) C dX12_wholeOf_304 rfl (by decide) rfl (Nat.le_of_ble_eq_true rfl) rfl rfl ?_
                          refine g_goto (tgt := 188) C dX12_wholeOf_307 (by decide) ?_
                          have hx := hkz16 _ hf.symm
                          refine g_sub ?_ hx
                          exact (And.intro rfl (And.intro rfl (And.intro rfl (And.intro rfl (And.intro rfl (And.intro rfl (And.intro rfl trivial)))))))
                      · refine g_icmp_ne (tgt := 249) C dX12_wholeOf_226 (by decide) hf (fun hf => ?_) (fun hf => ?_)
                        · refine g_iconst (v := 0) C dX12_wholeOf_249 (by decide) ?_
                          have hx := hkz18 _ hf.symm
                          refine g_sub ?_ hx
                          exact (And.intro rfl (And.intro rfl (And.intro rfl (And.intro rfl (And.intro rfl (And.intro rfl (And.intro rfl trivial)))))))
                        · refine g_iload C dX12_wholeOf_229 rfl ?_
                          refine g_if_le (tgt := 249) C dX12_wholeOf_231 (by decide) hf (fun hf => ?_) (fun hf => ?_)
                          · refine g_iconst (v := 0) C dX12_wholeOf_249 (by decide) ?_
                            have hx := hkz18 _ hf.symm
                            refine g_sub ?_ hx
                            exact (And.intro rfl (And.intro rfl (And.intro rfl (And.intro rfl (And.intro rfl (And.intro rfl (And.intro rfl trivial)))))))
                          · refine g_aload_n C dX12_wholeOf_234 rfl rfl ?_
                            refine g_getR (i := 24) (j := 24) C dX12_wholeOf_235 (L91 hL (by decide) (by decide)) c11 rfl (by decide) f97 (fun _ h9 => h9) (LR91_24 hL (by decide) (by decide)) ?_
                            refine g_iload C dX12_wholeOf_238 rfl ?_
                            refine g_iload C dX12_wholeOf_240 rfl ?_
                            refine g_iadd C dX12_wholeOf_242 ?_
                            refine g_iconst (v := 1) C dX12_wholeOf_243 (by decide) ?_
                            refine g_isub C dX12_wholeOf_244 ?_
                            refine g_iald C dX12_wholeOf_245 (L110 hL (by decide) (by decide)) ho hf (fun hf => ?_)
                            refine g_goto (tgt := 250) C dX12_wholeOf_246 (by decide) ?_
                            have hx := hkz18 _ hf.symm
                            refine g_sub ?_ hx
                            exact (And.intro rfl (And.intro rfl (And.intro rfl (And.intro rfl (And.intro rfl (And.intro rfl (And.intro rfl trivial)))))))
          · obtain ⟨z12a, z12b⟩ := z12
            dsimp only at hf ⊢
            refine g_iload C dX12_wholeOf_122 rfl ?_
            refine g_aload_n C dX12_wholeOf_124 rfl rfl ?_
            refine g_getI (i := 3) (j := 3) C dX12_wholeOf_125 (L91 hL (by decide) (by decide)) c11 rfl f42 (fun _ h9 => h9) ?_
            refine g_icmp_ge (tgt := 146) C dX12_wholeOf_128 (by decide) hf (fun hf => ?_) (fun hf => ?_)
            · have hx := hez12 _ hf.symm
              refine g_sub ?_ hx
              exact (And.intro rfl (And.intro rfl (And.intro rfl trivial)))
            · refine g_iload_n C dX12_wholeOf_131 rfl rfl ?_
              refine g_iload_n C dX12_wholeOf_132 rfl rfl ?_
              refine g_iload C dX12_wholeOf_133 rfl ?_
              refine g_ishr C dX12_wholeOf_135 ?_
              refine g_iconst (v := 1) C dX12_wholeOf_136 (by decide) ?_
              refine g_iand C dX12_wholeOf_137 ?_
              refine g_iadd C dX12_wholeOf_138 ?_
              refine g_istore_n C dX12_wholeOf_139 rfl (Nat.le_of_ble_eq_true rfl) rfl rfl ?_
              refine g_iinc (d := 1) C dX12_wholeOf_140 rfl (by decide) rfl (Nat.le_of_ble_eq_true rfl) rfl rfl ?_
              refine g_goto (tgt := 122) C dX12_wholeOf_143 (by decide) ?_
              have hx := hkz12 _ hf.symm
              refine g_sub ?_ hx
              exact (And.intro rfl (And.intro rfl (And.intro rfl (And.intro rfl trivial))))
    · obtain ⟨z8a, z8b⟩ := z8
      dsimp only at hf ⊢
      refine g_iload_n C dX12_wholeOf_77 rfl rfl ?_
      refine g_sipush (v := 448) C dX12_wholeOf_78 (by decide) ?_
      refine g_icmp_ge (tgt := 105) C dX12_wholeOf_81 (by decide) hf (fun hf => ?_) (fun hf => ?_)
      · have hx := hez8 _ hf.symm
        refine g_sub ?_ hx
        exact (And.intro rfl trivial)
      · refine g_aload_n C dX12_wholeOf_84 rfl rfl ?_
        refine g_getR (i := 24) (j := 24) C dX12_wholeOf_85 (L91 hL (by decide) (by decide)) c11 rfl (by decide) f97 (fun _ h9 => h9) (LR91_24 hL (by decide) (by decide)) ?_
        refine g_iload_n C dX12_wholeOf_88 rfl rfl ?_
        refine g_iload_n C dX12_wholeOf_89 rfl rfl ?_
        refine g_if_ne (tgt := 97) C dX12_wholeOf_90 (by decide) hf (fun hf => ?_) (fun hf => ?_)
        · refine g_iconst (v := 0) C dX12_wholeOf_97 (by decide) ?_
          refine g_iast C dX12_wholeOf_98 (L110 hL (by decide) (by decide)) ho hf (fun hf => ?_)
          refine g_iinc (d := 1) C dX12_wholeOf_99 rfl (by decide) rfl (Nat.le_of_ble_eq_true rfl) rfl rfl ?_
          refine g_goto (tgt := 77) C dX12_wholeOf_102 (by decide) ?_
          have hx := hkz8 _ hf.symm
          refine g_sub ?_ hx
          exact (And.intro rfl (And.intro rfl trivial))
        · refine g_iconst (v := 1) C dX12_wholeOf_93 (by decide) ?_
          refine g_goto (tgt := 98) C dX12_wholeOf_94 (by decide) ?_
          refine g_iast C dX12_wholeOf_98 (L110 hL (by decide) (by decide)) ho hf (fun hf => ?_)
          refine g_iinc (d := 1) C dX12_wholeOf_99 rfl (by decide) rfl (Nat.le_of_ble_eq_true rfl) rfl rfl ?_
          refine g_goto (tgt := 77) C dX12_wholeOf_102 (by decide) ?_
          have hx := hkz8 _ hf.symm
          refine g_sub ?_ hx
          exact (And.intro rfl (And.intro rfl trivial))
  · obtain ⟨z1a, z1b⟩ := z1
    dsimp only at hf ⊢
    refine g_iload_n C dX12_wholeOf_2 rfl rfl ?_
    refine g_aload_n C dX12_wholeOf_3 rfl rfl ?_
    refine g_getI (i := 3) (j := 3) C dX12_wholeOf_4 (L91 hL (by decide) (by decide)) c11 rfl f42 (fun _ h9 => h9) ?_
    refine g_icmp_ge (tgt := 75) C dX12_wholeOf_7 (by decide) hf (fun hf => ?_) (fun hf => ?_)
    · have hx := hez1 _ hf.symm
      refine g_sub ?_ hx
      exact (And.intro rfl trivial)
    · refine g_aload_n C dX12_wholeOf_10 rfl rfl ?_
      refine g_aload_n C dX12_wholeOf_11 rfl rfl ?_
      refine g_iload_n C dX12_wholeOf_12 rfl rfl ?_
      refine g_aload_n C dX12_wholeOf_13 rfl rfl ?_
      refine g_getI (i := 2) (j := 2) C dX12_wholeOf_14 (L91 hL (by decide) (by decide)) c11 rfl f11 (fun _ h9 => h9) ?_
      refine g_iload_n C dX12_wholeOf_17 rfl rfl ?_
      obtain ⟨z3, hz3, hf⟩ := gbind hf ho
      refine g_callS C dX12_wholeOf_18 (m_X12_power l X N _ _ _  (gLay.sub hL (by decide) (by decide)) _ _ z3 hz3) gEin0 (va_cwS 2 C.2.2.2.2.1 gX12_wholeOf_X12_power rfl rfl rfl (by decide +kernel) ⟨Nat.le_of_ble_eq_true rfl, Nat.le_of_ble_eq_true rfl⟩) rfl rfl (Nat.le_of_ble_eq_true rfl) ⟨Nat.le_of_ble_eq_true rfl, Nat.le_of_ble_eq_true rfl⟩ ?_
      obtain ⟨z4, hz4, hf⟩ := gbind hf ho
      refine g_callV C dX12_wholeOf_21 (m_X12_step l X N _ _ _  (gLay.sub hL (by decide) (by decide)) _ _ z4 hz4) gEin0 (cwV 2 C.2.2.2.2.1 gX12_wholeOf_X12_step rfl rfl rfl (by decide +kernel) ⟨Nat.le_of_ble_eq_true rfl, Nat.le_of_ble_eq_true rfl⟩) (L91 hL (by decide) (by decide)) (by decide) rfl rfl rfl (Nat.le_of_ble_eq_true rfl) ⟨Nat.le_of_ble_eq_true rfl, Nat.le_of_ble_eq_true rfl⟩ ?_
      refine g_aload_n C dX12_wholeOf_24 rfl rfl ?_
      refine g_getR (i := 6) (j := 6) C dX12_wholeOf_25 (L91 hL (by decide) (by decide)) c11 rfl (by decide) f26 (fun _ h9 => h9) (LR91_6 hL (by decide) (by decide)) ?_
      obtain ⟨z5, hz5, hf⟩ := gbind hf ho
      refine g_callV C dX12_wholeOf_28 (m_X12_figures l X N _ _ _  (gLay.sub hL (by decide) (by decide)) _ _ z5.1 z5.2 hz5) gEin0 (cwV 2 C.2.2.2.2.1 gX12_wholeOf_X12_figures rfl rfl rfl (by decide +kernel) ⟨Nat.le_of_ble_eq_true rfl, Nat.le_of_ble_eq_true rfl⟩) (L91 hL (by decide) (by decide)) (by decide) rfl rfl rfl (Nat.le_of_ble_eq_true rfl) ⟨Nat.le_of_ble_eq_true rfl, Nat.le_of_ble_eq_true rfl⟩ ?_
      refine g_istore_n C dX12_wholeOf_31 rfl (Nat.le_of_ble_eq_true rfl) rfl rfl ?_
      refine g_iconst (v := 0) C dX12_wholeOf_32 (by decide) ?_
      refine g_istore C dX12_wholeOf_33 (Nat.le_of_ble_eq_true rfl) rfl rfl ?_
      refine g_loop (fun z6 => [(0, .ref (X.1 + 91)), (1, .int a0), (2, .int z1a), (4, .int z6.1)]) (fun z6 => z6.2) (fun r7 => [(0, .ref (X.1 + 91)), (1, .int a0), (2, .int z1a)]) (fun r7 => r7) 69 hf ho (And.intro rfl (And.intro rfl (And.intro rfl (And.intro rfl trivial)))) rfl (fun r7 hf => ?_) (fun z6 o1 hf ho hkz6 hez6 => ?_)
      · refine g_iinc (d := 1) C dX12_wholeOf_69 rfl (by decide) rfl (Nat.le_of_ble_eq_true rfl) rfl rfl ?_
        refine g_goto (tgt := 2) C dX12_wholeOf_72 (by decide) ?_
        have hx := hkz1 _ hf.symm
        refine g_sub ?_ hx
        exact (And.intro rfl (And.intro rfl (And.intro rfl trivial)))
      · obtain ⟨z6a, z6b⟩ := z6
        dsimp only at hf ⊢
        refine g_iload C dX12_wholeOf_35 rfl ?_
        refine g_aload_n C dX12_wholeOf_37 rfl rfl ?_
        refine g_getI (i := 3) (j := 3) C dX12_wholeOf_38 (L91 hL (by decide) (by decide)) c11 rfl f42 (fun _ h9 => h9) ?_
        refine g_icmp_ge (tgt := 69) C dX12_wholeOf_41 (by decide) hf (fun hf => ?_) (fun hf => ?_)
        · have hx := hez6 _ hf.symm
          refine g_sub ?_ hx
          exact (And.intro rfl (And.intro rfl (And.intro rfl trivial)))
        · refine g_aload_n C dX12_wholeOf_44 rfl rfl ?_
          refine g_getR (i := 25) (j := 25) C dX12_wholeOf_45 (L91 hL (by decide) (by decide)) c11 rfl (by decide) f100 (fun _ h9 => h9) (LR91_25 hL (by decide) (by decide)) ?_
          refine g_bipush (v := 6) C dX12_wholeOf_48 (by decide) ?_
          refine g_iload_n C dX12_wholeOf_50 rfl rfl ?_
          refine g_imul C dX12_wholeOf_51 ?_
          refine g_iload C dX12_wholeOf_52 rfl ?_
          refine g_iadd C dX12_wholeOf_54 ?_
          refine g_aload_n C dX12_wholeOf_55 rfl rfl ?_
          refine g_getR (i := 6) (j := 6) C dX12_wholeOf_56 (L91 hL (by decide) (by decide)) c11 rfl (by decide) f26 (fun _ h9 => h9) (LR91_6 hL (by decide) (by decide)) ?_
          refine g_iload C dX12_wholeOf_59 rfl ?_
          refine g_iald C dX12_wholeOf_61 (L92 hL (by decide) (by decide)) ho hf (fun hf => ?_)
          refine g_iast C dX12_wholeOf_62 (L111 hL (by decide) (by decide)) ho hf (fun hf => ?_)
          refine g_iinc (d := 1) C dX12_wholeOf_63 rfl (by decide) rfl (Nat.le_of_ble_eq_true rfl) rfl rfl ?_
          refine g_goto (tgt := 35) C dX12_wholeOf_66 (by decide) ?_
          have hx := hkz6 _ hf.symm
          refine g_sub ?_ hx
          exact (And.intro rfl (And.intro rfl (And.intro rfl (And.intro rfl trivial))))

