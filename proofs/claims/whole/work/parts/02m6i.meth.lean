set_option maxRecDepth 100000 in
set_option maxHeartbeats 8000000 in
theorem m_X12_set (l : Launch) (X : gX) (N : Nat) (I : gI) (R : gR) (S : gS) (hL : gLay 91 114 R S) (a0 : Int32) (a1 : Int32) (a2 : Int32) (v : Int32) (J : gI) (hf : f_X12_set N I R S a0 a1 a2 = some (v, J)) : gM l yX12_set wsX12_set { frames := 2, cells := 0, slots := 0, locals := 45 } X gE0 [.ref (X.1 + 91), .int a0, .int a1, .int a2] I R S (some (.int v)) J R S 0 0 := by
  unfold f_X12_set at hf
  refine gM_of (cc := cX12_set) (own := RX12) (maxL := 4) (ret := (some .int)) (by decide) rfl rfl (Nat.le_of_ble_eq_true rfl) ?_
  intro p e s m args below meth c C hr hlk hnm hE
  have ho : (some (v, J)) ≠ none := fun h => by cases h
  have f1 := C.2.2.2.2.1 (.fieldLink RX12 1 "TimesByPowersModel" "thrown" "I") (by decide +kernel)
  have c11 : gCl wsX12_set 11 RX12 TX12 29 := ⟨by decide, rfl, rfl, by decide +kernel⟩
  have f7 := C.2.2.2.2.1 (.fieldLink RX12 7 "TimesByPowersModel" "status" "I") (by decide +kernel)
  have f61 := C.2.2.2.2.1 (.fieldLink RX12 61 "TimesByPowersModel" "lane" "[I") (by decide +kernel)
  have f64 := C.2.2.2.2.1 (.fieldLink RX12 64 "TimesByPowersModel" "many" "[I") (by decide +kernel)
  have f67 := C.2.2.2.2.1 (.fieldLink RX12 67 "TimesByPowersModel" "item" "[I") (by decide +kernel)
  have k141 := C.2.2.2.2.1 (.constant RX12 141 (-1000001)) (by decide +kernel)
  refine g_aload_n C dX12_set_0 rfl rfl ?_
  refine g_iconst (v := 0) C dX12_set_1 (by decide) ?_
  refine g_putI (i := 0) (j := 0) C dX12_set_2 (L91 hL (by decide) (by decide)) c11 gy11 rfl f1 (fun _ h9 => h9) (Or.inl rfl) rfl ?_
  refine g_iload_n C dX12_set_5 rfl rfl ?_
  obtain ⟨z1, hz1, hf⟩ := gbind hf ho
  refine g_callS C dX12_set_6 (m_X12_isRow l X N _ _ _  (gLay.sub hL (by decide) (by decide)) _ z1 hz1) gEin0 (va_cwS 1 C.2.2.2.2.1 gX12_set_X12_isRow rfl rfl rfl (by decide +kernel) ⟨Nat.le_of_ble_eq_true rfl, Nat.le_of_ble_eq_true rfl⟩) rfl rfl (Nat.le_of_ble_eq_true rfl) ⟨Nat.le_of_ble_eq_true rfl, Nat.le_of_ble_eq_true rfl⟩ ?_
  refine g_if_ne (tgt := 15) C dX12_set_9 (by decide) hf (fun hf => ?_) (fun hf => ?_)
  · refine g_aload_n C dX12_set_15 rfl rfl ?_
    refine g_iconst (v := 0) C dX12_set_16 (by decide) ?_
    refine g_putI (i := 1) (j := 1) C dX12_set_17 (L91 hL (by decide) (by decide)) c11 gy11 rfl f7 (fun _ h9 => h9) (Or.inl rfl) rfl ?_
    refine g_aload_n C dX12_set_20 rfl rfl ?_
    refine g_getR (i := 12) (j := 12) C dX12_set_21 (L91 hL (by decide) (by decide)) c11 rfl (by decide) f61 (fun _ h9 => h9) (LR91_12 hL (by decide) (by decide)) ?_
    refine g_iload_n C dX12_set_24 rfl rfl ?_
    refine g_iald C dX12_set_25 (L98 hL (by decide) (by decide)) ho hf (fun hf => ?_)
    refine g_if_ge (tgt := 35) C dX12_set_26 (by decide) hf (fun hf => ?_) (fun hf => ?_)
    · refine g_iload_n C dX12_set_35 rfl rfl ?_
      refine g_i2l C dX12_set_36 ?_
      refine g_lconst (v := 0) C dX12_set_37 (by decide) ?_
      refine g_aload_n C dX12_set_38 rfl rfl ?_
      refine g_getR (i := 13) (j := 13) C dX12_set_39 (L91 hL (by decide) (by decide)) c11 rfl (by decide) f64 (fun _ h9 => h9) (LR91_13 hL (by decide) (by decide)) ?_
      refine g_iload_n C dX12_set_42 rfl rfl ?_
      refine g_iald C dX12_set_43 (L99 hL (by decide) (by decide)) ho hf (fun hf => ?_)
      refine g_iconst (v := 1) C dX12_set_44 (by decide) ?_
      refine g_isub C dX12_set_45 ?_
      refine g_i2l C dX12_set_46 ?_
      obtain ⟨z2, hz2, hf⟩ := gbind hf ho
      refine g_callS C dX12_set_47 (m_X12_in l X N _ _ _  (gLay.sub hL (by decide) (by decide)) _ _ _ z2 hz2) gEin0 (va_cwS 3 C.2.2.2.2.1 gX12_set_X12_in rfl rfl rfl (by decide +kernel) ⟨Nat.le_of_ble_eq_true rfl, Nat.le_of_ble_eq_true rfl⟩) rfl rfl (Nat.le_of_ble_eq_true rfl) ⟨Nat.le_of_ble_eq_true rfl, Nat.le_of_ble_eq_true rfl⟩ ?_
      refine g_if_ne (tgt := 59) C dX12_set_50 (by decide) hf (fun hf => ?_) (fun hf => ?_)
      · refine g_aload_n C dX12_set_59 rfl rfl ?_
        refine g_getR (i := 14) (j := 14) C dX12_set_60 (L91 hL (by decide) (by decide)) c11 rfl (by decide) f67 (fun _ h9 => h9) (LR91_14 hL (by decide) (by decide)) ?_
        refine g_bipush (v := 24) C dX12_set_63 (by decide) ?_
        refine g_iload_n C dX12_set_65 rfl rfl ?_
        refine g_imul C dX12_set_66 ?_
        refine g_iload_n C dX12_set_67 rfl rfl ?_
        refine g_iadd C dX12_set_68 ?_
        refine g_aload_n C dX12_set_69 rfl rfl ?_
        refine g_getR (i := 12) (j := 12) C dX12_set_70 (L91 hL (by decide) (by decide)) c11 rfl (by decide) f61 (fun _ h9 => h9) (LR91_12 hL (by decide) (by decide)) ?_
        refine g_iload_n C dX12_set_73 rfl rfl ?_
        refine g_iald C dX12_set_74 (L98 hL (by decide) (by decide)) ho hf (fun hf => ?_)
        refine g_join (fun z3 => [(0, .ref (X.1 + 91)), (1, .int a0), (2, .int a1)]) (fun z3 => [.int z3, .int (((24 : Int32) * a0) + a1), .ref (X.1 + 100)]) (fun z3 => gU (gU I 91 0 (0 : Int32)) 91 1 (0 : Int32)) 99 hf ho (fun z3 hf => ?_) (fun o1 hf ho hkz3 => ?_)
        · refine g_iast C dX12_set_99 (L100 hL (by decide) (by decide)) ho hf (fun hf => ?_)
          refine g_aload_n C dX12_set_100 rfl rfl ?_
          refine g_getR (i := 14) (j := 14) C dX12_set_101 (L91 hL (by decide) (by decide)) c11 rfl (by decide) f67 (fun _ h9 => h9) (LR91_14 hL (by decide) (by decide)) ?_
          refine g_bipush (v := 24) C dX12_set_104 (by decide) ?_
          refine g_iload_n C dX12_set_106 rfl rfl ?_
          refine g_imul C dX12_set_107 ?_
          refine g_iload_n C dX12_set_108 rfl rfl ?_
          refine g_iadd C dX12_set_109 ?_
          refine g_iald C dX12_set_110 (L100 hL (by decide) (by decide)) ho hf (fun hf => ?_)
          obtain ⟨rfl, rfl⟩ := gs2 hf
          exact g_iret C dX12_set_111 hr hlk
        · refine g_if_ne (tgt := 83) C dX12_set_75 (by decide) hf (fun hf => ?_) (fun hf => ?_)
          · refine g_aload_n C dX12_set_83 rfl rfl ?_
            refine g_getR (i := 12) (j := 12) C dX12_set_84 (L91 hL (by decide) (by decide)) c11 rfl (by decide) f61 (fun _ h9 => h9) (LR91_12 hL (by decide) (by decide)) ?_
            refine g_iload_n C dX12_set_87 rfl rfl ?_
            refine g_iald C dX12_set_88 (L98 hL (by decide) (by decide)) ho hf (fun hf => ?_)
            refine g_iconst (v := 1) C dX12_set_89 (by decide) ?_
            refine g_icmp_ne (tgt := 98) C dX12_set_90 (by decide) hf (fun hf => ?_) (fun hf => ?_)
            · refine g_iload_n C dX12_set_98 rfl rfl ?_
              have hx := hkz3 _ hf.symm
              refine g_sub ?_ hx
              exact (And.intro rfl (And.intro rfl (And.intro rfl trivial)))
            · refine g_iload_n C dX12_set_93 rfl rfl ?_
              refine g_i2s C dX12_set_94 ?_
              refine g_goto (tgt := 99) C dX12_set_95 (by decide) ?_
              have hx := hkz3 _ hf.symm
              refine g_sub ?_ hx
              exact (And.intro rfl (And.intro rfl (And.intro rfl trivial)))
          · refine g_iload_n C dX12_set_78 rfl rfl ?_
            refine g_i2b C dX12_set_79 ?_
            refine g_goto (tgt := 99) C dX12_set_80 (by decide) ?_
            have hx := hkz3 _ hf.symm
            refine g_sub ?_ hx
            exact (And.intro rfl (And.intro rfl (And.intro rfl trivial)))
      · refine g_aload_n C dX12_set_53 rfl rfl ?_
        refine g_iconst (v := 2) C dX12_set_54 (by decide) ?_
        obtain ⟨z4, hz4, hf⟩ := gbind hf ho
        refine g_callV C dX12_set_55 (m_X12_found l X N _ _ _  (gLay.sub hL (by decide) (by decide)) _ z4.1 z4.2 hz4) gEin0 (cwV 1 C.2.2.2.2.1 gX12_set_X12_found rfl rfl rfl (by decide +kernel) ⟨Nat.le_of_ble_eq_true rfl, Nat.le_of_ble_eq_true rfl⟩) (L91 hL (by decide) (by decide)) (by decide) rfl rfl rfl (Nat.le_of_ble_eq_true rfl) ⟨Nat.le_of_ble_eq_true rfl, Nat.le_of_ble_eq_true rfl⟩ ?_
        obtain ⟨rfl, rfl⟩ := gs2 hf
        exact g_iret C dX12_set_58 hr hlk
    · refine g_aload_n C dX12_set_29 rfl rfl ?_
      refine g_iconst (v := 1) C dX12_set_30 (by decide) ?_
      obtain ⟨z5, hz5, hf⟩ := gbind hf ho
      refine g_callV C dX12_set_31 (m_X12_found l X N _ _ _  (gLay.sub hL (by decide) (by decide)) _ z5.1 z5.2 hz5) gEin0 (cwV 1 C.2.2.2.2.1 gX12_set_X12_found rfl rfl rfl (by decide +kernel) ⟨Nat.le_of_ble_eq_true rfl, Nat.le_of_ble_eq_true rfl⟩) (L91 hL (by decide) (by decide)) (by decide) rfl rfl rfl (Nat.le_of_ble_eq_true rfl) ⟨Nat.le_of_ble_eq_true rfl, Nat.le_of_ble_eq_true rfl⟩ ?_
      obtain ⟨rfl, rfl⟩ := gs2 hf
      exact g_iret C dX12_set_34 hr hlk
  · refine g_ldc C k141 dX12_set_12 ?_
    obtain ⟨rfl, rfl⟩ := gs2 hf
    exact g_iret C dX12_set_14 hr hlk
set_option maxRecDepth 100000 in
set_option maxHeartbeats 8000000 in
theorem m_X12_copy (l : Launch) (X : gX) (N : Nat) (I : gI) (R : gR) (S : gS) (hL : gLay 91 114 R S) (a0 : Int32) (a1 : Int32) (a2 : Int32) (a3 : Int32) (a4 : Int32) (v : Int32) (J : gI) (hf : f_X12_copy N I R S a0 a1 a2 a3 a4 = some (v, J)) : gM l yX12_copy wsX12_copy { frames := 2, cells := 0, slots := 0, locals := 45 } X gE0 [.ref (X.1 + 91), .int a0, .int a1, .int a2, .int a3, .int a4] I R S (some (.int v)) J R S 0 0 := by
  unfold f_X12_copy at hf
  refine gM_of (cc := cX12_copy) (own := RX12) (maxL := 9) (ret := (some .int)) (by decide) rfl rfl (Nat.le_of_ble_eq_true rfl) ?_
  intro p e s m args below meth c C hr hlk hnm hE
  have ho : (some (v, J)) ≠ none := fun h => by cases h
  have f1 := C.2.2.2.2.1 (.fieldLink RX12 1 "TimesByPowersModel" "thrown" "I") (by decide +kernel)
  have c11 : gCl wsX12_copy 11 RX12 TX12 29 := ⟨by decide, rfl, rfl, by decide +kernel⟩
  have k141 := C.2.2.2.2.1 (.constant RX12 141 (-1000001)) (by decide +kernel)
  have f7 := C.2.2.2.2.1 (.fieldLink RX12 7 "TimesByPowersModel" "status" "I") (by decide +kernel)
  have f61 := C.2.2.2.2.1 (.fieldLink RX12 61 "TimesByPowersModel" "lane" "[I") (by decide +kernel)
  have f64 := C.2.2.2.2.1 (.fieldLink RX12 64 "TimesByPowersModel" "many" "[I") (by decide +kernel)
  have f67 := C.2.2.2.2.1 (.fieldLink RX12 67 "TimesByPowersModel" "item" "[I") (by decide +kernel)
  refine g_aload_n C dX12_copy_0 rfl rfl ?_
  refine g_iconst (v := 0) C dX12_copy_1 (by decide) ?_
  refine g_putI (i := 0) (j := 0) C dX12_copy_2 (L91 hL (by decide) (by decide)) c11 gy11 rfl f1 (fun _ h9 => h9) (Or.inl rfl) rfl ?_
  refine g_iload_n C dX12_copy_5 rfl rfl ?_
  obtain ⟨z1, hz1, hf⟩ := gbind hf ho
  refine g_callS C dX12_copy_6 (m_X12_isRow l X N _ _ _  (gLay.sub hL (by decide) (by decide)) _ z1 hz1) gEin0 (va_cwS 1 C.2.2.2.2.1 gX12_copy_X12_isRow rfl rfl rfl (by decide +kernel) ⟨Nat.le_of_ble_eq_true rfl, Nat.le_of_ble_eq_true rfl⟩) rfl rfl (Nat.le_of_ble_eq_true rfl) ⟨Nat.le_of_ble_eq_true rfl, Nat.le_of_ble_eq_true rfl⟩ ?_
  refine g_if_eq (tgt := 19) C dX12_copy_9 (by decide) hf (fun hf => ?_) (fun hf => ?_)
  · refine g_ldc C k141 dX12_copy_19 ?_
    obtain ⟨rfl, rfl⟩ := gs2 hf
    exact g_iret C dX12_copy_21 hr hlk
  · refine g_iload_n C dX12_copy_12 rfl rfl ?_
    obtain ⟨z2, hz2, hf⟩ := gbind hf ho
    refine g_callS C dX12_copy_13 (m_X12_isRow l X N _ _ _  (gLay.sub hL (by decide) (by decide)) _ z2 hz2) gEin0 (va_cwS 1 C.2.2.2.2.1 gX12_copy_X12_isRow rfl rfl rfl (by decide +kernel) ⟨Nat.le_of_ble_eq_true rfl, Nat.le_of_ble_eq_true rfl⟩) rfl rfl (Nat.le_of_ble_eq_true rfl) ⟨Nat.le_of_ble_eq_true rfl, Nat.le_of_ble_eq_true rfl⟩ ?_
    refine g_if_ne (tgt := 22) C dX12_copy_16 (by decide) hf (fun hf => ?_) (fun hf => ?_)
    · refine g_aload_n C dX12_copy_22 rfl rfl ?_
      refine g_iconst (v := 0) C dX12_copy_23 (by decide) ?_
      refine g_putI (i := 1) (j := 1) C dX12_copy_24 (L91 hL (by decide) (by decide)) c11 gy11 rfl f7 (fun _ h9 => h9) (Or.inl rfl) rfl ?_
      refine g_aload_n C dX12_copy_27 rfl rfl ?_
      refine g_getR (i := 12) (j := 12) C dX12_copy_28 (L91 hL (by decide) (by decide)) c11 rfl (by decide) f61 (fun _ h9 => h9) (LR91_12 hL (by decide) (by decide)) ?_
      refine g_iload_n C dX12_copy_31 rfl rfl ?_
      refine g_iald C dX12_copy_32 (L98 hL (by decide) (by decide)) ho hf (fun hf => ?_)
      refine g_if_lt (tgt := 45) C dX12_copy_33 (by decide) hf (fun hf => ?_) (fun hf => ?_)
      · refine g_aload_n C dX12_copy_45 rfl rfl ?_
        refine g_iconst (v := 1) C dX12_copy_46 (by decide) ?_
        obtain ⟨z3, hz3, hf⟩ := gbind hf ho
        refine g_callV C dX12_copy_47 (m_X12_found l X N _ _ _  (gLay.sub hL (by decide) (by decide)) _ z3.1 z3.2 hz3) gEin0 (cwV 1 C.2.2.2.2.1 gX12_copy_X12_found rfl rfl rfl (by decide +kernel) ⟨Nat.le_of_ble_eq_true rfl, Nat.le_of_ble_eq_true rfl⟩) (L91 hL (by decide) (by decide)) (by decide) rfl rfl rfl (Nat.le_of_ble_eq_true rfl) ⟨Nat.le_of_ble_eq_true rfl, Nat.le_of_ble_eq_true rfl⟩ ?_
        obtain ⟨rfl, rfl⟩ := gs2 hf
        exact g_iret C dX12_copy_50 hr hlk
      · refine g_aload_n C dX12_copy_36 rfl rfl ?_
        refine g_getR (i := 12) (j := 12) C dX12_copy_37 (L91 hL (by decide) (by decide)) c11 rfl (by decide) f61 (fun _ h9 => h9) (LR91_12 hL (by decide) (by decide)) ?_
        refine g_iload_n C dX12_copy_40 rfl rfl ?_
        refine g_iald C dX12_copy_41 (L98 hL (by decide) (by decide)) ho hf (fun hf => ?_)
        refine g_if_ge (tgt := 51) C dX12_copy_42 (by decide) hf (fun hf => ?_) (fun hf => ?_)
        · refine g_aload_n C dX12_copy_51 rfl rfl ?_
          refine g_getR (i := 12) (j := 12) C dX12_copy_52 (L91 hL (by decide) (by decide)) c11 rfl (by decide) f61 (fun _ h9 => h9) (LR91_12 hL (by decide) (by decide)) ?_
          refine g_iload_n C dX12_copy_55 rfl rfl ?_
          refine g_iald C dX12_copy_56 (L98 hL (by decide) (by decide)) ho hf (fun hf => ?_)
          refine g_aload_n C dX12_copy_57 rfl rfl ?_
          refine g_getR (i := 12) (j := 12) C dX12_copy_58 (L91 hL (by decide) (by decide)) c11 rfl (by decide) f61 (fun _ h9 => h9) (LR91_12 hL (by decide) (by decide)) ?_
          refine g_iload_n C dX12_copy_61 rfl rfl ?_
          refine g_iald C dX12_copy_62 (L98 hL (by decide) (by decide)) ho hf (fun hf => ?_)
          refine g_icmp_eq (tgt := 72) C dX12_copy_63 (by decide) hf (fun hf => ?_) (fun hf => ?_)
          · refine g_iload_n C dX12_copy_72 rfl rfl ?_
            refine g_if_lt (tgt := 121) C dX12_copy_73 (by decide) hf (fun hf => ?_) (fun hf => ?_)
            · refine g_aload_n C dX12_copy_121 rfl rfl ?_
              refine g_iconst (v := 2) C dX12_copy_122 (by decide) ?_
              obtain ⟨z4, hz4, hf⟩ := gbind hf ho
              refine g_callV C dX12_copy_123 (m_X12_found l X N _ _ _  (gLay.sub hL (by decide) (by decide)) _ z4.1 z4.2 hz4) gEin0 (cwV 1 C.2.2.2.2.1 gX12_copy_X12_found rfl rfl rfl (by decide +kernel) ⟨Nat.le_of_ble_eq_true rfl, Nat.le_of_ble_eq_true rfl⟩) (L91 hL (by decide) (by decide)) (by decide) rfl rfl rfl (Nat.le_of_ble_eq_true rfl) ⟨Nat.le_of_ble_eq_true rfl, Nat.le_of_ble_eq_true rfl⟩ ?_
              obtain ⟨rfl, rfl⟩ := gs2 hf
              exact g_iret C dX12_copy_126 hr hlk
            · refine g_iload C dX12_copy_76 rfl ?_
              refine g_if_lt (tgt := 121) C dX12_copy_78 (by decide) hf (fun hf => ?_) (fun hf => ?_)
              · refine g_aload_n C dX12_copy_121 rfl rfl ?_
                refine g_iconst (v := 2) C dX12_copy_122 (by decide) ?_
                obtain ⟨z5, hz5, hf⟩ := gbind hf ho
                refine g_callV C dX12_copy_123 (m_X12_found l X N _ _ _  (gLay.sub hL (by decide) (by decide)) _ z5.1 z5.2 hz5) gEin0 (cwV 1 C.2.2.2.2.1 gX12_copy_X12_found rfl rfl rfl (by decide +kernel) ⟨Nat.le_of_ble_eq_true rfl, Nat.le_of_ble_eq_true rfl⟩) (L91 hL (by decide) (by decide)) (by decide) rfl rfl rfl (Nat.le_of_ble_eq_true rfl) ⟨Nat.le_of_ble_eq_true rfl, Nat.le_of_ble_eq_true rfl⟩ ?_
                obtain ⟨rfl, rfl⟩ := gs2 hf
                exact g_iret C dX12_copy_126 hr hlk
              · refine g_iload C dX12_copy_81 rfl ?_
                refine g_if_lt (tgt := 121) C dX12_copy_83 (by decide) hf (fun hf => ?_) (fun hf => ?_)
                · refine g_aload_n C dX12_copy_121 rfl rfl ?_
                  refine g_iconst (v := 2) C dX12_copy_122 (by decide) ?_
                  obtain ⟨z6, hz6, hf⟩ := gbind hf ho
                  refine g_callV C dX12_copy_123 (m_X12_found l X N _ _ _  (gLay.sub hL (by decide) (by decide)) _ z6.1 z6.2 hz6) gEin0 (cwV 1 C.2.2.2.2.1 gX12_copy_X12_found rfl rfl rfl (by decide +kernel) ⟨Nat.le_of_ble_eq_true rfl, Nat.le_of_ble_eq_true rfl⟩) (L91 hL (by decide) (by decide)) (by decide) rfl rfl rfl (Nat.le_of_ble_eq_true rfl) ⟨Nat.le_of_ble_eq_true rfl, Nat.le_of_ble_eq_true rfl⟩ ?_
                  obtain ⟨rfl, rfl⟩ := gs2 hf
                  exact g_iret C dX12_copy_126 hr hlk
                · refine g_iload_n C dX12_copy_86 rfl rfl ?_
                  refine g_i2l C dX12_copy_87 ?_
                  refine g_iload C dX12_copy_88 rfl ?_
                  refine g_i2l C dX12_copy_90 ?_
                  refine g_ladd C dX12_copy_91 ?_
                  refine g_aload_n C dX12_copy_92 rfl rfl ?_
                  refine g_getR (i := 13) (j := 13) C dX12_copy_93 (L91 hL (by decide) (by decide)) c11 rfl (by decide) f64 (fun _ h9 => h9) (LR91_13 hL (by decide) (by decide)) ?_
                  refine g_iload_n C dX12_copy_96 rfl rfl ?_
                  refine g_iald C dX12_copy_97 (L99 hL (by decide) (by decide)) ho hf (fun hf => ?_)
                  refine g_i2l C dX12_copy_98 ?_
                  refine g_lcmp C dX12_copy_99 ?_
                  refine g_if_gt (tgt := 121) C dX12_copy_100 (by decide) hf (fun hf => ?_) (fun hf => ?_)
                  · refine g_aload_n C dX12_copy_121 rfl rfl ?_
                    refine g_iconst (v := 2) C dX12_copy_122 (by decide) ?_
                    obtain ⟨z7, hz7, hf⟩ := gbind hf ho
                    refine g_callV C dX12_copy_123 (m_X12_found l X N _ _ _  (gLay.sub hL (by decide) (by decide)) _ z7.1 z7.2 hz7) gEin0 (cwV 1 C.2.2.2.2.1 gX12_copy_X12_found rfl rfl rfl (by decide +kernel) ⟨Nat.le_of_ble_eq_true rfl, Nat.le_of_ble_eq_true rfl⟩) (L91 hL (by decide) (by decide)) (by decide) rfl rfl rfl (Nat.le_of_ble_eq_true rfl) ⟨Nat.le_of_ble_eq_true rfl, Nat.le_of_ble_eq_true rfl⟩ ?_
                    obtain ⟨rfl, rfl⟩ := gs2 hf
                    exact g_iret C dX12_copy_126 hr hlk
                  · refine g_iload C dX12_copy_103 rfl ?_
                    refine g_i2l C dX12_copy_105 ?_
                    refine g_iload C dX12_copy_106 rfl ?_
                    refine g_i2l C dX12_copy_108 ?_
                    refine g_ladd C dX12_copy_109 ?_
                    refine g_aload_n C dX12_copy_110 rfl rfl ?_
                    refine g_getR (i := 13) (j := 13) C dX12_copy_111 (L91 hL (by decide) (by decide)) c11 rfl (by decide) f64 (fun _ h9 => h9) (LR91_13 hL (by decide) (by decide)) ?_
                    refine g_iload_n C dX12_copy_114 rfl rfl ?_
                    refine g_iald C dX12_copy_115 (L99 hL (by decide) (by decide)) ho hf (fun hf => ?_)
                    refine g_i2l C dX12_copy_116 ?_
                    refine g_lcmp C dX12_copy_117 ?_
                    refine g_if_le (tgt := 127) C dX12_copy_118 (by decide) hf (fun hf => ?_) (fun hf => ?_)
                    · refine g_iload_n C dX12_copy_127 rfl rfl ?_
                      refine g_iload C dX12_copy_128 rfl ?_
                      refine g_join (fun z8 => [(0, .ref (X.1 + 91)), (1, .int a0), (2, .int a1), (3, .int a2), (4, .int a3), (5, .int a4)]) (fun z8 => [.int z8]) (fun z8 => gU (gU I 91 0 (0 : Int32)) 91 1 (0 : Int32)) 138 hf ho (fun z8 hf => ?_) (fun o1 hf ho hkz8 => ?_)
                      · refine g_istore C dX12_copy_138 (Nat.le_of_ble_eq_true rfl) rfl rfl ?_
                        refine g_iconst (v := 0) C dX12_copy_140 (by decide) ?_
                        refine g_istore C dX12_copy_141 (Nat.le_of_ble_eq_true rfl) rfl rfl ?_
                        refine g_loop (fun z9 => [(0, .ref (X.1 + 91)), (1, .int a0), (2, .int a1), (3, .int a2), (4, .int a3), (5, .int a4), (6, .int z8), (7, .int z9.1)]) (fun z9 => z9.2) (fun r10 => [(5, .int a4)]) (fun r10 => r10) 204 hf ho (And.intro rfl (And.intro rfl (And.intro rfl (And.intro rfl (And.intro rfl (And.intro rfl (And.intro rfl (And.intro rfl trivial)))))))) rfl (fun r10 hf => ?_) (fun z9 o1 hf ho hkz9 hez9 => ?_)
                        · refine g_iload C dX12_copy_204 rfl ?_
                          obtain ⟨rfl, rfl⟩ := gs2 hf
                          exact g_iret C dX12_copy_206 hr hlk
                        · refine g_iload C dX12_copy_143 rfl ?_
                          refine g_iload C dX12_copy_145 rfl ?_
                          refine g_icmp_ge (tgt := 204) C dX12_copy_147 (by decide) hf (fun hf => ?_) (fun hf => ?_)
                          · have hx := hez9 _ hf.symm
                            refine g_sub ?_ hx
                            exact (And.intro rfl trivial)
                          · refine g_iload C dX12_copy_150 rfl ?_
                            refine g_join (fun z11 => [(0, .ref (X.1 + 91)), (1, .int a0), (2, .int a1), (3, .int a2), (4, .int a3), (5, .int a4), (6, .int z8), (7, .int z9.1)]) (fun z11 => [.int z11]) (fun z11 => z9.2) 167 hf ho (fun z11 hf => ?_) (fun o1 hf ho hkz11 => ?_)
                            · refine g_istore C dX12_copy_167 (Nat.le_of_ble_eq_true rfl) rfl rfl ?_
                              refine g_aload_n C dX12_copy_169 rfl rfl ?_
                              refine g_getR (i := 14) (j := 14) C dX12_copy_170 (L91 hL (by decide) (by decide)) c11 rfl (by decide) f67 (fun _ h9 => h9) (LR91_14 hL (by decide) (by decide)) ?_
                              refine g_bipush (v := 24) C dX12_copy_173 (by decide) ?_
                              refine g_iload_n C dX12_copy_175 rfl rfl ?_
                              refine g_imul C dX12_copy_176 ?_
                              refine g_iload C dX12_copy_177 rfl ?_
                              refine g_iadd C dX12_copy_179 ?_
                              refine g_iload C dX12_copy_180 rfl ?_
                              refine g_iadd C dX12_copy_182 ?_
                              refine g_aload_n C dX12_copy_183 rfl rfl ?_
                              refine g_getR (i := 14) (j := 14) C dX12_copy_184 (L91 hL (by decide) (by decide)) c11 rfl (by decide) f67 (fun _ h9 => h9) (LR91_14 hL (by decide) (by decide)) ?_
                              refine g_bipush (v := 24) C dX12_copy_187 (by decide) ?_
                              refine g_iload_n C dX12_copy_189 rfl rfl ?_
                              refine g_imul C dX12_copy_190 ?_
                              refine g_iload_n C dX12_copy_191 rfl rfl ?_
                              refine g_iadd C dX12_copy_192 ?_
                              refine g_iload C dX12_copy_193 rfl ?_
                              refine g_iadd C dX12_copy_195 ?_
                              refine g_iald C dX12_copy_196 (L100 hL (by decide) (by decide)) ho hf (fun hf => ?_)
                              refine g_iast C dX12_copy_197 (L100 hL (by decide) (by decide)) ho hf (fun hf => ?_)
                              refine g_iinc (d := 1) C dX12_copy_198 rfl (by decide) rfl (Nat.le_of_ble_eq_true rfl) rfl rfl ?_
                              refine g_goto (tgt := 143) C dX12_copy_201 (by decide) ?_
                              have hx := hkz9 _ hf.symm
                              refine g_sub ?_ hx
                              exact (And.intro rfl (And.intro rfl (And.intro rfl (And.intro rfl (And.intro rfl (And.intro rfl (And.intro rfl (And.intro rfl trivial))))))))
                            · refine g_if_eq (tgt := 160) C dX12_copy_152 (by decide) hf (fun hf => ?_) (fun hf => ?_)
                              · refine g_iload C dX12_copy_160 rfl ?_
                                refine g_iconst (v := 1) C dX12_copy_162 (by decide) ?_
                                refine g_isub C dX12_copy_163 ?_
                                refine g_iload C dX12_copy_164 rfl ?_
                                refine g_isub C dX12_copy_166 ?_
                                have hx := hkz11 _ hf.symm
                                refine g_sub ?_ hx
                                exact (And.intro rfl (And.intro rfl (And.intro rfl (And.intro rfl (And.intro rfl (And.intro rfl (And.intro rfl (And.intro rfl trivial))))))))
                              · refine g_iload C dX12_copy_155 rfl ?_
                                refine g_goto (tgt := 167) C dX12_copy_157 (by decide) ?_
                                have hx := hkz11 _ hf.symm
                                refine g_sub ?_ hx
                                exact (And.intro rfl (And.intro rfl (And.intro rfl (And.intro rfl (And.intro rfl (And.intro rfl (And.intro rfl (And.intro rfl trivial))))))))
                      · refine g_icmp_lt (tgt := 137) C dX12_copy_130 (by decide) hf (fun hf => ?_) (fun hf => ?_)
                        · refine g_iconst (v := 0) C dX12_copy_137 (by decide) ?_
                          have hx := hkz8 _ hf.symm
                          refine g_sub ?_ hx
                          exact (And.intro rfl (And.intro rfl (And.intro rfl (And.intro rfl (And.intro rfl (And.intro rfl trivial))))))
                        · refine g_iconst (v := 1) C dX12_copy_133 (by decide) ?_
                          refine g_goto (tgt := 138) C dX12_copy_134 (by decide) ?_
                          have hx := hkz8 _ hf.symm
                          refine g_sub ?_ hx
                          exact (And.intro rfl (And.intro rfl (And.intro rfl (And.intro rfl (And.intro rfl (And.intro rfl trivial))))))
                    · refine g_aload_n C dX12_copy_121 rfl rfl ?_
                      refine g_iconst (v := 2) C dX12_copy_122 (by decide) ?_
                      obtain ⟨z12, hz12, hf⟩ := gbind hf ho
                      refine g_callV C dX12_copy_123 (m_X12_found l X N _ _ _  (gLay.sub hL (by decide) (by decide)) _ z12.1 z12.2 hz12) gEin0 (cwV 1 C.2.2.2.2.1 gX12_copy_X12_found rfl rfl rfl (by decide +kernel) ⟨Nat.le_of_ble_eq_true rfl, Nat.le_of_ble_eq_true rfl⟩) (L91 hL (by decide) (by decide)) (by decide) rfl rfl rfl (Nat.le_of_ble_eq_true rfl) ⟨Nat.le_of_ble_eq_true rfl, Nat.le_of_ble_eq_true rfl⟩ ?_
                      obtain ⟨rfl, rfl⟩ := gs2 hf
                      exact g_iret C dX12_copy_126 hr hlk
          · refine g_aload_n C dX12_copy_66 rfl rfl ?_
            refine g_iconst (v := 5) C dX12_copy_67 (by decide) ?_
            obtain ⟨z13, hz13, hf⟩ := gbind hf ho
            refine g_callV C dX12_copy_68 (m_X12_found l X N _ _ _  (gLay.sub hL (by decide) (by decide)) _ z13.1 z13.2 hz13) gEin0 (cwV 1 C.2.2.2.2.1 gX12_copy_X12_found rfl rfl rfl (by decide +kernel) ⟨Nat.le_of_ble_eq_true rfl, Nat.le_of_ble_eq_true rfl⟩) (L91 hL (by decide) (by decide)) (by decide) rfl rfl rfl (Nat.le_of_ble_eq_true rfl) ⟨Nat.le_of_ble_eq_true rfl, Nat.le_of_ble_eq_true rfl⟩ ?_
            obtain ⟨rfl, rfl⟩ := gs2 hf
            exact g_iret C dX12_copy_71 hr hlk
        · refine g_aload_n C dX12_copy_45 rfl rfl ?_
          refine g_iconst (v := 1) C dX12_copy_46 (by decide) ?_
          obtain ⟨z14, hz14, hf⟩ := gbind hf ho
          refine g_callV C dX12_copy_47 (m_X12_found l X N _ _ _  (gLay.sub hL (by decide) (by decide)) _ z14.1 z14.2 hz14) gEin0 (cwV 1 C.2.2.2.2.1 gX12_copy_X12_found rfl rfl rfl (by decide +kernel) ⟨Nat.le_of_ble_eq_true rfl, Nat.le_of_ble_eq_true rfl⟩) (L91 hL (by decide) (by decide)) (by decide) rfl rfl rfl (Nat.le_of_ble_eq_true rfl) ⟨Nat.le_of_ble_eq_true rfl, Nat.le_of_ble_eq_true rfl⟩ ?_
          obtain ⟨rfl, rfl⟩ := gs2 hf
          exact g_iret C dX12_copy_50 hr hlk
    · refine g_ldc C k141 dX12_copy_19 ?_
      obtain ⟨rfl, rfl⟩ := gs2 hf
      exact g_iret C dX12_copy_21 hr hlk
set_option maxRecDepth 100000 in
set_option maxHeartbeats 8000000 in
theorem m_X12_drop (l : Launch) (X : gX) (N : Nat) (I : gI) (R : gR) (S : gS) (hL : gLay 91 114 R S) (a0 : Int32) (v : Int32) (J : gI) (hf : f_X12_drop N I R S a0 = some (v, J)) : gM l yX12_drop wsX12_drop { frames := 2, cells := 0, slots := 0, locals := 45 } X gE0 [.ref (X.1 + 91), .int a0] I R S (some (.int v)) J R S 0 0 := by
  unfold f_X12_drop at hf
  refine gM_of (cc := cX12_drop) (own := RX12) (maxL := 2) (ret := (some .int)) (by decide) rfl rfl (Nat.le_of_ble_eq_true rfl) ?_
  intro p e s m args below meth c C hr hlk hnm hE
  have ho : (some (v, J)) ≠ none := fun h => by cases h
  have f1 := C.2.2.2.2.1 (.fieldLink RX12 1 "TimesByPowersModel" "thrown" "I") (by decide +kernel)
  have c11 : gCl wsX12_drop 11 RX12 TX12 29 := ⟨by decide, rfl, rfl, by decide +kernel⟩
  have f7 := C.2.2.2.2.1 (.fieldLink RX12 7 "TimesByPowersModel" "status" "I") (by decide +kernel)
  have f61 := C.2.2.2.2.1 (.fieldLink RX12 61 "TimesByPowersModel" "lane" "[I") (by decide +kernel)
  have f64 := C.2.2.2.2.1 (.fieldLink RX12 64 "TimesByPowersModel" "many" "[I") (by decide +kernel)
  have k141 := C.2.2.2.2.1 (.constant RX12 141 (-1000001)) (by decide +kernel)
  refine g_aload_n C dX12_drop_0 rfl rfl ?_
  refine g_iconst (v := 0) C dX12_drop_1 (by decide) ?_
  refine g_putI (i := 0) (j := 0) C dX12_drop_2 (L91 hL (by decide) (by decide)) c11 gy11 rfl f1 (fun _ h9 => h9) (Or.inl rfl) rfl ?_
  refine g_iload_n C dX12_drop_5 rfl rfl ?_
  obtain ⟨z1, hz1, hf⟩ := gbind hf ho
  refine g_callS C dX12_drop_6 (m_X12_isRow l X N _ _ _  (gLay.sub hL (by decide) (by decide)) _ z1 hz1) gEin0 (va_cwS 1 C.2.2.2.2.1 gX12_drop_X12_isRow rfl rfl rfl (by decide +kernel) ⟨Nat.le_of_ble_eq_true rfl, Nat.le_of_ble_eq_true rfl⟩) rfl rfl (Nat.le_of_ble_eq_true rfl) ⟨Nat.le_of_ble_eq_true rfl, Nat.le_of_ble_eq_true rfl⟩ ?_
  refine g_if_ne (tgt := 15) C dX12_drop_9 (by decide) hf (fun hf => ?_) (fun hf => ?_)
  · refine g_aload_n C dX12_drop_15 rfl rfl ?_
    refine g_iconst (v := 0) C dX12_drop_16 (by decide) ?_
    refine g_putI (i := 1) (j := 1) C dX12_drop_17 (L91 hL (by decide) (by decide)) c11 gy11 rfl f7 (fun _ h9 => h9) (Or.inl rfl) rfl ?_
    refine g_aload_n C dX12_drop_20 rfl rfl ?_
    refine g_getR (i := 12) (j := 12) C dX12_drop_21 (L91 hL (by decide) (by decide)) c11 rfl (by decide) f61 (fun _ h9 => h9) (LR91_12 hL (by decide) (by decide)) ?_
    refine g_iload_n C dX12_drop_24 rfl rfl ?_
    refine g_iald C dX12_drop_25 (L98 hL (by decide) (by decide)) ho hf (fun hf => ?_)
    refine g_if_ge (tgt := 35) C dX12_drop_26 (by decide) hf (fun hf => ?_) (fun hf => ?_)
    · refine g_aload_n C dX12_drop_35 rfl rfl ?_
      refine g_getR (i := 12) (j := 12) C dX12_drop_36 (L91 hL (by decide) (by decide)) c11 rfl (by decide) f61 (fun _ h9 => h9) (LR91_12 hL (by decide) (by decide)) ?_
      refine g_iload_n C dX12_drop_39 rfl rfl ?_
      refine g_iconst (v := -1) C dX12_drop_40 (by decide) ?_
      refine g_iast C dX12_drop_41 (L98 hL (by decide) (by decide)) ho hf (fun hf => ?_)
      refine g_aload_n C dX12_drop_42 rfl rfl ?_
      refine g_getR (i := 13) (j := 13) C dX12_drop_43 (L91 hL (by decide) (by decide)) c11 rfl (by decide) f64 (fun _ h9 => h9) (LR91_13 hL (by decide) (by decide)) ?_
      refine g_iload_n C dX12_drop_46 rfl rfl ?_
      refine g_iald C dX12_drop_47 (L99 hL (by decide) (by decide)) ho hf (fun hf => ?_)
      obtain ⟨rfl, rfl⟩ := gs2 hf
      exact g_iret C dX12_drop_48 hr hlk
    · refine g_aload_n C dX12_drop_29 rfl rfl ?_
      refine g_iconst (v := 1) C dX12_drop_30 (by decide) ?_
      obtain ⟨z2, hz2, hf⟩ := gbind hf ho
      refine g_callV C dX12_drop_31 (m_X12_found l X N _ _ _  (gLay.sub hL (by decide) (by decide)) _ z2.1 z2.2 hz2) gEin0 (cwV 1 C.2.2.2.2.1 gX12_drop_X12_found rfl rfl rfl (by decide +kernel) ⟨Nat.le_of_ble_eq_true rfl, Nat.le_of_ble_eq_true rfl⟩) (L91 hL (by decide) (by decide)) (by decide) rfl rfl rfl (Nat.le_of_ble_eq_true rfl) ⟨Nat.le_of_ble_eq_true rfl, Nat.le_of_ble_eq_true rfl⟩ ?_
      obtain ⟨rfl, rfl⟩ := gs2 hf
      exact g_iret C dX12_drop_34 hr hlk
  · refine g_ldc C k141 dX12_drop_12 ?_
    obtain ⟨rfl, rfl⟩ := gs2 hf
    exact g_iret C dX12_drop_14 hr hlk
set_option maxRecDepth 100000 in
set_option maxHeartbeats 8000000 in
theorem m_X12_isPlace (l : Launch) (X : gX) (N : Nat) (I : gI) (R : gR) (S : gS) (hL : gLay 91 114 R S) (a0 : Int32) (v : Int32) (hf : f_X12_isPlace N I R S a0 = some v) : gM l yX12_isPlace wsX12_isPlace { frames := 1, cells := 0, slots := 0, locals := 25 } X gE0 [.int a0] I R S (some (.int v)) I R S 0 0 := by
  unfold f_X12_isPlace at hf
  refine gM_of (cc := cX12_isPlace) (own := RX12) (maxL := 1) (ret := (some .boolean)) (by decide) rfl rfl (Nat.le_of_ble_eq_true rfl) ?_
  intro p e s m args below meth c C hr hlk hnm hE
  have ho : (some v) ≠ none := fun h => by cases h
  have k157 := C.2.2.2.2.1 (.constantLong RX12 157 (9)) (by decide +kernel)
  refine g_iload_n C dX12_isPlace_0 rfl rfl ?_
  refine g_i2l C dX12_isPlace_1 ?_
  refine g_lconst (v := 0) C dX12_isPlace_2 (by decide) ?_
  refine g_ldc2 C k157 dX12_isPlace_3 ?_
  obtain ⟨z1, hz1, hf⟩ := gbind hf ho
  refine g_callS C dX12_isPlace_6 (m_X12_in l X N _ _ _  (gLay.sub hL (by decide) (by decide)) _ _ _ z1 hz1) gEin0 (va_cwS 3 C.2.2.2.2.1 gX12_isPlace_X12_in rfl rfl rfl (by decide +kernel) ⟨Nat.le_of_ble_eq_true rfl, Nat.le_of_ble_eq_true rfl⟩) rfl rfl (Nat.le_of_ble_eq_true rfl) ⟨Nat.le_of_ble_eq_true rfl, Nat.le_of_ble_eq_true rfl⟩ ?_
  obtain ⟨hb01, hf⟩ := gcase hf ho
  obtain rfl := gs1 hf
  exact g_zret C dX12_isPlace_9 hr hlk hb01
set_option maxRecDepth 100000 in
set_option maxHeartbeats 8000000 in
theorem m_X12_lengthOf (l : Launch) (X : gX) (N : Nat) (I : gI) (R : gR) (S : gS) (hL : gLay 91 114 R S) (a0 : Nat) (v : Int32) (hf : f_X12_lengthOf N I R S a0 = some v) : gM l yX12_lengthOf wsX12_lengthOf { frames := 0, cells := 0, slots := 0, locals := 0 } X gE0 [.ref (X.1 + a0)] I R S (some (.int v)) I R S 0 0 := by
  unfold f_X12_lengthOf at hf
  refine gM_of (cc := cX12_lengthOf) (own := RX12) (maxL := 3) (ret := (some .int)) (by decide) rfl rfl (Nat.le_of_ble_eq_true rfl) ?_
  intro p e s m args below meth c C hr hlk hnm hE
  have ho : (some v) ≠ none := fun h => by cases h
  refine g_iconst (v := -1) C dX12_lengthOf_0 (by decide) ?_
  refine g_istore_n C dX12_lengthOf_1 rfl (Nat.le_of_ble_eq_true rfl) rfl rfl ?_
  refine g_iconst (v := 0) C dX12_lengthOf_2 (by decide) ?_
  refine g_istore_n C dX12_lengthOf_3 rfl (Nat.le_of_ble_eq_true rfl) rfl rfl ?_
  refine g_loop (fun z1 => [(0, .ref (X.1 + a0)), (1, .int z1.1), (2, .int z1.2)]) (fun z1 => I) (fun r2 => [(1, .int r2)]) (fun r2 => I) 28 hf ho (And.intro rfl (And.intro rfl (And.intro rfl trivial))) rfl (fun r2 hf => ?_) (fun z1 o1 hf ho hkz1 hez1 => ?_)
  · refine g_iload_n C dX12_lengthOf_28 rfl rfl ?_
    obtain rfl := gs1 hf
    exact g_iret C dX12_lengthOf_29 hr hlk
  · refine g_iload_n C dX12_lengthOf_4 rfl rfl ?_
    refine g_bipush (v := 24) C dX12_lengthOf_5 (by decide) ?_
    refine g_icmp_ge (tgt := 28) C dX12_lengthOf_7 (by decide) hf (fun hf => ?_) (fun hf => ?_)
    · have hx := hez1 _ hf.symm
      refine g_sub ?_ hx
      exact (And.intro rfl trivial)
    · refine g_aload_n C dX12_lengthOf_10 rfl rfl ?_
      refine g_iload_n C dX12_lengthOf_11 rfl rfl ?_
      refine g_ialdD C dX12_lengthOf_12 ho hf (fun hf => ?_)
      refine g_if_eq (tgt := 20) C dX12_lengthOf_13 (by decide) hf (fun hf => ?_) (fun hf => ?_)
      · refine g_iload_n C dX12_lengthOf_20 rfl rfl ?_
        refine g_istore_n C dX12_lengthOf_21 rfl (Nat.le_of_ble_eq_true rfl) rfl rfl ?_
        refine g_iinc (d := 1) C dX12_lengthOf_22 rfl (by decide) rfl (Nat.le_of_ble_eq_true rfl) rfl rfl ?_
        refine g_goto (tgt := 4) C dX12_lengthOf_25 (by decide) ?_
        have hx := hkz1 _ hf.symm
        refine g_sub ?_ hx
        exact (And.intro rfl (And.intro rfl (And.intro rfl trivial)))
      · refine g_iload_n C dX12_lengthOf_16 rfl rfl ?_
        refine g_goto (tgt := 21) C dX12_lengthOf_17 (by decide) ?_
        refine g_istore_n C dX12_lengthOf_21 rfl (Nat.le_of_ble_eq_true rfl) rfl rfl ?_
        refine g_iinc (d := 1) C dX12_lengthOf_22 rfl (by decide) rfl (Nat.le_of_ble_eq_true rfl) rfl rfl ?_
        refine g_goto (tgt := 4) C dX12_lengthOf_25 (by decide) ?_
        have hx := hkz1 _ hf.symm
        refine g_sub ?_ hx
        exact (And.intro rfl (And.intro rfl (And.intro rfl trivial)))
set_option maxRecDepth 100000 in
set_option maxHeartbeats 8000000 in
theorem m_X12_act (l : Launch) (X : gX) (N : Nat) (I : gI) (R : gR) (S : gS) (hL : gLay 91 114 R S) (a0 : Int32) (a1 : Int32) (J : gI) (hf : f_X12_act N I R S a0 a1 = some J) : gM l yX12_act wsX12_act { frames := 2, cells := 0, slots := 0, locals := 47 } X gE0 [.ref (X.1 + 91), .int a0, .int a1] I R S none J R S 0 0 := by
  unfold f_X12_act at hf
  refine gM_of (cc := cX12_act) (own := RX12) (maxL := 7) (ret := none) (by decide) rfl rfl (Nat.le_of_ble_eq_true rfl) ?_
  intro p e s m args below meth c C hr hlk hnm hE
  have ho : (some J) ≠ none := fun h => by cases h
  have f76 := C.2.2.2.2.1 (.fieldLink RX12 76 "TimesByPowersModel" "made" "[I") (by decide +kernel)
  have c11 : gCl wsX12_act 11 RX12 TX12 29 := ⟨by decide, rfl, rfl, by decide +kernel⟩
  have f36 := C.2.2.2.2.1 (.fieldLink RX12 36 "TimesByPowersModel" "product" "[I") (by decide +kernel)
  have f79 := C.2.2.2.2.1 (.fieldLink RX12 79 "TimesByPowersModel" "keep" "[I") (by decide +kernel)
  have f70 := C.2.2.2.2.1 (.fieldLink RX12 70 "TimesByPowersModel" "rank" "[I") (by decide +kernel)
  have f73 := C.2.2.2.2.1 (.fieldLink RX12 73 "TimesByPowersModel" "t" "[I") (by decide +kernel)
  refine g_iconst (v := 0) C dX12_act_0 (by decide) ?_
  refine g_istore_n C dX12_act_1 rfl (Nat.le_of_ble_eq_true rfl) rfl rfl ?_
  refine g_loop (fun z1 => [(0, .ref (X.1 + 91)), (1, .int a0), (2, .int a1), (3, .int z1.1)]) (fun z1 => z1.2) (fun r2 => [(0, .ref (X.1 + 91)), (1, .int a0), (2, .int a1)]) (fun r2 => r2) 21 hf ho (And.intro rfl (And.intro rfl (And.intro rfl (And.intro rfl trivial)))) rfl (fun r2 hf => ?_) (fun z1 o1 hf ho hkz1 hez1 => ?_)
  · refine g_aload_n C dX12_act_21 rfl rfl ?_
    refine g_iload_n C dX12_act_22 rfl rfl ?_
    refine g_aload_n C dX12_act_23 rfl rfl ?_
    refine g_getR (i := 9) (j := 9) C dX12_act_24 (L91 hL (by decide) (by decide)) c11 rfl (by decide) f36 (fun _ h9 => h9) (LR91_9 hL (by decide) (by decide)) ?_
    obtain ⟨z3, hz3, hf⟩ := gbind hf ho
    refine g_callV C dX12_act_27 (m_X12_figures l X N _ _ _  (gLay.sub hL (by decide) (by decide)) _ _ z3.1 z3.2 hz3) gEin0 (cwV 2 C.2.2.2.2.1 gX12_act_X12_figures rfl rfl rfl (by decide +kernel) ⟨Nat.le_of_ble_eq_true rfl, Nat.le_of_ble_eq_true rfl⟩) (L91 hL (by decide) (by decide)) (by decide) rfl rfl rfl (Nat.le_of_ble_eq_true rfl) ⟨Nat.le_of_ble_eq_true rfl, Nat.le_of_ble_eq_true rfl⟩ ?_
    refine g_istore_n C dX12_act_30 rfl (Nat.le_of_ble_eq_true rfl) rfl rfl ?_
    refine g_iload_n C dX12_act_31 rfl rfl ?_
    refine g_istore C dX12_act_32 (Nat.le_of_ble_eq_true rfl) rfl rfl ?_
    refine g_loop (fun z4 => [(0, .ref (X.1 + 91)), (1, .int a0), (4, .int z4.1)]) (fun z4 => z4.2) (fun r5 => []) (fun r5 => r5) 204 hf ho (And.intro rfl (And.intro rfl (And.intro rfl trivial))) rfl (fun r5 hf => ?_) (fun z4 o1 hf ho hkz4 hez4 => ?_)
    · obtain rfl := gs1 hf
      exact g_vret C dX12_act_204 hr hlk
    · refine g_iload C dX12_act_34 rfl ?_
      refine g_if_lt (tgt := 204) C dX12_act_36 (by decide) hf (fun hf => ?_) (fun hf => ?_)
      · have hx := hez4 _ hf.symm
        refine g_sub ?_ hx
        exact trivial
      · refine g_iconst (v := 0) C dX12_act_39 (by decide) ?_
        refine g_istore C dX12_act_40 (Nat.le_of_ble_eq_true rfl) rfl rfl ?_
        refine g_loop (fun z6 => [(0, .ref (X.1 + 91)), (1, .int a0), (4, .int z4.1), (5, .int z6.1)]) (fun z6 => z6.2) (fun r7 => [(0, .ref (X.1 + 91)), (1, .int a0), (4, .int z4.1)]) (fun r7 => r7) 77 hf ho (And.intro rfl (And.intro rfl (And.intro rfl (And.intro rfl trivial)))) rfl (fun r7 hf => ?_) (fun z6 o1 hf ho hkz6 hez6 => ?_)
        · refine g_iconst (v := 0) C dX12_act_77 (by decide) ?_
          refine g_istore C dX12_act_78 (Nat.le_of_ble_eq_true rfl) rfl rfl ?_
          refine g_loop (fun z8 => [(0, .ref (X.1 + 91)), (1, .int a0), (4, .int z4.1), (5, .int z8.1)]) (fun z8 => z8.2) (fun r9 => [(0, .ref (X.1 + 91)), (1, .int a0), (4, .int z4.1)]) (fun r9 => r9) 175 hf ho (And.intro rfl (And.intro rfl (And.intro rfl (And.intro rfl trivial)))) rfl (fun r9 hf => ?_) (fun z8 o1 hf ho hkz8 hez8 => ?_)
          · refine g_aload_n C dX12_act_175 rfl rfl ?_
            refine g_getR (i := 17) (j := 17) C dX12_act_176 (L91 hL (by decide) (by decide)) c11 rfl (by decide) f76 (fun _ h9 => h9) (LR91_17 hL (by decide) (by decide)) ?_
            refine g_iconst (v := 0) C dX12_act_179 (by decide) ?_
            refine g_aload_n C dX12_act_180 rfl rfl ?_
            refine g_aload_n C dX12_act_181 rfl rfl ?_
            refine g_getR (i := 17) (j := 17) C dX12_act_182 (L91 hL (by decide) (by decide)) c11 rfl (by decide) f76 (fun _ h9 => h9) (LR91_17 hL (by decide) (by decide)) ?_
            refine g_iconst (v := 0) C dX12_act_185 (by decide) ?_
            refine g_iald C dX12_act_186 (L103 hL (by decide) (by decide)) ho hf (fun hf => ?_)
            refine g_aload_n C dX12_act_187 rfl rfl ?_
            refine g_getR (i := 9) (j := 9) C dX12_act_188 (L91 hL (by decide) (by decide)) c11 rfl (by decide) f36 (fun _ h9 => h9) (LR91_9 hL (by decide) (by decide)) ?_
            refine g_iload C dX12_act_191 rfl ?_
            refine g_iald C dX12_act_193 (L95 hL (by decide) (by decide)) ho hf (fun hf => ?_)
            obtain ⟨z15, hz15, hf⟩ := gbind hf ho
            refine g_callV C dX12_act_194 (m_X12_add l X N _ _ _  (gLay.sub hL (by decide) (by decide)) _ _ z15 hz15) gEin0 (cwV 2 C.2.2.2.2.1 gX12_act_X12_add rfl rfl rfl (by decide +kernel) ⟨Nat.le_of_ble_eq_true rfl, Nat.le_of_ble_eq_true rfl⟩) (L91 hL (by decide) (by decide)) (by decide) rfl rfl rfl (Nat.le_of_ble_eq_true rfl) ⟨Nat.le_of_ble_eq_true rfl, Nat.le_of_ble_eq_true rfl⟩ ?_
            refine g_iast C dX12_act_197 (L103 hL (by decide) (by decide)) ho hf (fun hf => ?_)
            refine g_iinc (d := -1) C dX12_act_198 rfl (by decide) rfl (Nat.le_of_ble_eq_true rfl) rfl rfl ?_
            refine g_goto (tgt := 34) C dX12_act_201 (by decide) ?_
            have hx := hkz4 _ hf.symm
            refine g_sub ?_ hx
            exact (And.intro rfl (And.intro rfl (And.intro rfl trivial)))
          · refine g_iload C dX12_act_80 rfl ?_
            refine g_bipush (v := 24) C dX12_act_82 (by decide) ?_
            refine g_icmp_ge (tgt := 175) C dX12_act_84 (by decide) hf (fun hf => ?_) (fun hf => ?_)
            · have hx := hez8 _ hf.symm
              refine g_sub ?_ hx
              exact (And.intro rfl (And.intro rfl (And.intro rfl trivial)))
            · refine g_iconst (v := 0) C dX12_act_87 (by decide) ?_
              refine g_istore C dX12_act_88 (Nat.le_of_ble_eq_true rfl) rfl rfl ?_
              refine g_loop (fun z10 => [(0, .ref (X.1 + 91)), (1, .int a0), (4, .int z4.1), (5, .int z8.1), (6, .int z10.1)]) (fun z10 => z10.2) (fun r11 => [(0, .ref (X.1 + 91)), (1, .int a0), (4, .int z4.1), (5, .int z8.1)]) (fun r11 => r11) 169 hf ho (And.intro rfl (And.intro rfl (And.intro rfl (And.intro rfl (And.intro rfl trivial))))) rfl (fun r11 hf => ?_) (fun z10 o1 hf ho hkz10 hez10 => ?_)
              · refine g_iinc (d := 1) C dX12_act_169 rfl (by decide) rfl (Nat.le_of_ble_eq_true rfl) rfl rfl ?_
                refine g_goto (tgt := 80) C dX12_act_172 (by decide) ?_
                have hx := hkz8 _ hf.symm
                refine g_sub ?_ hx
                exact (And.intro rfl (And.intro rfl (And.intro rfl (And.intro rfl trivial))))
              · refine g_iload C dX12_act_90 rfl ?_
                refine g_aload_n C dX12_act_92 rfl rfl ?_
                refine g_getR (i := 15) (j := 15) C dX12_act_93 (L91 hL (by decide) (by decide)) c11 rfl (by decide) f70 (fun _ h9 => h9) (LR91_15 hL (by decide) (by decide)) ?_
                refine g_iload_n C dX12_act_96 rfl rfl ?_
                refine g_iald C dX12_act_97 (L101 hL (by decide) (by decide)) ho hf (fun hf => ?_)
                refine g_icmp_gt (tgt := 169) C dX12_act_98 (by decide) hf (fun hf => ?_) (fun hf => ?_)
                · have hx := hez10 _ hf.symm
                  refine g_sub ?_ hx
                  exact (And.intro rfl (And.intro rfl (And.intro rfl (And.intro rfl trivial))))
                · refine g_aload_n C dX12_act_101 rfl rfl ?_
                  refine g_getR (i := 18) (j := 18) C dX12_act_102 (L91 hL (by decide) (by decide)) c11 rfl (by decide) f79 (fun _ h9 => h9) (LR91_18 hL (by decide) (by decide)) ?_
                  refine g_iload C dX12_act_105 rfl ?_
                  refine g_iald C dX12_act_107 (L104 hL (by decide) (by decide)) ho hf (fun hf => ?_)
                  refine g_if_eq (tgt := 169) C dX12_act_108 (by decide) hf (fun hf => ?_) (fun hf => ?_)
                  · have hx := hez10 _ hf.symm
                    refine g_sub ?_ hx
                    exact (And.intro rfl (And.intro rfl (And.intro rfl (And.intro rfl trivial))))
                  · refine g_aload_n C dX12_act_111 rfl rfl ?_
                    refine g_getR (i := 17) (j := 17) C dX12_act_112 (L91 hL (by decide) (by decide)) c11 rfl (by decide) f76 (fun _ h9 => h9) (LR91_17 hL (by decide) (by decide)) ?_
                    refine g_iload C dX12_act_115 rfl ?_
                    refine g_iload C dX12_act_117 rfl ?_
                    refine g_iadd C dX12_act_119 ?_
                    refine g_aload_n C dX12_act_120 rfl rfl ?_
                    refine g_aload_n C dX12_act_121 rfl rfl ?_
                    refine g_getR (i := 17) (j := 17) C dX12_act_122 (L91 hL (by decide) (by decide)) c11 rfl (by decide) f76 (fun _ h9 => h9) (LR91_17 hL (by decide) (by decide)) ?_
                    refine g_iload C dX12_act_125 rfl ?_
                    refine g_iload C dX12_act_127 rfl ?_
                    refine g_iadd C dX12_act_129 ?_
                    refine g_iald C dX12_act_130 (L103 hL (by decide) (by decide)) ho hf (fun hf => ?_)
                    refine g_aload_n C dX12_act_131 rfl rfl ?_
                    refine g_aload_n C dX12_act_132 rfl rfl ?_
                    refine g_getR (i := 18) (j := 18) C dX12_act_133 (L91 hL (by decide) (by decide)) c11 rfl (by decide) f79 (fun _ h9 => h9) (LR91_18 hL (by decide) (by decide)) ?_
                    refine g_iload C dX12_act_136 rfl ?_
                    refine g_iald C dX12_act_138 (L104 hL (by decide) (by decide)) ho hf (fun hf => ?_)
                    refine g_aload_n C dX12_act_139 rfl rfl ?_
                    refine g_aload_n C dX12_act_140 rfl rfl ?_
                    refine g_getR (i := 16) (j := 16) C dX12_act_141 (L91 hL (by decide) (by decide)) c11 rfl (by decide) f73 (fun _ h9 => h9) (LR91_16 hL (by decide) (by decide)) ?_
                    refine g_iconst (v := 4) C dX12_act_144 (by decide) ?_
                    refine g_iload_n C dX12_act_145 rfl rfl ?_
                    refine g_imul C dX12_act_146 ?_
                    refine g_iload C dX12_act_147 rfl ?_
                    refine g_iadd C dX12_act_149 ?_
                    refine g_iald C dX12_act_150 (L102 hL (by decide) (by decide)) ho hf (fun hf => ?_)
                    refine g_iload C dX12_act_151 rfl ?_
                    obtain ⟨z12, hz12, hf⟩ := gbind hf ho
                    refine g_callV C dX12_act_153 (m_X12_far l X N _ _ _  (gLay.sub hL (by decide) (by decide)) _ _ z12 hz12) gEin0 (cwV 2 C.2.2.2.2.1 gX12_act_X12_far rfl rfl rfl (by decide +kernel) ⟨Nat.le_of_ble_eq_true rfl, Nat.le_of_ble_eq_true rfl⟩) (L91 hL (by decide) (by decide)) (by decide) rfl rfl rfl (Nat.le_of_ble_eq_true rfl) ⟨Nat.le_of_ble_eq_true rfl, Nat.le_of_ble_eq_true rfl⟩ ?_
                    obtain ⟨z13, hz13, hf⟩ := gbind hf ho
                    refine g_callV C dX12_act_156 (m_X12_times l X N _ _ _  (gLay.sub hL (by decide) (by decide)) _ _ z13 hz13) gEin0 (cwV 2 C.2.2.2.2.1 gX12_act_X12_times rfl rfl rfl (by decide +kernel) ⟨Nat.le_of_ble_eq_true rfl, Nat.le_of_ble_eq_true rfl⟩) (L91 hL (by decide) (by decide)) (by decide) rfl rfl rfl (Nat.le_of_ble_eq_true rfl) ⟨Nat.le_of_ble_eq_true rfl, Nat.le_of_ble_eq_true rfl⟩ ?_
                    obtain ⟨z14, hz14, hf⟩ := gbind hf ho
                    refine g_callV C dX12_act_159 (m_X12_add l X N _ _ _  (gLay.sub hL (by decide) (by decide)) _ _ z14 hz14) gEin0 (cwV 2 C.2.2.2.2.1 gX12_act_X12_add rfl rfl rfl (by decide +kernel) ⟨Nat.le_of_ble_eq_true rfl, Nat.le_of_ble_eq_true rfl⟩) (L91 hL (by decide) (by decide)) (by decide) rfl rfl rfl (Nat.le_of_ble_eq_true rfl) ⟨Nat.le_of_ble_eq_true rfl, Nat.le_of_ble_eq_true rfl⟩ ?_
                    refine g_iast C dX12_act_162 (L103 hL (by decide) (by decide)) ho hf (fun hf => ?_)
                    refine g_iinc (d := 1) C dX12_act_163 rfl (by decide) rfl (Nat.le_of_ble_eq_true rfl) rfl rfl ?_
                    refine g_goto (tgt := 90) C dX12_act_166 (by decide) ?_
                    have hx := hkz10 _ hf.symm
                    refine g_sub ?_ hx
                    exact (And.intro rfl (And.intro rfl (And.intro rfl (And.intro rfl (And.intro rfl trivial)))))
        · refine g_iload C dX12_act_42 rfl ?_
          refine g_bipush (v := 24) C dX12_act_44 (by decide) ?_
          refine g_icmp_ge (tgt := 77) C dX12_act_46 (by decide) hf (fun hf => ?_) (fun hf => ?_)
          · have hx := hez6 _ hf.symm
            refine g_sub ?_ hx
            exact (And.intro rfl (And.intro rfl (And.intro rfl trivial)))
          · refine g_aload_n C dX12_act_49 rfl rfl ?_
            refine g_getR (i := 18) (j := 18) C dX12_act_50 (L91 hL (by decide) (by decide)) c11 rfl (by decide) f79 (fun _ h9 => h9) (LR91_18 hL (by decide) (by decide)) ?_
            refine g_iload C dX12_act_53 rfl ?_
            refine g_aload_n C dX12_act_55 rfl rfl ?_
            refine g_getR (i := 17) (j := 17) C dX12_act_56 (L91 hL (by decide) (by decide)) c11 rfl (by decide) f76 (fun _ h9 => h9) (LR91_17 hL (by decide) (by decide)) ?_
            refine g_iload C dX12_act_59 rfl ?_
            refine g_iald C dX12_act_61 (L103 hL (by decide) (by decide)) ho hf (fun hf => ?_)
            refine g_iast C dX12_act_62 (L104 hL (by decide) (by decide)) ho hf (fun hf => ?_)
            refine g_aload_n C dX12_act_63 rfl rfl ?_
            refine g_getR (i := 17) (j := 17) C dX12_act_64 (L91 hL (by decide) (by decide)) c11 rfl (by decide) f76 (fun _ h9 => h9) (LR91_17 hL (by decide) (by decide)) ?_
            refine g_iload C dX12_act_67 rfl ?_
            refine g_iconst (v := 0) C dX12_act_69 (by decide) ?_
            refine g_iast C dX12_act_70 (L103 hL (by decide) (by decide)) ho hf (fun hf => ?_)
            refine g_iinc (d := 1) C dX12_act_71 rfl (by decide) rfl (Nat.le_of_ble_eq_true rfl) rfl rfl ?_
            refine g_goto (tgt := 42) C dX12_act_74 (by decide) ?_
            have hx := hkz6 _ hf.symm
            refine g_sub ?_ hx
            exact (And.intro rfl (And.intro rfl (And.intro rfl (And.intro rfl trivial))))
  · refine g_iload_n C dX12_act_2 rfl rfl ?_
    refine g_bipush (v := 24) C dX12_act_3 (by decide) ?_
    refine g_icmp_ge (tgt := 21) C dX12_act_5 (by decide) hf (fun hf => ?_) (fun hf => ?_)
    · have hx := hez1 _ hf.symm
      refine g_sub ?_ hx
      exact (And.intro rfl (And.intro rfl (And.intro rfl trivial)))
    · refine g_aload_n C dX12_act_8 rfl rfl ?_
      refine g_getR (i := 17) (j := 17) C dX12_act_9 (L91 hL (by decide) (by decide)) c11 rfl (by decide) f76 (fun _ h9 => h9) (LR91_17 hL (by decide) (by decide)) ?_
      refine g_iload_n C dX12_act_12 rfl rfl ?_
      refine g_iconst (v := 0) C dX12_act_13 (by decide) ?_
      refine g_iast C dX12_act_14 (L103 hL (by decide) (by decide)) ho hf (fun hf => ?_)
      refine g_iinc (d := 1) C dX12_act_15 rfl (by decide) rfl (Nat.le_of_ble_eq_true rfl) rfl rfl ?_
      refine g_goto (tgt := 2) C dX12_act_18 (by decide) ?_
      have hx := hkz1 _ hf.symm
      refine g_sub ?_ hx
      exact (And.intro rfl (And.intro rfl (And.intro rfl (And.intro rfl trivial))))
set_option maxRecDepth 100000 in
set_option maxHeartbeats 8000000 in
theorem m_X12_done (l : Launch) (X : gX) (N : Nat) (I : gI) (R : gR) (S : gS) (hL : gLay 91 114 R S) (a0 : Nat) (a1 : Int32) (v : Int32) (hf : f_X12_done N I R S a0 a1 = some v) : gM l yX12_done wsX12_done { frames := 1, cells := 0, slots := 0, locals := 26 } X gE0 [.ref (X.1 + 91), .ref (X.1 + a0), .int a1] I R S (some (.int v)) I R S 0 0 := by
  unfold f_X12_done at hf
  refine gM_of (cc := cX12_done) (own := RX12) (maxL := 6) (ret := (some .int)) (by decide) rfl rfl (Nat.le_of_ble_eq_true rfl) ?_
  intro p e s m args below meth c C hr hlk hnm hE
  have ho : (some v) ≠ none := fun h => by cases h
  have f11 := C.2.2.2.2.1 (.fieldLink RX12 11 "TimesByPowersModel" "p" "I") (by decide +kernel)
  have c11 : gCl wsX12_done 11 RX12 TX12 29 := ⟨by decide, rfl, rfl, by decide +kernel⟩
  refine g_iconst (v := 0) C dX12_done_0 (by decide) ?_
  refine g_istore_n C dX12_done_1 rfl (Nat.le_of_ble_eq_true rfl) rfl rfl ?_
  refine g_iload_n C dX12_done_2 rfl rfl ?_
  refine g_istore C dX12_done_3 (Nat.le_of_ble_eq_true rfl) rfl rfl ?_
  refine g_iconst (v := 0) C dX12_done_5 (by decide) ?_
  refine g_istore C dX12_done_6 (Nat.le_of_ble_eq_true rfl) rfl rfl ?_
  refine g_loop (fun z1 => [(0, .ref (X.1 + 91)), (1, .ref (X.1 + a0)), (3, .int z1.1), (4, .int z1.2.1), (5, .int z1.2.2)]) (fun z1 => I) (fun r2 => [(3, .int r2)]) (fun r2 => I) 50 hf ho (And.intro rfl (And.intro rfl (And.intro rfl (And.intro rfl (And.intro rfl trivial))))) rfl (fun r2 hf => ?_) (fun z1 o1 hf ho hkz1 hez1 => ?_)
  · refine g_iload_n C dX12_done_50 rfl rfl ?_
    obtain rfl := gs1 hf
    exact g_iret C dX12_done_51 hr hlk
  · refine g_iload C dX12_done_8 rfl ?_
    refine g_bipush (v := 24) C dX12_done_10 (by decide) ?_
    refine g_icmp_ge (tgt := 50) C dX12_done_12 (by decide) hf (fun hf => ?_) (fun hf => ?_)
    · have hx := hez1 _ hf.symm
      refine g_sub ?_ hx
      exact (And.intro rfl trivial)
    · refine g_aload_n C dX12_done_15 rfl rfl ?_
      refine g_iload_n C dX12_done_16 rfl rfl ?_
      refine g_aload_n C dX12_done_17 rfl rfl ?_
      refine g_aload_n C dX12_done_18 rfl rfl ?_
      refine g_iload C dX12_done_19 rfl ?_
      refine g_ialdD C dX12_done_21 ho hf (fun hf => ?_)
      refine g_iload C dX12_done_22 rfl ?_
      obtain ⟨z3, hz3, hf⟩ := gbind hf ho
      refine g_callV C dX12_done_24 (m_X12_times l X N _ _ _  (gLay.sub hL (by decide) (by decide)) _ _ z3 hz3) gEin0 (cwV 2 C.2.2.2.2.1 gX12_done_X12_times rfl rfl rfl (by decide +kernel) ⟨Nat.le_of_ble_eq_true rfl, Nat.le_of_ble_eq_true rfl⟩) (L91 hL (by decide) (by decide)) (by decide) rfl rfl rfl (Nat.le_of_ble_eq_true rfl) ⟨Nat.le_of_ble_eq_true rfl, Nat.le_of_ble_eq_true rfl⟩ ?_
      obtain ⟨z4, hz4, hf⟩ := gbind hf ho
      refine g_callV C dX12_done_27 (m_X12_add l X N _ _ _  (gLay.sub hL (by decide) (by decide)) _ _ z4 hz4) gEin0 (cwV 2 C.2.2.2.2.1 gX12_done_X12_add rfl rfl rfl (by decide +kernel) ⟨Nat.le_of_ble_eq_true rfl, Nat.le_of_ble_eq_true rfl⟩) (L91 hL (by decide) (by decide)) (by decide) rfl rfl rfl (Nat.le_of_ble_eq_true rfl) ⟨Nat.le_of_ble_eq_true rfl, Nat.le_of_ble_eq_true rfl⟩ ?_
      refine g_istore_n C dX12_done_30 rfl (Nat.le_of_ble_eq_true rfl) rfl rfl ?_
      refine g_aload_n C dX12_done_31 rfl rfl ?_
      refine g_iload C dX12_done_32 rfl ?_
      refine g_aload_n C dX12_done_34 rfl rfl ?_
      refine g_getI (i := 2) (j := 2) C dX12_done_35 (L91 hL (by decide) (by decide)) c11 rfl f11 (fun _ h9 => h9) ?_
      refine g_i2l C dX12_done_38 ?_
      obtain ⟨z5, hz5, hf⟩ := gbind hf ho
      refine g_callV C dX12_done_39 (m_X12_raise l X N _ _ _  (gLay.sub hL (by decide) (by decide)) _ _ z5 hz5) gEin0 (cwV 2 C.2.2.2.2.1 gX12_done_X12_raise rfl rfl rfl (by decide +kernel) ⟨Nat.le_of_ble_eq_true rfl, Nat.le_of_ble_eq_true rfl⟩) (L91 hL (by decide) (by decide)) (by decide) rfl rfl rfl (Nat.le_of_ble_eq_true rfl) ⟨Nat.le_of_ble_eq_true rfl, Nat.le_of_ble_eq_true rfl⟩ ?_
      refine g_istore C dX12_done_42 (Nat.le_of_ble_eq_true rfl) rfl rfl ?_
      refine g_iinc (d := 1) C dX12_done_44 rfl (by decide) rfl (Nat.le_of_ble_eq_true rfl) rfl rfl ?_
      refine g_goto (tgt := 8) C dX12_done_47 (by decide) ?_
      have hx := hkz1 _ hf.symm
      refine g_sub ?_ hx
      exact (And.intro rfl (And.intro rfl (And.intro rfl (And.intro rfl (And.intro rfl trivial)))))
set_option maxRecDepth 100000 in
set_option maxHeartbeats 8000000 in
theorem m_X12_step (l : Launch) (X : gX) (N : Nat) (I : gI) (R : gR) (S : gS) (hL : gLay 91 114 R S) (a0 : Int32) (a1 : Int32) (v : Int32) (hf : f_X12_step N I R S a0 a1 = some v) : gM l yX12_step wsX12_step { frames := 1, cells := 0, slots := 0, locals := 26 } X gE0 [.ref (X.1 + 91), .int a0, .int a1] I R S (some (.int v)) I R S 0 0 := by
  unfold f_X12_step at hf
  refine gM_of (cc := cX12_step) (own := RX12) (maxL := 6) (ret := (some .int)) (by decide) rfl rfl (Nat.le_of_ble_eq_true rfl) ?_
  intro p e s m args below meth c C hr hlk hnm hE
  have ho : (some v) ≠ none := fun h => by cases h
  have f70 := C.2.2.2.2.1 (.fieldLink RX12 70 "TimesByPowersModel" "rank" "[I") (by decide +kernel)
  have c11 : gCl wsX12_step 11 RX12 TX12 29 := ⟨by decide, rfl, rfl, by decide +kernel⟩
  have f73 := C.2.2.2.2.1 (.fieldLink RX12 73 "TimesByPowersModel" "t" "[I") (by decide +kernel)
  have f11 := C.2.2.2.2.1 (.fieldLink RX12 11 "TimesByPowersModel" "p" "I") (by decide +kernel)
  refine g_iconst (v := 0) C dX12_step_0 (by decide) ?_
  refine g_istore_n C dX12_step_1 rfl (Nat.le_of_ble_eq_true rfl) rfl rfl ?_
  refine g_iload_n C dX12_step_2 rfl rfl ?_
  refine g_istore C dX12_step_3 (Nat.le_of_ble_eq_true rfl) rfl rfl ?_
  refine g_iconst (v := 0) C dX12_step_5 (by decide) ?_
  refine g_istore C dX12_step_6 (Nat.le_of_ble_eq_true rfl) rfl rfl ?_
  refine g_loop (fun z1 => [(0, .ref (X.1 + 91)), (1, .int a0), (3, .int z1.1), (4, .int z1.2.1), (5, .int z1.2.2)]) (fun z1 => I) (fun r2 => [(3, .int r2)]) (fun r2 => I) 61 hf ho (And.intro rfl (And.intro rfl (And.intro rfl (And.intro rfl (And.intro rfl trivial))))) rfl (fun r2 hf => ?_) (fun z1 o1 hf ho hkz1 hez1 => ?_)
  · refine g_iload_n C dX12_step_61 rfl rfl ?_
    obtain rfl := gs1 hf
    exact g_iret C dX12_step_62 hr hlk
  · refine g_iload C dX12_step_8 rfl ?_
    refine g_aload_n C dX12_step_10 rfl rfl ?_
    refine g_getR (i := 15) (j := 15) C dX12_step_11 (L91 hL (by decide) (by decide)) c11 rfl (by decide) f70 (fun _ h9 => h9) (LR91_15 hL (by decide) (by decide)) ?_
    refine g_iload_n C dX12_step_14 rfl rfl ?_
    refine g_iald C dX12_step_15 (L101 hL (by decide) (by decide)) ho hf (fun hf => ?_)
    refine g_icmp_gt (tgt := 61) C dX12_step_16 (by decide) hf (fun hf => ?_) (fun hf => ?_)
    · have hx := hez1 _ hf.symm
      refine g_sub ?_ hx
      exact (And.intro rfl trivial)
    · refine g_aload_n C dX12_step_19 rfl rfl ?_
      refine g_iload_n C dX12_step_20 rfl rfl ?_
      refine g_aload_n C dX12_step_21 rfl rfl ?_
      refine g_aload_n C dX12_step_22 rfl rfl ?_
      refine g_getR (i := 16) (j := 16) C dX12_step_23 (L91 hL (by decide) (by decide)) c11 rfl (by decide) f73 (fun _ h9 => h9) (LR91_16 hL (by decide) (by decide)) ?_
      refine g_iconst (v := 4) C dX12_step_26 (by decide) ?_
      refine g_iload_n C dX12_step_27 rfl rfl ?_
      refine g_imul C dX12_step_28 ?_
      refine g_iload C dX12_step_29 rfl ?_
      refine g_iadd C dX12_step_31 ?_
      refine g_iald C dX12_step_32 (L102 hL (by decide) (by decide)) ho hf (fun hf => ?_)
      refine g_iload C dX12_step_33 rfl ?_
      obtain ⟨z3, hz3, hf⟩ := gbind hf ho
      refine g_callV C dX12_step_35 (m_X12_times l X N _ _ _  (gLay.sub hL (by decide) (by decide)) _ _ z3 hz3) gEin0 (cwV 2 C.2.2.2.2.1 gX12_step_X12_times rfl rfl rfl (by decide +kernel) ⟨Nat.le_of_ble_eq_true rfl, Nat.le_of_ble_eq_true rfl⟩) (L91 hL (by decide) (by decide)) (by decide) rfl rfl rfl (Nat.le_of_ble_eq_true rfl) ⟨Nat.le_of_ble_eq_true rfl, Nat.le_of_ble_eq_true rfl⟩ ?_
      obtain ⟨z4, hz4, hf⟩ := gbind hf ho
      refine g_callV C dX12_step_38 (m_X12_add l X N _ _ _  (gLay.sub hL (by decide) (by decide)) _ _ z4 hz4) gEin0 (cwV 2 C.2.2.2.2.1 gX12_step_X12_add rfl rfl rfl (by decide +kernel) ⟨Nat.le_of_ble_eq_true rfl, Nat.le_of_ble_eq_true rfl⟩) (L91 hL (by decide) (by decide)) (by decide) rfl rfl rfl (Nat.le_of_ble_eq_true rfl) ⟨Nat.le_of_ble_eq_true rfl, Nat.le_of_ble_eq_true rfl⟩ ?_
      refine g_istore_n C dX12_step_41 rfl (Nat.le_of_ble_eq_true rfl) rfl rfl ?_
      refine g_aload_n C dX12_step_42 rfl rfl ?_
      refine g_iload C dX12_step_43 rfl ?_
      refine g_aload_n C dX12_step_45 rfl rfl ?_
      refine g_getI (i := 2) (j := 2) C dX12_step_46 (L91 hL (by decide) (by decide)) c11 rfl f11 (fun _ h9 => h9) ?_
      refine g_i2l C dX12_step_49 ?_
      obtain ⟨z5, hz5, hf⟩ := gbind hf ho
      refine g_callV C dX12_step_50 (m_X12_raise l X N _ _ _  (gLay.sub hL (by decide) (by decide)) _ _ z5 hz5) gEin0 (cwV 2 C.2.2.2.2.1 gX12_step_X12_raise rfl rfl rfl (by decide +kernel) ⟨Nat.le_of_ble_eq_true rfl, Nat.le_of_ble_eq_true rfl⟩) (L91 hL (by decide) (by decide)) (by decide) rfl rfl rfl (Nat.le_of_ble_eq_true rfl) ⟨Nat.le_of_ble_eq_true rfl, Nat.le_of_ble_eq_true rfl⟩ ?_
      refine g_istore C dX12_step_53 (Nat.le_of_ble_eq_true rfl) rfl rfl ?_
      refine g_iinc (d := 1) C dX12_step_55 rfl (by decide) rfl (Nat.le_of_ble_eq_true rfl) rfl rfl ?_
      refine g_goto (tgt := 8) C dX12_step_58 (by decide) ?_
      have hx := hkz1 _ hf.symm
      refine g_sub ?_ hx
      exact (And.intro rfl (And.intro rfl (And.intro rfl (And.intro rfl (And.intro rfl trivial)))))
set_option maxRecDepth 100000 in
set_option maxHeartbeats 8000000 in
theorem m_X12_degreeOfOwn (l : Launch) (X : gX) (N : Nat) (I : gI) (R : gR) (S : gS) (hL : gLay 91 114 R S) (a0 : Int32) (v : Int32) (hf : f_X12_degreeOfOwn N I R S a0 = some v) : gM l yX12_degreeOfOwn wsX12_degreeOfOwn { frames := 1, cells := 0, slots := 0, locals := 23 } X gE0 [.ref (X.1 + 91), .int a0] I R S (some (.int v)) I R S 0 0 := by
  unfold f_X12_degreeOfOwn at hf
  refine gM_of (cc := cX12_degreeOfOwn) (own := RX12) (maxL := 4) (ret := (some .int)) (by decide) rfl rfl (Nat.le_of_ble_eq_true rfl) ?_
  intro p e s m args below meth c C hr hlk hnm hE
  have ho : (some v) ≠ none := fun h => by cases h
  have f73 := C.2.2.2.2.1 (.fieldLink RX12 73 "TimesByPowersModel" "t" "[I") (by decide +kernel)
  have c11 : gCl wsX12_degreeOfOwn 11 RX12 TX12 29 := ⟨by decide, rfl, rfl, by decide +kernel⟩
  have f11 := C.2.2.2.2.1 (.fieldLink RX12 11 "TimesByPowersModel" "p" "I") (by decide +kernel)
  refine g_iconst (v := 1) C dX12_degreeOfOwn_0 (by decide) ?_
  refine g_istore_n C dX12_degreeOfOwn_1 rfl (Nat.le_of_ble_eq_true rfl) rfl rfl ?_
  refine g_aload_n C dX12_degreeOfOwn_2 rfl rfl ?_
  refine g_aload_n C dX12_degreeOfOwn_3 rfl rfl ?_
  refine g_getR (i := 16) (j := 16) C dX12_degreeOfOwn_4 (L91 hL (by decide) (by decide)) c11 rfl (by decide) f73 (fun _ h9 => h9) (LR91_16 hL (by decide) (by decide)) ?_
  refine g_iconst (v := 4) C dX12_degreeOfOwn_7 (by decide) ?_
  refine g_iload_n C dX12_degreeOfOwn_8 rfl rfl ?_
  refine g_imul C dX12_degreeOfOwn_9 ?_
  refine g_iald C dX12_degreeOfOwn_10 (L102 hL (by decide) (by decide)) ho hf (fun hf => ?_)
  refine g_aload_n C dX12_degreeOfOwn_11 rfl rfl ?_
  refine g_getI (i := 2) (j := 2) C dX12_degreeOfOwn_12 (L91 hL (by decide) (by decide)) c11 rfl f11 (fun _ h9 => h9) ?_
  refine g_i2l C dX12_degreeOfOwn_15 ?_
  obtain ⟨z1, hz1, hf⟩ := gbind hf ho
  refine g_callV C dX12_degreeOfOwn_16 (m_X12_raise l X N _ _ _  (gLay.sub hL (by decide) (by decide)) _ _ z1 hz1) gEin0 (cwV 2 C.2.2.2.2.1 gX12_degreeOfOwn_X12_raise rfl rfl rfl (by decide +kernel) ⟨Nat.le_of_ble_eq_true rfl, Nat.le_of_ble_eq_true rfl⟩) (L91 hL (by decide) (by decide)) (by decide) rfl rfl rfl (Nat.le_of_ble_eq_true rfl) ⟨Nat.le_of_ble_eq_true rfl, Nat.le_of_ble_eq_true rfl⟩ ?_
  refine g_istore_n C dX12_degreeOfOwn_19 rfl (Nat.le_of_ble_eq_true rfl) rfl rfl ?_
  refine g_loop (fun z2 => [(0, .ref (X.1 + 91)), (1, .int a0), (2, .int z2.1), (3, .int z2.2)]) (fun z2 => I) (fun r3 => [(2, .int r3)]) (fun r3 => I) 49 hf ho (And.intro rfl (And.intro rfl (And.intro rfl (And.intro rfl trivial)))) rfl (fun r3 hf => ?_) (fun z2 o1 hf ho hkz2 hez2 => ?_)
  · refine g_iload_n C dX12_degreeOfOwn_49 rfl rfl ?_
    obtain rfl := gs1 hf
    exact g_iret C dX12_degreeOfOwn_50 hr hlk
  · refine g_iload_n C dX12_degreeOfOwn_20 rfl rfl ?_
    refine g_aload_n C dX12_degreeOfOwn_21 rfl rfl ?_
    refine g_getR (i := 16) (j := 16) C dX12_degreeOfOwn_22 (L91 hL (by decide) (by decide)) c11 rfl (by decide) f73 (fun _ h9 => h9) (LR91_16 hL (by decide) (by decide)) ?_
    refine g_iconst (v := 4) C dX12_degreeOfOwn_25 (by decide) ?_
    refine g_iload_n C dX12_degreeOfOwn_26 rfl rfl ?_
    refine g_imul C dX12_degreeOfOwn_27 ?_
    refine g_iald C dX12_degreeOfOwn_28 (L102 hL (by decide) (by decide)) ho hf (fun hf => ?_)
    refine g_icmp_eq (tgt := 49) C dX12_degreeOfOwn_29 (by decide) hf (fun hf => ?_) (fun hf => ?_)
    · have hx := hez2 _ hf.symm
      refine g_sub ?_ hx
      exact (And.intro rfl trivial)
    · refine g_aload_n C dX12_degreeOfOwn_32 rfl rfl ?_
      refine g_iload_n C dX12_degreeOfOwn_33 rfl rfl ?_
      refine g_aload_n C dX12_degreeOfOwn_34 rfl rfl ?_
      refine g_getI (i := 2) (j := 2) C dX12_degreeOfOwn_35 (L91 hL (by decide) (by decide)) c11 rfl f11 (fun _ h9 => h9) ?_
      refine g_i2l C dX12_degreeOfOwn_38 ?_
      obtain ⟨z4, hz4, hf⟩ := gbind hf ho
      refine g_callV C dX12_degreeOfOwn_39 (m_X12_raise l X N _ _ _  (gLay.sub hL (by decide) (by decide)) _ _ z4 hz4) gEin0 (cwV 2 C.2.2.2.2.1 gX12_degreeOfOwn_X12_raise rfl rfl rfl (by decide +kernel) ⟨Nat.le_of_ble_eq_true rfl, Nat.le_of_ble_eq_true rfl⟩) (L91 hL (by decide) (by decide)) (by decide) rfl rfl rfl (Nat.le_of_ble_eq_true rfl) ⟨Nat.le_of_ble_eq_true rfl, Nat.le_of_ble_eq_true rfl⟩ ?_
      refine g_istore_n C dX12_degreeOfOwn_42 rfl (Nat.le_of_ble_eq_true rfl) rfl rfl ?_
      refine g_iinc (d := 1) C dX12_degreeOfOwn_43 rfl (by decide) rfl (Nat.le_of_ble_eq_true rfl) rfl rfl ?_
      refine g_goto (tgt := 20) C dX12_degreeOfOwn_46 (by decide) ?_
      have hx := hkz2 _ hf.symm
      refine g_sub ?_ hx
      exact (And.intro rfl (And.intro rfl (And.intro rfl (And.intro rfl trivial))))
set_option maxRecDepth 100000 in
set_option maxHeartbeats 8000000 in
theorem m_X12_ownOf (l : Launch) (X : gX) (N : Nat) (I : gI) (R : gR) (S : gS) (hL : gLay 91 114 R S) (a0 : Int32) (v : Int32) (J : gI) (hf : f_X12_ownOf N I R S a0 = some (v, J)) : gM l yX12_ownOf wsX12_ownOf { frames := 2, cells := 0, slots := 0, locals := 48 } X gE0 [.ref (X.1 + 91), .int a0] I R S (some (.int v)) J R S 0 0 := by
  unfold f_X12_ownOf at hf
  refine gM_of (cc := cX12_ownOf) (own := RX12) (maxL := 6) (ret := (some .int)) (by decide) rfl rfl (Nat.le_of_ble_eq_true rfl) ?_
  intro p e s m args below meth c C hr hlk hnm hE
  have ho : (some (v, J)) ≠ none := fun h => by cases h
  have f85 := C.2.2.2.2.1 (.fieldLink RX12 85 "TimesByPowersModel" "poly" "[I") (by decide +kernel)
  have c11 : gCl wsX12_ownOf 11 RX12 TX12 29 := ⟨by decide, rfl, rfl, by decide +kernel⟩
  have f73 := C.2.2.2.2.1 (.fieldLink RX12 73 "TimesByPowersModel" "t" "[I") (by decide +kernel)
  refine g_aload_n C dX12_ownOf_0 rfl rfl ?_
  refine g_iload_n C dX12_ownOf_1 rfl rfl ?_
  obtain ⟨z1, hz1, hf⟩ := gbind hf ho
  refine g_callV C dX12_ownOf_2 (m_X12_degreeOfOwn l X N _ _ _  (gLay.sub hL (by decide) (by decide)) _ z1 hz1) gEin0 (cwV 1 C.2.2.2.2.1 gX12_ownOf_X12_degreeOfOwn rfl rfl rfl (by decide +kernel) ⟨Nat.le_of_ble_eq_true rfl, Nat.le_of_ble_eq_true rfl⟩) (L91 hL (by decide) (by decide)) (by decide) rfl rfl rfl (Nat.le_of_ble_eq_true rfl) ⟨Nat.le_of_ble_eq_true rfl, Nat.le_of_ble_eq_true rfl⟩ ?_
  refine g_istore_n C dX12_ownOf_5 rfl (Nat.le_of_ble_eq_true rfl) rfl rfl ?_
  refine g_iconst (v := 0) C dX12_ownOf_6 (by decide) ?_
  refine g_istore_n C dX12_ownOf_7 rfl (Nat.le_of_ble_eq_true rfl) rfl rfl ?_
  refine g_loop (fun z2 => [(0, .ref (X.1 + 91)), (1, .int a0), (2, .int z1), (3, .int z2.1)]) (fun z2 => z2.2) (fun r3 => [(0, .ref (X.1 + 91)), (1, .int a0), (2, .int z1)]) (fun r3 => r3) 35 hf ho (And.intro rfl (And.intro rfl (And.intro rfl (And.intro rfl trivial)))) rfl (fun r3 hf => ?_) (fun z2 o1 hf ho hkz2 hez2 => ?_)
  · refine g_iconst (v := 0) C dX12_ownOf_35 (by decide) ?_
    refine g_istore_n C dX12_ownOf_36 rfl (Nat.le_of_ble_eq_true rfl) rfl rfl ?_
    refine g_loop (fun z4 => [(0, .ref (X.1 + 91)), (1, .int a0), (2, .int z1), (3, .int z4.1)]) (fun z4 => z4.2) (fun r5 => [(0, .ref (X.1 + 91)), (2, .int z1)]) (fun r5 => r5) 120 hf ho (And.intro rfl (And.intro rfl (And.intro rfl (And.intro rfl trivial)))) rfl (fun r5 hf => ?_) (fun z4 o1 hf ho hkz4 hez4 => ?_)
    · refine g_aload_n C dX12_ownOf_120 rfl rfl ?_
      refine g_aload_n C dX12_ownOf_121 rfl rfl ?_
      refine g_getR (i := 20) (j := 20) C dX12_ownOf_122 (L91 hL (by decide) (by decide)) c11 rfl (by decide) f85 (fun _ h9 => h9) (LR91_20 hL (by decide) (by decide)) ?_
      refine g_iload_n C dX12_ownOf_125 rfl rfl ?_
      refine g_iconst (v := 1) C dX12_ownOf_126 (by decide) ?_
      refine g_iadd C dX12_ownOf_127 ?_
      obtain ⟨z12, hz12, hf⟩ := gbind hf ho
      refine g_callV C dX12_ownOf_128 (m_X12_codeOf l X N _ _ _  (gLay.sub hL (by decide) (by decide)) _ _ z12 hz12) gEin0 (cwV 2 C.2.2.2.2.1 gX12_ownOf_X12_codeOf rfl rfl rfl (by decide +kernel) ⟨Nat.le_of_ble_eq_true rfl, Nat.le_of_ble_eq_true rfl⟩) (L91 hL (by decide) (by decide)) (by decide) rfl rfl rfl (Nat.le_of_ble_eq_true rfl) ⟨Nat.le_of_ble_eq_true rfl, Nat.le_of_ble_eq_true rfl⟩ ?_
      obtain ⟨rfl, rfl⟩ := gs2 hf
      exact g_iret C dX12_ownOf_131 hr hlk
    · refine g_iload_n C dX12_ownOf_37 rfl rfl ?_
      refine g_iload_n C dX12_ownOf_38 rfl rfl ?_
      refine g_icmp_ge (tgt := 120) C dX12_ownOf_39 (by decide) hf (fun hf => ?_) (fun hf => ?_)
      · have hx := hez4 _ hf.symm
        refine g_sub ?_ hx
        exact (And.intro rfl (And.intro rfl trivial))
      · refine g_aload_n C dX12_ownOf_42 rfl rfl ?_
        refine g_aload_n C dX12_ownOf_43 rfl rfl ?_
        refine g_getR (i := 16) (j := 16) C dX12_ownOf_44 (L91 hL (by decide) (by decide)) c11 rfl (by decide) f73 (fun _ h9 => h9) (LR91_16 hL (by decide) (by decide)) ?_
        refine g_iconst (v := 4) C dX12_ownOf_47 (by decide) ?_
        refine g_iload_n C dX12_ownOf_48 rfl rfl ?_
        refine g_imul C dX12_ownOf_49 ?_
        refine g_iald C dX12_ownOf_50 (L102 hL (by decide) (by decide)) ho hf (fun hf => ?_)
        refine g_iload_n C dX12_ownOf_51 rfl rfl ?_
        obtain ⟨z6, hz6, hf⟩ := gbind hf ho
        refine g_callV C dX12_ownOf_52 (m_X12_far l X N _ _ _  (gLay.sub hL (by decide) (by decide)) _ _ z6 hz6) gEin0 (cwV 2 C.2.2.2.2.1 gX12_ownOf_X12_far rfl rfl rfl (by decide +kernel) ⟨Nat.le_of_ble_eq_true rfl, Nat.le_of_ble_eq_true rfl⟩) (L91 hL (by decide) (by decide)) (by decide) rfl rfl rfl (Nat.le_of_ble_eq_true rfl) ⟨Nat.le_of_ble_eq_true rfl, Nat.le_of_ble_eq_true rfl⟩ ?_
        refine g_istore C dX12_ownOf_55 (Nat.le_of_ble_eq_true rfl) rfl rfl ?_
        refine g_bipush (v := 7) C dX12_ownOf_57 (by decide) ?_
        refine g_istore C dX12_ownOf_59 (Nat.le_of_ble_eq_true rfl) rfl rfl ?_
        refine g_loop (fun z7 => [(0, .ref (X.1 + 91)), (1, .int a0), (2, .int z1), (3, .int z4.1), (4, .int z6), (5, .int z7.1)]) (fun z7 => z7.2) (fun r8 => [(0, .ref (X.1 + 91)), (1, .int a0), (2, .int z1), (3, .int z4.1)]) (fun r8 => r8) 114 hf ho (And.intro rfl (And.intro rfl (And.intro rfl (And.intro rfl (And.intro rfl (And.intro rfl trivial)))))) rfl (fun r8 hf => ?_) (fun z7 o1 hf ho hkz7 hez7 => ?_)
        · refine g_iinc (d := 1) C dX12_ownOf_114 rfl (by decide) rfl (Nat.le_of_ble_eq_true rfl) rfl rfl ?_
          refine g_goto (tgt := 37) C dX12_ownOf_117 (by decide) ?_
          have hx := hkz4 _ hf.symm
          refine g_sub ?_ hx
          exact (And.intro rfl (And.intro rfl (And.intro rfl (And.intro rfl trivial))))
        · refine g_iload C dX12_ownOf_61 rfl ?_
          refine g_if_lt (tgt := 114) C dX12_ownOf_63 (by decide) hf (fun hf => ?_) (fun hf => ?_)
          · have hx := hez7 _ hf.symm
            refine g_sub ?_ hx
            exact (And.intro rfl (And.intro rfl (And.intro rfl (And.intro rfl trivial))))
          · refine g_aload_n C dX12_ownOf_66 rfl rfl ?_
            refine g_getR (i := 20) (j := 20) C dX12_ownOf_67 (L91 hL (by decide) (by decide)) c11 rfl (by decide) f85 (fun _ h9 => h9) (LR91_20 hL (by decide) (by decide)) ?_
            refine g_iload C dX12_ownOf_70 rfl ?_
            refine g_aload_n C dX12_ownOf_72 rfl rfl ?_
            refine g_iload C dX12_ownOf_73 rfl ?_
            refine g_join (fun z9 => [(0, .ref (X.1 + 91)), (1, .int a0), (2, .int z1), (3, .int z4.1), (4, .int z6), (5, .int z7.1)]) (fun z9 => [.int z9, .ref (X.1 + 91), .int z7.1, .ref (X.1 + 106)]) (fun z9 => z7.2) 91 hf ho (fun z9 hf => ?_) (fun o1 hf ho hkz9 => ?_)
            · refine g_aload_n C dX12_ownOf_91 rfl rfl ?_
              refine g_iload C dX12_ownOf_92 rfl ?_
              refine g_aload_n C dX12_ownOf_94 rfl rfl ?_
              refine g_getR (i := 20) (j := 20) C dX12_ownOf_95 (L91 hL (by decide) (by decide)) c11 rfl (by decide) f85 (fun _ h9 => h9) (LR91_20 hL (by decide) (by decide)) ?_
              refine g_iload C dX12_ownOf_98 rfl ?_
              refine g_iald C dX12_ownOf_100 (L106 hL (by decide) (by decide)) ho hf (fun hf => ?_)
              obtain ⟨z10, hz10, hf⟩ := gbind hf ho
              refine g_callV C dX12_ownOf_101 (m_X12_times l X N _ _ _  (gLay.sub hL (by decide) (by decide)) _ _ z10 hz10) gEin0 (cwV 2 C.2.2.2.2.1 gX12_ownOf_X12_times rfl rfl rfl (by decide +kernel) ⟨Nat.le_of_ble_eq_true rfl, Nat.le_of_ble_eq_true rfl⟩) (L91 hL (by decide) (by decide)) (by decide) rfl rfl rfl (Nat.le_of_ble_eq_true rfl) ⟨Nat.le_of_ble_eq_true rfl, Nat.le_of_ble_eq_true rfl⟩ ?_
              obtain ⟨z11, hz11, hf⟩ := gbind hf ho
              refine g_callV C dX12_ownOf_104 (m_X12_less l X N _ _ _  (gLay.sub hL (by decide) (by decide)) _ _ z11 hz11) gEin0 (cwV 2 C.2.2.2.2.1 gX12_ownOf_X12_less rfl rfl rfl (by decide +kernel) ⟨Nat.le_of_ble_eq_true rfl, Nat.le_of_ble_eq_true rfl⟩) (L91 hL (by decide) (by decide)) (by decide) rfl rfl rfl (Nat.le_of_ble_eq_true rfl) ⟨Nat.le_of_ble_eq_true rfl, Nat.le_of_ble_eq_true rfl⟩ ?_
              refine g_iast C dX12_ownOf_107 (L106 hL (by decide) (by decide)) ho hf (fun hf => ?_)
              refine g_iinc (d := -1) C dX12_ownOf_108 rfl (by decide) rfl (Nat.le_of_ble_eq_true rfl) rfl rfl ?_
              refine g_goto (tgt := 61) C dX12_ownOf_111 (by decide) ?_
              have hx := hkz7 _ hf.symm
              refine g_sub ?_ hx
              exact (And.intro rfl (And.intro rfl (And.intro rfl (And.intro rfl (And.intro rfl (And.intro rfl trivial))))))
            · refine g_if_ne (tgt := 82) C dX12_ownOf_75 (by decide) hf (fun hf => ?_) (fun hf => ?_)
              · refine g_aload_n C dX12_ownOf_82 rfl rfl ?_
                refine g_getR (i := 20) (j := 20) C dX12_ownOf_83 (L91 hL (by decide) (by decide)) c11 rfl (by decide) f85 (fun _ h9 => h9) (LR91_20 hL (by decide) (by decide)) ?_
                refine g_iload C dX12_ownOf_86 rfl ?_
                refine g_iconst (v := 1) C dX12_ownOf_88 (by decide) ?_
                refine g_isub C dX12_ownOf_89 ?_
                refine g_iald C dX12_ownOf_90 (L106 hL (by decide) (by decide)) ho hf (fun hf => ?_)
                have hx := hkz9 _ hf.symm
                refine g_sub ?_ hx
                exact (And.intro rfl (And.intro rfl (And.intro rfl (And.intro rfl (And.intro rfl (And.intro rfl trivial))))))
              · refine g_iconst (v := 0) C dX12_ownOf_78 (by decide) ?_
                refine g_goto (tgt := 91) C dX12_ownOf_79 (by decide) ?_
                have hx := hkz9 _ hf.symm
                refine g_sub ?_ hx
                exact (And.intro rfl (And.intro rfl (And.intro rfl (And.intro rfl (And.intro rfl (And.intro rfl trivial))))))
  · refine g_iload_n C dX12_ownOf_8 rfl rfl ?_
    refine g_bipush (v := 8) C dX12_ownOf_9 (by decide) ?_
    refine g_icmp_ge (tgt := 35) C dX12_ownOf_11 (by decide) hf (fun hf => ?_) (fun hf => ?_)
    · have hx := hez2 _ hf.symm
      refine g_sub ?_ hx
      exact (And.intro rfl (And.intro rfl (And.intro rfl trivial)))
    · refine g_aload_n C dX12_ownOf_14 rfl rfl ?_
      refine g_getR (i := 20) (j := 20) C dX12_ownOf_15 (L91 hL (by decide) (by decide)) c11 rfl (by decide) f85 (fun _ h9 => h9) (LR91_20 hL (by decide) (by decide)) ?_
      refine g_iload_n C dX12_ownOf_18 rfl rfl ?_
      refine g_iload_n C dX12_ownOf_19 rfl rfl ?_
      refine g_if_ne (tgt := 27) C dX12_ownOf_20 (by decide) hf (fun hf => ?_) (fun hf => ?_)
      · refine g_iconst (v := 0) C dX12_ownOf_27 (by decide) ?_
        refine g_iast C dX12_ownOf_28 (L106 hL (by decide) (by decide)) ho hf (fun hf => ?_)
        refine g_iinc (d := 1) C dX12_ownOf_29 rfl (by decide) rfl (Nat.le_of_ble_eq_true rfl) rfl rfl ?_
        refine g_goto (tgt := 8) C dX12_ownOf_32 (by decide) ?_
        have hx := hkz2 _ hf.symm
        refine g_sub ?_ hx
        exact (And.intro rfl (And.intro rfl (And.intro rfl (And.intro rfl trivial))))
      · refine g_iconst (v := 1) C dX12_ownOf_23 (by decide) ?_
        refine g_goto (tgt := 28) C dX12_ownOf_24 (by decide) ?_
        refine g_iast C dX12_ownOf_28 (L106 hL (by decide) (by decide)) ho hf (fun hf => ?_)
        refine g_iinc (d := 1) C dX12_ownOf_29 rfl (by decide) rfl (Nat.le_of_ble_eq_true rfl) rfl rfl ?_
        refine g_goto (tgt := 8) C dX12_ownOf_32 (by decide) ?_
        have hx := hkz2 _ hf.symm
        refine g_sub ?_ hx
        exact (And.intro rfl (And.intro rfl (And.intro rfl (And.intro rfl trivial))))
set_option maxRecDepth 100000 in
set_option maxHeartbeats 8000000 in
theorem m_X12_heightOf (l : Launch) (X : gX) (N : Nat) (I : gI) (R : gR) (S : gS) (hL : gLay 91 114 R S) (a0 : Int32) (v : Int32) (J : gI) (hf : f_X12_heightOf N I R S a0 = some (v, J)) : gM l yX12_heightOf wsX12_heightOf { frames := 3, cells := 0, slots := 0, locals := 73 } X gE0 [.ref (X.1 + 91), .int a0] I R S (some (.int v)) J R S 0 0 := by
  unfold f_X12_heightOf at hf
  refine gM_of (cc := cX12_heightOf) (own := RX12) (maxL := 3) (ret := (some .int)) (by decide) rfl rfl (Nat.le_of_ble_eq_true rfl) ?_
  intro p e s m args below meth c C hr hlk hnm hE
  have ho : (some (v, J)) ≠ none := fun h => by cases h
  have f76 := C.2.2.2.2.1 (.fieldLink RX12 76 "TimesByPowersModel" "made" "[I") (by decide +kernel)
  have c11 : gCl wsX12_heightOf 11 RX12 TX12 29 := ⟨by decide, rfl, rfl, by decide +kernel⟩
  refine g_aload_n C dX12_heightOf_0 rfl rfl ?_
  refine g_iload_n C dX12_heightOf_1 rfl rfl ?_
  refine g_aload_n C dX12_heightOf_2 rfl rfl ?_
  refine g_iload_n C dX12_heightOf_3 rfl rfl ?_
  obtain ⟨z1, hz1, hf⟩ := gbind hf ho
  refine g_callV C dX12_heightOf_4 (m_X12_ownOf l X N _ _ _  (gLay.sub hL (by decide) (by decide)) _ z1.1 z1.2 hz1) gEin0 (cwV 1 C.2.2.2.2.1 gX12_heightOf_X12_ownOf rfl rfl rfl (by decide +kernel) ⟨Nat.le_of_ble_eq_true rfl, Nat.le_of_ble_eq_true rfl⟩) (L91 hL (by decide) (by decide)) (by decide) rfl rfl rfl (Nat.le_of_ble_eq_true rfl) ⟨Nat.le_of_ble_eq_true rfl, Nat.le_of_ble_eq_true rfl⟩ ?_
  obtain ⟨z2, hz2, hf⟩ := gbind hf ho
  refine g_callV C dX12_heightOf_7 (m_X12_act l X N _ _ _  (gLay.sub hL (by decide) (by decide)) _ _ z2 hz2) gEin0 (cwV 2 C.2.2.2.2.1 gX12_heightOf_X12_act rfl rfl rfl (by decide +kernel) ⟨Nat.le_of_ble_eq_true rfl, Nat.le_of_ble_eq_true rfl⟩) (L91 hL (by decide) (by decide)) (by decide) rfl rfl rfl (Nat.le_of_ble_eq_true rfl) ⟨Nat.le_of_ble_eq_true rfl, Nat.le_of_ble_eq_true rfl⟩ ?_
  refine g_iconst (v := 0) C dX12_heightOf_10 (by decide) ?_
  refine g_istore_n C dX12_heightOf_11 rfl (Nat.le_of_ble_eq_true rfl) rfl rfl ?_
  refine g_loop (fun z3 => [(0, .ref (X.1 + 91)), (1, .int a0), (2, .int z3)]) (fun z3 => z2) (fun r4 => [(0, .ref (X.1 + 91)), (1, .int a0), (2, .int r4)]) (fun r4 => z2) 27 hf ho (And.intro rfl (And.intro rfl (And.intro rfl trivial))) rfl (fun r4 hf => ?_) (fun z3 o1 hf ho hkz3 hez3 => ?_)
  · refine g_iload_n C dX12_heightOf_27 rfl rfl ?_
    refine g_aload_n C dX12_heightOf_28 rfl rfl ?_
    refine g_iload_n C dX12_heightOf_29 rfl rfl ?_
    obtain ⟨z5, hz5, hf⟩ := gbind hf ho
    refine g_callV C dX12_heightOf_30 (m_X12_degreeOfOwn l X N _ _ _  (gLay.sub hL (by decide) (by decide)) _ z5 hz5) gEin0 (cwV 1 C.2.2.2.2.1 gX12_heightOf_X12_degreeOfOwn rfl rfl rfl (by decide +kernel) ⟨Nat.le_of_ble_eq_true rfl, Nat.le_of_ble_eq_true rfl⟩) (L91 hL (by decide) (by decide)) (by decide) rfl rfl rfl (Nat.le_of_ble_eq_true rfl) ⟨Nat.le_of_ble_eq_true rfl, Nat.le_of_ble_eq_true rfl⟩ ?_
    refine g_idiv C dX12_heightOf_33 ho hf (fun hf => ?_)
    obtain ⟨rfl, rfl⟩ := gs2 hf
    exact g_iret C dX12_heightOf_34 hr hlk
  · refine g_aload_n C dX12_heightOf_12 rfl rfl ?_
    refine g_getR (i := 17) (j := 17) C dX12_heightOf_13 (L91 hL (by decide) (by decide)) c11 rfl (by decide) f76 (fun _ h9 => h9) (LR91_17 hL (by decide) (by decide)) ?_
    refine g_iload_n C dX12_heightOf_16 rfl rfl ?_
    refine g_iald C dX12_heightOf_17 (L103 hL (by decide) (by decide)) ho hf (fun hf => ?_)
    refine g_if_ne (tgt := 27) C dX12_heightOf_18 (by decide) hf (fun hf => ?_) (fun hf => ?_)
    · have hx := hez3 _ hf.symm
      refine g_sub ?_ hx
      exact (And.intro rfl (And.intro rfl (And.intro rfl trivial)))
    · refine g_iinc (d := 1) C dX12_heightOf_21 rfl (by decide) rfl (Nat.le_of_ble_eq_true rfl) rfl rfl ?_
      refine g_goto (tgt := 12) C dX12_heightOf_24 (by decide) ?_
      have hx := hkz3 _ hf.symm
      refine g_sub ?_ hx
      exact (And.intro rfl (And.intro rfl (And.intro rfl trivial)))
set_option maxRecDepth 100000 in
set_option maxHeartbeats 8000000 in
theorem m_X12_kindOf (l : Launch) (X : gX) (N : Nat) (I : gI) (R : gR) (S : gS) (hL : gLay 91 114 R S) (a0 : Int32) (v : Int32) (J : gI) (hf : f_X12_kindOf N I R S a0 = some (v, J)) : gM l yX12_kindOf wsX12_kindOf { frames := 4, cells := 0, slots := 0, locals := 95 } X gE0 [.ref (X.1 + 91), .int a0] I R S (some (.int v)) J R S 0 0 := by
  unfold f_X12_kindOf at hf
  refine gM_of (cc := cX12_kindOf) (own := RX12) (maxL := 2) (ret := (some .int)) (by decide) rfl rfl (Nat.le_of_ble_eq_true rfl) ?_
  intro p e s m args below meth c C hr hlk hnm hE
  have ho : (some (v, J)) ≠ none := fun h => by cases h
  have f70 := C.2.2.2.2.1 (.fieldLink RX12 70 "TimesByPowersModel" "rank" "[I") (by decide +kernel)
  have c11 : gCl wsX12_kindOf 11 RX12 TX12 29 := ⟨by decide, rfl, rfl, by decide +kernel⟩
  refine g_aload_n C dX12_kindOf_0 rfl rfl ?_
  refine g_getR (i := 15) (j := 15) C dX12_kindOf_1 (L91 hL (by decide) (by decide)) c11 rfl (by decide) f70 (fun _ h9 => h9) (LR91_15 hL (by decide) (by decide)) ?_
  refine g_iload_n C dX12_kindOf_4 rfl rfl ?_
  refine g_iald C dX12_kindOf_5 (L101 hL (by decide) (by decide)) ho hf (fun hf => ?_)
  refine g_iconst (v := 1) C dX12_kindOf_6 (by decide) ?_
  refine g_icmp_ne (tgt := 14) C dX12_kindOf_7 (by decide) hf (fun hf => ?_) (fun hf => ?_)
  · refine g_aload_n C dX12_kindOf_14 rfl rfl ?_
    refine g_getR (i := 15) (j := 15) C dX12_kindOf_15 (L91 hL (by decide) (by decide)) c11 rfl (by decide) f70 (fun _ h9 => h9) (LR91_15 hL (by decide) (by decide)) ?_
    refine g_iload_n C dX12_kindOf_18 rfl rfl ?_
    refine g_iald C dX12_kindOf_19 (L101 hL (by decide) (by decide)) ho hf (fun hf => ?_)
    refine g_iconst (v := 3) C dX12_kindOf_20 (by decide) ?_
    refine g_icmp_ne (tgt := 28) C dX12_kindOf_21 (by decide) hf (fun hf => ?_) (fun hf => ?_)
    · refine g_aload_n C dX12_kindOf_28 rfl rfl ?_
      refine g_iload_n C dX12_kindOf_29 rfl rfl ?_
      obtain ⟨z1, hz1, hf⟩ := gbind hf ho
      refine g_callV C dX12_kindOf_30 (m_X12_heightOf l X N _ _ _  (gLay.sub hL (by decide) (by decide)) _ z1.1 z1.2 hz1) gEin0 (cwV 1 C.2.2.2.2.1 gX12_kindOf_X12_heightOf rfl rfl rfl (by decide +kernel) ⟨Nat.le_of_ble_eq_true rfl, Nat.le_of_ble_eq_true rfl⟩) (L91 hL (by decide) (by decide)) (by decide) rfl rfl rfl (Nat.le_of_ble_eq_true rfl) ⟨Nat.le_of_ble_eq_true rfl, Nat.le_of_ble_eq_true rfl⟩ ?_
      refine g_iconst (v := 2) C dX12_kindOf_33 (by decide) ?_
      refine g_icmp_ne (tgt := 41) C dX12_kindOf_34 (by decide) hf (fun hf => ?_) (fun hf => ?_)
      · refine g_iconst (v := 2) C dX12_kindOf_41 (by decide) ?_
        obtain ⟨rfl, rfl⟩ := gs2 hf
        exact g_iret C dX12_kindOf_42 hr hlk
      · refine g_iconst (v := 3) C dX12_kindOf_37 (by decide) ?_
        refine g_goto (tgt := 42) C dX12_kindOf_38 (by decide) ?_
        obtain ⟨rfl, rfl⟩ := gs2 hf
        exact g_iret C dX12_kindOf_42 hr hlk
    · refine g_iconst (v := 4) C dX12_kindOf_24 (by decide) ?_
      refine g_goto (tgt := 42) C dX12_kindOf_25 (by decide) ?_
      obtain ⟨rfl, rfl⟩ := gs2 hf
      exact g_iret C dX12_kindOf_42 hr hlk
  · refine g_iconst (v := 1) C dX12_kindOf_10 (by decide) ?_
    refine g_goto (tgt := 42) C dX12_kindOf_11 (by decide) ?_
    obtain ⟨rfl, rfl⟩ := gs2 hf
    exact g_iret C dX12_kindOf_42 hr hlk
set_option maxRecDepth 100000 in
set_option maxHeartbeats 8000000 in
theorem m_X12_isOf (l : Launch) (X : gX) (N : Nat) (I : gI) (R : gR) (S : gS) (hL : gLay 91 114 R S) (a0 : Int32) (a1 : Int32) (v : Int32) (hf : f_X12_isOf N I R S a0 a1 = some v) : gM l yX12_isOf wsX12_isOf { frames := 0, cells := 0, slots := 0, locals := 0 } X gE0 [.int a0, .int a1] I R S (some (.int v)) I R S 0 0 := by
  unfold f_X12_isOf at hf
  refine gM_of (cc := cX12_isOf) (own := RX12) (maxL := 2) (ret := (some .boolean)) (by decide) rfl rfl (Nat.le_of_ble_eq_true rfl) ?_
  intro p e s m args below meth c C hr hlk hnm hE
  have ho : (some v) ≠ none := fun h => by cases h
  refine g_iload_n C dX12_isOf_0 rfl rfl ?_
  refine g_if_eq (tgt := 19) C dX12_isOf_1 (by decide) hf (fun hf => ?_) (fun hf => ?_)
  · refine g_iconst (v := 1) C dX12_isOf_19 (by decide) ?_
    refine g_goto (tgt := 24) C dX12_isOf_20 (by decide) ?_
    obtain rfl := gs1 hf
    exact g_zret C dX12_isOf_24 hr hlk (by decide)
  · refine g_iload_n C dX12_isOf_4 rfl rfl ?_
    refine g_iload_n C dX12_isOf_5 rfl rfl ?_
    refine g_icmp_eq (tgt := 19) C dX12_isOf_6 (by decide) hf (fun hf => ?_) (fun hf => ?_)
    · refine g_iconst (v := 1) C dX12_isOf_19 (by decide) ?_
      refine g_goto (tgt := 24) C dX12_isOf_20 (by decide) ?_
      obtain rfl := gs1 hf
      exact g_zret C dX12_isOf_24 hr hlk (by decide)
    · refine g_iload_n C dX12_isOf_9 rfl rfl ?_
      refine g_iconst (v := 2) C dX12_isOf_10 (by decide) ?_
      refine g_icmp_ne (tgt := 23) C dX12_isOf_11 (by decide) hf (fun hf => ?_) (fun hf => ?_)
      · refine g_iconst (v := 0) C dX12_isOf_23 (by decide) ?_
        obtain rfl := gs1 hf
        exact g_zret C dX12_isOf_24 hr hlk (by decide)
      · refine g_iload_n C dX12_isOf_14 rfl rfl ?_
        refine g_iconst (v := 3) C dX12_isOf_15 (by decide) ?_
        refine g_icmp_ne (tgt := 23) C dX12_isOf_16 (by decide) hf (fun hf => ?_) (fun hf => ?_)
        · refine g_iconst (v := 0) C dX12_isOf_23 (by decide) ?_
          obtain rfl := gs1 hf
          exact g_zret C dX12_isOf_24 hr hlk (by decide)
        · refine g_iconst (v := 1) C dX12_isOf_19 (by decide) ?_
          refine g_goto (tgt := 24) C dX12_isOf_20 (by decide) ?_
          obtain rfl := gs1 hf
          exact g_zret C dX12_isOf_24 hr hlk (by decide)
set_option maxRecDepth 100000 in
set_option maxHeartbeats 8000000 in
theorem m_X12_lay (l : Launch) (X : gX) (N : Nat) (I : gI) (R : gR) (S : gS) (hL : gLay 91 114 R S) (a0 : Int32) (a1 : Int32) (v : Int32) (J : gI) (hf : f_X12_lay N I R S a0 a1 = some (v, J)) : gM l yX12_lay wsX12_lay { frames := 5, cells := 0, slots := 0, locals := 116 } X gE0 [.ref (X.1 + 91), .int a0, .int a1] I R S (some (.int v)) J R S 0 0 := by
  unfold f_X12_lay at hf
  refine gM_of (cc := cX12_lay) (own := RX12) (maxL := 4) (ret := (some .int)) (by decide) rfl rfl (Nat.le_of_ble_eq_true rfl) ?_
  intro p e s m args below meth c C hr hlk hnm hE
  have ho : (some (v, J)) ≠ none := fun h => by cases h
  have f7 := C.2.2.2.2.1 (.fieldLink RX12 7 "TimesByPowersModel" "status" "I") (by decide +kernel)
  have c11 : gCl wsX12_lay 11 RX12 TX12 29 := ⟨by decide, rfl, rfl, by decide +kernel⟩
  have f70 := C.2.2.2.2.1 (.fieldLink RX12 70 "TimesByPowersModel" "rank" "[I") (by decide +kernel)
  have f73 := C.2.2.2.2.1 (.fieldLink RX12 73 "TimesByPowersModel" "t" "[I") (by decide +kernel)
  have f88 := C.2.2.2.2.1 (.fieldLink RX12 88 "TimesByPowersModel" "fresh" "[I") (by decide +kernel)
  refine g_aload_n C dX12_lay_0 rfl rfl ?_
  refine g_iconst (v := 0) C dX12_lay_1 (by decide) ?_
  refine g_putI (i := 1) (j := 1) C dX12_lay_2 (L91 hL (by decide) (by decide)) c11 gy11 rfl f7 (fun _ h9 => h9) (Or.inl rfl) rfl ?_
  refine g_aload_n C dX12_lay_5 rfl rfl ?_
  refine g_getR (i := 15) (j := 15) C dX12_lay_6 (L91 hL (by decide) (by decide)) c11 rfl (by decide) f70 (fun _ h9 => h9) (LR91_15 hL (by decide) (by decide)) ?_
  refine g_iload_n C dX12_lay_9 rfl rfl ?_
  refine g_iload_n C dX12_lay_10 rfl rfl ?_
  refine g_iast C dX12_lay_11 (L101 hL (by decide) (by decide)) ho hf (fun hf => ?_)
  refine g_iconst (v := 0) C dX12_lay_12 (by decide) ?_
  refine g_istore_n C dX12_lay_13 rfl (Nat.le_of_ble_eq_true rfl) rfl rfl ?_
  refine g_loop (fun z1 => [(0, .ref (X.1 + 91)), (1, .int a0), (2, .int a1), (3, .int z1.1)]) (fun z1 => z1.2) (fun r2 => [(0, .ref (X.1 + 91)), (1, .int a0)]) (fun r2 => r2) 50 hf ho (And.intro rfl (And.intro rfl (And.intro rfl (And.intro rfl trivial)))) rfl (fun r2 hf => ?_) (fun z1 o1 hf ho hkz1 hez1 => ?_)
  · refine g_aload_n C dX12_lay_50 rfl rfl ?_
    refine g_iload_n C dX12_lay_51 rfl rfl ?_
    obtain ⟨z3, hz3, hf⟩ := gbind hf ho
    refine g_callV C dX12_lay_52 (m_X12_kindOf l X N _ _ _  (gLay.sub hL (by decide) (by decide)) _ z3.1 z3.2 hz3) gEin0 (cwV 1 C.2.2.2.2.1 gX12_lay_X12_kindOf rfl rfl rfl (by decide +kernel) ⟨Nat.le_of_ble_eq_true rfl, Nat.le_of_ble_eq_true rfl⟩) (L91 hL (by decide) (by decide)) (by decide) rfl rfl rfl (Nat.le_of_ble_eq_true rfl) ⟨Nat.le_of_ble_eq_true rfl, Nat.le_of_ble_eq_true rfl⟩ ?_
    obtain ⟨rfl, rfl⟩ := gs2 hf
    exact g_iret C dX12_lay_55 hr hlk
  · refine g_iload_n C dX12_lay_14 rfl rfl ?_
    refine g_iconst (v := 4) C dX12_lay_15 (by decide) ?_
    refine g_icmp_ge (tgt := 50) C dX12_lay_16 (by decide) hf (fun hf => ?_) (fun hf => ?_)
    · have hx := hez1 _ hf.symm
      refine g_sub ?_ hx
      exact (And.intro rfl (And.intro rfl trivial))
    · refine g_aload_n C dX12_lay_19 rfl rfl ?_
      refine g_getR (i := 16) (j := 16) C dX12_lay_20 (L91 hL (by decide) (by decide)) c11 rfl (by decide) f73 (fun _ h9 => h9) (LR91_16 hL (by decide) (by decide)) ?_
      refine g_iconst (v := 4) C dX12_lay_23 (by decide) ?_
      refine g_iload_n C dX12_lay_24 rfl rfl ?_
      refine g_imul C dX12_lay_25 ?_
      refine g_iload_n C dX12_lay_26 rfl rfl ?_
      refine g_iadd C dX12_lay_27 ?_
      refine g_iload_n C dX12_lay_28 rfl rfl ?_
      refine g_iload_n C dX12_lay_29 rfl rfl ?_
      refine g_icmp_le (tgt := 37) C dX12_lay_30 (by decide) hf (fun hf => ?_) (fun hf => ?_)
      · refine g_aload_n C dX12_lay_37 rfl rfl ?_
        refine g_getR (i := 21) (j := 21) C dX12_lay_38 (L91 hL (by decide) (by decide)) c11 rfl (by decide) f88 (fun _ h9 => h9) (LR91_21 hL (by decide) (by decide)) ?_
        refine g_iload_n C dX12_lay_41 rfl rfl ?_
        refine g_iald C dX12_lay_42 (L107 hL (by decide) (by decide)) ho hf (fun hf => ?_)
        refine g_iast C dX12_lay_43 (L102 hL (by decide) (by decide)) ho hf (fun hf => ?_)
        refine g_iinc (d := 1) C dX12_lay_44 rfl (by decide) rfl (Nat.le_of_ble_eq_true rfl) rfl rfl ?_
        refine g_goto (tgt := 14) C dX12_lay_47 (by decide) ?_
        have hx := hkz1 _ hf.symm
        refine g_sub ?_ hx
        exact (And.intro rfl (And.intro rfl (And.intro rfl (And.intro rfl trivial))))
      · refine g_iconst (v := 0) C dX12_lay_33 (by decide) ?_
        refine g_goto (tgt := 43) C dX12_lay_34 (by decide) ?_
        refine g_iast C dX12_lay_43 (L102 hL (by decide) (by decide)) ho hf (fun hf => ?_)
        refine g_iinc (d := 1) C dX12_lay_44 rfl (by decide) rfl (Nat.le_of_ble_eq_true rfl) rfl rfl ?_
        refine g_goto (tgt := 14) C dX12_lay_47 (by decide) ?_
        have hx := hkz1 _ hf.symm
        refine g_sub ?_ hx
        exact (And.intro rfl (And.intro rfl (And.intro rfl (And.intro rfl trivial))))
set_option maxRecDepth 100000 in
set_option maxHeartbeats 8000000 in
theorem m_X12_world (l : Launch) (X : gX) (N : Nat) (I : gI) (R : gR) (S : gS) (hL : gLay 91 114 R S) (a0 : Int32) (a1 : Int32) (a2 : Int32) (a3 : Int32) (v : Int32) (J : gI) (hf : f_X12_world N I R S a0 a1 a2 a3 = some (v, J)) : gM l yX12_world wsX12_world { frames := 6, cells := 0, slots := 0, locals := 139 } X gE0 [.ref (X.1 + 91), .int a0, .int a1, .int a2, .int a3] I R S (some (.int v)) J R S 0 0 := by
  unfold f_X12_world at hf
  refine gM_of (cc := cX12_world) (own := RX12) (maxL := 6) (ret := (some .int)) (by decide) rfl rfl (Nat.le_of_ble_eq_true rfl) ?_
  intro p e s m args below meth c C hr hlk hnm hE
  have ho : (some (v, J)) ≠ none := fun h => by cases h
  have f1 := C.2.2.2.2.1 (.fieldLink RX12 1 "TimesByPowersModel" "thrown" "I") (by decide +kernel)
  have c11 : gCl wsX12_world 11 RX12 TX12 29 := ⟨by decide, rfl, rfl, by decide +kernel⟩
  have k141 := C.2.2.2.2.1 (.constant RX12 141 (-1000001)) (by decide +kernel)
  have k137 := C.2.2.2.2.1 (.constantLong RX12 137 (3)) (by decide +kernel)
  have f61 := C.2.2.2.2.1 (.fieldLink RX12 61 "TimesByPowersModel" "lane" "[I") (by decide +kernel)
  have f64 := C.2.2.2.2.1 (.fieldLink RX12 64 "TimesByPowersModel" "many" "[I") (by decide +kernel)
  have f88 := C.2.2.2.2.1 (.fieldLink RX12 88 "TimesByPowersModel" "fresh" "[I") (by decide +kernel)
  have f67 := C.2.2.2.2.1 (.fieldLink RX12 67 "TimesByPowersModel" "item" "[I") (by decide +kernel)
  refine g_aload_n C dX12_world_0 rfl rfl ?_
  refine g_iconst (v := 0) C dX12_world_1 (by decide) ?_
  refine g_putI (i := 0) (j := 0) C dX12_world_2 (L91 hL (by decide) (by decide)) c11 gy11 rfl f1 (fun _ h9 => h9) (Or.inl rfl) rfl ?_
  refine g_iload_n C dX12_world_5 rfl rfl ?_
  obtain ⟨z1, hz1, hf⟩ := gbind hf ho
  refine g_callS C dX12_world_6 (m_X12_isPlace l X N _ _ _  (gLay.sub hL (by decide) (by decide)) _ z1 hz1) gEin0 (va_cwS 1 C.2.2.2.2.1 gX12_world_X12_isPlace rfl rfl rfl (by decide +kernel) ⟨Nat.le_of_ble_eq_true rfl, Nat.le_of_ble_eq_true rfl⟩) rfl rfl (Nat.le_of_ble_eq_true rfl) ⟨Nat.le_of_ble_eq_true rfl, Nat.le_of_ble_eq_true rfl⟩ ?_
  refine g_if_eq (tgt := 32) C dX12_world_9 (by decide) hf (fun hf => ?_) (fun hf => ?_)
  · refine g_ldc C k141 dX12_world_32 ?_
    obtain ⟨rfl, rfl⟩ := gs2 hf
    exact g_iret C dX12_world_34 hr hlk
  · refine g_iload_n C dX12_world_12 rfl rfl ?_
    obtain ⟨z2, hz2, hf⟩ := gbind hf ho
    refine g_callS C dX12_world_13 (m_X12_isRow l X N _ _ _  (gLay.sub hL (by decide) (by decide)) _ z2 hz2) gEin0 (va_cwS 1 C.2.2.2.2.1 gX12_world_X12_isRow rfl rfl rfl (by decide +kernel) ⟨Nat.le_of_ble_eq_true rfl, Nat.le_of_ble_eq_true rfl⟩) rfl rfl (Nat.le_of_ble_eq_true rfl) ⟨Nat.le_of_ble_eq_true rfl, Nat.le_of_ble_eq_true rfl⟩ ?_
    refine g_if_eq (tgt := 32) C dX12_world_16 (by decide) hf (fun hf => ?_) (fun hf => ?_)
    · refine g_ldc C k141 dX12_world_32 ?_
      obtain ⟨rfl, rfl⟩ := gs2 hf
      exact g_iret C dX12_world_34 hr hlk
    · refine g_iload C dX12_world_19 rfl ?_
      refine g_i2l C dX12_world_21 ?_
      refine g_lconst (v := 1) C dX12_world_22 (by decide) ?_
      refine g_ldc2 C k137 dX12_world_23 ?_
      obtain ⟨z3, hz3, hf⟩ := gbind hf ho
      refine g_callS C dX12_world_26 (m_X12_in l X N _ _ _  (gLay.sub hL (by decide) (by decide)) _ _ _ z3 hz3) gEin0 (va_cwS 3 C.2.2.2.2.1 gX12_world_X12_in rfl rfl rfl (by decide +kernel) ⟨Nat.le_of_ble_eq_true rfl, Nat.le_of_ble_eq_true rfl⟩) rfl rfl (Nat.le_of_ble_eq_true rfl) ⟨Nat.le_of_ble_eq_true rfl, Nat.le_of_ble_eq_true rfl⟩ ?_
      refine g_if_ne (tgt := 35) C dX12_world_29 (by decide) hf (fun hf => ?_) (fun hf => ?_)
      · refine g_aload_n C dX12_world_35 rfl rfl ?_
        refine g_getR (i := 12) (j := 12) C dX12_world_36 (L91 hL (by decide) (by decide)) c11 rfl (by decide) f61 (fun _ h9 => h9) (LR91_12 hL (by decide) (by decide)) ?_
        refine g_iload_n C dX12_world_39 rfl rfl ?_
        refine g_iald C dX12_world_40 (L98 hL (by decide) (by decide)) ho hf (fun hf => ?_)
        refine g_if_ge (tgt := 50) C dX12_world_41 (by decide) hf (fun hf => ?_) (fun hf => ?_)
        · refine g_iload_n C dX12_world_50 rfl rfl ?_
          refine g_if_lt (tgt := 73) C dX12_world_51 (by decide) hf (fun hf => ?_) (fun hf => ?_)
          · refine g_aload_n C dX12_world_73 rfl rfl ?_
            refine g_iconst (v := 2) C dX12_world_74 (by decide) ?_
            obtain ⟨z4, hz4, hf⟩ := gbind hf ho
            refine g_callV C dX12_world_75 (m_X12_found l X N _ _ _  (gLay.sub hL (by decide) (by decide)) _ z4.1 z4.2 hz4) gEin0 (cwV 1 C.2.2.2.2.1 gX12_world_X12_found rfl rfl rfl (by decide +kernel) ⟨Nat.le_of_ble_eq_true rfl, Nat.le_of_ble_eq_true rfl⟩) (L91 hL (by decide) (by decide)) (by decide) rfl rfl rfl (Nat.le_of_ble_eq_true rfl) ⟨Nat.le_of_ble_eq_true rfl, Nat.le_of_ble_eq_true rfl⟩ ?_
            obtain ⟨rfl, rfl⟩ := gs2 hf
            exact g_iret C dX12_world_78 hr hlk
          · refine g_iload_n C dX12_world_54 rfl rfl ?_
            refine g_i2l C dX12_world_55 ?_
            refine g_iload C dX12_world_56 rfl ?_
            refine g_i2l C dX12_world_58 ?_
            refine g_ladd C dX12_world_59 ?_
            refine g_lconst (v := 1) C dX12_world_60 (by decide) ?_
            refine g_ladd C dX12_world_61 ?_
            refine g_aload_n C dX12_world_62 rfl rfl ?_
            refine g_getR (i := 13) (j := 13) C dX12_world_63 (L91 hL (by decide) (by decide)) c11 rfl (by decide) f64 (fun _ h9 => h9) (LR91_13 hL (by decide) (by decide)) ?_
            refine g_iload_n C dX12_world_66 rfl rfl ?_
            refine g_iald C dX12_world_67 (L99 hL (by decide) (by decide)) ho hf (fun hf => ?_)
            refine g_i2l C dX12_world_68 ?_
            refine g_lcmp C dX12_world_69 ?_
            refine g_if_le (tgt := 79) C dX12_world_70 (by decide) hf (fun hf => ?_) (fun hf => ?_)
            · refine g_iconst (v := 0) C dX12_world_79 (by decide) ?_
              refine g_istore C dX12_world_80 (Nat.le_of_ble_eq_true rfl) rfl rfl ?_
              refine g_loopR (fun z5 => [(0, .ref (X.1 + 91)), (1, .int a0), (2, .int a1), (3, .int a2), (4, .int a3), (5, .int z5.1)]) (fun z5 => z5.2) (fun r6 => [(0, .ref (X.1 + 91)), (1, .int a0), (4, .int a3)]) (fun r6 => r6) 133 hf ho (And.intro rfl (And.intro rfl (And.intro rfl (And.intro rfl (And.intro rfl (And.intro rfl trivial)))))) rfl (fun r6 hf => ?_) (fun z5 o1 hf ho hkz5 hez5 hrz5 => ?_)
              · refine g_aload_n C dX12_world_133 rfl rfl ?_
                refine g_getR (i := 21) (j := 21) C dX12_world_134 (L91 hL (by decide) (by decide)) c11 rfl (by decide) f88 (fun _ h9 => h9) (LR91_21 hL (by decide) (by decide)) ?_
                refine g_iload C dX12_world_137 rfl ?_
                refine g_iald C dX12_world_139 (L107 hL (by decide) (by decide)) ho hf (fun hf => ?_)
                refine g_if_ne (tgt := 148) C dX12_world_140 (by decide) hf (fun hf => ?_) (fun hf => ?_)
                · refine g_aload_n C dX12_world_148 rfl rfl ?_
                  refine g_iload_n C dX12_world_149 rfl rfl ?_
                  refine g_iload C dX12_world_150 rfl ?_
                  obtain ⟨z8, hz8, hf⟩ := gbind hf ho
                  refine g_callV C dX12_world_152 (m_X12_lay l X N _ _ _  (gLay.sub hL (by decide) (by decide)) _ _ z8.1 z8.2 hz8) gEin0 (cwV 2 C.2.2.2.2.1 gX12_world_X12_lay rfl rfl rfl (by decide +kernel) ⟨Nat.le_of_ble_eq_true rfl, Nat.le_of_ble_eq_true rfl⟩) (L91 hL (by decide) (by decide)) (by decide) rfl rfl rfl (Nat.le_of_ble_eq_true rfl) ⟨Nat.le_of_ble_eq_true rfl, Nat.le_of_ble_eq_true rfl⟩ ?_
                  obtain ⟨rfl, rfl⟩ := gs2 hf
                  exact g_iret C dX12_world_155 hr hlk
                · refine g_ldc C k141 dX12_world_143 ?_
                  refine g_goto (tgt := 155) C dX12_world_145 (by decide) ?_
                  obtain ⟨rfl, rfl⟩ := gs2 hf
                  exact g_iret C dX12_world_155 hr hlk
              · refine g_iload C dX12_world_82 rfl ?_
                refine g_iload C dX12_world_84 rfl ?_
                refine g_icmp_gt (tgt := 133) C dX12_world_86 (by decide) hf (fun hf => ?_) (fun hf => ?_)
                · have hx := hez5 _ hf.symm
                  refine g_sub ?_ hx
                  exact (And.intro rfl (And.intro rfl (And.intro rfl trivial)))
                · refine g_aload_n C dX12_world_89 rfl rfl ?_
                  refine g_getR (i := 21) (j := 21) C dX12_world_90 (L91 hL (by decide) (by decide)) c11 rfl (by decide) f88 (fun _ h9 => h9) (LR91_21 hL (by decide) (by decide)) ?_
                  refine g_iload C dX12_world_93 rfl ?_
                  refine g_aload_n C dX12_world_95 rfl rfl ?_
                  refine g_getR (i := 14) (j := 14) C dX12_world_96 (L91 hL (by decide) (by decide)) c11 rfl (by decide) f67 (fun _ h9 => h9) (LR91_14 hL (by decide) (by decide)) ?_
                  refine g_bipush (v := 24) C dX12_world_99 (by decide) ?_
                  refine g_iload_n C dX12_world_101 rfl rfl ?_
                  refine g_imul C dX12_world_102 ?_
                  refine g_iload_n C dX12_world_103 rfl rfl ?_
                  refine g_iadd C dX12_world_104 ?_
                  refine g_iload C dX12_world_105 rfl ?_
                  refine g_iadd C dX12_world_107 ?_
                  refine g_iald C dX12_world_108 (L100 hL (by decide) (by decide)) ho hf (fun hf => ?_)
                  refine g_iast C dX12_world_109 (L107 hL (by decide) (by decide)) ho hf (fun hf => ?_)
                  refine g_aload_n C dX12_world_110 rfl rfl ?_
                  refine g_aload_n C dX12_world_111 rfl rfl ?_
                  refine g_getR (i := 21) (j := 21) C dX12_world_112 (L91 hL (by decide) (by decide)) c11 rfl (by decide) f88 (fun _ h9 => h9) (LR91_21 hL (by decide) (by decide)) ?_
                  refine g_iload C dX12_world_115 rfl ?_
                  refine g_iald C dX12_world_117 (L107 hL (by decide) (by decide)) ho hf (fun hf => ?_)
                  obtain ⟨z7, hz7, hf⟩ := gbind hf ho
                  refine g_callV C dX12_world_118 (m_X12_isElement l X N _ _ _  (gLay.sub hL (by decide) (by decide)) _ z7 hz7) gEin0 (cwV 1 C.2.2.2.2.1 gX12_world_X12_isElement rfl rfl rfl (by decide +kernel) ⟨Nat.le_of_ble_eq_true rfl, Nat.le_of_ble_eq_true rfl⟩) (L91 hL (by decide) (by decide)) (by decide) rfl rfl rfl (Nat.le_of_ble_eq_true rfl) ⟨Nat.le_of_ble_eq_true rfl, Nat.le_of_ble_eq_true rfl⟩ ?_
                  refine g_if_ne (tgt := 127) C dX12_world_121 (by decide) hf (fun hf => ?_) (fun hf => ?_)
                  · refine g_iinc (d := 1) C dX12_world_127 rfl (by decide) rfl (Nat.le_of_ble_eq_true rfl) rfl rfl ?_
                    refine g_goto (tgt := 82) C dX12_world_130 (by decide) ?_
                    have hx := hkz5 _ hf.symm
                    refine g_sub ?_ hx
                    exact (And.intro rfl (And.intro rfl (And.intro rfl (And.intro rfl (And.intro rfl (And.intro rfl trivial))))))
                  · refine g_ldc C k141 dX12_world_124 ?_
                    replace hf := hrz5 _ hf.symm
                    dsimp only [Sum.elim_inr] at hf
                    obtain ⟨rfl, rfl⟩ := gs2 hf
                    exact g_iret C dX12_world_126 hr hlk
            · refine g_aload_n C dX12_world_73 rfl rfl ?_
              refine g_iconst (v := 2) C dX12_world_74 (by decide) ?_
              obtain ⟨z11, hz11, hf⟩ := gbind hf ho
              refine g_callV C dX12_world_75 (m_X12_found l X N _ _ _  (gLay.sub hL (by decide) (by decide)) _ z11.1 z11.2 hz11) gEin0 (cwV 1 C.2.2.2.2.1 gX12_world_X12_found rfl rfl rfl (by decide +kernel) ⟨Nat.le_of_ble_eq_true rfl, Nat.le_of_ble_eq_true rfl⟩) (L91 hL (by decide) (by decide)) (by decide) rfl rfl rfl (Nat.le_of_ble_eq_true rfl) ⟨Nat.le_of_ble_eq_true rfl, Nat.le_of_ble_eq_true rfl⟩ ?_
              obtain ⟨rfl, rfl⟩ := gs2 hf
              exact g_iret C dX12_world_78 hr hlk
        · refine g_aload_n C dX12_world_44 rfl rfl ?_
          refine g_iconst (v := 1) C dX12_world_45 (by decide) ?_
          obtain ⟨z12, hz12, hf⟩ := gbind hf ho
          refine g_callV C dX12_world_46 (m_X12_found l X N _ _ _  (gLay.sub hL (by decide) (by decide)) _ z12.1 z12.2 hz12) gEin0 (cwV 1 C.2.2.2.2.1 gX12_world_X12_found rfl rfl rfl (by decide +kernel) ⟨Nat.le_of_ble_eq_true rfl, Nat.le_of_ble_eq_true rfl⟩) (L91 hL (by decide) (by decide)) (by decide) rfl rfl rfl (Nat.le_of_ble_eq_true rfl) ⟨Nat.le_of_ble_eq_true rfl, Nat.le_of_ble_eq_true rfl⟩ ?_
          obtain ⟨rfl, rfl⟩ := gs2 hf
          exact g_iret C dX12_world_49 hr hlk
      · refine g_ldc C k141 dX12_world_32 ?_
        obtain ⟨rfl, rfl⟩ := gs2 hf
        exact g_iret C dX12_world_34 hr hlk

