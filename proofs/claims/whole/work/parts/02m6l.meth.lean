set_option maxRecDepth 100000 in
set_option maxHeartbeats 8000000 in
theorem m_X12_stays (l : Launch) (X : gX) (N : Nat) (I : gI) (R : gR) (S : gS) (hL : gLay 91 114 R S) (a0 : Int32) (v : Int32) (J : gI) (hf : f_X12_stays N I R S a0 = some (v, J)) : gM l yX12_stays wsX12_stays { frames := 2, cells := 0, slots := 0, locals := 46 } X gE0 [.ref (X.1 + 91), .int a0] I R S (some (.int v)) J R S 0 0 := by
  unfold f_X12_stays at hf
  refine gM_of (cc := cX12_stays) (own := RX12) (maxL := 7) (ret := (some .int)) (by decide) rfl rfl (Nat.le_of_ble_eq_true rfl) ?_
  intro p e s m args below meth c C hr hlk hnm hE
  have ho : (some (v, J)) ≠ none := fun h => by cases h
  have f1 := C.2.2.2.2.1 (.fieldLink RX12 1 "TimesByPowersModel" "thrown" "I") (by decide +kernel)
  have c11 : gCl wsX12_stays 11 RX12 TX12 29 := ⟨by decide, rfl, rfl, by decide +kernel⟩
  have f109 := C.2.2.2.2.1 (.fieldLink RX12 109 "TimesByPowersModel" "q" "I") (by decide +kernel)
  have f70 := C.2.2.2.2.1 (.fieldLink RX12 70 "TimesByPowersModel" "rank" "[I") (by decide +kernel)
  have f73 := C.2.2.2.2.1 (.fieldLink RX12 73 "TimesByPowersModel" "t" "[I") (by decide +kernel)
  have k141 := C.2.2.2.2.1 (.constant RX12 141 (-1000001)) (by decide +kernel)
  refine g_aload_n C dX12_stays_0 rfl rfl ?_
  refine g_iconst (v := 0) C dX12_stays_1 (by decide) ?_
  refine g_putI (i := 0) (j := 0) C dX12_stays_2 (L91 hL (by decide) (by decide)) c11 gy11 rfl f1 (fun _ h9 => h9) (Or.inl rfl) rfl ?_
  refine g_iload_n C dX12_stays_5 rfl rfl ?_
  obtain ⟨z1, hz1, hf⟩ := gbind hf ho
  refine g_callS C dX12_stays_6 (m_X12_isPlace l X N _ _ _  (gLay.sub hL (by decide) (by decide)) _ z1 hz1) gEin0 (va_cwS 1 C.2.2.2.2.1 gX12_stays_X12_isPlace rfl rfl rfl (by decide +kernel) ⟨Nat.le_of_ble_eq_true rfl, Nat.le_of_ble_eq_true rfl⟩) rfl rfl (Nat.le_of_ble_eq_true rfl) ⟨Nat.le_of_ble_eq_true rfl, Nat.le_of_ble_eq_true rfl⟩ ?_
  refine g_if_ne (tgt := 15) C dX12_stays_9 (by decide) hf (fun hf => ?_) (fun hf => ?_)
  · refine g_aload_n C dX12_stays_15 rfl rfl ?_
    refine g_iload_n C dX12_stays_16 rfl rfl ?_
    obtain ⟨z2, hz2, hf⟩ := gbind hf ho
    refine g_callV C dX12_stays_17 (m_X12_look l X N _ _ _  (gLay.sub hL (by decide) (by decide)) _ z2.1 z2.2 hz2) gEin0 (cwV 1 C.2.2.2.2.1 gX12_stays_X12_look rfl rfl rfl (by decide +kernel) ⟨Nat.le_of_ble_eq_true rfl, Nat.le_of_ble_eq_true rfl⟩) (L91 hL (by decide) (by decide)) (by decide) rfl rfl rfl (Nat.le_of_ble_eq_true rfl) ⟨Nat.le_of_ble_eq_true rfl, Nat.le_of_ble_eq_true rfl⟩ ?_
    refine g_istore_n C dX12_stays_20 rfl (Nat.le_of_ble_eq_true rfl) rfl rfl ?_
    refine g_iload_n C dX12_stays_21 rfl rfl ?_
    refine g_if_ge (tgt := 27) C dX12_stays_22 (by decide) hf (fun hf => ?_) (fun hf => ?_)
    · refine g_iconst (v := 0) C dX12_stays_27 (by decide) ?_
      refine g_istore_n C dX12_stays_28 rfl (Nat.le_of_ble_eq_true rfl) rfl rfl ?_
      refine g_iconst (v := 1) C dX12_stays_29 (by decide) ?_
      refine g_istore C dX12_stays_30 (Nat.le_of_ble_eq_true rfl) rfl rfl ?_
      refine g_loop (fun z3 => [(0, .ref (X.1 + 91)), (1, .int a0), (3, .int z3.1), (4, .int z3.2)]) (fun z3 => z2.2) (fun r4 => [(3, .int r4)]) (fun r4 => z2.2) 118 hf ho (And.intro rfl (And.intro rfl (And.intro rfl (And.intro rfl trivial)))) rfl (fun r4 hf => ?_) (fun z3 o1 hf ho hkz3 hez3 => ?_)
      · refine g_iload_n C dX12_stays_118 rfl rfl ?_
        obtain ⟨rfl, rfl⟩ := gs2 hf
        exact g_iret C dX12_stays_119 hr hlk
      · refine g_iload C dX12_stays_32 rfl ?_
        refine g_aload_n C dX12_stays_34 rfl rfl ?_
        refine g_getI (i := 4) (j := 4) C dX12_stays_35 (L91 hL (by decide) (by decide)) c11 rfl f109 (fun _ h9 => h9) ?_
        refine g_icmp_ge (tgt := 118) C dX12_stays_38 (by decide) hf (fun hf => ?_) (fun hf => ?_)
        · have hx := hez3 _ hf.symm
          refine g_sub ?_ hx
          exact (And.intro rfl trivial)
        · refine g_iconst (v := 1) C dX12_stays_41 (by decide) ?_
          refine g_istore C dX12_stays_42 (Nat.le_of_ble_eq_true rfl) rfl rfl ?_
          refine g_iconst (v := 0) C dX12_stays_44 (by decide) ?_
          refine g_istore C dX12_stays_45 (Nat.le_of_ble_eq_true rfl) rfl rfl ?_
          refine g_loop (fun z5 => [(0, .ref (X.1 + 91)), (1, .int a0), (3, .int z3.1), (4, .int z3.2), (5, .int z5.1), (6, .int z5.2)]) (fun z5 => z2.2) (fun r6 => [(0, .ref (X.1 + 91)), (1, .int a0), (3, .int z3.1), (4, .int z3.2), (5, .int r6)]) (fun r6 => z2.2) 99 hf ho (And.intro rfl (And.intro rfl (And.intro rfl (And.intro rfl (And.intro rfl (And.intro rfl trivial)))))) rfl (fun r6 hf => ?_) (fun z5 o1 hf ho hkz5 hez5 => ?_)
          · refine g_iload_n C dX12_stays_99 rfl rfl ?_
            refine g_iload C dX12_stays_100 rfl ?_
            refine g_if_eq (tgt := 109) C dX12_stays_102 (by decide) hf (fun hf => ?_) (fun hf => ?_)
            · refine g_iconst (v := 0) C dX12_stays_109 (by decide) ?_
              refine g_iadd C dX12_stays_110 ?_
              refine g_istore_n C dX12_stays_111 rfl (Nat.le_of_ble_eq_true rfl) rfl rfl ?_
              refine g_iinc (d := 1) C dX12_stays_112 rfl (by decide) rfl (Nat.le_of_ble_eq_true rfl) rfl rfl ?_
              refine g_goto (tgt := 32) C dX12_stays_115 (by decide) ?_
              have hx := hkz3 _ hf.symm
              refine g_sub ?_ hx
              exact (And.intro rfl (And.intro rfl (And.intro rfl (And.intro rfl trivial))))
            · refine g_iconst (v := 1) C dX12_stays_105 (by decide) ?_
              refine g_goto (tgt := 110) C dX12_stays_106 (by decide) ?_
              refine g_iadd C dX12_stays_110 ?_
              refine g_istore_n C dX12_stays_111 rfl (Nat.le_of_ble_eq_true rfl) rfl rfl ?_
              refine g_iinc (d := 1) C dX12_stays_112 rfl (by decide) rfl (Nat.le_of_ble_eq_true rfl) rfl rfl ?_
              refine g_goto (tgt := 32) C dX12_stays_115 (by decide) ?_
              have hx := hkz3 _ hf.symm
              refine g_sub ?_ hx
              exact (And.intro rfl (And.intro rfl (And.intro rfl (And.intro rfl trivial))))
          · refine g_iload C dX12_stays_47 rfl ?_
            refine g_aload_n C dX12_stays_49 rfl rfl ?_
            refine g_getR (i := 15) (j := 15) C dX12_stays_50 (L91 hL (by decide) (by decide)) c11 rfl (by decide) f70 (fun _ h9 => h9) (LR91_15 hL (by decide) (by decide)) ?_
            refine g_iload_n C dX12_stays_53 rfl rfl ?_
            refine g_iald C dX12_stays_54 (L101 hL (by decide) (by decide)) ho hf (fun hf => ?_)
            refine g_icmp_gt (tgt := 99) C dX12_stays_55 (by decide) hf (fun hf => ?_) (fun hf => ?_)
            · have hx := hez5 _ hf.symm
              refine g_sub ?_ hx
              exact (And.intro rfl (And.intro rfl (And.intro rfl (And.intro rfl (And.intro rfl trivial)))))
            · refine g_iload C dX12_stays_58 rfl ?_
              refine g_if_eq (tgt := 90) C dX12_stays_60 (by decide) hf (fun hf => ?_) (fun hf => ?_)
              · refine g_iconst (v := 0) C dX12_stays_90 (by decide) ?_
                refine g_istore C dX12_stays_91 (Nat.le_of_ble_eq_true rfl) rfl rfl ?_
                refine g_iinc (d := 1) C dX12_stays_93 rfl (by decide) rfl (Nat.le_of_ble_eq_true rfl) rfl rfl ?_
                refine g_goto (tgt := 47) C dX12_stays_96 (by decide) ?_
                have hx := hkz5 _ hf.symm
                refine g_sub ?_ hx
                exact (And.intro rfl (And.intro rfl (And.intro rfl (And.intro rfl (And.intro rfl (And.intro rfl trivial))))))
              · refine g_aload_n C dX12_stays_63 rfl rfl ?_
                refine g_iload_n C dX12_stays_64 rfl rfl ?_
                refine g_iload C dX12_stays_65 rfl ?_
                refine g_iload C dX12_stays_67 rfl ?_
                obtain ⟨z7, hz7, hf⟩ := gbind hf ho
                refine g_callV C dX12_stays_69 (m_X12_turned l X N _ _ _  (gLay.sub hL (by decide) (by decide)) _ _ _ z7 hz7) gEin0 (cwV 3 C.2.2.2.2.1 gX12_stays_X12_turned rfl rfl rfl (by decide +kernel) ⟨Nat.le_of_ble_eq_true rfl, Nat.le_of_ble_eq_true rfl⟩) (L91 hL (by decide) (by decide)) (by decide) rfl rfl rfl (Nat.le_of_ble_eq_true rfl) ⟨Nat.le_of_ble_eq_true rfl, Nat.le_of_ble_eq_true rfl⟩ ?_
                refine g_aload_n C dX12_stays_72 rfl rfl ?_
                refine g_getR (i := 16) (j := 16) C dX12_stays_73 (L91 hL (by decide) (by decide)) c11 rfl (by decide) f73 (fun _ h9 => h9) (LR91_16 hL (by decide) (by decide)) ?_
                refine g_iconst (v := 4) C dX12_stays_76 (by decide) ?_
                refine g_iload_n C dX12_stays_77 rfl rfl ?_
                refine g_imul C dX12_stays_78 ?_
                refine g_iload C dX12_stays_79 rfl ?_
                refine g_iadd C dX12_stays_81 ?_
                refine g_iald C dX12_stays_82 (L102 hL (by decide) (by decide)) ho hf (fun hf => ?_)
                refine g_icmp_ne (tgt := 90) C dX12_stays_83 (by decide) hf (fun hf => ?_) (fun hf => ?_)
                · refine g_iconst (v := 0) C dX12_stays_90 (by decide) ?_
                  refine g_istore C dX12_stays_91 (Nat.le_of_ble_eq_true rfl) rfl rfl ?_
                  refine g_iinc (d := 1) C dX12_stays_93 rfl (by decide) rfl (Nat.le_of_ble_eq_true rfl) rfl rfl ?_
                  refine g_goto (tgt := 47) C dX12_stays_96 (by decide) ?_
                  have hx := hkz5 _ hf.symm
                  refine g_sub ?_ hx
                  exact (And.intro rfl (And.intro rfl (And.intro rfl (And.intro rfl (And.intro rfl (And.intro rfl trivial))))))
                · refine g_iconst (v := 1) C dX12_stays_86 (by decide) ?_
                  refine g_goto (tgt := 91) C dX12_stays_87 (by decide) ?_
                  refine g_istore C dX12_stays_91 (Nat.le_of_ble_eq_true rfl) rfl rfl ?_
                  refine g_iinc (d := 1) C dX12_stays_93 rfl (by decide) rfl (Nat.le_of_ble_eq_true rfl) rfl rfl ?_
                  refine g_goto (tgt := 47) C dX12_stays_96 (by decide) ?_
                  have hx := hkz5 _ hf.symm
                  refine g_sub ?_ hx
                  exact (And.intro rfl (And.intro rfl (And.intro rfl (And.intro rfl (And.intro rfl (And.intro rfl trivial))))))
    · refine g_iload_n C dX12_stays_25 rfl rfl ?_
      obtain ⟨rfl, rfl⟩ := gs2 hf
      exact g_iret C dX12_stays_26 hr hlk
  · refine g_ldc C k141 dX12_stays_12 ?_
    obtain ⟨rfl, rfl⟩ := gs2 hf
    exact g_iret C dX12_stays_14 hr hlk
set_option maxRecDepth 100000 in
set_option maxHeartbeats 8000000 in
theorem m_X12_kind (l : Launch) (X : gX) (N : Nat) (I : gI) (R : gR) (S : gS) (hL : gLay 91 114 R S) (a0 : Int32) (v : Int32) (J : gI) (hf : f_X12_kind N I R S a0 = some (v, J)) : gM l yX12_kind wsX12_kind { frames := 5, cells := 0, slots := 0, locals := 116 } X gE0 [.ref (X.1 + 91), .int a0] I R S (some (.int v)) J R S 0 0 := by
  unfold f_X12_kind at hf
  refine gM_of (cc := cX12_kind) (own := RX12) (maxL := 3) (ret := (some .int)) (by decide) rfl rfl (Nat.le_of_ble_eq_true rfl) ?_
  intro p e s m args below meth c C hr hlk hnm hE
  have ho : (some (v, J)) ≠ none := fun h => by cases h
  have f1 := C.2.2.2.2.1 (.fieldLink RX12 1 "TimesByPowersModel" "thrown" "I") (by decide +kernel)
  have c11 : gCl wsX12_kind 11 RX12 TX12 29 := ⟨by decide, rfl, rfl, by decide +kernel⟩
  have k141 := C.2.2.2.2.1 (.constant RX12 141 (-1000001)) (by decide +kernel)
  refine g_aload_n C dX12_kind_0 rfl rfl ?_
  refine g_iconst (v := 0) C dX12_kind_1 (by decide) ?_
  refine g_putI (i := 0) (j := 0) C dX12_kind_2 (L91 hL (by decide) (by decide)) c11 gy11 rfl f1 (fun _ h9 => h9) (Or.inl rfl) rfl ?_
  refine g_iload_n C dX12_kind_5 rfl rfl ?_
  obtain ⟨z1, hz1, hf⟩ := gbind hf ho
  refine g_callS C dX12_kind_6 (m_X12_isPlace l X N _ _ _  (gLay.sub hL (by decide) (by decide)) _ z1 hz1) gEin0 (va_cwS 1 C.2.2.2.2.1 gX12_kind_X12_isPlace rfl rfl rfl (by decide +kernel) ⟨Nat.le_of_ble_eq_true rfl, Nat.le_of_ble_eq_true rfl⟩) rfl rfl (Nat.le_of_ble_eq_true rfl) ⟨Nat.le_of_ble_eq_true rfl, Nat.le_of_ble_eq_true rfl⟩ ?_
  refine g_if_ne (tgt := 15) C dX12_kind_9 (by decide) hf (fun hf => ?_) (fun hf => ?_)
  · refine g_aload_n C dX12_kind_15 rfl rfl ?_
    refine g_iload_n C dX12_kind_16 rfl rfl ?_
    obtain ⟨z2, hz2, hf⟩ := gbind hf ho
    refine g_callV C dX12_kind_17 (m_X12_look l X N _ _ _  (gLay.sub hL (by decide) (by decide)) _ z2.1 z2.2 hz2) gEin0 (cwV 1 C.2.2.2.2.1 gX12_kind_X12_look rfl rfl rfl (by decide +kernel) ⟨Nat.le_of_ble_eq_true rfl, Nat.le_of_ble_eq_true rfl⟩) (L91 hL (by decide) (by decide)) (by decide) rfl rfl rfl (Nat.le_of_ble_eq_true rfl) ⟨Nat.le_of_ble_eq_true rfl, Nat.le_of_ble_eq_true rfl⟩ ?_
    refine g_istore_n C dX12_kind_20 rfl (Nat.le_of_ble_eq_true rfl) rfl rfl ?_
    refine g_iload_n C dX12_kind_21 rfl rfl ?_
    refine g_if_ge (tgt := 29) C dX12_kind_22 (by decide) hf (fun hf => ?_) (fun hf => ?_)
    · refine g_aload_n C dX12_kind_29 rfl rfl ?_
      refine g_iload_n C dX12_kind_30 rfl rfl ?_
      obtain ⟨z3, hz3, hf⟩ := gbind hf ho
      refine g_callV C dX12_kind_31 (m_X12_kindOf l X N _ _ _  (gLay.sub hL (by decide) (by decide)) _ z3.1 z3.2 hz3) gEin0 (cwV 1 C.2.2.2.2.1 gX12_kind_X12_kindOf rfl rfl rfl (by decide +kernel) ⟨Nat.le_of_ble_eq_true rfl, Nat.le_of_ble_eq_true rfl⟩) (L91 hL (by decide) (by decide)) (by decide) rfl rfl rfl (Nat.le_of_ble_eq_true rfl) ⟨Nat.le_of_ble_eq_true rfl, Nat.le_of_ble_eq_true rfl⟩ ?_
      obtain ⟨rfl, rfl⟩ := gs2 hf
      exact g_iret C dX12_kind_34 hr hlk
    · refine g_iload_n C dX12_kind_25 rfl rfl ?_
      refine g_goto (tgt := 34) C dX12_kind_26 (by decide) ?_
      obtain ⟨rfl, rfl⟩ := gs2 hf
      exact g_iret C dX12_kind_34 hr hlk
  · refine g_ldc C k141 dX12_kind_12 ?_
    obtain ⟨rfl, rfl⟩ := gs2 hf
    exact g_iret C dX12_kind_14 hr hlk
set_option maxRecDepth 100000 in
set_option maxHeartbeats 8000000 in
theorem m_X12_is (l : Launch) (X : gX) (N : Nat) (I : gI) (R : gR) (S : gS) (hL : gLay 91 114 R S) (a0 : Int32) (a1 : Int32) (v : Int32) (J : gI) (hf : f_X12_is N I R S a0 a1 = some (v, J)) : gM l yX12_is wsX12_is { frames := 5, cells := 0, slots := 0, locals := 116 } X gE0 [.ref (X.1 + 91), .int a0, .int a1] I R S (some (.int v)) J R S 0 0 := by
  unfold f_X12_is at hf
  refine gM_of (cc := cX12_is) (own := RX12) (maxL := 3) (ret := (some .int)) (by decide) rfl rfl (Nat.le_of_ble_eq_true rfl) ?_
  intro p e s m args below meth c C hr hlk hnm hE
  have ho : (some (v, J)) ≠ none := fun h => by cases h
  have f1 := C.2.2.2.2.1 (.fieldLink RX12 1 "TimesByPowersModel" "thrown" "I") (by decide +kernel)
  have c11 : gCl wsX12_is 11 RX12 TX12 29 := ⟨by decide, rfl, rfl, by decide +kernel⟩
  have k141 := C.2.2.2.2.1 (.constant RX12 141 (-1000001)) (by decide +kernel)
  have k191 := C.2.2.2.2.1 (.constantLong RX12 191 (4)) (by decide +kernel)
  have f70 := C.2.2.2.2.1 (.fieldLink RX12 70 "TimesByPowersModel" "rank" "[I") (by decide +kernel)
  refine g_aload_n C dX12_is_0 rfl rfl ?_
  refine g_iconst (v := 0) C dX12_is_1 (by decide) ?_
  refine g_putI (i := 0) (j := 0) C dX12_is_2 (L91 hL (by decide) (by decide)) c11 gy11 rfl f1 (fun _ h9 => h9) (Or.inl rfl) rfl ?_
  refine g_iload_n C dX12_is_5 rfl rfl ?_
  obtain ⟨z1, hz1, hf⟩ := gbind hf ho
  refine g_callS C dX12_is_6 (m_X12_isPlace l X N _ _ _  (gLay.sub hL (by decide) (by decide)) _ z1 hz1) gEin0 (va_cwS 1 C.2.2.2.2.1 gX12_is_X12_isPlace rfl rfl rfl (by decide +kernel) ⟨Nat.le_of_ble_eq_true rfl, Nat.le_of_ble_eq_true rfl⟩) rfl rfl (Nat.le_of_ble_eq_true rfl) ⟨Nat.le_of_ble_eq_true rfl, Nat.le_of_ble_eq_true rfl⟩ ?_
  refine g_if_eq (tgt := 24) C dX12_is_9 (by decide) hf (fun hf => ?_) (fun hf => ?_)
  · refine g_ldc C k141 dX12_is_24 ?_
    refine g_goto (tgt := 55) C dX12_is_26 (by decide) ?_
    obtain ⟨rfl, rfl⟩ := gs2 hf
    exact g_iret C dX12_is_55 hr hlk
  · refine g_iload_n C dX12_is_12 rfl rfl ?_
    refine g_i2l C dX12_is_13 ?_
    refine g_lconst (v := 0) C dX12_is_14 (by decide) ?_
    refine g_ldc2 C k191 dX12_is_15 ?_
    obtain ⟨z2, hz2, hf⟩ := gbind hf ho
    refine g_callS C dX12_is_18 (m_X12_in l X N _ _ _  (gLay.sub hL (by decide) (by decide)) _ _ _ z2 hz2) gEin0 (va_cwS 3 C.2.2.2.2.1 gX12_is_X12_in rfl rfl rfl (by decide +kernel) ⟨Nat.le_of_ble_eq_true rfl, Nat.le_of_ble_eq_true rfl⟩) rfl rfl (Nat.le_of_ble_eq_true rfl) ⟨Nat.le_of_ble_eq_true rfl, Nat.le_of_ble_eq_true rfl⟩ ?_
    refine g_if_ne (tgt := 29) C dX12_is_21 (by decide) hf (fun hf => ?_) (fun hf => ?_)
    · refine g_aload_n C dX12_is_29 rfl rfl ?_
      refine g_getR (i := 15) (j := 15) C dX12_is_30 (L91 hL (by decide) (by decide)) c11 rfl (by decide) f70 (fun _ h9 => h9) (LR91_15 hL (by decide) (by decide)) ?_
      refine g_iload_n C dX12_is_33 rfl rfl ?_
      refine g_iald C dX12_is_34 (L101 hL (by decide) (by decide)) ho hf (fun hf => ?_)
      refine g_if_le (tgt := 54) C dX12_is_35 (by decide) hf (fun hf => ?_) (fun hf => ?_)
      · refine g_iconst (v := 0) C dX12_is_54 (by decide) ?_
        obtain ⟨rfl, rfl⟩ := gs2 hf
        exact g_iret C dX12_is_55 hr hlk
      · refine g_aload_n C dX12_is_38 rfl rfl ?_
        refine g_iload_n C dX12_is_39 rfl rfl ?_
        obtain ⟨z3, hz3, hf⟩ := gbind hf ho
        refine g_callV C dX12_is_40 (m_X12_kindOf l X N _ _ _  (gLay.sub hL (by decide) (by decide)) _ z3.1 z3.2 hz3) gEin0 (cwV 1 C.2.2.2.2.1 gX12_is_X12_kindOf rfl rfl rfl (by decide +kernel) ⟨Nat.le_of_ble_eq_true rfl, Nat.le_of_ble_eq_true rfl⟩) (L91 hL (by decide) (by decide)) (by decide) rfl rfl rfl (Nat.le_of_ble_eq_true rfl) ⟨Nat.le_of_ble_eq_true rfl, Nat.le_of_ble_eq_true rfl⟩ ?_
        refine g_iload_n C dX12_is_43 rfl rfl ?_
        obtain ⟨z4, hz4, hf⟩ := gbind hf ho
        refine g_callS C dX12_is_44 (m_X12_isOf l X N _ _ _  (gLay.sub hL (by decide) (by decide)) _ _ z4 hz4) gEin0 (va_cwS 2 C.2.2.2.2.1 gX12_is_X12_isOf rfl rfl rfl (by decide +kernel) ⟨Nat.le_of_ble_eq_true rfl, Nat.le_of_ble_eq_true rfl⟩) rfl rfl (Nat.le_of_ble_eq_true rfl) ⟨Nat.le_of_ble_eq_true rfl, Nat.le_of_ble_eq_true rfl⟩ ?_
        refine g_if_eq (tgt := 54) C dX12_is_47 (by decide) hf (fun hf => ?_) (fun hf => ?_)
        · refine g_iconst (v := 0) C dX12_is_54 (by decide) ?_
          obtain ⟨rfl, rfl⟩ := gs2 hf
          exact g_iret C dX12_is_55 hr hlk
        · refine g_iconst (v := 1) C dX12_is_50 (by decide) ?_
          refine g_goto (tgt := 55) C dX12_is_51 (by decide) ?_
          obtain ⟨rfl, rfl⟩ := gs2 hf
          exact g_iret C dX12_is_55 hr hlk
    · refine g_ldc C k141 dX12_is_24 ?_
      refine g_goto (tgt := 55) C dX12_is_26 (by decide) ?_
      obtain ⟨rfl, rfl⟩ := gs2 hf
      exact g_iret C dX12_is_55 hr hlk
set_option maxRecDepth 100000 in
set_option maxHeartbeats 8000000 in
theorem m_X12_as (l : Launch) (X : gX) (N : Nat) (I : gI) (R : gR) (S : gS) (hL : gLay 91 114 R S) (a0 : Int32) (a1 : Int32) (v : Int32) (J : gI) (hf : f_X12_as N I R S a0 a1 = some (v, J)) : gM l yX12_as wsX12_as { frames := 5, cells := 0, slots := 0, locals := 116 } X gE0 [.ref (X.1 + 91), .int a0, .int a1] I R S (some (.int v)) J R S 0 0 := by
  unfold f_X12_as at hf
  refine gM_of (cc := cX12_as) (own := RX12) (maxL := 4) (ret := (some .int)) (by decide) rfl rfl (Nat.le_of_ble_eq_true rfl) ?_
  intro p e s m args below meth c C hr hlk hnm hE
  have ho : (some (v, J)) ≠ none := fun h => by cases h
  have f1 := C.2.2.2.2.1 (.fieldLink RX12 1 "TimesByPowersModel" "thrown" "I") (by decide +kernel)
  have c11 : gCl wsX12_as 11 RX12 TX12 29 := ⟨by decide, rfl, rfl, by decide +kernel⟩
  have k141 := C.2.2.2.2.1 (.constant RX12 141 (-1000001)) (by decide +kernel)
  have k191 := C.2.2.2.2.1 (.constantLong RX12 191 (4)) (by decide +kernel)
  have f70 := C.2.2.2.2.1 (.fieldLink RX12 70 "TimesByPowersModel" "rank" "[I") (by decide +kernel)
  refine g_aload_n C dX12_as_0 rfl rfl ?_
  refine g_iconst (v := 0) C dX12_as_1 (by decide) ?_
  refine g_putI (i := 0) (j := 0) C dX12_as_2 (L91 hL (by decide) (by decide)) c11 gy11 rfl f1 (fun _ h9 => h9) (Or.inl rfl) rfl ?_
  refine g_iload_n C dX12_as_5 rfl rfl ?_
  obtain ⟨z1, hz1, hf⟩ := gbind hf ho
  refine g_callS C dX12_as_6 (m_X12_isPlace l X N _ _ _  (gLay.sub hL (by decide) (by decide)) _ z1 hz1) gEin0 (va_cwS 1 C.2.2.2.2.1 gX12_as_X12_isPlace rfl rfl rfl (by decide +kernel) ⟨Nat.le_of_ble_eq_true rfl, Nat.le_of_ble_eq_true rfl⟩) rfl rfl (Nat.le_of_ble_eq_true rfl) ⟨Nat.le_of_ble_eq_true rfl, Nat.le_of_ble_eq_true rfl⟩ ?_
  refine g_if_eq (tgt := 24) C dX12_as_9 (by decide) hf (fun hf => ?_) (fun hf => ?_)
  · refine g_ldc C k141 dX12_as_24 ?_
    obtain ⟨rfl, rfl⟩ := gs2 hf
    exact g_iret C dX12_as_26 hr hlk
  · refine g_iload_n C dX12_as_12 rfl rfl ?_
    refine g_i2l C dX12_as_13 ?_
    refine g_lconst (v := 0) C dX12_as_14 (by decide) ?_
    refine g_ldc2 C k191 dX12_as_15 ?_
    obtain ⟨z2, hz2, hf⟩ := gbind hf ho
    refine g_callS C dX12_as_18 (m_X12_in l X N _ _ _  (gLay.sub hL (by decide) (by decide)) _ _ _ z2 hz2) gEin0 (va_cwS 3 C.2.2.2.2.1 gX12_as_X12_in rfl rfl rfl (by decide +kernel) ⟨Nat.le_of_ble_eq_true rfl, Nat.le_of_ble_eq_true rfl⟩) rfl rfl (Nat.le_of_ble_eq_true rfl) ⟨Nat.le_of_ble_eq_true rfl, Nat.le_of_ble_eq_true rfl⟩ ?_
    refine g_if_ne (tgt := 27) C dX12_as_21 (by decide) hf (fun hf => ?_) (fun hf => ?_)
    · refine g_aload_n C dX12_as_27 rfl rfl ?_
      refine g_iload_n C dX12_as_28 rfl rfl ?_
      obtain ⟨z3, hz3, hf⟩ := gbind hf ho
      refine g_callV C dX12_as_29 (m_X12_look l X N _ _ _  (gLay.sub hL (by decide) (by decide)) _ z3.1 z3.2 hz3) gEin0 (cwV 1 C.2.2.2.2.1 gX12_as_X12_look rfl rfl rfl (by decide +kernel) ⟨Nat.le_of_ble_eq_true rfl, Nat.le_of_ble_eq_true rfl⟩) (L91 hL (by decide) (by decide)) (by decide) rfl rfl rfl (Nat.le_of_ble_eq_true rfl) ⟨Nat.le_of_ble_eq_true rfl, Nat.le_of_ble_eq_true rfl⟩ ?_
      refine g_istore_n C dX12_as_32 rfl (Nat.le_of_ble_eq_true rfl) rfl rfl ?_
      refine g_iload_n C dX12_as_33 rfl rfl ?_
      refine g_if_ge (tgt := 41) C dX12_as_34 (by decide) hf (fun hf => ?_) (fun hf => ?_)
      · refine g_aload_n C dX12_as_41 rfl rfl ?_
        refine g_iload_n C dX12_as_42 rfl rfl ?_
        obtain ⟨z4, hz4, hf⟩ := gbind hf ho
        refine g_callV C dX12_as_43 (m_X12_kindOf l X N _ _ _  (gLay.sub hL (by decide) (by decide)) _ z4.1 z4.2 hz4) gEin0 (cwV 1 C.2.2.2.2.1 gX12_as_X12_kindOf rfl rfl rfl (by decide +kernel) ⟨Nat.le_of_ble_eq_true rfl, Nat.le_of_ble_eq_true rfl⟩) (L91 hL (by decide) (by decide)) (by decide) rfl rfl rfl (Nat.le_of_ble_eq_true rfl) ⟨Nat.le_of_ble_eq_true rfl, Nat.le_of_ble_eq_true rfl⟩ ?_
        refine g_iload_n C dX12_as_46 rfl rfl ?_
        obtain ⟨z5, hz5, hf⟩ := gbind hf ho
        refine g_callS C dX12_as_47 (m_X12_isOf l X N _ _ _  (gLay.sub hL (by decide) (by decide)) _ _ z5 hz5) gEin0 (va_cwS 2 C.2.2.2.2.1 gX12_as_X12_isOf rfl rfl rfl (by decide +kernel) ⟨Nat.le_of_ble_eq_true rfl, Nat.le_of_ble_eq_true rfl⟩) rfl rfl (Nat.le_of_ble_eq_true rfl) ⟨Nat.le_of_ble_eq_true rfl, Nat.le_of_ble_eq_true rfl⟩ ?_
        refine g_if_eq (tgt := 62) C dX12_as_50 (by decide) hf (fun hf => ?_) (fun hf => ?_)
        · refine g_aload_n C dX12_as_62 rfl rfl ?_
          refine g_iconst (v := 3) C dX12_as_63 (by decide) ?_
          obtain ⟨z6, hz6, hf⟩ := gbind hf ho
          refine g_callV C dX12_as_64 (m_X12_found l X N _ _ _  (gLay.sub hL (by decide) (by decide)) _ z6.1 z6.2 hz6) gEin0 (cwV 1 C.2.2.2.2.1 gX12_as_X12_found rfl rfl rfl (by decide +kernel) ⟨Nat.le_of_ble_eq_true rfl, Nat.le_of_ble_eq_true rfl⟩) (L91 hL (by decide) (by decide)) (by decide) rfl rfl rfl (Nat.le_of_ble_eq_true rfl) ⟨Nat.le_of_ble_eq_true rfl, Nat.le_of_ble_eq_true rfl⟩ ?_
          obtain ⟨rfl, rfl⟩ := gs2 hf
          exact g_iret C dX12_as_67 hr hlk
        · refine g_aload_n C dX12_as_53 rfl rfl ?_
          refine g_getR (i := 15) (j := 15) C dX12_as_54 (L91 hL (by decide) (by decide)) c11 rfl (by decide) f70 (fun _ h9 => h9) (LR91_15 hL (by decide) (by decide)) ?_
          refine g_iload_n C dX12_as_57 rfl rfl ?_
          refine g_iald C dX12_as_58 (L101 hL (by decide) (by decide)) ho hf (fun hf => ?_)
          refine g_goto (tgt := 67) C dX12_as_59 (by decide) ?_
          obtain ⟨rfl, rfl⟩ := gs2 hf
          exact g_iret C dX12_as_67 hr hlk
      · refine g_iload_n C dX12_as_37 rfl rfl ?_
        refine g_goto (tgt := 67) C dX12_as_38 (by decide) ?_
        obtain ⟨rfl, rfl⟩ := gs2 hf
        exact g_iret C dX12_as_67 hr hlk
    · refine g_ldc C k141 dX12_as_24 ?_
      obtain ⟨rfl, rfl⟩ := gs2 hf
      exact g_iret C dX12_as_26 hr hlk
set_option maxRecDepth 100000 in
set_option maxHeartbeats 8000000 in
theorem m_X12_began (l : Launch) (X : gX) (N : Nat) (I : gI) (R : gR) (S : gS) (hL : gLay 91 114 R S) (a0 : Int32) (J : gI) (hf : f_X12_began N I R S a0 = some J) : gM l yX12_began wsX12_began { frames := 0, cells := 0, slots := 0, locals := 0 } X gE0 [.ref (X.1 + 91), .int a0] I R S none J R S 0 0 := by
  unfold f_X12_began at hf
  refine gM_of (cc := cX12_began) (own := RX12) (maxL := 2) (ret := none) (by decide) rfl rfl (Nat.le_of_ble_eq_true rfl) ?_
  intro p e s m args below meth c C hr hlk hnm hE
  have ho : (some J) ≠ none := fun h => by cases h
  have f233 := C.2.2.2.2.1 (.fieldLink RX12 233 "TimesByPowersModel" "traced" "I") (by decide +kernel)
  have c11 : gCl wsX12_began 11 RX12 TX12 29 := ⟨by decide, rfl, rfl, by decide +kernel⟩
  have f106 := C.2.2.2.2.1 (.fieldLink RX12 106 "TimesByPowersModel" "trace" "[I") (by decide +kernel)
  refine g_aload_n C dX12_began_0 rfl rfl ?_
  refine g_getI (i := 28) (j := 28) C dX12_began_1 (L91 hL (by decide) (by decide)) c11 rfl f233 (fun _ h9 => h9) ?_
  refine g_bipush (v := 16) C dX12_began_4 (by decide) ?_
  refine g_icmp_ge (tgt := 29) C dX12_began_6 (by decide) hf (fun hf => ?_) (fun hf => ?_)
  · obtain rfl := gs1 hf
    exact g_vret C dX12_began_29 hr hlk
  · refine g_aload_n C dX12_began_9 rfl rfl ?_
    refine g_getR (i := 27) (j := 27) C dX12_began_10 (L91 hL (by decide) (by decide)) c11 rfl (by decide) f106 (fun _ h9 => h9) (LR91_27 hL (by decide) (by decide)) ?_
    refine g_aload_n C dX12_began_13 rfl rfl ?_
    refine g_getI (i := 28) (j := 28) C dX12_began_14 (L91 hL (by decide) (by decide)) c11 rfl f233 (fun _ h9 => h9) ?_
    refine g_iload_n C dX12_began_17 rfl rfl ?_
    refine g_iast C dX12_began_18 (L113 hL (by decide) (by decide)) ho hf (fun hf => ?_)
    refine g_aload_n C dX12_began_19 rfl rfl ?_
    refine g_dup C dX12_began_20 rfl ?_
    refine g_getI (i := 28) (j := 28) C dX12_began_21 (L91 hL (by decide) (by decide)) c11 rfl f233 (fun _ h9 => h9) ?_
    refine g_iconst (v := 1) C dX12_began_24 (by decide) ?_
    refine g_iadd C dX12_began_25 ?_
    refine g_putI (i := 28) (j := 28) C dX12_began_26 (L91 hL (by decide) (by decide)) c11 gy11 rfl f233 (fun _ h9 => h9) (Or.inl rfl) rfl ?_
    obtain rfl := gs1 hf
    exact g_vret C dX12_began_29 hr hlk
set_option maxRecDepth 100000 in
set_option maxHeartbeats 8000000 in
theorem m_X12_sized (l : Launch) (X : gX) (N : Nat) (I : gI) (R : gR) (S : gS) (hL : gLay 91 114 R S) (a0 : Int32) (a1 : Int32) (v : Int32) (J : gI) (hf : f_X12_sized N I R S a0 a1 = some (v, J)) : gM l yX12_sized wsX12_sized { frames := 1, cells := 0, slots := 0, locals := 21 } X gE0 [.ref (X.1 + 91), .int a0, .int a1] I R S (some (.int v)) J R S 0 0 := by
  unfold f_X12_sized at hf
  refine gM_of (cc := cX12_sized) (own := RX12) (maxL := 4) (ret := (some .int)) (by decide) rfl rfl (Nat.le_of_ble_eq_true rfl) ?_
  intro p e s m args below meth c C hr hlk hnm hE
  have ho : (some (v, J)) ≠ none := fun h => by cases h
  have f70 := C.2.2.2.2.1 (.fieldLink RX12 70 "TimesByPowersModel" "rank" "[I") (by decide +kernel)
  have c11 : gCl wsX12_sized 11 RX12 TX12 29 := ⟨by decide, rfl, rfl, by decide +kernel⟩
  have f73 := C.2.2.2.2.1 (.fieldLink RX12 73 "TimesByPowersModel" "t" "[I") (by decide +kernel)
  refine g_iload_n C dX12_sized_0 rfl rfl ?_
  refine g_iconst (v := 4) C dX12_sized_1 (by decide) ?_
  refine g_icmp_ne (tgt := 39) C dX12_sized_2 (by decide) hf (fun hf => ?_) (fun hf => ?_)
  · refine g_iload_n C dX12_sized_39 rfl rfl ?_
    refine g_iconst (v := 3) C dX12_sized_40 (by decide) ?_
    refine g_join (fun z1 => [(0, .ref (X.1 + 91)), (1, .int a0), (2, .int a1)]) (fun z1 => []) (fun z1 => z1) 50 hf ho (fun z1 hf => ?_) (fun o1 hf ho hkz1 => ?_)
    · refine g_iload_n C dX12_sized_50 rfl rfl ?_
      refine g_iconst (v := 2) C dX12_sized_51 (by decide) ?_
      obtain ⟨z3, hz3, hf⟩ := gbind hf ho
      refine g_callS C dX12_sized_52 (m_X12_isOf l X N _ _ _  (gLay.sub hL (by decide) (by decide)) _ _ z3 hz3) gEin0 (va_cwS 2 C.2.2.2.2.1 gX12_sized_X12_isOf rfl rfl rfl (by decide +kernel) ⟨Nat.le_of_ble_eq_true rfl, Nat.le_of_ble_eq_true rfl⟩) rfl rfl (Nat.le_of_ble_eq_true rfl) ⟨Nat.le_of_ble_eq_true rfl, Nat.le_of_ble_eq_true rfl⟩ ?_
      refine g_join (fun z4 => [(0, .ref (X.1 + 91)), (1, .int a0), (2, .int a1)]) (fun z4 => []) (fun z4 => z4) 64 hf ho (fun z4 hf => ?_) (fun o1 hf ho hkz4 => ?_)
      · refine g_aload_n C dX12_sized_64 rfl rfl ?_
        refine g_bipush (v := 10) C dX12_sized_65 (by decide) ?_
        obtain ⟨z6, hz6, hf⟩ := gbind hf ho
        refine g_callV C dX12_sized_67 (m_X12_began l X N _ _ _  (gLay.sub hL (by decide) (by decide)) _ z6 hz6) gEin0 (cwV 1 C.2.2.2.2.1 gX12_sized_X12_began rfl rfl rfl (by decide +kernel) ⟨Nat.le_of_ble_eq_true rfl, Nat.le_of_ble_eq_true rfl⟩) (L91 hL (by decide) (by decide)) (by decide) rfl rfl rfl (Nat.le_of_ble_eq_true rfl) ⟨Nat.le_of_ble_eq_true rfl, Nat.le_of_ble_eq_true rfl⟩ ?_
        refine g_aload_n C dX12_sized_70 rfl rfl ?_
        refine g_getR (i := 15) (j := 15) C dX12_sized_71 (L91 hL (by decide) (by decide)) c11 rfl (by decide) f70 (fun _ h9 => h9) (LR91_15 hL (by decide) (by decide)) ?_
        refine g_iload_n C dX12_sized_74 rfl rfl ?_
        refine g_iald C dX12_sized_75 (L101 hL (by decide) (by decide)) ho hf (fun hf => ?_)
        refine g_iload_n C dX12_sized_76 rfl rfl ?_
        refine g_iconst (v := 2) C dX12_sized_77 (by decide) ?_
        obtain ⟨z7, hz7, hf⟩ := gbind hf ho
        refine g_callS C dX12_sized_78 (m_X12_isOf l X N _ _ _  (gLay.sub hL (by decide) (by decide)) _ _ z7 hz7) gEin0 (va_cwS 2 C.2.2.2.2.1 gX12_sized_X12_isOf rfl rfl rfl (by decide +kernel) ⟨Nat.le_of_ble_eq_true rfl, Nat.le_of_ble_eq_true rfl⟩) rfl rfl (Nat.le_of_ble_eq_true rfl) ⟨Nat.le_of_ble_eq_true rfl, Nat.le_of_ble_eq_true rfl⟩ ?_
        refine g_join (fun z8 => [(2, .int a1)]) (fun z8 => [.int z8, .int (z6 101 a0.toNatClampNeg)]) (fun z8 => z6) 90 hf ho (fun z8 hf => ?_) (fun o1 hf ho hkz8 => ?_)
        · refine g_iadd C dX12_sized_90 ?_
          refine g_istore_n C dX12_sized_91 rfl (Nat.le_of_ble_eq_true rfl) rfl rfl ?_
          refine g_iload_n C dX12_sized_92 rfl rfl ?_
          refine g_iconst (v := 3) C dX12_sized_93 (by decide) ?_
          refine g_icmp_ne (tgt := 103) C dX12_sized_94 (by decide) hf (fun hf => ?_) (fun hf => ?_)
          · refine g_iload_n C dX12_sized_103 rfl rfl ?_
            obtain ⟨rfl, rfl⟩ := gs2 hf
            exact g_iret C dX12_sized_104 hr hlk
          · refine g_iconst (v := 2) C dX12_sized_97 (by decide) ?_
            refine g_iload_n C dX12_sized_98 rfl rfl ?_
            refine g_imul C dX12_sized_99 ?_
            refine g_goto (tgt := 104) C dX12_sized_100 (by decide) ?_
            obtain ⟨rfl, rfl⟩ := gs2 hf
            exact g_iret C dX12_sized_104 hr hlk
        · refine g_if_eq (tgt := 89) C dX12_sized_81 (by decide) hf (fun hf => ?_) (fun hf => ?_)
          · refine g_iconst (v := 0) C dX12_sized_89 (by decide) ?_
            have hx := hkz8 _ hf.symm
            refine g_sub ?_ hx
            exact (And.intro rfl trivial)
          · refine g_bipush (v := 10) C dX12_sized_84 (by decide) ?_
            refine g_goto (tgt := 90) C dX12_sized_86 (by decide) ?_
            have hx := hkz8 _ hf.symm
            refine g_sub ?_ hx
            exact (And.intro rfl trivial)
      · refine g_if_eq (tgt := 64) C dX12_sized_55 (by decide) hf (fun hf => ?_) (fun hf => ?_)
        · have hx := hkz4 _ hf.symm
          refine g_sub ?_ hx
          exact (And.intro rfl (And.intro rfl (And.intro rfl trivial)))
        · refine g_aload_n C dX12_sized_58 rfl rfl ?_
          refine g_bipush (v := 11) C dX12_sized_59 (by decide) ?_
          obtain ⟨z5, hz5, hf⟩ := gbind hf ho
          refine g_callV C dX12_sized_61 (m_X12_began l X N _ _ _  (gLay.sub hL (by decide) (by decide)) _ z5 hz5) gEin0 (cwV 1 C.2.2.2.2.1 gX12_sized_X12_began rfl rfl rfl (by decide +kernel) ⟨Nat.le_of_ble_eq_true rfl, Nat.le_of_ble_eq_true rfl⟩) (L91 hL (by decide) (by decide)) (by decide) rfl rfl rfl (Nat.le_of_ble_eq_true rfl) ⟨Nat.le_of_ble_eq_true rfl, Nat.le_of_ble_eq_true rfl⟩ ?_
          have hx := hkz4 _ hf.symm
          refine g_sub ?_ hx
          exact (And.intro rfl (And.intro rfl (And.intro rfl trivial)))
    · refine g_icmp_ne (tgt := 50) C dX12_sized_41 (by decide) hf (fun hf => ?_) (fun hf => ?_)
      · have hx := hkz1 _ hf.symm
        refine g_sub ?_ hx
        exact (And.intro rfl (And.intro rfl (And.intro rfl trivial)))
      · refine g_aload_n C dX12_sized_44 rfl rfl ?_
        refine g_bipush (v := 12) C dX12_sized_45 (by decide) ?_
        obtain ⟨z2, hz2, hf⟩ := gbind hf ho
        refine g_callV C dX12_sized_47 (m_X12_began l X N _ _ _  (gLay.sub hL (by decide) (by decide)) _ z2 hz2) gEin0 (cwV 1 C.2.2.2.2.1 gX12_sized_X12_began rfl rfl rfl (by decide +kernel) ⟨Nat.le_of_ble_eq_true rfl, Nat.le_of_ble_eq_true rfl⟩) (L91 hL (by decide) (by decide)) (by decide) rfl rfl rfl (Nat.le_of_ble_eq_true rfl) ⟨Nat.le_of_ble_eq_true rfl, Nat.le_of_ble_eq_true rfl⟩ ?_
        have hx := hkz1 _ hf.symm
        refine g_sub ?_ hx
        exact (And.intro rfl (And.intro rfl (And.intro rfl trivial)))
  · refine g_aload_n C dX12_sized_5 rfl rfl ?_
    refine g_bipush (v := 13) C dX12_sized_6 (by decide) ?_
    obtain ⟨z9, hz9, hf⟩ := gbind hf ho
    refine g_callV C dX12_sized_8 (m_X12_began l X N _ _ _  (gLay.sub hL (by decide) (by decide)) _ z9 hz9) gEin0 (cwV 1 C.2.2.2.2.1 gX12_sized_X12_began rfl rfl rfl (by decide +kernel) ⟨Nat.le_of_ble_eq_true rfl, Nat.le_of_ble_eq_true rfl⟩) (L91 hL (by decide) (by decide)) (by decide) rfl rfl rfl (Nat.le_of_ble_eq_true rfl) ⟨Nat.le_of_ble_eq_true rfl, Nat.le_of_ble_eq_true rfl⟩ ?_
    refine g_aload_n C dX12_sized_11 rfl rfl ?_
    refine g_bipush (v := 10) C dX12_sized_12 (by decide) ?_
    obtain ⟨z10, hz10, hf⟩ := gbind hf ho
    refine g_callV C dX12_sized_14 (m_X12_began l X N _ _ _  (gLay.sub hL (by decide) (by decide)) _ z10 hz10) gEin0 (cwV 1 C.2.2.2.2.1 gX12_sized_X12_began rfl rfl rfl (by decide +kernel) ⟨Nat.le_of_ble_eq_true rfl, Nat.le_of_ble_eq_true rfl⟩) (L91 hL (by decide) (by decide)) (by decide) rfl rfl rfl (Nat.le_of_ble_eq_true rfl) ⟨Nat.le_of_ble_eq_true rfl, Nat.le_of_ble_eq_true rfl⟩ ?_
    refine g_aload_n C dX12_sized_17 rfl rfl ?_
    refine g_bipush (v := 20) C dX12_sized_18 (by decide) ?_
    obtain ⟨z11, hz11, hf⟩ := gbind hf ho
    refine g_callV C dX12_sized_20 (m_X12_began l X N _ _ _  (gLay.sub hL (by decide) (by decide)) _ z11 hz11) gEin0 (cwV 1 C.2.2.2.2.1 gX12_sized_X12_began rfl rfl rfl (by decide +kernel) ⟨Nat.le_of_ble_eq_true rfl, Nat.le_of_ble_eq_true rfl⟩) (L91 hL (by decide) (by decide)) (by decide) rfl rfl rfl (Nat.le_of_ble_eq_true rfl) ⟨Nat.le_of_ble_eq_true rfl, Nat.le_of_ble_eq_true rfl⟩ ?_
    refine g_aload_n C dX12_sized_23 rfl rfl ?_
    refine g_getR (i := 15) (j := 15) C dX12_sized_24 (L91 hL (by decide) (by decide)) c11 rfl (by decide) f70 (fun _ h9 => h9) (LR91_15 hL (by decide) (by decide)) ?_
    refine g_iload_n C dX12_sized_27 rfl rfl ?_
    refine g_iald C dX12_sized_28 (L101 hL (by decide) (by decide)) ho hf (fun hf => ?_)
    refine g_aload_n C dX12_sized_29 rfl rfl ?_
    refine g_getR (i := 16) (j := 16) C dX12_sized_30 (L91 hL (by decide) (by decide)) c11 rfl (by decide) f73 (fun _ h9 => h9) (LR91_16 hL (by decide) (by decide)) ?_
    refine g_iconst (v := 4) C dX12_sized_33 (by decide) ?_
    refine g_iload_n C dX12_sized_34 rfl rfl ?_
    refine g_imul C dX12_sized_35 ?_
    refine g_iald C dX12_sized_36 (L102 hL (by decide) (by decide)) ho hf (fun hf => ?_)
    refine g_iadd C dX12_sized_37 ?_
    obtain ⟨rfl, rfl⟩ := gs2 hf
    exact g_iret C dX12_sized_38 hr hlk
set_option maxRecDepth 100000 in
set_option maxHeartbeats 8000000 in
theorem m_X12_signed (l : Launch) (X : gX) (N : Nat) (I : gI) (R : gR) (S : gS) (hL : gLay 91 114 R S) (a0 : Int32) (a1 : Int32) (v : Int32) (J : gI) (hf : f_X12_signed N I R S a0 a1 = some (v, J)) : gM l yX12_signed wsX12_signed { frames := 2, cells := 0, slots := 0, locals := 46 } X gE0 [.ref (X.1 + 91), .int a0, .int a1] I R S (some (.int v)) J R S 0 0 := by
  unfold f_X12_signed at hf
  refine gM_of (cc := cX12_signed) (own := RX12) (maxL := 3) (ret := (some .int)) (by decide) rfl rfl (Nat.le_of_ble_eq_true rfl) ?_
  intro p e s m args below meth c C hr hlk hnm hE
  have ho : (some (v, J)) ≠ none := fun h => by cases h
  have f73 := C.2.2.2.2.1 (.fieldLink RX12 73 "TimesByPowersModel" "t" "[I") (by decide +kernel)
  have c11 : gCl wsX12_signed 11 RX12 TX12 29 := ⟨by decide, rfl, rfl, by decide +kernel⟩
  refine g_iload_n C dX12_signed_0 rfl rfl ?_
  refine g_iconst (v := 1) C dX12_signed_1 (by decide) ?_
  refine g_icmp_ne (tgt := 33) C dX12_signed_2 (by decide) hf (fun hf => ?_) (fun hf => ?_)
  · refine g_iload_n C dX12_signed_33 rfl rfl ?_
    refine g_iconst (v := 3) C dX12_signed_34 (by decide) ?_
    refine g_join (fun z1 => [(0, .ref (X.1 + 91)), (1, .int a0), (2, .int a1)]) (fun z1 => []) (fun z1 => z1) 44 hf ho (fun z1 hf => ?_) (fun o1 hf ho hkz1 => ?_)
    · refine g_iload_n C dX12_signed_44 rfl rfl ?_
      refine g_iconst (v := 2) C dX12_signed_45 (by decide) ?_
      obtain ⟨z3, hz3, hf⟩ := gbind hf ho
      refine g_callS C dX12_signed_46 (m_X12_isOf l X N _ _ _  (gLay.sub hL (by decide) (by decide)) _ _ z3 hz3) gEin0 (va_cwS 2 C.2.2.2.2.1 gX12_signed_X12_isOf rfl rfl rfl (by decide +kernel) ⟨Nat.le_of_ble_eq_true rfl, Nat.le_of_ble_eq_true rfl⟩) rfl rfl (Nat.le_of_ble_eq_true rfl) ⟨Nat.le_of_ble_eq_true rfl, Nat.le_of_ble_eq_true rfl⟩ ?_
      refine g_join (fun z4 => [(0, .ref (X.1 + 91)), (1, .int a0), (2, .int a1)]) (fun z4 => []) (fun z4 => z4) 58 hf ho (fun z4 hf => ?_) (fun o1 hf ho hkz4 => ?_)
      · refine g_aload_n C dX12_signed_58 rfl rfl ?_
        refine g_bipush (v := 20) C dX12_signed_59 (by decide) ?_
        obtain ⟨z6, hz6, hf⟩ := gbind hf ho
        refine g_callV C dX12_signed_61 (m_X12_began l X N _ _ _  (gLay.sub hL (by decide) (by decide)) _ z6 hz6) gEin0 (cwV 1 C.2.2.2.2.1 gX12_signed_X12_began rfl rfl rfl (by decide +kernel) ⟨Nat.le_of_ble_eq_true rfl, Nat.le_of_ble_eq_true rfl⟩) (L91 hL (by decide) (by decide)) (by decide) rfl rfl rfl (Nat.le_of_ble_eq_true rfl) ⟨Nat.le_of_ble_eq_true rfl, Nat.le_of_ble_eq_true rfl⟩ ?_
        refine g_aload_n C dX12_signed_64 rfl rfl ?_
        refine g_getR (i := 16) (j := 16) C dX12_signed_65 (L91 hL (by decide) (by decide)) c11 rfl (by decide) f73 (fun _ h9 => h9) (LR91_16 hL (by decide) (by decide)) ?_
        refine g_iconst (v := 4) C dX12_signed_68 (by decide) ?_
        refine g_iload_n C dX12_signed_69 rfl rfl ?_
        refine g_imul C dX12_signed_70 ?_
        refine g_iald C dX12_signed_71 (L102 hL (by decide) (by decide)) ho hf (fun hf => ?_)
        refine g_iload_n C dX12_signed_72 rfl rfl ?_
        refine g_iconst (v := 2) C dX12_signed_73 (by decide) ?_
        obtain ⟨z7, hz7, hf⟩ := gbind hf ho
        refine g_callS C dX12_signed_74 (m_X12_isOf l X N _ _ _  (gLay.sub hL (by decide) (by decide)) _ _ z7 hz7) gEin0 (va_cwS 2 C.2.2.2.2.1 gX12_signed_X12_isOf rfl rfl rfl (by decide +kernel) ⟨Nat.le_of_ble_eq_true rfl, Nat.le_of_ble_eq_true rfl⟩) rfl rfl (Nat.le_of_ble_eq_true rfl) ⟨Nat.le_of_ble_eq_true rfl, Nat.le_of_ble_eq_true rfl⟩ ?_
        refine g_join (fun z8 => [(0, .ref (X.1 + 91)), (1, .int a0), (2, .int a1)]) (fun z8 => [.int z8, .int (z6 102 ((4 : Int32) * a0).toNatClampNeg)]) (fun z8 => z6) 89 hf ho (fun z8 hf => ?_) (fun o1 hf ho hkz8 => ?_)
        · refine g_iadd C dX12_signed_89 ?_
          refine g_iload_n C dX12_signed_90 rfl rfl ?_
          refine g_iconst (v := 3) C dX12_signed_91 (by decide) ?_
          refine g_icmp_ne (tgt := 103) C dX12_signed_92 (by decide) hf (fun hf => ?_) (fun hf => ?_)
          · refine g_iconst (v := 0) C dX12_signed_103 (by decide) ?_
            refine g_iadd C dX12_signed_104 ?_
            obtain ⟨rfl, rfl⟩ := gs2 hf
            exact g_iret C dX12_signed_105 hr hlk
          · refine g_aload_n C dX12_signed_95 rfl rfl ?_
            refine g_iload_n C dX12_signed_96 rfl rfl ?_
            obtain ⟨z10, hz10, hf⟩ := gbind hf ho
            refine g_callV C dX12_signed_97 (m_X12_degreeOfOwn l X N _ _ _  (gLay.sub hL (by decide) (by decide)) _ z10 hz10) gEin0 (cwV 1 C.2.2.2.2.1 gX12_signed_X12_degreeOfOwn rfl rfl rfl (by decide +kernel) ⟨Nat.le_of_ble_eq_true rfl, Nat.le_of_ble_eq_true rfl⟩) (L91 hL (by decide) (by decide)) (by decide) rfl rfl rfl (Nat.le_of_ble_eq_true rfl) ⟨Nat.le_of_ble_eq_true rfl, Nat.le_of_ble_eq_true rfl⟩ ?_
            refine g_goto (tgt := 104) C dX12_signed_100 (by decide) ?_
            refine g_iadd C dX12_signed_104 ?_
            obtain ⟨rfl, rfl⟩ := gs2 hf
            exact g_iret C dX12_signed_105 hr hlk
        · refine g_if_eq (tgt := 88) C dX12_signed_77 (by decide) hf (fun hf => ?_) (fun hf => ?_)
          · refine g_iconst (v := 0) C dX12_signed_88 (by decide) ?_
            have hx := hkz8 _ hf.symm
            refine g_sub ?_ hx
            exact (And.intro rfl (And.intro rfl (And.intro rfl trivial)))
          · refine g_aload_n C dX12_signed_80 rfl rfl ?_
            refine g_iload_n C dX12_signed_81 rfl rfl ?_
            obtain ⟨z9, hz9, hf⟩ := gbind hf ho
            refine g_callV C dX12_signed_82 (m_X12_markOf l X N _ _ _  (gLay.sub hL (by decide) (by decide)) _ z9 hz9) gEin0 (cwV 1 C.2.2.2.2.1 gX12_signed_X12_markOf rfl rfl rfl (by decide +kernel) ⟨Nat.le_of_ble_eq_true rfl, Nat.le_of_ble_eq_true rfl⟩) (L91 hL (by decide) (by decide)) (by decide) rfl rfl rfl (Nat.le_of_ble_eq_true rfl) ⟨Nat.le_of_ble_eq_true rfl, Nat.le_of_ble_eq_true rfl⟩ ?_
            refine g_goto (tgt := 89) C dX12_signed_85 (by decide) ?_
            have hx := hkz8 _ hf.symm
            refine g_sub ?_ hx
            exact (And.intro rfl (And.intro rfl (And.intro rfl trivial)))
      · refine g_if_eq (tgt := 58) C dX12_signed_49 (by decide) hf (fun hf => ?_) (fun hf => ?_)
        · have hx := hkz4 _ hf.symm
          refine g_sub ?_ hx
          exact (And.intro rfl (And.intro rfl (And.intro rfl trivial)))
        · refine g_aload_n C dX12_signed_52 rfl rfl ?_
          refine g_bipush (v := 21) C dX12_signed_53 (by decide) ?_
          obtain ⟨z5, hz5, hf⟩ := gbind hf ho
          refine g_callV C dX12_signed_55 (m_X12_began l X N _ _ _  (gLay.sub hL (by decide) (by decide)) _ z5 hz5) gEin0 (cwV 1 C.2.2.2.2.1 gX12_signed_X12_began rfl rfl rfl (by decide +kernel) ⟨Nat.le_of_ble_eq_true rfl, Nat.le_of_ble_eq_true rfl⟩) (L91 hL (by decide) (by decide)) (by decide) rfl rfl rfl (Nat.le_of_ble_eq_true rfl) ⟨Nat.le_of_ble_eq_true rfl, Nat.le_of_ble_eq_true rfl⟩ ?_
          have hx := hkz4 _ hf.symm
          refine g_sub ?_ hx
          exact (And.intro rfl (And.intro rfl (And.intro rfl trivial)))
    · refine g_icmp_ne (tgt := 44) C dX12_signed_35 (by decide) hf (fun hf => ?_) (fun hf => ?_)
      · have hx := hkz1 _ hf.symm
        refine g_sub ?_ hx
        exact (And.intro rfl (And.intro rfl (And.intro rfl trivial)))
      · refine g_aload_n C dX12_signed_38 rfl rfl ?_
        refine g_bipush (v := 22) C dX12_signed_39 (by decide) ?_
        obtain ⟨z2, hz2, hf⟩ := gbind hf ho
        refine g_callV C dX12_signed_41 (m_X12_began l X N _ _ _  (gLay.sub hL (by decide) (by decide)) _ z2 hz2) gEin0 (cwV 1 C.2.2.2.2.1 gX12_signed_X12_began rfl rfl rfl (by decide +kernel) ⟨Nat.le_of_ble_eq_true rfl, Nat.le_of_ble_eq_true rfl⟩) (L91 hL (by decide) (by decide)) (by decide) rfl rfl rfl (Nat.le_of_ble_eq_true rfl) ⟨Nat.le_of_ble_eq_true rfl, Nat.le_of_ble_eq_true rfl⟩ ?_
        have hx := hkz1 _ hf.symm
        refine g_sub ?_ hx
        exact (And.intro rfl (And.intro rfl (And.intro rfl trivial)))
  · refine g_aload_n C dX12_signed_5 rfl rfl ?_
    refine g_bipush (v := 23) C dX12_signed_6 (by decide) ?_
    obtain ⟨z11, hz11, hf⟩ := gbind hf ho
    refine g_callV C dX12_signed_8 (m_X12_began l X N _ _ _  (gLay.sub hL (by decide) (by decide)) _ z11 hz11) gEin0 (cwV 1 C.2.2.2.2.1 gX12_signed_X12_began rfl rfl rfl (by decide +kernel) ⟨Nat.le_of_ble_eq_true rfl, Nat.le_of_ble_eq_true rfl⟩) (L91 hL (by decide) (by decide)) (by decide) rfl rfl rfl (Nat.le_of_ble_eq_true rfl) ⟨Nat.le_of_ble_eq_true rfl, Nat.le_of_ble_eq_true rfl⟩ ?_
    refine g_aload_n C dX12_signed_11 rfl rfl ?_
    refine g_bipush (v := 20) C dX12_signed_12 (by decide) ?_
    obtain ⟨z12, hz12, hf⟩ := gbind hf ho
    refine g_callV C dX12_signed_14 (m_X12_began l X N _ _ _  (gLay.sub hL (by decide) (by decide)) _ z12 hz12) gEin0 (cwV 1 C.2.2.2.2.1 gX12_signed_X12_began rfl rfl rfl (by decide +kernel) ⟨Nat.le_of_ble_eq_true rfl, Nat.le_of_ble_eq_true rfl⟩) (L91 hL (by decide) (by decide)) (by decide) rfl rfl rfl (Nat.le_of_ble_eq_true rfl) ⟨Nat.le_of_ble_eq_true rfl, Nat.le_of_ble_eq_true rfl⟩ ?_
    refine g_aload_n C dX12_signed_17 rfl rfl ?_
    refine g_getR (i := 16) (j := 16) C dX12_signed_18 (L91 hL (by decide) (by decide)) c11 rfl (by decide) f73 (fun _ h9 => h9) (LR91_16 hL (by decide) (by decide)) ?_
    refine g_iconst (v := 4) C dX12_signed_21 (by decide) ?_
    refine g_iload_n C dX12_signed_22 rfl rfl ?_
    refine g_imul C dX12_signed_23 ?_
    refine g_iald C dX12_signed_24 (L102 hL (by decide) (by decide)) ho hf (fun hf => ?_)
    refine g_aload_n C dX12_signed_25 rfl rfl ?_
    refine g_iload_n C dX12_signed_26 rfl rfl ?_
    refine g_iload_n C dX12_signed_27 rfl rfl ?_
    obtain ⟨z13, hz13, hf⟩ := gbind hf ho
    refine g_callV C dX12_signed_28 (m_X12_sized l X N _ _ _  (gLay.sub hL (by decide) (by decide)) _ _ z13.1 z13.2 hz13) gEin0 (cwV 2 C.2.2.2.2.1 gX12_signed_X12_sized rfl rfl rfl (by decide +kernel) ⟨Nat.le_of_ble_eq_true rfl, Nat.le_of_ble_eq_true rfl⟩) (L91 hL (by decide) (by decide)) (by decide) rfl rfl rfl (Nat.le_of_ble_eq_true rfl) ⟨Nat.le_of_ble_eq_true rfl, Nat.le_of_ble_eq_true rfl⟩ ?_
    refine g_iadd C dX12_signed_31 ?_
    obtain ⟨rfl, rfl⟩ := gs2 hf
    exact g_iret C dX12_signed_32 hr hlk
set_option maxRecDepth 100000 in
set_option maxHeartbeats 8000000 in
theorem m_X12_ask (l : Launch) (X : gX) (N : Nat) (I : gI) (R : gR) (S : gS) (hL : gLay 91 114 R S) (a0 : Int32) (a1 : Int32) (v : Int32) (J : gI) (hf : f_X12_ask N I R S a0 a1 = some (v, J)) : gM l yX12_ask wsX12_ask { frames := 5, cells := 0, slots := 0, locals := 116 } X gE0 [.ref (X.1 + 91), .int a0, .int a1] I R S (some (.int v)) J R S 0 0 := by
  unfold f_X12_ask at hf
  refine gM_of (cc := cX12_ask) (own := RX12) (maxL := 4) (ret := (some .int)) (by decide) rfl rfl (Nat.le_of_ble_eq_true rfl) ?_
  intro p e s m args below meth c C hr hlk hnm hE
  have ho : (some (v, J)) ≠ none := fun h => by cases h
  have f1 := C.2.2.2.2.1 (.fieldLink RX12 1 "TimesByPowersModel" "thrown" "I") (by decide +kernel)
  have c11 : gCl wsX12_ask 11 RX12 TX12 29 := ⟨by decide, rfl, rfl, by decide +kernel⟩
  have k141 := C.2.2.2.2.1 (.constant RX12 141 (-1000001)) (by decide +kernel)
  have f233 := C.2.2.2.2.1 (.fieldLink RX12 233 "TimesByPowersModel" "traced" "I") (by decide +kernel)
  refine g_aload_n C dX12_ask_0 rfl rfl ?_
  refine g_iconst (v := 0) C dX12_ask_1 (by decide) ?_
  refine g_putI (i := 0) (j := 0) C dX12_ask_2 (L91 hL (by decide) (by decide)) c11 gy11 rfl f1 (fun _ h9 => h9) (Or.inl rfl) rfl ?_
  refine g_iload_n C dX12_ask_5 rfl rfl ?_
  obtain ⟨z1, hz1, hf⟩ := gbind hf ho
  refine g_callS C dX12_ask_6 (m_X12_isPlace l X N _ _ _  (gLay.sub hL (by decide) (by decide)) _ z1 hz1) gEin0 (va_cwS 1 C.2.2.2.2.1 gX12_ask_X12_isPlace rfl rfl rfl (by decide +kernel) ⟨Nat.le_of_ble_eq_true rfl, Nat.le_of_ble_eq_true rfl⟩) rfl rfl (Nat.le_of_ble_eq_true rfl) ⟨Nat.le_of_ble_eq_true rfl, Nat.le_of_ble_eq_true rfl⟩ ?_
  refine g_if_eq (tgt := 22) C dX12_ask_9 (by decide) hf (fun hf => ?_) (fun hf => ?_)
  · refine g_ldc C k141 dX12_ask_22 ?_
    obtain ⟨rfl, rfl⟩ := gs2 hf
    exact g_iret C dX12_ask_24 hr hlk
  · refine g_iload_n C dX12_ask_12 rfl rfl ?_
    refine g_i2l C dX12_ask_13 ?_
    refine g_lconst (v := 0) C dX12_ask_14 (by decide) ?_
    refine g_lconst (v := 1) C dX12_ask_15 (by decide) ?_
    obtain ⟨z2, hz2, hf⟩ := gbind hf ho
    refine g_callS C dX12_ask_16 (m_X12_in l X N _ _ _  (gLay.sub hL (by decide) (by decide)) _ _ _ z2 hz2) gEin0 (va_cwS 3 C.2.2.2.2.1 gX12_ask_X12_in rfl rfl rfl (by decide +kernel) ⟨Nat.le_of_ble_eq_true rfl, Nat.le_of_ble_eq_true rfl⟩) rfl rfl (Nat.le_of_ble_eq_true rfl) ⟨Nat.le_of_ble_eq_true rfl, Nat.le_of_ble_eq_true rfl⟩ ?_
    refine g_if_ne (tgt := 25) C dX12_ask_19 (by decide) hf (fun hf => ?_) (fun hf => ?_)
    · refine g_aload_n C dX12_ask_25 rfl rfl ?_
      refine g_iconst (v := 0) C dX12_ask_26 (by decide) ?_
      refine g_putI (i := 28) (j := 28) C dX12_ask_27 (L91 hL (by decide) (by decide)) c11 gy11 rfl f233 (fun _ h9 => h9) (Or.inl rfl) rfl ?_
      refine g_aload_n C dX12_ask_30 rfl rfl ?_
      refine g_iload_n C dX12_ask_31 rfl rfl ?_
      obtain ⟨z3, hz3, hf⟩ := gbind hf ho
      refine g_callV C dX12_ask_32 (m_X12_look l X N _ _ _  (gLay.sub hL (by decide) (by decide)) _ z3.1 z3.2 hz3) gEin0 (cwV 1 C.2.2.2.2.1 gX12_ask_X12_look rfl rfl rfl (by decide +kernel) ⟨Nat.le_of_ble_eq_true rfl, Nat.le_of_ble_eq_true rfl⟩) (L91 hL (by decide) (by decide)) (by decide) rfl rfl rfl (Nat.le_of_ble_eq_true rfl) ⟨Nat.le_of_ble_eq_true rfl, Nat.le_of_ble_eq_true rfl⟩ ?_
      refine g_istore_n C dX12_ask_35 rfl (Nat.le_of_ble_eq_true rfl) rfl rfl ?_
      refine g_iload_n C dX12_ask_36 rfl rfl ?_
      refine g_if_ge (tgt := 44) C dX12_ask_37 (by decide) hf (fun hf => ?_) (fun hf => ?_)
      · refine g_iload_n C dX12_ask_44 rfl rfl ?_
        refine g_if_ne (tgt := 61) C dX12_ask_45 (by decide) hf (fun hf => ?_) (fun hf => ?_)
        · refine g_aload_n C dX12_ask_61 rfl rfl ?_
          refine g_iload_n C dX12_ask_62 rfl rfl ?_
          refine g_aload_n C dX12_ask_63 rfl rfl ?_
          refine g_iload_n C dX12_ask_64 rfl rfl ?_
          obtain ⟨z4, hz4, hf⟩ := gbind hf ho
          refine g_callV C dX12_ask_65 (m_X12_kindOf l X N _ _ _  (gLay.sub hL (by decide) (by decide)) _ z4.1 z4.2 hz4) gEin0 (cwV 1 C.2.2.2.2.1 gX12_ask_X12_kindOf rfl rfl rfl (by decide +kernel) ⟨Nat.le_of_ble_eq_true rfl, Nat.le_of_ble_eq_true rfl⟩) (L91 hL (by decide) (by decide)) (by decide) rfl rfl rfl (Nat.le_of_ble_eq_true rfl) ⟨Nat.le_of_ble_eq_true rfl, Nat.le_of_ble_eq_true rfl⟩ ?_
          obtain ⟨z5, hz5, hf⟩ := gbind hf ho
          refine g_callV C dX12_ask_68 (m_X12_signed l X N _ _ _  (gLay.sub hL (by decide) (by decide)) _ _ z5.1 z5.2 hz5) gEin0 (cwV 2 C.2.2.2.2.1 gX12_ask_X12_signed rfl rfl rfl (by decide +kernel) ⟨Nat.le_of_ble_eq_true rfl, Nat.le_of_ble_eq_true rfl⟩) (L91 hL (by decide) (by decide)) (by decide) rfl rfl rfl (Nat.le_of_ble_eq_true rfl) ⟨Nat.le_of_ble_eq_true rfl, Nat.le_of_ble_eq_true rfl⟩ ?_
          obtain ⟨rfl, rfl⟩ := gs2 hf
          exact g_iret C dX12_ask_71 hr hlk
        · refine g_aload_n C dX12_ask_48 rfl rfl ?_
          refine g_iload_n C dX12_ask_49 rfl rfl ?_
          refine g_aload_n C dX12_ask_50 rfl rfl ?_
          refine g_iload_n C dX12_ask_51 rfl rfl ?_
          obtain ⟨z6, hz6, hf⟩ := gbind hf ho
          refine g_callV C dX12_ask_52 (m_X12_kindOf l X N _ _ _  (gLay.sub hL (by decide) (by decide)) _ z6.1 z6.2 hz6) gEin0 (cwV 1 C.2.2.2.2.1 gX12_ask_X12_kindOf rfl rfl rfl (by decide +kernel) ⟨Nat.le_of_ble_eq_true rfl, Nat.le_of_ble_eq_true rfl⟩) (L91 hL (by decide) (by decide)) (by decide) rfl rfl rfl (Nat.le_of_ble_eq_true rfl) ⟨Nat.le_of_ble_eq_true rfl, Nat.le_of_ble_eq_true rfl⟩ ?_
          obtain ⟨z7, hz7, hf⟩ := gbind hf ho
          refine g_callV C dX12_ask_55 (m_X12_sized l X N _ _ _  (gLay.sub hL (by decide) (by decide)) _ _ z7.1 z7.2 hz7) gEin0 (cwV 2 C.2.2.2.2.1 gX12_ask_X12_sized rfl rfl rfl (by decide +kernel) ⟨Nat.le_of_ble_eq_true rfl, Nat.le_of_ble_eq_true rfl⟩) (L91 hL (by decide) (by decide)) (by decide) rfl rfl rfl (Nat.le_of_ble_eq_true rfl) ⟨Nat.le_of_ble_eq_true rfl, Nat.le_of_ble_eq_true rfl⟩ ?_
          refine g_goto (tgt := 71) C dX12_ask_58 (by decide) ?_
          obtain ⟨rfl, rfl⟩ := gs2 hf
          exact g_iret C dX12_ask_71 hr hlk
      · refine g_iload_n C dX12_ask_40 rfl rfl ?_
        refine g_goto (tgt := 71) C dX12_ask_41 (by decide) ?_
        obtain ⟨rfl, rfl⟩ := gs2 hf
        exact g_iret C dX12_ask_71 hr hlk
    · refine g_ldc C k141 dX12_ask_22 ?_
      obtain ⟨rfl, rfl⟩ := gs2 hf
      exact g_iret C dX12_ask_24 hr hlk
set_option maxRecDepth 100000 in
set_option maxHeartbeats 8000000 in
theorem m_X12_trace (l : Launch) (X : gX) (N : Nat) (I : gI) (R : gR) (S : gS) (hL : gLay 91 114 R S) (a0 : Int32) (v : Int32) (J : gI) (hf : f_X12_trace N I R S a0 = some (v, J)) : gM l yX12_trace wsX12_trace { frames := 1, cells := 0, slots := 0, locals := 25 } X gE0 [.ref (X.1 + 91), .int a0] I R S (some (.int v)) J R S 0 0 := by
  unfold f_X12_trace at hf
  refine gM_of (cc := cX12_trace) (own := RX12) (maxL := 2) (ret := (some .int)) (by decide) rfl rfl (Nat.le_of_ble_eq_true rfl) ?_
  intro p e s m args below meth c C hr hlk hnm hE
  have ho : (some (v, J)) ≠ none := fun h => by cases h
  have f1 := C.2.2.2.2.1 (.fieldLink RX12 1 "TimesByPowersModel" "thrown" "I") (by decide +kernel)
  have c11 : gCl wsX12_trace 11 RX12 TX12 29 := ⟨by decide, rfl, rfl, by decide +kernel⟩
  have f233 := C.2.2.2.2.1 (.fieldLink RX12 233 "TimesByPowersModel" "traced" "I") (by decide +kernel)
  have k142 := C.2.2.2.2.1 (.constant RX12 142 (-1000000)) (by decide +kernel)
  have f106 := C.2.2.2.2.1 (.fieldLink RX12 106 "TimesByPowersModel" "trace" "[I") (by decide +kernel)
  refine g_aload_n C dX12_trace_0 rfl rfl ?_
  refine g_iconst (v := 0) C dX12_trace_1 (by decide) ?_
  refine g_putI (i := 0) (j := 0) C dX12_trace_2 (L91 hL (by decide) (by decide)) c11 gy11 rfl f1 (fun _ h9 => h9) (Or.inl rfl) rfl ?_
  refine g_iload_n C dX12_trace_5 rfl rfl ?_
  refine g_i2l C dX12_trace_6 ?_
  refine g_lconst (v := 0) C dX12_trace_7 (by decide) ?_
  refine g_aload_n C dX12_trace_8 rfl rfl ?_
  refine g_getI (i := 28) (j := 28) C dX12_trace_9 (L91 hL (by decide) (by decide)) c11 rfl f233 (fun _ h9 => h9) ?_
  refine g_iconst (v := 1) C dX12_trace_12 (by decide) ?_
  refine g_isub C dX12_trace_13 ?_
  refine g_i2l C dX12_trace_14 ?_
  obtain ⟨z1, hz1, hf⟩ := gbind hf ho
  refine g_callS C dX12_trace_15 (m_X12_in l X N _ _ _  (gLay.sub hL (by decide) (by decide)) _ _ _ z1 hz1) gEin0 (va_cwS 3 C.2.2.2.2.1 gX12_trace_X12_in rfl rfl rfl (by decide +kernel) ⟨Nat.le_of_ble_eq_true rfl, Nat.le_of_ble_eq_true rfl⟩) rfl rfl (Nat.le_of_ble_eq_true rfl) ⟨Nat.le_of_ble_eq_true rfl, Nat.le_of_ble_eq_true rfl⟩ ?_
  refine g_if_eq (tgt := 30) C dX12_trace_18 (by decide) hf (fun hf => ?_) (fun hf => ?_)
  · refine g_ldc C k142 dX12_trace_30 ?_
    obtain ⟨rfl, rfl⟩ := gs2 hf
    exact g_iret C dX12_trace_32 hr hlk
  · refine g_aload_n C dX12_trace_21 rfl rfl ?_
    refine g_getR (i := 27) (j := 27) C dX12_trace_22 (L91 hL (by decide) (by decide)) c11 rfl (by decide) f106 (fun _ h9 => h9) (LR91_27 hL (by decide) (by decide)) ?_
    refine g_iload_n C dX12_trace_25 rfl rfl ?_
    refine g_iald C dX12_trace_26 (L113 hL (by decide) (by decide)) ho hf (fun hf => ?_)
    refine g_goto (tgt := 32) C dX12_trace_27 (by decide) ?_
    obtain ⟨rfl, rfl⟩ := gs2 hf
    exact g_iret C dX12_trace_32 hr hlk
set_option maxRecDepth 100000 in
set_option maxHeartbeats 8000000 in
theorem m_X12_count (l : Launch) (X : gX) (N : Nat) (I : gI) (R : gR) (S : gS) (hL : gLay 91 114 R S) (a0 : Int32) (v : Int32) (J : gI) (hf : f_X12_count N I R S a0 = some (v, J)) : gM l yX12_count wsX12_count { frames := 5, cells := 0, slots := 0, locals := 116 } X gE0 [.ref (X.1 + 91), .int a0] I R S (some (.int v)) J R S 0 0 := by
  unfold f_X12_count at hf
  refine gM_of (cc := cX12_count) (own := RX12) (maxL := 4) (ret := (some .int)) (by decide) rfl rfl (Nat.le_of_ble_eq_true rfl) ?_
  intro p e s m args below meth c C hr hlk hnm hE
  have ho : (some (v, J)) ≠ none := fun h => by cases h
  have f1 := C.2.2.2.2.1 (.fieldLink RX12 1 "TimesByPowersModel" "thrown" "I") (by decide +kernel)
  have c11 : gCl wsX12_count 11 RX12 TX12 29 := ⟨by decide, rfl, rfl, by decide +kernel⟩
  have f61 := C.2.2.2.2.1 (.fieldLink RX12 61 "TimesByPowersModel" "lane" "[I") (by decide +kernel)
  have f70 := C.2.2.2.2.1 (.fieldLink RX12 70 "TimesByPowersModel" "rank" "[I") (by decide +kernel)
  have f109 := C.2.2.2.2.1 (.fieldLink RX12 109 "TimesByPowersModel" "q" "I") (by decide +kernel)
  have f39 := C.2.2.2.2.1 (.fieldLink RX12 39 "TimesByPowersModel" "modulus" "I") (by decide +kernel)
  have k141 := C.2.2.2.2.1 (.constant RX12 141 (-1000001)) (by decide +kernel)
  refine g_aload_n C dX12_count_0 rfl rfl ?_
  refine g_iconst (v := 0) C dX12_count_1 (by decide) ?_
  refine g_putI (i := 0) (j := 0) C dX12_count_2 (L91 hL (by decide) (by decide)) c11 gy11 rfl f1 (fun _ h9 => h9) (Or.inl rfl) rfl ?_
  refine g_iconst (v := 0) C dX12_count_5 (by decide) ?_
  refine g_istore_n C dX12_count_6 rfl (Nat.le_of_ble_eq_true rfl) rfl rfl ?_
  refine g_iload_n C dX12_count_7 rfl rfl ?_
  by_cases ht1_0 : a0 = (0 : Int32)
  · rw [if_pos ht1_0] at hf
    refine g_tabC (v := (0 : Int32)) (tgt := 56) C dX12_count_8 ht1_0 (by decide) (by decide) rfl (by decide) ?_
    refine g_iconst (v := 0) C dX12_count_56 (by decide) ?_
    refine g_istore_n C dX12_count_57 rfl (Nat.le_of_ble_eq_true rfl) rfl rfl ?_
    refine g_loop (fun z2 => [(0, .ref (X.1 + 91)), (2, .int z2.1), (3, .int z2.2)]) (fun z2 => gU I 91 0 (0 : Int32)) (fun r3 => [(2, .int r3)]) (fun r3 => gU I 91 0 (0 : Int32)) 87 hf ho (And.intro rfl (And.intro rfl (And.intro rfl trivial))) rfl (fun r3 hf => ?_) (fun z2 o1 hf ho hkz2 hez2 => ?_)
    · refine g_iload_n C dX12_count_87 rfl rfl ?_
      obtain ⟨rfl, rfl⟩ := gs2 hf
      exact g_iret C dX12_count_88 hr hlk
    · refine g_iload_n C dX12_count_58 rfl rfl ?_
      refine g_bipush (v := 8) C dX12_count_59 (by decide) ?_
      refine g_icmp_ge (tgt := 87) C dX12_count_61 (by decide) hf (fun hf => ?_) (fun hf => ?_)
      · have hx := hez2 _ hf.symm
        refine g_sub ?_ hx
        exact (And.intro rfl trivial)
      · refine g_iload_n C dX12_count_64 rfl rfl ?_
        refine g_aload_n C dX12_count_65 rfl rfl ?_
        refine g_getR (i := 12) (j := 12) C dX12_count_66 (L91 hL (by decide) (by decide)) c11 rfl (by decide) f61 (fun _ h9 => h9) (LR91_12 hL (by decide) (by decide)) ?_
        refine g_iload_n C dX12_count_69 rfl rfl ?_
        refine g_iald C dX12_count_70 (L98 hL (by decide) (by decide)) ho hf (fun hf => ?_)
        refine g_if_lt (tgt := 78) C dX12_count_71 (by decide) hf (fun hf => ?_) (fun hf => ?_)
        · refine g_iconst (v := 0) C dX12_count_78 (by decide) ?_
          refine g_iadd C dX12_count_79 ?_
          refine g_istore_n C dX12_count_80 rfl (Nat.le_of_ble_eq_true rfl) rfl rfl ?_
          refine g_iinc (d := 1) C dX12_count_81 rfl (by decide) rfl (Nat.le_of_ble_eq_true rfl) rfl rfl ?_
          refine g_goto (tgt := 58) C dX12_count_84 (by decide) ?_
          have hx := hkz2 _ hf.symm
          refine g_sub ?_ hx
          exact (And.intro rfl (And.intro rfl (And.intro rfl trivial)))
        · refine g_iconst (v := 1) C dX12_count_74 (by decide) ?_
          refine g_goto (tgt := 79) C dX12_count_75 (by decide) ?_
          refine g_iadd C dX12_count_79 ?_
          refine g_istore_n C dX12_count_80 rfl (Nat.le_of_ble_eq_true rfl) rfl rfl ?_
          refine g_iinc (d := 1) C dX12_count_81 rfl (by decide) rfl (Nat.le_of_ble_eq_true rfl) rfl rfl ?_
          refine g_goto (tgt := 58) C dX12_count_84 (by decide) ?_
          have hx := hkz2 _ hf.symm
          refine g_sub ?_ hx
          exact (And.intro rfl (And.intro rfl (And.intro rfl trivial)))
  · rw [if_neg ht1_0] at hf
    by_cases ht1_1 : a0 = (1 : Int32)
    · rw [if_pos ht1_1] at hf
      refine g_tabC (v := (1 : Int32)) (tgt := 89) C dX12_count_8 ht1_1 (by decide) (by decide) rfl (by decide) ?_
      refine g_iconst (v := 0) C dX12_count_89 (by decide) ?_
      refine g_istore_n C dX12_count_90 rfl (Nat.le_of_ble_eq_true rfl) rfl rfl ?_
      refine g_loop (fun z4 => [(0, .ref (X.1 + 91)), (1, .int a0), (2, .int z4.1), (3, .int z4.2.1)]) (fun z4 => z4.2.2) (fun r5 => [(2, .int r5.1)]) (fun r5 => r5.2) 134 hf ho (And.intro rfl (And.intro rfl (And.intro rfl (And.intro rfl trivial)))) rfl (fun r5 hf => ?_) (fun z4 o1 hf ho hkz4 hez4 => ?_)
      · refine g_iload_n C dX12_count_134 rfl rfl ?_
        obtain ⟨rfl, rfl⟩ := gs2 hf
        exact g_iret C dX12_count_135 hr hlk
      · refine g_iload_n C dX12_count_91 rfl rfl ?_
        refine g_bipush (v := 10) C dX12_count_92 (by decide) ?_
        refine g_icmp_ge (tgt := 134) C dX12_count_94 (by decide) hf (fun hf => ?_) (fun hf => ?_)
        · have hx := hez4 _ hf.symm
          refine g_sub ?_ hx
          exact (And.intro rfl trivial)
        · refine g_iload_n C dX12_count_97 rfl rfl ?_
          refine g_aload_n C dX12_count_98 rfl rfl ?_
          refine g_getR (i := 15) (j := 15) C dX12_count_99 (L91 hL (by decide) (by decide)) c11 rfl (by decide) f70 (fun _ h9 => h9) (LR91_15 hL (by decide) (by decide)) ?_
          refine g_iload_n C dX12_count_102 rfl rfl ?_
          refine g_iald C dX12_count_103 (L101 hL (by decide) (by decide)) ho hf (fun hf => ?_)
          refine g_if_le (tgt := 125) C dX12_count_104 (by decide) hf (fun hf => ?_) (fun hf => ?_)
          · refine g_iconst (v := 0) C dX12_count_125 (by decide) ?_
            refine g_iadd C dX12_count_126 ?_
            refine g_istore_n C dX12_count_127 rfl (Nat.le_of_ble_eq_true rfl) rfl rfl ?_
            refine g_iinc (d := 1) C dX12_count_128 rfl (by decide) rfl (Nat.le_of_ble_eq_true rfl) rfl rfl ?_
            refine g_goto (tgt := 91) C dX12_count_131 (by decide) ?_
            have hx := hkz4 _ hf.symm
            refine g_sub ?_ hx
            exact (And.intro rfl (And.intro rfl (And.intro rfl (And.intro rfl trivial))))
          · refine g_aload_n C dX12_count_107 rfl rfl ?_
            refine g_iload_n C dX12_count_108 rfl rfl ?_
            obtain ⟨z6, hz6, hf⟩ := gbind hf ho
            refine g_callV C dX12_count_109 (m_X12_kindOf l X N _ _ _  (gLay.sub hL (by decide) (by decide)) _ z6.1 z6.2 hz6) gEin0 (cwV 1 C.2.2.2.2.1 gX12_count_X12_kindOf rfl rfl rfl (by decide +kernel) ⟨Nat.le_of_ble_eq_true rfl, Nat.le_of_ble_eq_true rfl⟩) (L91 hL (by decide) (by decide)) (by decide) rfl rfl rfl (Nat.le_of_ble_eq_true rfl) ⟨Nat.le_of_ble_eq_true rfl, Nat.le_of_ble_eq_true rfl⟩ ?_
            refine g_iload_n C dX12_count_112 rfl rfl ?_
            refine g_iconst (v := 1) C dX12_count_113 (by decide) ?_
            refine g_isub C dX12_count_114 ?_
            obtain ⟨z7, hz7, hf⟩ := gbind hf ho
            refine g_callS C dX12_count_115 (m_X12_isOf l X N _ _ _  (gLay.sub hL (by decide) (by decide)) _ _ z7 hz7) gEin0 (va_cwS 2 C.2.2.2.2.1 gX12_count_X12_isOf rfl rfl rfl (by decide +kernel) ⟨Nat.le_of_ble_eq_true rfl, Nat.le_of_ble_eq_true rfl⟩) rfl rfl (Nat.le_of_ble_eq_true rfl) ⟨Nat.le_of_ble_eq_true rfl, Nat.le_of_ble_eq_true rfl⟩ ?_
            refine g_if_eq (tgt := 125) C dX12_count_118 (by decide) hf (fun hf => ?_) (fun hf => ?_)
            · refine g_iconst (v := 0) C dX12_count_125 (by decide) ?_
              refine g_iadd C dX12_count_126 ?_
              refine g_istore_n C dX12_count_127 rfl (Nat.le_of_ble_eq_true rfl) rfl rfl ?_
              refine g_iinc (d := 1) C dX12_count_128 rfl (by decide) rfl (Nat.le_of_ble_eq_true rfl) rfl rfl ?_
              refine g_goto (tgt := 91) C dX12_count_131 (by decide) ?_
              have hx := hkz4 _ hf.symm
              refine g_sub ?_ hx
              exact (And.intro rfl (And.intro rfl (And.intro rfl (And.intro rfl trivial))))
            · refine g_iconst (v := 1) C dX12_count_121 (by decide) ?_
              refine g_goto (tgt := 126) C dX12_count_122 (by decide) ?_
              refine g_iadd C dX12_count_126 ?_
              refine g_istore_n C dX12_count_127 rfl (Nat.le_of_ble_eq_true rfl) rfl rfl ?_
              refine g_iinc (d := 1) C dX12_count_128 rfl (by decide) rfl (Nat.le_of_ble_eq_true rfl) rfl rfl ?_
              refine g_goto (tgt := 91) C dX12_count_131 (by decide) ?_
              have hx := hkz4 _ hf.symm
              refine g_sub ?_ hx
              exact (And.intro rfl (And.intro rfl (And.intro rfl (And.intro rfl trivial))))
    · rw [if_neg ht1_1] at hf
      by_cases ht1_2 : a0 = (2 : Int32)
      · rw [if_pos ht1_2] at hf
        refine g_tabC (v := (2 : Int32)) (tgt := 89) C dX12_count_8 ht1_2 (by decide) (by decide) rfl (by decide) ?_
        refine g_iconst (v := 0) C dX12_count_89 (by decide) ?_
        refine g_istore_n C dX12_count_90 rfl (Nat.le_of_ble_eq_true rfl) rfl rfl ?_
        refine g_loop (fun z8 => [(0, .ref (X.1 + 91)), (1, .int a0), (2, .int z8.1), (3, .int z8.2.1)]) (fun z8 => z8.2.2) (fun r9 => [(2, .int r9.1)]) (fun r9 => r9.2) 134 hf ho (And.intro rfl (And.intro rfl (And.intro rfl (And.intro rfl trivial)))) rfl (fun r9 hf => ?_) (fun z8 o1 hf ho hkz8 hez8 => ?_)
        · refine g_iload_n C dX12_count_134 rfl rfl ?_
          obtain ⟨rfl, rfl⟩ := gs2 hf
          exact g_iret C dX12_count_135 hr hlk
        · refine g_iload_n C dX12_count_91 rfl rfl ?_
          refine g_bipush (v := 10) C dX12_count_92 (by decide) ?_
          refine g_icmp_ge (tgt := 134) C dX12_count_94 (by decide) hf (fun hf => ?_) (fun hf => ?_)
          · have hx := hez8 _ hf.symm
            refine g_sub ?_ hx
            exact (And.intro rfl trivial)
          · refine g_iload_n C dX12_count_97 rfl rfl ?_
            refine g_aload_n C dX12_count_98 rfl rfl ?_
            refine g_getR (i := 15) (j := 15) C dX12_count_99 (L91 hL (by decide) (by decide)) c11 rfl (by decide) f70 (fun _ h9 => h9) (LR91_15 hL (by decide) (by decide)) ?_
            refine g_iload_n C dX12_count_102 rfl rfl ?_
            refine g_iald C dX12_count_103 (L101 hL (by decide) (by decide)) ho hf (fun hf => ?_)
            refine g_if_le (tgt := 125) C dX12_count_104 (by decide) hf (fun hf => ?_) (fun hf => ?_)
            · refine g_iconst (v := 0) C dX12_count_125 (by decide) ?_
              refine g_iadd C dX12_count_126 ?_
              refine g_istore_n C dX12_count_127 rfl (Nat.le_of_ble_eq_true rfl) rfl rfl ?_
              refine g_iinc (d := 1) C dX12_count_128 rfl (by decide) rfl (Nat.le_of_ble_eq_true rfl) rfl rfl ?_
              refine g_goto (tgt := 91) C dX12_count_131 (by decide) ?_
              have hx := hkz8 _ hf.symm
              refine g_sub ?_ hx
              exact (And.intro rfl (And.intro rfl (And.intro rfl (And.intro rfl trivial))))
            · refine g_aload_n C dX12_count_107 rfl rfl ?_
              refine g_iload_n C dX12_count_108 rfl rfl ?_
              obtain ⟨z10, hz10, hf⟩ := gbind hf ho
              refine g_callV C dX12_count_109 (m_X12_kindOf l X N _ _ _  (gLay.sub hL (by decide) (by decide)) _ z10.1 z10.2 hz10) gEin0 (cwV 1 C.2.2.2.2.1 gX12_count_X12_kindOf rfl rfl rfl (by decide +kernel) ⟨Nat.le_of_ble_eq_true rfl, Nat.le_of_ble_eq_true rfl⟩) (L91 hL (by decide) (by decide)) (by decide) rfl rfl rfl (Nat.le_of_ble_eq_true rfl) ⟨Nat.le_of_ble_eq_true rfl, Nat.le_of_ble_eq_true rfl⟩ ?_
              refine g_iload_n C dX12_count_112 rfl rfl ?_
              refine g_iconst (v := 1) C dX12_count_113 (by decide) ?_
              refine g_isub C dX12_count_114 ?_
              obtain ⟨z11, hz11, hf⟩ := gbind hf ho
              refine g_callS C dX12_count_115 (m_X12_isOf l X N _ _ _  (gLay.sub hL (by decide) (by decide)) _ _ z11 hz11) gEin0 (va_cwS 2 C.2.2.2.2.1 gX12_count_X12_isOf rfl rfl rfl (by decide +kernel) ⟨Nat.le_of_ble_eq_true rfl, Nat.le_of_ble_eq_true rfl⟩) rfl rfl (Nat.le_of_ble_eq_true rfl) ⟨Nat.le_of_ble_eq_true rfl, Nat.le_of_ble_eq_true rfl⟩ ?_
              refine g_if_eq (tgt := 125) C dX12_count_118 (by decide) hf (fun hf => ?_) (fun hf => ?_)
              · refine g_iconst (v := 0) C dX12_count_125 (by decide) ?_
                refine g_iadd C dX12_count_126 ?_
                refine g_istore_n C dX12_count_127 rfl (Nat.le_of_ble_eq_true rfl) rfl rfl ?_
                refine g_iinc (d := 1) C dX12_count_128 rfl (by decide) rfl (Nat.le_of_ble_eq_true rfl) rfl rfl ?_
                refine g_goto (tgt := 91) C dX12_count_131 (by decide) ?_
                have hx := hkz8 _ hf.symm
                refine g_sub ?_ hx
                exact (And.intro rfl (And.intro rfl (And.intro rfl (And.intro rfl trivial))))
              · refine g_iconst (v := 1) C dX12_count_121 (by decide) ?_
                refine g_goto (tgt := 126) C dX12_count_122 (by decide) ?_
                refine g_iadd C dX12_count_126 ?_
                refine g_istore_n C dX12_count_127 rfl (Nat.le_of_ble_eq_true rfl) rfl rfl ?_
                refine g_iinc (d := 1) C dX12_count_128 rfl (by decide) rfl (Nat.le_of_ble_eq_true rfl) rfl rfl ?_
                refine g_goto (tgt := 91) C dX12_count_131 (by decide) ?_
                have hx := hkz8 _ hf.symm
                refine g_sub ?_ hx
                exact (And.intro rfl (And.intro rfl (And.intro rfl (And.intro rfl trivial))))
      · rw [if_neg ht1_2] at hf
        by_cases ht1_3 : a0 = (3 : Int32)
        · rw [if_pos ht1_3] at hf
          refine g_tabC (v := (3 : Int32)) (tgt := 89) C dX12_count_8 ht1_3 (by decide) (by decide) rfl (by decide) ?_
          refine g_iconst (v := 0) C dX12_count_89 (by decide) ?_
          refine g_istore_n C dX12_count_90 rfl (Nat.le_of_ble_eq_true rfl) rfl rfl ?_
          refine g_loop (fun z12 => [(0, .ref (X.1 + 91)), (1, .int a0), (2, .int z12.1), (3, .int z12.2.1)]) (fun z12 => z12.2.2) (fun r13 => [(2, .int r13.1)]) (fun r13 => r13.2) 134 hf ho (And.intro rfl (And.intro rfl (And.intro rfl (And.intro rfl trivial)))) rfl (fun r13 hf => ?_) (fun z12 o1 hf ho hkz12 hez12 => ?_)
          · refine g_iload_n C dX12_count_134 rfl rfl ?_
            obtain ⟨rfl, rfl⟩ := gs2 hf
            exact g_iret C dX12_count_135 hr hlk
          · refine g_iload_n C dX12_count_91 rfl rfl ?_
            refine g_bipush (v := 10) C dX12_count_92 (by decide) ?_
            refine g_icmp_ge (tgt := 134) C dX12_count_94 (by decide) hf (fun hf => ?_) (fun hf => ?_)
            · have hx := hez12 _ hf.symm
              refine g_sub ?_ hx
              exact (And.intro rfl trivial)
            · refine g_iload_n C dX12_count_97 rfl rfl ?_
              refine g_aload_n C dX12_count_98 rfl rfl ?_
              refine g_getR (i := 15) (j := 15) C dX12_count_99 (L91 hL (by decide) (by decide)) c11 rfl (by decide) f70 (fun _ h9 => h9) (LR91_15 hL (by decide) (by decide)) ?_
              refine g_iload_n C dX12_count_102 rfl rfl ?_
              refine g_iald C dX12_count_103 (L101 hL (by decide) (by decide)) ho hf (fun hf => ?_)
              refine g_if_le (tgt := 125) C dX12_count_104 (by decide) hf (fun hf => ?_) (fun hf => ?_)
              · refine g_iconst (v := 0) C dX12_count_125 (by decide) ?_
                refine g_iadd C dX12_count_126 ?_
                refine g_istore_n C dX12_count_127 rfl (Nat.le_of_ble_eq_true rfl) rfl rfl ?_
                refine g_iinc (d := 1) C dX12_count_128 rfl (by decide) rfl (Nat.le_of_ble_eq_true rfl) rfl rfl ?_
                refine g_goto (tgt := 91) C dX12_count_131 (by decide) ?_
                have hx := hkz12 _ hf.symm
                refine g_sub ?_ hx
                exact (And.intro rfl (And.intro rfl (And.intro rfl (And.intro rfl trivial))))
              · refine g_aload_n C dX12_count_107 rfl rfl ?_
                refine g_iload_n C dX12_count_108 rfl rfl ?_
                obtain ⟨z14, hz14, hf⟩ := gbind hf ho
                refine g_callV C dX12_count_109 (m_X12_kindOf l X N _ _ _  (gLay.sub hL (by decide) (by decide)) _ z14.1 z14.2 hz14) gEin0 (cwV 1 C.2.2.2.2.1 gX12_count_X12_kindOf rfl rfl rfl (by decide +kernel) ⟨Nat.le_of_ble_eq_true rfl, Nat.le_of_ble_eq_true rfl⟩) (L91 hL (by decide) (by decide)) (by decide) rfl rfl rfl (Nat.le_of_ble_eq_true rfl) ⟨Nat.le_of_ble_eq_true rfl, Nat.le_of_ble_eq_true rfl⟩ ?_
                refine g_iload_n C dX12_count_112 rfl rfl ?_
                refine g_iconst (v := 1) C dX12_count_113 (by decide) ?_
                refine g_isub C dX12_count_114 ?_
                obtain ⟨z15, hz15, hf⟩ := gbind hf ho
                refine g_callS C dX12_count_115 (m_X12_isOf l X N _ _ _  (gLay.sub hL (by decide) (by decide)) _ _ z15 hz15) gEin0 (va_cwS 2 C.2.2.2.2.1 gX12_count_X12_isOf rfl rfl rfl (by decide +kernel) ⟨Nat.le_of_ble_eq_true rfl, Nat.le_of_ble_eq_true rfl⟩) rfl rfl (Nat.le_of_ble_eq_true rfl) ⟨Nat.le_of_ble_eq_true rfl, Nat.le_of_ble_eq_true rfl⟩ ?_
                refine g_if_eq (tgt := 125) C dX12_count_118 (by decide) hf (fun hf => ?_) (fun hf => ?_)
                · refine g_iconst (v := 0) C dX12_count_125 (by decide) ?_
                  refine g_iadd C dX12_count_126 ?_
                  refine g_istore_n C dX12_count_127 rfl (Nat.le_of_ble_eq_true rfl) rfl rfl ?_
                  refine g_iinc (d := 1) C dX12_count_128 rfl (by decide) rfl (Nat.le_of_ble_eq_true rfl) rfl rfl ?_
                  refine g_goto (tgt := 91) C dX12_count_131 (by decide) ?_
                  have hx := hkz12 _ hf.symm
                  refine g_sub ?_ hx
                  exact (And.intro rfl (And.intro rfl (And.intro rfl (And.intro rfl trivial))))
                · refine g_iconst (v := 1) C dX12_count_121 (by decide) ?_
                  refine g_goto (tgt := 126) C dX12_count_122 (by decide) ?_
                  refine g_iadd C dX12_count_126 ?_
                  refine g_istore_n C dX12_count_127 rfl (Nat.le_of_ble_eq_true rfl) rfl rfl ?_
                  refine g_iinc (d := 1) C dX12_count_128 rfl (by decide) rfl (Nat.le_of_ble_eq_true rfl) rfl rfl ?_
                  refine g_goto (tgt := 91) C dX12_count_131 (by decide) ?_
                  have hx := hkz12 _ hf.symm
                  refine g_sub ?_ hx
                  exact (And.intro rfl (And.intro rfl (And.intro rfl (And.intro rfl trivial))))
        · rw [if_neg ht1_3] at hf
          by_cases ht1_4 : a0 = (4 : Int32)
          · rw [if_pos ht1_4] at hf
            refine g_tabC (v := (4 : Int32)) (tgt := 89) C dX12_count_8 ht1_4 (by decide) (by decide) rfl (by decide) ?_
            refine g_iconst (v := 0) C dX12_count_89 (by decide) ?_
            refine g_istore_n C dX12_count_90 rfl (Nat.le_of_ble_eq_true rfl) rfl rfl ?_
            refine g_loop (fun z16 => [(0, .ref (X.1 + 91)), (1, .int a0), (2, .int z16.1), (3, .int z16.2.1)]) (fun z16 => z16.2.2) (fun r17 => [(2, .int r17.1)]) (fun r17 => r17.2) 134 hf ho (And.intro rfl (And.intro rfl (And.intro rfl (And.intro rfl trivial)))) rfl (fun r17 hf => ?_) (fun z16 o1 hf ho hkz16 hez16 => ?_)
            · refine g_iload_n C dX12_count_134 rfl rfl ?_
              obtain ⟨rfl, rfl⟩ := gs2 hf
              exact g_iret C dX12_count_135 hr hlk
            · refine g_iload_n C dX12_count_91 rfl rfl ?_
              refine g_bipush (v := 10) C dX12_count_92 (by decide) ?_
              refine g_icmp_ge (tgt := 134) C dX12_count_94 (by decide) hf (fun hf => ?_) (fun hf => ?_)
              · have hx := hez16 _ hf.symm
                refine g_sub ?_ hx
                exact (And.intro rfl trivial)
              · refine g_iload_n C dX12_count_97 rfl rfl ?_
                refine g_aload_n C dX12_count_98 rfl rfl ?_
                refine g_getR (i := 15) (j := 15) C dX12_count_99 (L91 hL (by decide) (by decide)) c11 rfl (by decide) f70 (fun _ h9 => h9) (LR91_15 hL (by decide) (by decide)) ?_
                refine g_iload_n C dX12_count_102 rfl rfl ?_
                refine g_iald C dX12_count_103 (L101 hL (by decide) (by decide)) ho hf (fun hf => ?_)
                refine g_if_le (tgt := 125) C dX12_count_104 (by decide) hf (fun hf => ?_) (fun hf => ?_)
                · refine g_iconst (v := 0) C dX12_count_125 (by decide) ?_
                  refine g_iadd C dX12_count_126 ?_
                  refine g_istore_n C dX12_count_127 rfl (Nat.le_of_ble_eq_true rfl) rfl rfl ?_
                  refine g_iinc (d := 1) C dX12_count_128 rfl (by decide) rfl (Nat.le_of_ble_eq_true rfl) rfl rfl ?_
                  refine g_goto (tgt := 91) C dX12_count_131 (by decide) ?_
                  have hx := hkz16 _ hf.symm
                  refine g_sub ?_ hx
                  exact (And.intro rfl (And.intro rfl (And.intro rfl (And.intro rfl trivial))))
                · refine g_aload_n C dX12_count_107 rfl rfl ?_
                  refine g_iload_n C dX12_count_108 rfl rfl ?_
                  obtain ⟨z18, hz18, hf⟩ := gbind hf ho
                  refine g_callV C dX12_count_109 (m_X12_kindOf l X N _ _ _  (gLay.sub hL (by decide) (by decide)) _ z18.1 z18.2 hz18) gEin0 (cwV 1 C.2.2.2.2.1 gX12_count_X12_kindOf rfl rfl rfl (by decide +kernel) ⟨Nat.le_of_ble_eq_true rfl, Nat.le_of_ble_eq_true rfl⟩) (L91 hL (by decide) (by decide)) (by decide) rfl rfl rfl (Nat.le_of_ble_eq_true rfl) ⟨Nat.le_of_ble_eq_true rfl, Nat.le_of_ble_eq_true rfl⟩ ?_
                  refine g_iload_n C dX12_count_112 rfl rfl ?_
                  refine g_iconst (v := 1) C dX12_count_113 (by decide) ?_
                  refine g_isub C dX12_count_114 ?_
                  obtain ⟨z19, hz19, hf⟩ := gbind hf ho
                  refine g_callS C dX12_count_115 (m_X12_isOf l X N _ _ _  (gLay.sub hL (by decide) (by decide)) _ _ z19 hz19) gEin0 (va_cwS 2 C.2.2.2.2.1 gX12_count_X12_isOf rfl rfl rfl (by decide +kernel) ⟨Nat.le_of_ble_eq_true rfl, Nat.le_of_ble_eq_true rfl⟩) rfl rfl (Nat.le_of_ble_eq_true rfl) ⟨Nat.le_of_ble_eq_true rfl, Nat.le_of_ble_eq_true rfl⟩ ?_
                  refine g_if_eq (tgt := 125) C dX12_count_118 (by decide) hf (fun hf => ?_) (fun hf => ?_)
                  · refine g_iconst (v := 0) C dX12_count_125 (by decide) ?_
                    refine g_iadd C dX12_count_126 ?_
                    refine g_istore_n C dX12_count_127 rfl (Nat.le_of_ble_eq_true rfl) rfl rfl ?_
                    refine g_iinc (d := 1) C dX12_count_128 rfl (by decide) rfl (Nat.le_of_ble_eq_true rfl) rfl rfl ?_
                    refine g_goto (tgt := 91) C dX12_count_131 (by decide) ?_
                    have hx := hkz16 _ hf.symm
                    refine g_sub ?_ hx
                    exact (And.intro rfl (And.intro rfl (And.intro rfl (And.intro rfl trivial))))
                  · refine g_iconst (v := 1) C dX12_count_121 (by decide) ?_
                    refine g_goto (tgt := 126) C dX12_count_122 (by decide) ?_
                    refine g_iadd C dX12_count_126 ?_
                    refine g_istore_n C dX12_count_127 rfl (Nat.le_of_ble_eq_true rfl) rfl rfl ?_
                    refine g_iinc (d := 1) C dX12_count_128 rfl (by decide) rfl (Nat.le_of_ble_eq_true rfl) rfl rfl ?_
                    refine g_goto (tgt := 91) C dX12_count_131 (by decide) ?_
                    have hx := hkz16 _ hf.symm
                    refine g_sub ?_ hx
                    exact (And.intro rfl (And.intro rfl (And.intro rfl (And.intro rfl trivial))))
          · rw [if_neg ht1_4] at hf
            by_cases ht1_5 : a0 = (5 : Int32)
            · rw [if_pos ht1_5] at hf
              refine g_tabC (v := (5 : Int32)) (tgt := 89) C dX12_count_8 ht1_5 (by decide) (by decide) rfl (by decide) ?_
              refine g_iconst (v := 0) C dX12_count_89 (by decide) ?_
              refine g_istore_n C dX12_count_90 rfl (Nat.le_of_ble_eq_true rfl) rfl rfl ?_
              refine g_loop (fun z20 => [(0, .ref (X.1 + 91)), (1, .int a0), (2, .int z20.1), (3, .int z20.2.1)]) (fun z20 => z20.2.2) (fun r21 => [(2, .int r21.1)]) (fun r21 => r21.2) 134 hf ho (And.intro rfl (And.intro rfl (And.intro rfl (And.intro rfl trivial)))) rfl (fun r21 hf => ?_) (fun z20 o1 hf ho hkz20 hez20 => ?_)
              · refine g_iload_n C dX12_count_134 rfl rfl ?_
                obtain ⟨rfl, rfl⟩ := gs2 hf
                exact g_iret C dX12_count_135 hr hlk
              · refine g_iload_n C dX12_count_91 rfl rfl ?_
                refine g_bipush (v := 10) C dX12_count_92 (by decide) ?_
                refine g_icmp_ge (tgt := 134) C dX12_count_94 (by decide) hf (fun hf => ?_) (fun hf => ?_)
                · have hx := hez20 _ hf.symm
                  refine g_sub ?_ hx
                  exact (And.intro rfl trivial)
                · refine g_iload_n C dX12_count_97 rfl rfl ?_
                  refine g_aload_n C dX12_count_98 rfl rfl ?_
                  refine g_getR (i := 15) (j := 15) C dX12_count_99 (L91 hL (by decide) (by decide)) c11 rfl (by decide) f70 (fun _ h9 => h9) (LR91_15 hL (by decide) (by decide)) ?_
                  refine g_iload_n C dX12_count_102 rfl rfl ?_
                  refine g_iald C dX12_count_103 (L101 hL (by decide) (by decide)) ho hf (fun hf => ?_)
                  refine g_if_le (tgt := 125) C dX12_count_104 (by decide) hf (fun hf => ?_) (fun hf => ?_)
                  · refine g_iconst (v := 0) C dX12_count_125 (by decide) ?_
                    refine g_iadd C dX12_count_126 ?_
                    refine g_istore_n C dX12_count_127 rfl (Nat.le_of_ble_eq_true rfl) rfl rfl ?_
                    refine g_iinc (d := 1) C dX12_count_128 rfl (by decide) rfl (Nat.le_of_ble_eq_true rfl) rfl rfl ?_
                    refine g_goto (tgt := 91) C dX12_count_131 (by decide) ?_
                    have hx := hkz20 _ hf.symm
                    refine g_sub ?_ hx
                    exact (And.intro rfl (And.intro rfl (And.intro rfl (And.intro rfl trivial))))
                  · refine g_aload_n C dX12_count_107 rfl rfl ?_
                    refine g_iload_n C dX12_count_108 rfl rfl ?_
                    obtain ⟨z22, hz22, hf⟩ := gbind hf ho
                    refine g_callV C dX12_count_109 (m_X12_kindOf l X N _ _ _  (gLay.sub hL (by decide) (by decide)) _ z22.1 z22.2 hz22) gEin0 (cwV 1 C.2.2.2.2.1 gX12_count_X12_kindOf rfl rfl rfl (by decide +kernel) ⟨Nat.le_of_ble_eq_true rfl, Nat.le_of_ble_eq_true rfl⟩) (L91 hL (by decide) (by decide)) (by decide) rfl rfl rfl (Nat.le_of_ble_eq_true rfl) ⟨Nat.le_of_ble_eq_true rfl, Nat.le_of_ble_eq_true rfl⟩ ?_
                    refine g_iload_n C dX12_count_112 rfl rfl ?_
                    refine g_iconst (v := 1) C dX12_count_113 (by decide) ?_
                    refine g_isub C dX12_count_114 ?_
                    obtain ⟨z23, hz23, hf⟩ := gbind hf ho
                    refine g_callS C dX12_count_115 (m_X12_isOf l X N _ _ _  (gLay.sub hL (by decide) (by decide)) _ _ z23 hz23) gEin0 (va_cwS 2 C.2.2.2.2.1 gX12_count_X12_isOf rfl rfl rfl (by decide +kernel) ⟨Nat.le_of_ble_eq_true rfl, Nat.le_of_ble_eq_true rfl⟩) rfl rfl (Nat.le_of_ble_eq_true rfl) ⟨Nat.le_of_ble_eq_true rfl, Nat.le_of_ble_eq_true rfl⟩ ?_
                    refine g_if_eq (tgt := 125) C dX12_count_118 (by decide) hf (fun hf => ?_) (fun hf => ?_)
                    · refine g_iconst (v := 0) C dX12_count_125 (by decide) ?_
                      refine g_iadd C dX12_count_126 ?_
                      refine g_istore_n C dX12_count_127 rfl (Nat.le_of_ble_eq_true rfl) rfl rfl ?_
                      refine g_iinc (d := 1) C dX12_count_128 rfl (by decide) rfl (Nat.le_of_ble_eq_true rfl) rfl rfl ?_
                      refine g_goto (tgt := 91) C dX12_count_131 (by decide) ?_
                      have hx := hkz20 _ hf.symm
                      refine g_sub ?_ hx
                      exact (And.intro rfl (And.intro rfl (And.intro rfl (And.intro rfl trivial))))
                    · refine g_iconst (v := 1) C dX12_count_121 (by decide) ?_
                      refine g_goto (tgt := 126) C dX12_count_122 (by decide) ?_
                      refine g_iadd C dX12_count_126 ?_
                      refine g_istore_n C dX12_count_127 rfl (Nat.le_of_ble_eq_true rfl) rfl rfl ?_
                      refine g_iinc (d := 1) C dX12_count_128 rfl (by decide) rfl (Nat.le_of_ble_eq_true rfl) rfl rfl ?_
                      refine g_goto (tgt := 91) C dX12_count_131 (by decide) ?_
                      have hx := hkz20 _ hf.symm
                      refine g_sub ?_ hx
                      exact (And.intro rfl (And.intro rfl (And.intro rfl (And.intro rfl trivial))))
            · rw [if_neg ht1_5] at hf
              by_cases ht1_6 : a0 = (6 : Int32)
              · rw [if_pos ht1_6] at hf
                refine g_tabC (v := (6 : Int32)) (tgt := 136) C dX12_count_8 ht1_6 (by decide) (by decide) rfl (by decide) ?_
                refine g_aload_n C dX12_count_136 rfl rfl ?_
                refine g_getI (i := 4) (j := 4) C dX12_count_137 (L91 hL (by decide) (by decide)) c11 rfl f109 (fun _ h9 => h9) ?_
                obtain ⟨rfl, rfl⟩ := gs2 hf
                exact g_iret C dX12_count_140 hr hlk
              · rw [if_neg ht1_6] at hf
                by_cases ht1_7 : a0 = (7 : Int32)
                · rw [if_pos ht1_7] at hf
                  refine g_tabC (v := (7 : Int32)) (tgt := 141) C dX12_count_8 ht1_7 (by decide) (by decide) rfl (by decide) ?_
                  refine g_aload_n C dX12_count_141 rfl rfl ?_
                  refine g_getI (i := 5) (j := 5) C dX12_count_142 (L91 hL (by decide) (by decide)) c11 rfl f39 (fun _ h9 => h9) ?_
                  obtain ⟨rfl, rfl⟩ := gs2 hf
                  exact g_iret C dX12_count_145 hr hlk
                · rw [if_neg ht1_7] at hf
                  refine g_tabD (cnt := 8) (tgt := 146) C dX12_count_8 (fun k hk => by have hq : k = 0 ∨ k = 1 ∨ k = 2 ∨ k = 3 ∨ k = 4 ∨ k = 5 ∨ k = 6 ∨ k = 7 := (by omega); rcases hq with rfl | rfl | rfl | rfl | rfl | rfl | rfl | rfl <;> assumption) (by decide) (by decide) ?_
                  refine g_ldc C k141 dX12_count_146 ?_
                  obtain ⟨rfl, rfl⟩ := gs2 hf
                  exact g_iret C dX12_count_148 hr hlk
set_option maxRecDepth 100000 in
set_option maxHeartbeats 8000000 in
theorem m_X12_status (l : Launch) (X : gX) (N : Nat) (I : gI) (R : gR) (S : gS) (hL : gLay 91 114 R S)  (v : Int32) (J : gI) (hf : f_X12_status N I R S  = some (v, J)) : gM l yX12_status wsX12_status { frames := 0, cells := 0, slots := 0, locals := 0 } X gE0 [.ref (X.1 + 91)] I R S (some (.int v)) J R S 0 0 := by
  unfold f_X12_status at hf
  refine gM_of (cc := cX12_status) (own := RX12) (maxL := 1) (ret := (some .int)) (by decide) rfl rfl (Nat.le_of_ble_eq_true rfl) ?_
  intro p e s m args below meth c C hr hlk hnm hE
  have ho : (some (v, J)) ≠ none := fun h => by cases h
  have f1 := C.2.2.2.2.1 (.fieldLink RX12 1 "TimesByPowersModel" "thrown" "I") (by decide +kernel)
  have c11 : gCl wsX12_status 11 RX12 TX12 29 := ⟨by decide, rfl, rfl, by decide +kernel⟩
  have f7 := C.2.2.2.2.1 (.fieldLink RX12 7 "TimesByPowersModel" "status" "I") (by decide +kernel)
  refine g_aload_n C dX12_status_0 rfl rfl ?_
  refine g_iconst (v := 0) C dX12_status_1 (by decide) ?_
  refine g_putI (i := 0) (j := 0) C dX12_status_2 (L91 hL (by decide) (by decide)) c11 gy11 rfl f1 (fun _ h9 => h9) (Or.inl rfl) rfl ?_
  refine g_aload_n C dX12_status_5 rfl rfl ?_
  refine g_getI (i := 1) (j := 1) C dX12_status_6 (L91 hL (by decide) (by decide)) c11 rfl f7 (fun _ h9 => h9) ?_
  obtain ⟨rfl, rfl⟩ := gs2 hf
  exact g_iret C dX12_status_9 hr hlk

