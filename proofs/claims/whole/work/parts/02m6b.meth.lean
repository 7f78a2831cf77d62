set_option maxRecDepth 100000 in
set_option maxHeartbeats 8000000 in
theorem m_X6_firstNumber (l : Launch) (X : gX) (N : Nat) (I : gI) (R : gR) (S : gS) (hL : gLay 6 37 R S)  (v : Int32) (hf : f_X6_firstNumber N I R S  = some v) : gM l yX6_firstNumber wsX6_firstNumber { frames := 0, cells := 0, slots := 0, locals := 0 } X gE0 [.ref (X.1 + 17)] I R S (some (.int v)) I R S 0 0 := by
  unfold f_X6_firstNumber at hf
  refine gM_of (cc := cX6_firstNumber) (own := RX6) (maxL := 2) (ret := (some .int)) (by decide) rfl rfl (Nat.le_of_ble_eq_true rfl) ?_
  intro p e s m args below meth c C hr hlk hnm hE
  have ho : (some v) ≠ none := fun h => by cases h
  have f29 := C.2.2.2.2.1 (.fieldLink RX6 29 "TimesByPowers$Span" "width" "I") (by decide +kernel)
  have c6 : gCl wsX6_firstNumber 6 RX6 TX6 10 := ⟨by decide, rfl, rfl, by decide +kernel⟩
  have f11 := C.2.2.2.2.1 (.fieldLink RX6 11 "TimesByPowers$Span" "vector" "[I") (by decide +kernel)
  refine g_iconst (v := 0) C dX6_firstNumber_0 (by decide) ?_
  refine g_istore_n C dX6_firstNumber_1 rfl (Nat.le_of_ble_eq_true rfl) rfl rfl ?_
  refine g_loop (fun z1 => [(0, .ref (X.1 + 17)), (1, .int z1)]) (fun z1 => I) (fun r2 => [(1, .int r2)]) (fun r2 => I) 25 hf ho (And.intro rfl (And.intro rfl trivial)) rfl (fun r2 hf => ?_) (fun z1 o1 hf ho hkz1 hez1 => ?_)
  · refine g_iload_n C dX6_firstNumber_25 rfl rfl ?_
    obtain rfl := gs1 hf
    exact g_iret C dX6_firstNumber_26 hr hlk
  · refine g_iload_n C dX6_firstNumber_2 rfl rfl ?_
    refine g_aload_n C dX6_firstNumber_3 rfl rfl ?_
    refine g_getI (i := 7) (j := 7) C dX6_firstNumber_4 (L17 hL (by decide) (by decide)) c6 rfl f29 (fun _ h9 => h9) ?_
    refine g_icmp_ge (tgt := 25) C dX6_firstNumber_7 (by decide) hf (fun hf => ?_) (fun hf => ?_)
    · have hx := hez1 _ hf.symm
      refine g_sub ?_ hx
      exact (And.intro rfl trivial)
    · refine g_aload_n C dX6_firstNumber_10 rfl rfl ?_
      refine g_getR (i := 2) (j := 2) C dX6_firstNumber_11 (L17 hL (by decide) (by decide)) c6 rfl (by decide) f11 (fun _ h9 => h9) (LR17_2 hL (by decide) (by decide)) ?_
      refine g_iload_n C dX6_firstNumber_14 rfl rfl ?_
      refine g_iald C dX6_firstNumber_15 (L18 hL (by decide) (by decide)) ho hf (fun hf => ?_)
      refine g_if_ne (tgt := 25) C dX6_firstNumber_16 (by decide) hf (fun hf => ?_) (fun hf => ?_)
      · have hx := hez1 _ hf.symm
        refine g_sub ?_ hx
        exact (And.intro rfl trivial)
      · refine g_iinc (d := 1) C dX6_firstNumber_19 rfl (by decide) rfl (Nat.le_of_ble_eq_true rfl) rfl rfl ?_
        refine g_goto (tgt := 2) C dX6_firstNumber_22 (by decide) ?_
        have hx := hkz1 _ hf.symm
        refine g_sub ?_ hx
        exact (And.intro rfl (And.intro rfl trivial))
set_option maxRecDepth 100000 in
set_option maxHeartbeats 8000000 in
theorem m_X6_mixCode (l : Launch) (X : gX) (N : Nat) (I : gI) (R : gR) (S : gS) (hL : gLay 6 37 R S)  (v : Int32) (hf : f_X6_mixCode N I R S  = some v) : gM l yX6_mixCode wsX6_mixCode { frames := 0, cells := 0, slots := 0, locals := 0 } X gE0 [.ref (X.1 + 17)] I R S (some (.int v)) I R S 0 0 := by
  unfold f_X6_mixCode at hf
  refine gM_of (cc := cX6_mixCode) (own := RX6) (maxL := 3) (ret := (some .int)) (by decide) rfl rfl (Nat.le_of_ble_eq_true rfl) ?_
  intro p e s m args below meth c C hr hlk hnm hE
  have ho : (some v) ≠ none := fun h => by cases h
  have f36 := C.2.2.2.2.1 (.fieldLink RX6 36 "TimesByPowers$Span" "fed" "I") (by decide +kernel)
  have c6 : gCl wsX6_mixCode 6 RX6 TX6 10 := ⟨by decide, rfl, rfl, by decide +kernel⟩
  have f15 := C.2.2.2.2.1 (.fieldLink RX6 15 "TimesByPowers$Span" "mix" "[I") (by decide +kernel)
  have f39 := C.2.2.2.2.1 (.fieldLink RX6 39 "TimesByPowers$Span" "elements" "LTimesByPowers$Field;") (by decide +kernel)
  have f82 := C.2.2.2.2.1 (.fieldLink RX6 82 "TimesByPowers$Field" "place" "[I") (by decide +kernel)
  have c2 : gCl wsX6_mixCode 2 RX2 TX2 8 := ⟨by decide, rfl, rfl, by decide +kernel⟩
  refine g_iconst (v := 0) C dX6_mixCode_0 (by decide) ?_
  refine g_istore_n C dX6_mixCode_1 rfl (Nat.le_of_ble_eq_true rfl) rfl rfl ?_
  refine g_iconst (v := 0) C dX6_mixCode_2 (by decide) ?_
  refine g_istore_n C dX6_mixCode_3 rfl (Nat.le_of_ble_eq_true rfl) rfl rfl ?_
  refine g_loop (fun z1 => [(0, .ref (X.1 + 17)), (1, .int z1.1), (2, .int z1.2)]) (fun z1 => I) (fun r2 => [(1, .int r2)]) (fun r2 => I) 37 hf ho (And.intro rfl (And.intro rfl (And.intro rfl trivial))) rfl (fun r2 hf => ?_) (fun z1 o1 hf ho hkz1 hez1 => ?_)
  · refine g_iload_n C dX6_mixCode_37 rfl rfl ?_
    obtain rfl := gs1 hf
    exact g_iret C dX6_mixCode_38 hr hlk
  · refine g_iload_n C dX6_mixCode_4 rfl rfl ?_
    refine g_aload_n C dX6_mixCode_5 rfl rfl ?_
    refine g_getI (i := 9) (j := 9) C dX6_mixCode_6 (L17 hL (by decide) (by decide)) c6 rfl f36 (fun _ h9 => h9) ?_
    refine g_icmp_ge (tgt := 37) C dX6_mixCode_9 (by decide) hf (fun hf => ?_) (fun hf => ?_)
    · have hx := hez1 _ hf.symm
      refine g_sub ?_ hx
      exact (And.intro rfl trivial)
    · refine g_iload_n C dX6_mixCode_12 rfl rfl ?_
      refine g_aload_n C dX6_mixCode_13 rfl rfl ?_
      refine g_getR (i := 3) (j := 3) C dX6_mixCode_14 (L17 hL (by decide) (by decide)) c6 rfl (by decide) f15 (fun _ h9 => h9) (LR17_3 hL (by decide) (by decide)) ?_
      refine g_iload_n C dX6_mixCode_17 rfl rfl ?_
      refine g_iald C dX6_mixCode_18 (L19 hL (by decide) (by decide)) ho hf (fun hf => ?_)
      refine g_aload_n C dX6_mixCode_19 rfl rfl ?_
      refine g_getR (i := 0) (j := 0) C dX6_mixCode_20 (L17 hL (by decide) (by decide)) c6 rfl (by decide) f39 (fun _ h9 => h9) (LR17_0 hL (by decide) (by decide)) ?_
      refine g_getR (i := 4) (j := 4) C dX6_mixCode_23 (L6 hL (by decide) (by decide)) c2 rfl (by decide) f82 (fun _ h9 => h9) (LR6_4 hL (by decide) (by decide)) ?_
      refine g_iload_n C dX6_mixCode_26 rfl rfl ?_
      refine g_iald C dX6_mixCode_27 (L7 hL (by decide) (by decide)) ho hf (fun hf => ?_)
      refine g_imul C dX6_mixCode_28 ?_
      refine g_iadd C dX6_mixCode_29 ?_
      refine g_istore_n C dX6_mixCode_30 rfl (Nat.le_of_ble_eq_true rfl) rfl rfl ?_
      refine g_iinc (d := 1) C dX6_mixCode_31 rfl (by decide) rfl (Nat.le_of_ble_eq_true rfl) rfl rfl ?_
      refine g_goto (tgt := 4) C dX6_mixCode_34 (by decide) ?_
      have hx := hkz1 _ hf.symm
      refine g_sub ?_ hx
      exact (And.intro rfl (And.intro rfl (And.intro rfl trivial)))
set_option maxRecDepth 100000 in
set_option maxHeartbeats 8000000 in
theorem m_X6_inverseNumber (l : Launch) (X : gX) (N : Nat) (I : gI) (R : gR) (S : gS) (hL : gLay 6 37 R S) (a0 : Int32) (v : Int32) (hf : f_X6_inverseNumber N I R S a0 = some v) : gM l yX6_inverseNumber wsX6_inverseNumber { frames := 0, cells := 0, slots := 0, locals := 0 } X gE0 [.ref (X.1 + 17), .int a0] I R S (some (.int v)) I R S 0 0 := by
  unfold f_X6_inverseNumber at hf
  refine gM_of (cc := cX6_inverseNumber) (own := RX6) (maxL := 3) (ret := (some .int)) (by decide) rfl rfl (Nat.le_of_ble_eq_true rfl) ?_
  intro p e s m args below meth c C hr hlk hnm hE
  have ho : (some v) ≠ none := fun h => by cases h
  have f48 := C.2.2.2.2.1 (.fieldLink RX6 48 "TimesByPowers$Span" "p" "I") (by decide +kernel)
  have c6 : gCl wsX6_inverseNumber 6 RX6 TX6 10 := ⟨by decide, rfl, rfl, by decide +kernel⟩
  refine g_iconst (v := 1) C dX6_inverseNumber_0 (by decide) ?_
  refine g_istore_n C dX6_inverseNumber_1 rfl (Nat.le_of_ble_eq_true rfl) rfl rfl ?_
  refine g_loop (fun z1 => [(0, .ref (X.1 + 17)), (1, .int a0), (2, .int z1)]) (fun z1 => I) (fun r2 => [(2, .int r2)]) (fun r2 => I) 28 hf ho (And.intro rfl (And.intro rfl (And.intro rfl trivial))) rfl (fun r2 hf => ?_) (fun z1 o1 hf ho hkz1 hez1 => ?_)
  · refine g_iload_n C dX6_inverseNumber_28 rfl rfl ?_
    obtain rfl := gs1 hf
    exact g_iret C dX6_inverseNumber_29 hr hlk
  · refine g_iload_n C dX6_inverseNumber_2 rfl rfl ?_
    refine g_aload_n C dX6_inverseNumber_3 rfl rfl ?_
    refine g_getI (i := 1) (j := 1) C dX6_inverseNumber_4 (L17 hL (by decide) (by decide)) c6 rfl f48 (fun _ h9 => h9) ?_
    refine g_icmp_ge (tgt := 28) C dX6_inverseNumber_7 (by decide) hf (fun hf => ?_) (fun hf => ?_)
    · have hx := hez1 _ hf.symm
      refine g_sub ?_ hx
      exact (And.intro rfl trivial)
    · refine g_iload_n C dX6_inverseNumber_10 rfl rfl ?_
      refine g_iload_n C dX6_inverseNumber_11 rfl rfl ?_
      refine g_imul C dX6_inverseNumber_12 ?_
      refine g_aload_n C dX6_inverseNumber_13 rfl rfl ?_
      refine g_getI (i := 1) (j := 1) C dX6_inverseNumber_14 (L17 hL (by decide) (by decide)) c6 rfl f48 (fun _ h9 => h9) ?_
      refine g_irem C dX6_inverseNumber_17 ho hf (fun hf => ?_)
      refine g_iconst (v := 1) C dX6_inverseNumber_18 (by decide) ?_
      refine g_icmp_eq (tgt := 28) C dX6_inverseNumber_19 (by decide) hf (fun hf => ?_) (fun hf => ?_)
      · have hx := hez1 _ hf.symm
        refine g_sub ?_ hx
        exact (And.intro rfl trivial)
      · refine g_iinc (d := 1) C dX6_inverseNumber_22 rfl (by decide) rfl (Nat.le_of_ble_eq_true rfl) rfl rfl ?_
        refine g_goto (tgt := 2) C dX6_inverseNumber_25 (by decide) ?_
        have hx := hkz1 _ hf.symm
        refine g_sub ?_ hx
        exact (And.intro rfl (And.intro rfl (And.intro rfl trivial)))
set_option maxRecDepth 100000 in
set_option maxHeartbeats 8000000 in
theorem m_X6_keep (l : Launch) (X : gX) (N : Nat) (I : gI) (R : gR) (S : gS) (hL : gLay 6 37 R S) (a0 : Int32) (J : gI) (hf : f_X6_keep N I R S a0 = some J) : gM l yX6_keep wsX6_keep { frames := 1, cells := 0, slots := 0, locals := 22 } X gE0 [.ref (X.1 + 17), .int a0] I R S none J R S 0 0 := by
  unfold f_X6_keep at hf
  refine gM_of (cc := cX6_keep) (own := RX6) (maxL := 4) (ret := none) (by decide) rfl rfl (Nat.le_of_ble_eq_true rfl) ?_
  intro p e s m args below meth c C hr hlk hnm hE
  have ho : (some J) ≠ none := fun h => by cases h
  have f33 := C.2.2.2.2.1 (.fieldLink RX6 33 "TimesByPowers$Span" "keptSize" "I") (by decide +kernel)
  have c6 : gCl wsX6_keep 6 RX6 TX6 10 := ⟨by decide, rfl, rfl, by decide +kernel⟩
  have f11 := C.2.2.2.2.1 (.fieldLink RX6 11 "TimesByPowers$Span" "vector" "[I") (by decide +kernel)
  have f29 := C.2.2.2.2.1 (.fieldLink RX6 29 "TimesByPowers$Span" "width" "I") (by decide +kernel)
  have f20 := C.2.2.2.2.1 (.fieldLink RX6 20 "TimesByPowers$Span" "kept" "[[I") (by decide +kernel)
  have f48 := C.2.2.2.2.1 (.fieldLink RX6 48 "TimesByPowers$Span" "p" "I") (by decide +kernel)
  have f23 := C.2.2.2.2.1 (.fieldLink RX6 23 "TimesByPowers$Span" "keptMix" "[[I") (by decide +kernel)
  have f15 := C.2.2.2.2.1 (.fieldLink RX6 15 "TimesByPowers$Span" "mix" "[I") (by decide +kernel)
  have f26 := C.2.2.2.2.1 (.fieldLink RX6 26 "TimesByPowers$Span" "lead" "[I") (by decide +kernel)
  refine g_aload_n C dX6_keep_0 rfl rfl ?_
  refine g_getI (i := 8) (j := 8) C dX6_keep_1 (L17 hL (by decide) (by decide)) c6 rfl f33 (fun _ h9 => h9) ?_
  refine g_bipush (v := 7) C dX6_keep_4 (by decide) ?_
  refine g_icmp_lt (tgt := 10) C dX6_keep_6 (by decide) hf (fun hf => ?_) (fun hf => ?_)
  · refine g_aload_n C dX6_keep_10 rfl rfl ?_
    refine g_aload_n C dX6_keep_11 rfl rfl ?_
    refine g_getR (i := 2) (j := 2) C dX6_keep_12 (L17 hL (by decide) (by decide)) c6 rfl (by decide) f11 (fun _ h9 => h9) (LR17_2 hL (by decide) (by decide)) ?_
    refine g_iload_n C dX6_keep_15 rfl rfl ?_
    refine g_iald C dX6_keep_16 (L18 hL (by decide) (by decide)) ho hf (fun hf => ?_)
    obtain ⟨z1, hz1, hf⟩ := gbind hf ho
    refine g_callV C dX6_keep_17 (m_X6_inverseNumber l X N _ _ _  (gLay.sub hL (by decide) (by decide)) _ z1 hz1) gEin0 (cwV 1 C.2.2.2.2.1 gX6_keep_X6_inverseNumber rfl rfl rfl (by decide +kernel) ⟨Nat.le_of_ble_eq_true rfl, Nat.le_of_ble_eq_true rfl⟩) (L17 hL (by decide) (by decide)) (by decide) rfl rfl rfl (Nat.le_of_ble_eq_true rfl) ⟨Nat.le_of_ble_eq_true rfl, Nat.le_of_ble_eq_true rfl⟩ ?_
    refine g_istore_n C dX6_keep_20 rfl (Nat.le_of_ble_eq_true rfl) rfl rfl ?_
    refine g_iconst (v := 0) C dX6_keep_21 (by decide) ?_
    refine g_istore_n C dX6_keep_22 rfl (Nat.le_of_ble_eq_true rfl) rfl rfl ?_
    refine g_loop (fun z2 => [(0, .ref (X.1 + 17)), (1, .int a0), (2, .int z1), (3, .int z2.1)]) (fun z2 => z2.2) (fun r3 => [(0, .ref (X.1 + 17)), (1, .int a0), (2, .int z1)]) (fun r3 => r3) 61 hf ho (And.intro rfl (And.intro rfl (And.intro rfl (And.intro rfl trivial)))) rfl (fun r3 hf => ?_) (fun z2 o1 hf ho hkz2 hez2 => ?_)
    · refine g_iconst (v := 0) C dX6_keep_61 (by decide) ?_
      refine g_istore_n C dX6_keep_62 rfl (Nat.le_of_ble_eq_true rfl) rfl rfl ?_
      refine g_loop (fun z5 => [(0, .ref (X.1 + 17)), (1, .int a0), (2, .int z1), (3, .int z5.1)]) (fun z5 => z5.2) (fun r6 => [(0, .ref (X.1 + 17)), (1, .int a0)]) (fun r6 => r6) 99 hf ho (And.intro rfl (And.intro rfl (And.intro rfl (And.intro rfl trivial)))) rfl (fun r6 hf => ?_) (fun z5 o1 hf ho hkz5 hez5 => ?_)
      · refine g_aload_n C dX6_keep_99 rfl rfl ?_
        refine g_getR (i := 6) (j := 6) C dX6_keep_100 (L17 hL (by decide) (by decide)) c6 rfl (by decide) f26 (fun _ h9 => h9) (LR17_6 hL (by decide) (by decide)) ?_
        refine g_aload_n C dX6_keep_103 rfl rfl ?_
        refine g_getI (i := 8) (j := 8) C dX6_keep_104 (L17 hL (by decide) (by decide)) c6 rfl f33 (fun _ h9 => h9) ?_
        refine g_iload_n C dX6_keep_107 rfl rfl ?_
        refine g_iast C dX6_keep_108 (L36 hL (by decide) (by decide)) ho hf (fun hf => ?_)
        refine g_aload_n C dX6_keep_109 rfl rfl ?_
        refine g_dup C dX6_keep_110 rfl ?_
        refine g_getI (i := 8) (j := 8) C dX6_keep_111 (L17 hL (by decide) (by decide)) c6 rfl f33 (fun _ h9 => h9) ?_
        refine g_iconst (v := 1) C dX6_keep_114 (by decide) ?_
        refine g_iadd C dX6_keep_115 ?_
        refine g_putI (i := 8) (j := 8) C dX6_keep_116 (L17 hL (by decide) (by decide)) c6 gy6 rfl f33 (fun _ h9 => h9) (Or.inl rfl) rfl ?_
        obtain rfl := gs1 hf
        exact g_vret C dX6_keep_119 hr hlk
      · refine g_iload_n C dX6_keep_63 rfl rfl ?_
        refine g_bipush (v := 7) C dX6_keep_64 (by decide) ?_
        refine g_icmp_ge (tgt := 99) C dX6_keep_66 (by decide) hf (fun hf => ?_) (fun hf => ?_)
        · have hx := hez5 _ hf.symm
          refine g_sub ?_ hx
          exact (And.intro rfl (And.intro rfl trivial))
        · refine g_aload_n C dX6_keep_69 rfl rfl ?_
          refine g_getR (i := 5) (j := 5) C dX6_keep_70 (L17 hL (by decide) (by decide)) c6 rfl (by decide) f23 (fun _ h9 => h9) (LR17_5 hL (by decide) (by decide)) ?_
          refine g_aload_n C dX6_keep_73 rfl rfl ?_
          refine g_getI (i := 8) (j := 8) C dX6_keep_74 (L17 hL (by decide) (by decide)) c6 rfl f33 (fun _ h9 => h9) ?_
          refine g_aaldG 1 (fun j => 29 + j) C dX6_keep_77 (by decide) (L28 hL (by decide) (by decide)) rfl rfl (fun j hj => LG28 hL (by decide) (by decide) hj) ho hf (fun hj7 hf => ?_)
          refine g_iload_n C dX6_keep_78 rfl rfl ?_
          refine g_aload_n C dX6_keep_79 rfl rfl ?_
          refine g_getR (i := 3) (j := 3) C dX6_keep_80 (L17 hL (by decide) (by decide)) c6 rfl (by decide) f15 (fun _ h9 => h9) (LR17_3 hL (by decide) (by decide)) ?_
          refine g_iload_n C dX6_keep_83 rfl rfl ?_
          refine g_iald C dX6_keep_84 (L19 hL (by decide) (by decide)) ho hf (fun hf => ?_)
          refine g_iload_n C dX6_keep_85 rfl rfl ?_
          refine g_imul C dX6_keep_86 ?_
          refine g_aload_n C dX6_keep_87 rfl rfl ?_
          refine g_getI (i := 1) (j := 1) C dX6_keep_88 (L17 hL (by decide) (by decide)) c6 rfl f48 (fun _ h9 => h9) ?_
          refine g_irem C dX6_keep_91 ho hf (fun hf => ?_)
          refine g_iast C dX6_keep_92 (LH28 hL (by decide) (by decide) hj7) ho hf (fun hf => ?_)
          refine g_iinc (d := 1) C dX6_keep_93 rfl (by decide) rfl (Nat.le_of_ble_eq_true rfl) rfl rfl ?_
          refine g_goto (tgt := 63) C dX6_keep_96 (by decide) ?_
          have hx := hkz5 _ hf.symm
          refine g_sub ?_ hx
          exact (And.intro rfl (And.intro rfl (And.intro rfl (And.intro rfl trivial))))
    · refine g_iload_n C dX6_keep_23 rfl rfl ?_
      refine g_aload_n C dX6_keep_24 rfl rfl ?_
      refine g_getI (i := 7) (j := 7) C dX6_keep_25 (L17 hL (by decide) (by decide)) c6 rfl f29 (fun _ h9 => h9) ?_
      refine g_icmp_ge (tgt := 61) C dX6_keep_28 (by decide) hf (fun hf => ?_) (fun hf => ?_)
      · have hx := hez2 _ hf.symm
        refine g_sub ?_ hx
        exact (And.intro rfl (And.intro rfl (And.intro rfl trivial)))
      · refine g_aload_n C dX6_keep_31 rfl rfl ?_
        refine g_getR (i := 4) (j := 4) C dX6_keep_32 (L17 hL (by decide) (by decide)) c6 rfl (by decide) f20 (fun _ h9 => h9) (LR17_4 hL (by decide) (by decide)) ?_
        refine g_aload_n C dX6_keep_35 rfl rfl ?_
        refine g_getI (i := 8) (j := 8) C dX6_keep_36 (L17 hL (by decide) (by decide)) c6 rfl f33 (fun _ h9 => h9) ?_
        refine g_aaldG 1 (fun j => 21 + j) C dX6_keep_39 (by decide) (L20 hL (by decide) (by decide)) rfl rfl (fun j hj => LG20 hL (by decide) (by decide) hj) ho hf (fun hj4 hf => ?_)
        refine g_iload_n C dX6_keep_40 rfl rfl ?_
        refine g_aload_n C dX6_keep_41 rfl rfl ?_
        refine g_getR (i := 2) (j := 2) C dX6_keep_42 (L17 hL (by decide) (by decide)) c6 rfl (by decide) f11 (fun _ h9 => h9) (LR17_2 hL (by decide) (by decide)) ?_
        refine g_iload_n C dX6_keep_45 rfl rfl ?_
        refine g_iald C dX6_keep_46 (L18 hL (by decide) (by decide)) ho hf (fun hf => ?_)
        refine g_iload_n C dX6_keep_47 rfl rfl ?_
        refine g_imul C dX6_keep_48 ?_
        refine g_aload_n C dX6_keep_49 rfl rfl ?_
        refine g_getI (i := 1) (j := 1) C dX6_keep_50 (L17 hL (by decide) (by decide)) c6 rfl f48 (fun _ h9 => h9) ?_
        refine g_irem C dX6_keep_53 ho hf (fun hf => ?_)
        refine g_iast C dX6_keep_54 (LH20 hL (by decide) (by decide) hj4) ho hf (fun hf => ?_)
        refine g_iinc (d := 1) C dX6_keep_55 rfl (by decide) rfl (Nat.le_of_ble_eq_true rfl) rfl rfl ?_
        refine g_goto (tgt := 23) C dX6_keep_58 (by decide) ?_
        have hx := hkz2 _ hf.symm
        refine g_sub ?_ hx
        exact (And.intro rfl (And.intro rfl (And.intro rfl (And.intro rfl trivial))))
  · obtain rfl := gs1 hf
    exact g_vret C dX6_keep_9 hr hlk
set_option maxRecDepth 100000 in
set_option maxHeartbeats 8000000 in
theorem m_X6_feed (l : Launch) (X : gX) (N : Nat) (I : gI) (R : gR) (S : gS) (hL : gLay 6 37 R S)  (v : Int32) (J : gI) (hf : f_X6_feed N I R S  = some (v, J)) : gM l yX6_feed wsX6_feed { frames := 2, cells := 0, slots := 0, locals := 45 } X gE0 [.ref (X.1 + 17)] I R S (some (.int v)) J R S 0 0 := by
  unfold f_X6_feed at hf
  refine gM_of (cc := cX6_feed) (own := RX6) (maxL := 2) (ret := (some .int)) (by decide) rfl rfl (Nat.le_of_ble_eq_true rfl) ?_
  intro p e s m args below meth c C hr hlk hnm hE
  have ho : (some (v, J)) ≠ none := fun h => by cases h
  have f36 := C.2.2.2.2.1 (.fieldLink RX6 36 "TimesByPowers$Span" "fed" "I") (by decide +kernel)
  have c6 : gCl wsX6_feed 6 RX6 TX6 10 := ⟨by decide, rfl, rfl, by decide +kernel⟩
  have f15 := C.2.2.2.2.1 (.fieldLink RX6 15 "TimesByPowers$Span" "mix" "[I") (by decide +kernel)
  have f33 := C.2.2.2.2.1 (.fieldLink RX6 33 "TimesByPowers$Span" "keptSize" "I") (by decide +kernel)
  have f29 := C.2.2.2.2.1 (.fieldLink RX6 29 "TimesByPowers$Span" "width" "I") (by decide +kernel)
  refine g_aload_n C dX6_feed_0 rfl rfl ?_
  refine g_getI (i := 9) (j := 9) C dX6_feed_1 (L17 hL (by decide) (by decide)) c6 rfl f36 (fun _ h9 => h9) ?_
  refine g_bipush (v := 7) C dX6_feed_4 (by decide) ?_
  refine g_icmp_lt (tgt := 11) C dX6_feed_6 (by decide) hf (fun hf => ?_) (fun hf => ?_)
  · refine g_aload_n C dX6_feed_11 rfl rfl ?_
    refine g_getR (i := 3) (j := 3) C dX6_feed_12 (L17 hL (by decide) (by decide)) c6 rfl (by decide) f15 (fun _ h9 => h9) (LR17_3 hL (by decide) (by decide)) ?_
    refine g_iconst (v := 0) C dX6_feed_15 (by decide) ?_
    obtain ⟨z1, hz1, hf⟩ := gbind hf ho
    refine g_callS C dX6_feed_16 (m_J7_fill_53178 l X N _ _ _   _ _ z1 hz1) gEin0 (va_cwS 2 C.2.2.2.2.1 gX6_feed_J7_fill_53178 rfl rfl rfl (by decide +kernel) ⟨Nat.le_of_ble_eq_true rfl, Nat.le_of_ble_eq_true rfl⟩) rfl rfl (Nat.le_of_ble_eq_true rfl) ⟨Nat.le_of_ble_eq_true rfl, Nat.le_of_ble_eq_true rfl⟩ ?_
    refine g_aload_n C dX6_feed_19 rfl rfl ?_
    refine g_getR (i := 3) (j := 3) C dX6_feed_20 (L17 hL (by decide) (by decide)) c6 rfl (by decide) f15 (fun _ h9 => h9) (LR17_3 hL (by decide) (by decide)) ?_
    refine g_aload_n C dX6_feed_23 rfl rfl ?_
    refine g_getI (i := 9) (j := 9) C dX6_feed_24 (L17 hL (by decide) (by decide)) c6 rfl f36 (fun _ h9 => h9) ?_
    refine g_iconst (v := 1) C dX6_feed_27 (by decide) ?_
    refine g_iast C dX6_feed_28 (L19 hL (by decide) (by decide)) ho hf (fun hf => ?_)
    refine g_aload_n C dX6_feed_29 rfl rfl ?_
    refine g_dup C dX6_feed_30 rfl ?_
    refine g_getI (i := 9) (j := 9) C dX6_feed_31 (L17 hL (by decide) (by decide)) c6 rfl f36 (fun _ h9 => h9) ?_
    refine g_iconst (v := 1) C dX6_feed_34 (by decide) ?_
    refine g_iadd C dX6_feed_35 ?_
    refine g_putI (i := 9) (j := 9) C dX6_feed_36 (L17 hL (by decide) (by decide)) c6 gy6 rfl f36 (fun _ h9 => h9) (Or.inl rfl) rfl ?_
    refine g_iconst (v := 0) C dX6_feed_39 (by decide) ?_
    refine g_istore_n C dX6_feed_40 rfl (Nat.le_of_ble_eq_true rfl) rfl rfl ?_
    refine g_loop (fun z2 => [(0, .ref (X.1 + 17)), (1, .int z2.1)]) (fun z2 => z2.2) (fun r3 => [(0, .ref (X.1 + 17))]) (fun r3 => r3) 60 hf ho (And.intro rfl (And.intro rfl trivial)) rfl (fun r3 hf => ?_) (fun z2 o1 hf ho hkz2 hez2 => ?_)
    · refine g_aload_n C dX6_feed_60 rfl rfl ?_
      obtain ⟨z5, hz5, hf⟩ := gbind hf ho
      refine g_callV C dX6_feed_61 (m_X6_firstNumber l X N _ _ _  (gLay.sub hL (by decide) (by decide))  z5 hz5) gEin0 (cwV 0 C.2.2.2.2.1 gX6_feed_X6_firstNumber rfl rfl rfl (by decide +kernel) ⟨Nat.le_of_ble_eq_true rfl, Nat.le_of_ble_eq_true rfl⟩) (L17 hL (by decide) (by decide)) (by decide) rfl rfl rfl (Nat.le_of_ble_eq_true rfl) ⟨Nat.le_of_ble_eq_true rfl, Nat.le_of_ble_eq_true rfl⟩ ?_
      refine g_istore_n C dX6_feed_64 rfl (Nat.le_of_ble_eq_true rfl) rfl rfl ?_
      refine g_iload_n C dX6_feed_65 rfl rfl ?_
      refine g_aload_n C dX6_feed_66 rfl rfl ?_
      refine g_getI (i := 7) (j := 7) C dX6_feed_67 (L17 hL (by decide) (by decide)) c6 rfl f29 (fun _ h9 => h9) ?_
      refine g_icmp_ne (tgt := 78) C dX6_feed_70 (by decide) hf (fun hf => ?_) (fun hf => ?_)
      · refine g_aload_n C dX6_feed_78 rfl rfl ?_
        refine g_iload_n C dX6_feed_79 rfl rfl ?_
        obtain ⟨z6, hz6, hf⟩ := gbind hf ho
        refine g_callV C dX6_feed_80 (m_X6_keep l X N _ _ _  (gLay.sub hL (by decide) (by decide)) _ z6 hz6) gEin0 (cwV 1 C.2.2.2.2.1 gX6_feed_X6_keep rfl rfl rfl (by decide +kernel) ⟨Nat.le_of_ble_eq_true rfl, Nat.le_of_ble_eq_true rfl⟩) (L17 hL (by decide) (by decide)) (by decide) rfl rfl rfl (Nat.le_of_ble_eq_true rfl) ⟨Nat.le_of_ble_eq_true rfl, Nat.le_of_ble_eq_true rfl⟩ ?_
        refine g_iconst (v := 0) C dX6_feed_83 (by decide) ?_
        obtain ⟨rfl, rfl⟩ := gs2 hf
        exact g_iret C dX6_feed_84 hr hlk
      · refine g_aload_n C dX6_feed_73 rfl rfl ?_
        obtain ⟨z7, hz7, hf⟩ := gbind hf ho
        refine g_callV C dX6_feed_74 (m_X6_mixCode l X N _ _ _  (gLay.sub hL (by decide) (by decide))  z7 hz7) gEin0 (cwV 0 C.2.2.2.2.1 gX6_feed_X6_mixCode rfl rfl rfl (by decide +kernel) ⟨Nat.le_of_ble_eq_true rfl, Nat.le_of_ble_eq_true rfl⟩) (L17 hL (by decide) (by decide)) (by decide) rfl rfl rfl (Nat.le_of_ble_eq_true rfl) ⟨Nat.le_of_ble_eq_true rfl, Nat.le_of_ble_eq_true rfl⟩ ?_
        obtain ⟨rfl, rfl⟩ := gs2 hf
        exact g_iret C dX6_feed_77 hr hlk
    · refine g_iload_n C dX6_feed_41 rfl rfl ?_
      refine g_aload_n C dX6_feed_42 rfl rfl ?_
      refine g_getI (i := 8) (j := 8) C dX6_feed_43 (L17 hL (by decide) (by decide)) c6 rfl f33 (fun _ h9 => h9) ?_
      refine g_icmp_ge (tgt := 60) C dX6_feed_46 (by decide) hf (fun hf => ?_) (fun hf => ?_)
      · have hx := hez2 _ hf.symm
        refine g_sub ?_ hx
        exact (And.intro rfl trivial)
      · refine g_aload_n C dX6_feed_49 rfl rfl ?_
        refine g_iload_n C dX6_feed_50 rfl rfl ?_
        obtain ⟨z4, hz4, hf⟩ := gbind hf ho
        refine g_callV C dX6_feed_51 (m_X6_takeAway l X N _ _ _  (gLay.sub hL (by decide) (by decide)) _ z4 hz4) gEin0 (cwV 1 C.2.2.2.2.1 gX6_feed_X6_takeAway rfl rfl rfl (by decide +kernel) ⟨Nat.le_of_ble_eq_true rfl, Nat.le_of_ble_eq_true rfl⟩) (L17 hL (by decide) (by decide)) (by decide) rfl rfl rfl (Nat.le_of_ble_eq_true rfl) ⟨Nat.le_of_ble_eq_true rfl, Nat.le_of_ble_eq_true rfl⟩ ?_
        refine g_iinc (d := 1) C dX6_feed_54 rfl (by decide) rfl (Nat.le_of_ble_eq_true rfl) rfl rfl ?_
        refine g_goto (tgt := 41) C dX6_feed_57 (by decide) ?_
        have hx := hkz2 _ hf.symm
        refine g_sub ?_ hx
        exact (And.intro rfl (And.intro rfl trivial))
  · refine g_iconst (v := 0) C dX6_feed_9 (by decide) ?_
    obtain ⟨rfl, rfl⟩ := gs2 hf
    exact g_iret C dX6_feed_10 hr hlk
set_option maxRecDepth 100000 in
set_option maxHeartbeats 8000000 in
theorem m_X0_relationOfPoint (l : Launch) (X : gX) (N : Nat) (I : gI) (R : gR) (S : gS) (hL : gLay 6 75 R S)  (v : Int32) (J : gI) (hf : f_X0_relationOfPoint N I R S  = some (v, J)) : gM l yX0_relationOfPoint wsX0_relationOfPoint { frames := 3, cells := 0, slots := 0, locals := 66 } X gE0 [.ref (X.1 + 56)] I R S (some (.int v)) J R S 0 0 := by
  unfold f_X0_relationOfPoint at hf
  refine gM_of (cc := cX0_relationOfPoint) (own := RX0) (maxL := 3) (ret := (some .int)) (by decide) rfl rfl (Nat.le_of_ble_eq_true rfl) ?_
  intro p e s m args below meth c C hr hlk hnm hE
  have ho : (some (v, J)) ≠ none := fun h => by cases h
  have f57 := C.2.2.2.2.1 (.fieldLink RX0 57 "TimesByPowers$Action" "n" "I") (by decide +kernel)
  have c0 : gCl wsX0_relationOfPoint 0 RX0 TX0 12 := ⟨by decide, rfl, rfl, by decide +kernel⟩
  have f44 := C.2.2.2.2.1 (.fieldLink RX0 44 "TimesByPowers$Action" "span" "LTimesByPowers$Span;") (by decide +kernel)
  have f23 := C.2.2.2.2.1 (.fieldLink RX0 23 "TimesByPowers$Action" "point" "[I") (by decide +kernel)
  refine g_iconst (v := 0) C dX0_relationOfPoint_0 (by decide) ?_
  refine g_istore_n C dX0_relationOfPoint_1 rfl (Nat.le_of_ble_eq_true rfl) rfl rfl ?_
  refine g_iconst (v := 0) C dX0_relationOfPoint_2 (by decide) ?_
  refine g_istore_n C dX0_relationOfPoint_3 rfl (Nat.le_of_ble_eq_true rfl) rfl rfl ?_
  refine g_loop (fun z1 => [(0, .ref (X.1 + 56)), (1, .int z1.1), (2, .int z1.2.1)]) (fun z1 => z1.2.2) (fun r2 => [(1, .int r2.1)]) (fun r2 => r2.2) 50 hf ho (And.intro rfl (And.intro rfl (And.intro rfl trivial))) rfl (fun r2 hf => ?_) (fun z1 o1 hf ho hkz1 hez1 => ?_)
  · refine g_iload_n C dX0_relationOfPoint_50 rfl rfl ?_
    obtain ⟨rfl, rfl⟩ := gs2 hf
    exact g_iret C dX0_relationOfPoint_51 hr hlk
  · refine g_iload_n C dX0_relationOfPoint_4 rfl rfl ?_
    refine g_aload_n C dX0_relationOfPoint_5 rfl rfl ?_
    refine g_getI (i := 3) (j := 3) C dX0_relationOfPoint_6 (L56 hL (by decide) (by decide)) c0 rfl f57 (fun _ h9 => h9) ?_
    refine g_icmp_gt (tgt := 50) C dX0_relationOfPoint_9 (by decide) hf (fun hf => ?_) (fun hf => ?_)
    · have hx := hez1 _ hf.symm
      refine g_sub ?_ hx
      exact (And.intro rfl trivial)
    · refine g_iload_n C dX0_relationOfPoint_12 rfl rfl ?_
      refine g_if_ne (tgt := 50) C dX0_relationOfPoint_13 (by decide) hf (fun hf => ?_) (fun hf => ?_)
      · have hx := hez1 _ hf.symm
        refine g_sub ?_ hx
        exact (And.intro rfl trivial)
      · refine g_aload_n C dX0_relationOfPoint_16 rfl rfl ?_
        refine g_getR (i := 1) (j := 1) C dX0_relationOfPoint_17 (L56 hL (by decide) (by decide)) c0 rfl (by decide) f44 (fun _ h9 => h9) (LR56_1 hL (by decide) (by decide)) ?_
        refine g_iconst (v := 0) C dX0_relationOfPoint_20 (by decide) ?_
        refine g_aload_n C dX0_relationOfPoint_21 rfl rfl ?_
        refine g_getR (i := 7) (j := 7) C dX0_relationOfPoint_22 (L56 hL (by decide) (by decide)) c0 rfl (by decide) f23 (fun _ h9 => h9) (LR56_7 hL (by decide) (by decide)) ?_
        obtain ⟨z3, hz3, hf⟩ := gbind hf ho
        refine g_callV C dX0_relationOfPoint_25 (m_X6_putNumbers l X N _ _ _  (gLay.sub hL (by decide) (by decide)) _ _ z3 hz3) gEin0 (cwV 2 C.2.2.2.2.1 gX0_relationOfPoint_X6_putNumbers rfl rfl rfl (by decide +kernel) ⟨Nat.le_of_ble_eq_true rfl, Nat.le_of_ble_eq_true rfl⟩) (L17 hL (by decide) (by decide)) (by decide) rfl rfl rfl (Nat.le_of_ble_eq_true rfl) ⟨Nat.le_of_ble_eq_true rfl, Nat.le_of_ble_eq_true rfl⟩ ?_
        refine g_aload_n C dX0_relationOfPoint_28 rfl rfl ?_
        refine g_getR (i := 1) (j := 1) C dX0_relationOfPoint_29 (L56 hL (by decide) (by decide)) c0 rfl (by decide) f44 (fun _ h9 => h9) (LR56_1 hL (by decide) (by decide)) ?_
        obtain ⟨z4, hz4, hf⟩ := gbind hf ho
        refine g_callV C dX0_relationOfPoint_32 (m_X6_feed l X N _ _ _  (gLay.sub hL (by decide) (by decide))  z4.1 z4.2 hz4) gEin0 (cwV 0 C.2.2.2.2.1 gX0_relationOfPoint_X6_feed rfl rfl rfl (by decide +kernel) ⟨Nat.le_of_ble_eq_true rfl, Nat.le_of_ble_eq_true rfl⟩) (L17 hL (by decide) (by decide)) (by decide) rfl rfl rfl (Nat.le_of_ble_eq_true rfl) ⟨Nat.le_of_ble_eq_true rfl, Nat.le_of_ble_eq_true rfl⟩ ?_
        refine g_istore_n C dX0_relationOfPoint_35 rfl (Nat.le_of_ble_eq_true rfl) rfl rfl ?_
        refine g_aload_n C dX0_relationOfPoint_36 rfl rfl ?_
        refine g_aload_n C dX0_relationOfPoint_37 rfl rfl ?_
        refine g_getR (i := 7) (j := 7) C dX0_relationOfPoint_38 (L56 hL (by decide) (by decide)) c0 rfl (by decide) f23 (fun _ h9 => h9) (LR56_7 hL (by decide) (by decide)) ?_
        obtain ⟨z5, hz5, hf⟩ := gbind hf ho
        refine g_callV C dX0_relationOfPoint_41 (m_X0_step l X N _ _ _  (gLay.sub hL (by decide) (by decide)) _ z5 hz5) gEin0 (cwV 1 C.2.2.2.2.1 gX0_relationOfPoint_X0_step rfl rfl rfl (by decide +kernel) ⟨Nat.le_of_ble_eq_true rfl, Nat.le_of_ble_eq_true rfl⟩) (L56 hL (by decide) (by decide)) (by decide) rfl rfl rfl (Nat.le_of_ble_eq_true rfl) ⟨Nat.le_of_ble_eq_true rfl, Nat.le_of_ble_eq_true rfl⟩ ?_
        refine g_iinc (d := 1) C dX0_relationOfPoint_44 rfl (by decide) rfl (Nat.le_of_ble_eq_true rfl) rfl rfl ?_
        refine g_goto (tgt := 4) C dX0_relationOfPoint_47 (by decide) ?_
        have hx := hkz1 _ hf.symm
        refine g_sub ?_ hx
        exact (And.intro rfl (And.intro rfl (And.intro rfl trivial)))
set_option maxRecDepth 100000 in
set_option maxHeartbeats 8000000 in
theorem m_X0_orderOf (l : Launch) (X : gX) (N : Nat) (I : gI) (R : gR) (S : gS) (hL : gLay 6 75 R S) (a0 : Nat) (a1 : Int32) (v : Int32) (J : gI) (hf : f_X0_orderOf N I R S a0 a1 = some (v, J)) : gM l yX0_orderOf wsX0_orderOf { frames := 4, cells := 0, slots := 0, locals := 88 } X gE0 [.ref (X.1 + 56), .ref (X.1 + a0), .int a1] I R S (some (.int v)) J R S 0 0 := by
  unfold f_X0_orderOf at hf
  refine gM_of (cc := cX0_orderOf) (own := RX0) (maxL := 3) (ret := (some .int)) (by decide) rfl rfl (Nat.le_of_ble_eq_true rfl) ?_
  intro p e s m args below meth c C hr hlk hnm hE
  have ho : (some (v, J)) ≠ none := fun h => by cases h
  have f40 := C.2.2.2.2.1 (.fieldLink RX0 40 "TimesByPowers$Action" "elements" "LTimesByPowers$Field;") (by decide +kernel)
  have c0 : gCl wsX0_orderOf 0 RX0 TX0 12 := ⟨by decide, rfl, rfl, by decide +kernel⟩
  have f23 := C.2.2.2.2.1 (.fieldLink RX0 23 "TimesByPowers$Action" "point" "[I") (by decide +kernel)
  have f44 := C.2.2.2.2.1 (.fieldLink RX0 44 "TimesByPowers$Action" "span" "LTimesByPowers$Span;") (by decide +kernel)
  have f57 := C.2.2.2.2.1 (.fieldLink RX0 57 "TimesByPowers$Action" "n" "I") (by decide +kernel)
  obtain ⟨hwa0, hf⟩ := gcase hf ho
  refine g_aload_n C dX0_orderOf_0 rfl rfl ?_
  refine g_aload_n C dX0_orderOf_1 rfl rfl ?_
  obtain ⟨z1, hz1, hf⟩ := gbind hf ho
  refine g_callV C dX0_orderOf_2 (m_X0_actBy l X N _ _ _  (gLay.sub hL (by decide) (by decide)) _ z1 hz1) gEin0 (cwV 1 C.2.2.2.2.1 gX0_orderOf_X0_actBy rfl rfl rfl (by decide +kernel) ⟨Nat.le_of_ble_eq_true rfl, Nat.le_of_ble_eq_true rfl⟩) (L56 hL (by decide) (by decide)) (by decide) rfl rfl rfl (Nat.le_of_ble_eq_true rfl) ⟨Nat.le_of_ble_eq_true rfl, Nat.le_of_ble_eq_true rfl⟩ ?_
  refine g_aload_n C dX0_orderOf_5 rfl rfl ?_
  refine g_getR (i := 0) (j := 0) C dX0_orderOf_6 (L56 hL (by decide) (by decide)) c0 rfl (by decide) f40 (fun _ h9 => h9) (LR56_0 hL (by decide) (by decide)) ?_
  refine g_iload_n C dX0_orderOf_9 rfl rfl ?_
  refine g_aload_n C dX0_orderOf_10 rfl rfl ?_
  refine g_getR (i := 7) (j := 7) C dX0_orderOf_11 (L56 hL (by decide) (by decide)) c0 rfl (by decide) f23 (fun _ h9 => h9) (LR56_7 hL (by decide) (by decide)) ?_
  obtain ⟨z2, hz2, hf⟩ := gbind hf ho
  refine g_callV C dX0_orderOf_14 (m_X2_split l X N _ _ _  (gLay.sub hL (by decide) (by decide)) _ _ z2 hz2) gEin0 (cwV 2 C.2.2.2.2.1 gX0_orderOf_X2_split rfl rfl rfl (by decide +kernel) ⟨Nat.le_of_ble_eq_true rfl, Nat.le_of_ble_eq_true rfl⟩) (L6 hL (by decide) (by decide)) (by decide) rfl rfl rfl (Nat.le_of_ble_eq_true rfl) ⟨Nat.le_of_ble_eq_true rfl, Nat.le_of_ble_eq_true rfl⟩ ?_
  refine g_aload_n C dX0_orderOf_17 rfl rfl ?_
  refine g_getR (i := 1) (j := 1) C dX0_orderOf_18 (L56 hL (by decide) (by decide)) c0 rfl (by decide) f44 (fun _ h9 => h9) (LR56_1 hL (by decide) (by decide)) ?_
  refine g_aload_n C dX0_orderOf_21 rfl rfl ?_
  refine g_getI (i := 3) (j := 3) C dX0_orderOf_22 (L56 hL (by decide) (by decide)) c0 rfl f57 (fun _ h9 => h9) ?_
  obtain ⟨z3, hz3, hf⟩ := gbind hf ho
  refine g_callV C dX0_orderOf_25 (m_X6_begin l X N _ _ _  (gLay.sub hL (by decide) (by decide)) _ z3 hz3) gEin0 (cwV 1 C.2.2.2.2.1 gX0_orderOf_X6_begin rfl rfl rfl (by decide +kernel) ⟨Nat.le_of_ble_eq_true rfl, Nat.le_of_ble_eq_true rfl⟩) (L17 hL (by decide) (by decide)) (by decide) rfl rfl rfl (Nat.le_of_ble_eq_true rfl) ⟨Nat.le_of_ble_eq_true rfl, Nat.le_of_ble_eq_true rfl⟩ ?_
  refine g_aload_n C dX0_orderOf_28 rfl rfl ?_
  obtain ⟨z4, hz4, hf⟩ := gbind hf ho
  refine g_callV C dX0_orderOf_29 (m_X0_relationOfPoint l X N _ _ _  (gLay.sub hL (by decide) (by decide))  z4.1 z4.2 hz4) gEin0 (cwV 0 C.2.2.2.2.1 gX0_orderOf_X0_relationOfPoint rfl rfl rfl (by decide +kernel) ⟨Nat.le_of_ble_eq_true rfl, Nat.le_of_ble_eq_true rfl⟩) (L56 hL (by decide) (by decide)) (by decide) rfl rfl rfl (Nat.le_of_ble_eq_true rfl) ⟨Nat.le_of_ble_eq_true rfl, Nat.le_of_ble_eq_true rfl⟩ ?_
  obtain ⟨rfl, rfl⟩ := gs2 hf
  exact g_iret C dX0_orderOf_32 hr hlk
set_option maxRecDepth 100000 in
set_option maxHeartbeats 8000000 in
theorem m_X6_forget (l : Launch) (X : gX) (N : Nat) (I : gI) (R : gR) (S : gS) (hL : gLay 6 37 R S)  (J : gI) (hf : f_X6_forget N I R S  = some J) : gM l yX6_forget wsX6_forget { frames := 1, cells := 0, slots := 0, locals := 23 } X gE0 [.ref (X.1 + 17)] I R S none J R S 0 0 := by
  unfold f_X6_forget at hf
  refine gM_of (cc := cX6_forget) (own := RX6) (maxL := 2) (ret := none) (by decide) rfl rfl (Nat.le_of_ble_eq_true rfl) ?_
  intro p e s m args below meth c C hr hlk hnm hE
  have ho : (some J) ≠ none := fun h => by cases h
  have f36 := C.2.2.2.2.1 (.fieldLink RX6 36 "TimesByPowers$Span" "fed" "I") (by decide +kernel)
  have c6 : gCl wsX6_forget 6 RX6 TX6 10 := ⟨by decide, rfl, rfl, by decide +kernel⟩
  have f33 := C.2.2.2.2.1 (.fieldLink RX6 33 "TimesByPowers$Span" "keptSize" "I") (by decide +kernel)
  have f23 := C.2.2.2.2.1 (.fieldLink RX6 23 "TimesByPowers$Span" "keptMix" "[[I") (by decide +kernel)
  refine g_aload_n C dX6_forget_0 rfl rfl ?_
  refine g_iconst (v := 0) C dX6_forget_1 (by decide) ?_
  refine g_putI (i := 9) (j := 9) C dX6_forget_2 (L17 hL (by decide) (by decide)) c6 gy6 rfl f36 (fun _ h9 => h9) (Or.inl rfl) rfl ?_
  refine g_iconst (v := 0) C dX6_forget_5 (by decide) ?_
  refine g_istore_n C dX6_forget_6 rfl (Nat.le_of_ble_eq_true rfl) rfl rfl ?_
  refine g_loop (fun z1 => [(0, .ref (X.1 + 17)), (1, .int z1.1)]) (fun z1 => z1.2) (fun r2 => []) (fun r2 => r2) 31 hf ho (And.intro rfl (And.intro rfl trivial)) rfl (fun r2 hf => ?_) (fun z1 o1 hf ho hkz1 hez1 => ?_)
  · obtain rfl := gs1 hf
    exact g_vret C dX6_forget_31 hr hlk
  · refine g_iload_n C dX6_forget_7 rfl rfl ?_
    refine g_aload_n C dX6_forget_8 rfl rfl ?_
    refine g_getI (i := 8) (j := 8) C dX6_forget_9 (L17 hL (by decide) (by decide)) c6 rfl f33 (fun _ h9 => h9) ?_
    refine g_icmp_ge (tgt := 31) C dX6_forget_12 (by decide) hf (fun hf => ?_) (fun hf => ?_)
    · have hx := hez1 _ hf.symm
      refine g_sub ?_ hx
      exact trivial
    · refine g_aload_n C dX6_forget_15 rfl rfl ?_
      refine g_getR (i := 5) (j := 5) C dX6_forget_16 (L17 hL (by decide) (by decide)) c6 rfl (by decide) f23 (fun _ h9 => h9) (LR17_5 hL (by decide) (by decide)) ?_
      refine g_iload_n C dX6_forget_19 rfl rfl ?_
      refine g_aaldG 1 (fun j => 29 + j) C dX6_forget_20 (by decide) (L28 hL (by decide) (by decide)) rfl rfl (fun j hj => LG28 hL (by decide) (by decide) hj) ho hf (fun hj3 hf => ?_)
      refine g_iconst (v := 0) C dX6_forget_21 (by decide) ?_
      obtain ⟨z4, hz4, hf⟩ := gbind hf ho
      refine g_callS C dX6_forget_22 (m_J7_fill_53178 l X N _ _ _   _ _ z4 hz4) gEin0 (va_cwS 2 C.2.2.2.2.1 gX6_forget_J7_fill_53178 rfl rfl rfl (by decide +kernel) ⟨Nat.le_of_ble_eq_true rfl, Nat.le_of_ble_eq_true rfl⟩) rfl rfl (Nat.le_of_ble_eq_true rfl) ⟨Nat.le_of_ble_eq_true rfl, Nat.le_of_ble_eq_true rfl⟩ ?_
      refine g_iinc (d := 1) C dX6_forget_25 rfl (by decide) rfl (Nat.le_of_ble_eq_true rfl) rfl rfl ?_
      refine g_goto (tgt := 7) C dX6_forget_28 (by decide) ?_
      have hx := hkz1 _ hf.symm
      refine g_sub ?_ hx
      exact (And.intro rfl (And.intro rfl trivial))
set_option maxRecDepth 100000 in
set_option maxHeartbeats 8000000 in
theorem m_X2_joined (l : Launch) (X : gX) (N : Nat) (I : gI) (R : gR) (S : gS) (hL : gLay 6 17 R S) (a0 : Int32) (a1 : Int32) (v : Int32) (hf : f_X2_joined N I R S a0 a1 = some v) : gM l yX2_joined wsX2_joined { frames := 1, cells := 0, slots := 0, locals := 22 } X gE0 [.ref (X.1 + 6), .int a0, .int a1] I R S (some (.int v)) I R S 0 0 := by
  unfold f_X2_joined at hf
  refine gM_of (cc := cX2_joined) (own := RX2) (maxL := 7) (ret := (some .int)) (by decide) rfl rfl (Nat.le_of_ble_eq_true rfl) ?_
  intro p e s m args below meth c C hr hlk hnm hE
  have ho : (some v) ≠ none := fun h => by cases h
  have f26 := C.2.2.2.2.1 (.fieldLink RX2 26 "TimesByPowers$Field" "p" "I") (by decide +kernel)
  have c2 : gCl wsX2_joined 2 RX2 TX2 8 := ⟨by decide, rfl, rfl, by decide +kernel⟩
  have f9 := C.2.2.2.2.1 (.fieldLink RX2 9 "TimesByPowers$Field" "place" "[I") (by decide +kernel)
  refine g_iconst (v := 0) C dX2_joined_0 (by decide) ?_
  refine g_istore_n C dX2_joined_1 rfl (Nat.le_of_ble_eq_true rfl) rfl rfl ?_
  refine g_iconst (v := 0) C dX2_joined_2 (by decide) ?_
  refine g_istore C dX2_joined_3 (Nat.le_of_ble_eq_true rfl) rfl rfl ?_
  refine g_loop (fun z1 => [(0, .ref (X.1 + 6)), (1, .int a0), (2, .int a1), (3, .int z1.1), (4, .int z1.2)]) (fun z1 => I) (fun r2 => [(3, .int r2)]) (fun r2 => I) 78 hf ho (And.intro rfl (And.intro rfl (And.intro rfl (And.intro rfl (And.intro rfl trivial))))) rfl (fun r2 hf => ?_) (fun z1 o1 hf ho hkz1 hez1 => ?_)
  · refine g_iload_n C dX2_joined_78 rfl rfl ?_
    obtain rfl := gs1 hf
    exact g_iret C dX2_joined_79 hr hlk
  · refine g_iload C dX2_joined_5 rfl ?_
    refine g_bipush (v := 6) C dX2_joined_7 (by decide) ?_
    refine g_icmp_gt (tgt := 78) C dX2_joined_9 (by decide) hf (fun hf => ?_) (fun hf => ?_)
    · have hx := hez1 _ hf.symm
      refine g_sub ?_ hx
      exact (And.intro rfl trivial)
    · refine g_iconst (v := 0) C dX2_joined_12 (by decide) ?_
      refine g_istore C dX2_joined_13 (Nat.le_of_ble_eq_true rfl) rfl rfl ?_
      refine g_iconst (v := 0) C dX2_joined_15 (by decide) ?_
      refine g_istore C dX2_joined_16 (Nat.le_of_ble_eq_true rfl) rfl rfl ?_
      refine g_loop (fun z3 => [(0, .ref (X.1 + 6)), (1, .int a0), (2, .int a1), (3, .int z1.1), (4, .int z1.2), (5, .int z3.1), (6, .int z3.2)]) (fun z3 => I) (fun r4 => [(0, .ref (X.1 + 6)), (1, .int a0), (2, .int a1), (3, .int z1.1), (4, .int z1.2), (5, .int r4)]) (fun r4 => I) 54 hf ho (And.intro rfl (And.intro rfl (And.intro rfl (And.intro rfl (And.intro rfl (And.intro rfl (And.intro rfl trivial))))))) rfl (fun r4 hf => ?_) (fun z3 o1 hf ho hkz3 hez3 => ?_)
      · refine g_iload_n C dX2_joined_54 rfl rfl ?_
        refine g_iload C dX2_joined_55 rfl ?_
        refine g_aload_n C dX2_joined_57 rfl rfl ?_
        refine g_getI (i := 0) (j := 0) C dX2_joined_58 (L6 hL (by decide) (by decide)) c2 rfl f26 (fun _ h9 => h9) ?_
        refine g_irem C dX2_joined_61 ho hf (fun hf => ?_)
        refine g_aload_n C dX2_joined_62 rfl rfl ?_
        refine g_getR (i := 4) (j := 4) C dX2_joined_63 (L6 hL (by decide) (by decide)) c2 rfl (by decide) f9 (fun _ h9 => h9) (LR6_4 hL (by decide) (by decide)) ?_
        refine g_iload C dX2_joined_66 rfl ?_
        refine g_iald C dX2_joined_68 (L7 hL (by decide) (by decide)) ho hf (fun hf => ?_)
        refine g_imul C dX2_joined_69 ?_
        refine g_iadd C dX2_joined_70 ?_
        refine g_istore_n C dX2_joined_71 rfl (Nat.le_of_ble_eq_true rfl) rfl rfl ?_
        refine g_iinc (d := 1) C dX2_joined_72 rfl (by decide) rfl (Nat.le_of_ble_eq_true rfl) rfl rfl ?_
        refine g_goto (tgt := 5) C dX2_joined_75 (by decide) ?_
        have hx := hkz1 _ hf.symm
        refine g_sub ?_ hx
        exact (And.intro rfl (And.intro rfl (And.intro rfl (And.intro rfl (And.intro rfl trivial)))))
      · refine g_iload C dX2_joined_18 rfl ?_
        refine g_iload C dX2_joined_20 rfl ?_
        refine g_icmp_gt (tgt := 54) C dX2_joined_22 (by decide) hf (fun hf => ?_) (fun hf => ?_)
        · have hx := hez3 _ hf.symm
          refine g_sub ?_ hx
          exact (And.intro rfl (And.intro rfl (And.intro rfl (And.intro rfl (And.intro rfl (And.intro rfl trivial))))))
        · refine g_iload C dX2_joined_25 rfl ?_
          refine g_aload_n C dX2_joined_27 rfl rfl ?_
          refine g_iload_n C dX2_joined_28 rfl rfl ?_
          refine g_iload C dX2_joined_29 rfl ?_
          obtain ⟨z5, hz5, hf⟩ := gbind hf ho
          refine g_callV C dX2_joined_31 (m_X2_numberAt l X N _ _ _  (gLay.sub hL (by decide) (by decide)) _ _ z5 hz5) gEin0 (cwV 2 C.2.2.2.2.1 gX2_joined_X2_numberAt rfl rfl rfl (by decide +kernel) ⟨Nat.le_of_ble_eq_true rfl, Nat.le_of_ble_eq_true rfl⟩) (L6 hL (by decide) (by decide)) (by decide) rfl rfl rfl (Nat.le_of_ble_eq_true rfl) ⟨Nat.le_of_ble_eq_true rfl, Nat.le_of_ble_eq_true rfl⟩ ?_
          refine g_aload_n C dX2_joined_34 rfl rfl ?_
          refine g_iload_n C dX2_joined_35 rfl rfl ?_
          refine g_iload C dX2_joined_36 rfl ?_
          refine g_iload C dX2_joined_38 rfl ?_
          refine g_isub C dX2_joined_40 ?_
          obtain ⟨z6, hz6, hf⟩ := gbind hf ho
          refine g_callV C dX2_joined_41 (m_X2_numberAt l X N _ _ _  (gLay.sub hL (by decide) (by decide)) _ _ z6 hz6) gEin0 (cwV 2 C.2.2.2.2.1 gX2_joined_X2_numberAt rfl rfl rfl (by decide +kernel) ⟨Nat.le_of_ble_eq_true rfl, Nat.le_of_ble_eq_true rfl⟩) (L6 hL (by decide) (by decide)) (by decide) rfl rfl rfl (Nat.le_of_ble_eq_true rfl) ⟨Nat.le_of_ble_eq_true rfl, Nat.le_of_ble_eq_true rfl⟩ ?_
          refine g_imul C dX2_joined_44 ?_
          refine g_iadd C dX2_joined_45 ?_
          refine g_istore C dX2_joined_46 (Nat.le_of_ble_eq_true rfl) rfl rfl ?_
          refine g_iinc (d := 1) C dX2_joined_48 rfl (by decide) rfl (Nat.le_of_ble_eq_true rfl) rfl rfl ?_
          refine g_goto (tgt := 18) C dX2_joined_51 (by decide) ?_
          have hx := hkz3 _ hf.symm
          refine g_sub ?_ hx
          exact (And.intro rfl (And.intro rfl (And.intro rfl (And.intro rfl (And.intro rfl (And.intro rfl (And.intro rfl trivial)))))))
set_option maxRecDepth 100000 in
set_option maxHeartbeats 8000000 in
theorem m_X0_wholeOf (l : Launch) (X : gX) (N : Nat) (I : gI) (R : gR) (S : gS) (hL : gLay 6 75 R S) (a0 : Nat) (v : Int32) (J : gI) (hf : f_X0_wholeOf N I R S a0 = some (v, J)) : gM l yX0_wholeOf wsX0_wholeOf { frames := 4, cells := 0, slots := 0, locals := 88 } X gE0 [.ref (X.1 + 56), .ref (X.1 + a0)] I R S (some (.int v)) J R S 0 0 := by
  unfold f_X0_wholeOf at hf
  refine gM_of (cc := cX0_wholeOf) (own := RX0) (maxL := 4) (ret := (some .int)) (by decide) rfl rfl (Nat.le_of_ble_eq_true rfl) ?_
  intro p e s m args below meth c C hr hlk hnm hE
  have ho : (some (v, J)) ≠ none := fun h => by cases h
  have f44 := C.2.2.2.2.1 (.fieldLink RX0 44 "TimesByPowers$Action" "span" "LTimesByPowers$Span;") (by decide +kernel)
  have c0 : gCl wsX0_wholeOf 0 RX0 TX0 12 := ⟨by decide, rfl, rfl, by decide +kernel⟩
  have f57 := C.2.2.2.2.1 (.fieldLink RX0 57 "TimesByPowers$Action" "n" "I") (by decide +kernel)
  have f40 := C.2.2.2.2.1 (.fieldLink RX0 40 "TimesByPowers$Action" "elements" "LTimesByPowers$Field;") (by decide +kernel)
  have f83 := C.2.2.2.2.1 (.fieldLink RX0 83 "TimesByPowers$Field" "place" "[I") (by decide +kernel)
  have c2 : gCl wsX0_wholeOf 2 RX2 TX2 8 := ⟨by decide, rfl, rfl, by decide +kernel⟩
  have f23 := C.2.2.2.2.1 (.fieldLink RX0 23 "TimesByPowers$Action" "point" "[I") (by decide +kernel)
  obtain ⟨hwa0, hf⟩ := gcase hf ho
  refine g_aload_n C dX0_wholeOf_0 rfl rfl ?_
  refine g_aload_n C dX0_wholeOf_1 rfl rfl ?_
  obtain ⟨z1, hz1, hf⟩ := gbind hf ho
  refine g_callV C dX0_wholeOf_2 (m_X0_actBy l X N _ _ _  (gLay.sub hL (by decide) (by decide)) _ z1 hz1) gEin0 (cwV 1 C.2.2.2.2.1 gX0_wholeOf_X0_actBy rfl rfl rfl (by decide +kernel) ⟨Nat.le_of_ble_eq_true rfl, Nat.le_of_ble_eq_true rfl⟩) (L56 hL (by decide) (by decide)) (by decide) rfl rfl rfl (Nat.le_of_ble_eq_true rfl) ⟨Nat.le_of_ble_eq_true rfl, Nat.le_of_ble_eq_true rfl⟩ ?_
  refine g_aload_n C dX0_wholeOf_5 rfl rfl ?_
  refine g_getR (i := 1) (j := 1) C dX0_wholeOf_6 (L56 hL (by decide) (by decide)) c0 rfl (by decide) f44 (fun _ h9 => h9) (LR56_1 hL (by decide) (by decide)) ?_
  refine g_aload_n C dX0_wholeOf_9 rfl rfl ?_
  refine g_getI (i := 3) (j := 3) C dX0_wholeOf_10 (L56 hL (by decide) (by decide)) c0 rfl f57 (fun _ h9 => h9) ?_
  obtain ⟨z2, hz2, hf⟩ := gbind hf ho
  refine g_callV C dX0_wholeOf_13 (m_X6_begin l X N _ _ _  (gLay.sub hL (by decide) (by decide)) _ z2 hz2) gEin0 (cwV 1 C.2.2.2.2.1 gX0_wholeOf_X6_begin rfl rfl rfl (by decide +kernel) ⟨Nat.le_of_ble_eq_true rfl, Nat.le_of_ble_eq_true rfl⟩) (L17 hL (by decide) (by decide)) (by decide) rfl rfl rfl (Nat.le_of_ble_eq_true rfl) ⟨Nat.le_of_ble_eq_true rfl, Nat.le_of_ble_eq_true rfl⟩ ?_
  refine g_iconst (v := 1) C dX0_wholeOf_16 (by decide) ?_
  refine g_istore_n C dX0_wholeOf_17 rfl (Nat.le_of_ble_eq_true rfl) rfl rfl ?_
  refine g_iconst (v := 0) C dX0_wholeOf_18 (by decide) ?_
  refine g_istore_n C dX0_wholeOf_19 rfl (Nat.le_of_ble_eq_true rfl) rfl rfl ?_
  refine g_loop (fun z3 => [(0, .ref (X.1 + 56)), (2, .int z3.1), (3, .int z3.2.1)]) (fun z3 => z3.2.2) (fun r4 => [(2, .int r4.1)]) (fun r4 => r4.2) 74 hf ho (And.intro rfl (And.intro rfl (And.intro rfl trivial))) rfl (fun r4 hf => ?_) (fun z3 o1 hf ho hkz3 hez3 => ?_)
  · refine g_iload_n C dX0_wholeOf_74 rfl rfl ?_
    obtain ⟨rfl, rfl⟩ := gs2 hf
    exact g_iret C dX0_wholeOf_75 hr hlk
  · refine g_iload_n C dX0_wholeOf_20 rfl rfl ?_
    refine g_aload_n C dX0_wholeOf_21 rfl rfl ?_
    refine g_getI (i := 3) (j := 3) C dX0_wholeOf_22 (L56 hL (by decide) (by decide)) c0 rfl f57 (fun _ h9 => h9) ?_
    refine g_icmp_ge (tgt := 74) C dX0_wholeOf_25 (by decide) hf (fun hf => ?_) (fun hf => ?_)
    · have hx := hez3 _ hf.symm
      refine g_sub ?_ hx
      exact (And.intro rfl trivial)
    · refine g_aload_n C dX0_wholeOf_28 rfl rfl ?_
      refine g_getR (i := 0) (j := 0) C dX0_wholeOf_29 (L56 hL (by decide) (by decide)) c0 rfl (by decide) f40 (fun _ h9 => h9) (LR56_0 hL (by decide) (by decide)) ?_
      refine g_aload_n C dX0_wholeOf_32 rfl rfl ?_
      refine g_getR (i := 0) (j := 0) C dX0_wholeOf_33 (L56 hL (by decide) (by decide)) c0 rfl (by decide) f40 (fun _ h9 => h9) (LR56_0 hL (by decide) (by decide)) ?_
      refine g_getR (i := 4) (j := 4) C dX0_wholeOf_36 (L6 hL (by decide) (by decide)) c2 rfl (by decide) f83 (fun _ h9 => h9) (LR6_4 hL (by decide) (by decide)) ?_
      refine g_iload_n C dX0_wholeOf_39 rfl rfl ?_
      refine g_iald C dX0_wholeOf_40 (L7 hL (by decide) (by decide)) ho hf (fun hf => ?_)
      refine g_aload_n C dX0_wholeOf_41 rfl rfl ?_
      refine g_getR (i := 7) (j := 7) C dX0_wholeOf_42 (L56 hL (by decide) (by decide)) c0 rfl (by decide) f23 (fun _ h9 => h9) (LR56_7 hL (by decide) (by decide)) ?_
      obtain ⟨z5, hz5, hf⟩ := gbind hf ho
      refine g_callV C dX0_wholeOf_45 (m_X2_split l X N _ _ _  (gLay.sub hL (by decide) (by decide)) _ _ z5 hz5) gEin0 (cwV 2 C.2.2.2.2.1 gX0_wholeOf_X2_split rfl rfl rfl (by decide +kernel) ⟨Nat.le_of_ble_eq_true rfl, Nat.le_of_ble_eq_true rfl⟩) (L6 hL (by decide) (by decide)) (by decide) rfl rfl rfl (Nat.le_of_ble_eq_true rfl) ⟨Nat.le_of_ble_eq_true rfl, Nat.le_of_ble_eq_true rfl⟩ ?_
      refine g_aload_n C dX0_wholeOf_48 rfl rfl ?_
      refine g_getR (i := 1) (j := 1) C dX0_wholeOf_49 (L56 hL (by decide) (by decide)) c0 rfl (by decide) f44 (fun _ h9 => h9) (LR56_1 hL (by decide) (by decide)) ?_
      obtain ⟨z6, hz6, hf⟩ := gbind hf ho
      refine g_callV C dX0_wholeOf_52 (m_X6_forget l X N _ _ _  (gLay.sub hL (by decide) (by decide))  z6 hz6) gEin0 (cwV 0 C.2.2.2.2.1 gX0_wholeOf_X6_forget rfl rfl rfl (by decide +kernel) ⟨Nat.le_of_ble_eq_true rfl, Nat.le_of_ble_eq_true rfl⟩) (L17 hL (by decide) (by decide)) (by decide) rfl rfl rfl (Nat.le_of_ble_eq_true rfl) ⟨Nat.le_of_ble_eq_true rfl, Nat.le_of_ble_eq_true rfl⟩ ?_
      refine g_aload_n C dX0_wholeOf_55 rfl rfl ?_
      refine g_getR (i := 0) (j := 0) C dX0_wholeOf_56 (L56 hL (by decide) (by decide)) c0 rfl (by decide) f40 (fun _ h9 => h9) (LR56_0 hL (by decide) (by decide)) ?_
      refine g_iload_n C dX0_wholeOf_59 rfl rfl ?_
      refine g_aload_n C dX0_wholeOf_60 rfl rfl ?_
      obtain ⟨z7, hz7, hf⟩ := gbind hf ho
      refine g_callV C dX0_wholeOf_61 (m_X0_relationOfPoint l X N _ _ _  (gLay.sub hL (by decide) (by decide))  z7.1 z7.2 hz7) gEin0 (cwV 0 C.2.2.2.2.1 gX0_wholeOf_X0_relationOfPoint rfl rfl rfl (by decide +kernel) ⟨Nat.le_of_ble_eq_true rfl, Nat.le_of_ble_eq_true rfl⟩) (L56 hL (by decide) (by decide)) (by decide) rfl rfl rfl (Nat.le_of_ble_eq_true rfl) ⟨Nat.le_of_ble_eq_true rfl, Nat.le_of_ble_eq_true rfl⟩ ?_
      obtain ⟨z8, hz8, hf⟩ := gbind hf ho
      refine g_callV C dX0_wholeOf_64 (m_X2_joined l X N _ _ _  (gLay.sub hL (by decide) (by decide)) _ _ z8 hz8) gEin0 (cwV 2 C.2.2.2.2.1 gX0_wholeOf_X2_joined rfl rfl rfl (by decide +kernel) ⟨Nat.le_of_ble_eq_true rfl, Nat.le_of_ble_eq_true rfl⟩) (L6 hL (by decide) (by decide)) (by decide) rfl rfl rfl (Nat.le_of_ble_eq_true rfl) ⟨Nat.le_of_ble_eq_true rfl, Nat.le_of_ble_eq_true rfl⟩ ?_
      refine g_istore_n C dX0_wholeOf_67 rfl (Nat.le_of_ble_eq_true rfl) rfl rfl ?_
      refine g_iinc (d := 1) C dX0_wholeOf_68 rfl (by decide) rfl (Nat.le_of_ble_eq_true rfl) rfl rfl ?_
      refine g_goto (tgt := 20) C dX0_wholeOf_71 (by decide) ?_
      have hx := hkz3 _ hf.symm
      refine g_sub ?_ hx
      exact (And.intro rfl (And.intro rfl (And.intro rfl trivial)))
set_option maxRecDepth 100000 in
set_option maxHeartbeats 8000000 in
theorem m_X0_leastOf (l : Launch) (X : gX) (N : Nat) (I : gI) (R : gR) (S : gS) (hL : gLay 6 75 R S) (a0 : Nat) (v : Int32) (J : gI) (hf : f_X0_leastOf N I R S a0 = some (v, J)) : gM l yX0_leastOf wsX0_leastOf { frames := 3, cells := 0, slots := 0, locals := 75 } X gE0 [.ref (X.1 + 56), .ref (X.1 + a0)] I R S (some (.int v)) J R S 0 0 := by
  unfold f_X0_leastOf at hf
  refine gM_of (cc := cX0_leastOf) (own := RX0) (maxL := 5) (ret := (some .int)) (by decide) rfl rfl (Nat.le_of_ble_eq_true rfl) ?_
  intro p e s m args below meth c C hr hlk hnm hE
  have ho : (some (v, J)) ≠ none := fun h => by cases h
  have f57 := C.2.2.2.2.1 (.fieldLink RX0 57 "TimesByPowers$Action" "n" "I") (by decide +kernel)
  have c0 : gCl wsX0_leastOf 0 RX0 TX0 12 := ⟨by decide, rfl, rfl, by decide +kernel⟩
  have f40 := C.2.2.2.2.1 (.fieldLink RX0 40 "TimesByPowers$Action" "elements" "LTimesByPowers$Field;") (by decide +kernel)
  have f83 := C.2.2.2.2.1 (.fieldLink RX0 83 "TimesByPowers$Field" "place" "[I") (by decide +kernel)
  have c2 : gCl wsX0_leastOf 2 RX2 TX2 8 := ⟨by decide, rfl, rfl, by decide +kernel⟩
  have f20 := C.2.2.2.2.1 (.fieldLink RX0 20 "TimesByPowers$Action" "points" "[[I") (by decide +kernel)
  have f44 := C.2.2.2.2.1 (.fieldLink RX0 44 "TimesByPowers$Action" "span" "LTimesByPowers$Span;") (by decide +kernel)
  obtain ⟨hwa0, hf⟩ := gcase hf ho
  refine g_aload_n C dX0_leastOf_0 rfl rfl ?_
  refine g_aload_n C dX0_leastOf_1 rfl rfl ?_
  obtain ⟨z1, hz1, hf⟩ := gbind hf ho
  refine g_callV C dX0_leastOf_2 (m_X0_actBy l X N _ _ _  (gLay.sub hL (by decide) (by decide)) _ z1 hz1) gEin0 (cwV 1 C.2.2.2.2.1 gX0_leastOf_X0_actBy rfl rfl rfl (by decide +kernel) ⟨Nat.le_of_ble_eq_true rfl, Nat.le_of_ble_eq_true rfl⟩) (L56 hL (by decide) (by decide)) (by decide) rfl rfl rfl (Nat.le_of_ble_eq_true rfl) ⟨Nat.le_of_ble_eq_true rfl, Nat.le_of_ble_eq_true rfl⟩ ?_
  refine g_iconst (v := 0) C dX0_leastOf_5 (by decide) ?_
  refine g_istore_n C dX0_leastOf_6 rfl (Nat.le_of_ble_eq_true rfl) rfl rfl ?_
  refine g_loop (fun z2 => [(0, .ref (X.1 + 56)), (2, .int z2.1)]) (fun z2 => z2.2) (fun r3 => [(0, .ref (X.1 + 56))]) (fun r3 => r3) 43 hf ho (And.intro rfl (And.intro rfl trivial)) rfl (fun r3 hf => ?_) (fun z2 o1 hf ho hkz2 hez2 => ?_)
  · refine g_aload_n C dX0_leastOf_43 rfl rfl ?_
    refine g_getR (i := 1) (j := 1) C dX0_leastOf_44 (L56 hL (by decide) (by decide)) c0 rfl (by decide) f44 (fun _ h9 => h9) (LR56_1 hL (by decide) (by decide)) ?_
    refine g_aload_n C dX0_leastOf_47 rfl rfl ?_
    refine g_getI (i := 3) (j := 3) C dX0_leastOf_48 (L56 hL (by decide) (by decide)) c0 rfl f57 (fun _ h9 => h9) ?_
    refine g_aload_n C dX0_leastOf_51 rfl rfl ?_
    refine g_getI (i := 3) (j := 3) C dX0_leastOf_52 (L56 hL (by decide) (by decide)) c0 rfl f57 (fun _ h9 => h9) ?_
    refine g_imul C dX0_leastOf_55 ?_
    obtain ⟨z6, hz6, hf⟩ := gbind hf ho
    refine g_callV C dX0_leastOf_56 (m_X6_begin l X N _ _ _  (gLay.sub hL (by decide) (by decide)) _ z6 hz6) gEin0 (cwV 1 C.2.2.2.2.1 gX0_leastOf_X6_begin rfl rfl rfl (by decide +kernel) ⟨Nat.le_of_ble_eq_true rfl, Nat.le_of_ble_eq_true rfl⟩) (L17 hL (by decide) (by decide)) (by decide) rfl rfl rfl (Nat.le_of_ble_eq_true rfl) ⟨Nat.le_of_ble_eq_true rfl, Nat.le_of_ble_eq_true rfl⟩ ?_
    refine g_iconst (v := 0) C dX0_leastOf_59 (by decide) ?_
    refine g_istore_n C dX0_leastOf_60 rfl (Nat.le_of_ble_eq_true rfl) rfl rfl ?_
    refine g_iconst (v := 0) C dX0_leastOf_61 (by decide) ?_
    refine g_istore_n C dX0_leastOf_62 rfl (Nat.le_of_ble_eq_true rfl) rfl rfl ?_
    refine g_loop (fun z7 => [(0, .ref (X.1 + 56)), (2, .int z7.1), (3, .int z7.2.1)]) (fun z7 => z7.2.2) (fun r8 => [(2, .int r8.1)]) (fun r8 => r8.2) 139 hf ho (And.intro rfl (And.intro rfl (And.intro rfl trivial))) rfl (fun r8 hf => ?_) (fun z7 o1 hf ho hkz7 hez7 => ?_)
    · refine g_iload_n C dX0_leastOf_139 rfl rfl ?_
      obtain ⟨rfl, rfl⟩ := gs2 hf
      exact g_iret C dX0_leastOf_140 hr hlk
    · refine g_iload_n C dX0_leastOf_63 rfl rfl ?_
      refine g_aload_n C dX0_leastOf_64 rfl rfl ?_
      refine g_getI (i := 3) (j := 3) C dX0_leastOf_65 (L56 hL (by decide) (by decide)) c0 rfl f57 (fun _ h9 => h9) ?_
      refine g_icmp_gt (tgt := 139) C dX0_leastOf_68 (by decide) hf (fun hf => ?_) (fun hf => ?_)
      · have hx := hez7 _ hf.symm
        refine g_sub ?_ hx
        exact (And.intro rfl trivial)
      · refine g_iload_n C dX0_leastOf_71 rfl rfl ?_
        refine g_if_ne (tgt := 139) C dX0_leastOf_72 (by decide) hf (fun hf => ?_) (fun hf => ?_)
        · have hx := hez7 _ hf.symm
          refine g_sub ?_ hx
          exact (And.intro rfl trivial)
        · refine g_iconst (v := 0) C dX0_leastOf_75 (by decide) ?_
          refine g_istore C dX0_leastOf_76 (Nat.le_of_ble_eq_true rfl) rfl rfl ?_
          refine g_loop (fun z9 => [(0, .ref (X.1 + 56)), (3, .int z7.2.1), (4, .int z9.1)]) (fun z9 => z9.2) (fun r10 => [(0, .ref (X.1 + 56)), (3, .int z7.2.1)]) (fun r10 => r10) 125 hf ho (And.intro rfl (And.intro rfl (And.intro rfl trivial))) rfl (fun r10 hf => ?_) (fun z9 o1 hf ho hkz9 hez9 => ?_)
          · refine g_aload_n C dX0_leastOf_125 rfl rfl ?_
            refine g_getR (i := 1) (j := 1) C dX0_leastOf_126 (L56 hL (by decide) (by decide)) c0 rfl (by decide) f44 (fun _ h9 => h9) (LR56_1 hL (by decide) (by decide)) ?_
            obtain ⟨z15, hz15, hf⟩ := gbind hf ho
            refine g_callV C dX0_leastOf_129 (m_X6_feed l X N _ _ _  (gLay.sub hL (by decide) (by decide))  z15.1 z15.2 hz15) gEin0 (cwV 0 C.2.2.2.2.1 gX0_leastOf_X6_feed rfl rfl rfl (by decide +kernel) ⟨Nat.le_of_ble_eq_true rfl, Nat.le_of_ble_eq_true rfl⟩) (L17 hL (by decide) (by decide)) (by decide) rfl rfl rfl (Nat.le_of_ble_eq_true rfl) ⟨Nat.le_of_ble_eq_true rfl, Nat.le_of_ble_eq_true rfl⟩ ?_
            refine g_istore_n C dX0_leastOf_132 rfl (Nat.le_of_ble_eq_true rfl) rfl rfl ?_
            refine g_iinc (d := 1) C dX0_leastOf_133 rfl (by decide) rfl (Nat.le_of_ble_eq_true rfl) rfl rfl ?_
            refine g_goto (tgt := 63) C dX0_leastOf_136 (by decide) ?_
            have hx := hkz7 _ hf.symm
            refine g_sub ?_ hx
            exact (And.intro rfl (And.intro rfl (And.intro rfl trivial)))
          · refine g_iload C dX0_leastOf_78 rfl ?_
            refine g_aload_n C dX0_leastOf_80 rfl rfl ?_
            refine g_getI (i := 3) (j := 3) C dX0_leastOf_81 (L56 hL (by decide) (by decide)) c0 rfl f57 (fun _ h9 => h9) ?_
            refine g_icmp_ge (tgt := 125) C dX0_leastOf_84 (by decide) hf (fun hf => ?_) (fun hf => ?_)
            · have hx := hez9 _ hf.symm
              refine g_sub ?_ hx
              exact (And.intro rfl (And.intro rfl trivial))
            · refine g_aload_n C dX0_leastOf_87 rfl rfl ?_
              refine g_getR (i := 1) (j := 1) C dX0_leastOf_88 (L56 hL (by decide) (by decide)) c0 rfl (by decide) f44 (fun _ h9 => h9) (LR56_1 hL (by decide) (by decide)) ?_
              refine g_iload C dX0_leastOf_91 rfl ?_
              refine g_aload_n C dX0_leastOf_93 rfl rfl ?_
              refine g_getI (i := 3) (j := 3) C dX0_leastOf_94 (L56 hL (by decide) (by decide)) c0 rfl f57 (fun _ h9 => h9) ?_
              refine g_imul C dX0_leastOf_97 ?_
              refine g_aload_n C dX0_leastOf_98 rfl rfl ?_
              refine g_getR (i := 6) (j := 6) C dX0_leastOf_99 (L56 hL (by decide) (by decide)) c0 rfl (by decide) f20 (fun _ h9 => h9) (LR56_6 hL (by decide) (by decide)) ?_
              refine g_iload C dX0_leastOf_102 rfl ?_
              refine g_aaldG 1 (fun j => 65 + j) C dX0_leastOf_104 (by decide) (L64 hL (by decide) (by decide)) rfl rfl (fun j hj => LG64 hL (by decide) (by decide) hj) ho hf (fun hj11 hf => ?_)
              obtain ⟨z12, hz12, hf⟩ := gbind hf ho
              refine g_callV C dX0_leastOf_105 (m_X6_putNumbers l X N _ _ _  (gLay.sub hL (by decide) (by decide)) _ _ z12 hz12) gEin0 (cwV 2 C.2.2.2.2.1 gX0_leastOf_X6_putNumbers rfl rfl rfl (by decide +kernel) ⟨Nat.le_of_ble_eq_true rfl, Nat.le_of_ble_eq_true rfl⟩) (L17 hL (by decide) (by decide)) (by decide) rfl rfl rfl (Nat.le_of_ble_eq_true rfl) ⟨Nat.le_of_ble_eq_true rfl, Nat.le_of_ble_eq_true rfl⟩ ?_
              refine g_aload_n C dX0_leastOf_108 rfl rfl ?_
              refine g_aload_n C dX0_leastOf_109 rfl rfl ?_
              refine g_getR (i := 6) (j := 6) C dX0_leastOf_110 (L56 hL (by decide) (by decide)) c0 rfl (by decide) f20 (fun _ h9 => h9) (LR56_6 hL (by decide) (by decide)) ?_
              refine g_iload C dX0_leastOf_113 rfl ?_
              refine g_aaldG 1 (fun j => 65 + j) C dX0_leastOf_115 (by decide) (L64 hL (by decide) (by decide)) rfl rfl (fun j hj => LG64 hL (by decide) (by decide) hj) ho hf (fun hj13 hf => ?_)
              obtain ⟨z14, hz14, hf⟩ := gbind hf ho
              refine g_callV C dX0_leastOf_116 (m_X0_step l X N _ _ _  (gLay.sub hL (by decide) (by decide)) _ z14 hz14) gEin0 (cwV 1 C.2.2.2.2.1 gX0_leastOf_X0_step rfl rfl rfl (by decide +kernel) ⟨Nat.le_of_ble_eq_true rfl, Nat.le_of_ble_eq_true rfl⟩) (L56 hL (by decide) (by decide)) (by decide) rfl rfl rfl (Nat.le_of_ble_eq_true rfl) ⟨Nat.le_of_ble_eq_true rfl, Nat.le_of_ble_eq_true rfl⟩ ?_
              refine g_iinc (d := 1) C dX0_leastOf_119 rfl (by decide) rfl (Nat.le_of_ble_eq_true rfl) rfl rfl ?_
              refine g_goto (tgt := 78) C dX0_leastOf_122 (by decide) ?_
              have hx := hkz9 _ hf.symm
              refine g_sub ?_ hx
              exact (And.intro rfl (And.intro rfl (And.intro rfl trivial)))
  · refine g_iload_n C dX0_leastOf_7 rfl rfl ?_
    refine g_aload_n C dX0_leastOf_8 rfl rfl ?_
    refine g_getI (i := 3) (j := 3) C dX0_leastOf_9 (L56 hL (by decide) (by decide)) c0 rfl f57 (fun _ h9 => h9) ?_
    refine g_icmp_ge (tgt := 43) C dX0_leastOf_12 (by decide) hf (fun hf => ?_) (fun hf => ?_)
    · have hx := hez2 _ hf.symm
      refine g_sub ?_ hx
      exact (And.intro rfl trivial)
    · refine g_aload_n C dX0_leastOf_15 rfl rfl ?_
      refine g_getR (i := 0) (j := 0) C dX0_leastOf_16 (L56 hL (by decide) (by decide)) c0 rfl (by decide) f40 (fun _ h9 => h9) (LR56_0 hL (by decide) (by decide)) ?_
      refine g_aload_n C dX0_leastOf_19 rfl rfl ?_
      refine g_getR (i := 0) (j := 0) C dX0_leastOf_20 (L56 hL (by decide) (by decide)) c0 rfl (by decide) f40 (fun _ h9 => h9) (LR56_0 hL (by decide) (by decide)) ?_
      refine g_getR (i := 4) (j := 4) C dX0_leastOf_23 (L6 hL (by decide) (by decide)) c2 rfl (by decide) f83 (fun _ h9 => h9) (LR6_4 hL (by decide) (by decide)) ?_
      refine g_iload_n C dX0_leastOf_26 rfl rfl ?_
      refine g_iald C dX0_leastOf_27 (L7 hL (by decide) (by decide)) ho hf (fun hf => ?_)
      refine g_aload_n C dX0_leastOf_28 rfl rfl ?_
      refine g_getR (i := 6) (j := 6) C dX0_leastOf_29 (L56 hL (by decide) (by decide)) c0 rfl (by decide) f20 (fun _ h9 => h9) (LR56_6 hL (by decide) (by decide)) ?_
      refine g_iload_n C dX0_leastOf_32 rfl rfl ?_
      refine g_aaldG 1 (fun j => 65 + j) C dX0_leastOf_33 (by decide) (L64 hL (by decide) (by decide)) rfl rfl (fun j hj => LG64 hL (by decide) (by decide) hj) ho hf (fun hj4 hf => ?_)
      obtain ⟨z5, hz5, hf⟩ := gbind hf ho
      refine g_callV C dX0_leastOf_34 (m_X2_split l X N _ _ _  (gLay.sub hL (by decide) (by decide)) _ _ z5 hz5) gEin0 (cwV 2 C.2.2.2.2.1 gX0_leastOf_X2_split rfl rfl rfl (by decide +kernel) ⟨Nat.le_of_ble_eq_true rfl, Nat.le_of_ble_eq_true rfl⟩) (L6 hL (by decide) (by decide)) (by decide) rfl rfl rfl (Nat.le_of_ble_eq_true rfl) ⟨Nat.le_of_ble_eq_true rfl, Nat.le_of_ble_eq_true rfl⟩ ?_
      refine g_iinc (d := 1) C dX0_leastOf_37 rfl (by decide) rfl (Nat.le_of_ble_eq_true rfl) rfl rfl ?_
      refine g_goto (tgt := 7) C dX0_leastOf_40 (by decide) ?_
      have hx := hkz2 _ hf.symm
      refine g_sub ?_ hx
      exact (And.intro rfl (And.intro rfl trivial))
set_option maxRecDepth 100000 in
set_option maxHeartbeats 8000000 in
theorem m_X0_kernelSize (l : Launch) (X : gX) (N : Nat) (I : gI) (R : gR) (S : gS) (hL : gLay 6 75 R S) (a0 : Nat) (a1 : Int32) (v : Int32) (J : gI) (hf : f_X0_kernelSize N I R S a0 a1 = some (v, J)) : gM l yX0_kernelSize wsX0_kernelSize { frames := 3, cells := 0, slots := 0, locals := 75 } X gE0 [.ref (X.1 + 56), .ref (X.1 + a0), .int a1] I R S (some (.int v)) J R S 0 0 := by
  unfold f_X0_kernelSize at hf
  refine gM_of (cc := cX0_kernelSize) (own := RX0) (maxL := 5) (ret := (some .int)) (by decide) rfl rfl (Nat.le_of_ble_eq_true rfl) ?_
  intro p e s m args below meth c C hr hlk hnm hE
  have ho : (some (v, J)) ≠ none := fun h => by cases h
  have f44 := C.2.2.2.2.1 (.fieldLink RX0 44 "TimesByPowers$Action" "span" "LTimesByPowers$Span;") (by decide +kernel)
  have c0 : gCl wsX0_kernelSize 0 RX0 TX0 12 := ⟨by decide, rfl, rfl, by decide +kernel⟩
  have f57 := C.2.2.2.2.1 (.fieldLink RX0 57 "TimesByPowers$Action" "n" "I") (by decide +kernel)
  have f36 := C.2.2.2.2.1 (.fieldLink RX0 36 "TimesByPowers$Action" "basisSize" "I") (by decide +kernel)
  have f40 := C.2.2.2.2.1 (.fieldLink RX0 40 "TimesByPowers$Action" "elements" "LTimesByPowers$Field;") (by decide +kernel)
  have f83 := C.2.2.2.2.1 (.fieldLink RX0 83 "TimesByPowers$Field" "place" "[I") (by decide +kernel)
  have c2 : gCl wsX0_kernelSize 2 RX2 TX2 8 := ⟨by decide, rfl, rfl, by decide +kernel⟩
  have f27 := C.2.2.2.2.1 (.fieldLink RX0 27 "TimesByPowers$Action" "start" "[I") (by decide +kernel)
  have f23 := C.2.2.2.2.1 (.fieldLink RX0 23 "TimesByPowers$Action" "point" "[I") (by decide +kernel)
  have f33 := C.2.2.2.2.1 (.fieldLink RX0 33 "TimesByPowers$Action" "basis" "[I") (by decide +kernel)
  obtain ⟨hwa0, hf⟩ := gcase hf ho
  refine g_aload_n C dX0_kernelSize_0 rfl rfl ?_
  refine g_aload_n C dX0_kernelSize_1 rfl rfl ?_
  obtain ⟨z1, hz1, hf⟩ := gbind hf ho
  refine g_callV C dX0_kernelSize_2 (m_X0_actBy l X N _ _ _  (gLay.sub hL (by decide) (by decide)) _ z1 hz1) gEin0 (cwV 1 C.2.2.2.2.1 gX0_kernelSize_X0_actBy rfl rfl rfl (by decide +kernel) ⟨Nat.le_of_ble_eq_true rfl, Nat.le_of_ble_eq_true rfl⟩) (L56 hL (by decide) (by decide)) (by decide) rfl rfl rfl (Nat.le_of_ble_eq_true rfl) ⟨Nat.le_of_ble_eq_true rfl, Nat.le_of_ble_eq_true rfl⟩ ?_
  refine g_aload_n C dX0_kernelSize_5 rfl rfl ?_
  refine g_getR (i := 1) (j := 1) C dX0_kernelSize_6 (L56 hL (by decide) (by decide)) c0 rfl (by decide) f44 (fun _ h9 => h9) (LR56_1 hL (by decide) (by decide)) ?_
  refine g_aload_n C dX0_kernelSize_9 rfl rfl ?_
  refine g_getI (i := 3) (j := 3) C dX0_kernelSize_10 (L56 hL (by decide) (by decide)) c0 rfl f57 (fun _ h9 => h9) ?_
  obtain ⟨z2, hz2, hf⟩ := gbind hf ho
  refine g_callV C dX0_kernelSize_13 (m_X6_begin l X N _ _ _  (gLay.sub hL (by decide) (by decide)) _ z2 hz2) gEin0 (cwV 1 C.2.2.2.2.1 gX0_kernelSize_X6_begin rfl rfl rfl (by decide +kernel) ⟨Nat.le_of_ble_eq_true rfl, Nat.le_of_ble_eq_true rfl⟩) (L17 hL (by decide) (by decide)) (by decide) rfl rfl rfl (Nat.le_of_ble_eq_true rfl) ⟨Nat.le_of_ble_eq_true rfl, Nat.le_of_ble_eq_true rfl⟩ ?_
  refine g_aload_n C dX0_kernelSize_16 rfl rfl ?_
  refine g_iconst (v := 0) C dX0_kernelSize_17 (by decide) ?_
  refine g_putI (i := 11) (j := 11) C dX0_kernelSize_18 (L56 hL (by decide) (by decide)) c0 gy0 rfl f36 (fun _ h9 => h9) (Or.inl rfl) rfl ?_
  refine g_iconst (v := 0) C dX0_kernelSize_21 (by decide) ?_
  refine g_istore_n C dX0_kernelSize_22 rfl (Nat.le_of_ble_eq_true rfl) rfl rfl ?_
  refine g_loop (fun z3 => [(0, .ref (X.1 + 56)), (2, .int a1), (3, .int z3.1)]) (fun z3 => z3.2) (fun r4 => [(0, .ref (X.1 + 56))]) (fun r4 => r4) 109 hf ho (And.intro rfl (And.intro rfl (And.intro rfl trivial))) rfl (fun r4 hf => ?_) (fun z3 o1 hf ho hkz3 hez3 => ?_)
  · refine g_aload_n C dX0_kernelSize_109 rfl rfl ?_
    refine g_getR (i := 0) (j := 0) C dX0_kernelSize_110 (L56 hL (by decide) (by decide)) c0 rfl (by decide) f40 (fun _ h9 => h9) (LR56_0 hL (by decide) (by decide)) ?_
    refine g_getR (i := 4) (j := 4) C dX0_kernelSize_113 (L6 hL (by decide) (by decide)) c2 rfl (by decide) f83 (fun _ h9 => h9) (LR6_4 hL (by decide) (by decide)) ?_
    refine g_aload_n C dX0_kernelSize_116 rfl rfl ?_
    refine g_getI (i := 11) (j := 11) C dX0_kernelSize_117 (L56 hL (by decide) (by decide)) c0 rfl f36 (fun _ h9 => h9) ?_
    refine g_iald C dX0_kernelSize_120 (L7 hL (by decide) (by decide)) ho hf (fun hf => ?_)
    obtain ⟨rfl, rfl⟩ := gs2 hf
    exact g_iret C dX0_kernelSize_121 hr hlk
  · refine g_iload_n C dX0_kernelSize_23 rfl rfl ?_
    refine g_aload_n C dX0_kernelSize_24 rfl rfl ?_
    refine g_getI (i := 3) (j := 3) C dX0_kernelSize_25 (L56 hL (by decide) (by decide)) c0 rfl f57 (fun _ h9 => h9) ?_
    refine g_icmp_ge (tgt := 109) C dX0_kernelSize_28 (by decide) hf (fun hf => ?_) (fun hf => ?_)
    · have hx := hez3 _ hf.symm
      refine g_sub ?_ hx
      exact (And.intro rfl trivial)
    · refine g_aload_n C dX0_kernelSize_31 rfl rfl ?_
      refine g_getR (i := 0) (j := 0) C dX0_kernelSize_32 (L56 hL (by decide) (by decide)) c0 rfl (by decide) f40 (fun _ h9 => h9) (LR56_0 hL (by decide) (by decide)) ?_
      refine g_aload_n C dX0_kernelSize_35 rfl rfl ?_
      refine g_getR (i := 0) (j := 0) C dX0_kernelSize_36 (L56 hL (by decide) (by decide)) c0 rfl (by decide) f40 (fun _ h9 => h9) (LR56_0 hL (by decide) (by decide)) ?_
      refine g_getR (i := 4) (j := 4) C dX0_kernelSize_39 (L6 hL (by decide) (by decide)) c2 rfl (by decide) f83 (fun _ h9 => h9) (LR6_4 hL (by decide) (by decide)) ?_
      refine g_iload_n C dX0_kernelSize_42 rfl rfl ?_
      refine g_iald C dX0_kernelSize_43 (L7 hL (by decide) (by decide)) ho hf (fun hf => ?_)
      refine g_aload_n C dX0_kernelSize_44 rfl rfl ?_
      refine g_getR (i := 8) (j := 8) C dX0_kernelSize_45 (L56 hL (by decide) (by decide)) c0 rfl (by decide) f27 (fun _ h9 => h9) (LR56_8 hL (by decide) (by decide)) ?_
      obtain ⟨z5, hz5, hf⟩ := gbind hf ho
      refine g_callV C dX0_kernelSize_48 (m_X2_split l X N _ _ _  (gLay.sub hL (by decide) (by decide)) _ _ z5 hz5) gEin0 (cwV 2 C.2.2.2.2.1 gX0_kernelSize_X2_split rfl rfl rfl (by decide +kernel) ⟨Nat.le_of_ble_eq_true rfl, Nat.le_of_ble_eq_true rfl⟩) (L6 hL (by decide) (by decide)) (by decide) rfl rfl rfl (Nat.le_of_ble_eq_true rfl) ⟨Nat.le_of_ble_eq_true rfl, Nat.le_of_ble_eq_true rfl⟩ ?_
      refine g_aload_n C dX0_kernelSize_51 rfl rfl ?_
      refine g_iload_n C dX0_kernelSize_52 rfl rfl ?_
      obtain ⟨z6, hz6, hf⟩ := gbind hf ho
      refine g_callV C dX0_kernelSize_53 (m_X0_follow l X N _ _ _  (gLay.sub hL (by decide) (by decide)) _ z6 hz6) gEin0 (cwV 1 C.2.2.2.2.1 gX0_kernelSize_X0_follow rfl rfl rfl (by decide +kernel) ⟨Nat.le_of_ble_eq_true rfl, Nat.le_of_ble_eq_true rfl⟩) (L56 hL (by decide) (by decide)) (by decide) rfl rfl rfl (Nat.le_of_ble_eq_true rfl) ⟨Nat.le_of_ble_eq_true rfl, Nat.le_of_ble_eq_true rfl⟩ ?_
      refine g_aload_n C dX0_kernelSize_56 rfl rfl ?_
      refine g_getR (i := 1) (j := 1) C dX0_kernelSize_57 (L56 hL (by decide) (by decide)) c0 rfl (by decide) f44 (fun _ h9 => h9) (LR56_1 hL (by decide) (by decide)) ?_
      refine g_iconst (v := 0) C dX0_kernelSize_60 (by decide) ?_
      refine g_aload_n C dX0_kernelSize_61 rfl rfl ?_
      refine g_getR (i := 7) (j := 7) C dX0_kernelSize_62 (L56 hL (by decide) (by decide)) c0 rfl (by decide) f23 (fun _ h9 => h9) (LR56_7 hL (by decide) (by decide)) ?_
      obtain ⟨z7, hz7, hf⟩ := gbind hf ho
      refine g_callV C dX0_kernelSize_65 (m_X6_putNumbers l X N _ _ _  (gLay.sub hL (by decide) (by decide)) _ _ z7 hz7) gEin0 (cwV 2 C.2.2.2.2.1 gX0_kernelSize_X6_putNumbers rfl rfl rfl (by decide +kernel) ⟨Nat.le_of_ble_eq_true rfl, Nat.le_of_ble_eq_true rfl⟩) (L17 hL (by decide) (by decide)) (by decide) rfl rfl rfl (Nat.le_of_ble_eq_true rfl) ⟨Nat.le_of_ble_eq_true rfl, Nat.le_of_ble_eq_true rfl⟩ ?_
      refine g_aload_n C dX0_kernelSize_68 rfl rfl ?_
      refine g_getR (i := 1) (j := 1) C dX0_kernelSize_69 (L56 hL (by decide) (by decide)) c0 rfl (by decide) f44 (fun _ h9 => h9) (LR56_1 hL (by decide) (by decide)) ?_
      obtain ⟨z8, hz8, hf⟩ := gbind hf ho
      refine g_callV C dX0_kernelSize_72 (m_X6_feed l X N _ _ _  (gLay.sub hL (by decide) (by decide))  z8.1 z8.2 hz8) gEin0 (cwV 0 C.2.2.2.2.1 gX0_kernelSize_X6_feed rfl rfl rfl (by decide +kernel) ⟨Nat.le_of_ble_eq_true rfl, Nat.le_of_ble_eq_true rfl⟩) (L17 hL (by decide) (by decide)) (by decide) rfl rfl rfl (Nat.le_of_ble_eq_true rfl) ⟨Nat.le_of_ble_eq_true rfl, Nat.le_of_ble_eq_true rfl⟩ ?_
      refine g_istore C dX0_kernelSize_75 (Nat.le_of_ble_eq_true rfl) rfl rfl ?_
      refine g_iload C dX0_kernelSize_77 rfl ?_
      refine g_if_eq (tgt := 103) C dX0_kernelSize_79 (by decide) hf (fun hf => ?_) (fun hf => ?_)
      · refine g_iinc (d := 1) C dX0_kernelSize_103 rfl (by decide) rfl (Nat.le_of_ble_eq_true rfl) rfl rfl ?_
        refine g_goto (tgt := 23) C dX0_kernelSize_106 (by decide) ?_
        have hx := hkz3 _ hf.symm
        refine g_sub ?_ hx
        exact (And.intro rfl (And.intro rfl (And.intro rfl trivial)))
      · refine g_aload_n C dX0_kernelSize_82 rfl rfl ?_
        refine g_getR (i := 10) (j := 10) C dX0_kernelSize_83 (L56 hL (by decide) (by decide)) c0 rfl (by decide) f33 (fun _ h9 => h9) (LR56_10 hL (by decide) (by decide)) ?_
        refine g_aload_n C dX0_kernelSize_86 rfl rfl ?_
        refine g_getI (i := 11) (j := 11) C dX0_kernelSize_87 (L56 hL (by decide) (by decide)) c0 rfl f36 (fun _ h9 => h9) ?_
        refine g_iload C dX0_kernelSize_90 rfl ?_
        refine g_iast C dX0_kernelSize_92 (L74 hL (by decide) (by decide)) ho hf (fun hf => ?_)
        refine g_aload_n C dX0_kernelSize_93 rfl rfl ?_
        refine g_dup C dX0_kernelSize_94 rfl ?_
        refine g_getI (i := 11) (j := 11) C dX0_kernelSize_95 (L56 hL (by decide) (by decide)) c0 rfl f36 (fun _ h9 => h9) ?_
        refine g_iconst (v := 1) C dX0_kernelSize_98 (by decide) ?_
        refine g_iadd C dX0_kernelSize_99 ?_
        refine g_putI (i := 11) (j := 11) C dX0_kernelSize_100 (L56 hL (by decide) (by decide)) c0 gy0 rfl f36 (fun _ h9 => h9) (Or.inl rfl) rfl ?_
        refine g_iinc (d := 1) C dX0_kernelSize_103 rfl (by decide) rfl (Nat.le_of_ble_eq_true rfl) rfl rfl ?_
        refine g_goto (tgt := 23) C dX0_kernelSize_106 (by decide) ?_
        have hx := hkz3 _ hf.symm
        refine g_sub ?_ hx
        exact (And.intro rfl (And.intro rfl (And.intro rfl trivial)))
set_option maxRecDepth 100000 in
set_option maxHeartbeats 8000000 in
theorem m_X0_kernelItem (l : Launch) (X : gX) (N : Nat) (I : gI) (R : gR) (S : gS) (hL : gLay 6 75 R S) (a0 : Int32) (v : Int32) (J : gI) (hf : f_X0_kernelItem N I R S a0 = some (v, J)) : gM l yX0_kernelItem wsX0_kernelItem { frames := 1, cells := 0, slots := 0, locals := 24 } X gE0 [.ref (X.1 + 56), .int a0] I R S (some (.int v)) J R S 0 0 := by
  unfold f_X0_kernelItem at hf
  refine gM_of (cc := cX0_kernelItem) (own := RX0) (maxL := 3) (ret := (some .int)) (by decide) rfl rfl (Nat.le_of_ble_eq_true rfl) ?_
  intro p e s m args below meth c C hr hlk hnm hE
  have ho : (some (v, J)) ≠ none := fun h => by cases h
  have f36 := C.2.2.2.2.1 (.fieldLink RX0 36 "TimesByPowers$Action" "basisSize" "I") (by decide +kernel)
  have c0 : gCl wsX0_kernelItem 0 RX0 TX0 12 := ⟨by decide, rfl, rfl, by decide +kernel⟩
  have f40 := C.2.2.2.2.1 (.fieldLink RX0 40 "TimesByPowers$Action" "elements" "LTimesByPowers$Field;") (by decide +kernel)
  have f33 := C.2.2.2.2.1 (.fieldLink RX0 33 "TimesByPowers$Action" "basis" "[I") (by decide +kernel)
  refine g_iconst (v := 0) C dX0_kernelItem_0 (by decide) ?_
  refine g_istore_n C dX0_kernelItem_1 rfl (Nat.le_of_ble_eq_true rfl) rfl rfl ?_
  refine g_loop (fun z1 => [(0, .ref (X.1 + 56)), (1, .int a0), (2, .int z1.1)]) (fun z1 => z1.2) (fun r2 => [(0, .ref (X.1 + 56))]) (fun r2 => r2) 38 hf ho (And.intro rfl (And.intro rfl (And.intro rfl trivial))) rfl (fun r2 hf => ?_) (fun z1 o1 hf ho hkz1 hez1 => ?_)
  · refine g_aload_n C dX0_kernelItem_38 rfl rfl ?_
    refine g_getR (i := 0) (j := 0) C dX0_kernelItem_39 (L56 hL (by decide) (by decide)) c0 rfl (by decide) f40 (fun _ h9 => h9) (LR56_0 hL (by decide) (by decide)) ?_
    obtain ⟨z5, hz5, hf⟩ := gbind hf ho
    refine g_callV C dX0_kernelItem_42 (m_X2_folded l X N _ _ _  (gLay.sub hL (by decide) (by decide))  z5.1 z5.2 hz5) gEin0 (cwV 0 C.2.2.2.2.1 gX0_kernelItem_X2_folded rfl rfl rfl (by decide +kernel) ⟨Nat.le_of_ble_eq_true rfl, Nat.le_of_ble_eq_true rfl⟩) (L6 hL (by decide) (by decide)) (by decide) rfl rfl rfl (Nat.le_of_ble_eq_true rfl) ⟨Nat.le_of_ble_eq_true rfl, Nat.le_of_ble_eq_true rfl⟩ ?_
    obtain ⟨rfl, rfl⟩ := gs2 hf
    exact g_iret C dX0_kernelItem_45 hr hlk
  · refine g_iload_n C dX0_kernelItem_2 rfl rfl ?_
    refine g_aload_n C dX0_kernelItem_3 rfl rfl ?_
    refine g_getI (i := 11) (j := 11) C dX0_kernelItem_4 (L56 hL (by decide) (by decide)) c0 rfl f36 (fun _ h9 => h9) ?_
    refine g_icmp_ge (tgt := 38) C dX0_kernelItem_7 (by decide) hf (fun hf => ?_) (fun hf => ?_)
    · have hx := hez1 _ hf.symm
      refine g_sub ?_ hx
      exact (And.intro rfl trivial)
    · refine g_aload_n C dX0_kernelItem_10 rfl rfl ?_
      refine g_getR (i := 0) (j := 0) C dX0_kernelItem_11 (L56 hL (by decide) (by decide)) c0 rfl (by decide) f40 (fun _ h9 => h9) (LR56_0 hL (by decide) (by decide)) ?_
      refine g_aload_n C dX0_kernelItem_14 rfl rfl ?_
      refine g_getR (i := 10) (j := 10) C dX0_kernelItem_15 (L56 hL (by decide) (by decide)) c0 rfl (by decide) f33 (fun _ h9 => h9) (LR56_10 hL (by decide) (by decide)) ?_
      refine g_iload_n C dX0_kernelItem_18 rfl rfl ?_
      refine g_iald C dX0_kernelItem_19 (L74 hL (by decide) (by decide)) ho hf (fun hf => ?_)
      refine g_aload_n C dX0_kernelItem_20 rfl rfl ?_
      refine g_getR (i := 0) (j := 0) C dX0_kernelItem_21 (L56 hL (by decide) (by decide)) c0 rfl (by decide) f40 (fun _ h9 => h9) (LR56_0 hL (by decide) (by decide)) ?_
      refine g_iload_n C dX0_kernelItem_24 rfl rfl ?_
      refine g_iload_n C dX0_kernelItem_25 rfl rfl ?_
      obtain ⟨z3, hz3, hf⟩ := gbind hf ho
      refine g_callV C dX0_kernelItem_26 (m_X2_numberAt l X N _ _ _  (gLay.sub hL (by decide) (by decide)) _ _ z3 hz3) gEin0 (cwV 2 C.2.2.2.2.1 gX0_kernelItem_X2_numberAt rfl rfl rfl (by decide +kernel) ⟨Nat.le_of_ble_eq_true rfl, Nat.le_of_ble_eq_true rfl⟩) (L6 hL (by decide) (by decide)) (by decide) rfl rfl rfl (Nat.le_of_ble_eq_true rfl) ⟨Nat.le_of_ble_eq_true rfl, Nat.le_of_ble_eq_true rfl⟩ ?_
      obtain ⟨z4, hz4, hf⟩ := gbind hf ho
      refine g_callV C dX0_kernelItem_29 (m_X2_addTimes l X N _ _ _  (gLay.sub hL (by decide) (by decide)) _ _ z4 hz4) gEin0 (cwV 2 C.2.2.2.2.1 gX0_kernelItem_X2_addTimes rfl rfl rfl (by decide +kernel) ⟨Nat.le_of_ble_eq_true rfl, Nat.le_of_ble_eq_true rfl⟩) (L6 hL (by decide) (by decide)) (by decide) rfl rfl rfl (Nat.le_of_ble_eq_true rfl) ⟨Nat.le_of_ble_eq_true rfl, Nat.le_of_ble_eq_true rfl⟩ ?_
      refine g_iinc (d := 1) C dX0_kernelItem_32 rfl (by decide) rfl (Nat.le_of_ble_eq_true rfl) rfl rfl ?_
      refine g_goto (tgt := 2) C dX0_kernelItem_35 (by decide) ?_
      have hx := hkz1 _ hf.symm
      refine g_sub ?_ hx
      exact (And.intro rfl (And.intro rfl (And.intro rfl trivial)))
set_option maxRecDepth 100000 in
set_option maxHeartbeats 8000000 in
theorem m_X10_init (l : Launch) (X : gX) (N : Nat) (I : gI) (R : gR) (S : gS) (w : Nat) (a0 : Nat) (a1 : Int32) (a2 : Int32) (a3 : Int32) (J : gI) (P : gR) (T : gS) (hf : f_X10_init N I R S w a0 a1 a2 a3 = some (J, P, T)) : gM l yX10_init wsX10_init { frames := 1, cells := 0, slots := 0, locals := 20 } X gE0 [.ref (X.1 + w), .ref (X.1 + a0), .int a1, .int a2, .int a3] I R S none J P T 0 0 := by
  unfold f_X10_init at hf
  refine gM_of (cc := cX10_init) (own := RX10) (maxL := 5) (ret := none) (by decide) rfl rfl (Nat.le_of_ble_eq_true rfl) ?_
  intro p e s m args below meth c C hr hlk hnm hE
  have ho : (some (J, P, T)) ≠ none := fun h => by cases h
  have m1 := C.2.2.2.2.1 (.methodLink RX10 1 objectInit) (by decide +kernel)
  have oi := C.2.2.2.2.1 (.instanceMethod objectInit) (by decide +kernel)
  have oc := C.2.2.2.2.1 (.code objectInit ⟨#[0xb1]⟩ 1 none) (by first | exact List.mem_cons_of_mem _ (List.mem_append_left _ (List.mem_of_getElem? (i := 2) rfl)) | decide +kernel)
  have f7 := C.2.2.2.2.1 (.fieldLink RX10 7 "TimesByPowers$World" "t" "[I") (by decide +kernel)
  have c1 : gCl wsX10_init 1 RX1 TX1 4 := ⟨by decide, rfl, rfl, by decide +kernel⟩
  have f13 := C.2.2.2.2.1 (.fieldLink RX10 13 "TimesByPowers$World" "\x72" "I") (by decide +kernel)
  have f17 := C.2.2.2.2.1 (.fieldLink RX10 17 "TimesByPowers$World" "own" "I") (by decide +kernel)
  have f20 := C.2.2.2.2.1 (.fieldLink RX10 20 "TimesByPowers$World" "d" "I") (by decide +kernel)
  have c3 : gCl wsX10_init 3 RX3 TX3 4 := ⟨by decide, rfl, rfl, by decide +kernel⟩
  have c4 : gCl wsX10_init 4 RX4 TX4 5 := ⟨by decide, rfl, rfl, by decide +kernel⟩
  have c7 : gCl wsX10_init 7 RX7 TX7 5 := ⟨by decide, rfl, rfl, by decide +kernel⟩
  obtain ⟨hk, hf⟩ := gcase hf ho
  rcases gKb_k hk with hk | hk | hk | hk
  · refine g_aload_n C dX10_init_0 rfl rfl ?_
    refine g_objInit C dX10_init_1 m1 oi oc (Nat.le_of_ble_eq_true rfl) (Nat.le_of_ble_eq_true rfl) ?_
    refine g_aload_n C dX10_init_4 rfl rfl ?_
    refine g_aload_n C dX10_init_5 rfl rfl ?_
    refine g_putR (i := 0) (j := 0) C dX10_init_6 hk c1 gy1 rfl (by decide) f7 (fun _ h9 => h9) (Or.inr ⟨rfl, hnm, rfl⟩) (fun _ => ⟨rfl, rfl⟩) ?_
    refine g_aload_n C dX10_init_9 rfl rfl ?_
    refine g_iload_n C dX10_init_10 rfl rfl ?_
    refine g_putI (i := 1) (j := 1) C dX10_init_11 hk c1 gy1 rfl f13 (fun _ h9 => h9) (Or.inr ⟨rfl, hnm, rfl⟩) rfl ?_
    refine g_aload_n C dX10_init_14 rfl rfl ?_
    refine g_iload_n C dX10_init_15 rfl rfl ?_
    refine g_putI (i := 2) (j := 2) C dX10_init_16 hk c1 gy1 rfl f17 (fun _ h9 => h9) (Or.inr ⟨rfl, hnm, rfl⟩) rfl ?_
    refine g_aload_n C dX10_init_19 rfl rfl ?_
    refine g_iload C dX10_init_20 rfl ?_
    refine g_putI (i := 3) (j := 3) C dX10_init_22 hk c1 gy1 rfl f20 (fun _ h9 => h9) (Or.inr ⟨rfl, hnm, rfl⟩) rfl ?_
    obtain ⟨rfl, rfl, rfl⟩ := gs3 hf
    exact g_vret C dX10_init_25 hr hlk
  · refine g_aload_n C dX10_init_0 rfl rfl ?_
    refine g_objInit C dX10_init_1 m1 oi oc (Nat.le_of_ble_eq_true rfl) (Nat.le_of_ble_eq_true rfl) ?_
    refine g_aload_n C dX10_init_4 rfl rfl ?_
    refine g_aload_n C dX10_init_5 rfl rfl ?_
    refine g_putR (i := 0) (j := 0) C dX10_init_6 hk c3 gy3 rfl (by decide) f7 (fun _ h9 => h9) (Or.inr ⟨rfl, hnm, rfl⟩) (fun _ => ⟨rfl, rfl⟩) ?_
    refine g_aload_n C dX10_init_9 rfl rfl ?_
    refine g_iload_n C dX10_init_10 rfl rfl ?_
    refine g_putI (i := 1) (j := 1) C dX10_init_11 hk c3 gy3 rfl f13 (fun _ h9 => h9) (Or.inr ⟨rfl, hnm, rfl⟩) rfl ?_
    refine g_aload_n C dX10_init_14 rfl rfl ?_
    refine g_iload_n C dX10_init_15 rfl rfl ?_
    refine g_putI (i := 2) (j := 2) C dX10_init_16 hk c3 gy3 rfl f17 (fun _ h9 => h9) (Or.inr ⟨rfl, hnm, rfl⟩) rfl ?_
    refine g_aload_n C dX10_init_19 rfl rfl ?_
    refine g_iload C dX10_init_20 rfl ?_
    refine g_putI (i := 3) (j := 3) C dX10_init_22 hk c3 gy3 rfl f20 (fun _ h9 => h9) (Or.inr ⟨rfl, hnm, rfl⟩) rfl ?_
    obtain ⟨rfl, rfl, rfl⟩ := gs3 hf
    exact g_vret C dX10_init_25 hr hlk
  · refine g_aload_n C dX10_init_0 rfl rfl ?_
    refine g_objInit C dX10_init_1 m1 oi oc (Nat.le_of_ble_eq_true rfl) (Nat.le_of_ble_eq_true rfl) ?_
    refine g_aload_n C dX10_init_4 rfl rfl ?_
    refine g_aload_n C dX10_init_5 rfl rfl ?_
    refine g_putR (i := 0) (j := 0) C dX10_init_6 hk c4 gy4 rfl (by decide) f7 (fun _ h9 => h9) (Or.inr ⟨rfl, hnm, rfl⟩) (fun _ => ⟨rfl, rfl⟩) ?_
    refine g_aload_n C dX10_init_9 rfl rfl ?_
    refine g_iload_n C dX10_init_10 rfl rfl ?_
    refine g_putI (i := 1) (j := 1) C dX10_init_11 hk c4 gy4 rfl f13 (fun _ h9 => h9) (Or.inr ⟨rfl, hnm, rfl⟩) rfl ?_
    refine g_aload_n C dX10_init_14 rfl rfl ?_
    refine g_iload_n C dX10_init_15 rfl rfl ?_
    refine g_putI (i := 2) (j := 2) C dX10_init_16 hk c4 gy4 rfl f17 (fun _ h9 => h9) (Or.inr ⟨rfl, hnm, rfl⟩) rfl ?_
    refine g_aload_n C dX10_init_19 rfl rfl ?_
    refine g_iload C dX10_init_20 rfl ?_
    refine g_putI (i := 3) (j := 3) C dX10_init_22 hk c4 gy4 rfl f20 (fun _ h9 => h9) (Or.inr ⟨rfl, hnm, rfl⟩) rfl ?_
    obtain ⟨rfl, rfl, rfl⟩ := gs3 hf
    exact g_vret C dX10_init_25 hr hlk
  · refine g_aload_n C dX10_init_0 rfl rfl ?_
    refine g_objInit C dX10_init_1 m1 oi oc (Nat.le_of_ble_eq_true rfl) (Nat.le_of_ble_eq_true rfl) ?_
    refine g_aload_n C dX10_init_4 rfl rfl ?_
    refine g_aload_n C dX10_init_5 rfl rfl ?_
    refine g_putR (i := 1) (j := 0) C dX10_init_6 hk c7 gy7 rfl (by decide) f7 (fun _ h9 => h9) (Or.inr ⟨rfl, hnm, rfl⟩) (fun _ => ⟨rfl, rfl⟩) ?_
    refine g_aload_n C dX10_init_9 rfl rfl ?_
    refine g_iload_n C dX10_init_10 rfl rfl ?_
    refine g_putI (i := 2) (j := 1) C dX10_init_11 hk c7 gy7 rfl f13 (fun _ h9 => h9) (Or.inr ⟨rfl, hnm, rfl⟩) rfl ?_
    refine g_aload_n C dX10_init_14 rfl rfl ?_
    refine g_iload_n C dX10_init_15 rfl rfl ?_
    refine g_putI (i := 3) (j := 2) C dX10_init_16 hk c7 gy7 rfl f17 (fun _ h9 => h9) (Or.inr ⟨rfl, hnm, rfl⟩) rfl ?_
    refine g_aload_n C dX10_init_19 rfl rfl ?_
    refine g_iload C dX10_init_20 rfl ?_
    refine g_putI (i := 4) (j := 3) C dX10_init_22 hk c7 gy7 rfl f20 (fun _ h9 => h9) (Or.inr ⟨rfl, hnm, rfl⟩) rfl ?_
    obtain ⟨rfl, rfl, rfl⟩ := gs3 hf
    exact g_vret C dX10_init_25 hr hlk
set_option maxRecDepth 100000 in
set_option maxHeartbeats 8000000 in
theorem m_X1_init (l : Launch) (X : gX) (N : Nat) (I : gI) (R : gR) (S : gS) (w : Nat) (a0 : Nat) (a1 : Int32) (a2 : Int32) (J : gI) (P : gR) (T : gS) (hf : f_X1_init N I R S w a0 a1 a2 = some (J, P, T)) : gM l yX1_init wsX1_init { frames := 2, cells := 0, slots := 0, locals := 44 } X gE0 [.ref (X.1 + w), .ref (X.1 + a0), .int a1, .int a2] I R S none J P T 0 0 := by
  unfold f_X1_init at hf
  refine gM_of (cc := cX1_init) (own := RX1) (maxL := 4) (ret := none) (by decide) rfl rfl (Nat.le_of_ble_eq_true rfl) ?_
  intro p e s m args below meth c C hr hlk hnm hE
  have ho : (some (J, P, T)) ≠ none := fun h => by cases h
  have niX10 := C.2.2.2.2.1 (.initialized RX10) (by decide +kernel)
  have imX10 := C.2.2.2.2.1 (.instanceMethod yX10_init) (by decide +kernel)
  have m1 := C.2.2.2.2.1 (.methodLink RX1 1 yX10_init) (by decide +kernel)
  obtain ⟨hk, hf⟩ := gcase hf ho
  refine g_aload_n C dX1_init_0 rfl rfl ?_
  refine g_aload_n C dX1_init_1 rfl rfl ?_
  refine g_iconst (v := 3) C dX1_init_2 (by decide) ?_
  refine g_iload_n C dX1_init_3 rfl rfl ?_
  refine g_iload_n C dX1_init_4 rfl rfl ?_
  obtain ⟨z1, hz1, hf⟩ := gbind hf ho
  refine g_callI C dX1_init_5 (m_X10_init l X N _ _ _   _ _ _ _ _ z1.1 z1.2.1 z1.2.2 hz1) gEin0 (cwI 4 C.2.2.2.2.1 gX1_init_X10_init rfl rfl rfl niX10 m1 imX10 rfl (by decide +kernel) ⟨Nat.le_of_ble_eq_true rfl, Nat.le_of_ble_eq_true rfl⟩) rfl rfl (Nat.le_of_ble_eq_true rfl) ⟨Nat.le_of_ble_eq_true rfl, Nat.le_of_ble_eq_true rfl⟩ ?_
  obtain ⟨rfl, rfl, rfl⟩ := gs3 hf
  exact g_vret C dX1_init_8 hr hlk
set_option maxRecDepth 100000 in
set_option maxHeartbeats 8000000 in
theorem m_X1_kindTold (l : Launch) (X : gX) (N : Nat) (I : gI) (R : gR) (S : gS) (w : Nat) (v : Int32) (hf : f_X1_kindTold N I R S w = some v) : gM l yX1_kindTold wsX1_kindTold { frames := 0, cells := 0, slots := 0, locals := 0 } X gE0 [.ref (X.1 + w)] I R S (some (.int v)) I R S 0 0 := by
  unfold f_X1_kindTold at hf
  refine gM_of (cc := cX1_kindTold) (own := RX1) (maxL := 1) (ret := (some .int)) (by decide) rfl rfl (Nat.le_of_ble_eq_true rfl) ?_
  intro p e s m args below meth c C hr hlk hnm hE
  have ho : (some v) ≠ none := fun h => by cases h
  obtain ⟨hk, hf⟩ := gcase hf ho
  refine g_iconst (v := 4) C dX1_kindTold_0 (by decide) ?_
  obtain rfl := gs1 hf
  exact g_iret C dX1_kindTold_1 hr hlk
set_option maxRecDepth 100000 in
set_option maxHeartbeats 8000000 in
theorem m_X9_leave (l : Launch) (X : gX) (N : Nat) (I : gI) (R : gR) (S : gS) (hL : gLay 3 5 R S) (a0 : Int32) (J : gI) (hf : f_X9_leave N I R S a0 = some J) : gM l yX9_leave wsX9_leave { frames := 0, cells := 0, slots := 0, locals := 0 } X gE0 [.ref (X.1 + 3), .int a0] I R S none J R S 0 0 := by
  unfold f_X9_leave at hf
  refine gM_of (cc := cX9_leave) (own := RX9) (maxL := 2) (ret := none) (by decide) rfl rfl (Nat.le_of_ble_eq_true rfl) ?_
  intro p e s m args below meth c C hr hlk hnm hE
  have ho : (some J) ≠ none := fun h => by cases h
  have f13 := C.2.2.2.2.1 (.fieldLink RX9 13 "TimesByPowers$Trace" "left" "I") (by decide +kernel)
  have c9 : gCl wsX9_leave 9 RX9 TX9 2 := ⟨by decide, rfl, rfl, by decide +kernel⟩
  have f9 := C.2.2.2.2.1 (.fieldLink RX9 9 "TimesByPowers$Trace" "numbers" "[I") (by decide +kernel)
  refine g_aload_n C dX9_leave_0 rfl rfl ?_
  refine g_getI (i := 1) (j := 1) C dX9_leave_1 (L3 hL (by decide) (by decide)) c9 rfl f13 (fun _ h9 => h9) ?_
  refine g_bipush (v := 16) C dX9_leave_4 (by decide) ?_
  refine g_icmp_ge (tgt := 29) C dX9_leave_6 (by decide) hf (fun hf => ?_) (fun hf => ?_)
  · obtain rfl := gs1 hf
    exact g_vret C dX9_leave_29 hr hlk
  · refine g_aload_n C dX9_leave_9 rfl rfl ?_
    refine g_getR (i := 0) (j := 0) C dX9_leave_10 (L3 hL (by decide) (by decide)) c9 rfl (by decide) f9 (fun _ h9 => h9) (LR3_0 hL (by decide) (by decide)) ?_
    refine g_aload_n C dX9_leave_13 rfl rfl ?_
    refine g_getI (i := 1) (j := 1) C dX9_leave_14 (L3 hL (by decide) (by decide)) c9 rfl f13 (fun _ h9 => h9) ?_
    refine g_iload_n C dX9_leave_17 rfl rfl ?_
    refine g_iast C dX9_leave_18 (L4 hL (by decide) (by decide)) ho hf (fun hf => ?_)
    refine g_aload_n C dX9_leave_19 rfl rfl ?_
    refine g_dup C dX9_leave_20 rfl ?_
    refine g_getI (i := 1) (j := 1) C dX9_leave_21 (L3 hL (by decide) (by decide)) c9 rfl f13 (fun _ h9 => h9) ?_
    refine g_iconst (v := 1) C dX9_leave_24 (by decide) ?_
    refine g_iadd C dX9_leave_25 ?_
    refine g_putI (i := 1) (j := 1) C dX9_leave_26 (L3 hL (by decide) (by decide)) c9 gy9 rfl f13 (fun _ h9 => h9) (Or.inl rfl) rfl ?_
    obtain rfl := gs1 hf
    exact g_vret C dX9_leave_29 hr hlk
set_option maxRecDepth 100000 in
set_option maxHeartbeats 8000000 in
theorem m_X10_sizeAsked (l : Launch) (X : gX) (N : Nat) (I : gI) (R : gR) (S : gS) (hL : gLay 3 5 R S) (w : Nat) (v : Int32) (J : gI) (hf : f_X10_sizeAsked N I R S w = some (v, J)) : gM l yX10_sizeAsked wsX10_sizeAsked { frames := 1, cells := 0, slots := 0, locals := 21 } X gE0 [.ref (X.1 + w), .ref (X.1 + 3)] I R S (some (.int v)) J R S 0 0 := by
  unfold f_X10_sizeAsked at hf
  refine gM_of (cc := cX10_sizeAsked) (own := RX10) (maxL := 2) (ret := (some .int)) (by decide) rfl rfl (Nat.le_of_ble_eq_true rfl) ?_
  intro p e s m args below meth c C hr hlk hnm hE
  have ho : (some (v, J)) ≠ none := fun h => by cases h
  have f13 := C.2.2.2.2.1 (.fieldLink RX10 13 "TimesByPowers$World" "\x72" "I") (by decide +kernel)
  have c1 : gCl wsX10_sizeAsked 1 RX1 TX1 4 := ⟨by decide, rfl, rfl, by decide +kernel⟩
  have c3 : gCl wsX10_sizeAsked 3 RX3 TX3 4 := ⟨by decide, rfl, rfl, by decide +kernel⟩
  have c4 : gCl wsX10_sizeAsked 4 RX4 TX4 5 := ⟨by decide, rfl, rfl, by decide +kernel⟩
  have c7 : gCl wsX10_sizeAsked 7 RX7 TX7 5 := ⟨by decide, rfl, rfl, by decide +kernel⟩
  obtain ⟨hk, hf⟩ := gcase hf ho
  rcases gKb_k hk with hk | hk | hk | hk
  · refine g_aload_n C dX10_sizeAsked_0 rfl rfl ?_
    refine g_bipush (v := 10) C dX10_sizeAsked_1 (by decide) ?_
    obtain ⟨z1, hz1, hf⟩ := gbind hf ho
    refine g_callV C dX10_sizeAsked_3 (m_X9_leave l X N _ _ _  (gLay.sub hL (by decide) (by decide)) _ z1 hz1) gEin0 (cwV 1 C.2.2.2.2.1 gX10_sizeAsked_X9_leave rfl rfl rfl (by decide +kernel) ⟨Nat.le_of_ble_eq_true rfl, Nat.le_of_ble_eq_true rfl⟩) (L3 hL (by decide) (by decide)) (by decide) rfl rfl rfl (Nat.le_of_ble_eq_true rfl) ⟨Nat.le_of_ble_eq_true rfl, Nat.le_of_ble_eq_true rfl⟩ ?_
    refine g_aload_n C dX10_sizeAsked_6 rfl rfl ?_
    refine g_getI (i := 1) (j := 1) C dX10_sizeAsked_7 hk c1 rfl f13 (fun _ h9 => h9) ?_
    obtain ⟨rfl, rfl⟩ := gs2 hf
    exact g_iret C dX10_sizeAsked_10 hr hlk
  · refine g_aload_n C dX10_sizeAsked_0 rfl rfl ?_
    refine g_bipush (v := 10) C dX10_sizeAsked_1 (by decide) ?_
    obtain ⟨z1, hz1, hf⟩ := gbind hf ho
    refine g_callV C dX10_sizeAsked_3 (m_X9_leave l X N _ _ _  (gLay.sub hL (by decide) (by decide)) _ z1 hz1) gEin0 (cwV 1 C.2.2.2.2.1 gX10_sizeAsked_X9_leave rfl rfl rfl (by decide +kernel) ⟨Nat.le_of_ble_eq_true rfl, Nat.le_of_ble_eq_true rfl⟩) (L3 hL (by decide) (by decide)) (by decide) rfl rfl rfl (Nat.le_of_ble_eq_true rfl) ⟨Nat.le_of_ble_eq_true rfl, Nat.le_of_ble_eq_true rfl⟩ ?_
    refine g_aload_n C dX10_sizeAsked_6 rfl rfl ?_
    refine g_getI (i := 1) (j := 1) C dX10_sizeAsked_7 hk c3 rfl f13 (fun _ h9 => h9) ?_
    obtain ⟨rfl, rfl⟩ := gs2 hf
    exact g_iret C dX10_sizeAsked_10 hr hlk
  · refine g_aload_n C dX10_sizeAsked_0 rfl rfl ?_
    refine g_bipush (v := 10) C dX10_sizeAsked_1 (by decide) ?_
    obtain ⟨z1, hz1, hf⟩ := gbind hf ho
    refine g_callV C dX10_sizeAsked_3 (m_X9_leave l X N _ _ _  (gLay.sub hL (by decide) (by decide)) _ z1 hz1) gEin0 (cwV 1 C.2.2.2.2.1 gX10_sizeAsked_X9_leave rfl rfl rfl (by decide +kernel) ⟨Nat.le_of_ble_eq_true rfl, Nat.le_of_ble_eq_true rfl⟩) (L3 hL (by decide) (by decide)) (by decide) rfl rfl rfl (Nat.le_of_ble_eq_true rfl) ⟨Nat.le_of_ble_eq_true rfl, Nat.le_of_ble_eq_true rfl⟩ ?_
    refine g_aload_n C dX10_sizeAsked_6 rfl rfl ?_
    refine g_getI (i := 1) (j := 1) C dX10_sizeAsked_7 hk c4 rfl f13 (fun _ h9 => h9) ?_
    obtain ⟨rfl, rfl⟩ := gs2 hf
    exact g_iret C dX10_sizeAsked_10 hr hlk
  · refine g_aload_n C dX10_sizeAsked_0 rfl rfl ?_
    refine g_bipush (v := 10) C dX10_sizeAsked_1 (by decide) ?_
    obtain ⟨z1, hz1, hf⟩ := gbind hf ho
    refine g_callV C dX10_sizeAsked_3 (m_X9_leave l X N _ _ _  (gLay.sub hL (by decide) (by decide)) _ z1 hz1) gEin0 (cwV 1 C.2.2.2.2.1 gX10_sizeAsked_X9_leave rfl rfl rfl (by decide +kernel) ⟨Nat.le_of_ble_eq_true rfl, Nat.le_of_ble_eq_true rfl⟩) (L3 hL (by decide) (by decide)) (by decide) rfl rfl rfl (Nat.le_of_ble_eq_true rfl) ⟨Nat.le_of_ble_eq_true rfl, Nat.le_of_ble_eq_true rfl⟩ ?_
    refine g_aload_n C dX10_sizeAsked_6 rfl rfl ?_
    refine g_getI (i := 2) (j := 1) C dX10_sizeAsked_7 hk c7 rfl f13 (fun _ h9 => h9) ?_
    obtain ⟨rfl, rfl⟩ := gs2 hf
    exact g_iret C dX10_sizeAsked_10 hr hlk
set_option maxRecDepth 100000 in
set_option maxHeartbeats 8000000 in
theorem m_X10_signAsked (l : Launch) (X : gX) (N : Nat) (I : gI) (R : gR) (S : gS) (hL : gLay 3 5 R S) (w : Nat) (v : Int32) (J : gI) (hf : f_X10_signAsked N I R S w = some (v, J)) : gM l yX10_signAsked wsX10_signAsked { frames := 1, cells := 0, slots := 0, locals := 21 } X gE0 [.ref (X.1 + w), .ref (X.1 + 3)] I R S (some (.int v)) J R S 0 0 := by
  unfold f_X10_signAsked at hf
  refine gM_of (cc := cX10_signAsked) (own := RX10) (maxL := 2) (ret := (some .int)) (by decide) rfl rfl (Nat.le_of_ble_eq_true rfl) ?_
  intro p e s m args below meth c C hr hlk hnm hE
  have ho : (some (v, J)) ≠ none := fun h => by cases h
  have f7 := C.2.2.2.2.1 (.fieldLink RX10 7 "TimesByPowers$World" "t" "[I") (by decide +kernel)
  have c1 : gCl wsX10_signAsked 1 RX1 TX1 4 := ⟨by decide, rfl, rfl, by decide +kernel⟩
  have c3 : gCl wsX10_signAsked 3 RX3 TX3 4 := ⟨by decide, rfl, rfl, by decide +kernel⟩
  have c4 : gCl wsX10_signAsked 4 RX4 TX4 5 := ⟨by decide, rfl, rfl, by decide +kernel⟩
  have c7 : gCl wsX10_signAsked 7 RX7 TX7 5 := ⟨by decide, rfl, rfl, by decide +kernel⟩
  obtain ⟨hk, hf⟩ := gcase hf ho
  rcases gKb_k hk with hk | hk | hk | hk
  · refine g_aload_n C dX10_signAsked_0 rfl rfl ?_
    refine g_bipush (v := 20) C dX10_signAsked_1 (by decide) ?_
    obtain ⟨z1, hz1, hf⟩ := gbind hf ho
    refine g_callV C dX10_signAsked_3 (m_X9_leave l X N _ _ _  (gLay.sub hL (by decide) (by decide)) _ z1 hz1) gEin0 (cwV 1 C.2.2.2.2.1 gX10_signAsked_X9_leave rfl rfl rfl (by decide +kernel) ⟨Nat.le_of_ble_eq_true rfl, Nat.le_of_ble_eq_true rfl⟩) (L3 hL (by decide) (by decide)) (by decide) rfl rfl rfl (Nat.le_of_ble_eq_true rfl) ⟨Nat.le_of_ble_eq_true rfl, Nat.le_of_ble_eq_true rfl⟩ ?_
    refine g_aload_n C dX10_signAsked_6 rfl rfl ?_
    obtain ⟨hw2, hf⟩ := gcase hf ho
    refine g_getR (i := 0) (j := 0) C dX10_signAsked_7 hk c1 rfl (by decide) f7 (fun _ h9 => h9) (gWb_t hw2).1 ?_
    refine g_iconst (v := 0) C dX10_signAsked_10 (by decide) ?_
    refine g_iald C dX10_signAsked_11 (gWb_t hw2).2 ho hf (fun hf => ?_)
    obtain ⟨rfl, rfl⟩ := gs2 hf
    exact g_iret C dX10_signAsked_12 hr hlk
  · refine g_aload_n C dX10_signAsked_0 rfl rfl ?_
    refine g_bipush (v := 20) C dX10_signAsked_1 (by decide) ?_
    obtain ⟨z1, hz1, hf⟩ := gbind hf ho
    refine g_callV C dX10_signAsked_3 (m_X9_leave l X N _ _ _  (gLay.sub hL (by decide) (by decide)) _ z1 hz1) gEin0 (cwV 1 C.2.2.2.2.1 gX10_signAsked_X9_leave rfl rfl rfl (by decide +kernel) ⟨Nat.le_of_ble_eq_true rfl, Nat.le_of_ble_eq_true rfl⟩) (L3 hL (by decide) (by decide)) (by decide) rfl rfl rfl (Nat.le_of_ble_eq_true rfl) ⟨Nat.le_of_ble_eq_true rfl, Nat.le_of_ble_eq_true rfl⟩ ?_
    refine g_aload_n C dX10_signAsked_6 rfl rfl ?_
    obtain ⟨hw2, hf⟩ := gcase hf ho
    refine g_getR (i := 0) (j := 0) C dX10_signAsked_7 hk c3 rfl (by decide) f7 (fun _ h9 => h9) (gWb_t hw2).1 ?_
    refine g_iconst (v := 0) C dX10_signAsked_10 (by decide) ?_
    refine g_iald C dX10_signAsked_11 (gWb_t hw2).2 ho hf (fun hf => ?_)
    obtain ⟨rfl, rfl⟩ := gs2 hf
    exact g_iret C dX10_signAsked_12 hr hlk
  · refine g_aload_n C dX10_signAsked_0 rfl rfl ?_
    refine g_bipush (v := 20) C dX10_signAsked_1 (by decide) ?_
    obtain ⟨z1, hz1, hf⟩ := gbind hf ho
    refine g_callV C dX10_signAsked_3 (m_X9_leave l X N _ _ _  (gLay.sub hL (by decide) (by decide)) _ z1 hz1) gEin0 (cwV 1 C.2.2.2.2.1 gX10_signAsked_X9_leave rfl rfl rfl (by decide +kernel) ⟨Nat.le_of_ble_eq_true rfl, Nat.le_of_ble_eq_true rfl⟩) (L3 hL (by decide) (by decide)) (by decide) rfl rfl rfl (Nat.le_of_ble_eq_true rfl) ⟨Nat.le_of_ble_eq_true rfl, Nat.le_of_ble_eq_true rfl⟩ ?_
    refine g_aload_n C dX10_signAsked_6 rfl rfl ?_
    obtain ⟨hw2, hf⟩ := gcase hf ho
    refine g_getR (i := 0) (j := 0) C dX10_signAsked_7 hk c4 rfl (by decide) f7 (fun _ h9 => h9) (gWb_t hw2).1 ?_
    refine g_iconst (v := 0) C dX10_signAsked_10 (by decide) ?_
    refine g_iald C dX10_signAsked_11 (gWb_t hw2).2 ho hf (fun hf => ?_)
    obtain ⟨rfl, rfl⟩ := gs2 hf
    exact g_iret C dX10_signAsked_12 hr hlk
  · refine g_aload_n C dX10_signAsked_0 rfl rfl ?_
    refine g_bipush (v := 20) C dX10_signAsked_1 (by decide) ?_
    obtain ⟨z1, hz1, hf⟩ := gbind hf ho
    refine g_callV C dX10_signAsked_3 (m_X9_leave l X N _ _ _  (gLay.sub hL (by decide) (by decide)) _ z1 hz1) gEin0 (cwV 1 C.2.2.2.2.1 gX10_signAsked_X9_leave rfl rfl rfl (by decide +kernel) ⟨Nat.le_of_ble_eq_true rfl, Nat.le_of_ble_eq_true rfl⟩) (L3 hL (by decide) (by decide)) (by decide) rfl rfl rfl (Nat.le_of_ble_eq_true rfl) ⟨Nat.le_of_ble_eq_true rfl, Nat.le_of_ble_eq_true rfl⟩ ?_
    refine g_aload_n C dX10_signAsked_6 rfl rfl ?_
    obtain ⟨hw2, hf⟩ := gcase hf ho
    refine g_getR (i := 1) (j := 0) C dX10_signAsked_7 hk c7 rfl (by decide) f7 (fun _ h9 => h9) (gWb_t hw2).1 ?_
    refine g_iconst (v := 0) C dX10_signAsked_10 (by decide) ?_
    refine g_iald C dX10_signAsked_11 (gWb_t hw2).2 ho hf (fun hf => ?_)
    obtain ⟨rfl, rfl⟩ := gs2 hf
    exact g_iret C dX10_signAsked_12 hr hlk
set_option maxRecDepth 100000 in
set_option maxHeartbeats 8000000 in
theorem m_X4_sizeAsked (l : Launch) (X : gX) (N : Nat) (I : gI) (R : gR) (S : gS) (hL : gLay 3 5 R S) (w : Nat) (v : Int32) (J : gI) (hf : f_X4_sizeAsked N I R S w = some (v, J)) : gM l yX4_sizeAsked wsX4_sizeAsked { frames := 2, cells := 0, slots := 0, locals := 42 } X gE0 [.ref (X.1 + w), .ref (X.1 + 3)] I R S (some (.int v)) J R S 0 0 := by
  unfold f_X4_sizeAsked at hf
  refine gM_of (cc := cX4_sizeAsked) (own := RX4) (maxL := 2) (ret := (some .int)) (by decide) rfl rfl (Nat.le_of_ble_eq_true rfl) ?_
  intro p e s m args below meth c C hr hlk hnm hE
  have ho : (some (v, J)) ≠ none := fun h => by cases h
  obtain ⟨hk, hf⟩ := gcase hf ho
  rcases hk with hk | hk
  · refine g_aload_n C dX4_sizeAsked_0 rfl rfl ?_
    refine g_bipush (v := 11) C dX4_sizeAsked_1 (by decide) ?_
    obtain ⟨z1, hz1, hf⟩ := gbind hf ho
    refine g_callV C dX4_sizeAsked_3 (m_X9_leave l X N _ _ _  (gLay.sub hL (by decide) (by decide)) _ z1 hz1) gEin0 (cwV 1 C.2.2.2.2.1 gX4_sizeAsked_X9_leave rfl rfl rfl (by decide +kernel) ⟨Nat.le_of_ble_eq_true rfl, Nat.le_of_ble_eq_true rfl⟩) (L3 hL (by decide) (by decide)) (by decide) rfl rfl rfl (Nat.le_of_ble_eq_true rfl) ⟨Nat.le_of_ble_eq_true rfl, Nat.le_of_ble_eq_true rfl⟩ ?_
    refine g_aload_n C dX4_sizeAsked_6 rfl rfl ?_
    refine g_aload_n C dX4_sizeAsked_7 rfl rfl ?_
    obtain ⟨z2, hz2, hf⟩ := gbind hf ho
    refine g_callSU (k := 4) C dX4_sizeAsked_8 (m_X10_sizeAsked l X N _ _ _  (gLay.sub hL (by decide) (by decide)) _ z2.1 z2.2 hz2) gEin0 (va_cwSU 1 C.2.2.2.2.1 gX4_sizeAsked_X10_sizeAsked_s19 rfl rfl rfl (by decide +kernel) ⟨Nat.le_of_ble_eq_true rfl, Nat.le_of_ble_eq_true rfl⟩) hk (by decide) rfl rfl rfl (Nat.le_of_ble_eq_true rfl) ⟨Nat.le_of_ble_eq_true rfl, Nat.le_of_ble_eq_true rfl⟩ ?_
    refine g_bipush (v := 10) C dX4_sizeAsked_11 (by decide) ?_
    refine g_iadd C dX4_sizeAsked_13 ?_
    obtain ⟨rfl, rfl⟩ := gs2 hf
    exact g_iret C dX4_sizeAsked_14 hr hlk
  · refine g_aload_n C dX4_sizeAsked_0 rfl rfl ?_
    refine g_bipush (v := 11) C dX4_sizeAsked_1 (by decide) ?_
    obtain ⟨z1, hz1, hf⟩ := gbind hf ho
    refine g_callV C dX4_sizeAsked_3 (m_X9_leave l X N _ _ _  (gLay.sub hL (by decide) (by decide)) _ z1 hz1) gEin0 (cwV 1 C.2.2.2.2.1 gX4_sizeAsked_X9_leave rfl rfl rfl (by decide +kernel) ⟨Nat.le_of_ble_eq_true rfl, Nat.le_of_ble_eq_true rfl⟩) (L3 hL (by decide) (by decide)) (by decide) rfl rfl rfl (Nat.le_of_ble_eq_true rfl) ⟨Nat.le_of_ble_eq_true rfl, Nat.le_of_ble_eq_true rfl⟩ ?_
    refine g_aload_n C dX4_sizeAsked_6 rfl rfl ?_
    refine g_aload_n C dX4_sizeAsked_7 rfl rfl ?_
    obtain ⟨z2, hz2, hf⟩ := gbind hf ho
    refine g_callSU (k := 7) C dX4_sizeAsked_8 (m_X10_sizeAsked l X N _ _ _  (gLay.sub hL (by decide) (by decide)) _ z2.1 z2.2 hz2) gEin0 (va_cwSU 1 C.2.2.2.2.1 gX4_sizeAsked_X10_sizeAsked_s19 rfl rfl rfl (by decide +kernel) ⟨Nat.le_of_ble_eq_true rfl, Nat.le_of_ble_eq_true rfl⟩) hk (by decide) rfl rfl rfl (Nat.le_of_ble_eq_true rfl) ⟨Nat.le_of_ble_eq_true rfl, Nat.le_of_ble_eq_true rfl⟩ ?_
    refine g_bipush (v := 10) C dX4_sizeAsked_11 (by decide) ?_
    refine g_iadd C dX4_sizeAsked_13 ?_
    obtain ⟨rfl, rfl⟩ := gs2 hf
    exact g_iret C dX4_sizeAsked_14 hr hlk

