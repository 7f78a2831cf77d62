set_option maxRecDepth 100000 in
set_option maxHeartbeats 8000000 in
theorem m_X12_slow (l : Launch) (X : gX) (N : Nat) (I : gI) (R : gR) (S : gS) (hL : gLay 91 114 R S) (a0 : Int32) (a1 : Int32) (v : Int32) (J : gI) (hf : f_X12_slow N I R S a0 a1 = some (v, J)) : gM l yX12_slow wsX12_slow { frames := 1, cells := 0, slots := 0, locals := 27 } X gE0 [.ref (X.1 + 91), .int a0, .int a1] I R S (some (.int v)) J R S 0 0 := by
  unfold f_X12_slow at hf
  refine gM_of (cc := cX12_slow) (own := RX12) (maxL := 7) (ret := (some .int)) (by decide) rfl rfl (Nat.le_of_ble_eq_true rfl) ?_
  intro p e s m args below meth c C hr hlk hnm hE
  have ho : (some (v, J)) ≠ none := fun h => by cases h
  have f26 := C.2.2.2.2.1 (.fieldLink RX12 26 "TimesByPowersModel" "one" "[I") (by decide +kernel)
  have c11 : gCl wsX12_slow 11 RX12 TX12 29 := ⟨by decide, rfl, rfl, by decide +kernel⟩
  have f33 := C.2.2.2.2.1 (.fieldLink RX12 33 "TimesByPowersModel" "two" "[I") (by decide +kernel)
  have f36 := C.2.2.2.2.1 (.fieldLink RX12 36 "TimesByPowersModel" "product" "[I") (by decide +kernel)
  have f11 := C.2.2.2.2.1 (.fieldLink RX12 11 "TimesByPowersModel" "p" "I") (by decide +kernel)
  have f39 := C.2.2.2.2.1 (.fieldLink RX12 39 "TimesByPowersModel" "modulus" "I") (by decide +kernel)
  have f18 := C.2.2.2.2.1 (.fieldLink RX12 18 "TimesByPowersModel" "by" "[I") (by decide +kernel)
  have f42 := C.2.2.2.2.1 (.fieldLink RX12 42 "TimesByPowersModel" "n" "I") (by decide +kernel)
  refine g_aload_n C dX12_slow_0 rfl rfl ?_
  refine g_iload_n C dX12_slow_1 rfl rfl ?_
  refine g_aload_n C dX12_slow_2 rfl rfl ?_
  refine g_getR (i := 6) (j := 6) C dX12_slow_3 (L91 hL (by decide) (by decide)) c11 rfl (by decide) f26 (fun _ h9 => h9) (LR91_6 hL (by decide) (by decide)) ?_
  obtain ⟨z1, hz1, hf⟩ := gbind hf ho
  refine g_callV C dX12_slow_6 (m_X12_figures l X N _ _ _  (gLay.sub hL (by decide) (by decide)) _ _ z1.1 z1.2 hz1) gEin0 (cwV 2 C.2.2.2.2.1 gX12_slow_X12_figures rfl rfl rfl (by decide +kernel) ⟨Nat.le_of_ble_eq_true rfl, Nat.le_of_ble_eq_true rfl⟩) (L91 hL (by decide) (by decide)) (by decide) rfl rfl rfl (Nat.le_of_ble_eq_true rfl) ⟨Nat.le_of_ble_eq_true rfl, Nat.le_of_ble_eq_true rfl⟩ ?_
  refine g_istore_n C dX12_slow_9 rfl (Nat.le_of_ble_eq_true rfl) rfl rfl ?_
  refine g_aload_n C dX12_slow_10 rfl rfl ?_
  refine g_iload_n C dX12_slow_11 rfl rfl ?_
  refine g_aload_n C dX12_slow_12 rfl rfl ?_
  refine g_getR (i := 7) (j := 7) C dX12_slow_13 (L91 hL (by decide) (by decide)) c11 rfl (by decide) f33 (fun _ h9 => h9) (LR91_7 hL (by decide) (by decide)) ?_
  obtain ⟨z2, hz2, hf⟩ := gbind hf ho
  refine g_callV C dX12_slow_16 (m_X12_figures l X N _ _ _  (gLay.sub hL (by decide) (by decide)) _ _ z2.1 z2.2 hz2) gEin0 (cwV 2 C.2.2.2.2.1 gX12_slow_X12_figures rfl rfl rfl (by decide +kernel) ⟨Nat.le_of_ble_eq_true rfl, Nat.le_of_ble_eq_true rfl⟩) (L91 hL (by decide) (by decide)) (by decide) rfl rfl rfl (Nat.le_of_ble_eq_true rfl) ⟨Nat.le_of_ble_eq_true rfl, Nat.le_of_ble_eq_true rfl⟩ ?_
  refine g_istore C dX12_slow_19 (Nat.le_of_ble_eq_true rfl) rfl rfl ?_
  refine g_iconst (v := 0) C dX12_slow_21 (by decide) ?_
  refine g_istore C dX12_slow_22 (Nat.le_of_ble_eq_true rfl) rfl rfl ?_
  refine g_loop (fun z3 => [(0, .ref (X.1 + 91)), (3, .int z1.1), (4, .int z2.1), (5, .int z3.1)]) (fun z3 => z3.2) (fun r4 => [(0, .ref (X.1 + 91)), (3, .int z1.1), (4, .int z2.1)]) (fun r4 => r4) 45 hf ho (And.intro rfl (And.intro rfl (And.intro rfl (And.intro rfl trivial)))) rfl (fun r4 hf => ?_) (fun z3 o1 hf ho hkz3 hez3 => ?_)
  · refine g_iconst (v := 0) C dX12_slow_45 (by decide) ?_
    refine g_istore C dX12_slow_46 (Nat.le_of_ble_eq_true rfl) rfl rfl ?_
    refine g_loop (fun z5 => [(0, .ref (X.1 + 91)), (3, .int z1.1), (4, .int z2.1), (5, .int z5.1)]) (fun z5 => z5.2) (fun r6 => [(0, .ref (X.1 + 91))]) (fun r6 => r6) 117 hf ho (And.intro rfl (And.intro rfl (And.intro rfl (And.intro rfl trivial)))) rfl (fun r6 hf => ?_) (fun z5 o1 hf ho hkz5 hez5 => ?_)
    · refine g_aload_n C dX12_slow_117 rfl rfl ?_
      refine g_aload_n C dX12_slow_118 rfl rfl ?_
      refine g_getI (i := 5) (j := 5) C dX12_slow_119 (L91 hL (by decide) (by decide)) c11 rfl f39 (fun _ h9 => h9) ?_
      refine g_aload_n C dX12_slow_122 rfl rfl ?_
      refine g_getR (i := 8) (j := 8) C dX12_slow_123 (L91 hL (by decide) (by decide)) c11 rfl (by decide) f18 (fun _ h9 => h9) (LR91_8 hL (by decide) (by decide)) ?_
      obtain ⟨z9, hz9, hf⟩ := gbind hf ho
      refine g_callV C dX12_slow_126 (m_X12_figures l X N _ _ _  (gLay.sub hL (by decide) (by decide)) _ _ z9.1 z9.2 hz9) gEin0 (cwV 2 C.2.2.2.2.1 gX12_slow_X12_figures rfl rfl rfl (by decide +kernel) ⟨Nat.le_of_ble_eq_true rfl, Nat.le_of_ble_eq_true rfl⟩) (L91 hL (by decide) (by decide)) (by decide) rfl rfl rfl (Nat.le_of_ble_eq_true rfl) ⟨Nat.le_of_ble_eq_true rfl, Nat.le_of_ble_eq_true rfl⟩ ?_
      refine g_istore C dX12_slow_129 (Nat.le_of_ble_eq_true rfl) rfl rfl ?_
      refine g_aload_n C dX12_slow_131 rfl rfl ?_
      refine g_aload_n C dX12_slow_132 rfl rfl ?_
      refine g_getR (i := 9) (j := 9) C dX12_slow_133 (L91 hL (by decide) (by decide)) c11 rfl (by decide) f36 (fun _ h9 => h9) (LR91_9 hL (by decide) (by decide)) ?_
      refine g_bipush (v := 15) C dX12_slow_136 (by decide) ?_
      refine g_aload_n C dX12_slow_138 rfl rfl ?_
      refine g_getR (i := 8) (j := 8) C dX12_slow_139 (L91 hL (by decide) (by decide)) c11 rfl (by decide) f18 (fun _ h9 => h9) (LR91_8 hL (by decide) (by decide)) ?_
      refine g_iload C dX12_slow_142 rfl ?_
      obtain ⟨z10, hz10, hf⟩ := gbind hf ho
      refine g_callV C dX12_slow_144 (m_X12_restBy l X N _ _ _  (gLay.sub hL (by decide) (by decide)) _ _ _ _ z10 hz10) gEin0 (cwV 4 C.2.2.2.2.1 gX12_slow_X12_restBy rfl rfl rfl (by decide +kernel) ⟨Nat.le_of_ble_eq_true rfl, Nat.le_of_ble_eq_true rfl⟩) (L91 hL (by decide) (by decide)) (by decide) rfl rfl rfl (Nat.le_of_ble_eq_true rfl) ⟨Nat.le_of_ble_eq_true rfl, Nat.le_of_ble_eq_true rfl⟩ ?_
      refine g_aload_n C dX12_slow_147 rfl rfl ?_
      refine g_aload_n C dX12_slow_148 rfl rfl ?_
      refine g_getR (i := 9) (j := 9) C dX12_slow_149 (L91 hL (by decide) (by decide)) c11 rfl (by decide) f36 (fun _ h9 => h9) (LR91_9 hL (by decide) (by decide)) ?_
      refine g_aload_n C dX12_slow_152 rfl rfl ?_
      refine g_getI (i := 3) (j := 3) C dX12_slow_153 (L91 hL (by decide) (by decide)) c11 rfl f42 (fun _ h9 => h9) ?_
      obtain ⟨z11, hz11, hf⟩ := gbind hf ho
      refine g_callV C dX12_slow_156 (m_X12_codeOf l X N _ _ _  (gLay.sub hL (by decide) (by decide)) _ _ z11 hz11) gEin0 (cwV 2 C.2.2.2.2.1 gX12_slow_X12_codeOf rfl rfl rfl (by decide +kernel) ⟨Nat.le_of_ble_eq_true rfl, Nat.le_of_ble_eq_true rfl⟩) (L91 hL (by decide) (by decide)) (by decide) rfl rfl rfl (Nat.le_of_ble_eq_true rfl) ⟨Nat.le_of_ble_eq_true rfl, Nat.le_of_ble_eq_true rfl⟩ ?_
      obtain ⟨rfl, rfl⟩ := gs2 hf
      exact g_iret C dX12_slow_159 hr hlk
    · refine g_iload C dX12_slow_48 rfl ?_
      refine g_iload_n C dX12_slow_50 rfl rfl ?_
      refine g_icmp_gt (tgt := 117) C dX12_slow_51 (by decide) hf (fun hf => ?_) (fun hf => ?_)
      · have hx := hez5 _ hf.symm
        refine g_sub ?_ hx
        exact (And.intro rfl trivial)
      · refine g_iconst (v := 0) C dX12_slow_54 (by decide) ?_
        refine g_istore C dX12_slow_55 (Nat.le_of_ble_eq_true rfl) rfl rfl ?_
        refine g_loop (fun z7 => [(0, .ref (X.1 + 91)), (3, .int z1.1), (4, .int z2.1), (5, .int z5.1), (6, .int z7.1)]) (fun z7 => z7.2) (fun r8 => [(0, .ref (X.1 + 91)), (3, .int z1.1), (4, .int z2.1), (5, .int z5.1)]) (fun r8 => r8) 111 hf ho (And.intro rfl (And.intro rfl (And.intro rfl (And.intro rfl (And.intro rfl trivial))))) rfl (fun r8 hf => ?_) (fun z7 o1 hf ho hkz7 hez7 => ?_)
        · refine g_iinc (d := 1) C dX12_slow_111 rfl (by decide) rfl (Nat.le_of_ble_eq_true rfl) rfl rfl ?_
          refine g_goto (tgt := 48) C dX12_slow_114 (by decide) ?_
          have hx := hkz5 _ hf.symm
          refine g_sub ?_ hx
          exact (And.intro rfl (And.intro rfl (And.intro rfl (And.intro rfl trivial))))
        · refine g_iload C dX12_slow_57 rfl ?_
          refine g_iload C dX12_slow_59 rfl ?_
          refine g_icmp_gt (tgt := 111) C dX12_slow_61 (by decide) hf (fun hf => ?_) (fun hf => ?_)
          · have hx := hez7 _ hf.symm
            refine g_sub ?_ hx
            exact (And.intro rfl (And.intro rfl (And.intro rfl (And.intro rfl trivial))))
          · refine g_aload_n C dX12_slow_64 rfl rfl ?_
            refine g_getR (i := 9) (j := 9) C dX12_slow_65 (L91 hL (by decide) (by decide)) c11 rfl (by decide) f36 (fun _ h9 => h9) (LR91_9 hL (by decide) (by decide)) ?_
            refine g_iload C dX12_slow_68 rfl ?_
            refine g_iload C dX12_slow_70 rfl ?_
            refine g_iadd C dX12_slow_72 ?_
            refine g_aload_n C dX12_slow_73 rfl rfl ?_
            refine g_getR (i := 9) (j := 9) C dX12_slow_74 (L91 hL (by decide) (by decide)) c11 rfl (by decide) f36 (fun _ h9 => h9) (LR91_9 hL (by decide) (by decide)) ?_
            refine g_iload C dX12_slow_77 rfl ?_
            refine g_iload C dX12_slow_79 rfl ?_
            refine g_iadd C dX12_slow_81 ?_
            refine g_iald C dX12_slow_82 (L95 hL (by decide) (by decide)) ho hf (fun hf => ?_)
            refine g_aload_n C dX12_slow_83 rfl rfl ?_
            refine g_getR (i := 6) (j := 6) C dX12_slow_84 (L91 hL (by decide) (by decide)) c11 rfl (by decide) f26 (fun _ h9 => h9) (LR91_6 hL (by decide) (by decide)) ?_
            refine g_iload C dX12_slow_87 rfl ?_
            refine g_iald C dX12_slow_89 (L92 hL (by decide) (by decide)) ho hf (fun hf => ?_)
            refine g_aload_n C dX12_slow_90 rfl rfl ?_
            refine g_getR (i := 7) (j := 7) C dX12_slow_91 (L91 hL (by decide) (by decide)) c11 rfl (by decide) f33 (fun _ h9 => h9) (LR91_7 hL (by decide) (by decide)) ?_
            refine g_iload C dX12_slow_94 rfl ?_
            refine g_iald C dX12_slow_96 (L93 hL (by decide) (by decide)) ho hf (fun hf => ?_)
            refine g_imul C dX12_slow_97 ?_
            refine g_iadd C dX12_slow_98 ?_
            refine g_aload_n C dX12_slow_99 rfl rfl ?_
            refine g_getI (i := 2) (j := 2) C dX12_slow_100 (L91 hL (by decide) (by decide)) c11 rfl f11 (fun _ h9 => h9) ?_
            refine g_irem C dX12_slow_103 ho hf (fun hf => ?_)
            refine g_iast C dX12_slow_104 (L95 hL (by decide) (by decide)) ho hf (fun hf => ?_)
            refine g_iinc (d := 1) C dX12_slow_105 rfl (by decide) rfl (Nat.le_of_ble_eq_true rfl) rfl rfl ?_
            refine g_goto (tgt := 57) C dX12_slow_108 (by decide) ?_
            have hx := hkz7 _ hf.symm
            refine g_sub ?_ hx
            exact (And.intro rfl (And.intro rfl (And.intro rfl (And.intro rfl (And.intro rfl trivial)))))
  · refine g_iload C dX12_slow_24 rfl ?_
    refine g_bipush (v := 16) C dX12_slow_26 (by decide) ?_
    refine g_icmp_ge (tgt := 45) C dX12_slow_28 (by decide) hf (fun hf => ?_) (fun hf => ?_)
    · have hx := hez3 _ hf.symm
      refine g_sub ?_ hx
      exact (And.intro rfl (And.intro rfl (And.intro rfl trivial)))
    · refine g_aload_n C dX12_slow_31 rfl rfl ?_
      refine g_getR (i := 9) (j := 9) C dX12_slow_32 (L91 hL (by decide) (by decide)) c11 rfl (by decide) f36 (fun _ h9 => h9) (LR91_9 hL (by decide) (by decide)) ?_
      refine g_iload C dX12_slow_35 rfl ?_
      refine g_iconst (v := 0) C dX12_slow_37 (by decide) ?_
      refine g_iast C dX12_slow_38 (L95 hL (by decide) (by decide)) ho hf (fun hf => ?_)
      refine g_iinc (d := 1) C dX12_slow_39 rfl (by decide) rfl (Nat.le_of_ble_eq_true rfl) rfl rfl ?_
      refine g_goto (tgt := 24) C dX12_slow_42 (by decide) ?_
      have hx := hkz3 _ hf.symm
      refine g_sub ?_ hx
      exact (And.intro rfl (And.intro rfl (And.intro rfl (And.intro rfl trivial))))
set_option maxRecDepth 100000 in
set_option maxHeartbeats 8000000 in
theorem m_X12_init (l : Launch) (X : gX) (N : Nat) (I : gI) (R : gR) (S : gS) (a0 : Int32) (a1 : Int32) (J : gI) (P : gR) (T : gS) (hf : f_X12_init N I R S a0 a1 = some (J, P, T)) : gM l yX12_init wsX12_init { frames := 2, cells := 22, slots := 32223, locals := 54 } X gE0 [.ref (X.1 + 91), .int a0, .int a1] I R S none J P T 22 32223 := by
  unfold f_X12_init at hf
  refine gM_of (cc := cX12_init) (own := RX12) (maxL := 9) (ret := none) (by decide) rfl rfl (Nat.le_of_ble_eq_true rfl) ?_
  intro p e s m args below meth c C hr hlk hnm hE
  have ho : (some (J, P, T)) ≠ none := fun h => by cases h
  have m49 := C.2.2.2.2.1 (.methodLink RX12 49 objectInit) (by decide +kernel)
  have oi := C.2.2.2.2.1 (.instanceMethod objectInit) (by decide +kernel)
  have oc := C.2.2.2.2.1 (.code objectInit ⟨#[0xb1]⟩ 1 none) (by first | exact List.mem_cons_of_mem _ (List.mem_append_left _ (List.mem_of_getElem? (i := 2) rfl)) | decide +kernel)
  have ai := C.2.2.2.2.1 (.arrayClass .int) (by decide +kernel)
  have f26 := C.2.2.2.2.1 (.fieldLink RX12 26 "TimesByPowersModel" "one" "[I") (by decide +kernel)
  have c11 : gCl wsX12_init 11 RX12 TX12 29 := ⟨by decide, rfl, rfl, by decide +kernel⟩
  have f33 := C.2.2.2.2.1 (.fieldLink RX12 33 "TimesByPowersModel" "two" "[I") (by decide +kernel)
  have f18 := C.2.2.2.2.1 (.fieldLink RX12 18 "TimesByPowersModel" "by" "[I") (by decide +kernel)
  have f36 := C.2.2.2.2.1 (.fieldLink RX12 36 "TimesByPowersModel" "product" "[I") (by decide +kernel)
  have f55 := C.2.2.2.2.1 (.fieldLink RX12 55 "TimesByPowersModel" "raised" "[I") (by decide +kernel)
  have f58 := C.2.2.2.2.1 (.fieldLink RX12 58 "TimesByPowersModel" "log" "[I") (by decide +kernel)
  have f61 := C.2.2.2.2.1 (.fieldLink RX12 61 "TimesByPowersModel" "lane" "[I") (by decide +kernel)
  have f64 := C.2.2.2.2.1 (.fieldLink RX12 64 "TimesByPowersModel" "many" "[I") (by decide +kernel)
  have f67 := C.2.2.2.2.1 (.fieldLink RX12 67 "TimesByPowersModel" "item" "[I") (by decide +kernel)
  have f70 := C.2.2.2.2.1 (.fieldLink RX12 70 "TimesByPowersModel" "rank" "[I") (by decide +kernel)
  have f73 := C.2.2.2.2.1 (.fieldLink RX12 73 "TimesByPowersModel" "t" "[I") (by decide +kernel)
  have f76 := C.2.2.2.2.1 (.fieldLink RX12 76 "TimesByPowersModel" "made" "[I") (by decide +kernel)
  have f79 := C.2.2.2.2.1 (.fieldLink RX12 79 "TimesByPowersModel" "keep" "[I") (by decide +kernel)
  have f82 := C.2.2.2.2.1 (.fieldLink RX12 82 "TimesByPowersModel" "own" "[I") (by decide +kernel)
  have f85 := C.2.2.2.2.1 (.fieldLink RX12 85 "TimesByPowersModel" "poly" "[I") (by decide +kernel)
  have f88 := C.2.2.2.2.1 (.fieldLink RX12 88 "TimesByPowersModel" "fresh" "[I") (by decide +kernel)
  have f91 := C.2.2.2.2.1 (.fieldLink RX12 91 "TimesByPowersModel" "u" "[I") (by decide +kernel)
  have f94 := C.2.2.2.2.1 (.fieldLink RX12 94 "TimesByPowersModel" "way" "[I") (by decide +kernel)
  have f97 := C.2.2.2.2.1 (.fieldLink RX12 97 "TimesByPowersModel" "minors" "[I") (by decide +kernel)
  have f100 := C.2.2.2.2.1 (.fieldLink RX12 100 "TimesByPowersModel" "entry" "[I") (by decide +kernel)
  have f103 := C.2.2.2.2.1 (.fieldLink RX12 103 "TimesByPowersModel" "rests" "[I") (by decide +kernel)
  have f106 := C.2.2.2.2.1 (.fieldLink RX12 106 "TimesByPowersModel" "trace" "[I") (by decide +kernel)
  have f11 := C.2.2.2.2.1 (.fieldLink RX12 11 "TimesByPowersModel" "p" "I") (by decide +kernel)
  have f42 := C.2.2.2.2.1 (.fieldLink RX12 42 "TimesByPowersModel" "n" "I") (by decide +kernel)
  have f109 := C.2.2.2.2.1 (.fieldLink RX12 109 "TimesByPowersModel" "q" "I") (by decide +kernel)
  have f39 := C.2.2.2.2.1 (.fieldLink RX12 39 "TimesByPowersModel" "modulus" "I") (by decide +kernel)
  refine g_aload_n C dX12_init_0 rfl rfl ?_
  refine g_objInit C dX12_init_1 m49 oi oc (Nat.le_of_ble_eq_true rfl) (Nat.le_of_ble_eq_true rfl) ?_
  refine g_aload_n C dX12_init_4 rfl rfl ?_
  refine g_bipush (v := 16) C dX12_init_5 (by decide) ?_
  obtain ⟨hq1, hf⟩ := gcase hf ho
  refine g_newa (q := 92) (N' := 16) C dX12_init_7 ai (by decide) (by decide) (by decide) ⟨Nat.le_of_ble_eq_true rfl, Nat.le_of_ble_eq_true rfl⟩ hq1 ?_
  obtain ⟨hs2, hf⟩ := gcase hf ho
  refine g_putR (i := 6) (j := 6) C dX12_init_9 hs2 c11 gy11 rfl (by decide) f26 (fun _ h9 => h9) (Or.inr ⟨rfl, hnm, rfl⟩) (fun _ => ⟨rfl, rfl⟩) ?_
  refine g_aload_n C dX12_init_12 rfl rfl ?_
  refine g_bipush (v := 16) C dX12_init_13 (by decide) ?_
  obtain ⟨hq3, hf⟩ := gcase hf ho
  refine g_newa (q := 93) (N' := 16) C dX12_init_15 ai (by decide) (by decide) (by decide) ⟨Nat.le_of_ble_eq_true rfl, Nat.le_of_ble_eq_true rfl⟩ hq3 ?_
  refine g_putR (i := 7) (j := 7) C dX12_init_17 (gS_app hs2) c11 gy11 rfl (by decide) f33 (fun _ h9 => h9) (Or.inr ⟨rfl, hnm, rfl⟩) (fun _ => ⟨rfl, rfl⟩) ?_
  refine g_aload_n C dX12_init_20 rfl rfl ?_
  refine g_bipush (v := 16) C dX12_init_21 (by decide) ?_
  obtain ⟨hq4, hf⟩ := gcase hf ho
  refine g_newa (q := 94) (N' := 16) C dX12_init_23 ai (by decide) (by decide) (by decide) ⟨Nat.le_of_ble_eq_true rfl, Nat.le_of_ble_eq_true rfl⟩ hq4 ?_
  refine g_putR (i := 8) (j := 8) C dX12_init_25 (gS_app (gS_app hs2)) c11 gy11 rfl (by decide) f18 (fun _ h9 => h9) (Or.inr ⟨rfl, hnm, rfl⟩) (fun _ => ⟨rfl, rfl⟩) ?_
  refine g_aload_n C dX12_init_28 rfl rfl ?_
  refine g_bipush (v := 16) C dX12_init_29 (by decide) ?_
  obtain ⟨hq5, hf⟩ := gcase hf ho
  refine g_newa (q := 95) (N' := 16) C dX12_init_31 ai (by decide) (by decide) (by decide) ⟨Nat.le_of_ble_eq_true rfl, Nat.le_of_ble_eq_true rfl⟩ hq5 ?_
  refine g_putR (i := 9) (j := 9) C dX12_init_33 (gS_app (gS_app (gS_app hs2))) c11 gy11 rfl (by decide) f36 (fun _ h9 => h9) (Or.inr ⟨rfl, hnm, rfl⟩) (fun _ => ⟨rfl, rfl⟩) ?_
  refine g_aload_n C dX12_init_36 rfl rfl ?_
  refine g_sipush (v := 15625) C dX12_init_37 (by decide) ?_
  obtain ⟨hq6, hf⟩ := gcase hf ho
  refine g_newa (q := 96) (N' := 15625) C dX12_init_40 ai (by decide) (by decide) (by decide) ⟨Nat.le_of_ble_eq_true rfl, Nat.le_of_ble_eq_true rfl⟩ hq6 ?_
  refine g_putR (i := 10) (j := 10) C dX12_init_42 (gS_app (gS_app (gS_app (gS_app hs2)))) c11 gy11 rfl (by decide) f55 (fun _ h9 => h9) (Or.inr ⟨rfl, hnm, rfl⟩) (fun _ => ⟨rfl, rfl⟩) ?_
  refine g_aload_n C dX12_init_45 rfl rfl ?_
  refine g_sipush (v := 15625) C dX12_init_46 (by decide) ?_
  obtain ⟨hq7, hf⟩ := gcase hf ho
  refine g_newa (q := 97) (N' := 15625) C dX12_init_49 ai (by decide) (by decide) (by decide) ⟨Nat.le_of_ble_eq_true rfl, Nat.le_of_ble_eq_true rfl⟩ hq7 ?_
  refine g_putR (i := 11) (j := 11) C dX12_init_51 (gS_app (gS_app (gS_app (gS_app (gS_app hs2))))) c11 gy11 rfl (by decide) f58 (fun _ h9 => h9) (Or.inr ⟨rfl, hnm, rfl⟩) (fun _ => ⟨rfl, rfl⟩) ?_
  refine g_aload_n C dX12_init_54 rfl rfl ?_
  refine g_bipush (v := 8) C dX12_init_55 (by decide) ?_
  obtain ⟨hq8, hf⟩ := gcase hf ho
  refine g_newa (q := 98) (N' := 8) C dX12_init_57 ai (by decide) (by decide) (by decide) ⟨Nat.le_of_ble_eq_true rfl, Nat.le_of_ble_eq_true rfl⟩ hq8 ?_
  refine g_dup C dX12_init_59 rfl ?_
  refine g_iconst (v := 0) C dX12_init_60 (by decide) ?_
  refine g_iconst (v := -1) C dX12_init_61 (by decide) ?_
  refine g_iast C dX12_init_62 (gS_last hq8) ho hf (fun hf => ?_)
  refine g_dup C dX12_init_63 rfl ?_
  refine g_iconst (v := 1) C dX12_init_64 (by decide) ?_
  refine g_iconst (v := -1) C dX12_init_65 (by decide) ?_
  refine g_iast C dX12_init_66 (gS_last hq8) ho hf (fun hf => ?_)
  refine g_dup C dX12_init_67 rfl ?_
  refine g_iconst (v := 2) C dX12_init_68 (by decide) ?_
  refine g_iconst (v := -1) C dX12_init_69 (by decide) ?_
  refine g_iast C dX12_init_70 (gS_last hq8) ho hf (fun hf => ?_)
  refine g_dup C dX12_init_71 rfl ?_
  refine g_iconst (v := 3) C dX12_init_72 (by decide) ?_
  refine g_iconst (v := -1) C dX12_init_73 (by decide) ?_
  refine g_iast C dX12_init_74 (gS_last hq8) ho hf (fun hf => ?_)
  refine g_dup C dX12_init_75 rfl ?_
  refine g_iconst (v := 4) C dX12_init_76 (by decide) ?_
  refine g_iconst (v := -1) C dX12_init_77 (by decide) ?_
  refine g_iast C dX12_init_78 (gS_last hq8) ho hf (fun hf => ?_)
  refine g_dup C dX12_init_79 rfl ?_
  refine g_iconst (v := 5) C dX12_init_80 (by decide) ?_
  refine g_iconst (v := -1) C dX12_init_81 (by decide) ?_
  refine g_iast C dX12_init_82 (gS_last hq8) ho hf (fun hf => ?_)
  refine g_dup C dX12_init_83 rfl ?_
  refine g_bipush (v := 6) C dX12_init_84 (by decide) ?_
  refine g_iconst (v := -1) C dX12_init_86 (by decide) ?_
  refine g_iast C dX12_init_87 (gS_last hq8) ho hf (fun hf => ?_)
  refine g_dup C dX12_init_88 rfl ?_
  refine g_bipush (v := 7) C dX12_init_89 (by decide) ?_
  refine g_iconst (v := -1) C dX12_init_91 (by decide) ?_
  refine g_iast C dX12_init_92 (gS_last hq8) ho hf (fun hf => ?_)
  refine g_putR (i := 12) (j := 12) C dX12_init_93 (gS_app (gS_app (gS_app (gS_app (gS_app (gS_app hs2)))))) c11 gy11 rfl (by decide) f61 (fun _ h9 => h9) (Or.inr ⟨rfl, hnm, rfl⟩) (fun _ => ⟨rfl, rfl⟩) ?_
  refine g_aload_n C dX12_init_96 rfl rfl ?_
  refine g_bipush (v := 8) C dX12_init_97 (by decide) ?_
  obtain ⟨hq9, hf⟩ := gcase hf ho
  refine g_newa (q := 99) (N' := 8) C dX12_init_99 ai (by decide) (by decide) (by decide) ⟨Nat.le_of_ble_eq_true rfl, Nat.le_of_ble_eq_true rfl⟩ hq9 ?_
  refine g_putR (i := 13) (j := 13) C dX12_init_101 (gS_app (gS_app (gS_app (gS_app (gS_app (gS_app (gS_app hs2))))))) c11 gy11 rfl (by decide) f64 (fun _ h9 => h9) (Or.inr ⟨rfl, hnm, rfl⟩) (fun _ => ⟨rfl, rfl⟩) ?_
  refine g_aload_n C dX12_init_104 rfl rfl ?_
  refine g_sipush (v := 192) C dX12_init_105 (by decide) ?_
  obtain ⟨hq10, hf⟩ := gcase hf ho
  refine g_newa (q := 100) (N' := 192) C dX12_init_108 ai (by decide) (by decide) (by decide) ⟨Nat.le_of_ble_eq_true rfl, Nat.le_of_ble_eq_true rfl⟩ hq10 ?_
  refine g_putR (i := 14) (j := 14) C dX12_init_110 (gS_app (gS_app (gS_app (gS_app (gS_app (gS_app (gS_app (gS_app hs2)))))))) c11 gy11 rfl (by decide) f67 (fun _ h9 => h9) (Or.inr ⟨rfl, hnm, rfl⟩) (fun _ => ⟨rfl, rfl⟩) ?_
  refine g_aload_n C dX12_init_113 rfl rfl ?_
  refine g_bipush (v := 10) C dX12_init_114 (by decide) ?_
  obtain ⟨hq11, hf⟩ := gcase hf ho
  refine g_newa (q := 101) (N' := 10) C dX12_init_116 ai (by decide) (by decide) (by decide) ⟨Nat.le_of_ble_eq_true rfl, Nat.le_of_ble_eq_true rfl⟩ hq11 ?_
  refine g_putR (i := 15) (j := 15) C dX12_init_118 (gS_app (gS_app (gS_app (gS_app (gS_app (gS_app (gS_app (gS_app (gS_app hs2))))))))) c11 gy11 rfl (by decide) f70 (fun _ h9 => h9) (Or.inr ⟨rfl, hnm, rfl⟩) (fun _ => ⟨rfl, rfl⟩) ?_
  refine g_aload_n C dX12_init_121 rfl rfl ?_
  refine g_bipush (v := 40) C dX12_init_122 (by decide) ?_
  obtain ⟨hq12, hf⟩ := gcase hf ho
  refine g_newa (q := 102) (N' := 40) C dX12_init_124 ai (by decide) (by decide) (by decide) ⟨Nat.le_of_ble_eq_true rfl, Nat.le_of_ble_eq_true rfl⟩ hq12 ?_
  refine g_putR (i := 16) (j := 16) C dX12_init_126 (gS_app (gS_app (gS_app (gS_app (gS_app (gS_app (gS_app (gS_app (gS_app (gS_app hs2)))))))))) c11 gy11 rfl (by decide) f73 (fun _ h9 => h9) (Or.inr ⟨rfl, hnm, rfl⟩) (fun _ => ⟨rfl, rfl⟩) ?_
  refine g_aload_n C dX12_init_129 rfl rfl ?_
  refine g_bipush (v := 24) C dX12_init_130 (by decide) ?_
  obtain ⟨hq13, hf⟩ := gcase hf ho
  refine g_newa (q := 103) (N' := 24) C dX12_init_132 ai (by decide) (by decide) (by decide) ⟨Nat.le_of_ble_eq_true rfl, Nat.le_of_ble_eq_true rfl⟩ hq13 ?_
  refine g_putR (i := 17) (j := 17) C dX12_init_134 (gS_app (gS_app (gS_app (gS_app (gS_app (gS_app (gS_app (gS_app (gS_app (gS_app (gS_app hs2))))))))))) c11 gy11 rfl (by decide) f76 (fun _ h9 => h9) (Or.inr ⟨rfl, hnm, rfl⟩) (fun _ => ⟨rfl, rfl⟩) ?_
  refine g_aload_n C dX12_init_137 rfl rfl ?_
  refine g_bipush (v := 24) C dX12_init_138 (by decide) ?_
  obtain ⟨hq14, hf⟩ := gcase hf ho
  refine g_newa (q := 104) (N' := 24) C dX12_init_140 ai (by decide) (by decide) (by decide) ⟨Nat.le_of_ble_eq_true rfl, Nat.le_of_ble_eq_true rfl⟩ hq14 ?_
  refine g_putR (i := 18) (j := 18) C dX12_init_142 (gS_app (gS_app (gS_app (gS_app (gS_app (gS_app (gS_app (gS_app (gS_app (gS_app (gS_app (gS_app hs2)))))))))))) c11 gy11 rfl (by decide) f79 (fun _ h9 => h9) (Or.inr ⟨rfl, hnm, rfl⟩) (fun _ => ⟨rfl, rfl⟩) ?_
  refine g_aload_n C dX12_init_145 rfl rfl ?_
  refine g_bipush (v := 24) C dX12_init_146 (by decide) ?_
  obtain ⟨hq15, hf⟩ := gcase hf ho
  refine g_newa (q := 105) (N' := 24) C dX12_init_148 ai (by decide) (by decide) (by decide) ⟨Nat.le_of_ble_eq_true rfl, Nat.le_of_ble_eq_true rfl⟩ hq15 ?_
  refine g_putR (i := 19) (j := 19) C dX12_init_150 (gS_app (gS_app (gS_app (gS_app (gS_app (gS_app (gS_app (gS_app (gS_app (gS_app (gS_app (gS_app (gS_app hs2))))))))))))) c11 gy11 rfl (by decide) f82 (fun _ h9 => h9) (Or.inr ⟨rfl, hnm, rfl⟩) (fun _ => ⟨rfl, rfl⟩) ?_
  refine g_aload_n C dX12_init_153 rfl rfl ?_
  refine g_bipush (v := 8) C dX12_init_154 (by decide) ?_
  obtain ⟨hq16, hf⟩ := gcase hf ho
  refine g_newa (q := 106) (N' := 8) C dX12_init_156 ai (by decide) (by decide) (by decide) ⟨Nat.le_of_ble_eq_true rfl, Nat.le_of_ble_eq_true rfl⟩ hq16 ?_
  refine g_putR (i := 20) (j := 20) C dX12_init_158 (gS_app (gS_app (gS_app (gS_app (gS_app (gS_app (gS_app (gS_app (gS_app (gS_app (gS_app (gS_app (gS_app (gS_app hs2)))))))))))))) c11 gy11 rfl (by decide) f85 (fun _ h9 => h9) (Or.inr ⟨rfl, hnm, rfl⟩) (fun _ => ⟨rfl, rfl⟩) ?_
  refine g_aload_n C dX12_init_161 rfl rfl ?_
  refine g_iconst (v := 4) C dX12_init_162 (by decide) ?_
  obtain ⟨hq17, hf⟩ := gcase hf ho
  refine g_newa (q := 107) (N' := 4) C dX12_init_163 ai (by decide) (by decide) (by decide) ⟨Nat.le_of_ble_eq_true rfl, Nat.le_of_ble_eq_true rfl⟩ hq17 ?_
  refine g_putR (i := 21) (j := 21) C dX12_init_165 (gS_app (gS_app (gS_app (gS_app (gS_app (gS_app (gS_app (gS_app (gS_app (gS_app (gS_app (gS_app (gS_app (gS_app (gS_app hs2))))))))))))))) c11 gy11 rfl (by decide) f88 (fun _ h9 => h9) (Or.inr ⟨rfl, hnm, rfl⟩) (fun _ => ⟨rfl, rfl⟩) ?_
  refine g_aload_n C dX12_init_168 rfl rfl ?_
  refine g_iconst (v := 5) C dX12_init_169 (by decide) ?_
  obtain ⟨hq18, hf⟩ := gcase hf ho
  refine g_newa (q := 108) (N' := 5) C dX12_init_170 ai (by decide) (by decide) (by decide) ⟨Nat.le_of_ble_eq_true rfl, Nat.le_of_ble_eq_true rfl⟩ hq18 ?_
  refine g_putR (i := 22) (j := 22) C dX12_init_172 (gS_app (gS_app (gS_app (gS_app (gS_app (gS_app (gS_app (gS_app (gS_app (gS_app (gS_app (gS_app (gS_app (gS_app (gS_app (gS_app hs2)))))))))))))))) c11 gy11 rfl (by decide) f91 (fun _ h9 => h9) (Or.inr ⟨rfl, hnm, rfl⟩) (fun _ => ⟨rfl, rfl⟩) ?_
  refine g_aload_n C dX12_init_175 rfl rfl ?_
  refine g_bipush (v := 42) C dX12_init_176 (by decide) ?_
  obtain ⟨hq19, hf⟩ := gcase hf ho
  refine g_newa (q := 109) (N' := 42) C dX12_init_178 ai (by decide) (by decide) (by decide) ⟨Nat.le_of_ble_eq_true rfl, Nat.le_of_ble_eq_true rfl⟩ hq19 ?_
  refine g_putR (i := 23) (j := 23) C dX12_init_180 (gS_app (gS_app (gS_app (gS_app (gS_app (gS_app (gS_app (gS_app (gS_app (gS_app (gS_app (gS_app (gS_app (gS_app (gS_app (gS_app (gS_app hs2))))))))))))))))) c11 gy11 rfl (by decide) f94 (fun _ h9 => h9) (Or.inr ⟨rfl, hnm, rfl⟩) (fun _ => ⟨rfl, rfl⟩) ?_
  refine g_aload_n C dX12_init_183 rfl rfl ?_
  refine g_sipush (v := 448) C dX12_init_184 (by decide) ?_
  obtain ⟨hq20, hf⟩ := gcase hf ho
  refine g_newa (q := 110) (N' := 448) C dX12_init_187 ai (by decide) (by decide) (by decide) ⟨Nat.le_of_ble_eq_true rfl, Nat.le_of_ble_eq_true rfl⟩ hq20 ?_
  refine g_putR (i := 24) (j := 24) C dX12_init_189 (gS_app (gS_app (gS_app (gS_app (gS_app (gS_app (gS_app (gS_app (gS_app (gS_app (gS_app (gS_app (gS_app (gS_app (gS_app (gS_app (gS_app (gS_app hs2)))))))))))))))))) c11 gy11 rfl (by decide) f97 (fun _ h9 => h9) (Or.inr ⟨rfl, hnm, rfl⟩) (fun _ => ⟨rfl, rfl⟩) ?_
  refine g_aload_n C dX12_init_192 rfl rfl ?_
  refine g_bipush (v := 36) C dX12_init_193 (by decide) ?_
  obtain ⟨hq21, hf⟩ := gcase hf ho
  refine g_newa (q := 111) (N' := 36) C dX12_init_195 ai (by decide) (by decide) (by decide) ⟨Nat.le_of_ble_eq_true rfl, Nat.le_of_ble_eq_true rfl⟩ hq21 ?_
  refine g_putR (i := 25) (j := 25) C dX12_init_197 (gS_app (gS_app (gS_app (gS_app (gS_app (gS_app (gS_app (gS_app (gS_app (gS_app (gS_app (gS_app (gS_app (gS_app (gS_app (gS_app (gS_app (gS_app (gS_app hs2))))))))))))))))))) c11 gy11 rfl (by decide) f100 (fun _ h9 => h9) (Or.inr ⟨rfl, hnm, rfl⟩) (fun _ => ⟨rfl, rfl⟩) ?_
  refine g_aload_n C dX12_init_200 rfl rfl ?_
  refine g_bipush (v := 20) C dX12_init_201 (by decide) ?_
  obtain ⟨hq22, hf⟩ := gcase hf ho
  refine g_newa (q := 112) (N' := 20) C dX12_init_203 ai (by decide) (by decide) (by decide) ⟨Nat.le_of_ble_eq_true rfl, Nat.le_of_ble_eq_true rfl⟩ hq22 ?_
  refine g_putR (i := 26) (j := 26) C dX12_init_205 (gS_app (gS_app (gS_app (gS_app (gS_app (gS_app (gS_app (gS_app (gS_app (gS_app (gS_app (gS_app (gS_app (gS_app (gS_app (gS_app (gS_app (gS_app (gS_app (gS_app hs2)))))))))))))))))))) c11 gy11 rfl (by decide) f103 (fun _ h9 => h9) (Or.inr ⟨rfl, hnm, rfl⟩) (fun _ => ⟨rfl, rfl⟩) ?_
  refine g_aload_n C dX12_init_208 rfl rfl ?_
  refine g_bipush (v := 16) C dX12_init_209 (by decide) ?_
  obtain ⟨hq23, hf⟩ := gcase hf ho
  refine g_newa (q := 113) (N' := 16) C dX12_init_211 ai (by decide) (by decide) (by decide) ⟨Nat.le_of_ble_eq_true rfl, Nat.le_of_ble_eq_true rfl⟩ hq23 ?_
  refine g_putR (i := 27) (j := 27) C dX12_init_213 (gS_app (gS_app (gS_app (gS_app (gS_app (gS_app (gS_app (gS_app (gS_app (gS_app (gS_app (gS_app (gS_app (gS_app (gS_app (gS_app (gS_app (gS_app (gS_app (gS_app (gS_app hs2))))))))))))))))))))) c11 gy11 rfl (by decide) f106 (fun _ h9 => h9) (Or.inr ⟨rfl, hnm, rfl⟩) (fun _ => ⟨rfl, rfl⟩) ?_
  refine g_aload_n C dX12_init_216 rfl rfl ?_
  refine g_iload_n C dX12_init_217 rfl rfl ?_
  refine g_iconst (v := 3) C dX12_init_218 (by decide) ?_
  refine g_join (fun z24 => [(0, .ref (X.1 + 91)), (2, .int a1)]) (fun z24 => [.int z24, .ref (X.1 + 91)]) (fun z24 => gZ (gZ (gZ (gZ (gZ (gZ (gZ (gZ (gZ (gZ (gZ (gZ (gZ (gZ (gZ (gU (gU (gU (gU (gU (gU (gU (gU (gZ (gZ (gZ (gZ (gZ (gZ (gZ I 92) 93) 94) 95) 96) 97) 98) 98 (0 : Int32).toNatClampNeg (-1 : Int32)) 98 (1 : Int32).toNatClampNeg (-1 : Int32)) 98 (2 : Int32).toNatClampNeg (-1 : Int32)) 98 (3 : Int32).toNatClampNeg (-1 : Int32)) 98 (4 : Int32).toNatClampNeg (-1 : Int32)) 98 (5 : Int32).toNatClampNeg (-1 : Int32)) 98 (6 : Int32).toNatClampNeg (-1 : Int32)) 98 (7 : Int32).toNatClampNeg (-1 : Int32)) 99) 100) 101) 102) 103) 104) 105) 106) 107) 108) 109) 110) 111) 112) 113) 232 hf ho (fun z24 hf => ?_) (fun o1 hf ho hkz24 => ?_)
  · refine g_putI (i := 2) (j := 2) C dX12_init_232 (gS_app (gS_app (gS_app (gS_app (gS_app (gS_app (gS_app (gS_app (gS_app (gS_app (gS_app (gS_app (gS_app (gS_app (gS_app (gS_app (gS_app (gS_app (gS_app (gS_app (gS_app hs2))))))))))))))))))))) c11 gy11 rfl f11 (fun _ h9 => h9) (Or.inr ⟨rfl, hnm, rfl⟩) rfl ?_
    refine g_aload_n C dX12_init_235 rfl rfl ?_
    refine g_iload_n C dX12_init_236 rfl rfl ?_
    refine g_iconst (v := 1) C dX12_init_237 (by decide) ?_
    refine g_join (fun z25 => [(0, .ref (X.1 + 91))]) (fun z25 => [.int z25, .ref (X.1 + 91)]) (fun z25 => gU (gZ (gZ (gZ (gZ (gZ (gZ (gZ (gZ (gZ (gZ (gZ (gZ (gZ (gZ (gZ (gU (gU (gU (gU (gU (gU (gU (gU (gZ (gZ (gZ (gZ (gZ (gZ (gZ I 92) 93) 94) 95) 96) 97) 98) 98 (0 : Int32).toNatClampNeg (-1 : Int32)) 98 (1 : Int32).toNatClampNeg (-1 : Int32)) 98 (2 : Int32).toNatClampNeg (-1 : Int32)) 98 (3 : Int32).toNatClampNeg (-1 : Int32)) 98 (4 : Int32).toNatClampNeg (-1 : Int32)) 98 (5 : Int32).toNatClampNeg (-1 : Int32)) 98 (6 : Int32).toNatClampNeg (-1 : Int32)) 98 (7 : Int32).toNatClampNeg (-1 : Int32)) 99) 100) 101) 102) 103) 104) 105) 106) 107) 108) 109) 110) 111) 112) 113) 91 2 z24) 257 hf ho (fun z25 hf => ?_) (fun o1 hf ho hkz25 => ?_)
    · refine g_putI (i := 3) (j := 3) C dX12_init_257 (gS_app (gS_app (gS_app (gS_app (gS_app (gS_app (gS_app (gS_app (gS_app (gS_app (gS_app (gS_app (gS_app (gS_app (gS_app (gS_app (gS_app (gS_app (gS_app (gS_app (gS_app hs2))))))))))))))))))))) c11 gy11 rfl f42 (fun _ h9 => h9) (Or.inr ⟨rfl, hnm, rfl⟩) rfl ?_
      refine g_aload_n C dX12_init_260 rfl rfl ?_
      refine g_aload_n C dX12_init_261 rfl rfl ?_
      refine g_getI (i := 2) (j := 2) C dX12_init_262 (gS_app (gS_app (gS_app (gS_app (gS_app (gS_app (gS_app (gS_app (gS_app (gS_app (gS_app (gS_app (gS_app (gS_app (gS_app (gS_app (gS_app (gS_app (gS_app (gS_app (gS_app hs2))))))))))))))))))))) c11 rfl f11 (fun _ h9 => h9) ?_
      refine g_aload_n C dX12_init_265 rfl rfl ?_
      refine g_getI (i := 3) (j := 3) C dX12_init_266 (gS_app (gS_app (gS_app (gS_app (gS_app (gS_app (gS_app (gS_app (gS_app (gS_app (gS_app (gS_app (gS_app (gS_app (gS_app (gS_app (gS_app (gS_app (gS_app (gS_app (gS_app hs2))))))))))))))))))))) c11 rfl f42 (fun _ h9 => h9) ?_
      obtain ⟨hL27, hf⟩ := gcase hf ho
      have hL27 := gLayb_ok (by decide) hL27
      obtain ⟨z26, hz26, hf⟩ := gbind hf ho
      refine g_callS C dX12_init_269 (m_X12_power l X N _ _ _  (gLay.sub hL27 (by decide) (by decide)) _ _ z26 hz26) gEin0 (va_cwS 2 C.2.2.2.2.1 gX12_init_X12_power rfl rfl rfl (by decide +kernel) ⟨Nat.le_of_ble_eq_true rfl, Nat.le_of_ble_eq_true rfl⟩) rfl rfl (Nat.le_of_ble_eq_true rfl) ⟨Nat.le_of_ble_eq_true rfl, Nat.le_of_ble_eq_true rfl⟩ ?_
      refine g_putI (i := 4) (j := 4) C dX12_init_272 (gS_app (gS_app (gS_app (gS_app (gS_app (gS_app (gS_app (gS_app (gS_app (gS_app (gS_app (gS_app (gS_app (gS_app (gS_app (gS_app (gS_app (gS_app (gS_app (gS_app (gS_app hs2))))))))))))))))))))) c11 gy11 rfl f109 (fun _ h9 => h9) (Or.inr ⟨rfl, hnm, rfl⟩) rfl ?_
      refine g_aload_n C dX12_init_275 rfl rfl ?_
      refine g_getI (i := 4) (j := 4) C dX12_init_276 (gS_app (gS_app (gS_app (gS_app (gS_app (gS_app (gS_app (gS_app (gS_app (gS_app (gS_app (gS_app (gS_app (gS_app (gS_app (gS_app (gS_app (gS_app (gS_app (gS_app (gS_app hs2))))))))))))))))))))) c11 rfl f109 (fun _ h9 => h9) ?_
      refine g_istore_n C dX12_init_279 rfl (Nat.le_of_ble_eq_true rfl) rfl rfl ?_
      refine g_loop (fun z28 => [(0, .ref (X.1 + 91)), (3, .int z28.1)]) (fun z28 => z28.2) (fun r29 => [(0, .ref (X.1 + 91)), (3, .int r29.1)]) (fun r29 => r29.2) 306 hf ho (And.intro rfl (And.intro rfl trivial)) rfl (fun r29 hf => ?_) (fun z28 o1 hf ho hkz28 hez28 => ?_)
      · refine g_aload_n C dX12_init_306 rfl rfl ?_
        refine g_iload_n C dX12_init_307 rfl rfl ?_
        refine g_putI (i := 5) (j := 5) C dX12_init_308 (gS_app (gS_app (gS_app (gS_app (gS_app (gS_app (gS_app (gS_app (gS_app (gS_app (gS_app (gS_app (gS_app (gS_app (gS_app (gS_app (gS_app (gS_app (gS_app (gS_app (gS_app hs2))))))))))))))))))))) c11 gy11 rfl f39 (fun _ h9 => h9) (Or.inr ⟨rfl, hnm, rfl⟩) rfl ?_
        refine g_iconst (v := 0) C dX12_init_311 (by decide) ?_
        refine g_istore C dX12_init_312 (Nat.le_of_ble_eq_true rfl) rfl rfl ?_
        refine g_iconst (v := 1) C dX12_init_314 (by decide) ?_
        refine g_istore C dX12_init_315 (Nat.le_of_ble_eq_true rfl) rfl rfl ?_
        refine g_loop (fun z31 => [(0, .ref (X.1 + 91)), (4, .int z31.1), (5, .int z31.2.1)]) (fun z31 => z31.2.2) (fun r32 => []) (fun r32 => r32) 416 hf ho (And.intro rfl (And.intro rfl (And.intro rfl trivial))) rfl (fun r32 hf => ?_) (fun z31 o1 hf ho hkz31 hez31 => ?_)
        · obtain ⟨rfl, rfl, rfl⟩ := gs3 hf
          refine g_widen (k := 22) (n := 32223) (Nat.le_of_ble_eq_true rfl) (Nat.le_of_ble_eq_true rfl) ?_
          exact g_vret C dX12_init_416 hr hlk
        · refine g_iload C dX12_init_317 rfl ?_
          refine g_aload_n C dX12_init_319 rfl rfl ?_
          refine g_getI (i := 4) (j := 4) C dX12_init_320 (gS_app (gS_app (gS_app (gS_app (gS_app (gS_app (gS_app (gS_app (gS_app (gS_app (gS_app (gS_app (gS_app (gS_app (gS_app (gS_app (gS_app (gS_app (gS_app (gS_app (gS_app hs2))))))))))))))))))))) c11 rfl f109 (fun _ h9 => h9) ?_
          refine g_icmp_ge (tgt := 416) C dX12_init_323 (by decide) hf (fun hf => ?_) (fun hf => ?_)
          · have hx := hez31 _ hf.symm
            refine g_sub ?_ hx
            exact trivial
          · refine g_iload C dX12_init_326 rfl ?_
            refine g_if_ne (tgt := 416) C dX12_init_328 (by decide) hf (fun hf => ?_) (fun hf => ?_)
            · have hx := hez31 _ hf.symm
              refine g_sub ?_ hx
              exact trivial
            · refine g_iconst (v := 1) C dX12_init_331 (by decide) ?_
              refine g_istore C dX12_init_332 (Nat.le_of_ble_eq_true rfl) rfl rfl ?_
              refine g_iconst (v := 0) C dX12_init_334 (by decide) ?_
              refine g_istore C dX12_init_335 (Nat.le_of_ble_eq_true rfl) rfl rfl ?_
              refine g_iconst (v := 1) C dX12_init_337 (by decide) ?_
              refine g_istore C dX12_init_338 (Nat.le_of_ble_eq_true rfl) rfl rfl ?_
              refine g_loop (fun z33 => [(0, .ref (X.1 + 91)), (5, .int z31.2.1), (6, .int z33.1), (7, .int z33.2.1), (8, .int z33.2.2.1)]) (fun z33 => z33.2.2.2) (fun r34 => [(0, .ref (X.1 + 91)), (5, .int z31.2.1), (7, .int r34.1)]) (fun r34 => r34.2) 392 hf ho (And.intro rfl (And.intro rfl (And.intro rfl (And.intro rfl (And.intro rfl trivial))))) rfl (fun r34 hf => ?_) (fun z33 o1 hf ho hkz33 hez33 => ?_)
              · refine g_iload C dX12_init_392 rfl ?_
                refine g_aload_n C dX12_init_394 rfl rfl ?_
                refine g_getI (i := 4) (j := 4) C dX12_init_395 (gS_app (gS_app (gS_app (gS_app (gS_app (gS_app (gS_app (gS_app (gS_app (gS_app (gS_app (gS_app (gS_app (gS_app (gS_app (gS_app (gS_app (gS_app (gS_app (gS_app (gS_app hs2))))))))))))))))))))) c11 rfl f109 (fun _ h9 => h9) ?_
                refine g_iconst (v := 1) C dX12_init_398 (by decide) ?_
                refine g_isub C dX12_init_399 ?_
                refine g_icmp_ne (tgt := 407) C dX12_init_400 (by decide) hf (fun hf => ?_) (fun hf => ?_)
                · refine g_iconst (v := 0) C dX12_init_407 (by decide) ?_
                  refine g_istore C dX12_init_408 (Nat.le_of_ble_eq_true rfl) rfl rfl ?_
                  refine g_iinc (d := 1) C dX12_init_410 rfl (by decide) rfl (Nat.le_of_ble_eq_true rfl) rfl rfl ?_
                  refine g_goto (tgt := 317) C dX12_init_413 (by decide) ?_
                  have hx := hkz31 _ hf.symm
                  refine g_sub ?_ hx
                  exact (And.intro rfl (And.intro rfl (And.intro rfl trivial)))
                · refine g_iconst (v := 1) C dX12_init_403 (by decide) ?_
                  refine g_goto (tgt := 408) C dX12_init_404 (by decide) ?_
                  refine g_istore C dX12_init_408 (Nat.le_of_ble_eq_true rfl) rfl rfl ?_
                  refine g_iinc (d := 1) C dX12_init_410 rfl (by decide) rfl (Nat.le_of_ble_eq_true rfl) rfl rfl ?_
                  refine g_goto (tgt := 317) C dX12_init_413 (by decide) ?_
                  have hx := hkz31 _ hf.symm
                  refine g_sub ?_ hx
                  exact (And.intro rfl (And.intro rfl (And.intro rfl trivial)))
              · refine g_iload C dX12_init_340 rfl ?_
                refine g_if_eq (tgt := 392) C dX12_init_342 (by decide) hf (fun hf => ?_) (fun hf => ?_)
                · have hx := hez33 _ hf.symm
                  refine g_sub ?_ hx
                  exact (And.intro rfl (And.intro rfl (And.intro rfl trivial)))
                · refine g_aload_n C dX12_init_345 rfl rfl ?_
                  refine g_getR (i := 10) (j := 10) C dX12_init_346 (gS_app (gS_app (gS_app (gS_app (gS_app (gS_app (gS_app (gS_app (gS_app (gS_app (gS_app (gS_app (gS_app (gS_app (gS_app (gS_app (gS_app (gS_app (gS_app (gS_app (gS_app hs2))))))))))))))))))))) c11 rfl (by decide) f55 (fun _ h9 => h9) rfl ?_
                  refine g_iload C dX12_init_349 rfl ?_
                  refine g_iload C dX12_init_351 rfl ?_
                  refine g_iast C dX12_init_353 (gS_app (gS_app (gS_app (gS_app (gS_app (gS_app (gS_app (gS_app (gS_app (gS_app (gS_app (gS_app (gS_app (gS_app (gS_app (gS_app (gS_app (gS_last hq6)))))))))))))))))) ho hf (fun hf => ?_)
                  refine g_aload_n C dX12_init_354 rfl rfl ?_
                  refine g_getR (i := 11) (j := 11) C dX12_init_355 (gS_app (gS_app (gS_app (gS_app (gS_app (gS_app (gS_app (gS_app (gS_app (gS_app (gS_app (gS_app (gS_app (gS_app (gS_app (gS_app (gS_app (gS_app (gS_app (gS_app (gS_app hs2))))))))))))))))))))) c11 rfl (by decide) f58 (fun _ h9 => h9) rfl ?_
                  refine g_iload C dX12_init_358 rfl ?_
                  refine g_iload C dX12_init_360 rfl ?_
                  refine g_iast C dX12_init_362 (gS_app (gS_app (gS_app (gS_app (gS_app (gS_app (gS_app (gS_app (gS_app (gS_app (gS_app (gS_app (gS_app (gS_app (gS_app (gS_app (gS_last hq7))))))))))))))))) ho hf (fun hf => ?_)
                  refine g_iinc (d := 1) C dX12_init_363 rfl (by decide) rfl (Nat.le_of_ble_eq_true rfl) rfl rfl ?_
                  refine g_aload_n C dX12_init_366 rfl rfl ?_
                  refine g_iload C dX12_init_367 rfl ?_
                  refine g_iload C dX12_init_369 rfl ?_
                  obtain ⟨z35, hz35, hf⟩ := gbind hf ho
                  refine g_callV C dX12_init_371 (m_X12_slow l X N _ _ _  (gLay.sub hL27 (by decide) (by decide)) _ _ z35.1 z35.2 hz35) gEin0 (cwV 2 C.2.2.2.2.1 gX12_init_X12_slow rfl rfl rfl (by decide +kernel) ⟨Nat.le_of_ble_eq_true rfl, Nat.le_of_ble_eq_true rfl⟩) (gS_app (gS_app (gS_app (gS_app (gS_app (gS_app (gS_app (gS_app (gS_app (gS_app (gS_app (gS_app (gS_app (gS_app (gS_app (gS_app (gS_app (gS_app (gS_app (gS_app (gS_app hs2))))))))))))))))))))) (by decide) rfl rfl rfl (Nat.le_of_ble_eq_true rfl) ⟨Nat.le_of_ble_eq_true rfl, Nat.le_of_ble_eq_true rfl⟩ ?_
                  refine g_istore C dX12_init_374 (Nat.le_of_ble_eq_true rfl) rfl rfl ?_
                  refine g_iload C dX12_init_376 rfl ?_
                  refine g_iconst (v := 1) C dX12_init_378 (by decide) ?_
                  refine g_icmp_eq (tgt := 386) C dX12_init_379 (by decide) hf (fun hf => ?_) (fun hf => ?_)
                  · refine g_iconst (v := 0) C dX12_init_386 (by decide) ?_
                    refine g_istore C dX12_init_387 (Nat.le_of_ble_eq_true rfl) rfl rfl ?_
                    refine g_goto (tgt := 340) C dX12_init_389 (by decide) ?_
                    have hx := hkz33 _ hf.symm
                    refine g_sub ?_ hx
                    exact (And.intro rfl (And.intro rfl (And.intro rfl (And.intro rfl (And.intro rfl trivial)))))
                  · refine g_iconst (v := 1) C dX12_init_382 (by decide) ?_
                    refine g_goto (tgt := 387) C dX12_init_383 (by decide) ?_
                    refine g_istore C dX12_init_387 (Nat.le_of_ble_eq_true rfl) rfl rfl ?_
                    refine g_goto (tgt := 340) C dX12_init_389 (by decide) ?_
                    have hx := hkz33 _ hf.symm
                    refine g_sub ?_ hx
                    exact (And.intro rfl (And.intro rfl (And.intro rfl (And.intro rfl (And.intro rfl trivial)))))
      · refine g_aload_n C dX12_init_280 rfl rfl ?_
        refine g_getI (i := 3) (j := 3) C dX12_init_281 (gS_app (gS_app (gS_app (gS_app (gS_app (gS_app (gS_app (gS_app (gS_app (gS_app (gS_app (gS_app (gS_app (gS_app (gS_app (gS_app (gS_app (gS_app (gS_app (gS_app (gS_app hs2))))))))))))))))))))) c11 rfl f42 (fun _ h9 => h9) ?_
        refine g_iconst (v := 1) C dX12_init_284 (by decide) ?_
        refine g_icmp_le (tgt := 306) C dX12_init_285 (by decide) hf (fun hf => ?_) (fun hf => ?_)
        · have hx := hez28 _ hf.symm
          refine g_sub ?_ hx
          exact (And.intro rfl (And.intro rfl trivial))
        · refine g_aload_n C dX12_init_288 rfl rfl ?_
          refine g_iload_n C dX12_init_289 rfl rfl ?_
          refine g_aload_n C dX12_init_290 rfl rfl ?_
          refine g_getI (i := 3) (j := 3) C dX12_init_291 (gS_app (gS_app (gS_app (gS_app (gS_app (gS_app (gS_app (gS_app (gS_app (gS_app (gS_app (gS_app (gS_app (gS_app (gS_app (gS_app (gS_app (gS_app (gS_app (gS_app (gS_app hs2))))))))))))))))))))) c11 rfl f42 (fun _ h9 => h9) ?_
          obtain ⟨z30, hz30, hf⟩ := gbind hf ho
          refine g_callV C dX12_init_294 (m_X12_isPrime l X N _ _ _  (gLay.sub hL27 (by decide) (by decide)) _ _ z30.1 z30.2 hz30) gEin0 (cwV 2 C.2.2.2.2.1 gX12_init_X12_isPrime rfl rfl rfl (by decide +kernel) ⟨Nat.le_of_ble_eq_true rfl, Nat.le_of_ble_eq_true rfl⟩) (gS_app (gS_app (gS_app (gS_app (gS_app (gS_app (gS_app (gS_app (gS_app (gS_app (gS_app (gS_app (gS_app (gS_app (gS_app (gS_app (gS_app (gS_app (gS_app (gS_app (gS_app hs2))))))))))))))))))))) (by decide) rfl rfl rfl (Nat.le_of_ble_eq_true rfl) ⟨Nat.le_of_ble_eq_true rfl, Nat.le_of_ble_eq_true rfl⟩ ?_
          refine g_if_ne (tgt := 306) C dX12_init_297 (by decide) hf (fun hf => ?_) (fun hf => ?_)
          · have hx := hez28 _ hf.symm
            refine g_sub ?_ hx
            exact (And.intro rfl (And.intro rfl trivial))
          · refine g_iinc (d := 1) C dX12_init_300 rfl (by decide) rfl (Nat.le_of_ble_eq_true rfl) rfl rfl ?_
            refine g_goto (tgt := 280) C dX12_init_303 (by decide) ?_
            have hx := hkz28 _ hf.symm
            refine g_sub ?_ hx
            exact (And.intro rfl (And.intro rfl trivial))
    · refine g_icmp_ge (tgt := 245) C dX12_init_238 (by decide) hf (fun hf => ?_) (fun hf => ?_)
      · refine g_iload_n C dX12_init_245 rfl rfl ?_
        refine g_bipush (v := 6) C dX12_init_246 (by decide) ?_
        refine g_icmp_le (tgt := 256) C dX12_init_248 (by decide) hf (fun hf => ?_) (fun hf => ?_)
        · refine g_iload_n C dX12_init_256 rfl rfl ?_
          have hx := hkz25 _ hf.symm
          refine g_sub ?_ hx
          exact (And.intro rfl trivial)
        · refine g_bipush (v := 6) C dX12_init_251 (by decide) ?_
          refine g_goto (tgt := 257) C dX12_init_253 (by decide) ?_
          have hx := hkz25 _ hf.symm
          refine g_sub ?_ hx
          exact (And.intro rfl trivial)
      · refine g_iconst (v := 1) C dX12_init_241 (by decide) ?_
        refine g_goto (tgt := 257) C dX12_init_242 (by decide) ?_
        have hx := hkz25 _ hf.symm
        refine g_sub ?_ hx
        exact (And.intro rfl trivial)
  · refine g_icmp_eq (tgt := 227) C dX12_init_219 (by decide) hf (fun hf => ?_) (fun hf => ?_)
    · refine g_iload_n C dX12_init_227 rfl rfl ?_
      refine g_goto (tgt := 232) C dX12_init_228 (by decide) ?_
      have hx := hkz24 _ hf.symm
      refine g_sub ?_ hx
      exact (And.intro rfl (And.intro rfl trivial))
    · refine g_iload_n C dX12_init_222 rfl rfl ?_
      refine g_iconst (v := 5) C dX12_init_223 (by decide) ?_
      refine g_icmp_ne (tgt := 231) C dX12_init_224 (by decide) hf (fun hf => ?_) (fun hf => ?_)
      · refine g_iconst (v := 2) C dX12_init_231 (by decide) ?_
        have hx := hkz24 _ hf.symm
        refine g_sub ?_ hx
        exact (And.intro rfl (And.intro rfl trivial))
      · refine g_iload_n C dX12_init_227 rfl rfl ?_
        refine g_goto (tgt := 232) C dX12_init_228 (by decide) ?_
        have hx := hkz24 _ hf.symm
        refine g_sub ?_ hx
        exact (And.intro rfl (And.intro rfl trivial))
set_option maxRecDepth 100000 in
set_option maxHeartbeats 8000000 in
theorem m_X12_add (l : Launch) (X : gX) (N : Nat) (I : gI) (R : gR) (S : gS) (hL : gLay 91 114 R S) (a0 : Int32) (a1 : Int32) (v : Int32) (hf : f_X12_add N I R S a0 a1 = some v) : gM l yX12_add wsX12_add { frames := 0, cells := 0, slots := 0, locals := 0 } X gE0 [.ref (X.1 + 91), .int a0, .int a1] I R S (some (.int v)) I R S 0 0 := by
  unfold f_X12_add at hf
  refine gM_of (cc := cX12_add) (own := RX12) (maxL := 7) (ret := (some .int)) (by decide) rfl rfl (Nat.le_of_ble_eq_true rfl) ?_
  intro p e s m args below meth c C hr hlk hnm hE
  have ho : (some v) ≠ none := fun h => by cases h
  have f11 := C.2.2.2.2.1 (.fieldLink RX12 11 "TimesByPowersModel" "p" "I") (by decide +kernel)
  have c11 : gCl wsX12_add 11 RX12 TX12 29 := ⟨by decide, rfl, rfl, by decide +kernel⟩
  refine g_iconst (v := 0) C dX12_add_0 (by decide) ?_
  refine g_istore_n C dX12_add_1 rfl (Nat.le_of_ble_eq_true rfl) rfl rfl ?_
  refine g_iconst (v := 1) C dX12_add_2 (by decide) ?_
  refine g_istore C dX12_add_3 (Nat.le_of_ble_eq_true rfl) rfl rfl ?_
  refine g_iload_n C dX12_add_5 rfl rfl ?_
  refine g_istore C dX12_add_6 (Nat.le_of_ble_eq_true rfl) rfl rfl ?_
  refine g_iload_n C dX12_add_8 rfl rfl ?_
  refine g_istore C dX12_add_9 (Nat.le_of_ble_eq_true rfl) rfl rfl ?_
  refine g_loop (fun z1 => [(0, .ref (X.1 + 91)), (3, .int z1.1), (4, .int z1.2.1), (5, .int z1.2.2.1), (6, .int z1.2.2.2)]) (fun z1 => I) (fun r2 => [(3, .int r2)]) (fun r2 => I) 77 hf ho (And.intro rfl (And.intro rfl (And.intro rfl (And.intro rfl (And.intro rfl trivial))))) rfl (fun r2 hf => ?_) (fun z1 o1 hf ho hkz1 hez1 => ?_)
  · refine g_iload_n C dX12_add_77 rfl rfl ?_
    obtain rfl := gs1 hf
    exact g_iret C dX12_add_78 hr hlk
  · refine g_iload C dX12_add_11 rfl ?_
    refine g_if_gt (tgt := 21) C dX12_add_13 (by decide) hf (fun hf => ?_) (fun hf => ?_)
    · refine g_iload_n C dX12_add_21 rfl rfl ?_
      refine g_iload C dX12_add_22 rfl ?_
      refine g_iload C dX12_add_24 rfl ?_
      refine g_aload_n C dX12_add_26 rfl rfl ?_
      refine g_getI (i := 2) (j := 2) C dX12_add_27 (L91 hL (by decide) (by decide)) c11 rfl f11 (fun _ h9 => h9) ?_
      refine g_irem C dX12_add_30 ho hf (fun hf => ?_)
      refine g_iload C dX12_add_31 rfl ?_
      refine g_aload_n C dX12_add_33 rfl rfl ?_
      refine g_getI (i := 2) (j := 2) C dX12_add_34 (L91 hL (by decide) (by decide)) c11 rfl f11 (fun _ h9 => h9) ?_
      refine g_irem C dX12_add_37 ho hf (fun hf => ?_)
      refine g_iadd C dX12_add_38 ?_
      refine g_aload_n C dX12_add_39 rfl rfl ?_
      refine g_getI (i := 2) (j := 2) C dX12_add_40 (L91 hL (by decide) (by decide)) c11 rfl f11 (fun _ h9 => h9) ?_
      refine g_irem C dX12_add_43 ho hf (fun hf => ?_)
      refine g_imul C dX12_add_44 ?_
      refine g_iadd C dX12_add_45 ?_
      refine g_istore_n C dX12_add_46 rfl (Nat.le_of_ble_eq_true rfl) rfl rfl ?_
      refine g_iload C dX12_add_47 rfl ?_
      refine g_aload_n C dX12_add_49 rfl rfl ?_
      refine g_getI (i := 2) (j := 2) C dX12_add_50 (L91 hL (by decide) (by decide)) c11 rfl f11 (fun _ h9 => h9) ?_
      refine g_idiv C dX12_add_53 ho hf (fun hf => ?_)
      refine g_istore C dX12_add_54 (Nat.le_of_ble_eq_true rfl) rfl rfl ?_
      refine g_iload C dX12_add_56 rfl ?_
      refine g_aload_n C dX12_add_58 rfl rfl ?_
      refine g_getI (i := 2) (j := 2) C dX12_add_59 (L91 hL (by decide) (by decide)) c11 rfl f11 (fun _ h9 => h9) ?_
      refine g_idiv C dX12_add_62 ho hf (fun hf => ?_)
      refine g_istore C dX12_add_63 (Nat.le_of_ble_eq_true rfl) rfl rfl ?_
      refine g_iload C dX12_add_65 rfl ?_
      refine g_aload_n C dX12_add_67 rfl rfl ?_
      refine g_getI (i := 2) (j := 2) C dX12_add_68 (L91 hL (by decide) (by decide)) c11 rfl f11 (fun _ h9 => h9) ?_
      refine g_imul C dX12_add_71 ?_
      refine g_istore C dX12_add_72 (Nat.le_of_ble_eq_true rfl) rfl rfl ?_
      refine g_goto (tgt := 11) C dX12_add_74 (by decide) ?_
      have hx := hkz1 _ hf.symm
      refine g_sub ?_ hx
      exact (And.intro rfl (And.intro rfl (And.intro rfl (And.intro rfl (And.intro rfl trivial)))))
    · refine g_iload C dX12_add_16 rfl ?_
      refine g_if_le (tgt := 77) C dX12_add_18 (by decide) hf (fun hf => ?_) (fun hf => ?_)
      · have hx := hez1 _ hf.symm
        refine g_sub ?_ hx
        exact (And.intro rfl trivial)
      · refine g_iload_n C dX12_add_21 rfl rfl ?_
        refine g_iload C dX12_add_22 rfl ?_
        refine g_iload C dX12_add_24 rfl ?_
        refine g_aload_n C dX12_add_26 rfl rfl ?_
        refine g_getI (i := 2) (j := 2) C dX12_add_27 (L91 hL (by decide) (by decide)) c11 rfl f11 (fun _ h9 => h9) ?_
        refine g_irem C dX12_add_30 ho hf (fun hf => ?_)
        refine g_iload C dX12_add_31 rfl ?_
        refine g_aload_n C dX12_add_33 rfl rfl ?_
        refine g_getI (i := 2) (j := 2) C dX12_add_34 (L91 hL (by decide) (by decide)) c11 rfl f11 (fun _ h9 => h9) ?_
        refine g_irem C dX12_add_37 ho hf (fun hf => ?_)
        refine g_iadd C dX12_add_38 ?_
        refine g_aload_n C dX12_add_39 rfl rfl ?_
        refine g_getI (i := 2) (j := 2) C dX12_add_40 (L91 hL (by decide) (by decide)) c11 rfl f11 (fun _ h9 => h9) ?_
        refine g_irem C dX12_add_43 ho hf (fun hf => ?_)
        refine g_imul C dX12_add_44 ?_
        refine g_iadd C dX12_add_45 ?_
        refine g_istore_n C dX12_add_46 rfl (Nat.le_of_ble_eq_true rfl) rfl rfl ?_
        refine g_iload C dX12_add_47 rfl ?_
        refine g_aload_n C dX12_add_49 rfl rfl ?_
        refine g_getI (i := 2) (j := 2) C dX12_add_50 (L91 hL (by decide) (by decide)) c11 rfl f11 (fun _ h9 => h9) ?_
        refine g_idiv C dX12_add_53 ho hf (fun hf => ?_)
        refine g_istore C dX12_add_54 (Nat.le_of_ble_eq_true rfl) rfl rfl ?_
        refine g_iload C dX12_add_56 rfl ?_
        refine g_aload_n C dX12_add_58 rfl rfl ?_
        refine g_getI (i := 2) (j := 2) C dX12_add_59 (L91 hL (by decide) (by decide)) c11 rfl f11 (fun _ h9 => h9) ?_
        refine g_idiv C dX12_add_62 ho hf (fun hf => ?_)
        refine g_istore C dX12_add_63 (Nat.le_of_ble_eq_true rfl) rfl rfl ?_
        refine g_iload C dX12_add_65 rfl ?_
        refine g_aload_n C dX12_add_67 rfl rfl ?_
        refine g_getI (i := 2) (j := 2) C dX12_add_68 (L91 hL (by decide) (by decide)) c11 rfl f11 (fun _ h9 => h9) ?_
        refine g_imul C dX12_add_71 ?_
        refine g_istore C dX12_add_72 (Nat.le_of_ble_eq_true rfl) rfl rfl ?_
        refine g_goto (tgt := 11) C dX12_add_74 (by decide) ?_
        have hx := hkz1 _ hf.symm
        refine g_sub ?_ hx
        exact (And.intro rfl (And.intro rfl (And.intro rfl (And.intro rfl (And.intro rfl trivial)))))
set_option maxRecDepth 100000 in
set_option maxHeartbeats 8000000 in
theorem m_X12_times (l : Launch) (X : gX) (N : Nat) (I : gI) (R : gR) (S : gS) (hL : gLay 91 114 R S) (a0 : Int32) (a1 : Int32) (v : Int32) (hf : f_X12_times N I R S a0 a1 = some v) : gM l yX12_times wsX12_times { frames := 0, cells := 0, slots := 0, locals := 0 } X gE0 [.ref (X.1 + 91), .int a0, .int a1] I R S (some (.int v)) I R S 0 0 := by
  unfold f_X12_times at hf
  refine gM_of (cc := cX12_times) (own := RX12) (maxL := 3) (ret := (some .int)) (by decide) rfl rfl (Nat.le_of_ble_eq_true rfl) ?_
  intro p e s m args below meth c C hr hlk hnm hE
  have ho : (some v) ≠ none := fun h => by cases h
  have f55 := C.2.2.2.2.1 (.fieldLink RX12 55 "TimesByPowersModel" "raised" "[I") (by decide +kernel)
  have c11 : gCl wsX12_times 11 RX12 TX12 29 := ⟨by decide, rfl, rfl, by decide +kernel⟩
  have f58 := C.2.2.2.2.1 (.fieldLink RX12 58 "TimesByPowersModel" "log" "[I") (by decide +kernel)
  have f109 := C.2.2.2.2.1 (.fieldLink RX12 109 "TimesByPowersModel" "q" "I") (by decide +kernel)
  refine g_iload_n C dX12_times_0 rfl rfl ?_
  refine g_if_eq (tgt := 8) C dX12_times_1 (by decide) hf (fun hf => ?_) (fun hf => ?_)
  · refine g_iconst (v := 0) C dX12_times_8 (by decide) ?_
    refine g_goto (tgt := 37) C dX12_times_9 (by decide) ?_
    obtain rfl := gs1 hf
    exact g_iret C dX12_times_37 hr hlk
  · refine g_iload_n C dX12_times_4 rfl rfl ?_
    refine g_if_ne (tgt := 12) C dX12_times_5 (by decide) hf (fun hf => ?_) (fun hf => ?_)
    · refine g_aload_n C dX12_times_12 rfl rfl ?_
      refine g_getR (i := 10) (j := 10) C dX12_times_13 (L91 hL (by decide) (by decide)) c11 rfl (by decide) f55 (fun _ h9 => h9) (LR91_10 hL (by decide) (by decide)) ?_
      refine g_aload_n C dX12_times_16 rfl rfl ?_
      refine g_getR (i := 11) (j := 11) C dX12_times_17 (L91 hL (by decide) (by decide)) c11 rfl (by decide) f58 (fun _ h9 => h9) (LR91_11 hL (by decide) (by decide)) ?_
      refine g_iload_n C dX12_times_20 rfl rfl ?_
      refine g_iald C dX12_times_21 (L97 hL (by decide) (by decide)) ho hf (fun hf => ?_)
      refine g_aload_n C dX12_times_22 rfl rfl ?_
      refine g_getR (i := 11) (j := 11) C dX12_times_23 (L91 hL (by decide) (by decide)) c11 rfl (by decide) f58 (fun _ h9 => h9) (LR91_11 hL (by decide) (by decide)) ?_
      refine g_iload_n C dX12_times_26 rfl rfl ?_
      refine g_iald C dX12_times_27 (L97 hL (by decide) (by decide)) ho hf (fun hf => ?_)
      refine g_iadd C dX12_times_28 ?_
      refine g_aload_n C dX12_times_29 rfl rfl ?_
      refine g_getI (i := 4) (j := 4) C dX12_times_30 (L91 hL (by decide) (by decide)) c11 rfl f109 (fun _ h9 => h9) ?_
      refine g_iconst (v := 1) C dX12_times_33 (by decide) ?_
      refine g_isub C dX12_times_34 ?_
      refine g_irem C dX12_times_35 ho hf (fun hf => ?_)
      refine g_iald C dX12_times_36 (L96 hL (by decide) (by decide)) ho hf (fun hf => ?_)
      obtain rfl := gs1 hf
      exact g_iret C dX12_times_37 hr hlk
    · refine g_iconst (v := 0) C dX12_times_8 (by decide) ?_
      refine g_goto (tgt := 37) C dX12_times_9 (by decide) ?_
      obtain rfl := gs1 hf
      exact g_iret C dX12_times_37 hr hlk
set_option maxRecDepth 100000 in
set_option maxHeartbeats 8000000 in
theorem m_X12_less (l : Launch) (X : gX) (N : Nat) (I : gI) (R : gR) (S : gS) (hL : gLay 91 114 R S) (a0 : Int32) (a1 : Int32) (v : Int32) (hf : f_X12_less N I R S a0 a1 = some v) : gM l yX12_less wsX12_less { frames := 1, cells := 0, slots := 0, locals := 26 } X gE0 [.ref (X.1 + 91), .int a0, .int a1] I R S (some (.int v)) I R S 0 0 := by
  unfold f_X12_less at hf
  refine gM_of (cc := cX12_less) (own := RX12) (maxL := 3) (ret := (some .int)) (by decide) rfl rfl (Nat.le_of_ble_eq_true rfl) ?_
  intro p e s m args below meth c C hr hlk hnm hE
  have ho : (some v) ≠ none := fun h => by cases h
  have f11 := C.2.2.2.2.1 (.fieldLink RX12 11 "TimesByPowersModel" "p" "I") (by decide +kernel)
  have c11 : gCl wsX12_less 11 RX12 TX12 29 := ⟨by decide, rfl, rfl, by decide +kernel⟩
  refine g_aload_n C dX12_less_0 rfl rfl ?_
  refine g_iload_n C dX12_less_1 rfl rfl ?_
  refine g_aload_n C dX12_less_2 rfl rfl ?_
  refine g_aload_n C dX12_less_3 rfl rfl ?_
  refine g_getI (i := 2) (j := 2) C dX12_less_4 (L91 hL (by decide) (by decide)) c11 rfl f11 (fun _ h9 => h9) ?_
  refine g_iconst (v := 1) C dX12_less_7 (by decide) ?_
  refine g_isub C dX12_less_8 ?_
  refine g_iload_n C dX12_less_9 rfl rfl ?_
  obtain ⟨z1, hz1, hf⟩ := gbind hf ho
  refine g_callV C dX12_less_10 (m_X12_times l X N _ _ _  (gLay.sub hL (by decide) (by decide)) _ _ z1 hz1) gEin0 (cwV 2 C.2.2.2.2.1 gX12_less_X12_times rfl rfl rfl (by decide +kernel) ⟨Nat.le_of_ble_eq_true rfl, Nat.le_of_ble_eq_true rfl⟩) (L91 hL (by decide) (by decide)) (by decide) rfl rfl rfl (Nat.le_of_ble_eq_true rfl) ⟨Nat.le_of_ble_eq_true rfl, Nat.le_of_ble_eq_true rfl⟩ ?_
  obtain ⟨z2, hz2, hf⟩ := gbind hf ho
  refine g_callV C dX12_less_13 (m_X12_add l X N _ _ _  (gLay.sub hL (by decide) (by decide)) _ _ z2 hz2) gEin0 (cwV 2 C.2.2.2.2.1 gX12_less_X12_add rfl rfl rfl (by decide +kernel) ⟨Nat.le_of_ble_eq_true rfl, Nat.le_of_ble_eq_true rfl⟩) (L91 hL (by decide) (by decide)) (by decide) rfl rfl rfl (Nat.le_of_ble_eq_true rfl) ⟨Nat.le_of_ble_eq_true rfl, Nat.le_of_ble_eq_true rfl⟩ ?_
  obtain rfl := gs1 hf
  exact g_iret C dX12_less_16 hr hlk
set_option maxRecDepth 100000 in
set_option maxHeartbeats 8000000 in
theorem m_X12_raise (l : Launch) (X : gX) (N : Nat) (I : gI) (R : gR) (S : gS) (hL : gLay 91 114 R S) (a0 : Int32) (a1 : Int64) (v : Int32) (hf : f_X12_raise N I R S a0 a1 = some v) : gM l yX12_raise wsX12_raise { frames := 0, cells := 0, slots := 0, locals := 0 } X gE0 [.ref (X.1 + 91), .int a0, .long a1] I R S (some (.int v)) I R S 0 0 := by
  unfold f_X12_raise at hf
  refine gM_of (cc := cX12_raise) (own := RX12) (maxL := 4) (ret := (some .int)) (by decide) rfl rfl (Nat.le_of_ble_eq_true rfl) ?_
  intro p e s m args below meth c C hr hlk hnm hE
  have ho : (some v) ≠ none := fun h => by cases h
  have f55 := C.2.2.2.2.1 (.fieldLink RX12 55 "TimesByPowersModel" "raised" "[I") (by decide +kernel)
  have c11 : gCl wsX12_raise 11 RX12 TX12 29 := ⟨by decide, rfl, rfl, by decide +kernel⟩
  have f58 := C.2.2.2.2.1 (.fieldLink RX12 58 "TimesByPowersModel" "log" "[I") (by decide +kernel)
  have f109 := C.2.2.2.2.1 (.fieldLink RX12 109 "TimesByPowersModel" "q" "I") (by decide +kernel)
  refine g_lload_n C dX12_raise_0 rfl rfl ?_
  refine g_lconst (v := 0) C dX12_raise_1 (by decide) ?_
  refine g_lcmp C dX12_raise_2 ?_
  refine g_if_ne (tgt := 10) C dX12_raise_3 (by decide) hf (fun hf => ?_) (fun hf => ?_)
  · refine g_iload_n C dX12_raise_10 rfl rfl ?_
    refine g_if_ne (tgt := 18) C dX12_raise_11 (by decide) hf (fun hf => ?_) (fun hf => ?_)
    · refine g_aload_n C dX12_raise_18 rfl rfl ?_
      refine g_getR (i := 10) (j := 10) C dX12_raise_19 (L91 hL (by decide) (by decide)) c11 rfl (by decide) f55 (fun _ h9 => h9) (LR91_10 hL (by decide) (by decide)) ?_
      refine g_aload_n C dX12_raise_22 rfl rfl ?_
      refine g_getR (i := 11) (j := 11) C dX12_raise_23 (L91 hL (by decide) (by decide)) c11 rfl (by decide) f58 (fun _ h9 => h9) (LR91_11 hL (by decide) (by decide)) ?_
      refine g_iload_n C dX12_raise_26 rfl rfl ?_
      refine g_iald C dX12_raise_27 (L97 hL (by decide) (by decide)) ho hf (fun hf => ?_)
      refine g_i2l C dX12_raise_28 ?_
      refine g_lload_n C dX12_raise_29 rfl rfl ?_
      refine g_lmul C dX12_raise_30 ?_
      refine g_aload_n C dX12_raise_31 rfl rfl ?_
      refine g_getI (i := 4) (j := 4) C dX12_raise_32 (L91 hL (by decide) (by decide)) c11 rfl f109 (fun _ h9 => h9) ?_
      refine g_iconst (v := 1) C dX12_raise_35 (by decide) ?_
      refine g_isub C dX12_raise_36 ?_
      refine g_i2l C dX12_raise_37 ?_
      refine g_lrem C dX12_raise_38 ho hf (fun hf => ?_)
      refine g_l2i C dX12_raise_39 ?_
      refine g_iald C dX12_raise_40 (L96 hL (by decide) (by decide)) ho hf (fun hf => ?_)
      obtain rfl := gs1 hf
      exact g_iret C dX12_raise_41 hr hlk
    · refine g_iconst (v := 0) C dX12_raise_14 (by decide) ?_
      refine g_goto (tgt := 41) C dX12_raise_15 (by decide) ?_
      obtain rfl := gs1 hf
      exact g_iret C dX12_raise_41 hr hlk
  · refine g_iconst (v := 1) C dX12_raise_6 (by decide) ?_
    refine g_goto (tgt := 41) C dX12_raise_7 (by decide) ?_
    obtain rfl := gs1 hf
    exact g_iret C dX12_raise_41 hr hlk
set_option maxRecDepth 100000 in
set_option maxHeartbeats 8000000 in
theorem m_X12_far (l : Launch) (X : gX) (N : Nat) (I : gI) (R : gR) (S : gS) (hL : gLay 91 114 R S) (a0 : Int32) (a1 : Int32) (v : Int32) (hf : f_X12_far N I R S a0 a1 = some v) : gM l yX12_far wsX12_far { frames := 1, cells := 0, slots := 0, locals := 23 } X gE0 [.ref (X.1 + 91), .int a0, .int a1] I R S (some (.int v)) I R S 0 0 := by
  unfold f_X12_far at hf
  refine gM_of (cc := cX12_far) (own := RX12) (maxL := 5) (ret := (some .int)) (by decide) rfl rfl (Nat.le_of_ble_eq_true rfl) ?_
  intro p e s m args below meth c C hr hlk hnm hE
  have ho : (some v) ≠ none := fun h => by cases h
  have f42 := C.2.2.2.2.1 (.fieldLink RX12 42 "TimesByPowersModel" "n" "I") (by decide +kernel)
  have c11 : gCl wsX12_far 11 RX12 TX12 29 := ⟨by decide, rfl, rfl, by decide +kernel⟩
  have f11 := C.2.2.2.2.1 (.fieldLink RX12 11 "TimesByPowersModel" "p" "I") (by decide +kernel)
  refine g_iload_n C dX12_far_0 rfl rfl ?_
  refine g_istore_n C dX12_far_1 rfl (Nat.le_of_ble_eq_true rfl) rfl rfl ?_
  refine g_iconst (v := 0) C dX12_far_2 (by decide) ?_
  refine g_istore C dX12_far_3 (Nat.le_of_ble_eq_true rfl) rfl rfl ?_
  refine g_loop (fun z1 => [(0, .ref (X.1 + 91)), (2, .int a1), (3, .int z1.1), (4, .int z1.2)]) (fun z1 => I) (fun r2 => [(3, .int r2)]) (fun r2 => I) 33 hf ho (And.intro rfl (And.intro rfl (And.intro rfl (And.intro rfl trivial)))) rfl (fun r2 hf => ?_) (fun z1 o1 hf ho hkz1 hez1 => ?_)
  · refine g_iload_n C dX12_far_33 rfl rfl ?_
    obtain rfl := gs1 hf
    exact g_iret C dX12_far_34 hr hlk
  · refine g_iload C dX12_far_5 rfl ?_
    refine g_iload_n C dX12_far_7 rfl rfl ?_
    refine g_aload_n C dX12_far_8 rfl rfl ?_
    refine g_getI (i := 3) (j := 3) C dX12_far_9 (L91 hL (by decide) (by decide)) c11 rfl f42 (fun _ h9 => h9) ?_
    refine g_irem C dX12_far_12 ho hf (fun hf => ?_)
    refine g_icmp_ge (tgt := 33) C dX12_far_13 (by decide) hf (fun hf => ?_) (fun hf => ?_)
    · have hx := hez1 _ hf.symm
      refine g_sub ?_ hx
      exact (And.intro rfl trivial)
    · refine g_aload_n C dX12_far_16 rfl rfl ?_
      refine g_iload_n C dX12_far_17 rfl rfl ?_
      refine g_aload_n C dX12_far_18 rfl rfl ?_
      refine g_getI (i := 2) (j := 2) C dX12_far_19 (L91 hL (by decide) (by decide)) c11 rfl f11 (fun _ h9 => h9) ?_
      refine g_i2l C dX12_far_22 ?_
      obtain ⟨z3, hz3, hf⟩ := gbind hf ho
      refine g_callV C dX12_far_23 (m_X12_raise l X N _ _ _  (gLay.sub hL (by decide) (by decide)) _ _ z3 hz3) gEin0 (cwV 2 C.2.2.2.2.1 gX12_far_X12_raise rfl rfl rfl (by decide +kernel) ⟨Nat.le_of_ble_eq_true rfl, Nat.le_of_ble_eq_true rfl⟩) (L91 hL (by decide) (by decide)) (by decide) rfl rfl rfl (Nat.le_of_ble_eq_true rfl) ⟨Nat.le_of_ble_eq_true rfl, Nat.le_of_ble_eq_true rfl⟩ ?_
      refine g_istore_n C dX12_far_26 rfl (Nat.le_of_ble_eq_true rfl) rfl rfl ?_
      refine g_iinc (d := 1) C dX12_far_27 rfl (by decide) rfl (Nat.le_of_ble_eq_true rfl) rfl rfl ?_
      refine g_goto (tgt := 5) C dX12_far_30 (by decide) ?_
      have hx := hkz1 _ hf.symm
      refine g_sub ?_ hx
      exact (And.intro rfl (And.intro rfl (And.intro rfl (And.intro rfl trivial))))
set_option maxRecDepth 100000 in
set_option maxHeartbeats 8000000 in
theorem m_X12_inverse (l : Launch) (X : gX) (N : Nat) (I : gI) (R : gR) (S : gS) (hL : gLay 91 114 R S) (a0 : Int32) (v : Int32) (hf : f_X12_inverse N I R S a0 = some v) : gM l yX12_inverse wsX12_inverse { frames := 0, cells := 0, slots := 0, locals := 0 } X gE0 [.ref (X.1 + 91), .int a0] I R S (some (.int v)) I R S 0 0 := by
  unfold f_X12_inverse at hf
  refine gM_of (cc := cX12_inverse) (own := RX12) (maxL := 2) (ret := (some .int)) (by decide) rfl rfl (Nat.le_of_ble_eq_true rfl) ?_
  intro p e s m args below meth c C hr hlk hnm hE
  have ho : (some v) ≠ none := fun h => by cases h
  have f55 := C.2.2.2.2.1 (.fieldLink RX12 55 "TimesByPowersModel" "raised" "[I") (by decide +kernel)
  have c11 : gCl wsX12_inverse 11 RX12 TX12 29 := ⟨by decide, rfl, rfl, by decide +kernel⟩
  have f109 := C.2.2.2.2.1 (.fieldLink RX12 109 "TimesByPowersModel" "q" "I") (by decide +kernel)
  have f58 := C.2.2.2.2.1 (.fieldLink RX12 58 "TimesByPowersModel" "log" "[I") (by decide +kernel)
  refine g_aload_n C dX12_inverse_0 rfl rfl ?_
  refine g_getR (i := 10) (j := 10) C dX12_inverse_1 (L91 hL (by decide) (by decide)) c11 rfl (by decide) f55 (fun _ h9 => h9) (LR91_10 hL (by decide) (by decide)) ?_
  refine g_aload_n C dX12_inverse_4 rfl rfl ?_
  refine g_getI (i := 4) (j := 4) C dX12_inverse_5 (L91 hL (by decide) (by decide)) c11 rfl f109 (fun _ h9 => h9) ?_
  refine g_iconst (v := 1) C dX12_inverse_8 (by decide) ?_
  refine g_isub C dX12_inverse_9 ?_
  refine g_aload_n C dX12_inverse_10 rfl rfl ?_
  refine g_getR (i := 11) (j := 11) C dX12_inverse_11 (L91 hL (by decide) (by decide)) c11 rfl (by decide) f58 (fun _ h9 => h9) (LR91_11 hL (by decide) (by decide)) ?_
  refine g_iload_n C dX12_inverse_14 rfl rfl ?_
  refine g_iald C dX12_inverse_15 (L97 hL (by decide) (by decide)) ho hf (fun hf => ?_)
  refine g_isub C dX12_inverse_16 ?_
  refine g_aload_n C dX12_inverse_17 rfl rfl ?_
  refine g_getI (i := 4) (j := 4) C dX12_inverse_18 (L91 hL (by decide) (by decide)) c11 rfl f109 (fun _ h9 => h9) ?_
  refine g_iconst (v := 1) C dX12_inverse_21 (by decide) ?_
  refine g_isub C dX12_inverse_22 ?_
  refine g_irem C dX12_inverse_23 ho hf (fun hf => ?_)
  refine g_iald C dX12_inverse_24 (L96 hL (by decide) (by decide)) ho hf (fun hf => ?_)
  obtain rfl := gs1 hf
  exact g_iret C dX12_inverse_25 hr hlk
set_option maxRecDepth 100000 in
set_option maxHeartbeats 8000000 in
theorem m_X12_isElement (l : Launch) (X : gX) (N : Nat) (I : gI) (R : gR) (S : gS) (hL : gLay 91 114 R S) (a0 : Int32) (v : Int32) (hf : f_X12_isElement N I R S a0 = some v) : gM l yX12_isElement wsX12_isElement { frames := 1, cells := 0, slots := 0, locals := 25 } X gE0 [.ref (X.1 + 91), .int a0] I R S (some (.int v)) I R S 0 0 := by
  unfold f_X12_isElement at hf
  refine gM_of (cc := cX12_isElement) (own := RX12) (maxL := 2) (ret := (some .boolean)) (by decide) rfl rfl (Nat.le_of_ble_eq_true rfl) ?_
  intro p e s m args below meth c C hr hlk hnm hE
  have ho : (some v) ≠ none := fun h => by cases h
  have f109 := C.2.2.2.2.1 (.fieldLink RX12 109 "TimesByPowersModel" "q" "I") (by decide +kernel)
  have c11 : gCl wsX12_isElement 11 RX12 TX12 29 := ⟨by decide, rfl, rfl, by decide +kernel⟩
  refine g_iload_n C dX12_isElement_0 rfl rfl ?_
  refine g_i2l C dX12_isElement_1 ?_
  refine g_lconst (v := 0) C dX12_isElement_2 (by decide) ?_
  refine g_aload_n C dX12_isElement_3 rfl rfl ?_
  refine g_getI (i := 4) (j := 4) C dX12_isElement_4 (L91 hL (by decide) (by decide)) c11 rfl f109 (fun _ h9 => h9) ?_
  refine g_iconst (v := 1) C dX12_isElement_7 (by decide) ?_
  refine g_isub C dX12_isElement_8 ?_
  refine g_i2l C dX12_isElement_9 ?_
  obtain ⟨z1, hz1, hf⟩ := gbind hf ho
  refine g_callS C dX12_isElement_10 (m_X12_in l X N _ _ _  (gLay.sub hL (by decide) (by decide)) _ _ _ z1 hz1) gEin0 (va_cwS 3 C.2.2.2.2.1 gX12_isElement_X12_in rfl rfl rfl (by decide +kernel) ⟨Nat.le_of_ble_eq_true rfl, Nat.le_of_ble_eq_true rfl⟩) rfl rfl (Nat.le_of_ble_eq_true rfl) ⟨Nat.le_of_ble_eq_true rfl, Nat.le_of_ble_eq_true rfl⟩ ?_
  obtain ⟨hb01, hf⟩ := gcase hf ho
  obtain rfl := gs1 hf
  exact g_zret C dX12_isElement_13 hr hlk hb01
set_option maxRecDepth 100000 in
set_option maxHeartbeats 8000000 in
theorem m_X12_field (l : Launch) (X : gX) (N : Nat) (I : gI) (R : gR) (S : gS) (hL : gLay 91 114 R S) (a0 : Int32) (a1 : Int32) (a2 : Int32) (v : Int32) (J : gI) (hf : f_X12_field N I R S a0 a1 a2 = some (v, J)) : gM l yX12_field wsX12_field { frames := 2, cells := 0, slots := 0, locals := 46 } X gE0 [.ref (X.1 + 91), .int a0, .int a1, .int a2] I R S (some (.int v)) J R S 0 0 := by
  unfold f_X12_field at hf
  refine gM_of (cc := cX12_field) (own := RX12) (maxL := 4) (ret := (some .int)) (by decide) rfl rfl (Nat.le_of_ble_eq_true rfl) ?_
  intro p e s m args below meth c C hr hlk hnm hE
  have ho : (some (v, J)) ≠ none := fun h => by cases h
  have f1 := C.2.2.2.2.1 (.fieldLink RX12 1 "TimesByPowersModel" "thrown" "I") (by decide +kernel)
  have c11 : gCl wsX12_field 11 RX12 TX12 29 := ⟨by decide, rfl, rfl, by decide +kernel⟩
  have k141 := C.2.2.2.2.1 (.constant RX12 141 (-1000001)) (by decide +kernel)
  have k137 := C.2.2.2.2.1 (.constantLong RX12 137 (3)) (by decide +kernel)
  have k142 := C.2.2.2.2.1 (.constant RX12 142 (-1000000)) (by decide +kernel)
  have k139 := C.2.2.2.2.1 (.constantLong RX12 139 (100000)) (by decide +kernel)
  refine g_aload_n C dX12_field_0 rfl rfl ?_
  refine g_iconst (v := 0) C dX12_field_1 (by decide) ?_
  refine g_putI (i := 0) (j := 0) C dX12_field_2 (L91 hL (by decide) (by decide)) c11 gy11 rfl f1 (fun _ h9 => h9) (Or.inl rfl) rfl ?_
  refine g_aload_n C dX12_field_5 rfl rfl ?_
  refine g_iload_n C dX12_field_6 rfl rfl ?_
  obtain ⟨z1, hz1, hf⟩ := gbind hf ho
  refine g_callV C dX12_field_7 (m_X12_isElement l X N _ _ _  (gLay.sub hL (by decide) (by decide)) _ z1 hz1) gEin0 (cwV 1 C.2.2.2.2.1 gX12_field_X12_isElement rfl rfl rfl (by decide +kernel) ⟨Nat.le_of_ble_eq_true rfl, Nat.le_of_ble_eq_true rfl⟩) (L91 hL (by decide) (by decide)) (by decide) rfl rfl rfl (Nat.le_of_ble_eq_true rfl) ⟨Nat.le_of_ble_eq_true rfl, Nat.le_of_ble_eq_true rfl⟩ ?_
  refine g_if_eq (tgt := 53) C dX12_field_10 (by decide) hf (fun hf => ?_) (fun hf => ?_)
  · refine g_ldc C k141 dX12_field_53 ?_
    obtain ⟨rfl, rfl⟩ := gs2 hf
    exact g_iret C dX12_field_55 hr hlk
  · refine g_iload_n C dX12_field_13 rfl rfl ?_
    refine g_i2l C dX12_field_14 ?_
    refine g_lconst (v := 0) C dX12_field_15 (by decide) ?_
    refine g_ldc2 C k137 dX12_field_16 ?_
    obtain ⟨z2, hz2, hf⟩ := gbind hf ho
    refine g_callS C dX12_field_19 (m_X12_in l X N _ _ _  (gLay.sub hL (by decide) (by decide)) _ _ _ z2 hz2) gEin0 (va_cwS 3 C.2.2.2.2.1 gX12_field_X12_in rfl rfl rfl (by decide +kernel) ⟨Nat.le_of_ble_eq_true rfl, Nat.le_of_ble_eq_true rfl⟩) rfl rfl (Nat.le_of_ble_eq_true rfl) ⟨Nat.le_of_ble_eq_true rfl, Nat.le_of_ble_eq_true rfl⟩ ?_
    refine g_if_eq (tgt := 53) C dX12_field_22 (by decide) hf (fun hf => ?_) (fun hf => ?_)
    · refine g_ldc C k141 dX12_field_53 ?_
      obtain ⟨rfl, rfl⟩ := gs2 hf
      exact g_iret C dX12_field_55 hr hlk
    · refine g_iload_n C dX12_field_25 rfl rfl ?_
      refine g_iconst (v := 2) C dX12_field_26 (by decide) ?_
      refine g_icmp_ne (tgt := 45) C dX12_field_27 (by decide) hf (fun hf => ?_) (fun hf => ?_)
      · refine g_aload_n C dX12_field_45 rfl rfl ?_
        refine g_iload_n C dX12_field_46 rfl rfl ?_
        obtain ⟨z3, hz3, hf⟩ := gbind hf ho
        refine g_callV C dX12_field_47 (m_X12_isElement l X N _ _ _  (gLay.sub hL (by decide) (by decide)) _ z3 hz3) gEin0 (cwV 1 C.2.2.2.2.1 gX12_field_X12_isElement rfl rfl rfl (by decide +kernel) ⟨Nat.le_of_ble_eq_true rfl, Nat.le_of_ble_eq_true rfl⟩) (L91 hL (by decide) (by decide)) (by decide) rfl rfl rfl (Nat.le_of_ble_eq_true rfl) ⟨Nat.le_of_ble_eq_true rfl, Nat.le_of_ble_eq_true rfl⟩ ?_
        refine g_if_ne (tgt := 56) C dX12_field_50 (by decide) hf (fun hf => ?_) (fun hf => ?_)
        · refine g_iload_n C dX12_field_56 rfl rfl ?_
          refine g_if_ne (tgt := 69) C dX12_field_57 (by decide) hf (fun hf => ?_) (fun hf => ?_)
          · refine g_iload_n C dX12_field_69 rfl rfl ?_
            refine g_iconst (v := 1) C dX12_field_70 (by decide) ?_
            refine g_icmp_ne (tgt := 83) C dX12_field_71 (by decide) hf (fun hf => ?_) (fun hf => ?_)
            · refine g_iload_n C dX12_field_83 rfl rfl ?_
              refine g_iconst (v := 2) C dX12_field_84 (by decide) ?_
              refine g_icmp_ne (tgt := 98) C dX12_field_85 (by decide) hf (fun hf => ?_) (fun hf => ?_)
              · refine g_iload_n C dX12_field_98 rfl rfl ?_
                refine g_if_ne (tgt := 107) C dX12_field_99 (by decide) hf (fun hf => ?_) (fun hf => ?_)
                · refine g_aload_n C dX12_field_107 rfl rfl ?_
                  refine g_iload_n C dX12_field_108 rfl rfl ?_
                  refine g_aload_n C dX12_field_109 rfl rfl ?_
                  refine g_iload_n C dX12_field_110 rfl rfl ?_
                  obtain ⟨z4, hz4, hf⟩ := gbind hf ho
                  refine g_callV C dX12_field_111 (m_X12_inverse l X N _ _ _  (gLay.sub hL (by decide) (by decide)) _ z4 hz4) gEin0 (cwV 1 C.2.2.2.2.1 gX12_field_X12_inverse rfl rfl rfl (by decide +kernel) ⟨Nat.le_of_ble_eq_true rfl, Nat.le_of_ble_eq_true rfl⟩) (L91 hL (by decide) (by decide)) (by decide) rfl rfl rfl (Nat.le_of_ble_eq_true rfl) ⟨Nat.le_of_ble_eq_true rfl, Nat.le_of_ble_eq_true rfl⟩ ?_
                  obtain ⟨z5, hz5, hf⟩ := gbind hf ho
                  refine g_callV C dX12_field_114 (m_X12_times l X N _ _ _  (gLay.sub hL (by decide) (by decide)) _ _ z5 hz5) gEin0 (cwV 2 C.2.2.2.2.1 gX12_field_X12_times rfl rfl rfl (by decide +kernel) ⟨Nat.le_of_ble_eq_true rfl, Nat.le_of_ble_eq_true rfl⟩) (L91 hL (by decide) (by decide)) (by decide) rfl rfl rfl (Nat.le_of_ble_eq_true rfl) ⟨Nat.le_of_ble_eq_true rfl, Nat.le_of_ble_eq_true rfl⟩ ?_
                  obtain ⟨rfl, rfl⟩ := gs2 hf
                  exact g_iret C dX12_field_117 hr hlk
                · refine g_ldc C k142 dX12_field_102 ?_
                  refine g_goto (tgt := 117) C dX12_field_104 (by decide) ?_
                  obtain ⟨rfl, rfl⟩ := gs2 hf
                  exact g_iret C dX12_field_117 hr hlk
              · refine g_aload_n C dX12_field_88 rfl rfl ?_
                refine g_iload_n C dX12_field_89 rfl rfl ?_
                refine g_iload_n C dX12_field_90 rfl rfl ?_
                refine g_i2l C dX12_field_91 ?_
                obtain ⟨z6, hz6, hf⟩ := gbind hf ho
                refine g_callV C dX12_field_92 (m_X12_raise l X N _ _ _  (gLay.sub hL (by decide) (by decide)) _ _ z6 hz6) gEin0 (cwV 2 C.2.2.2.2.1 gX12_field_X12_raise rfl rfl rfl (by decide +kernel) ⟨Nat.le_of_ble_eq_true rfl, Nat.le_of_ble_eq_true rfl⟩) (L91 hL (by decide) (by decide)) (by decide) rfl rfl rfl (Nat.le_of_ble_eq_true rfl) ⟨Nat.le_of_ble_eq_true rfl, Nat.le_of_ble_eq_true rfl⟩ ?_
                refine g_goto (tgt := 117) C dX12_field_95 (by decide) ?_
                obtain ⟨rfl, rfl⟩ := gs2 hf
                exact g_iret C dX12_field_117 hr hlk
            · refine g_aload_n C dX12_field_74 rfl rfl ?_
              refine g_iload_n C dX12_field_75 rfl rfl ?_
              refine g_iload_n C dX12_field_76 rfl rfl ?_
              obtain ⟨z7, hz7, hf⟩ := gbind hf ho
              refine g_callV C dX12_field_77 (m_X12_times l X N _ _ _  (gLay.sub hL (by decide) (by decide)) _ _ z7 hz7) gEin0 (cwV 2 C.2.2.2.2.1 gX12_field_X12_times rfl rfl rfl (by decide +kernel) ⟨Nat.le_of_ble_eq_true rfl, Nat.le_of_ble_eq_true rfl⟩) (L91 hL (by decide) (by decide)) (by decide) rfl rfl rfl (Nat.le_of_ble_eq_true rfl) ⟨Nat.le_of_ble_eq_true rfl, Nat.le_of_ble_eq_true rfl⟩ ?_
              refine g_goto (tgt := 117) C dX12_field_80 (by decide) ?_
              obtain ⟨rfl, rfl⟩ := gs2 hf
              exact g_iret C dX12_field_117 hr hlk
          · refine g_aload_n C dX12_field_60 rfl rfl ?_
            refine g_iload_n C dX12_field_61 rfl rfl ?_
            refine g_iload_n C dX12_field_62 rfl rfl ?_
            obtain ⟨z8, hz8, hf⟩ := gbind hf ho
            refine g_callV C dX12_field_63 (m_X12_add l X N _ _ _  (gLay.sub hL (by decide) (by decide)) _ _ z8 hz8) gEin0 (cwV 2 C.2.2.2.2.1 gX12_field_X12_add rfl rfl rfl (by decide +kernel) ⟨Nat.le_of_ble_eq_true rfl, Nat.le_of_ble_eq_true rfl⟩) (L91 hL (by decide) (by decide)) (by decide) rfl rfl rfl (Nat.le_of_ble_eq_true rfl) ⟨Nat.le_of_ble_eq_true rfl, Nat.le_of_ble_eq_true rfl⟩ ?_
            refine g_goto (tgt := 117) C dX12_field_66 (by decide) ?_
            obtain ⟨rfl, rfl⟩ := gs2 hf
            exact g_iret C dX12_field_117 hr hlk
        · refine g_ldc C k141 dX12_field_53 ?_
          obtain ⟨rfl, rfl⟩ := gs2 hf
          exact g_iret C dX12_field_55 hr hlk
      · refine g_iload_n C dX12_field_30 rfl rfl ?_
        refine g_i2l C dX12_field_31 ?_
        refine g_lconst (v := 0) C dX12_field_32 (by decide) ?_
        refine g_ldc2 C k139 dX12_field_33 ?_
        obtain ⟨z9, hz9, hf⟩ := gbind hf ho
        refine g_callS C dX12_field_36 (m_X12_in l X N _ _ _  (gLay.sub hL (by decide) (by decide)) _ _ _ z9 hz9) gEin0 (va_cwS 3 C.2.2.2.2.1 gX12_field_X12_in rfl rfl rfl (by decide +kernel) ⟨Nat.le_of_ble_eq_true rfl, Nat.le_of_ble_eq_true rfl⟩) rfl rfl (Nat.le_of_ble_eq_true rfl) ⟨Nat.le_of_ble_eq_true rfl, Nat.le_of_ble_eq_true rfl⟩ ?_
        refine g_if_ne (tgt := 56) C dX12_field_39 (by decide) hf (fun hf => ?_) (fun hf => ?_)
        · refine g_iload_n C dX12_field_56 rfl rfl ?_
          refine g_if_ne (tgt := 69) C dX12_field_57 (by decide) hf (fun hf => ?_) (fun hf => ?_)
          · refine g_iload_n C dX12_field_69 rfl rfl ?_
            refine g_iconst (v := 1) C dX12_field_70 (by decide) ?_
            refine g_icmp_ne (tgt := 83) C dX12_field_71 (by decide) hf (fun hf => ?_) (fun hf => ?_)
            · refine g_iload_n C dX12_field_83 rfl rfl ?_
              refine g_iconst (v := 2) C dX12_field_84 (by decide) ?_
              refine g_icmp_ne (tgt := 98) C dX12_field_85 (by decide) hf (fun hf => ?_) (fun hf => ?_)
              · refine g_iload_n C dX12_field_98 rfl rfl ?_
                refine g_if_ne (tgt := 107) C dX12_field_99 (by decide) hf (fun hf => ?_) (fun hf => ?_)
                · refine g_aload_n C dX12_field_107 rfl rfl ?_
                  refine g_iload_n C dX12_field_108 rfl rfl ?_
                  refine g_aload_n C dX12_field_109 rfl rfl ?_
                  refine g_iload_n C dX12_field_110 rfl rfl ?_
                  obtain ⟨z10, hz10, hf⟩ := gbind hf ho
                  refine g_callV C dX12_field_111 (m_X12_inverse l X N _ _ _  (gLay.sub hL (by decide) (by decide)) _ z10 hz10) gEin0 (cwV 1 C.2.2.2.2.1 gX12_field_X12_inverse rfl rfl rfl (by decide +kernel) ⟨Nat.le_of_ble_eq_true rfl, Nat.le_of_ble_eq_true rfl⟩) (L91 hL (by decide) (by decide)) (by decide) rfl rfl rfl (Nat.le_of_ble_eq_true rfl) ⟨Nat.le_of_ble_eq_true rfl, Nat.le_of_ble_eq_true rfl⟩ ?_
                  obtain ⟨z11, hz11, hf⟩ := gbind hf ho
                  refine g_callV C dX12_field_114 (m_X12_times l X N _ _ _  (gLay.sub hL (by decide) (by decide)) _ _ z11 hz11) gEin0 (cwV 2 C.2.2.2.2.1 gX12_field_X12_times rfl rfl rfl (by decide +kernel) ⟨Nat.le_of_ble_eq_true rfl, Nat.le_of_ble_eq_true rfl⟩) (L91 hL (by decide) (by decide)) (by decide) rfl rfl rfl (Nat.le_of_ble_eq_true rfl) ⟨Nat.le_of_ble_eq_true rfl, Nat.le_of_ble_eq_true rfl⟩ ?_
                  obtain ⟨rfl, rfl⟩ := gs2 hf
                  exact g_iret C dX12_field_117 hr hlk
                · refine g_ldc C k142 dX12_field_102 ?_
                  refine g_goto (tgt := 117) C dX12_field_104 (by decide) ?_
                  obtain ⟨rfl, rfl⟩ := gs2 hf
                  exact g_iret C dX12_field_117 hr hlk
              · refine g_aload_n C dX12_field_88 rfl rfl ?_
                refine g_iload_n C dX12_field_89 rfl rfl ?_
                refine g_iload_n C dX12_field_90 rfl rfl ?_
                refine g_i2l C dX12_field_91 ?_
                obtain ⟨z12, hz12, hf⟩ := gbind hf ho
                refine g_callV C dX12_field_92 (m_X12_raise l X N _ _ _  (gLay.sub hL (by decide) (by decide)) _ _ z12 hz12) gEin0 (cwV 2 C.2.2.2.2.1 gX12_field_X12_raise rfl rfl rfl (by decide +kernel) ⟨Nat.le_of_ble_eq_true rfl, Nat.le_of_ble_eq_true rfl⟩) (L91 hL (by decide) (by decide)) (by decide) rfl rfl rfl (Nat.le_of_ble_eq_true rfl) ⟨Nat.le_of_ble_eq_true rfl, Nat.le_of_ble_eq_true rfl⟩ ?_
                refine g_goto (tgt := 117) C dX12_field_95 (by decide) ?_
                obtain ⟨rfl, rfl⟩ := gs2 hf
                exact g_iret C dX12_field_117 hr hlk
            · refine g_aload_n C dX12_field_74 rfl rfl ?_
              refine g_iload_n C dX12_field_75 rfl rfl ?_
              refine g_iload_n C dX12_field_76 rfl rfl ?_
              obtain ⟨z13, hz13, hf⟩ := gbind hf ho
              refine g_callV C dX12_field_77 (m_X12_times l X N _ _ _  (gLay.sub hL (by decide) (by decide)) _ _ z13 hz13) gEin0 (cwV 2 C.2.2.2.2.1 gX12_field_X12_times rfl rfl rfl (by decide +kernel) ⟨Nat.le_of_ble_eq_true rfl, Nat.le_of_ble_eq_true rfl⟩) (L91 hL (by decide) (by decide)) (by decide) rfl rfl rfl (Nat.le_of_ble_eq_true rfl) ⟨Nat.le_of_ble_eq_true rfl, Nat.le_of_ble_eq_true rfl⟩ ?_
              refine g_goto (tgt := 117) C dX12_field_80 (by decide) ?_
              obtain ⟨rfl, rfl⟩ := gs2 hf
              exact g_iret C dX12_field_117 hr hlk
          · refine g_aload_n C dX12_field_60 rfl rfl ?_
            refine g_iload_n C dX12_field_61 rfl rfl ?_
            refine g_iload_n C dX12_field_62 rfl rfl ?_
            obtain ⟨z14, hz14, hf⟩ := gbind hf ho
            refine g_callV C dX12_field_63 (m_X12_add l X N _ _ _  (gLay.sub hL (by decide) (by decide)) _ _ z14 hz14) gEin0 (cwV 2 C.2.2.2.2.1 gX12_field_X12_add rfl rfl rfl (by decide +kernel) ⟨Nat.le_of_ble_eq_true rfl, Nat.le_of_ble_eq_true rfl⟩) (L91 hL (by decide) (by decide)) (by decide) rfl rfl rfl (Nat.le_of_ble_eq_true rfl) ⟨Nat.le_of_ble_eq_true rfl, Nat.le_of_ble_eq_true rfl⟩ ?_
            refine g_goto (tgt := 117) C dX12_field_66 (by decide) ?_
            obtain ⟨rfl, rfl⟩ := gs2 hf
            exact g_iret C dX12_field_117 hr hlk
        · refine g_goto (tgt := 53) C dX12_field_42 (by decide) ?_
          refine g_ldc C k141 dX12_field_53 ?_
          obtain ⟨rfl, rfl⟩ := gs2 hf
          exact g_iret C dX12_field_55 hr hlk
set_option maxRecDepth 100000 in
set_option maxHeartbeats 8000000 in
theorem m_X12_isRow (l : Launch) (X : gX) (N : Nat) (I : gI) (R : gR) (S : gS) (hL : gLay 91 114 R S) (a0 : Int32) (v : Int32) (hf : f_X12_isRow N I R S a0 = some v) : gM l yX12_isRow wsX12_isRow { frames := 1, cells := 0, slots := 0, locals := 25 } X gE0 [.int a0] I R S (some (.int v)) I R S 0 0 := by
  unfold f_X12_isRow at hf
  refine gM_of (cc := cX12_isRow) (own := RX12) (maxL := 1) (ret := (some .boolean)) (by decide) rfl rfl (Nat.le_of_ble_eq_true rfl) ?_
  intro p e s m args below meth c C hr hlk hnm hE
  have ho : (some v) ≠ none := fun h => by cases h
  have k147 := C.2.2.2.2.1 (.constantLong RX12 147 (7)) (by decide +kernel)
  refine g_iload_n C dX12_isRow_0 rfl rfl ?_
  refine g_i2l C dX12_isRow_1 ?_
  refine g_lconst (v := 0) C dX12_isRow_2 (by decide) ?_
  refine g_ldc2 C k147 dX12_isRow_3 ?_
  obtain ⟨z1, hz1, hf⟩ := gbind hf ho
  refine g_callS C dX12_isRow_6 (m_X12_in l X N _ _ _  (gLay.sub hL (by decide) (by decide)) _ _ _ z1 hz1) gEin0 (va_cwS 3 C.2.2.2.2.1 gX12_isRow_X12_in rfl rfl rfl (by decide +kernel) ⟨Nat.le_of_ble_eq_true rfl, Nat.le_of_ble_eq_true rfl⟩) rfl rfl (Nat.le_of_ble_eq_true rfl) ⟨Nat.le_of_ble_eq_true rfl, Nat.le_of_ble_eq_true rfl⟩ ?_
  obtain ⟨hb01, hf⟩ := gcase hf ho
  obtain rfl := gs1 hf
  exact g_zret C dX12_isRow_9 hr hlk hb01
set_option maxRecDepth 100000 in
set_option maxHeartbeats 8000000 in
theorem m_X12_row (l : Launch) (X : gX) (N : Nat) (I : gI) (R : gR) (S : gS) (hL : gLay 91 114 R S) (a0 : Int32) (a1 : Int32) (a2 : Int32) (v : Int32) (J : gI) (hf : f_X12_row N I R S a0 a1 a2 = some (v, J)) : gM l yX12_row wsX12_row { frames := 2, cells := 0, slots := 0, locals := 45 } X gE0 [.ref (X.1 + 91), .int a0, .int a1, .int a2] I R S (some (.int v)) J R S 0 0 := by
  unfold f_X12_row at hf
  refine gM_of (cc := cX12_row) (own := RX12) (maxL := 5) (ret := (some .int)) (by decide) rfl rfl (Nat.le_of_ble_eq_true rfl) ?_
  intro p e s m args below meth c C hr hlk hnm hE
  have ho : (some (v, J)) ≠ none := fun h => by cases h
  have f1 := C.2.2.2.2.1 (.fieldLink RX12 1 "TimesByPowersModel" "thrown" "I") (by decide +kernel)
  have c11 : gCl wsX12_row 11 RX12 TX12 29 := ⟨by decide, rfl, rfl, by decide +kernel⟩
  have k141 := C.2.2.2.2.1 (.constant RX12 141 (-1000001)) (by decide +kernel)
  have k152 := C.2.2.2.2.1 (.constantLong RX12 152 (2)) (by decide +kernel)
  have f7 := C.2.2.2.2.1 (.fieldLink RX12 7 "TimesByPowersModel" "status" "I") (by decide +kernel)
  have f61 := C.2.2.2.2.1 (.fieldLink RX12 61 "TimesByPowersModel" "lane" "[I") (by decide +kernel)
  have f64 := C.2.2.2.2.1 (.fieldLink RX12 64 "TimesByPowersModel" "many" "[I") (by decide +kernel)
  have f67 := C.2.2.2.2.1 (.fieldLink RX12 67 "TimesByPowersModel" "item" "[I") (by decide +kernel)
  refine g_aload_n C dX12_row_0 rfl rfl ?_
  refine g_iconst (v := 0) C dX12_row_1 (by decide) ?_
  refine g_putI (i := 0) (j := 0) C dX12_row_2 (L91 hL (by decide) (by decide)) c11 gy11 rfl f1 (fun _ h9 => h9) (Or.inl rfl) rfl ?_
  refine g_iload_n C dX12_row_5 rfl rfl ?_
  obtain ⟨z1, hz1, hf⟩ := gbind hf ho
  refine g_callS C dX12_row_6 (m_X12_isRow l X N _ _ _  (gLay.sub hL (by decide) (by decide)) _ z1 hz1) gEin0 (va_cwS 1 C.2.2.2.2.1 gX12_row_X12_isRow rfl rfl rfl (by decide +kernel) ⟨Nat.le_of_ble_eq_true rfl, Nat.le_of_ble_eq_true rfl⟩) rfl rfl (Nat.le_of_ble_eq_true rfl) ⟨Nat.le_of_ble_eq_true rfl, Nat.le_of_ble_eq_true rfl⟩ ?_
  refine g_if_eq (tgt := 30) C dX12_row_9 (by decide) hf (fun hf => ?_) (fun hf => ?_)
  · refine g_ldc C k141 dX12_row_30 ?_
    obtain ⟨rfl, rfl⟩ := gs2 hf
    exact g_iret C dX12_row_32 hr hlk
  · refine g_iload_n C dX12_row_12 rfl rfl ?_
    refine g_i2l C dX12_row_13 ?_
    refine g_lconst (v := 0) C dX12_row_14 (by decide) ?_
    refine g_ldc2 C k152 dX12_row_15 ?_
    obtain ⟨z2, hz2, hf⟩ := gbind hf ho
    refine g_callS C dX12_row_18 (m_X12_in l X N _ _ _  (gLay.sub hL (by decide) (by decide)) _ _ _ z2 hz2) gEin0 (va_cwS 3 C.2.2.2.2.1 gX12_row_X12_in rfl rfl rfl (by decide +kernel) ⟨Nat.le_of_ble_eq_true rfl, Nat.le_of_ble_eq_true rfl⟩) rfl rfl (Nat.le_of_ble_eq_true rfl) ⟨Nat.le_of_ble_eq_true rfl, Nat.le_of_ble_eq_true rfl⟩ ?_
    refine g_if_eq (tgt := 30) C dX12_row_21 (by decide) hf (fun hf => ?_) (fun hf => ?_)
    · refine g_ldc C k141 dX12_row_30 ?_
      obtain ⟨rfl, rfl⟩ := gs2 hf
      exact g_iret C dX12_row_32 hr hlk
    · refine g_iload_n C dX12_row_24 rfl rfl ?_
      refine g_bipush (v := 24) C dX12_row_25 (by decide) ?_
      refine g_icmp_le (tgt := 33) C dX12_row_27 (by decide) hf (fun hf => ?_) (fun hf => ?_)
      · refine g_aload_n C dX12_row_33 rfl rfl ?_
        refine g_iconst (v := 0) C dX12_row_34 (by decide) ?_
        refine g_putI (i := 1) (j := 1) C dX12_row_35 (L91 hL (by decide) (by decide)) c11 gy11 rfl f7 (fun _ h9 => h9) (Or.inl rfl) rfl ?_
        refine g_iload_n C dX12_row_38 rfl rfl ?_
        refine g_if_ge (tgt := 48) C dX12_row_39 (by decide) hf (fun hf => ?_) (fun hf => ?_)
        · refine g_aload_n C dX12_row_48 rfl rfl ?_
          refine g_getR (i := 12) (j := 12) C dX12_row_49 (L91 hL (by decide) (by decide)) c11 rfl (by decide) f61 (fun _ h9 => h9) (LR91_12 hL (by decide) (by decide)) ?_
          refine g_iload_n C dX12_row_52 rfl rfl ?_
          refine g_iload_n C dX12_row_53 rfl rfl ?_
          refine g_iast C dX12_row_54 (L98 hL (by decide) (by decide)) ho hf (fun hf => ?_)
          refine g_aload_n C dX12_row_55 rfl rfl ?_
          refine g_getR (i := 13) (j := 13) C dX12_row_56 (L91 hL (by decide) (by decide)) c11 rfl (by decide) f64 (fun _ h9 => h9) (LR91_13 hL (by decide) (by decide)) ?_
          refine g_iload_n C dX12_row_59 rfl rfl ?_
          refine g_iload_n C dX12_row_60 rfl rfl ?_
          refine g_iast C dX12_row_61 (L99 hL (by decide) (by decide)) ho hf (fun hf => ?_)
          refine g_iconst (v := 0) C dX12_row_62 (by decide) ?_
          refine g_istore C dX12_row_63 (Nat.le_of_ble_eq_true rfl) rfl rfl ?_
          refine g_loop (fun z3 => [(0, .ref (X.1 + 91)), (1, .int a0), (3, .int a2), (4, .int z3.1)]) (fun z3 => z3.2) (fun r4 => [(3, .int a2)]) (fun r4 => r4) 91 hf ho (And.intro rfl (And.intro rfl (And.intro rfl (And.intro rfl trivial)))) rfl (fun r4 hf => ?_) (fun z3 o1 hf ho hkz3 hez3 => ?_)
          · refine g_iload_n C dX12_row_91 rfl rfl ?_
            obtain ⟨rfl, rfl⟩ := gs2 hf
            exact g_iret C dX12_row_92 hr hlk
          · refine g_iload C dX12_row_65 rfl ?_
            refine g_bipush (v := 24) C dX12_row_67 (by decide) ?_
            refine g_icmp_ge (tgt := 91) C dX12_row_69 (by decide) hf (fun hf => ?_) (fun hf => ?_)
            · have hx := hez3 _ hf.symm
              refine g_sub ?_ hx
              exact (And.intro rfl trivial)
            · refine g_aload_n C dX12_row_72 rfl rfl ?_
              refine g_getR (i := 14) (j := 14) C dX12_row_73 (L91 hL (by decide) (by decide)) c11 rfl (by decide) f67 (fun _ h9 => h9) (LR91_14 hL (by decide) (by decide)) ?_
              refine g_bipush (v := 24) C dX12_row_76 (by decide) ?_
              refine g_iload_n C dX12_row_78 rfl rfl ?_
              refine g_imul C dX12_row_79 ?_
              refine g_iload C dX12_row_80 rfl ?_
              refine g_iadd C dX12_row_82 ?_
              refine g_iconst (v := 0) C dX12_row_83 (by decide) ?_
              refine g_iast C dX12_row_84 (L100 hL (by decide) (by decide)) ho hf (fun hf => ?_)
              refine g_iinc (d := 1) C dX12_row_85 rfl (by decide) rfl (Nat.le_of_ble_eq_true rfl) rfl rfl ?_
              refine g_goto (tgt := 65) C dX12_row_88 (by decide) ?_
              have hx := hkz3 _ hf.symm
              refine g_sub ?_ hx
              exact (And.intro rfl (And.intro rfl (And.intro rfl (And.intro rfl trivial))))
        · refine g_aload_n C dX12_row_42 rfl rfl ?_
          refine g_iconst (v := 4) C dX12_row_43 (by decide) ?_
          obtain ⟨z5, hz5, hf⟩ := gbind hf ho
          refine g_callV C dX12_row_44 (m_X12_found l X N _ _ _  (gLay.sub hL (by decide) (by decide)) _ z5.1 z5.2 hz5) gEin0 (cwV 1 C.2.2.2.2.1 gX12_row_X12_found rfl rfl rfl (by decide +kernel) ⟨Nat.le_of_ble_eq_true rfl, Nat.le_of_ble_eq_true rfl⟩) (L91 hL (by decide) (by decide)) (by decide) rfl rfl rfl (Nat.le_of_ble_eq_true rfl) ⟨Nat.le_of_ble_eq_true rfl, Nat.le_of_ble_eq_true rfl⟩ ?_
          obtain ⟨rfl, rfl⟩ := gs2 hf
          exact g_iret C dX12_row_47 hr hlk
      · refine g_ldc C k141 dX12_row_30 ?_
        obtain ⟨rfl, rfl⟩ := gs2 hf
        exact g_iret C dX12_row_32 hr hlk

