set_option maxRecDepth 100000 in
set_option maxHeartbeats 8000000 in
theorem m_X12_told (l : Launch) (X : gX) (N : Nat) (I : gI) (R : gR) (S : gS) (hL : gLay 91 114 R S) (a0 : Int32) (a1 : Int32) (v : Int32) (J : gI) (hf : f_X12_told N I R S a0 a1 = some (v, J)) : gM l yX12_told wsX12_told { frames := 4, cells := 0, slots := 0, locals := 95 } X gE0 [.ref (X.1 + 91), .int a0, .int a1] I R S (some (.int v)) J R S 0 0 := by
  unfold f_X12_told at hf
  refine gM_of (cc := cX12_told) (own := RX12) (maxL := 5) (ret := (some .int)) (by decide) rfl rfl (Nat.le_of_ble_eq_true rfl) ?_
  intro p e s m args below meth c C hr hlk hnm hE
  have ho : (some (v, J)) ≠ none := fun h => by cases h
  have f1 := C.2.2.2.2.1 (.fieldLink RX12 1 "TimesByPowersModel" "thrown" "I") (by decide +kernel)
  have c11 : gCl wsX12_told 11 RX12 TX12 29 := ⟨by decide, rfl, rfl, by decide +kernel⟩
  have k141 := C.2.2.2.2.1 (.constant RX12 141 (-1000001)) (by decide +kernel)
  have k157 := C.2.2.2.2.1 (.constantLong RX12 157 (9)) (by decide +kernel)
  have f70 := C.2.2.2.2.1 (.fieldLink RX12 70 "TimesByPowersModel" "rank" "[I") (by decide +kernel)
  have f73 := C.2.2.2.2.1 (.fieldLink RX12 73 "TimesByPowersModel" "t" "[I") (by decide +kernel)
  have f42 := C.2.2.2.2.1 (.fieldLink RX12 42 "TimesByPowersModel" "n" "I") (by decide +kernel)
  have f11 := C.2.2.2.2.1 (.fieldLink RX12 11 "TimesByPowersModel" "p" "I") (by decide +kernel)
  refine g_aload_n C dX12_told_0 rfl rfl ?_
  refine g_iconst (v := 0) C dX12_told_1 (by decide) ?_
  refine g_putI (i := 0) (j := 0) C dX12_told_2 (L91 hL (by decide) (by decide)) c11 gy11 rfl f1 (fun _ h9 => h9) (Or.inl rfl) rfl ?_
  refine g_iload_n C dX12_told_5 rfl rfl ?_
  obtain ⟨z1, hz1, hf⟩ := gbind hf ho
  refine g_callS C dX12_told_6 (m_X12_isPlace l X N _ _ _  (gLay.sub hL (by decide) (by decide)) _ z1 hz1) gEin0 (va_cwS 1 C.2.2.2.2.1 gX12_told_X12_isPlace rfl rfl rfl (by decide +kernel) ⟨Nat.le_of_ble_eq_true rfl, Nat.le_of_ble_eq_true rfl⟩) rfl rfl (Nat.le_of_ble_eq_true rfl) ⟨Nat.le_of_ble_eq_true rfl, Nat.le_of_ble_eq_true rfl⟩ ?_
  refine g_if_eq (tgt := 24) C dX12_told_9 (by decide) hf (fun hf => ?_) (fun hf => ?_)
  · refine g_ldc C k141 dX12_told_24 ?_
    obtain ⟨rfl, rfl⟩ := gs2 hf
    exact g_iret C dX12_told_26 hr hlk
  · refine g_iload_n C dX12_told_12 rfl rfl ?_
    refine g_i2l C dX12_told_13 ?_
    refine g_lconst (v := 0) C dX12_told_14 (by decide) ?_
    refine g_ldc2 C k157 dX12_told_15 ?_
    obtain ⟨z2, hz2, hf⟩ := gbind hf ho
    refine g_callS C dX12_told_18 (m_X12_in l X N _ _ _  (gLay.sub hL (by decide) (by decide)) _ _ _ z2 hz2) gEin0 (va_cwS 3 C.2.2.2.2.1 gX12_told_X12_in rfl rfl rfl (by decide +kernel) ⟨Nat.le_of_ble_eq_true rfl, Nat.le_of_ble_eq_true rfl⟩) rfl rfl (Nat.le_of_ble_eq_true rfl) ⟨Nat.le_of_ble_eq_true rfl, Nat.le_of_ble_eq_true rfl⟩ ?_
    refine g_if_ne (tgt := 27) C dX12_told_21 (by decide) hf (fun hf => ?_) (fun hf => ?_)
    · refine g_aload_n C dX12_told_27 rfl rfl ?_
      refine g_iload_n C dX12_told_28 rfl rfl ?_
      obtain ⟨z3, hz3, hf⟩ := gbind hf ho
      refine g_callV C dX12_told_29 (m_X12_look l X N _ _ _  (gLay.sub hL (by decide) (by decide)) _ z3.1 z3.2 hz3) gEin0 (cwV 1 C.2.2.2.2.1 gX12_told_X12_look rfl rfl rfl (by decide +kernel) ⟨Nat.le_of_ble_eq_true rfl, Nat.le_of_ble_eq_true rfl⟩) (L91 hL (by decide) (by decide)) (by decide) rfl rfl rfl (Nat.le_of_ble_eq_true rfl) ⟨Nat.le_of_ble_eq_true rfl, Nat.le_of_ble_eq_true rfl⟩ ?_
      refine g_istore_n C dX12_told_32 rfl (Nat.le_of_ble_eq_true rfl) rfl rfl ?_
      refine g_iload_n C dX12_told_33 rfl rfl ?_
      refine g_if_ge (tgt := 39) C dX12_told_34 (by decide) hf (fun hf => ?_) (fun hf => ?_)
      · refine g_iload_n C dX12_told_39 rfl rfl ?_
        by_cases ht4_0 : a1 = (0 : Int32)
        · rw [if_pos ht4_0] at hf
          refine g_tabC (v := (0 : Int32)) (tgt := 92) C dX12_told_40 ht4_0 (by decide) (by decide) rfl (by decide) ?_
          refine g_aload_n C dX12_told_92 rfl rfl ?_
          refine g_getR (i := 15) (j := 15) C dX12_told_93 (L91 hL (by decide) (by decide)) c11 rfl (by decide) f70 (fun _ h9 => h9) (LR91_15 hL (by decide) (by decide)) ?_
          refine g_iload_n C dX12_told_96 rfl rfl ?_
          refine g_iald C dX12_told_97 (L101 hL (by decide) (by decide)) ho hf (fun hf => ?_)
          obtain ⟨rfl, rfl⟩ := gs2 hf
          exact g_iret C dX12_told_98 hr hlk
        · rw [if_neg ht4_0] at hf
          by_cases ht4_1 : a1 = (1 : Int32)
          · rw [if_pos ht4_1] at hf
            refine g_tabC (v := (1 : Int32)) (tgt := 99) C dX12_told_40 ht4_1 (by decide) (by decide) rfl (by decide) ?_
            refine g_aload_n C dX12_told_99 rfl rfl ?_
            refine g_getR (i := 16) (j := 16) C dX12_told_100 (L91 hL (by decide) (by decide)) c11 rfl (by decide) f73 (fun _ h9 => h9) (LR91_16 hL (by decide) (by decide)) ?_
            refine g_iconst (v := 4) C dX12_told_103 (by decide) ?_
            refine g_iload_n C dX12_told_104 rfl rfl ?_
            refine g_imul C dX12_told_105 ?_
            refine g_iload_n C dX12_told_106 rfl rfl ?_
            refine g_iadd C dX12_told_107 ?_
            refine g_iconst (v := 1) C dX12_told_108 (by decide) ?_
            refine g_isub C dX12_told_109 ?_
            refine g_iald C dX12_told_110 (L102 hL (by decide) (by decide)) ho hf (fun hf => ?_)
            obtain ⟨rfl, rfl⟩ := gs2 hf
            exact g_iret C dX12_told_111 hr hlk
          · rw [if_neg ht4_1] at hf
            by_cases ht4_2 : a1 = (2 : Int32)
            · rw [if_pos ht4_2] at hf
              refine g_tabC (v := (2 : Int32)) (tgt := 99) C dX12_told_40 ht4_2 (by decide) (by decide) rfl (by decide) ?_
              refine g_aload_n C dX12_told_99 rfl rfl ?_
              refine g_getR (i := 16) (j := 16) C dX12_told_100 (L91 hL (by decide) (by decide)) c11 rfl (by decide) f73 (fun _ h9 => h9) (LR91_16 hL (by decide) (by decide)) ?_
              refine g_iconst (v := 4) C dX12_told_103 (by decide) ?_
              refine g_iload_n C dX12_told_104 rfl rfl ?_
              refine g_imul C dX12_told_105 ?_
              refine g_iload_n C dX12_told_106 rfl rfl ?_
              refine g_iadd C dX12_told_107 ?_
              refine g_iconst (v := 1) C dX12_told_108 (by decide) ?_
              refine g_isub C dX12_told_109 ?_
              refine g_iald C dX12_told_110 (L102 hL (by decide) (by decide)) ho hf (fun hf => ?_)
              obtain ⟨rfl, rfl⟩ := gs2 hf
              exact g_iret C dX12_told_111 hr hlk
            · rw [if_neg ht4_2] at hf
              by_cases ht4_3 : a1 = (3 : Int32)
              · rw [if_pos ht4_3] at hf
                refine g_tabC (v := (3 : Int32)) (tgt := 99) C dX12_told_40 ht4_3 (by decide) (by decide) rfl (by decide) ?_
                refine g_aload_n C dX12_told_99 rfl rfl ?_
                refine g_getR (i := 16) (j := 16) C dX12_told_100 (L91 hL (by decide) (by decide)) c11 rfl (by decide) f73 (fun _ h9 => h9) (LR91_16 hL (by decide) (by decide)) ?_
                refine g_iconst (v := 4) C dX12_told_103 (by decide) ?_
                refine g_iload_n C dX12_told_104 rfl rfl ?_
                refine g_imul C dX12_told_105 ?_
                refine g_iload_n C dX12_told_106 rfl rfl ?_
                refine g_iadd C dX12_told_107 ?_
                refine g_iconst (v := 1) C dX12_told_108 (by decide) ?_
                refine g_isub C dX12_told_109 ?_
                refine g_iald C dX12_told_110 (L102 hL (by decide) (by decide)) ho hf (fun hf => ?_)
                obtain ⟨rfl, rfl⟩ := gs2 hf
                exact g_iret C dX12_told_111 hr hlk
              · rw [if_neg ht4_3] at hf
                by_cases ht4_4 : a1 = (4 : Int32)
                · rw [if_pos ht4_4] at hf
                  refine g_tabC (v := (4 : Int32)) (tgt := 99) C dX12_told_40 ht4_4 (by decide) (by decide) rfl (by decide) ?_
                  refine g_aload_n C dX12_told_99 rfl rfl ?_
                  refine g_getR (i := 16) (j := 16) C dX12_told_100 (L91 hL (by decide) (by decide)) c11 rfl (by decide) f73 (fun _ h9 => h9) (LR91_16 hL (by decide) (by decide)) ?_
                  refine g_iconst (v := 4) C dX12_told_103 (by decide) ?_
                  refine g_iload_n C dX12_told_104 rfl rfl ?_
                  refine g_imul C dX12_told_105 ?_
                  refine g_iload_n C dX12_told_106 rfl rfl ?_
                  refine g_iadd C dX12_told_107 ?_
                  refine g_iconst (v := 1) C dX12_told_108 (by decide) ?_
                  refine g_isub C dX12_told_109 ?_
                  refine g_iald C dX12_told_110 (L102 hL (by decide) (by decide)) ho hf (fun hf => ?_)
                  obtain ⟨rfl, rfl⟩ := gs2 hf
                  exact g_iret C dX12_told_111 hr hlk
                · rw [if_neg ht4_4] at hf
                  by_cases ht4_5 : a1 = (5 : Int32)
                  · rw [if_pos ht4_5] at hf
                    refine g_tabC (v := (5 : Int32)) (tgt := 112) C dX12_told_40 ht4_5 (by decide) (by decide) rfl (by decide) ?_
                    refine g_aload_n C dX12_told_112 rfl rfl ?_
                    refine g_iload_n C dX12_told_113 rfl rfl ?_
                    obtain ⟨z5, hz5, hf⟩ := gbind hf ho
                    refine g_callV C dX12_told_114 (m_X12_ownOf l X N _ _ _  (gLay.sub hL (by decide) (by decide)) _ z5.1 z5.2 hz5) gEin0 (cwV 1 C.2.2.2.2.1 gX12_told_X12_ownOf rfl rfl rfl (by decide +kernel) ⟨Nat.le_of_ble_eq_true rfl, Nat.le_of_ble_eq_true rfl⟩) (L91 hL (by decide) (by decide)) (by decide) rfl rfl rfl (Nat.le_of_ble_eq_true rfl) ⟨Nat.le_of_ble_eq_true rfl, Nat.le_of_ble_eq_true rfl⟩ ?_
                    obtain ⟨rfl, rfl⟩ := gs2 hf
                    exact g_iret C dX12_told_117 hr hlk
                  · rw [if_neg ht4_5] at hf
                    by_cases ht4_6 : a1 = (6 : Int32)
                    · rw [if_pos ht4_6] at hf
                      refine g_tabC (v := (6 : Int32)) (tgt := 118) C dX12_told_40 ht4_6 (by decide) (by decide) rfl (by decide) ?_
                      refine g_aload_n C dX12_told_118 rfl rfl ?_
                      refine g_iload_n C dX12_told_119 rfl rfl ?_
                      obtain ⟨z6, hz6, hf⟩ := gbind hf ho
                      refine g_callV C dX12_told_120 (m_X12_heightOf l X N _ _ _  (gLay.sub hL (by decide) (by decide)) _ z6.1 z6.2 hz6) gEin0 (cwV 1 C.2.2.2.2.1 gX12_told_X12_heightOf rfl rfl rfl (by decide +kernel) ⟨Nat.le_of_ble_eq_true rfl, Nat.le_of_ble_eq_true rfl⟩) (L91 hL (by decide) (by decide)) (by decide) rfl rfl rfl (Nat.le_of_ble_eq_true rfl) ⟨Nat.le_of_ble_eq_true rfl, Nat.le_of_ble_eq_true rfl⟩ ?_
                      obtain ⟨rfl, rfl⟩ := gs2 hf
                      exact g_iret C dX12_told_123 hr hlk
                    · rw [if_neg ht4_6] at hf
                      by_cases ht4_7 : a1 = (7 : Int32)
                      · rw [if_pos ht4_7] at hf
                        refine g_tabC (v := (7 : Int32)) (tgt := 124) C dX12_told_40 ht4_7 (by decide) (by decide) rfl (by decide) ?_
                        refine g_aload_n C dX12_told_124 rfl rfl ?_
                        refine g_iload_n C dX12_told_125 rfl rfl ?_
                        obtain ⟨z7, hz7, hf⟩ := gbind hf ho
                        refine g_callV C dX12_told_126 (m_X12_wholeOf l X N _ _ _  (gLay.sub hL (by decide) (by decide)) _ z7.1 z7.2 hz7) gEin0 (cwV 1 C.2.2.2.2.1 gX12_told_X12_wholeOf rfl rfl rfl (by decide +kernel) ⟨Nat.le_of_ble_eq_true rfl, Nat.le_of_ble_eq_true rfl⟩) (L91 hL (by decide) (by decide)) (by decide) rfl rfl rfl (Nat.le_of_ble_eq_true rfl) ⟨Nat.le_of_ble_eq_true rfl, Nat.le_of_ble_eq_true rfl⟩ ?_
                        obtain ⟨rfl, rfl⟩ := gs2 hf
                        exact g_iret C dX12_told_129 hr hlk
                      · rw [if_neg ht4_7] at hf
                        by_cases ht4_8 : a1 = (8 : Int32)
                        · rw [if_pos ht4_8] at hf
                          refine g_tabC (v := (8 : Int32)) (tgt := 130) C dX12_told_40 ht4_8 (by decide) (by decide) rfl (by decide) ?_
                          refine g_iconst (v := 0) C dX12_told_130 (by decide) ?_
                          refine g_istore C dX12_told_131 (Nat.le_of_ble_eq_true rfl) rfl rfl ?_
                          refine g_loop (fun z8 => [(0, .ref (X.1 + 91)), (1, .int a0), (4, .int z8.1)]) (fun z8 => z8.2) (fun r9 => [(0, .ref (X.1 + 91))]) (fun r9 => r9) 164 hf ho (And.intro rfl (And.intro rfl (And.intro rfl trivial))) rfl (fun r9 hf => ?_) (fun z8 o1 hf ho hkz8 hez8 => ?_)
                          · refine g_aload_n C dX12_told_164 rfl rfl ?_
                            refine g_aload_n C dX12_told_165 rfl rfl ?_
                            refine g_getI (i := 3) (j := 3) C dX12_told_166 (L91 hL (by decide) (by decide)) c11 rfl f42 (fun _ h9 => h9) ?_
                            obtain ⟨z12, hz12, hf⟩ := gbind hf ho
                            refine g_callV C dX12_told_169 (m_X12_leastOf l X N _ _ _  (gLay.sub hL (by decide) (by decide)) _ z12.1 z12.2 hz12) gEin0 (cwV 1 C.2.2.2.2.1 gX12_told_X12_leastOf rfl rfl rfl (by decide +kernel) ⟨Nat.le_of_ble_eq_true rfl, Nat.le_of_ble_eq_true rfl⟩) (L91 hL (by decide) (by decide)) (by decide) rfl rfl rfl (Nat.le_of_ble_eq_true rfl) ⟨Nat.le_of_ble_eq_true rfl, Nat.le_of_ble_eq_true rfl⟩ ?_
                            obtain ⟨rfl, rfl⟩ := gs2 hf
                            exact g_iret C dX12_told_172 hr hlk
                          · refine g_iload C dX12_told_133 rfl ?_
                            refine g_aload_n C dX12_told_135 rfl rfl ?_
                            refine g_getI (i := 3) (j := 3) C dX12_told_136 (L91 hL (by decide) (by decide)) c11 rfl f42 (fun _ h9 => h9) ?_
                            refine g_icmp_ge (tgt := 164) C dX12_told_139 (by decide) hf (fun hf => ?_) (fun hf => ?_)
                            · have hx := hez8 _ hf.symm
                              refine g_sub ?_ hx
                              exact (And.intro rfl trivial)
                            · refine g_aload_n C dX12_told_142 rfl rfl ?_
                              refine g_iload_n C dX12_told_143 rfl rfl ?_
                              refine g_iload C dX12_told_144 rfl ?_
                              refine g_aload_n C dX12_told_146 rfl rfl ?_
                              refine g_getI (i := 2) (j := 2) C dX12_told_147 (L91 hL (by decide) (by decide)) c11 rfl f11 (fun _ h9 => h9) ?_
                              refine g_iload C dX12_told_150 rfl ?_
                              obtain ⟨z10, hz10, hf⟩ := gbind hf ho
                              refine g_callS C dX12_told_152 (m_X12_power l X N _ _ _  (gLay.sub hL (by decide) (by decide)) _ _ z10 hz10) gEin0 (va_cwS 2 C.2.2.2.2.1 gX12_told_X12_power rfl rfl rfl (by decide +kernel) ⟨Nat.le_of_ble_eq_true rfl, Nat.le_of_ble_eq_true rfl⟩) rfl rfl (Nat.le_of_ble_eq_true rfl) ⟨Nat.le_of_ble_eq_true rfl, Nat.le_of_ble_eq_true rfl⟩ ?_
                              obtain ⟨z11, hz11, hf⟩ := gbind hf ho
                              refine g_callV C dX12_told_155 (m_X12_goOn l X N _ _ _  (gLay.sub hL (by decide) (by decide)) _ _ _ z11 hz11) gEin0 (cwV 3 C.2.2.2.2.1 gX12_told_X12_goOn rfl rfl rfl (by decide +kernel) ⟨Nat.le_of_ble_eq_true rfl, Nat.le_of_ble_eq_true rfl⟩) (L91 hL (by decide) (by decide)) (by decide) rfl rfl rfl (Nat.le_of_ble_eq_true rfl) ⟨Nat.le_of_ble_eq_true rfl, Nat.le_of_ble_eq_true rfl⟩ ?_
                              refine g_iinc (d := 1) C dX12_told_158 rfl (by decide) rfl (Nat.le_of_ble_eq_true rfl) rfl rfl ?_
                              refine g_goto (tgt := 133) C dX12_told_161 (by decide) ?_
                              have hx := hkz8 _ hf.symm
                              refine g_sub ?_ hx
                              exact (And.intro rfl (And.intro rfl (And.intro rfl trivial)))
                        · rw [if_neg ht4_8] at hf
                          refine g_tabD (cnt := 9) (tgt := 173) C dX12_told_40 (fun k hk => by have hq : k = 0 ∨ k = 1 ∨ k = 2 ∨ k = 3 ∨ k = 4 ∨ k = 5 ∨ k = 6 ∨ k = 7 ∨ k = 8 := (by omega); rcases hq with rfl | rfl | rfl | rfl | rfl | rfl | rfl | rfl | rfl <;> assumption) (by decide) (by decide) ?_
                          refine g_aload_n C dX12_told_173 rfl rfl ?_
                          refine g_getR (i := 15) (j := 15) C dX12_told_174 (L91 hL (by decide) (by decide)) c11 rfl (by decide) f70 (fun _ h9 => h9) (LR91_15 hL (by decide) (by decide)) ?_
                          refine g_iload_n C dX12_told_177 rfl rfl ?_
                          refine g_iald C dX12_told_178 (L101 hL (by decide) (by decide)) ho hf (fun hf => ?_)
                          refine g_iconst (v := 2) C dX12_told_179 (by decide) ?_
                          refine g_icmp_ne (tgt := 191) C dX12_told_180 (by decide) hf (fun hf => ?_) (fun hf => ?_)
                          · refine g_aload_n C dX12_told_191 rfl rfl ?_
                            refine g_iconst (v := 3) C dX12_told_192 (by decide) ?_
                            obtain ⟨z13, hz13, hf⟩ := gbind hf ho
                            refine g_callV C dX12_told_193 (m_X12_found l X N _ _ _  (gLay.sub hL (by decide) (by decide)) _ z13.1 z13.2 hz13) gEin0 (cwV 1 C.2.2.2.2.1 gX12_told_X12_found rfl rfl rfl (by decide +kernel) ⟨Nat.le_of_ble_eq_true rfl, Nat.le_of_ble_eq_true rfl⟩) (L91 hL (by decide) (by decide)) (by decide) rfl rfl rfl (Nat.le_of_ble_eq_true rfl) ⟨Nat.le_of_ble_eq_true rfl, Nat.le_of_ble_eq_true rfl⟩ ?_
                            obtain ⟨rfl, rfl⟩ := gs2 hf
                            exact g_iret C dX12_told_196 hr hlk
                          · refine g_aload_n C dX12_told_183 rfl rfl ?_
                            refine g_iload_n C dX12_told_184 rfl rfl ?_
                            obtain ⟨z14, hz14, hf⟩ := gbind hf ho
                            refine g_callV C dX12_told_185 (m_X12_markOf l X N _ _ _  (gLay.sub hL (by decide) (by decide)) _ z14 hz14) gEin0 (cwV 1 C.2.2.2.2.1 gX12_told_X12_markOf rfl rfl rfl (by decide +kernel) ⟨Nat.le_of_ble_eq_true rfl, Nat.le_of_ble_eq_true rfl⟩) (L91 hL (by decide) (by decide)) (by decide) rfl rfl rfl (Nat.le_of_ble_eq_true rfl) ⟨Nat.le_of_ble_eq_true rfl, Nat.le_of_ble_eq_true rfl⟩ ?_
                            refine g_goto (tgt := 196) C dX12_told_188 (by decide) ?_
                            obtain ⟨rfl, rfl⟩ := gs2 hf
                            exact g_iret C dX12_told_196 hr hlk
      · refine g_iload_n C dX12_told_37 rfl rfl ?_
        obtain ⟨rfl, rfl⟩ := gs2 hf
        exact g_iret C dX12_told_38 hr hlk
    · refine g_ldc C k141 dX12_told_24 ?_
      obtain ⟨rfl, rfl⟩ := gs2 hf
      exact g_iret C dX12_told_26 hr hlk
set_option maxRecDepth 100000 in
set_option maxHeartbeats 8000000 in
theorem m_X12_isPolynomial (l : Launch) (X : gX) (N : Nat) (I : gI) (R : gR) (S : gS) (hL : gLay 91 114 R S) (a0 : Int32) (v : Int32) (hf : f_X12_isPolynomial N I R S a0 = some v) : gM l yX12_isPolynomial wsX12_isPolynomial { frames := 1, cells := 0, slots := 0, locals := 25 } X gE0 [.ref (X.1 + 91), .int a0] I R S (some (.int v)) I R S 0 0 := by
  unfold f_X12_isPolynomial at hf
  refine gM_of (cc := cX12_isPolynomial) (own := RX12) (maxL := 2) (ret := (some .boolean)) (by decide) rfl rfl (Nat.le_of_ble_eq_true rfl) ?_
  intro p e s m args below meth c C hr hlk hnm hE
  have ho : (some v) ≠ none := fun h => by cases h
  have f11 := C.2.2.2.2.1 (.fieldLink RX12 11 "TimesByPowersModel" "p" "I") (by decide +kernel)
  have c11 : gCl wsX12_isPolynomial 11 RX12 TX12 29 := ⟨by decide, rfl, rfl, by decide +kernel⟩
  refine g_iload_n C dX12_isPolynomial_0 rfl rfl ?_
  refine g_i2l C dX12_isPolynomial_1 ?_
  refine g_lconst (v := 0) C dX12_isPolynomial_2 (by decide) ?_
  refine g_aload_n C dX12_isPolynomial_3 rfl rfl ?_
  refine g_getI (i := 2) (j := 2) C dX12_isPolynomial_4 (L91 hL (by decide) (by decide)) c11 rfl f11 (fun _ h9 => h9) ?_
  refine g_bipush (v := 7) C dX12_isPolynomial_7 (by decide) ?_
  obtain ⟨z1, hz1, hf⟩ := gbind hf ho
  refine g_callS C dX12_isPolynomial_9 (m_X12_power l X N _ _ _  (gLay.sub hL (by decide) (by decide)) _ _ z1 hz1) gEin0 (va_cwS 2 C.2.2.2.2.1 gX12_isPolynomial_X12_power rfl rfl rfl (by decide +kernel) ⟨Nat.le_of_ble_eq_true rfl, Nat.le_of_ble_eq_true rfl⟩) rfl rfl (Nat.le_of_ble_eq_true rfl) ⟨Nat.le_of_ble_eq_true rfl, Nat.le_of_ble_eq_true rfl⟩ ?_
  refine g_iconst (v := 1) C dX12_isPolynomial_12 (by decide) ?_
  refine g_isub C dX12_isPolynomial_13 ?_
  refine g_i2l C dX12_isPolynomial_14 ?_
  obtain ⟨z2, hz2, hf⟩ := gbind hf ho
  refine g_callS C dX12_isPolynomial_15 (m_X12_in l X N _ _ _  (gLay.sub hL (by decide) (by decide)) _ _ _ z2 hz2) gEin0 (va_cwS 3 C.2.2.2.2.1 gX12_isPolynomial_X12_in rfl rfl rfl (by decide +kernel) ⟨Nat.le_of_ble_eq_true rfl, Nat.le_of_ble_eq_true rfl⟩) rfl rfl (Nat.le_of_ble_eq_true rfl) ⟨Nat.le_of_ble_eq_true rfl, Nat.le_of_ble_eq_true rfl⟩ ?_
  obtain ⟨hb01, hf⟩ := gcase hf ho
  obtain rfl := gs1 hf
  exact g_zret C dX12_isPolynomial_18 hr hlk hb01
set_option maxRecDepth 100000 in
set_option maxHeartbeats 8000000 in
theorem m_X12_acts (l : Launch) (X : gX) (N : Nat) (I : gI) (R : gR) (S : gS) (hL : gLay 91 114 R S) (a0 : Int32) (a1 : Int32) (a2 : Int32) (v : Int32) (J : gI) (hf : f_X12_acts N I R S a0 a1 a2 = some (v, J)) : gM l yX12_acts wsX12_acts { frames := 3, cells := 0, slots := 0, locals := 73 } X gE0 [.ref (X.1 + 91), .int a0, .int a1, .int a2] I R S (some (.int v)) J R S 0 0 := by
  unfold f_X12_acts at hf
  refine gM_of (cc := cX12_acts) (own := RX12) (maxL := 5) (ret := (some .int)) (by decide) rfl rfl (Nat.le_of_ble_eq_true rfl) ?_
  intro p e s m args below meth c C hr hlk hnm hE
  have ho : (some (v, J)) ≠ none := fun h => by cases h
  have f1 := C.2.2.2.2.1 (.fieldLink RX12 1 "TimesByPowersModel" "thrown" "I") (by decide +kernel)
  have c11 : gCl wsX12_acts 11 RX12 TX12 29 := ⟨by decide, rfl, rfl, by decide +kernel⟩
  have k141 := C.2.2.2.2.1 (.constant RX12 141 (-1000001)) (by decide +kernel)
  have f76 := C.2.2.2.2.1 (.fieldLink RX12 76 "TimesByPowersModel" "made" "[I") (by decide +kernel)
  refine g_aload_n C dX12_acts_0 rfl rfl ?_
  refine g_iconst (v := 0) C dX12_acts_1 (by decide) ?_
  refine g_putI (i := 0) (j := 0) C dX12_acts_2 (L91 hL (by decide) (by decide)) c11 gy11 rfl f1 (fun _ h9 => h9) (Or.inl rfl) rfl ?_
  refine g_iload_n C dX12_acts_5 rfl rfl ?_
  obtain ⟨z1, hz1, hf⟩ := gbind hf ho
  refine g_callS C dX12_acts_6 (m_X12_isPlace l X N _ _ _  (gLay.sub hL (by decide) (by decide)) _ z1 hz1) gEin0 (va_cwS 1 C.2.2.2.2.1 gX12_acts_X12_isPlace rfl rfl rfl (by decide +kernel) ⟨Nat.le_of_ble_eq_true rfl, Nat.le_of_ble_eq_true rfl⟩) rfl rfl (Nat.le_of_ble_eq_true rfl) ⟨Nat.le_of_ble_eq_true rfl, Nat.le_of_ble_eq_true rfl⟩ ?_
  refine g_if_eq (tgt := 28) C dX12_acts_9 (by decide) hf (fun hf => ?_) (fun hf => ?_)
  · refine g_ldc C k141 dX12_acts_28 ?_
    obtain ⟨rfl, rfl⟩ := gs2 hf
    exact g_iret C dX12_acts_30 hr hlk
  · refine g_aload_n C dX12_acts_12 rfl rfl ?_
    refine g_iload_n C dX12_acts_13 rfl rfl ?_
    obtain ⟨z2, hz2, hf⟩ := gbind hf ho
    refine g_callV C dX12_acts_14 (m_X12_isPolynomial l X N _ _ _  (gLay.sub hL (by decide) (by decide)) _ z2 hz2) gEin0 (cwV 1 C.2.2.2.2.1 gX12_acts_X12_isPolynomial rfl rfl rfl (by decide +kernel) ⟨Nat.le_of_ble_eq_true rfl, Nat.le_of_ble_eq_true rfl⟩) (L91 hL (by decide) (by decide)) (by decide) rfl rfl rfl (Nat.le_of_ble_eq_true rfl) ⟨Nat.le_of_ble_eq_true rfl, Nat.le_of_ble_eq_true rfl⟩ ?_
    refine g_if_eq (tgt := 28) C dX12_acts_17 (by decide) hf (fun hf => ?_) (fun hf => ?_)
    · refine g_ldc C k141 dX12_acts_28 ?_
      obtain ⟨rfl, rfl⟩ := gs2 hf
      exact g_iret C dX12_acts_30 hr hlk
    · refine g_aload_n C dX12_acts_20 rfl rfl ?_
      refine g_iload_n C dX12_acts_21 rfl rfl ?_
      obtain ⟨z3, hz3, hf⟩ := gbind hf ho
      refine g_callV C dX12_acts_22 (m_X12_isElement l X N _ _ _  (gLay.sub hL (by decide) (by decide)) _ z3 hz3) gEin0 (cwV 1 C.2.2.2.2.1 gX12_acts_X12_isElement rfl rfl rfl (by decide +kernel) ⟨Nat.le_of_ble_eq_true rfl, Nat.le_of_ble_eq_true rfl⟩) (L91 hL (by decide) (by decide)) (by decide) rfl rfl rfl (Nat.le_of_ble_eq_true rfl) ⟨Nat.le_of_ble_eq_true rfl, Nat.le_of_ble_eq_true rfl⟩ ?_
      refine g_if_ne (tgt := 31) C dX12_acts_25 (by decide) hf (fun hf => ?_) (fun hf => ?_)
      · refine g_aload_n C dX12_acts_31 rfl rfl ?_
        refine g_iload_n C dX12_acts_32 rfl rfl ?_
        obtain ⟨z4, hz4, hf⟩ := gbind hf ho
        refine g_callV C dX12_acts_33 (m_X12_look l X N _ _ _  (gLay.sub hL (by decide) (by decide)) _ z4.1 z4.2 hz4) gEin0 (cwV 1 C.2.2.2.2.1 gX12_acts_X12_look rfl rfl rfl (by decide +kernel) ⟨Nat.le_of_ble_eq_true rfl, Nat.le_of_ble_eq_true rfl⟩) (L91 hL (by decide) (by decide)) (by decide) rfl rfl rfl (Nat.le_of_ble_eq_true rfl) ⟨Nat.le_of_ble_eq_true rfl, Nat.le_of_ble_eq_true rfl⟩ ?_
        refine g_istore C dX12_acts_36 (Nat.le_of_ble_eq_true rfl) rfl rfl ?_
        refine g_iload C dX12_acts_38 rfl ?_
        refine g_if_ge (tgt := 46) C dX12_acts_40 (by decide) hf (fun hf => ?_) (fun hf => ?_)
        · refine g_aload_n C dX12_acts_46 rfl rfl ?_
          refine g_iload_n C dX12_acts_47 rfl rfl ?_
          refine g_iload_n C dX12_acts_48 rfl rfl ?_
          obtain ⟨z5, hz5, hf⟩ := gbind hf ho
          refine g_callV C dX12_acts_49 (m_X12_act l X N _ _ _  (gLay.sub hL (by decide) (by decide)) _ _ z5 hz5) gEin0 (cwV 2 C.2.2.2.2.1 gX12_acts_X12_act rfl rfl rfl (by decide +kernel) ⟨Nat.le_of_ble_eq_true rfl, Nat.le_of_ble_eq_true rfl⟩) (L91 hL (by decide) (by decide)) (by decide) rfl rfl rfl (Nat.le_of_ble_eq_true rfl) ⟨Nat.le_of_ble_eq_true rfl, Nat.le_of_ble_eq_true rfl⟩ ?_
          refine g_aload_n C dX12_acts_52 rfl rfl ?_
          refine g_aload_n C dX12_acts_53 rfl rfl ?_
          refine g_getR (i := 17) (j := 17) C dX12_acts_54 (L91 hL (by decide) (by decide)) c11 rfl (by decide) f76 (fun _ h9 => h9) (LR91_17 hL (by decide) (by decide)) ?_
          refine g_iload_n C dX12_acts_57 rfl rfl ?_
          obtain ⟨z6, hz6, hf⟩ := gbind hf ho
          refine g_callV C dX12_acts_58 (m_X12_done l X N _ _ _  (gLay.sub hL (by decide) (by decide)) _ _ z6 hz6) gEin0 (cwV 2 C.2.2.2.2.1 gX12_acts_X12_done rfl rfl rfl (by decide +kernel) ⟨Nat.le_of_ble_eq_true rfl, Nat.le_of_ble_eq_true rfl⟩) (L91 hL (by decide) (by decide)) (by decide) rfl rfl rfl (Nat.le_of_ble_eq_true rfl) ⟨Nat.le_of_ble_eq_true rfl, Nat.le_of_ble_eq_true rfl⟩ ?_
          obtain ⟨rfl, rfl⟩ := gs2 hf
          exact g_iret C dX12_acts_61 hr hlk
        · refine g_iload C dX12_acts_43 rfl ?_
          obtain ⟨rfl, rfl⟩ := gs2 hf
          exact g_iret C dX12_acts_45 hr hlk
      · refine g_ldc C k141 dX12_acts_28 ?_
        obtain ⟨rfl, rfl⟩ := gs2 hf
        exact g_iret C dX12_acts_30 hr hlk
set_option maxRecDepth 100000 in
set_option maxHeartbeats 8000000 in
theorem m_X12_sum (l : Launch) (X : gX) (N : Nat) (I : gI) (R : gR) (S : gS) (hL : gLay 91 114 R S) (a0 : Int32) (a1 : Int32) (a2 : Int32) (v : Int32) (J : gI) (hf : f_X12_sum N I R S a0 a1 a2 = some (v, J)) : gM l yX12_sum wsX12_sum { frames := 3, cells := 0, slots := 0, locals := 73 } X gE0 [.ref (X.1 + 91), .int a0, .int a1, .int a2] I R S (some (.int v)) J R S 0 0 := by
  unfold f_X12_sum at hf
  refine gM_of (cc := cX12_sum) (own := RX12) (maxL := 5) (ret := (some .int)) (by decide) rfl rfl (Nat.le_of_ble_eq_true rfl) ?_
  intro p e s m args below meth c C hr hlk hnm hE
  have ho : (some (v, J)) ≠ none := fun h => by cases h
  have f1 := C.2.2.2.2.1 (.fieldLink RX12 1 "TimesByPowersModel" "thrown" "I") (by decide +kernel)
  have c11 : gCl wsX12_sum 11 RX12 TX12 29 := ⟨by decide, rfl, rfl, by decide +kernel⟩
  have k141 := C.2.2.2.2.1 (.constant RX12 141 (-1000001)) (by decide +kernel)
  have f76 := C.2.2.2.2.1 (.fieldLink RX12 76 "TimesByPowersModel" "made" "[I") (by decide +kernel)
  refine g_aload_n C dX12_sum_0 rfl rfl ?_
  refine g_iconst (v := 0) C dX12_sum_1 (by decide) ?_
  refine g_putI (i := 0) (j := 0) C dX12_sum_2 (L91 hL (by decide) (by decide)) c11 gy11 rfl f1 (fun _ h9 => h9) (Or.inl rfl) rfl ?_
  refine g_iload_n C dX12_sum_5 rfl rfl ?_
  obtain ⟨z1, hz1, hf⟩ := gbind hf ho
  refine g_callS C dX12_sum_6 (m_X12_isPlace l X N _ _ _  (gLay.sub hL (by decide) (by decide)) _ z1 hz1) gEin0 (va_cwS 1 C.2.2.2.2.1 gX12_sum_X12_isPlace rfl rfl rfl (by decide +kernel) ⟨Nat.le_of_ble_eq_true rfl, Nat.le_of_ble_eq_true rfl⟩) rfl rfl (Nat.le_of_ble_eq_true rfl) ⟨Nat.le_of_ble_eq_true rfl, Nat.le_of_ble_eq_true rfl⟩ ?_
  refine g_if_eq (tgt := 25) C dX12_sum_9 (by decide) hf (fun hf => ?_) (fun hf => ?_)
  · refine g_ldc C k141 dX12_sum_25 ?_
    obtain ⟨rfl, rfl⟩ := gs2 hf
    exact g_iret C dX12_sum_27 hr hlk
  · refine g_aload_n C dX12_sum_12 rfl rfl ?_
    refine g_iload_n C dX12_sum_13 rfl rfl ?_
    obtain ⟨z2, hz2, hf⟩ := gbind hf ho
    refine g_callV C dX12_sum_14 (m_X12_isPolynomial l X N _ _ _  (gLay.sub hL (by decide) (by decide)) _ z2 hz2) gEin0 (cwV 1 C.2.2.2.2.1 gX12_sum_X12_isPolynomial rfl rfl rfl (by decide +kernel) ⟨Nat.le_of_ble_eq_true rfl, Nat.le_of_ble_eq_true rfl⟩) (L91 hL (by decide) (by decide)) (by decide) rfl rfl rfl (Nat.le_of_ble_eq_true rfl) ⟨Nat.le_of_ble_eq_true rfl, Nat.le_of_ble_eq_true rfl⟩ ?_
    refine g_if_eq (tgt := 25) C dX12_sum_17 (by decide) hf (fun hf => ?_) (fun hf => ?_)
    · refine g_ldc C k141 dX12_sum_25 ?_
      obtain ⟨rfl, rfl⟩ := gs2 hf
      exact g_iret C dX12_sum_27 hr hlk
    · refine g_iload_n C dX12_sum_20 rfl rfl ?_
      refine g_iconst (v := -1) C dX12_sum_21 (by decide) ?_
      refine g_icmp_ge (tgt := 28) C dX12_sum_22 (by decide) hf (fun hf => ?_) (fun hf => ?_)
      · refine g_aload_n C dX12_sum_28 rfl rfl ?_
        refine g_iload_n C dX12_sum_29 rfl rfl ?_
        obtain ⟨z3, hz3, hf⟩ := gbind hf ho
        refine g_callV C dX12_sum_30 (m_X12_look l X N _ _ _  (gLay.sub hL (by decide) (by decide)) _ z3.1 z3.2 hz3) gEin0 (cwV 1 C.2.2.2.2.1 gX12_sum_X12_look rfl rfl rfl (by decide +kernel) ⟨Nat.le_of_ble_eq_true rfl, Nat.le_of_ble_eq_true rfl⟩) (L91 hL (by decide) (by decide)) (by decide) rfl rfl rfl (Nat.le_of_ble_eq_true rfl) ⟨Nat.le_of_ble_eq_true rfl, Nat.le_of_ble_eq_true rfl⟩ ?_
        refine g_istore C dX12_sum_33 (Nat.le_of_ble_eq_true rfl) rfl rfl ?_
        refine g_iload C dX12_sum_35 rfl ?_
        refine g_if_ge (tgt := 43) C dX12_sum_37 (by decide) hf (fun hf => ?_) (fun hf => ?_)
        · refine g_aload_n C dX12_sum_43 rfl rfl ?_
          refine g_iload_n C dX12_sum_44 rfl rfl ?_
          refine g_iload_n C dX12_sum_45 rfl rfl ?_
          obtain ⟨z4, hz4, hf⟩ := gbind hf ho
          refine g_callV C dX12_sum_46 (m_X12_act l X N _ _ _  (gLay.sub hL (by decide) (by decide)) _ _ z4 hz4) gEin0 (cwV 2 C.2.2.2.2.1 gX12_sum_X12_act rfl rfl rfl (by decide +kernel) ⟨Nat.le_of_ble_eq_true rfl, Nat.le_of_ble_eq_true rfl⟩) (L91 hL (by decide) (by decide)) (by decide) rfl rfl rfl (Nat.le_of_ble_eq_true rfl) ⟨Nat.le_of_ble_eq_true rfl, Nat.le_of_ble_eq_true rfl⟩ ?_
          refine g_iload_n C dX12_sum_49 rfl rfl ?_
          refine g_iconst (v := -1) C dX12_sum_50 (by decide) ?_
          refine g_icmp_ne (tgt := 64) C dX12_sum_51 (by decide) hf (fun hf => ?_) (fun hf => ?_)
          · refine g_iload_n C dX12_sum_64 rfl rfl ?_
            refine g_bipush (v := 23) C dX12_sum_65 (by decide) ?_
            refine g_icmp_le (tgt := 74) C dX12_sum_67 (by decide) hf (fun hf => ?_) (fun hf => ?_)
            · refine g_aload_n C dX12_sum_74 rfl rfl ?_
              refine g_getR (i := 17) (j := 17) C dX12_sum_75 (L91 hL (by decide) (by decide)) c11 rfl (by decide) f76 (fun _ h9 => h9) (LR91_17 hL (by decide) (by decide)) ?_
              refine g_iload_n C dX12_sum_78 rfl rfl ?_
              refine g_iald C dX12_sum_79 (L103 hL (by decide) (by decide)) ho hf (fun hf => ?_)
              obtain ⟨rfl, rfl⟩ := gs2 hf
              exact g_iret C dX12_sum_80 hr hlk
            · refine g_iconst (v := 0) C dX12_sum_70 (by decide) ?_
              refine g_goto (tgt := 80) C dX12_sum_71 (by decide) ?_
              obtain ⟨rfl, rfl⟩ := gs2 hf
              exact g_iret C dX12_sum_80 hr hlk
          · refine g_aload_n C dX12_sum_54 rfl rfl ?_
            refine g_getR (i := 17) (j := 17) C dX12_sum_55 (L91 hL (by decide) (by decide)) c11 rfl (by decide) f76 (fun _ h9 => h9) (LR91_17 hL (by decide) (by decide)) ?_
            obtain ⟨z5, hz5, hf⟩ := gbind hf ho
            refine g_callS C dX12_sum_58 (m_X12_lengthOf l X N _ _ _  (gLay.sub hL (by decide) (by decide)) _ z5 hz5) gEin0 (va_cwS 1 C.2.2.2.2.1 gX12_sum_X12_lengthOf rfl rfl rfl (by decide +kernel) ⟨Nat.le_of_ble_eq_true rfl, Nat.le_of_ble_eq_true rfl⟩) rfl rfl (Nat.le_of_ble_eq_true rfl) ⟨Nat.le_of_ble_eq_true rfl, Nat.le_of_ble_eq_true rfl⟩ ?_
            refine g_goto (tgt := 80) C dX12_sum_61 (by decide) ?_
            obtain ⟨rfl, rfl⟩ := gs2 hf
            exact g_iret C dX12_sum_80 hr hlk
        · refine g_iload C dX12_sum_40 rfl ?_
          obtain ⟨rfl, rfl⟩ := gs2 hf
          exact g_iret C dX12_sum_42 hr hlk
      · refine g_ldc C k141 dX12_sum_25 ?_
        obtain ⟨rfl, rfl⟩ := gs2 hf
        exact g_iret C dX12_sum_27 hr hlk
set_option maxRecDepth 100000 in
set_option maxHeartbeats 8000000 in
theorem m_X12_order (l : Launch) (X : gX) (N : Nat) (I : gI) (R : gR) (S : gS) (hL : gLay 91 114 R S) (a0 : Int32) (a1 : Int32) (v : Int32) (J : gI) (hf : f_X12_order N I R S a0 a1 = some (v, J)) : gM l yX12_order wsX12_order { frames := 3, cells := 0, slots := 0, locals := 75 } X gE0 [.ref (X.1 + 91), .int a0, .int a1] I R S (some (.int v)) J R S 0 0 := by
  unfold f_X12_order at hf
  refine gM_of (cc := cX12_order) (own := RX12) (maxL := 4) (ret := (some .int)) (by decide) rfl rfl (Nat.le_of_ble_eq_true rfl) ?_
  intro p e s m args below meth c C hr hlk hnm hE
  have ho : (some (v, J)) ≠ none := fun h => by cases h
  have f1 := C.2.2.2.2.1 (.fieldLink RX12 1 "TimesByPowersModel" "thrown" "I") (by decide +kernel)
  have c11 : gCl wsX12_order 11 RX12 TX12 29 := ⟨by decide, rfl, rfl, by decide +kernel⟩
  have k141 := C.2.2.2.2.1 (.constant RX12 141 (-1000001)) (by decide +kernel)
  refine g_aload_n C dX12_order_0 rfl rfl ?_
  refine g_iconst (v := 0) C dX12_order_1 (by decide) ?_
  refine g_putI (i := 0) (j := 0) C dX12_order_2 (L91 hL (by decide) (by decide)) c11 gy11 rfl f1 (fun _ h9 => h9) (Or.inl rfl) rfl ?_
  refine g_iload_n C dX12_order_5 rfl rfl ?_
  obtain ⟨z1, hz1, hf⟩ := gbind hf ho
  refine g_callS C dX12_order_6 (m_X12_isPlace l X N _ _ _  (gLay.sub hL (by decide) (by decide)) _ z1 hz1) gEin0 (va_cwS 1 C.2.2.2.2.1 gX12_order_X12_isPlace rfl rfl rfl (by decide +kernel) ⟨Nat.le_of_ble_eq_true rfl, Nat.le_of_ble_eq_true rfl⟩) rfl rfl (Nat.le_of_ble_eq_true rfl) ⟨Nat.le_of_ble_eq_true rfl, Nat.le_of_ble_eq_true rfl⟩ ?_
  refine g_if_eq (tgt := 20) C dX12_order_9 (by decide) hf (fun hf => ?_) (fun hf => ?_)
  · refine g_ldc C k141 dX12_order_20 ?_
    obtain ⟨rfl, rfl⟩ := gs2 hf
    exact g_iret C dX12_order_22 hr hlk
  · refine g_aload_n C dX12_order_12 rfl rfl ?_
    refine g_iload_n C dX12_order_13 rfl rfl ?_
    obtain ⟨z2, hz2, hf⟩ := gbind hf ho
    refine g_callV C dX12_order_14 (m_X12_isElement l X N _ _ _  (gLay.sub hL (by decide) (by decide)) _ z2 hz2) gEin0 (cwV 1 C.2.2.2.2.1 gX12_order_X12_isElement rfl rfl rfl (by decide +kernel) ⟨Nat.le_of_ble_eq_true rfl, Nat.le_of_ble_eq_true rfl⟩) (L91 hL (by decide) (by decide)) (by decide) rfl rfl rfl (Nat.le_of_ble_eq_true rfl) ⟨Nat.le_of_ble_eq_true rfl, Nat.le_of_ble_eq_true rfl⟩ ?_
    refine g_if_ne (tgt := 23) C dX12_order_17 (by decide) hf (fun hf => ?_) (fun hf => ?_)
    · refine g_aload_n C dX12_order_23 rfl rfl ?_
      refine g_iload_n C dX12_order_24 rfl rfl ?_
      obtain ⟨z3, hz3, hf⟩ := gbind hf ho
      refine g_callV C dX12_order_25 (m_X12_look l X N _ _ _  (gLay.sub hL (by decide) (by decide)) _ z3.1 z3.2 hz3) gEin0 (cwV 1 C.2.2.2.2.1 gX12_order_X12_look rfl rfl rfl (by decide +kernel) ⟨Nat.le_of_ble_eq_true rfl, Nat.le_of_ble_eq_true rfl⟩) (L91 hL (by decide) (by decide)) (by decide) rfl rfl rfl (Nat.le_of_ble_eq_true rfl) ⟨Nat.le_of_ble_eq_true rfl, Nat.le_of_ble_eq_true rfl⟩ ?_
      refine g_istore_n C dX12_order_28 rfl (Nat.le_of_ble_eq_true rfl) rfl rfl ?_
      refine g_iload_n C dX12_order_29 rfl rfl ?_
      refine g_if_ge (tgt := 35) C dX12_order_30 (by decide) hf (fun hf => ?_) (fun hf => ?_)
      · refine g_aload_n C dX12_order_35 rfl rfl ?_
        refine g_iload_n C dX12_order_36 rfl rfl ?_
        refine g_iconst (v := 0) C dX12_order_37 (by decide) ?_
        refine g_iload_n C dX12_order_38 rfl rfl ?_
        obtain ⟨z4, hz4, hf⟩ := gbind hf ho
        refine g_callV C dX12_order_39 (m_X12_goOn l X N _ _ _  (gLay.sub hL (by decide) (by decide)) _ _ _ z4 hz4) gEin0 (cwV 3 C.2.2.2.2.1 gX12_order_X12_goOn rfl rfl rfl (by decide +kernel) ⟨Nat.le_of_ble_eq_true rfl, Nat.le_of_ble_eq_true rfl⟩) (L91 hL (by decide) (by decide)) (by decide) rfl rfl rfl (Nat.le_of_ble_eq_true rfl) ⟨Nat.le_of_ble_eq_true rfl, Nat.le_of_ble_eq_true rfl⟩ ?_
        refine g_aload_n C dX12_order_42 rfl rfl ?_
        refine g_iconst (v := 1) C dX12_order_43 (by decide) ?_
        obtain ⟨z5, hz5, hf⟩ := gbind hf ho
        refine g_callV C dX12_order_44 (m_X12_leastOf l X N _ _ _  (gLay.sub hL (by decide) (by decide)) _ z5.1 z5.2 hz5) gEin0 (cwV 1 C.2.2.2.2.1 gX12_order_X12_leastOf rfl rfl rfl (by decide +kernel) ⟨Nat.le_of_ble_eq_true rfl, Nat.le_of_ble_eq_true rfl⟩) (L91 hL (by decide) (by decide)) (by decide) rfl rfl rfl (Nat.le_of_ble_eq_true rfl) ⟨Nat.le_of_ble_eq_true rfl, Nat.le_of_ble_eq_true rfl⟩ ?_
        obtain ⟨rfl, rfl⟩ := gs2 hf
        exact g_iret C dX12_order_47 hr hlk
      · refine g_iload_n C dX12_order_33 rfl rfl ?_
        obtain ⟨rfl, rfl⟩ := gs2 hf
        exact g_iret C dX12_order_34 hr hlk
    · refine g_ldc C k141 dX12_order_20 ?_
      obtain ⟨rfl, rfl⟩ := gs2 hf
      exact g_iret C dX12_order_22 hr hlk
set_option maxRecDepth 100000 in
set_option maxHeartbeats 8000000 in
theorem m_X12_kernel (l : Launch) (X : gX) (N : Nat) (I : gI) (R : gR) (S : gS) (hL : gLay 91 114 R S) (a0 : Int32) (a1 : Int32) (a2 : Int32) (v : Int32) (J : gI) (hf : f_X12_kernel N I R S a0 a1 a2 = some (v, J)) : gM l yX12_kernel wsX12_kernel { frames := 3, cells := 0, slots := 0, locals := 73 } X gE0 [.ref (X.1 + 91), .int a0, .int a1, .int a2] I R S (some (.int v)) J R S 0 0 := by
  unfold f_X12_kernel at hf
  refine gM_of (cc := cX12_kernel) (own := RX12) (maxL := 7) (ret := (some .int)) (by decide) rfl rfl (Nat.le_of_ble_eq_true rfl) ?_
  intro p e s m args below meth c C hr hlk hnm hE
  have ho : (some (v, J)) ≠ none := fun h => by cases h
  have f1 := C.2.2.2.2.1 (.fieldLink RX12 1 "TimesByPowersModel" "thrown" "I") (by decide +kernel)
  have c11 : gCl wsX12_kernel 11 RX12 TX12 29 := ⟨by decide, rfl, rfl, by decide +kernel⟩
  have k141 := C.2.2.2.2.1 (.constant RX12 141 (-1000001)) (by decide +kernel)
  have f109 := C.2.2.2.2.1 (.fieldLink RX12 109 "TimesByPowersModel" "q" "I") (by decide +kernel)
  have f76 := C.2.2.2.2.1 (.fieldLink RX12 76 "TimesByPowersModel" "made" "[I") (by decide +kernel)
  have k142 := C.2.2.2.2.1 (.constant RX12 142 (-1000000)) (by decide +kernel)
  refine g_aload_n C dX12_kernel_0 rfl rfl ?_
  refine g_iconst (v := 0) C dX12_kernel_1 (by decide) ?_
  refine g_putI (i := 0) (j := 0) C dX12_kernel_2 (L91 hL (by decide) (by decide)) c11 gy11 rfl f1 (fun _ h9 => h9) (Or.inl rfl) rfl ?_
  refine g_iload_n C dX12_kernel_5 rfl rfl ?_
  obtain ⟨z1, hz1, hf⟩ := gbind hf ho
  refine g_callS C dX12_kernel_6 (m_X12_isPlace l X N _ _ _  (gLay.sub hL (by decide) (by decide)) _ z1 hz1) gEin0 (va_cwS 1 C.2.2.2.2.1 gX12_kernel_X12_isPlace rfl rfl rfl (by decide +kernel) ⟨Nat.le_of_ble_eq_true rfl, Nat.le_of_ble_eq_true rfl⟩) rfl rfl (Nat.le_of_ble_eq_true rfl) ⟨Nat.le_of_ble_eq_true rfl, Nat.le_of_ble_eq_true rfl⟩ ?_
  refine g_if_eq (tgt := 20) C dX12_kernel_9 (by decide) hf (fun hf => ?_) (fun hf => ?_)
  · refine g_ldc C k141 dX12_kernel_20 ?_
    obtain ⟨rfl, rfl⟩ := gs2 hf
    exact g_iret C dX12_kernel_22 hr hlk
  · refine g_aload_n C dX12_kernel_12 rfl rfl ?_
    refine g_iload_n C dX12_kernel_13 rfl rfl ?_
    obtain ⟨z2, hz2, hf⟩ := gbind hf ho
    refine g_callV C dX12_kernel_14 (m_X12_isPolynomial l X N _ _ _  (gLay.sub hL (by decide) (by decide)) _ z2 hz2) gEin0 (cwV 1 C.2.2.2.2.1 gX12_kernel_X12_isPolynomial rfl rfl rfl (by decide +kernel) ⟨Nat.le_of_ble_eq_true rfl, Nat.le_of_ble_eq_true rfl⟩) (L91 hL (by decide) (by decide)) (by decide) rfl rfl rfl (Nat.le_of_ble_eq_true rfl) ⟨Nat.le_of_ble_eq_true rfl, Nat.le_of_ble_eq_true rfl⟩ ?_
    refine g_if_ne (tgt := 23) C dX12_kernel_17 (by decide) hf (fun hf => ?_) (fun hf => ?_)
    · refine g_aload_n C dX12_kernel_23 rfl rfl ?_
      refine g_iload_n C dX12_kernel_24 rfl rfl ?_
      obtain ⟨z3, hz3, hf⟩ := gbind hf ho
      refine g_callV C dX12_kernel_25 (m_X12_look l X N _ _ _  (gLay.sub hL (by decide) (by decide)) _ z3.1 z3.2 hz3) gEin0 (cwV 1 C.2.2.2.2.1 gX12_kernel_X12_look rfl rfl rfl (by decide +kernel) ⟨Nat.le_of_ble_eq_true rfl, Nat.le_of_ble_eq_true rfl⟩) (L91 hL (by decide) (by decide)) (by decide) rfl rfl rfl (Nat.le_of_ble_eq_true rfl) ⟨Nat.le_of_ble_eq_true rfl, Nat.le_of_ble_eq_true rfl⟩ ?_
      refine g_istore C dX12_kernel_28 (Nat.le_of_ble_eq_true rfl) rfl rfl ?_
      refine g_iload C dX12_kernel_30 rfl ?_
      refine g_if_ge (tgt := 38) C dX12_kernel_32 (by decide) hf (fun hf => ?_) (fun hf => ?_)
      · refine g_aload_n C dX12_kernel_38 rfl rfl ?_
        refine g_iload_n C dX12_kernel_39 rfl rfl ?_
        refine g_iload_n C dX12_kernel_40 rfl rfl ?_
        obtain ⟨z4, hz4, hf⟩ := gbind hf ho
        refine g_callV C dX12_kernel_41 (m_X12_act l X N _ _ _  (gLay.sub hL (by decide) (by decide)) _ _ z4 hz4) gEin0 (cwV 2 C.2.2.2.2.1 gX12_kernel_X12_act rfl rfl rfl (by decide +kernel) ⟨Nat.le_of_ble_eq_true rfl, Nat.le_of_ble_eq_true rfl⟩) (L91 hL (by decide) (by decide)) (by decide) rfl rfl rfl (Nat.le_of_ble_eq_true rfl) ⟨Nat.le_of_ble_eq_true rfl, Nat.le_of_ble_eq_true rfl⟩ ?_
        refine g_iconst (v := 0) C dX12_kernel_44 (by decide) ?_
        refine g_istore C dX12_kernel_45 (Nat.le_of_ble_eq_true rfl) rfl rfl ?_
        refine g_iconst (v := 0) C dX12_kernel_47 (by decide) ?_
        refine g_istore C dX12_kernel_48 (Nat.le_of_ble_eq_true rfl) rfl rfl ?_
        refine g_loopR (fun z5 => [(0, .ref (X.1 + 91)), (3, .int a2), (5, .int z5.1), (6, .int z5.2)]) (fun z5 => z4) (fun r6 => [(3, .int a2), (5, .int r6)]) (fun r6 => z4) 90 hf ho (And.intro rfl (And.intro rfl (And.intro rfl (And.intro rfl trivial)))) rfl (fun r6 hf => ?_) (fun z5 o1 hf ho hkz5 hez5 hrz5 => ?_)
        · refine g_iload_n C dX12_kernel_90 rfl rfl ?_
          refine g_ldc C k142 dX12_kernel_91 ?_
          refine g_icmp_ne (tgt := 101) C dX12_kernel_93 (by decide) hf (fun hf => ?_) (fun hf => ?_)
          · refine g_ldc C k142 dX12_kernel_101 ?_
            obtain ⟨rfl, rfl⟩ := gs2 hf
            exact g_iret C dX12_kernel_103 hr hlk
          · refine g_iload C dX12_kernel_96 rfl ?_
            refine g_goto (tgt := 103) C dX12_kernel_98 (by decide) ?_
            obtain ⟨rfl, rfl⟩ := gs2 hf
            exact g_iret C dX12_kernel_103 hr hlk
        · refine g_iload C dX12_kernel_50 rfl ?_
          refine g_aload_n C dX12_kernel_52 rfl rfl ?_
          refine g_getI (i := 4) (j := 4) C dX12_kernel_53 (L91 hL (by decide) (by decide)) c11 rfl f109 (fun _ h9 => h9) ?_
          refine g_icmp_ge (tgt := 90) C dX12_kernel_56 (by decide) hf (fun hf => ?_) (fun hf => ?_)
          · have hx := hez5 _ hf.symm
            refine g_sub ?_ hx
            exact (And.intro rfl (And.intro rfl trivial))
          · refine g_aload_n C dX12_kernel_59 rfl rfl ?_
            refine g_aload_n C dX12_kernel_60 rfl rfl ?_
            refine g_getR (i := 17) (j := 17) C dX12_kernel_61 (L91 hL (by decide) (by decide)) c11 rfl (by decide) f76 (fun _ h9 => h9) (LR91_17 hL (by decide) (by decide)) ?_
            refine g_iload C dX12_kernel_64 rfl ?_
            obtain ⟨z7, hz7, hf⟩ := gbind hf ho
            refine g_callV C dX12_kernel_66 (m_X12_done l X N _ _ _  (gLay.sub hL (by decide) (by decide)) _ _ z7 hz7) gEin0 (cwV 2 C.2.2.2.2.1 gX12_kernel_X12_done rfl rfl rfl (by decide +kernel) ⟨Nat.le_of_ble_eq_true rfl, Nat.le_of_ble_eq_true rfl⟩) (L91 hL (by decide) (by decide)) (by decide) rfl rfl rfl (Nat.le_of_ble_eq_true rfl) ⟨Nat.le_of_ble_eq_true rfl, Nat.le_of_ble_eq_true rfl⟩ ?_
            refine g_if_ne (tgt := 84) C dX12_kernel_69 (by decide) hf (fun hf => ?_) (fun hf => ?_)
            · refine g_iinc (d := 1) C dX12_kernel_84 rfl (by decide) rfl (Nat.le_of_ble_eq_true rfl) rfl rfl ?_
              refine g_goto (tgt := 50) C dX12_kernel_87 (by decide) ?_
              have hx := hkz5 _ hf.symm
              refine g_sub ?_ hx
              exact (And.intro rfl (And.intro rfl (And.intro rfl (And.intro rfl trivial))))
            · refine g_iload C dX12_kernel_72 rfl ?_
              refine g_iload_n C dX12_kernel_74 rfl rfl ?_
              refine g_icmp_ne (tgt := 81) C dX12_kernel_75 (by decide) hf (fun hf => ?_) (fun hf => ?_)
              · refine g_iinc (d := 1) C dX12_kernel_81 rfl (by decide) rfl (Nat.le_of_ble_eq_true rfl) rfl rfl ?_
                refine g_iinc (d := 1) C dX12_kernel_84 rfl (by decide) rfl (Nat.le_of_ble_eq_true rfl) rfl rfl ?_
                refine g_goto (tgt := 50) C dX12_kernel_87 (by decide) ?_
                have hx := hkz5 _ hf.symm
                refine g_sub ?_ hx
                exact (And.intro rfl (And.intro rfl (And.intro rfl (And.intro rfl trivial))))
              · refine g_iload C dX12_kernel_78 rfl ?_
                replace hf := hrz5 _ hf.symm
                dsimp only [Sum.elim_inr] at hf
                obtain ⟨rfl, rfl⟩ := gs2 hf
                exact g_iret C dX12_kernel_80 hr hlk
      · refine g_iload C dX12_kernel_35 rfl ?_
        obtain ⟨rfl, rfl⟩ := gs2 hf
        exact g_iret C dX12_kernel_37 hr hlk
    · refine g_ldc C k141 dX12_kernel_20 ?_
      obtain ⟨rfl, rfl⟩ := gs2 hf
      exact g_iret C dX12_kernel_22 hr hlk
set_option maxRecDepth 100000 in
set_option maxHeartbeats 8000000 in
theorem m_X12_divide (l : Launch) (X : gX) (N : Nat) (I : gI) (R : gR) (S : gS) (hL : gLay 91 114 R S) (a0 : Int32) (J : gI) (hf : f_X12_divide N I R S a0 = some J) : gM l yX12_divide wsX12_divide { frames := 2, cells := 0, slots := 0, locals := 48 } X gE0 [.ref (X.1 + 91), .int a0] I R S none J R S 0 0 := by
  unfold f_X12_divide at hf
  refine gM_of (cc := cX12_divide) (own := RX12) (maxL := 5) (ret := none) (by decide) rfl rfl (Nat.le_of_ble_eq_true rfl) ?_
  intro p e s m args below meth c C hr hlk hnm hE
  have ho : (some J) ≠ none := fun h => by cases h
  have f82 := C.2.2.2.2.1 (.fieldLink RX12 82 "TimesByPowersModel" "own" "[I") (by decide +kernel)
  have c11 : gCl wsX12_divide 11 RX12 TX12 29 := ⟨by decide, rfl, rfl, by decide +kernel⟩
  have f76 := C.2.2.2.2.1 (.fieldLink RX12 76 "TimesByPowersModel" "made" "[I") (by decide +kernel)
  have f91 := C.2.2.2.2.1 (.fieldLink RX12 91 "TimesByPowersModel" "u" "[I") (by decide +kernel)
  refine g_iconst (v := 0) C dX12_divide_0 (by decide) ?_
  refine g_istore_n C dX12_divide_1 rfl (Nat.le_of_ble_eq_true rfl) rfl rfl ?_
  refine g_loop (fun z1 => [(0, .ref (X.1 + 91)), (1, .int a0), (2, .int z1.1)]) (fun z1 => z1.2) (fun r2 => [(0, .ref (X.1 + 91)), (1, .int a0)]) (fun r2 => r2) 21 hf ho (And.intro rfl (And.intro rfl (And.intro rfl trivial))) rfl (fun r2 hf => ?_) (fun z1 o1 hf ho hkz1 hez1 => ?_)
  · refine g_bipush (v := 23) C dX12_divide_21 (by decide) ?_
    refine g_istore_n C dX12_divide_23 rfl (Nat.le_of_ble_eq_true rfl) rfl rfl ?_
    refine g_loop (fun z3 => [(0, .ref (X.1 + 91)), (1, .int a0), (2, .int z3.1)]) (fun z3 => z3.2) (fun r4 => []) (fun r4 => r4) 149 hf ho (And.intro rfl (And.intro rfl (And.intro rfl trivial))) rfl (fun r4 hf => ?_) (fun z3 o1 hf ho hkz3 hez3 => ?_)
    · obtain rfl := gs1 hf
      exact g_vret C dX12_divide_149 hr hlk
    · refine g_iload_n C dX12_divide_24 rfl rfl ?_
      refine g_iload_n C dX12_divide_25 rfl rfl ?_
      refine g_icmp_lt (tgt := 149) C dX12_divide_26 (by decide) hf (fun hf => ?_) (fun hf => ?_)
      · have hx := hez3 _ hf.symm
        refine g_sub ?_ hx
        exact trivial
      · refine g_aload_n C dX12_divide_29 rfl rfl ?_
        refine g_getR (i := 17) (j := 17) C dX12_divide_30 (L91 hL (by decide) (by decide)) c11 rfl (by decide) f76 (fun _ h9 => h9) (LR91_17 hL (by decide) (by decide)) ?_
        refine g_iload_n C dX12_divide_33 rfl rfl ?_
        refine g_iald C dX12_divide_34 (L103 hL (by decide) (by decide)) ho hf (fun hf => ?_)
        refine g_join (fun z5 => [(0, .ref (X.1 + 91)), (1, .int a0), (2, .int z3.1)]) (fun z5 => [.int z5]) (fun z5 => z3.2) 69 hf ho (fun z5 hf => ?_) (fun o1 hf ho hkz5 => ?_)
        · refine g_istore_n C dX12_divide_69 rfl (Nat.le_of_ble_eq_true rfl) rfl rfl ?_
          refine g_aload_n C dX12_divide_70 rfl rfl ?_
          refine g_getR (i := 19) (j := 19) C dX12_divide_71 (L91 hL (by decide) (by decide)) c11 rfl (by decide) f82 (fun _ h9 => h9) (LR91_19 hL (by decide) (by decide)) ?_
          refine g_iload_n C dX12_divide_74 rfl rfl ?_
          refine g_iload_n C dX12_divide_75 rfl rfl ?_
          refine g_isub C dX12_divide_76 ?_
          refine g_iload_n C dX12_divide_77 rfl rfl ?_
          refine g_iast C dX12_divide_78 (L105 hL (by decide) (by decide)) ho hf (fun hf => ?_)
          refine g_iconst (v := 0) C dX12_divide_79 (by decide) ?_
          refine g_istore C dX12_divide_80 (Nat.le_of_ble_eq_true rfl) rfl rfl ?_
          refine g_loop (fun z9 => [(0, .ref (X.1 + 91)), (1, .int a0), (2, .int z3.1), (3, .int z5), (4, .int z9.1)]) (fun z9 => z9.2) (fun r10 => [(0, .ref (X.1 + 91)), (1, .int a0), (2, .int z3.1)]) (fun r10 => r10) 143 hf ho (And.intro rfl (And.intro rfl (And.intro rfl (And.intro rfl (And.intro rfl trivial))))) rfl (fun r10 hf => ?_) (fun z9 o1 hf ho hkz9 hez9 => ?_)
          · refine g_iinc (d := -1) C dX12_divide_143 rfl (by decide) rfl (Nat.le_of_ble_eq_true rfl) rfl rfl ?_
            refine g_goto (tgt := 24) C dX12_divide_146 (by decide) ?_
            have hx := hkz3 _ hf.symm
            refine g_sub ?_ hx
            exact (And.intro rfl (And.intro rfl (And.intro rfl trivial)))
          · refine g_iload C dX12_divide_82 rfl ?_
            refine g_iload_n C dX12_divide_84 rfl rfl ?_
            refine g_icmp_gt (tgt := 143) C dX12_divide_85 (by decide) hf (fun hf => ?_) (fun hf => ?_)
            · have hx := hez9 _ hf.symm
              refine g_sub ?_ hx
              exact (And.intro rfl (And.intro rfl (And.intro rfl trivial)))
            · refine g_iload_n C dX12_divide_88 rfl rfl ?_
              refine g_if_eq (tgt := 143) C dX12_divide_89 (by decide) hf (fun hf => ?_) (fun hf => ?_)
              · have hx := hez9 _ hf.symm
                refine g_sub ?_ hx
                exact (And.intro rfl (And.intro rfl (And.intro rfl trivial)))
              · refine g_aload_n C dX12_divide_92 rfl rfl ?_
                refine g_getR (i := 17) (j := 17) C dX12_divide_93 (L91 hL (by decide) (by decide)) c11 rfl (by decide) f76 (fun _ h9 => h9) (LR91_17 hL (by decide) (by decide)) ?_
                refine g_iload_n C dX12_divide_96 rfl rfl ?_
                refine g_iload_n C dX12_divide_97 rfl rfl ?_
                refine g_isub C dX12_divide_98 ?_
                refine g_iload C dX12_divide_99 rfl ?_
                refine g_iadd C dX12_divide_101 ?_
                refine g_aload_n C dX12_divide_102 rfl rfl ?_
                refine g_aload_n C dX12_divide_103 rfl rfl ?_
                refine g_getR (i := 17) (j := 17) C dX12_divide_104 (L91 hL (by decide) (by decide)) c11 rfl (by decide) f76 (fun _ h9 => h9) (LR91_17 hL (by decide) (by decide)) ?_
                refine g_iload_n C dX12_divide_107 rfl rfl ?_
                refine g_iload_n C dX12_divide_108 rfl rfl ?_
                refine g_isub C dX12_divide_109 ?_
                refine g_iload C dX12_divide_110 rfl ?_
                refine g_iadd C dX12_divide_112 ?_
                refine g_iald C dX12_divide_113 (L103 hL (by decide) (by decide)) ho hf (fun hf => ?_)
                refine g_aload_n C dX12_divide_114 rfl rfl ?_
                refine g_iload_n C dX12_divide_115 rfl rfl ?_
                refine g_aload_n C dX12_divide_116 rfl rfl ?_
                refine g_aload_n C dX12_divide_117 rfl rfl ?_
                refine g_getR (i := 22) (j := 22) C dX12_divide_118 (L91 hL (by decide) (by decide)) c11 rfl (by decide) f91 (fun _ h9 => h9) (LR91_22 hL (by decide) (by decide)) ?_
                refine g_iload C dX12_divide_121 rfl ?_
                refine g_iald C dX12_divide_123 (L108 hL (by decide) (by decide)) ho hf (fun hf => ?_)
                refine g_iload_n C dX12_divide_124 rfl rfl ?_
                refine g_iload_n C dX12_divide_125 rfl rfl ?_
                refine g_isub C dX12_divide_126 ?_
                obtain ⟨z11, hz11, hf⟩ := gbind hf ho
                refine g_callV C dX12_divide_127 (m_X12_far l X N _ _ _  (gLay.sub hL (by decide) (by decide)) _ _ z11 hz11) gEin0 (cwV 2 C.2.2.2.2.1 gX12_divide_X12_far rfl rfl rfl (by decide +kernel) ⟨Nat.le_of_ble_eq_true rfl, Nat.le_of_ble_eq_true rfl⟩) (L91 hL (by decide) (by decide)) (by decide) rfl rfl rfl (Nat.le_of_ble_eq_true rfl) ⟨Nat.le_of_ble_eq_true rfl, Nat.le_of_ble_eq_true rfl⟩ ?_
                obtain ⟨z12, hz12, hf⟩ := gbind hf ho
                refine g_callV C dX12_divide_130 (m_X12_times l X N _ _ _  (gLay.sub hL (by decide) (by decide)) _ _ z12 hz12) gEin0 (cwV 2 C.2.2.2.2.1 gX12_divide_X12_times rfl rfl rfl (by decide +kernel) ⟨Nat.le_of_ble_eq_true rfl, Nat.le_of_ble_eq_true rfl⟩) (L91 hL (by decide) (by decide)) (by decide) rfl rfl rfl (Nat.le_of_ble_eq_true rfl) ⟨Nat.le_of_ble_eq_true rfl, Nat.le_of_ble_eq_true rfl⟩ ?_
                obtain ⟨z13, hz13, hf⟩ := gbind hf ho
                refine g_callV C dX12_divide_133 (m_X12_less l X N _ _ _  (gLay.sub hL (by decide) (by decide)) _ _ z13 hz13) gEin0 (cwV 2 C.2.2.2.2.1 gX12_divide_X12_less rfl rfl rfl (by decide +kernel) ⟨Nat.le_of_ble_eq_true rfl, Nat.le_of_ble_eq_true rfl⟩) (L91 hL (by decide) (by decide)) (by decide) rfl rfl rfl (Nat.le_of_ble_eq_true rfl) ⟨Nat.le_of_ble_eq_true rfl, Nat.le_of_ble_eq_true rfl⟩ ?_
                refine g_iast C dX12_divide_136 (L103 hL (by decide) (by decide)) ho hf (fun hf => ?_)
                refine g_iinc (d := 1) C dX12_divide_137 rfl (by decide) rfl (Nat.le_of_ble_eq_true rfl) rfl rfl ?_
                refine g_goto (tgt := 82) C dX12_divide_140 (by decide) ?_
                have hx := hkz9 _ hf.symm
                refine g_sub ?_ hx
                exact (And.intro rfl (And.intro rfl (And.intro rfl (And.intro rfl (And.intro rfl trivial)))))
        · refine g_if_ne (tgt := 42) C dX12_divide_35 (by decide) hf (fun hf => ?_) (fun hf => ?_)
          · refine g_aload_n C dX12_divide_42 rfl rfl ?_
            refine g_aload_n C dX12_divide_43 rfl rfl ?_
            refine g_getR (i := 17) (j := 17) C dX12_divide_44 (L91 hL (by decide) (by decide)) c11 rfl (by decide) f76 (fun _ h9 => h9) (LR91_17 hL (by decide) (by decide)) ?_
            refine g_iload_n C dX12_divide_47 rfl rfl ?_
            refine g_iald C dX12_divide_48 (L103 hL (by decide) (by decide)) ho hf (fun hf => ?_)
            refine g_aload_n C dX12_divide_49 rfl rfl ?_
            refine g_aload_n C dX12_divide_50 rfl rfl ?_
            refine g_aload_n C dX12_divide_51 rfl rfl ?_
            refine g_getR (i := 22) (j := 22) C dX12_divide_52 (L91 hL (by decide) (by decide)) c11 rfl (by decide) f91 (fun _ h9 => h9) (LR91_22 hL (by decide) (by decide)) ?_
            refine g_iload_n C dX12_divide_55 rfl rfl ?_
            refine g_iald C dX12_divide_56 (L108 hL (by decide) (by decide)) ho hf (fun hf => ?_)
            refine g_iload_n C dX12_divide_57 rfl rfl ?_
            refine g_iload_n C dX12_divide_58 rfl rfl ?_
            refine g_isub C dX12_divide_59 ?_
            obtain ⟨z6, hz6, hf⟩ := gbind hf ho
            refine g_callV C dX12_divide_60 (m_X12_far l X N _ _ _  (gLay.sub hL (by decide) (by decide)) _ _ z6 hz6) gEin0 (cwV 2 C.2.2.2.2.1 gX12_divide_X12_far rfl rfl rfl (by decide +kernel) ⟨Nat.le_of_ble_eq_true rfl, Nat.le_of_ble_eq_true rfl⟩) (L91 hL (by decide) (by decide)) (by decide) rfl rfl rfl (Nat.le_of_ble_eq_true rfl) ⟨Nat.le_of_ble_eq_true rfl, Nat.le_of_ble_eq_true rfl⟩ ?_
            obtain ⟨z7, hz7, hf⟩ := gbind hf ho
            refine g_callV C dX12_divide_63 (m_X12_inverse l X N _ _ _  (gLay.sub hL (by decide) (by decide)) _ z7 hz7) gEin0 (cwV 1 C.2.2.2.2.1 gX12_divide_X12_inverse rfl rfl rfl (by decide +kernel) ⟨Nat.le_of_ble_eq_true rfl, Nat.le_of_ble_eq_true rfl⟩) (L91 hL (by decide) (by decide)) (by decide) rfl rfl rfl (Nat.le_of_ble_eq_true rfl) ⟨Nat.le_of_ble_eq_true rfl, Nat.le_of_ble_eq_true rfl⟩ ?_
            obtain ⟨z8, hz8, hf⟩ := gbind hf ho
            refine g_callV C dX12_divide_66 (m_X12_times l X N _ _ _  (gLay.sub hL (by decide) (by decide)) _ _ z8 hz8) gEin0 (cwV 2 C.2.2.2.2.1 gX12_divide_X12_times rfl rfl rfl (by decide +kernel) ⟨Nat.le_of_ble_eq_true rfl, Nat.le_of_ble_eq_true rfl⟩) (L91 hL (by decide) (by decide)) (by decide) rfl rfl rfl (Nat.le_of_ble_eq_true rfl) ⟨Nat.le_of_ble_eq_true rfl, Nat.le_of_ble_eq_true rfl⟩ ?_
            have hx := hkz5 _ hf.symm
            refine g_sub ?_ hx
            exact (And.intro rfl (And.intro rfl (And.intro rfl trivial)))
          · refine g_iconst (v := 0) C dX12_divide_38 (by decide) ?_
            refine g_goto (tgt := 69) C dX12_divide_39 (by decide) ?_
            have hx := hkz5 _ hf.symm
            refine g_sub ?_ hx
            exact (And.intro rfl (And.intro rfl (And.intro rfl trivial)))
  · refine g_iload_n C dX12_divide_2 rfl rfl ?_
    refine g_bipush (v := 24) C dX12_divide_3 (by decide) ?_
    refine g_icmp_ge (tgt := 21) C dX12_divide_5 (by decide) hf (fun hf => ?_) (fun hf => ?_)
    · have hx := hez1 _ hf.symm
      refine g_sub ?_ hx
      exact (And.intro rfl (And.intro rfl trivial))
    · refine g_aload_n C dX12_divide_8 rfl rfl ?_
      refine g_getR (i := 19) (j := 19) C dX12_divide_9 (L91 hL (by decide) (by decide)) c11 rfl (by decide) f82 (fun _ h9 => h9) (LR91_19 hL (by decide) (by decide)) ?_
      refine g_iload_n C dX12_divide_12 rfl rfl ?_
      refine g_iconst (v := 0) C dX12_divide_13 (by decide) ?_
      refine g_iast C dX12_divide_14 (L105 hL (by decide) (by decide)) ho hf (fun hf => ?_)
      refine g_iinc (d := 1) C dX12_divide_15 rfl (by decide) rfl (Nat.le_of_ble_eq_true rfl) rfl rfl ?_
      refine g_goto (tgt := 2) C dX12_divide_18 (by decide) ?_
      have hx := hkz1 _ hf.symm
      refine g_sub ?_ hx
      exact (And.intro rfl (And.intro rfl (And.intro rfl trivial)))
set_option maxRecDepth 100000 in
set_option maxHeartbeats 8000000 in
theorem m_X12_back (l : Launch) (X : gX) (N : Nat) (I : gI) (R : gR) (S : gS) (hL : gLay 91 114 R S) (a0 : Int32) (a1 : Int32) (a2 : Int32) (a3 : Int32) (a4 : Int32) (v : Int32) (J : gI) (hf : f_X12_back N I R S a0 a1 a2 a3 a4 = some (v, J)) : gM l yX12_back wsX12_back { frames := 3, cells := 0, slots := 0, locals := 73 } X gE0 [.ref (X.1 + 91), .int a0, .int a1, .int a2, .int a3, .int a4] I R S (some (.int v)) J R S 0 0 := by
  unfold f_X12_back at hf
  refine gM_of (cc := cX12_back) (own := RX12) (maxL := 15) (ret := (some .int)) (by decide) rfl rfl (Nat.le_of_ble_eq_true rfl) ?_
  intro p e s m args below meth c C hr hlk hnm hE
  have ho : (some (v, J)) ≠ none := fun h => by cases h
  have f1 := C.2.2.2.2.1 (.fieldLink RX12 1 "TimesByPowersModel" "thrown" "I") (by decide +kernel)
  have c11 : gCl wsX12_back 11 RX12 TX12 29 := ⟨by decide, rfl, rfl, by decide +kernel⟩
  have f7 := C.2.2.2.2.1 (.fieldLink RX12 7 "TimesByPowersModel" "status" "I") (by decide +kernel)
  have f11 := C.2.2.2.2.1 (.fieldLink RX12 11 "TimesByPowersModel" "p" "I") (by decide +kernel)
  have f103 := C.2.2.2.2.1 (.fieldLink RX12 103 "TimesByPowersModel" "rests" "[I") (by decide +kernel)
  have f76 := C.2.2.2.2.1 (.fieldLink RX12 76 "TimesByPowersModel" "made" "[I") (by decide +kernel)
  have f26 := C.2.2.2.2.1 (.fieldLink RX12 26 "TimesByPowersModel" "one" "[I") (by decide +kernel)
  have f82 := C.2.2.2.2.1 (.fieldLink RX12 82 "TimesByPowersModel" "own" "[I") (by decide +kernel)
  have k142 := C.2.2.2.2.1 (.constant RX12 142 (-1000000)) (by decide +kernel)
  have k141 := C.2.2.2.2.1 (.constant RX12 141 (-1000001)) (by decide +kernel)
  refine g_aload_n C dX12_back_0 rfl rfl ?_
  refine g_iconst (v := 0) C dX12_back_1 (by decide) ?_
  refine g_putI (i := 0) (j := 0) C dX12_back_2 (L91 hL (by decide) (by decide)) c11 gy11 rfl f1 (fun _ h9 => h9) (Or.inl rfl) rfl ?_
  refine g_iload C dX12_back_5 rfl ?_
  refine g_bipush (v := -2) C dX12_back_7 (by decide) ?_
  refine g_icmp_ge (tgt := 15) C dX12_back_9 (by decide) hf (fun hf => ?_) (fun hf => ?_)
  · refine g_aload_n C dX12_back_15 rfl rfl ?_
    refine g_iload_n C dX12_back_16 rfl rfl ?_
    refine g_iload_n C dX12_back_17 rfl rfl ?_
    refine g_iload_n C dX12_back_18 rfl rfl ?_
    refine g_iload C dX12_back_19 rfl ?_
    obtain ⟨z1, hz1, hf⟩ := gbind hf ho
    refine g_callV C dX12_back_21 (m_X12_lookMap l X N _ _ _  (gLay.sub hL (by decide) (by decide)) _ _ _ _ z1.1 z1.2 hz1) gEin0 (cwV 4 C.2.2.2.2.1 gX12_back_X12_lookMap rfl rfl rfl (by decide +kernel) ⟨Nat.le_of_ble_eq_true rfl, Nat.le_of_ble_eq_true rfl⟩) (L91 hL (by decide) (by decide)) (by decide) rfl rfl rfl (Nat.le_of_ble_eq_true rfl) ⟨Nat.le_of_ble_eq_true rfl, Nat.le_of_ble_eq_true rfl⟩ ?_
    refine g_istore C dX12_back_24 (Nat.le_of_ble_eq_true rfl) rfl rfl ?_
    refine g_iload C dX12_back_26 rfl ?_
    refine g_if_ge (tgt := 34) C dX12_back_28 (by decide) hf (fun hf => ?_) (fun hf => ?_)
    · refine g_aload_n C dX12_back_34 rfl rfl ?_
      refine g_iconst (v := 0) C dX12_back_35 (by decide) ?_
      refine g_putI (i := 1) (j := 1) C dX12_back_36 (L91 hL (by decide) (by decide)) c11 gy11 rfl f7 (fun _ h9 => h9) (Or.inl rfl) rfl ?_
      refine g_iconst (v := 0) C dX12_back_39 (by decide) ?_
      refine g_istore C dX12_back_40 (Nat.le_of_ble_eq_true rfl) rfl rfl ?_
      refine g_loop (fun z2 => [(0, .ref (X.1 + 91)), (1, .int a0), (4, .int a3), (5, .int a4), (7, .int z2.1)]) (fun z2 => z2.2) (fun r3 => [(0, .ref (X.1 + 91)), (1, .int a0), (4, .int a3), (5, .int a4)]) (fun r3 => r3) 119 hf ho (And.intro rfl (And.intro rfl (And.intro rfl (And.intro rfl (And.intro rfl trivial))))) rfl (fun r3 hf => ?_) (fun z2 o1 hf ho hkz2 hez2 => ?_)
      · refine g_iconst (v := 1) C dX12_back_119 (by decide) ?_
        refine g_istore C dX12_back_120 (Nat.le_of_ble_eq_true rfl) rfl rfl ?_
        refine g_loopR (fun z9 => [(0, .ref (X.1 + 91)), (1, .int a0), (4, .int a3), (5, .int a4), (7, .int z9.1)]) (fun z9 => z9.2) (fun r10 => []) (fun r10 => r10) 341 hf ho (And.intro rfl (And.intro rfl (And.intro rfl (And.intro rfl (And.intro rfl trivial))))) rfl (fun r10 hf => ?_) (fun z9 o1 hf ho hkz9 hez9 hrz9 => ?_)
        · refine g_ldc C k142 dX12_back_341 ?_
          obtain ⟨rfl, rfl⟩ := gs2 hf
          exact g_iret C dX12_back_343 hr hlk
        · refine g_iload C dX12_back_122 rfl ?_
          refine g_iconst (v := 5) C dX12_back_124 (by decide) ?_
          refine g_icmp_ge (tgt := 341) C dX12_back_125 (by decide) hf (fun hf => ?_) (fun hf => ?_)
          · have hx := hez9 _ hf.symm
            refine g_sub ?_ hx
            exact trivial
          · refine g_aload_n C dX12_back_128 rfl rfl ?_
            refine g_getI (i := 2) (j := 2) C dX12_back_129 (L91 hL (by decide) (by decide)) c11 rfl f11 (fun _ h9 => h9) ?_
            refine g_iload C dX12_back_132 rfl ?_
            obtain ⟨z11, hz11, hf⟩ := gbind hf ho
            refine g_callS C dX12_back_134 (m_X12_power l X N _ _ _  (gLay.sub hL (by decide) (by decide)) _ _ z11 hz11) gEin0 (va_cwS 2 C.2.2.2.2.1 gX12_back_X12_power rfl rfl rfl (by decide +kernel) ⟨Nat.le_of_ble_eq_true rfl, Nat.le_of_ble_eq_true rfl⟩) rfl rfl (Nat.le_of_ble_eq_true rfl) ⟨Nat.le_of_ble_eq_true rfl, Nat.le_of_ble_eq_true rfl⟩ ?_
            refine g_istore C dX12_back_137 (Nat.le_of_ble_eq_true rfl) rfl rfl ?_
            refine g_iconst (v := 0) C dX12_back_139 (by decide) ?_
            refine g_istore C dX12_back_140 (Nat.le_of_ble_eq_true rfl) rfl rfl ?_
            refine g_loopR (fun z12 => [(0, .ref (X.1 + 91)), (1, .int a0), (4, .int a3), (5, .int a4), (7, .int z9.1), (8, .int z11), (9, .int z12.1)]) (fun z12 => z12.2) (fun r13 => [(0, .ref (X.1 + 91)), (1, .int a0), (4, .int a3), (5, .int a4), (7, .int z9.1)]) (fun r13 => r13) 335 hf ho (And.intro rfl (And.intro rfl (And.intro rfl (And.intro rfl (And.intro rfl (And.intro rfl (And.intro rfl trivial))))))) rfl (fun r13 hf => ?_) (fun z12 o1 hf ho hkz12 hez12 hrz12 => ?_)
            · refine g_iinc (d := 1) C dX12_back_335 rfl (by decide) rfl (Nat.le_of_ble_eq_true rfl) rfl rfl ?_
              refine g_goto (tgt := 122) C dX12_back_338 (by decide) ?_
              have hx := hkz9 _ hf.symm
              refine g_sub ?_ hx
              exact (And.intro rfl (And.intro rfl (And.intro rfl (And.intro rfl (And.intro rfl trivial)))))
            · refine g_iload C dX12_back_142 rfl ?_
              refine g_iload C dX12_back_144 rfl ?_
              refine g_icmp_ge (tgt := 335) C dX12_back_146 (by decide) hf (fun hf => ?_) (fun hf => ?_)
              · have hx := hez12 _ hf.symm
                refine g_sub ?_ hx
                exact (And.intro rfl (And.intro rfl (And.intro rfl (And.intro rfl (And.intro rfl trivial)))))
              · refine g_aload_n C dX12_back_149 rfl rfl ?_
                refine g_iload C dX12_back_150 rfl ?_
                refine g_aload_n C dX12_back_152 rfl rfl ?_
                refine g_getR (i := 6) (j := 6) C dX12_back_153 (L91 hL (by decide) (by decide)) c11 rfl (by decide) f26 (fun _ h9 => h9) (LR91_6 hL (by decide) (by decide)) ?_
                obtain ⟨z14, hz14, hf⟩ := gbind hf ho
                refine g_callV C dX12_back_156 (m_X12_figures l X N _ _ _  (gLay.sub hL (by decide) (by decide)) _ _ z14.1 z14.2 hz14) gEin0 (cwV 2 C.2.2.2.2.1 gX12_back_X12_figures rfl rfl rfl (by decide +kernel) ⟨Nat.le_of_ble_eq_true rfl, Nat.le_of_ble_eq_true rfl⟩) (L91 hL (by decide) (by decide)) (by decide) rfl rfl rfl (Nat.le_of_ble_eq_true rfl) ⟨Nat.le_of_ble_eq_true rfl, Nat.le_of_ble_eq_true rfl⟩ ?_
                refine g_istore C dX12_back_159 (Nat.le_of_ble_eq_true rfl) rfl rfl ?_
                refine g_iconst (v := 1) C dX12_back_161 (by decide) ?_
                refine g_istore C dX12_back_162 (Nat.le_of_ble_eq_true rfl) rfl rfl ?_
                refine g_iconst (v := 0) C dX12_back_164 (by decide) ?_
                refine g_istore C dX12_back_165 (Nat.le_of_ble_eq_true rfl) rfl rfl ?_
                refine g_loop (fun z15 => [(0, .ref (X.1 + 91)), (1, .int a0), (4, .int a3), (5, .int a4), (7, .int z9.1), (8, .int z11), (9, .int z12.1), (11, .int z15.1), (12, .int z15.2)]) (fun z15 => z14.2) (fun r16 => [(0, .ref (X.1 + 91)), (1, .int a0), (4, .int a3), (5, .int a4), (7, .int z9.1), (8, .int z11), (9, .int z12.1), (11, .int r16)]) (fun r16 => z14.2) 258 hf ho (And.intro rfl (And.intro rfl (And.intro rfl (And.intro rfl (And.intro rfl (And.intro rfl (And.intro rfl (And.intro rfl (And.intro rfl trivial))))))))) rfl (fun r16 hf => ?_) (fun z15 o1 hf ho hkz15 hez15 => ?_)
                · refine g_iload C dX12_back_258 rfl ?_
                  refine g_if_eq (tgt := 329) C dX12_back_260 (by decide) hf (fun hf => ?_) (fun hf => ?_)
                  · refine g_iinc (d := 1) C dX12_back_329 rfl (by decide) rfl (Nat.le_of_ble_eq_true rfl) rfl rfl ?_
                    refine g_goto (tgt := 142) C dX12_back_332 (by decide) ?_
                    have hx := hkz12 _ hf.symm
                    refine g_sub ?_ hx
                    exact (And.intro rfl (And.intro rfl (And.intro rfl (And.intro rfl (And.intro rfl (And.intro rfl (And.intro rfl trivial)))))))
                  · refine g_aload_n C dX12_back_263 rfl rfl ?_
                    refine g_iload_n C dX12_back_264 rfl rfl ?_
                    refine g_iload C dX12_back_265 rfl ?_
                    refine g_iload C dX12_back_267 rfl ?_
                    refine g_iadd C dX12_back_269 ?_
                    obtain ⟨z21, hz21, hf⟩ := gbind hf ho
                    refine g_callV C dX12_back_270 (m_X12_act l X N _ _ _  (gLay.sub hL (by decide) (by decide)) _ _ z21 hz21) gEin0 (cwV 2 C.2.2.2.2.1 gX12_back_X12_act rfl rfl rfl (by decide +kernel) ⟨Nat.le_of_ble_eq_true rfl, Nat.le_of_ble_eq_true rfl⟩) (L91 hL (by decide) (by decide)) (by decide) rfl rfl rfl (Nat.le_of_ble_eq_true rfl) ⟨Nat.le_of_ble_eq_true rfl, Nat.le_of_ble_eq_true rfl⟩ ?_
                    refine g_aload_n C dX12_back_273 rfl rfl ?_
                    refine g_iload C dX12_back_274 rfl ?_
                    obtain ⟨z22, hz22, hf⟩ := gbind hf ho
                    refine g_callV C dX12_back_276 (m_X12_divide l X N _ _ _  (gLay.sub hL (by decide) (by decide)) _ z22 hz22) gEin0 (cwV 1 C.2.2.2.2.1 gX12_back_X12_divide rfl rfl rfl (by decide +kernel) ⟨Nat.le_of_ble_eq_true rfl, Nat.le_of_ble_eq_true rfl⟩) (L91 hL (by decide) (by decide)) (by decide) rfl rfl rfl (Nat.le_of_ble_eq_true rfl) ⟨Nat.le_of_ble_eq_true rfl, Nat.le_of_ble_eq_true rfl⟩ ?_
                    refine g_iload C dX12_back_279 rfl ?_
                    refine g_bipush (v := -2) C dX12_back_281 (by decide) ?_
                    refine g_icmp_ne (tgt := 294) C dX12_back_283 (by decide) hf (fun hf => ?_) (fun hf => ?_)
                    · refine g_iload C dX12_back_294 rfl ?_
                      refine g_iconst (v := -1) C dX12_back_296 (by decide) ?_
                      refine g_icmp_ne (tgt := 310) C dX12_back_297 (by decide) hf (fun hf => ?_) (fun hf => ?_)
                      · refine g_iload C dX12_back_310 rfl ?_
                        refine g_bipush (v := 23) C dX12_back_312 (by decide) ?_
                        refine g_icmp_le (tgt := 321) C dX12_back_314 (by decide) hf (fun hf => ?_) (fun hf => ?_)
                        · refine g_aload_n C dX12_back_321 rfl rfl ?_
                          refine g_getR (i := 19) (j := 19) C dX12_back_322 (L91 hL (by decide) (by decide)) c11 rfl (by decide) f82 (fun _ h9 => h9) (LR91_19 hL (by decide) (by decide)) ?_
                          refine g_iload C dX12_back_325 rfl ?_
                          refine g_iald C dX12_back_327 (L105 hL (by decide) (by decide)) ho hf (fun hf => ?_)
                          replace hf := hrz12 _ hf.symm
                          dsimp only [Sum.elim_inr] at hf
                          replace hf := hrz9 _ hf.symm
                          dsimp only [Sum.elim_inr] at hf
                          obtain ⟨rfl, rfl⟩ := gs2 hf
                          exact g_iret C dX12_back_328 hr hlk
                        · refine g_iconst (v := 0) C dX12_back_317 (by decide) ?_
                          refine g_goto (tgt := 328) C dX12_back_318 (by decide) ?_
                          replace hf := hrz12 _ hf.symm
                          dsimp only [Sum.elim_inr] at hf
                          replace hf := hrz9 _ hf.symm
                          dsimp only [Sum.elim_inr] at hf
                          obtain ⟨rfl, rfl⟩ := gs2 hf
                          exact g_iret C dX12_back_328 hr hlk
                      · refine g_aload_n C dX12_back_300 rfl rfl ?_
                        refine g_getR (i := 19) (j := 19) C dX12_back_301 (L91 hL (by decide) (by decide)) c11 rfl (by decide) f82 (fun _ h9 => h9) (LR91_19 hL (by decide) (by decide)) ?_
                        obtain ⟨z23, hz23, hf⟩ := gbind hf ho
                        refine g_callS C dX12_back_304 (m_X12_lengthOf l X N _ _ _  (gLay.sub hL (by decide) (by decide)) _ z23 hz23) gEin0 (va_cwS 1 C.2.2.2.2.1 gX12_back_X12_lengthOf rfl rfl rfl (by decide +kernel) ⟨Nat.le_of_ble_eq_true rfl, Nat.le_of_ble_eq_true rfl⟩) rfl rfl (Nat.le_of_ble_eq_true rfl) ⟨Nat.le_of_ble_eq_true rfl, Nat.le_of_ble_eq_true rfl⟩ ?_
                        refine g_goto (tgt := 328) C dX12_back_307 (by decide) ?_
                        replace hf := hrz12 _ hf.symm
                        dsimp only [Sum.elim_inr] at hf
                        replace hf := hrz9 _ hf.symm
                        dsimp only [Sum.elim_inr] at hf
                        obtain ⟨rfl, rfl⟩ := gs2 hf
                        exact g_iret C dX12_back_328 hr hlk
                    · refine g_iload C dX12_back_286 rfl ?_
                      refine g_iload C dX12_back_288 rfl ?_
                      refine g_iadd C dX12_back_290 ?_
                      refine g_goto (tgt := 328) C dX12_back_291 (by decide) ?_
                      replace hf := hrz12 _ hf.symm
                      dsimp only [Sum.elim_inr] at hf
                      replace hf := hrz9 _ hf.symm
                      dsimp only [Sum.elim_inr] at hf
                      obtain ⟨rfl, rfl⟩ := gs2 hf
                      exact g_iret C dX12_back_328 hr hlk
                · refine g_iload C dX12_back_167 rfl ?_
                  refine g_iload C dX12_back_169 rfl ?_
                  refine g_icmp_ge (tgt := 258) C dX12_back_171 (by decide) hf (fun hf => ?_) (fun hf => ?_)
                  · have hx := hez15 _ hf.symm
                    refine g_sub ?_ hx
                    exact (And.intro rfl (And.intro rfl (And.intro rfl (And.intro rfl (And.intro rfl (And.intro rfl (And.intro rfl (And.intro rfl trivial))))))))
                  · refine g_iload C dX12_back_174 rfl ?_
                    refine g_if_eq (tgt := 258) C dX12_back_176 (by decide) hf (fun hf => ?_) (fun hf => ?_)
                    · have hx := hez15 _ hf.symm
                      refine g_sub ?_ hx
                      exact (And.intro rfl (And.intro rfl (And.intro rfl (And.intro rfl (And.intro rfl (And.intro rfl (And.intro rfl (And.intro rfl trivial))))))))
                    · refine g_aload_n C dX12_back_179 rfl rfl ?_
                      refine g_getR (i := 26) (j := 26) C dX12_back_180 (L91 hL (by decide) (by decide)) c11 rfl (by decide) f103 (fun _ h9 => h9) (LR91_26 hL (by decide) (by decide)) ?_
                      refine g_iconst (v := 4) C dX12_back_183 (by decide) ?_
                      refine g_iload C dX12_back_184 rfl ?_
                      refine g_imul C dX12_back_186 ?_
                      refine g_iload C dX12_back_187 rfl ?_
                      refine g_iadd C dX12_back_189 ?_
                      refine g_iald C dX12_back_190 (L112 hL (by decide) (by decide)) ho hf (fun hf => ?_)
                      refine g_istore C dX12_back_191 (Nat.le_of_ble_eq_true rfl) rfl rfl ?_
                      refine g_iconst (v := 0) C dX12_back_193 (by decide) ?_
                      refine g_istore C dX12_back_194 (Nat.le_of_ble_eq_true rfl) rfl rfl ?_
                      refine g_loop (fun z17 => [(0, .ref (X.1 + 91)), (1, .int a0), (4, .int a3), (5, .int a4), (7, .int z9.1), (8, .int z11), (9, .int z12.1), (12, .int z15.2), (13, .int z17.1), (14, .int z17.2)]) (fun z17 => z14.2) (fun r18 => [(0, .ref (X.1 + 91)), (1, .int a0), (4, .int a3), (5, .int a4), (7, .int z9.1), (8, .int z11), (9, .int z12.1), (12, .int z15.2), (13, .int r18)]) (fun r18 => z14.2) 240 hf ho (And.intro rfl (And.intro rfl (And.intro rfl (And.intro rfl (And.intro rfl (And.intro rfl (And.intro rfl (And.intro rfl (And.intro rfl (And.intro rfl trivial)))))))))) rfl (fun r18 hf => ?_) (fun z17 o1 hf ho hkz17 hez17 => ?_)
                      · refine g_iload C dX12_back_240 rfl ?_
                        refine g_if_ne (tgt := 249) C dX12_back_242 (by decide) hf (fun hf => ?_) (fun hf => ?_)
                        · refine g_iconst (v := 0) C dX12_back_249 (by decide) ?_
                          refine g_istore C dX12_back_250 (Nat.le_of_ble_eq_true rfl) rfl rfl ?_
                          refine g_iinc (d := 1) C dX12_back_252 rfl (by decide) rfl (Nat.le_of_ble_eq_true rfl) rfl rfl ?_
                          refine g_goto (tgt := 167) C dX12_back_255 (by decide) ?_
                          have hx := hkz15 _ hf.symm
                          refine g_sub ?_ hx
                          exact (And.intro rfl (And.intro rfl (And.intro rfl (And.intro rfl (And.intro rfl (And.intro rfl (And.intro rfl (And.intro rfl (And.intro rfl trivial)))))))))
                        · refine g_iconst (v := 1) C dX12_back_245 (by decide) ?_
                          refine g_goto (tgt := 250) C dX12_back_246 (by decide) ?_
                          refine g_istore C dX12_back_250 (Nat.le_of_ble_eq_true rfl) rfl rfl ?_
                          refine g_iinc (d := 1) C dX12_back_252 rfl (by decide) rfl (Nat.le_of_ble_eq_true rfl) rfl rfl ?_
                          refine g_goto (tgt := 167) C dX12_back_255 (by decide) ?_
                          have hx := hkz15 _ hf.symm
                          refine g_sub ?_ hx
                          exact (And.intro rfl (And.intro rfl (And.intro rfl (And.intro rfl (And.intro rfl (And.intro rfl (And.intro rfl (And.intro rfl (And.intro rfl trivial)))))))))
                      · refine g_iload C dX12_back_196 rfl ?_
                        refine g_iload C dX12_back_198 rfl ?_
                        refine g_icmp_ge (tgt := 240) C dX12_back_200 (by decide) hf (fun hf => ?_) (fun hf => ?_)
                        · have hx := hez17 _ hf.symm
                          refine g_sub ?_ hx
                          exact (And.intro rfl (And.intro rfl (And.intro rfl (And.intro rfl (And.intro rfl (And.intro rfl (And.intro rfl (And.intro rfl (And.intro rfl trivial)))))))))
                        · refine g_aload_n C dX12_back_203 rfl rfl ?_
                          refine g_iload C dX12_back_204 rfl ?_
                          refine g_aload_n C dX12_back_206 rfl rfl ?_
                          refine g_aload_n C dX12_back_207 rfl rfl ?_
                          refine g_getR (i := 6) (j := 6) C dX12_back_208 (L91 hL (by decide) (by decide)) c11 rfl (by decide) f26 (fun _ h9 => h9) (LR91_6 hL (by decide) (by decide)) ?_
                          refine g_iload C dX12_back_211 rfl ?_
                          refine g_iald C dX12_back_213 (L92 hL (by decide) (by decide)) ho hf (fun hf => ?_)
                          refine g_aload_n C dX12_back_214 rfl rfl ?_
                          refine g_getR (i := 26) (j := 26) C dX12_back_215 (L91 hL (by decide) (by decide)) c11 rfl (by decide) f103 (fun _ h9 => h9) (LR91_26 hL (by decide) (by decide)) ?_
                          refine g_iconst (v := 4) C dX12_back_218 (by decide) ?_
                          refine g_iload C dX12_back_219 rfl ?_
                          refine g_imul C dX12_back_221 ?_
                          refine g_iload C dX12_back_222 rfl ?_
                          refine g_iadd C dX12_back_224 ?_
                          refine g_iald C dX12_back_225 (L112 hL (by decide) (by decide)) ho hf (fun hf => ?_)
                          obtain ⟨z19, hz19, hf⟩ := gbind hf ho
                          refine g_callV C dX12_back_226 (m_X12_times l X N _ _ _  (gLay.sub hL (by decide) (by decide)) _ _ z19 hz19) gEin0 (cwV 2 C.2.2.2.2.1 gX12_back_X12_times rfl rfl rfl (by decide +kernel) ⟨Nat.le_of_ble_eq_true rfl, Nat.le_of_ble_eq_true rfl⟩) (L91 hL (by decide) (by decide)) (by decide) rfl rfl rfl (Nat.le_of_ble_eq_true rfl) ⟨Nat.le_of_ble_eq_true rfl, Nat.le_of_ble_eq_true rfl⟩ ?_
                          obtain ⟨z20, hz20, hf⟩ := gbind hf ho
                          refine g_callV C dX12_back_229 (m_X12_add l X N _ _ _  (gLay.sub hL (by decide) (by decide)) _ _ z20 hz20) gEin0 (cwV 2 C.2.2.2.2.1 gX12_back_X12_add rfl rfl rfl (by decide +kernel) ⟨Nat.le_of_ble_eq_true rfl, Nat.le_of_ble_eq_true rfl⟩) (L91 hL (by decide) (by decide)) (by decide) rfl rfl rfl (Nat.le_of_ble_eq_true rfl) ⟨Nat.le_of_ble_eq_true rfl, Nat.le_of_ble_eq_true rfl⟩ ?_
                          refine g_istore C dX12_back_232 (Nat.le_of_ble_eq_true rfl) rfl rfl ?_
                          refine g_iinc (d := 1) C dX12_back_234 rfl (by decide) rfl (Nat.le_of_ble_eq_true rfl) rfl rfl ?_
                          refine g_goto (tgt := 196) C dX12_back_237 (by decide) ?_
                          have hx := hkz17 _ hf.symm
                          refine g_sub ?_ hx
                          exact (And.intro rfl (And.intro rfl (And.intro rfl (And.intro rfl (And.intro rfl (And.intro rfl (And.intro rfl (And.intro rfl (And.intro rfl (And.intro rfl trivial))))))))))
      · refine g_iload C dX12_back_42 rfl ?_
        refine g_iconst (v := 5) C dX12_back_44 (by decide) ?_
        refine g_icmp_ge (tgt := 119) C dX12_back_45 (by decide) hf (fun hf => ?_) (fun hf => ?_)
        · have hx := hez2 _ hf.symm
          refine g_sub ?_ hx
          exact (And.intro rfl (And.intro rfl (And.intro rfl (And.intro rfl trivial))))
        · refine g_aload_n C dX12_back_48 rfl rfl ?_
          refine g_iload_n C dX12_back_49 rfl rfl ?_
          refine g_aload_n C dX12_back_50 rfl rfl ?_
          refine g_getI (i := 2) (j := 2) C dX12_back_51 (L91 hL (by decide) (by decide)) c11 rfl f11 (fun _ h9 => h9) ?_
          refine g_iload C dX12_back_54 rfl ?_
          obtain ⟨z4, hz4, hf⟩ := gbind hf ho
          refine g_callS C dX12_back_56 (m_X12_power l X N _ _ _  (gLay.sub hL (by decide) (by decide)) _ _ z4 hz4) gEin0 (va_cwS 2 C.2.2.2.2.1 gX12_back_X12_power rfl rfl rfl (by decide +kernel) ⟨Nat.le_of_ble_eq_true rfl, Nat.le_of_ble_eq_true rfl⟩) rfl rfl (Nat.le_of_ble_eq_true rfl) ⟨Nat.le_of_ble_eq_true rfl, Nat.le_of_ble_eq_true rfl⟩ ?_
          obtain ⟨z5, hz5, hf⟩ := gbind hf ho
          refine g_callV C dX12_back_59 (m_X12_act l X N _ _ _  (gLay.sub hL (by decide) (by decide)) _ _ z5 hz5) gEin0 (cwV 2 C.2.2.2.2.1 gX12_back_X12_act rfl rfl rfl (by decide +kernel) ⟨Nat.le_of_ble_eq_true rfl, Nat.le_of_ble_eq_true rfl⟩) (L91 hL (by decide) (by decide)) (by decide) rfl rfl rfl (Nat.le_of_ble_eq_true rfl) ⟨Nat.le_of_ble_eq_true rfl, Nat.le_of_ble_eq_true rfl⟩ ?_
          refine g_aload_n C dX12_back_62 rfl rfl ?_
          refine g_iload C dX12_back_63 rfl ?_
          obtain ⟨z6, hz6, hf⟩ := gbind hf ho
          refine g_callV C dX12_back_65 (m_X12_divide l X N _ _ _  (gLay.sub hL (by decide) (by decide)) _ z6 hz6) gEin0 (cwV 1 C.2.2.2.2.1 gX12_back_X12_divide rfl rfl rfl (by decide +kernel) ⟨Nat.le_of_ble_eq_true rfl, Nat.le_of_ble_eq_true rfl⟩) (L91 hL (by decide) (by decide)) (by decide) rfl rfl rfl (Nat.le_of_ble_eq_true rfl) ⟨Nat.le_of_ble_eq_true rfl, Nat.le_of_ble_eq_true rfl⟩ ?_
          refine g_iconst (v := 0) C dX12_back_68 (by decide) ?_
          refine g_istore C dX12_back_69 (Nat.le_of_ble_eq_true rfl) rfl rfl ?_
          refine g_loop (fun z7 => [(0, .ref (X.1 + 91)), (1, .int a0), (4, .int a3), (5, .int a4), (7, .int z2.1), (8, .int z7.1)]) (fun z7 => z7.2) (fun r8 => [(0, .ref (X.1 + 91)), (1, .int a0), (4, .int a3), (5, .int a4), (7, .int z2.1)]) (fun r8 => r8) 113 hf ho (And.intro rfl (And.intro rfl (And.intro rfl (And.intro rfl (And.intro rfl (And.intro rfl trivial)))))) rfl (fun r8 hf => ?_) (fun z7 o1 hf ho hkz7 hez7 => ?_)
          · refine g_iinc (d := 1) C dX12_back_113 rfl (by decide) rfl (Nat.le_of_ble_eq_true rfl) rfl rfl ?_
            refine g_goto (tgt := 42) C dX12_back_116 (by decide) ?_
            have hx := hkz2 _ hf.symm
            refine g_sub ?_ hx
            exact (And.intro rfl (And.intro rfl (And.intro rfl (And.intro rfl (And.intro rfl trivial)))))
          · refine g_iload C dX12_back_71 rfl ?_
            refine g_iconst (v := 4) C dX12_back_73 (by decide) ?_
            refine g_icmp_ge (tgt := 113) C dX12_back_74 (by decide) hf (fun hf => ?_) (fun hf => ?_)
            · have hx := hez7 _ hf.symm
              refine g_sub ?_ hx
              exact (And.intro rfl (And.intro rfl (And.intro rfl (And.intro rfl (And.intro rfl trivial)))))
            · refine g_aload_n C dX12_back_77 rfl rfl ?_
              refine g_getR (i := 26) (j := 26) C dX12_back_78 (L91 hL (by decide) (by decide)) c11 rfl (by decide) f103 (fun _ h9 => h9) (LR91_26 hL (by decide) (by decide)) ?_
              refine g_iconst (v := 4) C dX12_back_81 (by decide) ?_
              refine g_iload C dX12_back_82 rfl ?_
              refine g_imul C dX12_back_84 ?_
              refine g_iload C dX12_back_85 rfl ?_
              refine g_iadd C dX12_back_87 ?_
              refine g_iload C dX12_back_88 rfl ?_
              refine g_iload C dX12_back_90 rfl ?_
              refine g_icmp_ge (tgt := 105) C dX12_back_92 (by decide) hf (fun hf => ?_) (fun hf => ?_)
              · refine g_iconst (v := 0) C dX12_back_105 (by decide) ?_
                refine g_iast C dX12_back_106 (L112 hL (by decide) (by decide)) ho hf (fun hf => ?_)
                refine g_iinc (d := 1) C dX12_back_107 rfl (by decide) rfl (Nat.le_of_ble_eq_true rfl) rfl rfl ?_
                refine g_goto (tgt := 71) C dX12_back_110 (by decide) ?_
                have hx := hkz7 _ hf.symm
                refine g_sub ?_ hx
                exact (And.intro rfl (And.intro rfl (And.intro rfl (And.intro rfl (And.intro rfl (And.intro rfl trivial))))))
              · refine g_aload_n C dX12_back_95 rfl rfl ?_
                refine g_getR (i := 17) (j := 17) C dX12_back_96 (L91 hL (by decide) (by decide)) c11 rfl (by decide) f76 (fun _ h9 => h9) (LR91_17 hL (by decide) (by decide)) ?_
                refine g_iload C dX12_back_99 rfl ?_
                refine g_iald C dX12_back_101 (L103 hL (by decide) (by decide)) ho hf (fun hf => ?_)
                refine g_goto (tgt := 106) C dX12_back_102 (by decide) ?_
                refine g_iast C dX12_back_106 (L112 hL (by decide) (by decide)) ho hf (fun hf => ?_)
                refine g_iinc (d := 1) C dX12_back_107 rfl (by decide) rfl (Nat.le_of_ble_eq_true rfl) rfl rfl ?_
                refine g_goto (tgt := 71) C dX12_back_110 (by decide) ?_
                have hx := hkz7 _ hf.symm
                refine g_sub ?_ hx
                exact (And.intro rfl (And.intro rfl (And.intro rfl (And.intro rfl (And.intro rfl (And.intro rfl trivial))))))
    · refine g_iload C dX12_back_31 rfl ?_
      obtain ⟨rfl, rfl⟩ := gs2 hf
      exact g_iret C dX12_back_33 hr hlk
  · refine g_ldc C k141 dX12_back_12 ?_
    obtain ⟨rfl, rfl⟩ := gs2 hf
    exact g_iret C dX12_back_14 hr hlk
set_option maxRecDepth 100000 in
set_option maxHeartbeats 8000000 in
theorem m_X12_alike (l : Launch) (X : gX) (N : Nat) (I : gI) (R : gR) (S : gS) (hL : gLay 91 114 R S) (a0 : Int32) (a1 : Int32) (v : Int32) (J : gI) (hf : f_X12_alike N I R S a0 a1 = some (v, J)) : gM l yX12_alike wsX12_alike { frames := 2, cells := 0, slots := 0, locals := 46 } X gE0 [.ref (X.1 + 91), .int a0, .int a1] I R S (some (.int v)) J R S 0 0 := by
  unfold f_X12_alike at hf
  refine gM_of (cc := cX12_alike) (own := RX12) (maxL := 6) (ret := (some .int)) (by decide) rfl rfl (Nat.le_of_ble_eq_true rfl) ?_
  intro p e s m args below meth c C hr hlk hnm hE
  have ho : (some (v, J)) ≠ none := fun h => by cases h
  have f1 := C.2.2.2.2.1 (.fieldLink RX12 1 "TimesByPowersModel" "thrown" "I") (by decide +kernel)
  have c11 : gCl wsX12_alike 11 RX12 TX12 29 := ⟨by decide, rfl, rfl, by decide +kernel⟩
  have k141 := C.2.2.2.2.1 (.constant RX12 141 (-1000001)) (by decide +kernel)
  have f7 := C.2.2.2.2.1 (.fieldLink RX12 7 "TimesByPowersModel" "status" "I") (by decide +kernel)
  have f70 := C.2.2.2.2.1 (.fieldLink RX12 70 "TimesByPowersModel" "rank" "[I") (by decide +kernel)
  have f109 := C.2.2.2.2.1 (.fieldLink RX12 109 "TimesByPowersModel" "q" "I") (by decide +kernel)
  have f73 := C.2.2.2.2.1 (.fieldLink RX12 73 "TimesByPowersModel" "t" "[I") (by decide +kernel)
  refine g_aload_n C dX12_alike_0 rfl rfl ?_
  refine g_iconst (v := 0) C dX12_alike_1 (by decide) ?_
  refine g_putI (i := 0) (j := 0) C dX12_alike_2 (L91 hL (by decide) (by decide)) c11 gy11 rfl f1 (fun _ h9 => h9) (Or.inl rfl) rfl ?_
  refine g_iload_n C dX12_alike_5 rfl rfl ?_
  obtain ⟨z1, hz1, hf⟩ := gbind hf ho
  refine g_callS C dX12_alike_6 (m_X12_isPlace l X N _ _ _  (gLay.sub hL (by decide) (by decide)) _ z1 hz1) gEin0 (va_cwS 1 C.2.2.2.2.1 gX12_alike_X12_isPlace rfl rfl rfl (by decide +kernel) ⟨Nat.le_of_ble_eq_true rfl, Nat.le_of_ble_eq_true rfl⟩) rfl rfl (Nat.le_of_ble_eq_true rfl) ⟨Nat.le_of_ble_eq_true rfl, Nat.le_of_ble_eq_true rfl⟩ ?_
  refine g_if_eq (tgt := 19) C dX12_alike_9 (by decide) hf (fun hf => ?_) (fun hf => ?_)
  · refine g_ldc C k141 dX12_alike_19 ?_
    obtain ⟨rfl, rfl⟩ := gs2 hf
    exact g_iret C dX12_alike_21 hr hlk
  · refine g_iload_n C dX12_alike_12 rfl rfl ?_
    obtain ⟨z2, hz2, hf⟩ := gbind hf ho
    refine g_callS C dX12_alike_13 (m_X12_isPlace l X N _ _ _  (gLay.sub hL (by decide) (by decide)) _ z2 hz2) gEin0 (va_cwS 1 C.2.2.2.2.1 gX12_alike_X12_isPlace rfl rfl rfl (by decide +kernel) ⟨Nat.le_of_ble_eq_true rfl, Nat.le_of_ble_eq_true rfl⟩) rfl rfl (Nat.le_of_ble_eq_true rfl) ⟨Nat.le_of_ble_eq_true rfl, Nat.le_of_ble_eq_true rfl⟩ ?_
    refine g_if_ne (tgt := 22) C dX12_alike_16 (by decide) hf (fun hf => ?_) (fun hf => ?_)
    · refine g_aload_n C dX12_alike_22 rfl rfl ?_
      refine g_iconst (v := 0) C dX12_alike_23 (by decide) ?_
      refine g_putI (i := 1) (j := 1) C dX12_alike_24 (L91 hL (by decide) (by decide)) c11 gy11 rfl f7 (fun _ h9 => h9) (Or.inl rfl) rfl ?_
      refine g_aload_n C dX12_alike_27 rfl rfl ?_
      refine g_getR (i := 15) (j := 15) C dX12_alike_28 (L91 hL (by decide) (by decide)) c11 rfl (by decide) f70 (fun _ h9 => h9) (LR91_15 hL (by decide) (by decide)) ?_
      refine g_iload_n C dX12_alike_31 rfl rfl ?_
      refine g_iald C dX12_alike_32 (L101 hL (by decide) (by decide)) ho hf (fun hf => ?_)
      refine g_if_eq (tgt := 45) C dX12_alike_33 (by decide) hf (fun hf => ?_) (fun hf => ?_)
      · refine g_aload_n C dX12_alike_45 rfl rfl ?_
        refine g_iconst (v := 1) C dX12_alike_46 (by decide) ?_
        obtain ⟨z3, hz3, hf⟩ := gbind hf ho
        refine g_callV C dX12_alike_47 (m_X12_found l X N _ _ _  (gLay.sub hL (by decide) (by decide)) _ z3.1 z3.2 hz3) gEin0 (cwV 1 C.2.2.2.2.1 gX12_alike_X12_found rfl rfl rfl (by decide +kernel) ⟨Nat.le_of_ble_eq_true rfl, Nat.le_of_ble_eq_true rfl⟩) (L91 hL (by decide) (by decide)) (by decide) rfl rfl rfl (Nat.le_of_ble_eq_true rfl) ⟨Nat.le_of_ble_eq_true rfl, Nat.le_of_ble_eq_true rfl⟩ ?_
        obtain ⟨rfl, rfl⟩ := gs2 hf
        exact g_iret C dX12_alike_50 hr hlk
      · refine g_aload_n C dX12_alike_36 rfl rfl ?_
        refine g_getR (i := 15) (j := 15) C dX12_alike_37 (L91 hL (by decide) (by decide)) c11 rfl (by decide) f70 (fun _ h9 => h9) (LR91_15 hL (by decide) (by decide)) ?_
        refine g_iload_n C dX12_alike_40 rfl rfl ?_
        refine g_iald C dX12_alike_41 (L101 hL (by decide) (by decide)) ho hf (fun hf => ?_)
        refine g_if_ne (tgt := 51) C dX12_alike_42 (by decide) hf (fun hf => ?_) (fun hf => ?_)
        · refine g_iconst (v := 0) C dX12_alike_51 (by decide) ?_
          refine g_istore_n C dX12_alike_52 rfl (Nat.le_of_ble_eq_true rfl) rfl rfl ?_
          refine g_iconst (v := 1) C dX12_alike_53 (by decide) ?_
          refine g_istore C dX12_alike_54 (Nat.le_of_ble_eq_true rfl) rfl rfl ?_
          refine g_loop (fun z4 => [(0, .ref (X.1 + 91)), (1, .int a0), (2, .int a1), (3, .int z4.1), (4, .int z4.2)]) (fun z4 => gU (gU I 91 0 (0 : Int32)) 91 1 (0 : Int32)) (fun r5 => [(3, .int r5)]) (fun r5 => gU (gU I 91 0 (0 : Int32)) 91 1 (0 : Int32)) 145 hf ho (And.intro rfl (And.intro rfl (And.intro rfl (And.intro rfl (And.intro rfl trivial))))) rfl (fun r5 hf => ?_) (fun z4 o1 hf ho hkz4 hez4 => ?_)
          · refine g_iload_n C dX12_alike_145 rfl rfl ?_
            refine g_if_eq (tgt := 153) C dX12_alike_146 (by decide) hf (fun hf => ?_) (fun hf => ?_)
            · refine g_iconst (v := 0) C dX12_alike_153 (by decide) ?_
              obtain ⟨rfl, rfl⟩ := gs2 hf
              exact g_iret C dX12_alike_154 hr hlk
            · refine g_iconst (v := 1) C dX12_alike_149 (by decide) ?_
              refine g_goto (tgt := 154) C dX12_alike_150 (by decide) ?_
              obtain ⟨rfl, rfl⟩ := gs2 hf
              exact g_iret C dX12_alike_154 hr hlk
          · refine g_iload C dX12_alike_56 rfl ?_
            refine g_aload_n C dX12_alike_58 rfl rfl ?_
            refine g_getI (i := 4) (j := 4) C dX12_alike_59 (L91 hL (by decide) (by decide)) c11 rfl f109 (fun _ h9 => h9) ?_
            refine g_icmp_ge (tgt := 145) C dX12_alike_62 (by decide) hf (fun hf => ?_) (fun hf => ?_)
            · have hx := hez4 _ hf.symm
              refine g_sub ?_ hx
              exact (And.intro rfl trivial)
            · refine g_aload_n C dX12_alike_65 rfl rfl ?_
              refine g_getR (i := 15) (j := 15) C dX12_alike_66 (L91 hL (by decide) (by decide)) c11 rfl (by decide) f70 (fun _ h9 => h9) (LR91_15 hL (by decide) (by decide)) ?_
              refine g_iload_n C dX12_alike_69 rfl rfl ?_
              refine g_iald C dX12_alike_70 (L101 hL (by decide) (by decide)) ho hf (fun hf => ?_)
              refine g_aload_n C dX12_alike_71 rfl rfl ?_
              refine g_getR (i := 15) (j := 15) C dX12_alike_72 (L91 hL (by decide) (by decide)) c11 rfl (by decide) f70 (fun _ h9 => h9) (LR91_15 hL (by decide) (by decide)) ?_
              refine g_iload_n C dX12_alike_75 rfl rfl ?_
              refine g_iald C dX12_alike_76 (L101 hL (by decide) (by decide)) ho hf (fun hf => ?_)
              refine g_icmp_ne (tgt := 145) C dX12_alike_77 (by decide) hf (fun hf => ?_) (fun hf => ?_)
              · have hx := hez4 _ hf.symm
                refine g_sub ?_ hx
                exact (And.intro rfl trivial)
              · refine g_iload_n C dX12_alike_80 rfl rfl ?_
                refine g_if_ne (tgt := 145) C dX12_alike_81 (by decide) hf (fun hf => ?_) (fun hf => ?_)
                · have hx := hez4 _ hf.symm
                  refine g_sub ?_ hx
                  exact (And.intro rfl trivial)
                · refine g_iconst (v := 1) C dX12_alike_84 (by decide) ?_
                  refine g_istore_n C dX12_alike_85 rfl (Nat.le_of_ble_eq_true rfl) rfl rfl ?_
                  refine g_iconst (v := 0) C dX12_alike_86 (by decide) ?_
                  refine g_istore C dX12_alike_87 (Nat.le_of_ble_eq_true rfl) rfl rfl ?_
                  refine g_loop (fun z6 => [(0, .ref (X.1 + 91)), (1, .int a0), (2, .int a1), (3, .int z6.1), (4, .int z4.2), (5, .int z6.2)]) (fun z6 => gU (gU I 91 0 (0 : Int32)) 91 1 (0 : Int32)) (fun r7 => [(0, .ref (X.1 + 91)), (1, .int a0), (2, .int a1), (3, .int r7), (4, .int z4.2)]) (fun r7 => gU (gU I 91 0 (0 : Int32)) 91 1 (0 : Int32)) 139 hf ho (And.intro rfl (And.intro rfl (And.intro rfl (And.intro rfl (And.intro rfl (And.intro rfl trivial)))))) rfl (fun r7 hf => ?_) (fun z6 o1 hf ho hkz6 hez6 => ?_)
                  · refine g_iinc (d := 1) C dX12_alike_139 rfl (by decide) rfl (Nat.le_of_ble_eq_true rfl) rfl rfl ?_
                    refine g_goto (tgt := 56) C dX12_alike_142 (by decide) ?_
                    have hx := hkz4 _ hf.symm
                    refine g_sub ?_ hx
                    exact (And.intro rfl (And.intro rfl (And.intro rfl (And.intro rfl (And.intro rfl trivial)))))
                  · refine g_iload C dX12_alike_89 rfl ?_
                    refine g_aload_n C dX12_alike_91 rfl rfl ?_
                    refine g_getR (i := 15) (j := 15) C dX12_alike_92 (L91 hL (by decide) (by decide)) c11 rfl (by decide) f70 (fun _ h9 => h9) (LR91_15 hL (by decide) (by decide)) ?_
                    refine g_iload_n C dX12_alike_95 rfl rfl ?_
                    refine g_iald C dX12_alike_96 (L101 hL (by decide) (by decide)) ho hf (fun hf => ?_)
                    refine g_icmp_gt (tgt := 139) C dX12_alike_97 (by decide) hf (fun hf => ?_) (fun hf => ?_)
                    · have hx := hez6 _ hf.symm
                      refine g_sub ?_ hx
                      exact (And.intro rfl (And.intro rfl (And.intro rfl (And.intro rfl (And.intro rfl trivial)))))
                    · refine g_iload_n C dX12_alike_100 rfl rfl ?_
                      refine g_if_eq (tgt := 131) C dX12_alike_101 (by decide) hf (fun hf => ?_) (fun hf => ?_)
                      · refine g_iconst (v := 0) C dX12_alike_131 (by decide) ?_
                        refine g_istore_n C dX12_alike_132 rfl (Nat.le_of_ble_eq_true rfl) rfl rfl ?_
                        refine g_iinc (d := 1) C dX12_alike_133 rfl (by decide) rfl (Nat.le_of_ble_eq_true rfl) rfl rfl ?_
                        refine g_goto (tgt := 89) C dX12_alike_136 (by decide) ?_
                        have hx := hkz6 _ hf.symm
                        refine g_sub ?_ hx
                        exact (And.intro rfl (And.intro rfl (And.intro rfl (And.intro rfl (And.intro rfl (And.intro rfl trivial))))))
                      · refine g_aload_n C dX12_alike_104 rfl rfl ?_
                        refine g_iload_n C dX12_alike_105 rfl rfl ?_
                        refine g_iload C dX12_alike_106 rfl ?_
                        refine g_iload C dX12_alike_108 rfl ?_
                        obtain ⟨z8, hz8, hf⟩ := gbind hf ho
                        refine g_callV C dX12_alike_110 (m_X12_turned l X N _ _ _  (gLay.sub hL (by decide) (by decide)) _ _ _ z8 hz8) gEin0 (cwV 3 C.2.2.2.2.1 gX12_alike_X12_turned rfl rfl rfl (by decide +kernel) ⟨Nat.le_of_ble_eq_true rfl, Nat.le_of_ble_eq_true rfl⟩) (L91 hL (by decide) (by decide)) (by decide) rfl rfl rfl (Nat.le_of_ble_eq_true rfl) ⟨Nat.le_of_ble_eq_true rfl, Nat.le_of_ble_eq_true rfl⟩ ?_
                        refine g_aload_n C dX12_alike_113 rfl rfl ?_
                        refine g_getR (i := 16) (j := 16) C dX12_alike_114 (L91 hL (by decide) (by decide)) c11 rfl (by decide) f73 (fun _ h9 => h9) (LR91_16 hL (by decide) (by decide)) ?_
                        refine g_iconst (v := 4) C dX12_alike_117 (by decide) ?_
                        refine g_iload_n C dX12_alike_118 rfl rfl ?_
                        refine g_imul C dX12_alike_119 ?_
                        refine g_iload C dX12_alike_120 rfl ?_
                        refine g_iadd C dX12_alike_122 ?_
                        refine g_iald C dX12_alike_123 (L102 hL (by decide) (by decide)) ho hf (fun hf => ?_)
                        refine g_icmp_ne (tgt := 131) C dX12_alike_124 (by decide) hf (fun hf => ?_) (fun hf => ?_)
                        · refine g_iconst (v := 0) C dX12_alike_131 (by decide) ?_
                          refine g_istore_n C dX12_alike_132 rfl (Nat.le_of_ble_eq_true rfl) rfl rfl ?_
                          refine g_iinc (d := 1) C dX12_alike_133 rfl (by decide) rfl (Nat.le_of_ble_eq_true rfl) rfl rfl ?_
                          refine g_goto (tgt := 89) C dX12_alike_136 (by decide) ?_
                          have hx := hkz6 _ hf.symm
                          refine g_sub ?_ hx
                          exact (And.intro rfl (And.intro rfl (And.intro rfl (And.intro rfl (And.intro rfl (And.intro rfl trivial))))))
                        · refine g_iconst (v := 1) C dX12_alike_127 (by decide) ?_
                          refine g_goto (tgt := 132) C dX12_alike_128 (by decide) ?_
                          refine g_istore_n C dX12_alike_132 rfl (Nat.le_of_ble_eq_true rfl) rfl rfl ?_
                          refine g_iinc (d := 1) C dX12_alike_133 rfl (by decide) rfl (Nat.le_of_ble_eq_true rfl) rfl rfl ?_
                          refine g_goto (tgt := 89) C dX12_alike_136 (by decide) ?_
                          have hx := hkz6 _ hf.symm
                          refine g_sub ?_ hx
                          exact (And.intro rfl (And.intro rfl (And.intro rfl (And.intro rfl (And.intro rfl (And.intro rfl trivial))))))
        · refine g_aload_n C dX12_alike_45 rfl rfl ?_
          refine g_iconst (v := 1) C dX12_alike_46 (by decide) ?_
          obtain ⟨z9, hz9, hf⟩ := gbind hf ho
          refine g_callV C dX12_alike_47 (m_X12_found l X N _ _ _  (gLay.sub hL (by decide) (by decide)) _ z9.1 z9.2 hz9) gEin0 (cwV 1 C.2.2.2.2.1 gX12_alike_X12_found rfl rfl rfl (by decide +kernel) ⟨Nat.le_of_ble_eq_true rfl, Nat.le_of_ble_eq_true rfl⟩) (L91 hL (by decide) (by decide)) (by decide) rfl rfl rfl (Nat.le_of_ble_eq_true rfl) ⟨Nat.le_of_ble_eq_true rfl, Nat.le_of_ble_eq_true rfl⟩ ?_
          obtain ⟨rfl, rfl⟩ := gs2 hf
          exact g_iret C dX12_alike_50 hr hlk
    · refine g_ldc C k141 dX12_alike_19 ?_
      obtain ⟨rfl, rfl⟩ := gs2 hf
      exact g_iret C dX12_alike_21 hr hlk

