set_option maxRecDepth 100000 in
set_option maxHeartbeats 8000000 in
theorem m_X0_init (l : Launch) (X : gX) (N : Nat) (I : gI) (R : gR) (S : gS) (tm : Nat)  (J : gI) (P : gR) (T : gS) (hf : f_X0_init N I R S  = some (J, P, T)) : gM l yX0_init wsX0_init { frames := 1, cells := 18, slots := 108, locals := 20 } X (gEC X tm) [.ref (X.1 + 56), .ref (X.1 + 6), .ref (X.1 + 17)] I R S none J P T 18 108 := by
  unfold f_X0_init at hf
  refine gM_of (cc := cX0_init) (own := RX0) (maxL := 3) (ret := none) (by decide) rfl rfl (Nat.le_of_ble_eq_true rfl) ?_
  intro p e s m args below meth c C hr hlk hnm hE
  have ho : (some (J, P, T)) ≠ none := fun h => by cases h
  have hZm := hE.2.2.2.1
  have hTm := hE.2.2.2.2.1
  have m3 := C.2.2.2.2.1 (.methodLink RX0 3 objectInit) (by decide +kernel)
  have oi := C.2.2.2.2.1 (.instanceMethod objectInit) (by decide +kernel)
  have oc := C.2.2.2.2.1 (.code objectInit ⟨#[0xb1]⟩ 1 none) (by first | exact List.mem_cons_of_mem _ (List.mem_append_left _ (List.mem_of_getElem? (i := 2) rfl)) | decide +kernel)
  have cl9 := C.2.2.2.2.1 (.classLink RX0 9 "[[I") (by decide +kernel)
  have ai := C.2.2.2.2.1 (.arrayClass .int) (by decide +kernel)
  have f11 := C.2.2.2.2.1 (.fieldLink RX0 11 "TimesByPowers$Action" "images" "[[I") (by decide +kernel)
  have c0 : gCl wsX0_init 0 RX0 TX0 12 := ⟨by decide, rfl, rfl, by decide +kernel⟩
  have f16 := C.2.2.2.2.1 (.fieldLink RX0 16 "TimesByPowers$Action" "actingWorld" "LTimesByPowers$World;") (by decide +kernel)
  have f20 := C.2.2.2.2.1 (.fieldLink RX0 20 "TimesByPowers$Action" "points" "[[I") (by decide +kernel)
  have f23 := C.2.2.2.2.1 (.fieldLink RX0 23 "TimesByPowers$Action" "point" "[I") (by decide +kernel)
  have f27 := C.2.2.2.2.1 (.fieldLink RX0 27 "TimesByPowers$Action" "start" "[I") (by decide +kernel)
  have f30 := C.2.2.2.2.1 (.fieldLink RX0 30 "TimesByPowers$Action" "next" "[I") (by decide +kernel)
  have f33 := C.2.2.2.2.1 (.fieldLink RX0 33 "TimesByPowers$Action" "basis" "[I") (by decide +kernel)
  have f36 := C.2.2.2.2.1 (.fieldLink RX0 36 "TimesByPowers$Action" "basisSize" "I") (by decide +kernel)
  have f40 := C.2.2.2.2.1 (.fieldLink RX0 40 "TimesByPowers$Action" "elements" "LTimesByPowers$Field;") (by decide +kernel)
  have f44 := C.2.2.2.2.1 (.fieldLink RX0 44 "TimesByPowers$Action" "span" "LTimesByPowers$Span;") (by decide +kernel)
  have f48 := C.2.2.2.2.1 (.fieldLink RX0 48 "TimesByPowers$Field" "p" "I") (by decide +kernel)
  have c2 : gCl wsX0_init 2 RX2 TX2 8 := ⟨by decide, rfl, rfl, by decide +kernel⟩
  have f53 := C.2.2.2.2.1 (.fieldLink RX0 53 "TimesByPowers$Action" "p" "I") (by decide +kernel)
  have f54 := C.2.2.2.2.1 (.fieldLink RX0 54 "TimesByPowers$Field" "n" "I") (by decide +kernel)
  have f57 := C.2.2.2.2.1 (.fieldLink RX0 57 "TimesByPowers$Action" "n" "I") (by decide +kernel)
  refine g_aload_n C dX0_init_0 rfl rfl ?_
  refine g_objInit C dX0_init_1 m3 oi oc (Nat.le_of_ble_eq_true rfl) (Nat.le_of_ble_eq_true rfl) ?_
  refine g_aload_n C dX0_init_4 rfl rfl ?_
  refine g_bipush (v := 6) C dX0_init_5 (by decide) ?_
  refine g_bipush (v := 6) C dX0_init_7 (by decide) ?_
  obtain ⟨hq1, hf⟩ := gcase hf ho
  refine g_mna (q := 57) (N' := 6) (K' := 6) C dX0_init_9 cl9 hE.2.2.1 ai (by decide) (by decide) (by decide) (by decide) ⟨by decide, by decide⟩ ⟨Nat.le_of_ble_eq_true rfl, Nat.le_of_ble_eq_true rfl⟩ hq1 ?_
  obtain ⟨hs2, hf⟩ := gcase hf ho
  refine g_putR (i := 4) (j := 4) C dX0_init_13 hs2 c0 gy0 rfl (by decide) f11 (fun _ h9 => h9) (Or.inr ⟨rfl, hnm, rfl⟩) (fun _ => ⟨rfl, rfl⟩) ?_
  refine g_aload_n C dX0_init_16 rfl rfl ?_
  refine g_null C dX0_init_17 ?_
  refine g_putEN (i := 5) (j := 5) C dX0_init_18 hs2 c0 gy0 rfl f16 (fun _ h9 => h9) (Or.inl rfl) ⟨rfl, rfl⟩ ?_
  refine g_aload_n C dX0_init_21 rfl rfl ?_
  refine g_bipush (v := 6) C dX0_init_22 (by decide) ?_
  refine g_bipush (v := 6) C dX0_init_24 (by decide) ?_
  obtain ⟨hq3, hf⟩ := gcase hf ho
  refine g_mna (q := 64) (N' := 6) (K' := 6) C dX0_init_26 cl9 hE.2.2.1 ai (by decide) (by decide) (by decide) (by decide) ⟨by decide, by decide⟩ ⟨Nat.le_of_ble_eq_true rfl, Nat.le_of_ble_eq_true rfl⟩ hq3 ?_
  refine g_putR (i := 6) (j := 6) C dX0_init_30 (gS_app hs2) c0 gy0 rfl (by decide) f20 (fun _ h9 => h9) (Or.inr ⟨rfl, hnm, rfl⟩) (fun _ => ⟨rfl, rfl⟩) ?_
  refine g_aload_n C dX0_init_33 rfl rfl ?_
  refine g_bipush (v := 6) C dX0_init_34 (by decide) ?_
  obtain ⟨hq4, hf⟩ := gcase hf ho
  refine g_newa (q := 71) (N' := 6) C dX0_init_36 ai (by decide) (by decide) (by decide) ⟨Nat.le_of_ble_eq_true rfl, Nat.le_of_ble_eq_true rfl⟩ hq4 ?_
  refine g_putR (i := 7) (j := 7) C dX0_init_38 (gS_app (gS_app hs2)) c0 gy0 rfl (by decide) f23 (fun _ h9 => h9) (Or.inr ⟨rfl, hnm, rfl⟩) (fun _ => ⟨rfl, rfl⟩) ?_
  refine g_aload_n C dX0_init_41 rfl rfl ?_
  refine g_bipush (v := 6) C dX0_init_42 (by decide) ?_
  obtain ⟨hq5, hf⟩ := gcase hf ho
  refine g_newa (q := 72) (N' := 6) C dX0_init_44 ai (by decide) (by decide) (by decide) ⟨Nat.le_of_ble_eq_true rfl, Nat.le_of_ble_eq_true rfl⟩ hq5 ?_
  refine g_putR (i := 8) (j := 8) C dX0_init_46 (gS_app (gS_app (gS_app hs2))) c0 gy0 rfl (by decide) f27 (fun _ h9 => h9) (Or.inr ⟨rfl, hnm, rfl⟩) (fun _ => ⟨rfl, rfl⟩) ?_
  refine g_aload_n C dX0_init_49 rfl rfl ?_
  refine g_bipush (v := 6) C dX0_init_50 (by decide) ?_
  obtain ⟨hq6, hf⟩ := gcase hf ho
  refine g_newa (q := 73) (N' := 6) C dX0_init_52 ai (by decide) (by decide) (by decide) ⟨Nat.le_of_ble_eq_true rfl, Nat.le_of_ble_eq_true rfl⟩ hq6 ?_
  refine g_putR (i := 9) (j := 9) C dX0_init_54 (gS_app (gS_app (gS_app (gS_app hs2)))) c0 gy0 rfl (by decide) f30 (fun _ h9 => h9) (Or.inr ⟨rfl, hnm, rfl⟩) (fun _ => ⟨rfl, rfl⟩) ?_
  refine g_aload_n C dX0_init_57 rfl rfl ?_
  refine g_bipush (v := 6) C dX0_init_58 (by decide) ?_
  obtain ⟨hq7, hf⟩ := gcase hf ho
  refine g_newa (q := 74) (N' := 6) C dX0_init_60 ai (by decide) (by decide) (by decide) ⟨Nat.le_of_ble_eq_true rfl, Nat.le_of_ble_eq_true rfl⟩ hq7 ?_
  refine g_putR (i := 10) (j := 10) C dX0_init_62 (gS_app (gS_app (gS_app (gS_app (gS_app hs2))))) c0 gy0 rfl (by decide) f33 (fun _ h9 => h9) (Or.inr ⟨rfl, hnm, rfl⟩) (fun _ => ⟨rfl, rfl⟩) ?_
  refine g_aload_n C dX0_init_65 rfl rfl ?_
  refine g_iconst (v := 0) C dX0_init_66 (by decide) ?_
  refine g_putI (i := 11) (j := 11) C dX0_init_67 (gS_app (gS_app (gS_app (gS_app (gS_app hs2))))) c0 gy0 rfl f36 (fun _ h9 => h9) (Or.inl rfl) rfl ?_
  refine g_aload_n C dX0_init_70 rfl rfl ?_
  refine g_aload_n C dX0_init_71 rfl rfl ?_
  refine g_putR (i := 0) (j := 0) C dX0_init_72 (gS_app (gS_app (gS_app (gS_app (gS_app hs2))))) c0 gy0 rfl (by decide) f40 (fun _ h9 => h9) (Or.inr ⟨rfl, hnm, rfl⟩) (fun _ => ⟨rfl, rfl⟩) ?_
  refine g_aload_n C dX0_init_75 rfl rfl ?_
  refine g_aload_n C dX0_init_76 rfl rfl ?_
  refine g_putR (i := 1) (j := 1) C dX0_init_77 (gS_app (gS_app (gS_app (gS_app (gS_app hs2))))) c0 gy0 rfl (by decide) f44 (fun _ h9 => h9) (Or.inr ⟨rfl, hnm, rfl⟩) (fun _ => ⟨rfl, rfl⟩) ?_
  refine g_aload_n C dX0_init_80 rfl rfl ?_
  refine g_aload_n C dX0_init_81 rfl rfl ?_
  obtain ⟨hs8, hf⟩ := gcase hf ho
  refine g_getI (i := 0) (j := 0) C dX0_init_82 hs8 c2 rfl f48 (fun _ h9 => h9) ?_
  refine g_putI (i := 2) (j := 2) C dX0_init_85 (gS_app (gS_app (gS_app (gS_app (gS_app hs2))))) c0 gy0 rfl f53 (fun _ h9 => h9) (Or.inr ⟨rfl, hnm, rfl⟩) rfl ?_
  refine g_aload_n C dX0_init_88 rfl rfl ?_
  refine g_aload_n C dX0_init_89 rfl rfl ?_
  refine g_getI (i := 1) (j := 1) C dX0_init_90 hs8 c2 rfl f54 (fun _ h9 => h9) ?_
  refine g_putI (i := 3) (j := 3) C dX0_init_93 (gS_app (gS_app (gS_app (gS_app (gS_app hs2))))) c0 gy0 rfl f57 (fun _ h9 => h9) (Or.inr ⟨rfl, hnm, rfl⟩) rfl ?_
  obtain ⟨rfl, rfl, rfl⟩ := gs3 hf
  refine g_widen (k := 18) (n := 108) (Nat.le_of_ble_eq_true rfl) (Nat.le_of_ble_eq_true rfl) ?_
  exact g_vret C dX0_init_96 hr hlk
set_option maxRecDepth 100000 in
set_option maxHeartbeats 8000000 in
theorem m_X2_addTimes (l : Launch) (X : gX) (N : Nat) (I : gI) (R : gR) (S : gS) (hL : gLay 6 17 R S) (a0 : Int32) (a1 : Int32) (J : gI) (hf : f_X2_addTimes N I R S a0 a1 = some J) : gM l yX2_addTimes wsX2_addTimes { frames := 0, cells := 0, slots := 0, locals := 0 } X gE0 [.ref (X.1 + 6), .int a0, .int a1] I R S none J R S 0 0 := by
  unfold f_X2_addTimes at hf
  refine gM_of (cc := cX2_addTimes) (own := RX2) (maxL := 5) (ret := none) (by decide) rfl rfl (Nat.le_of_ble_eq_true rfl) ?_
  intro p e s m args below meth c C hr hlk hnm hE
  have ho : (some J) ≠ none := fun h => by cases h
  have f30 := C.2.2.2.2.1 (.fieldLink RX2 30 "TimesByPowers$Field" "n" "I") (by decide +kernel)
  have c2 : gCl wsX2_addTimes 2 RX2 TX2 8 := ⟨by decide, rfl, rfl, by decide +kernel⟩
  have f23 := C.2.2.2.2.1 (.fieldLink RX2 23 "TimesByPowers$Field" "total" "[I") (by decide +kernel)
  have f26 := C.2.2.2.2.1 (.fieldLink RX2 26 "TimesByPowers$Field" "p" "I") (by decide +kernel)
  refine g_iload_n C dX2_addTimes_0 rfl rfl ?_
  refine g_istore_n C dX2_addTimes_1 rfl (Nat.le_of_ble_eq_true rfl) rfl rfl ?_
  refine g_iconst (v := 0) C dX2_addTimes_2 (by decide) ?_
  refine g_istore C dX2_addTimes_3 (Nat.le_of_ble_eq_true rfl) rfl rfl ?_
  refine g_loop (fun z1 => [(0, .ref (X.1 + 6)), (2, .int a1), (3, .int z1.1), (4, .int z1.2.1)]) (fun z1 => z1.2.2) (fun r2 => []) (fun r2 => r2) 45 hf ho (And.intro rfl (And.intro rfl (And.intro rfl (And.intro rfl trivial)))) rfl (fun r2 hf => ?_) (fun z1 o1 hf ho hkz1 hez1 => ?_)
  · obtain rfl := gs1 hf
    exact g_vret C dX2_addTimes_45 hr hlk
  · refine g_iload C dX2_addTimes_5 rfl ?_
    refine g_aload_n C dX2_addTimes_7 rfl rfl ?_
    refine g_getI (i := 1) (j := 1) C dX2_addTimes_8 (L6 hL (by decide) (by decide)) c2 rfl f30 (fun _ h9 => h9) ?_
    refine g_icmp_ge (tgt := 45) C dX2_addTimes_11 (by decide) hf (fun hf => ?_) (fun hf => ?_)
    · have hx := hez1 _ hf.symm
      refine g_sub ?_ hx
      exact trivial
    · refine g_aload_n C dX2_addTimes_14 rfl rfl ?_
      refine g_getR (i := 7) (j := 7) C dX2_addTimes_15 (L6 hL (by decide) (by decide)) c2 rfl (by decide) f23 (fun _ h9 => h9) (LR6_7 hL (by decide) (by decide)) ?_
      refine g_iload C dX2_addTimes_18 rfl ?_
      refine g_dup2 C dX2_addTimes_20 rfl rfl ?_
      refine g_iald C dX2_addTimes_21 (L16 hL (by decide) (by decide)) ho hf (fun hf => ?_)
      refine g_iload_n C dX2_addTimes_22 rfl rfl ?_
      refine g_aload_n C dX2_addTimes_23 rfl rfl ?_
      refine g_getI (i := 0) (j := 0) C dX2_addTimes_24 (L6 hL (by decide) (by decide)) c2 rfl f26 (fun _ h9 => h9) ?_
      refine g_irem C dX2_addTimes_27 ho hf (fun hf => ?_)
      refine g_iload_n C dX2_addTimes_28 rfl rfl ?_
      refine g_imul C dX2_addTimes_29 ?_
      refine g_iadd C dX2_addTimes_30 ?_
      refine g_iast C dX2_addTimes_31 (L16 hL (by decide) (by decide)) ho hf (fun hf => ?_)
      refine g_iload_n C dX2_addTimes_32 rfl rfl ?_
      refine g_aload_n C dX2_addTimes_33 rfl rfl ?_
      refine g_getI (i := 0) (j := 0) C dX2_addTimes_34 (L6 hL (by decide) (by decide)) c2 rfl f26 (fun _ h9 => h9) ?_
      refine g_idiv C dX2_addTimes_37 ho hf (fun hf => ?_)
      refine g_istore_n C dX2_addTimes_38 rfl (Nat.le_of_ble_eq_true rfl) rfl rfl ?_
      refine g_iinc (d := 1) C dX2_addTimes_39 rfl (by decide) rfl (Nat.le_of_ble_eq_true rfl) rfl rfl ?_
      refine g_goto (tgt := 5) C dX2_addTimes_42 (by decide) ?_
      have hx := hkz1 _ hf.symm
      refine g_sub ?_ hx
      exact (And.intro rfl (And.intro rfl (And.intro rfl (And.intro rfl trivial))))
set_option maxRecDepth 100000 in
set_option maxHeartbeats 8000000 in
theorem m_X2_addProduct (l : Launch) (X : gX) (N : Nat) (I : gI) (R : gR) (S : gS) (hL : gLay 6 17 R S) (a0 : Int32) (a1 : Int32) (J : gI) (hf : f_X2_addProduct N I R S a0 a1 = some J) : gM l yX2_addProduct wsX2_addProduct { frames := 0, cells := 0, slots := 0, locals := 0 } X gE0 [.ref (X.1 + 6), .int a0, .int a1] I R S none J R S 0 0 := by
  unfold f_X2_addProduct at hf
  refine gM_of (cc := cX2_addProduct) (own := RX2) (maxL := 8) (ret := none) (by decide) rfl rfl (Nat.le_of_ble_eq_true rfl) ?_
  intro p e s m args below meth c C hr hlk hnm hE
  have ho : (some J) ≠ none := fun h => by cases h
  have f30 := C.2.2.2.2.1 (.fieldLink RX2 30 "TimesByPowers$Field" "n" "I") (by decide +kernel)
  have c2 : gCl wsX2_addProduct 2 RX2 TX2 8 := ⟨by decide, rfl, rfl, by decide +kernel⟩
  have f26 := C.2.2.2.2.1 (.fieldLink RX2 26 "TimesByPowers$Field" "p" "I") (by decide +kernel)
  have f23 := C.2.2.2.2.1 (.fieldLink RX2 23 "TimesByPowers$Field" "total" "[I") (by decide +kernel)
  refine g_iload_n C dX2_addProduct_0 rfl rfl ?_
  refine g_istore_n C dX2_addProduct_1 rfl (Nat.le_of_ble_eq_true rfl) rfl rfl ?_
  refine g_iconst (v := 0) C dX2_addProduct_2 (by decide) ?_
  refine g_istore C dX2_addProduct_3 (Nat.le_of_ble_eq_true rfl) rfl rfl ?_
  refine g_loop (fun z1 => [(0, .ref (X.1 + 6)), (2, .int a1), (3, .int z1.1), (4, .int z1.2.1)]) (fun z1 => z1.2.2) (fun r2 => []) (fun r2 => r2) 93 hf ho (And.intro rfl (And.intro rfl (And.intro rfl (And.intro rfl trivial)))) rfl (fun r2 hf => ?_) (fun z1 o1 hf ho hkz1 hez1 => ?_)
  · obtain rfl := gs1 hf
    exact g_vret C dX2_addProduct_93 hr hlk
  · refine g_iload C dX2_addProduct_5 rfl ?_
    refine g_aload_n C dX2_addProduct_7 rfl rfl ?_
    refine g_getI (i := 1) (j := 1) C dX2_addProduct_8 (L6 hL (by decide) (by decide)) c2 rfl f30 (fun _ h9 => h9) ?_
    refine g_icmp_ge (tgt := 93) C dX2_addProduct_11 (by decide) hf (fun hf => ?_) (fun hf => ?_)
    · have hx := hez1 _ hf.symm
      refine g_sub ?_ hx
      exact trivial
    · refine g_iload_n C dX2_addProduct_14 rfl rfl ?_
      refine g_aload_n C dX2_addProduct_15 rfl rfl ?_
      refine g_getI (i := 0) (j := 0) C dX2_addProduct_16 (L6 hL (by decide) (by decide)) c2 rfl f26 (fun _ h9 => h9) ?_
      refine g_irem C dX2_addProduct_19 ho hf (fun hf => ?_)
      refine g_istore C dX2_addProduct_20 (Nat.le_of_ble_eq_true rfl) rfl rfl ?_
      refine g_iload_n C dX2_addProduct_22 rfl rfl ?_
      refine g_aload_n C dX2_addProduct_23 rfl rfl ?_
      refine g_getI (i := 0) (j := 0) C dX2_addProduct_24 (L6 hL (by decide) (by decide)) c2 rfl f26 (fun _ h9 => h9) ?_
      refine g_idiv C dX2_addProduct_27 ho hf (fun hf => ?_)
      refine g_istore_n C dX2_addProduct_28 rfl (Nat.le_of_ble_eq_true rfl) rfl rfl ?_
      refine g_iload_n C dX2_addProduct_29 rfl rfl ?_
      refine g_istore C dX2_addProduct_30 (Nat.le_of_ble_eq_true rfl) rfl rfl ?_
      refine g_iconst (v := 0) C dX2_addProduct_32 (by decide) ?_
      refine g_istore C dX2_addProduct_33 (Nat.le_of_ble_eq_true rfl) rfl rfl ?_
      refine g_loop (fun z3 => [(0, .ref (X.1 + 6)), (2, .int a1), (3, .int (z1.1 / (z1.2.2 6 0))), (4, .int z1.2.1), (5, .int (z1.1 - z1.1 / (z1.2.2 6 0) * (z1.2.2 6 0))), (6, .int z3.1), (7, .int z3.2.1)]) (fun z3 => z3.2.2) (fun r4 => [(0, .ref (X.1 + 6)), (2, .int a1), (3, .int (z1.1 / (z1.2.2 6 0))), (4, .int z1.2.1)]) (fun r4 => r4) 87 hf ho (And.intro rfl (And.intro rfl (And.intro rfl (And.intro rfl (And.intro rfl (And.intro rfl (And.intro rfl trivial))))))) rfl (fun r4 hf => ?_) (fun z3 o1 hf ho hkz3 hez3 => ?_)
      · refine g_iinc (d := 1) C dX2_addProduct_87 rfl (by decide) rfl (Nat.le_of_ble_eq_true rfl) rfl rfl ?_
        refine g_goto (tgt := 5) C dX2_addProduct_90 (by decide) ?_
        have hx := hkz1 _ hf.symm
        refine g_sub ?_ hx
        exact (And.intro rfl (And.intro rfl (And.intro rfl (And.intro rfl trivial))))
      · refine g_iload C dX2_addProduct_35 rfl ?_
        refine g_aload_n C dX2_addProduct_37 rfl rfl ?_
        refine g_getI (i := 1) (j := 1) C dX2_addProduct_38 (L6 hL (by decide) (by decide)) c2 rfl f30 (fun _ h9 => h9) ?_
        refine g_icmp_ge (tgt := 87) C dX2_addProduct_41 (by decide) hf (fun hf => ?_) (fun hf => ?_)
        · have hx := hez3 _ hf.symm
          refine g_sub ?_ hx
          exact (And.intro rfl (And.intro rfl (And.intro rfl (And.intro rfl trivial))))
        · refine g_iload C dX2_addProduct_44 rfl ?_
          refine g_if_eq (tgt := 87) C dX2_addProduct_46 (by decide) hf (fun hf => ?_) (fun hf => ?_)
          · have hx := hez3 _ hf.symm
            refine g_sub ?_ hx
            exact (And.intro rfl (And.intro rfl (And.intro rfl (And.intro rfl trivial))))
          · refine g_aload_n C dX2_addProduct_49 rfl rfl ?_
            refine g_getR (i := 7) (j := 7) C dX2_addProduct_50 (L6 hL (by decide) (by decide)) c2 rfl (by decide) f23 (fun _ h9 => h9) (LR6_7 hL (by decide) (by decide)) ?_
            refine g_iload C dX2_addProduct_53 rfl ?_
            refine g_iload C dX2_addProduct_55 rfl ?_
            refine g_iadd C dX2_addProduct_57 ?_
            refine g_dup2 C dX2_addProduct_58 rfl rfl ?_
            refine g_iald C dX2_addProduct_59 (L16 hL (by decide) (by decide)) ho hf (fun hf => ?_)
            refine g_iload C dX2_addProduct_60 rfl ?_
            refine g_aload_n C dX2_addProduct_62 rfl rfl ?_
            refine g_getI (i := 0) (j := 0) C dX2_addProduct_63 (L6 hL (by decide) (by decide)) c2 rfl f26 (fun _ h9 => h9) ?_
            refine g_irem C dX2_addProduct_66 ho hf (fun hf => ?_)
            refine g_iload C dX2_addProduct_67 rfl ?_
            refine g_imul C dX2_addProduct_69 ?_
            refine g_iadd C dX2_addProduct_70 ?_
            refine g_iast C dX2_addProduct_71 (L16 hL (by decide) (by decide)) ho hf (fun hf => ?_)
            refine g_iload C dX2_addProduct_72 rfl ?_
            refine g_aload_n C dX2_addProduct_74 rfl rfl ?_
            refine g_getI (i := 0) (j := 0) C dX2_addProduct_75 (L6 hL (by decide) (by decide)) c2 rfl f26 (fun _ h9 => h9) ?_
            refine g_idiv C dX2_addProduct_78 ho hf (fun hf => ?_)
            refine g_istore C dX2_addProduct_79 (Nat.le_of_ble_eq_true rfl) rfl rfl ?_
            refine g_iinc (d := 1) C dX2_addProduct_81 rfl (by decide) rfl (Nat.le_of_ble_eq_true rfl) rfl rfl ?_
            refine g_goto (tgt := 35) C dX2_addProduct_84 (by decide) ?_
            have hx := hkz3 _ hf.symm
            refine g_sub ?_ hx
            exact (And.intro rfl (And.intro rfl (And.intro rfl (And.intro rfl (And.intro rfl (And.intro rfl (And.intro rfl trivial)))))))
set_option maxRecDepth 100000 in
set_option maxHeartbeats 8000000 in
theorem m_X2_folded (l : Launch) (X : gX) (N : Nat) (I : gI) (R : gR) (S : gS) (hL : gLay 6 17 R S)  (v : Int32) (J : gI) (hf : f_X2_folded N I R S  = some (v, J)) : gM l yX2_folded wsX2_folded { frames := 0, cells := 0, slots := 0, locals := 0 } X gE0 [.ref (X.1 + 6)] I R S (some (.int v)) J R S 0 0 := by
  unfold f_X2_folded at hf
  refine gM_of (cc := cX2_folded) (own := RX2) (maxL := 4) (ret := (some .int)) (by decide) rfl rfl (Nat.le_of_ble_eq_true rfl) ?_
  intro p e s m args below meth c C hr hlk hnm hE
  have ho : (some (v, J)) ≠ none := fun h => by cases h
  have f30 := C.2.2.2.2.1 (.fieldLink RX2 30 "TimesByPowers$Field" "n" "I") (by decide +kernel)
  have c2 : gCl wsX2_folded 2 RX2 TX2 8 := ⟨by decide, rfl, rfl, by decide +kernel⟩
  have f23 := C.2.2.2.2.1 (.fieldLink RX2 23 "TimesByPowers$Field" "total" "[I") (by decide +kernel)
  have f26 := C.2.2.2.2.1 (.fieldLink RX2 26 "TimesByPowers$Field" "p" "I") (by decide +kernel)
  have f15 := C.2.2.2.2.1 (.fieldLink RX2 15 "TimesByPowers$Field" "fold" "[I") (by decide +kernel)
  refine g_iconst (v := 2) C dX2_folded_0 (by decide) ?_
  refine g_aload_n C dX2_folded_1 rfl rfl ?_
  refine g_getI (i := 1) (j := 1) C dX2_folded_2 (L6 hL (by decide) (by decide)) c2 rfl f30 (fun _ h9 => h9) ?_
  refine g_imul C dX2_folded_5 ?_
  refine g_iconst (v := 2) C dX2_folded_6 (by decide) ?_
  refine g_isub C dX2_folded_7 ?_
  refine g_istore_n C dX2_folded_8 rfl (Nat.le_of_ble_eq_true rfl) rfl rfl ?_
  refine g_loop (fun z1 => [(0, .ref (X.1 + 6)), (1, .int z1.1)]) (fun z1 => z1.2) (fun r2 => [(0, .ref (X.1 + 6))]) (fun r2 => r2) 86 hf ho (And.intro rfl (And.intro rfl trivial)) rfl (fun r2 hf => ?_) (fun z1 o1 hf ho hkz1 hez1 => ?_)
  · refine g_iconst (v := 0) C dX2_folded_86 (by decide) ?_
    refine g_istore_n C dX2_folded_87 rfl (Nat.le_of_ble_eq_true rfl) rfl rfl ?_
    refine g_aload_n C dX2_folded_88 rfl rfl ?_
    refine g_getI (i := 1) (j := 1) C dX2_folded_89 (L6 hL (by decide) (by decide)) c2 rfl f30 (fun _ h9 => h9) ?_
    refine g_iconst (v := 1) C dX2_folded_92 (by decide) ?_
    refine g_isub C dX2_folded_93 ?_
    refine g_istore_n C dX2_folded_94 rfl (Nat.le_of_ble_eq_true rfl) rfl rfl ?_
    refine g_loop (fun z5 => [(0, .ref (X.1 + 6)), (1, .int z5.1), (2, .int z5.2.1)]) (fun z5 => z5.2.2) (fun r6 => [(1, .int r6.1)]) (fun r6 => r6.2) 131 hf ho (And.intro rfl (And.intro rfl (And.intro rfl trivial))) rfl (fun r6 hf => ?_) (fun z5 o1 hf ho hkz5 hez5 => ?_)
    · refine g_iload_n C dX2_folded_131 rfl rfl ?_
      obtain ⟨rfl, rfl⟩ := gs2 hf
      exact g_iret C dX2_folded_132 hr hlk
    · refine g_iload_n C dX2_folded_95 rfl rfl ?_
      refine g_if_lt (tgt := 131) C dX2_folded_96 (by decide) hf (fun hf => ?_) (fun hf => ?_)
      · have hx := hez5 _ hf.symm
        refine g_sub ?_ hx
        exact (And.intro rfl trivial)
      · refine g_iload_n C dX2_folded_99 rfl rfl ?_
        refine g_aload_n C dX2_folded_100 rfl rfl ?_
        refine g_getI (i := 0) (j := 0) C dX2_folded_101 (L6 hL (by decide) (by decide)) c2 rfl f26 (fun _ h9 => h9) ?_
        refine g_imul C dX2_folded_104 ?_
        refine g_aload_n C dX2_folded_105 rfl rfl ?_
        refine g_getR (i := 7) (j := 7) C dX2_folded_106 (L6 hL (by decide) (by decide)) c2 rfl (by decide) f23 (fun _ h9 => h9) (LR6_7 hL (by decide) (by decide)) ?_
        refine g_iload_n C dX2_folded_109 rfl rfl ?_
        refine g_iald C dX2_folded_110 (L16 hL (by decide) (by decide)) ho hf (fun hf => ?_)
        refine g_aload_n C dX2_folded_111 rfl rfl ?_
        refine g_getI (i := 0) (j := 0) C dX2_folded_112 (L6 hL (by decide) (by decide)) c2 rfl f26 (fun _ h9 => h9) ?_
        refine g_irem C dX2_folded_115 ho hf (fun hf => ?_)
        refine g_iadd C dX2_folded_116 ?_
        refine g_istore_n C dX2_folded_117 rfl (Nat.le_of_ble_eq_true rfl) rfl rfl ?_
        refine g_aload_n C dX2_folded_118 rfl rfl ?_
        refine g_getR (i := 7) (j := 7) C dX2_folded_119 (L6 hL (by decide) (by decide)) c2 rfl (by decide) f23 (fun _ h9 => h9) (LR6_7 hL (by decide) (by decide)) ?_
        refine g_iload_n C dX2_folded_122 rfl rfl ?_
        refine g_iconst (v := 0) C dX2_folded_123 (by decide) ?_
        refine g_iast C dX2_folded_124 (L16 hL (by decide) (by decide)) ho hf (fun hf => ?_)
        refine g_iinc (d := -1) C dX2_folded_125 rfl (by decide) rfl (Nat.le_of_ble_eq_true rfl) rfl rfl ?_
        refine g_goto (tgt := 95) C dX2_folded_128 (by decide) ?_
        have hx := hkz5 _ hf.symm
        refine g_sub ?_ hx
        exact (And.intro rfl (And.intro rfl (And.intro rfl trivial)))
  · refine g_iload_n C dX2_folded_9 rfl rfl ?_
    refine g_aload_n C dX2_folded_10 rfl rfl ?_
    refine g_getI (i := 1) (j := 1) C dX2_folded_11 (L6 hL (by decide) (by decide)) c2 rfl f30 (fun _ h9 => h9) ?_
    refine g_icmp_lt (tgt := 86) C dX2_folded_14 (by decide) hf (fun hf => ?_) (fun hf => ?_)
    · have hx := hez1 _ hf.symm
      refine g_sub ?_ hx
      exact (And.intro rfl trivial)
    · refine g_aload_n C dX2_folded_17 rfl rfl ?_
      refine g_getR (i := 7) (j := 7) C dX2_folded_18 (L6 hL (by decide) (by decide)) c2 rfl (by decide) f23 (fun _ h9 => h9) (LR6_7 hL (by decide) (by decide)) ?_
      refine g_iload_n C dX2_folded_21 rfl rfl ?_
      refine g_iald C dX2_folded_22 (L16 hL (by decide) (by decide)) ho hf (fun hf => ?_)
      refine g_aload_n C dX2_folded_23 rfl rfl ?_
      refine g_getI (i := 0) (j := 0) C dX2_folded_24 (L6 hL (by decide) (by decide)) c2 rfl f26 (fun _ h9 => h9) ?_
      refine g_irem C dX2_folded_27 ho hf (fun hf => ?_)
      refine g_istore_n C dX2_folded_28 rfl (Nat.le_of_ble_eq_true rfl) rfl rfl ?_
      refine g_aload_n C dX2_folded_29 rfl rfl ?_
      refine g_getR (i := 7) (j := 7) C dX2_folded_30 (L6 hL (by decide) (by decide)) c2 rfl (by decide) f23 (fun _ h9 => h9) (LR6_7 hL (by decide) (by decide)) ?_
      refine g_iload_n C dX2_folded_33 rfl rfl ?_
      refine g_iconst (v := 0) C dX2_folded_34 (by decide) ?_
      refine g_iast C dX2_folded_35 (L16 hL (by decide) (by decide)) ho hf (fun hf => ?_)
      refine g_iconst (v := 0) C dX2_folded_36 (by decide) ?_
      refine g_istore_n C dX2_folded_37 rfl (Nat.le_of_ble_eq_true rfl) rfl rfl ?_
      refine g_loop (fun z3 => [(0, .ref (X.1 + 6)), (1, .int z1.1), (2, .int ((z1.2 16 z1.1.toNatClampNeg) - (z1.2 16 z1.1.toNatClampNeg) / (z1.2 6 0) * (z1.2 6 0))), (3, .int z3.1)]) (fun z3 => z3.2) (fun r4 => [(0, .ref (X.1 + 6)), (1, .int z1.1)]) (fun r4 => r4) 80 hf ho (And.intro rfl (And.intro rfl (And.intro rfl (And.intro rfl trivial)))) rfl (fun r4 hf => ?_) (fun z3 o1 hf ho hkz3 hez3 => ?_)
      · refine g_iinc (d := -1) C dX2_folded_80 rfl (by decide) rfl (Nat.le_of_ble_eq_true rfl) rfl rfl ?_
        refine g_goto (tgt := 9) C dX2_folded_83 (by decide) ?_
        have hx := hkz1 _ hf.symm
        refine g_sub ?_ hx
        exact (And.intro rfl (And.intro rfl trivial))
      · refine g_iload_n C dX2_folded_38 rfl rfl ?_
        refine g_aload_n C dX2_folded_39 rfl rfl ?_
        refine g_getI (i := 1) (j := 1) C dX2_folded_40 (L6 hL (by decide) (by decide)) c2 rfl f30 (fun _ h9 => h9) ?_
        refine g_icmp_ge (tgt := 80) C dX2_folded_43 (by decide) hf (fun hf => ?_) (fun hf => ?_)
        · have hx := hez3 _ hf.symm
          refine g_sub ?_ hx
          exact (And.intro rfl (And.intro rfl trivial))
        · refine g_iload_n C dX2_folded_46 rfl rfl ?_
          refine g_if_eq (tgt := 80) C dX2_folded_47 (by decide) hf (fun hf => ?_) (fun hf => ?_)
          · have hx := hez3 _ hf.symm
            refine g_sub ?_ hx
            exact (And.intro rfl (And.intro rfl trivial))
          · refine g_aload_n C dX2_folded_50 rfl rfl ?_
            refine g_getR (i := 7) (j := 7) C dX2_folded_51 (L6 hL (by decide) (by decide)) c2 rfl (by decide) f23 (fun _ h9 => h9) (LR6_7 hL (by decide) (by decide)) ?_
            refine g_iload_n C dX2_folded_54 rfl rfl ?_
            refine g_aload_n C dX2_folded_55 rfl rfl ?_
            refine g_getI (i := 1) (j := 1) C dX2_folded_56 (L6 hL (by decide) (by decide)) c2 rfl f30 (fun _ h9 => h9) ?_
            refine g_isub C dX2_folded_59 ?_
            refine g_iload_n C dX2_folded_60 rfl rfl ?_
            refine g_iadd C dX2_folded_61 ?_
            refine g_dup2 C dX2_folded_62 rfl rfl ?_
            refine g_iald C dX2_folded_63 (L16 hL (by decide) (by decide)) ho hf (fun hf => ?_)
            refine g_iload_n C dX2_folded_64 rfl rfl ?_
            refine g_aload_n C dX2_folded_65 rfl rfl ?_
            refine g_getR (i := 5) (j := 5) C dX2_folded_66 (L6 hL (by decide) (by decide)) c2 rfl (by decide) f15 (fun _ h9 => h9) (LR6_5 hL (by decide) (by decide)) ?_
            refine g_iload_n C dX2_folded_69 rfl rfl ?_
            refine g_iald C dX2_folded_70 (L8 hL (by decide) (by decide)) ho hf (fun hf => ?_)
            refine g_imul C dX2_folded_71 ?_
            refine g_iadd C dX2_folded_72 ?_
            refine g_iast C dX2_folded_73 (L16 hL (by decide) (by decide)) ho hf (fun hf => ?_)
            refine g_iinc (d := 1) C dX2_folded_74 rfl (by decide) rfl (Nat.le_of_ble_eq_true rfl) rfl rfl ?_
            refine g_goto (tgt := 38) C dX2_folded_77 (by decide) ?_
            have hx := hkz3 _ hf.symm
            refine g_sub ?_ hx
            exact (And.intro rfl (And.intro rfl (And.intro rfl (And.intro rfl trivial))))
set_option maxRecDepth 100000 in
set_option maxHeartbeats 8000000 in
theorem m_X2_plusTimes (l : Launch) (X : gX) (N : Nat) (I : gI) (R : gR) (S : gS) (hL : gLay 6 17 R S) (a0 : Int32) (a1 : Int32) (a2 : Int32) (v : Int32) (J : gI) (hf : f_X2_plusTimes N I R S a0 a1 a2 = some (v, J)) : gM l yX2_plusTimes wsX2_plusTimes { frames := 1, cells := 0, slots := 0, locals := 27 } X gE0 [.ref (X.1 + 6), .int a0, .int a1, .int a2] I R S (some (.int v)) J R S 0 0 := by
  unfold f_X2_plusTimes at hf
  refine gM_of (cc := cX2_plusTimes) (own := RX2) (maxL := 4) (ret := (some .int)) (by decide) rfl rfl (Nat.le_of_ble_eq_true rfl) ?_
  intro p e s m args below meth c C hr hlk hnm hE
  have ho : (some (v, J)) ≠ none := fun h => by cases h
  refine g_iload_n C dX2_plusTimes_0 rfl rfl ?_
  refine g_if_eq (tgt := 8) C dX2_plusTimes_1 (by decide) hf (fun hf => ?_) (fun hf => ?_)
  · refine g_iload_n C dX2_plusTimes_8 rfl rfl ?_
    obtain ⟨rfl, rfl⟩ := gs2 hf
    exact g_iret C dX2_plusTimes_9 hr hlk
  · refine g_iload_n C dX2_plusTimes_4 rfl rfl ?_
    refine g_if_ne (tgt := 10) C dX2_plusTimes_5 (by decide) hf (fun hf => ?_) (fun hf => ?_)
    · refine g_aload_n C dX2_plusTimes_10 rfl rfl ?_
      refine g_iload_n C dX2_plusTimes_11 rfl rfl ?_
      refine g_iconst (v := 1) C dX2_plusTimes_12 (by decide) ?_
      obtain ⟨z1, hz1, hf⟩ := gbind hf ho
      refine g_callV C dX2_plusTimes_13 (m_X2_addTimes l X N _ _ _  (gLay.sub hL (by decide) (by decide)) _ _ z1 hz1) gEin0 (cwV 2 C.2.2.2.2.1 gX2_plusTimes_X2_addTimes rfl rfl rfl (by decide +kernel) ⟨Nat.le_of_ble_eq_true rfl, Nat.le_of_ble_eq_true rfl⟩) (L6 hL (by decide) (by decide)) (by decide) rfl rfl rfl (Nat.le_of_ble_eq_true rfl) ⟨Nat.le_of_ble_eq_true rfl, Nat.le_of_ble_eq_true rfl⟩ ?_
      refine g_aload_n C dX2_plusTimes_16 rfl rfl ?_
      refine g_iload_n C dX2_plusTimes_17 rfl rfl ?_
      refine g_iload_n C dX2_plusTimes_18 rfl rfl ?_
      obtain ⟨z2, hz2, hf⟩ := gbind hf ho
      refine g_callV C dX2_plusTimes_19 (m_X2_addProduct l X N _ _ _  (gLay.sub hL (by decide) (by decide)) _ _ z2 hz2) gEin0 (cwV 2 C.2.2.2.2.1 gX2_plusTimes_X2_addProduct rfl rfl rfl (by decide +kernel) ⟨Nat.le_of_ble_eq_true rfl, Nat.le_of_ble_eq_true rfl⟩) (L6 hL (by decide) (by decide)) (by decide) rfl rfl rfl (Nat.le_of_ble_eq_true rfl) ⟨Nat.le_of_ble_eq_true rfl, Nat.le_of_ble_eq_true rfl⟩ ?_
      refine g_aload_n C dX2_plusTimes_22 rfl rfl ?_
      obtain ⟨z3, hz3, hf⟩ := gbind hf ho
      refine g_callV C dX2_plusTimes_23 (m_X2_folded l X N _ _ _  (gLay.sub hL (by decide) (by decide))  z3.1 z3.2 hz3) gEin0 (cwV 0 C.2.2.2.2.1 gX2_plusTimes_X2_folded rfl rfl rfl (by decide +kernel) ⟨Nat.le_of_ble_eq_true rfl, Nat.le_of_ble_eq_true rfl⟩) (L6 hL (by decide) (by decide)) (by decide) rfl rfl rfl (Nat.le_of_ble_eq_true rfl) ⟨Nat.le_of_ble_eq_true rfl, Nat.le_of_ble_eq_true rfl⟩ ?_
      obtain ⟨rfl, rfl⟩ := gs2 hf
      exact g_iret C dX2_plusTimes_26 hr hlk
    · refine g_iload_n C dX2_plusTimes_8 rfl rfl ?_
      obtain ⟨rfl, rfl⟩ := gs2 hf
      exact g_iret C dX2_plusTimes_9 hr hlk
set_option maxRecDepth 100000 in
set_option maxHeartbeats 8000000 in
theorem m_X2_raised (l : Launch) (X : gX) (N : Nat) (I : gI) (R : gR) (S : gS) (hL : gLay 6 17 R S) (a0 : Int32) (v : Int32) (J : gI) (hf : f_X2_raised N I R S a0 = some (v, J)) : gM l yX2_raised wsX2_raised { frames := 1, cells := 0, slots := 0, locals := 23 } X gE0 [.ref (X.1 + 6), .int a0] I R S (some (.int v)) J R S 0 0 := by
  unfold f_X2_raised at hf
  refine gM_of (cc := cX2_raised) (own := RX2) (maxL := 6) (ret := (some .int)) (by decide) rfl rfl (Nat.le_of_ble_eq_true rfl) ?_
  intro p e s m args below meth c C hr hlk hnm hE
  have ho : (some (v, J)) ≠ none := fun h => by cases h
  have f30 := C.2.2.2.2.1 (.fieldLink RX2 30 "TimesByPowers$Field" "n" "I") (by decide +kernel)
  have c2 : gCl wsX2_raised 2 RX2 TX2 8 := ⟨by decide, rfl, rfl, by decide +kernel⟩
  have f26 := C.2.2.2.2.1 (.fieldLink RX2 26 "TimesByPowers$Field" "p" "I") (by decide +kernel)
  have f23 := C.2.2.2.2.1 (.fieldLink RX2 23 "TimesByPowers$Field" "total" "[I") (by decide +kernel)
  have f20 := C.2.2.2.2.1 (.fieldLink RX2 20 "TimesByPowers$Field" "raisedX" "[[I") (by decide +kernel)
  refine g_iload_n C dX2_raised_0 rfl rfl ?_
  refine g_istore_n C dX2_raised_1 rfl (Nat.le_of_ble_eq_true rfl) rfl rfl ?_
  refine g_iconst (v := 0) C dX2_raised_2 (by decide) ?_
  refine g_istore_n C dX2_raised_3 rfl (Nat.le_of_ble_eq_true rfl) rfl rfl ?_
  refine g_loop (fun z1 => [(0, .ref (X.1 + 6)), (2, .int z1.1), (3, .int z1.2.1)]) (fun z1 => z1.2.2) (fun r2 => [(0, .ref (X.1 + 6))]) (fun r2 => r2) 78 hf ho (And.intro rfl (And.intro rfl (And.intro rfl trivial))) rfl (fun r2 hf => ?_) (fun z1 o1 hf ho hkz1 hez1 => ?_)
  · refine g_aload_n C dX2_raised_78 rfl rfl ?_
    obtain ⟨z6, hz6, hf⟩ := gbind hf ho
    refine g_callV C dX2_raised_79 (m_X2_folded l X N _ _ _  (gLay.sub hL (by decide) (by decide))  z6.1 z6.2 hz6) gEin0 (cwV 0 C.2.2.2.2.1 gX2_raised_X2_folded rfl rfl rfl (by decide +kernel) ⟨Nat.le_of_ble_eq_true rfl, Nat.le_of_ble_eq_true rfl⟩) (L6 hL (by decide) (by decide)) (by decide) rfl rfl rfl (Nat.le_of_ble_eq_true rfl) ⟨Nat.le_of_ble_eq_true rfl, Nat.le_of_ble_eq_true rfl⟩ ?_
    obtain ⟨rfl, rfl⟩ := gs2 hf
    exact g_iret C dX2_raised_82 hr hlk
  · refine g_iload_n C dX2_raised_4 rfl rfl ?_
    refine g_aload_n C dX2_raised_5 rfl rfl ?_
    refine g_getI (i := 1) (j := 1) C dX2_raised_6 (L6 hL (by decide) (by decide)) c2 rfl f30 (fun _ h9 => h9) ?_
    refine g_icmp_ge (tgt := 78) C dX2_raised_9 (by decide) hf (fun hf => ?_) (fun hf => ?_)
    · have hx := hez1 _ hf.symm
      refine g_sub ?_ hx
      exact (And.intro rfl trivial)
    · refine g_iload_n C dX2_raised_12 rfl rfl ?_
      refine g_aload_n C dX2_raised_13 rfl rfl ?_
      refine g_getI (i := 0) (j := 0) C dX2_raised_14 (L6 hL (by decide) (by decide)) c2 rfl f26 (fun _ h9 => h9) ?_
      refine g_irem C dX2_raised_17 ho hf (fun hf => ?_)
      refine g_istore C dX2_raised_18 (Nat.le_of_ble_eq_true rfl) rfl rfl ?_
      refine g_iload_n C dX2_raised_20 rfl rfl ?_
      refine g_aload_n C dX2_raised_21 rfl rfl ?_
      refine g_getI (i := 0) (j := 0) C dX2_raised_22 (L6 hL (by decide) (by decide)) c2 rfl f26 (fun _ h9 => h9) ?_
      refine g_idiv C dX2_raised_25 ho hf (fun hf => ?_)
      refine g_istore_n C dX2_raised_26 rfl (Nat.le_of_ble_eq_true rfl) rfl rfl ?_
      refine g_iconst (v := 0) C dX2_raised_27 (by decide) ?_
      refine g_istore C dX2_raised_28 (Nat.le_of_ble_eq_true rfl) rfl rfl ?_
      refine g_loop (fun z3 => [(0, .ref (X.1 + 6)), (2, .int (z1.1 / (z1.2.2 6 0))), (3, .int z1.2.1), (4, .int (z1.1 - z1.1 / (z1.2.2 6 0) * (z1.2.2 6 0))), (5, .int z3.1)]) (fun z3 => z3.2) (fun r4 => [(0, .ref (X.1 + 6)), (2, .int (z1.1 / (z1.2.2 6 0))), (3, .int z1.2.1)]) (fun r4 => r4) 72 hf ho (And.intro rfl (And.intro rfl (And.intro rfl (And.intro rfl (And.intro rfl trivial))))) rfl (fun r4 hf => ?_) (fun z3 o1 hf ho hkz3 hez3 => ?_)
      · refine g_iinc (d := 1) C dX2_raised_72 rfl (by decide) rfl (Nat.le_of_ble_eq_true rfl) rfl rfl ?_
        refine g_goto (tgt := 4) C dX2_raised_75 (by decide) ?_
        have hx := hkz1 _ hf.symm
        refine g_sub ?_ hx
        exact (And.intro rfl (And.intro rfl (And.intro rfl trivial)))
      · refine g_iload C dX2_raised_30 rfl ?_
        refine g_aload_n C dX2_raised_32 rfl rfl ?_
        refine g_getI (i := 1) (j := 1) C dX2_raised_33 (L6 hL (by decide) (by decide)) c2 rfl f30 (fun _ h9 => h9) ?_
        refine g_icmp_ge (tgt := 72) C dX2_raised_36 (by decide) hf (fun hf => ?_) (fun hf => ?_)
        · have hx := hez3 _ hf.symm
          refine g_sub ?_ hx
          exact (And.intro rfl (And.intro rfl (And.intro rfl trivial)))
        · refine g_iload C dX2_raised_39 rfl ?_
          refine g_if_eq (tgt := 72) C dX2_raised_41 (by decide) hf (fun hf => ?_) (fun hf => ?_)
          · have hx := hez3 _ hf.symm
            refine g_sub ?_ hx
            exact (And.intro rfl (And.intro rfl (And.intro rfl trivial)))
          · refine g_aload_n C dX2_raised_44 rfl rfl ?_
            refine g_getR (i := 7) (j := 7) C dX2_raised_45 (L6 hL (by decide) (by decide)) c2 rfl (by decide) f23 (fun _ h9 => h9) (LR6_7 hL (by decide) (by decide)) ?_
            refine g_iload C dX2_raised_48 rfl ?_
            refine g_dup2 C dX2_raised_50 rfl rfl ?_
            refine g_iald C dX2_raised_51 (L16 hL (by decide) (by decide)) ho hf (fun hf => ?_)
            refine g_iload C dX2_raised_52 rfl ?_
            refine g_aload_n C dX2_raised_54 rfl rfl ?_
            refine g_getR (i := 6) (j := 6) C dX2_raised_55 (L6 hL (by decide) (by decide)) c2 rfl (by decide) f20 (fun _ h9 => h9) (LR6_6 hL (by decide) (by decide)) ?_
            refine g_iload_n C dX2_raised_58 rfl rfl ?_
            refine g_aaldG 1 (fun j => 10 + j) C dX2_raised_59 (by decide) (L9 hL (by decide) (by decide)) rfl rfl (fun j hj => LG9 hL (by decide) (by decide) hj) ho hf (fun hj5 hf => ?_)
            refine g_iload C dX2_raised_60 rfl ?_
            refine g_iald C dX2_raised_62 (LH9 hL (by decide) (by decide) hj5) ho hf (fun hf => ?_)
            refine g_imul C dX2_raised_63 ?_
            refine g_iadd C dX2_raised_64 ?_
            refine g_iast C dX2_raised_65 (L16 hL (by decide) (by decide)) ho hf (fun hf => ?_)
            refine g_iinc (d := 1) C dX2_raised_66 rfl (by decide) rfl (Nat.le_of_ble_eq_true rfl) rfl rfl ?_
            refine g_goto (tgt := 30) C dX2_raised_69 (by decide) ?_
            have hx := hkz3 _ hf.symm
            refine g_sub ?_ hx
            exact (And.intro rfl (And.intro rfl (And.intro rfl (And.intro rfl (And.intro rfl trivial)))))
set_option maxRecDepth 100000 in
set_option maxHeartbeats 8000000 in
theorem m_X2_split (l : Launch) (X : gX) (N : Nat) (I : gI) (R : gR) (S : gS) (hL : gLay 6 17 R S) (a0 : Int32) (a1 : Nat) (J : gI) (hf : f_X2_split N I R S a0 a1 = some J) : gM l yX2_split wsX2_split { frames := 0, cells := 0, slots := 0, locals := 0 } X gE0 [.ref (X.1 + 6), .int a0, .ref (X.1 + a1)] I R S none J R S 0 0 := by
  unfold f_X2_split at hf
  refine gM_of (cc := cX2_split) (own := RX2) (maxL := 5) (ret := none) (by decide) rfl rfl (Nat.le_of_ble_eq_true rfl) ?_
  intro p e s m args below meth c C hr hlk hnm hE
  have ho : (some J) ≠ none := fun h => by cases h
  have f30 := C.2.2.2.2.1 (.fieldLink RX2 30 "TimesByPowers$Field" "n" "I") (by decide +kernel)
  have c2 : gCl wsX2_split 2 RX2 TX2 8 := ⟨by decide, rfl, rfl, by decide +kernel⟩
  have f26 := C.2.2.2.2.1 (.fieldLink RX2 26 "TimesByPowers$Field" "p" "I") (by decide +kernel)
  refine g_iload_n C dX2_split_0 rfl rfl ?_
  refine g_istore_n C dX2_split_1 rfl (Nat.le_of_ble_eq_true rfl) rfl rfl ?_
  refine g_iconst (v := 0) C dX2_split_2 (by decide) ?_
  refine g_istore C dX2_split_3 (Nat.le_of_ble_eq_true rfl) rfl rfl ?_
  refine g_loop (fun z1 => [(0, .ref (X.1 + 6)), (2, .ref (X.1 + a1)), (3, .int z1.1), (4, .int z1.2.1)]) (fun z1 => z1.2.2) (fun r2 => []) (fun r2 => r2) 37 hf ho (And.intro rfl (And.intro rfl (And.intro rfl (And.intro rfl trivial)))) rfl (fun r2 hf => ?_) (fun z1 o1 hf ho hkz1 hez1 => ?_)
  · obtain rfl := gs1 hf
    exact g_vret C dX2_split_37 hr hlk
  · refine g_iload C dX2_split_5 rfl ?_
    refine g_aload_n C dX2_split_7 rfl rfl ?_
    refine g_getI (i := 1) (j := 1) C dX2_split_8 (L6 hL (by decide) (by decide)) c2 rfl f30 (fun _ h9 => h9) ?_
    refine g_icmp_ge (tgt := 37) C dX2_split_11 (by decide) hf (fun hf => ?_) (fun hf => ?_)
    · have hx := hez1 _ hf.symm
      refine g_sub ?_ hx
      exact trivial
    · refine g_aload_n C dX2_split_14 rfl rfl ?_
      refine g_iload C dX2_split_15 rfl ?_
      refine g_iload_n C dX2_split_17 rfl rfl ?_
      refine g_aload_n C dX2_split_18 rfl rfl ?_
      refine g_getI (i := 0) (j := 0) C dX2_split_19 (L6 hL (by decide) (by decide)) c2 rfl f26 (fun _ h9 => h9) ?_
      refine g_irem C dX2_split_22 ho hf (fun hf => ?_)
      refine g_iastD C dX2_split_23 ho hf (fun hf => ?_)
      refine g_iload_n C dX2_split_24 rfl rfl ?_
      refine g_aload_n C dX2_split_25 rfl rfl ?_
      refine g_getI (i := 0) (j := 0) C dX2_split_26 (L6 hL (by decide) (by decide)) c2 rfl f26 (fun _ h9 => h9) ?_
      refine g_idiv C dX2_split_29 ho hf (fun hf => ?_)
      refine g_istore_n C dX2_split_30 rfl (Nat.le_of_ble_eq_true rfl) rfl rfl ?_
      refine g_iinc (d := 1) C dX2_split_31 rfl (by decide) rfl (Nat.le_of_ble_eq_true rfl) rfl rfl ?_
      refine g_goto (tgt := 5) C dX2_split_34 (by decide) ?_
      have hx := hkz1 _ hf.symm
      refine g_sub ?_ hx
      exact (And.intro rfl (And.intro rfl (And.intro rfl (And.intro rfl trivial))))
set_option maxRecDepth 100000 in
set_option maxHeartbeats 8000000 in
theorem m_X0_actBy (l : Launch) (X : gX) (N : Nat) (I : gI) (R : gR) (S : gS) (hL : gLay 6 75 R S) (a0 : Nat) (J : gI) (hf : f_X0_actBy N I R S a0 = some J) : gM l yX0_actBy wsX0_actBy { frames := 2, cells := 0, slots := 0, locals := 50 } X gE0 [.ref (X.1 + 56), .ref (X.1 + a0)] I R S none J R S 0 0 := by
  unfold f_X0_actBy at hf
  refine gM_of (cc := cX0_actBy) (own := RX0) (maxL := 6) (ret := none) (by decide) rfl rfl (Nat.le_of_ble_eq_true rfl) ?_
  intro p e s m args below meth c C hr hlk hnm hE
  have ho : (some J) ≠ none := fun h => by cases h
  have f16 := C.2.2.2.2.1 (.fieldLink RX0 16 "TimesByPowers$Action" "actingWorld" "LTimesByPowers$World;") (by decide +kernel)
  have c0 : gCl wsX0_actBy 0 RX0 TX0 12 := ⟨by decide, rfl, rfl, by decide +kernel⟩
  have f57 := C.2.2.2.2.1 (.fieldLink RX0 57 "TimesByPowers$Action" "n" "I") (by decide +kernel)
  have f40 := C.2.2.2.2.1 (.fieldLink RX0 40 "TimesByPowers$Action" "elements" "LTimesByPowers$Field;") (by decide +kernel)
  have f83 := C.2.2.2.2.1 (.fieldLink RX0 83 "TimesByPowers$Field" "place" "[I") (by decide +kernel)
  have c2 : gCl wsX0_actBy 2 RX2 TX2 8 := ⟨by decide, rfl, rfl, by decide +kernel⟩
  have f113 := C.2.2.2.2.1 (.fieldLink RX0 113 "TimesByPowers$World" "\x72" "I") (by decide +kernel)
  have cw : gWc wsX0_actBy := ⟨⟨by decide, rfl, rfl, by decide +kernel⟩, ⟨by decide, rfl, rfl, by decide +kernel⟩, ⟨by decide, rfl, rfl, by decide +kernel⟩, ⟨by decide, rfl, rfl, by decide +kernel⟩⟩
  have f118 := C.2.2.2.2.1 (.fieldLink RX0 118 "TimesByPowers$World" "t" "[I") (by decide +kernel)
  have f11 := C.2.2.2.2.1 (.fieldLink RX0 11 "TimesByPowers$Action" "images" "[[I") (by decide +kernel)
  obtain ⟨hwa0, hf⟩ := gcase hf ho
  refine g_aload_n C dX0_actBy_0 rfl rfl ?_
  refine g_getE (i := 5) (j := 5) C dX0_actBy_1 (L56 hL (by decide) (by decide)) c0 rfl f16 (fun _ h9 => h9) ?_
  refine g_aload_n C dX0_actBy_4 rfl rfl ?_
  refine g_acmp_ne (rx := gdec (I 56 5)) (ry := some a0) (tgt := 9) C dX0_actBy_5 (by decide) hf (fun hf => ?_) (fun hf => ?_)
  · refine g_aload_n C dX0_actBy_9 rfl rfl ?_
    refine g_aload_n C dX0_actBy_10 rfl rfl ?_
    refine g_putE (i := 5) (j := 5) C dX0_actBy_11 (L56 hL (by decide) (by decide)) c0 gy0 rfl f16 (fun _ h9 => h9) (Or.inl rfl) (fun _ => ⟨rfl, rfl⟩) ho hf (fun hf => ?_)
    refine g_iconst (v := 0) C dX0_actBy_14 (by decide) ?_
    refine g_istore_n C dX0_actBy_15 rfl (Nat.le_of_ble_eq_true rfl) rfl rfl ?_
    refine g_loop (fun z1 => [(0, .ref (X.1 + 56)), (1, .ref (X.1 + a0)), (2, .int z1.1)]) (fun z1 => z1.2) (fun r2 => []) (fun r2 => r2) 104 hf ho (And.intro rfl (And.intro rfl (And.intro rfl trivial))) rfl (fun r2 hf => ?_) (fun z1 o1 hf ho hkz1 hez1 => ?_)
    · obtain rfl := gs1 hf
      exact g_vret C dX0_actBy_104 hr hlk
    · refine g_iload_n C dX0_actBy_16 rfl rfl ?_
      refine g_aload_n C dX0_actBy_17 rfl rfl ?_
      refine g_getI (i := 3) (j := 3) C dX0_actBy_18 (L56 hL (by decide) (by decide)) c0 rfl f57 (fun _ h9 => h9) ?_
      refine g_icmp_ge (tgt := 104) C dX0_actBy_21 (by decide) hf (fun hf => ?_) (fun hf => ?_)
      · have hx := hez1 _ hf.symm
        refine g_sub ?_ hx
        exact trivial
      · refine g_aload_n C dX0_actBy_24 rfl rfl ?_
        refine g_getR (i := 0) (j := 0) C dX0_actBy_25 (L56 hL (by decide) (by decide)) c0 rfl (by decide) f40 (fun _ h9 => h9) (LR56_0 hL (by decide) (by decide)) ?_
        refine g_getR (i := 4) (j := 4) C dX0_actBy_28 (L6 hL (by decide) (by decide)) c2 rfl (by decide) f83 (fun _ h9 => h9) (LR6_4 hL (by decide) (by decide)) ?_
        refine g_iload_n C dX0_actBy_31 rfl rfl ?_
        refine g_iald C dX0_actBy_32 (L7 hL (by decide) (by decide)) ho hf (fun hf => ?_)
        refine g_istore_n C dX0_actBy_33 rfl (Nat.le_of_ble_eq_true rfl) rfl rfl ?_
        refine g_iconst (v := 0) C dX0_actBy_34 (by decide) ?_
        refine g_istore C dX0_actBy_35 (Nat.le_of_ble_eq_true rfl) rfl rfl ?_
        refine g_iconst (v := 0) C dX0_actBy_37 (by decide) ?_
        refine g_istore C dX0_actBy_38 (Nat.le_of_ble_eq_true rfl) rfl rfl ?_
        refine g_loop (fun z3 => [(0, .ref (X.1 + 56)), (1, .ref (X.1 + a0)), (2, .int z1.1), (3, .int z3.1), (4, .int z3.2.1), (5, .int z3.2.2.1)]) (fun z3 => z3.2.2.2) (fun r4 => [(0, .ref (X.1 + 56)), (1, .ref (X.1 + a0)), (2, .int z1.1), (4, .int r4.1)]) (fun r4 => r4.2) 83 hf ho (And.intro rfl (And.intro rfl (And.intro rfl (And.intro rfl (And.intro rfl (And.intro rfl trivial)))))) rfl (fun r4 hf => ?_) (fun z3 o1 hf ho hkz3 hez3 => ?_)
        · refine g_aload_n C dX0_actBy_83 rfl rfl ?_
          refine g_getR (i := 0) (j := 0) C dX0_actBy_84 (L56 hL (by decide) (by decide)) c0 rfl (by decide) f40 (fun _ h9 => h9) (LR56_0 hL (by decide) (by decide)) ?_
          refine g_iload C dX0_actBy_87 rfl ?_
          refine g_aload_n C dX0_actBy_89 rfl rfl ?_
          refine g_getR (i := 4) (j := 4) C dX0_actBy_90 (L56 hL (by decide) (by decide)) c0 rfl (by decide) f11 (fun _ h9 => h9) (LR56_4 hL (by decide) (by decide)) ?_
          refine g_iload_n C dX0_actBy_93 rfl rfl ?_
          refine g_aaldG 1 (fun j => 58 + j) C dX0_actBy_94 (by decide) (L57 hL (by decide) (by decide)) rfl rfl (fun j hj => LG57 hL (by decide) (by decide) hj) ho hf (fun hj7 hf => ?_)
          obtain ⟨z8, hz8, hf⟩ := gbind hf ho
          refine g_callV C dX0_actBy_95 (m_X2_split l X N _ _ _  (gLay.sub hL (by decide) (by decide)) _ _ z8 hz8) gEin0 (cwV 2 C.2.2.2.2.1 gX0_actBy_X2_split rfl rfl rfl (by decide +kernel) ⟨Nat.le_of_ble_eq_true rfl, Nat.le_of_ble_eq_true rfl⟩) (L6 hL (by decide) (by decide)) (by decide) rfl rfl rfl (Nat.le_of_ble_eq_true rfl) ⟨Nat.le_of_ble_eq_true rfl, Nat.le_of_ble_eq_true rfl⟩ ?_
          refine g_iinc (d := 1) C dX0_actBy_98 rfl (by decide) rfl (Nat.le_of_ble_eq_true rfl) rfl rfl ?_
          refine g_goto (tgt := 16) C dX0_actBy_101 (by decide) ?_
          have hx := hkz1 _ hf.symm
          refine g_sub ?_ hx
          exact (And.intro rfl (And.intro rfl (And.intro rfl trivial)))
        · refine g_iload C dX0_actBy_40 rfl ?_
          refine g_aload_n C dX0_actBy_42 rfl rfl ?_
          refine g_getWI 1 C dX0_actBy_43 hwa0 cw ⟨rfl, rfl, rfl, rfl⟩ f113 ⟨rfl, rfl, rfl, rfl⟩ ?_
          refine g_icmp_gt (tgt := 83) C dX0_actBy_46 (by decide) hf (fun hf => ?_) (fun hf => ?_)
          · have hx := hez3 _ hf.symm
            refine g_sub ?_ hx
            exact (And.intro rfl (And.intro rfl (And.intro rfl (And.intro rfl trivial))))
          · refine g_aload_n C dX0_actBy_49 rfl rfl ?_
            refine g_getR (i := 0) (j := 0) C dX0_actBy_50 (L56 hL (by decide) (by decide)) c0 rfl (by decide) f40 (fun _ h9 => h9) (LR56_0 hL (by decide) (by decide)) ?_
            refine g_iload C dX0_actBy_53 rfl ?_
            refine g_aload_n C dX0_actBy_55 rfl rfl ?_
            refine g_getWt C dX0_actBy_56 hwa0 cw f118 ⟨rfl, rfl, rfl, rfl⟩ ?_
            refine g_iload C dX0_actBy_59 rfl ?_
            refine g_iald C dX0_actBy_61 (gWb_t hwa0).2 ho hf (fun hf => ?_)
            refine g_iload_n C dX0_actBy_62 rfl rfl ?_
            obtain ⟨z5, hz5, hf⟩ := gbind hf ho
            refine g_callV C dX0_actBy_63 (m_X2_plusTimes l X N _ _ _  (gLay.sub hL (by decide) (by decide)) _ _ _ z5.1 z5.2 hz5) gEin0 (cwV 3 C.2.2.2.2.1 gX0_actBy_X2_plusTimes rfl rfl rfl (by decide +kernel) ⟨Nat.le_of_ble_eq_true rfl, Nat.le_of_ble_eq_true rfl⟩) (L6 hL (by decide) (by decide)) (by decide) rfl rfl rfl (Nat.le_of_ble_eq_true rfl) ⟨Nat.le_of_ble_eq_true rfl, Nat.le_of_ble_eq_true rfl⟩ ?_
            refine g_istore C dX0_actBy_66 (Nat.le_of_ble_eq_true rfl) rfl rfl ?_
            refine g_aload_n C dX0_actBy_68 rfl rfl ?_
            refine g_getR (i := 0) (j := 0) C dX0_actBy_69 (L56 hL (by decide) (by decide)) c0 rfl (by decide) f40 (fun _ h9 => h9) (LR56_0 hL (by decide) (by decide)) ?_
            refine g_iload_n C dX0_actBy_72 rfl rfl ?_
            obtain ⟨z6, hz6, hf⟩ := gbind hf ho
            refine g_callV C dX0_actBy_73 (m_X2_raised l X N _ _ _  (gLay.sub hL (by decide) (by decide)) _ z6.1 z6.2 hz6) gEin0 (cwV 1 C.2.2.2.2.1 gX0_actBy_X2_raised rfl rfl rfl (by decide +kernel) ⟨Nat.le_of_ble_eq_true rfl, Nat.le_of_ble_eq_true rfl⟩) (L6 hL (by decide) (by decide)) (by decide) rfl rfl rfl (Nat.le_of_ble_eq_true rfl) ⟨Nat.le_of_ble_eq_true rfl, Nat.le_of_ble_eq_true rfl⟩ ?_
            refine g_istore_n C dX0_actBy_76 rfl (Nat.le_of_ble_eq_true rfl) rfl rfl ?_
            refine g_iinc (d := 1) C dX0_actBy_77 rfl (by decide) rfl (Nat.le_of_ble_eq_true rfl) rfl rfl ?_
            refine g_goto (tgt := 40) C dX0_actBy_80 (by decide) ?_
            have hx := hkz3 _ hf.symm
            refine g_sub ?_ hx
            exact (And.intro rfl (And.intro rfl (And.intro rfl (And.intro rfl (And.intro rfl (And.intro rfl trivial))))))
  · obtain rfl := gs1 hf
    exact g_vret C dX0_actBy_8 hr hlk
set_option maxRecDepth 100000 in
set_option maxHeartbeats 8000000 in
theorem m_J7_fill_53178 (l : Launch) (X : gX) (N : Nat) (I : gI) (R : gR) (S : gS) (a0 : Nat) (a1 : Int32) (J : gI) (hf : f_J7_fill_53178 N I R S a0 a1 = some J) : gM l yJ7_fill_53178 wsJ7_fill_53178 { frames := 0, cells := 0, slots := 0, locals := 0 } X gE0 [.ref (X.1 + a0), .int a1] I R S none J R S 0 0 := by
  unfold f_J7_fill_53178 at hf
  refine gM_of (cc := cJ7_fill_53178) (own := RJ7) (maxL := 4) (ret := none) (by decide) rfl rfl (Nat.le_of_ble_eq_true rfl) ?_
  intro p e s m args below meth c C hr hlk hnm hE
  have ho : (some J) ≠ none := fun h => by cases h
  refine g_iconst (v := 0) C dJ7_fill_53178_0 (by decide) ?_
  refine g_istore_n C dJ7_fill_53178_1 rfl (Nat.le_of_ble_eq_true rfl) rfl rfl ?_
  refine g_aload_n C dJ7_fill_53178_2 rfl rfl ?_
  refine g_alenD C dJ7_fill_53178_3 ho hf (fun hf => ?_)
  refine g_istore_n C dJ7_fill_53178_4 rfl (Nat.le_of_ble_eq_true rfl) rfl rfl ?_
  refine g_loop (fun z1 => [(0, .ref (X.1 + a0)), (1, .int a1), (2, .int z1.1), (3, .int (Int32.ofNat (gLn S a0)))]) (fun z1 => z1.2) (fun r2 => []) (fun r2 => r2) 20 hf ho (And.intro rfl (And.intro rfl (And.intro rfl (And.intro rfl trivial)))) rfl (fun r2 hf => ?_) (fun z1 o1 hf ho hkz1 hez1 => ?_)
  · obtain rfl := gs1 hf
    exact g_vret C dJ7_fill_53178_20 hr hlk
  · refine g_iload_n C dJ7_fill_53178_5 rfl rfl ?_
    refine g_iload_n C dJ7_fill_53178_6 rfl rfl ?_
    refine g_icmp_ge (tgt := 20) C dJ7_fill_53178_7 (by decide) hf (fun hf => ?_) (fun hf => ?_)
    · have hx := hez1 _ hf.symm
      refine g_sub ?_ hx
      exact trivial
    · refine g_aload_n C dJ7_fill_53178_10 rfl rfl ?_
      refine g_iload_n C dJ7_fill_53178_11 rfl rfl ?_
      refine g_iload_n C dJ7_fill_53178_12 rfl rfl ?_
      refine g_iastD C dJ7_fill_53178_13 ho hf (fun hf => ?_)
      refine g_iinc (d := 1) C dJ7_fill_53178_14 rfl (by decide) rfl (Nat.le_of_ble_eq_true rfl) rfl rfl ?_
      refine g_goto (tgt := 5) C dJ7_fill_53178_17 (by decide) ?_
      have hx := hkz1 _ hf.symm
      refine g_sub ?_ hx
      exact (And.intro rfl (And.intro rfl (And.intro rfl (And.intro rfl trivial))))
set_option maxRecDepth 100000 in
set_option maxHeartbeats 8000000 in
theorem m_X2_degreeOf (l : Launch) (X : gX) (N : Nat) (I : gI) (R : gR) (S : gS) (hL : gLay 6 17 R S) (a0 : Int32) (v : Int32) (hf : f_X2_degreeOf N I R S a0 = some v) : gM l yX2_degreeOf wsX2_degreeOf { frames := 0, cells := 0, slots := 0, locals := 0 } X gE0 [.ref (X.1 + 6), .int a0] I R S (some (.int v)) I R S 0 0 := by
  unfold f_X2_degreeOf at hf
  refine gM_of (cc := cX2_degreeOf) (own := RX2) (maxL := 4) (ret := (some .int)) (by decide) rfl rfl (Nat.le_of_ble_eq_true rfl) ?_
  intro p e s m args below meth c C hr hlk hnm hE
  have ho : (some v) ≠ none := fun h => by cases h
  have f9 := C.2.2.2.2.1 (.fieldLink RX2 9 "TimesByPowers$Field" "place" "[I") (by decide +kernel)
  have c2 : gCl wsX2_degreeOf 2 RX2 TX2 8 := ⟨by decide, rfl, rfl, by decide +kernel⟩
  refine g_iconst (v := -1) C dX2_degreeOf_0 (by decide) ?_
  refine g_istore_n C dX2_degreeOf_1 rfl (Nat.le_of_ble_eq_true rfl) rfl rfl ?_
  refine g_iconst (v := 0) C dX2_degreeOf_2 (by decide) ?_
  refine g_istore_n C dX2_degreeOf_3 rfl (Nat.le_of_ble_eq_true rfl) rfl rfl ?_
  refine g_loop (fun z1 => [(0, .ref (X.1 + 6)), (1, .int a0), (2, .int z1.1), (3, .int z1.2)]) (fun z1 => I) (fun r2 => [(2, .int r2)]) (fun r2 => I) 28 hf ho (And.intro rfl (And.intro rfl (And.intro rfl (And.intro rfl trivial)))) rfl (fun r2 hf => ?_) (fun z1 o1 hf ho hkz1 hez1 => ?_)
  · refine g_iload_n C dX2_degreeOf_28 rfl rfl ?_
    obtain rfl := gs1 hf
    exact g_iret C dX2_degreeOf_29 hr hlk
  · refine g_iload_n C dX2_degreeOf_4 rfl rfl ?_
    refine g_bipush (v := 6) C dX2_degreeOf_5 (by decide) ?_
    refine g_icmp_gt (tgt := 28) C dX2_degreeOf_7 (by decide) hf (fun hf => ?_) (fun hf => ?_)
    · have hx := hez1 _ hf.symm
      refine g_sub ?_ hx
      exact (And.intro rfl trivial)
    · refine g_iload_n C dX2_degreeOf_10 rfl rfl ?_
      refine g_aload_n C dX2_degreeOf_11 rfl rfl ?_
      refine g_getR (i := 4) (j := 4) C dX2_degreeOf_12 (L6 hL (by decide) (by decide)) c2 rfl (by decide) f9 (fun _ h9 => h9) (LR6_4 hL (by decide) (by decide)) ?_
      refine g_iload_n C dX2_degreeOf_15 rfl rfl ?_
      refine g_iald C dX2_degreeOf_16 (L7 hL (by decide) (by decide)) ho hf (fun hf => ?_)
      refine g_icmp_lt (tgt := 22) C dX2_degreeOf_17 (by decide) hf (fun hf => ?_) (fun hf => ?_)
      · refine g_iinc (d := 1) C dX2_degreeOf_22 rfl (by decide) rfl (Nat.le_of_ble_eq_true rfl) rfl rfl ?_
        refine g_goto (tgt := 4) C dX2_degreeOf_25 (by decide) ?_
        have hx := hkz1 _ hf.symm
        refine g_sub ?_ hx
        exact (And.intro rfl (And.intro rfl (And.intro rfl (And.intro rfl trivial))))
      · refine g_iload_n C dX2_degreeOf_20 rfl rfl ?_
        refine g_istore_n C dX2_degreeOf_21 rfl (Nat.le_of_ble_eq_true rfl) rfl rfl ?_
        refine g_iinc (d := 1) C dX2_degreeOf_22 rfl (by decide) rfl (Nat.le_of_ble_eq_true rfl) rfl rfl ?_
        refine g_goto (tgt := 4) C dX2_degreeOf_25 (by decide) ?_
        have hx := hkz1 _ hf.symm
        refine g_sub ?_ hx
        exact (And.intro rfl (And.intro rfl (And.intro rfl (And.intro rfl trivial))))
set_option maxRecDepth 100000 in
set_option maxHeartbeats 8000000 in
theorem m_X0_step (l : Launch) (X : gX) (N : Nat) (I : gI) (R : gR) (S : gS) (hL : gLay 6 75 R S) (a0 : Nat) (J : gI) (hf : f_X0_step N I R S a0 = some J) : gM l yX0_step wsX0_step { frames := 1, cells := 0, slots := 0, locals := 23 } X gE0 [.ref (X.1 + 56), .ref (X.1 + a0)] I R S none J R S 0 0 := by
  unfold f_X0_step at hf
  refine gM_of (cc := cX0_step) (own := RX0) (maxL := 4) (ret := none) (by decide) rfl rfl (Nat.le_of_ble_eq_true rfl) ?_
  intro p e s m args below meth c C hr hlk hnm hE
  have ho : (some J) ≠ none := fun h => by cases h
  have f30 := C.2.2.2.2.1 (.fieldLink RX0 30 "TimesByPowers$Action" "next" "[I") (by decide +kernel)
  have c0 : gCl wsX0_step 0 RX0 TX0 12 := ⟨by decide, rfl, rfl, by decide +kernel⟩
  have f57 := C.2.2.2.2.1 (.fieldLink RX0 57 "TimesByPowers$Action" "n" "I") (by decide +kernel)
  have f11 := C.2.2.2.2.1 (.fieldLink RX0 11 "TimesByPowers$Action" "images" "[[I") (by decide +kernel)
  have f53 := C.2.2.2.2.1 (.fieldLink RX0 53 "TimesByPowers$Action" "p" "I") (by decide +kernel)
  refine g_aload_n C dX0_step_0 rfl rfl ?_
  refine g_getR (i := 9) (j := 9) C dX0_step_1 (L56 hL (by decide) (by decide)) c0 rfl (by decide) f30 (fun _ h9 => h9) (LR56_9 hL (by decide) (by decide)) ?_
  refine g_iconst (v := 0) C dX0_step_4 (by decide) ?_
  obtain ⟨z1, hz1, hf⟩ := gbind hf ho
  refine g_callS C dX0_step_5 (m_J7_fill_53178 l X N _ _ _   _ _ z1 hz1) gEin0 (va_cwS 2 C.2.2.2.2.1 gX0_step_J7_fill_53178 rfl rfl rfl (by decide +kernel) ⟨Nat.le_of_ble_eq_true rfl, Nat.le_of_ble_eq_true rfl⟩) rfl rfl (Nat.le_of_ble_eq_true rfl) ⟨Nat.le_of_ble_eq_true rfl, Nat.le_of_ble_eq_true rfl⟩ ?_
  refine g_iconst (v := 0) C dX0_step_8 (by decide) ?_
  refine g_istore_n C dX0_step_9 rfl (Nat.le_of_ble_eq_true rfl) rfl rfl ?_
  refine g_loop (fun z2 => [(0, .ref (X.1 + 56)), (1, .ref (X.1 + a0)), (2, .int z2.1)]) (fun z2 => z2.2) (fun r3 => [(0, .ref (X.1 + 56)), (1, .ref (X.1 + a0))]) (fun r3 => r3) 67 hf ho (And.intro rfl (And.intro rfl (And.intro rfl trivial))) rfl (fun r3 hf => ?_) (fun z2 o1 hf ho hkz2 hez2 => ?_)
  · refine g_iconst (v := 0) C dX0_step_67 (by decide) ?_
    refine g_istore_n C dX0_step_68 rfl (Nat.le_of_ble_eq_true rfl) rfl rfl ?_
    refine g_loop (fun z7 => [(0, .ref (X.1 + 56)), (1, .ref (X.1 + a0)), (2, .int z7.1)]) (fun z7 => z7.2) (fun r8 => []) (fun r8 => r8) 97 hf ho (And.intro rfl (And.intro rfl (And.intro rfl trivial))) rfl (fun r8 hf => ?_) (fun z7 o1 hf ho hkz7 hez7 => ?_)
    · obtain rfl := gs1 hf
      exact g_vret C dX0_step_97 hr hlk
    · refine g_iload_n C dX0_step_69 rfl rfl ?_
      refine g_aload_n C dX0_step_70 rfl rfl ?_
      refine g_getI (i := 3) (j := 3) C dX0_step_71 (L56 hL (by decide) (by decide)) c0 rfl f57 (fun _ h9 => h9) ?_
      refine g_icmp_ge (tgt := 97) C dX0_step_74 (by decide) hf (fun hf => ?_) (fun hf => ?_)
      · have hx := hez7 _ hf.symm
        refine g_sub ?_ hx
        exact trivial
      · refine g_aload_n C dX0_step_77 rfl rfl ?_
        refine g_iload_n C dX0_step_78 rfl rfl ?_
        refine g_aload_n C dX0_step_79 rfl rfl ?_
        refine g_getR (i := 9) (j := 9) C dX0_step_80 (L56 hL (by decide) (by decide)) c0 rfl (by decide) f30 (fun _ h9 => h9) (LR56_9 hL (by decide) (by decide)) ?_
        refine g_iload_n C dX0_step_83 rfl rfl ?_
        refine g_iald C dX0_step_84 (L73 hL (by decide) (by decide)) ho hf (fun hf => ?_)
        refine g_aload_n C dX0_step_85 rfl rfl ?_
        refine g_getI (i := 2) (j := 2) C dX0_step_86 (L56 hL (by decide) (by decide)) c0 rfl f53 (fun _ h9 => h9) ?_
        refine g_irem C dX0_step_89 ho hf (fun hf => ?_)
        refine g_iastD C dX0_step_90 ho hf (fun hf => ?_)
        refine g_iinc (d := 1) C dX0_step_91 rfl (by decide) rfl (Nat.le_of_ble_eq_true rfl) rfl rfl ?_
        refine g_goto (tgt := 69) C dX0_step_94 (by decide) ?_
        have hx := hkz7 _ hf.symm
        refine g_sub ?_ hx
        exact (And.intro rfl (And.intro rfl (And.intro rfl trivial)))
  · refine g_iload_n C dX0_step_10 rfl rfl ?_
    refine g_aload_n C dX0_step_11 rfl rfl ?_
    refine g_getI (i := 3) (j := 3) C dX0_step_12 (L56 hL (by decide) (by decide)) c0 rfl f57 (fun _ h9 => h9) ?_
    refine g_icmp_ge (tgt := 67) C dX0_step_15 (by decide) hf (fun hf => ?_) (fun hf => ?_)
    · have hx := hez2 _ hf.symm
      refine g_sub ?_ hx
      exact (And.intro rfl (And.intro rfl trivial))
    · refine g_iconst (v := 0) C dX0_step_18 (by decide) ?_
      refine g_istore_n C dX0_step_19 rfl (Nat.le_of_ble_eq_true rfl) rfl rfl ?_
      refine g_loop (fun z4 => [(0, .ref (X.1 + 56)), (1, .ref (X.1 + a0)), (2, .int z2.1), (3, .int z4.1)]) (fun z4 => z4.2) (fun r5 => [(0, .ref (X.1 + 56)), (1, .ref (X.1 + a0)), (2, .int z2.1)]) (fun r5 => r5) 61 hf ho (And.intro rfl (And.intro rfl (And.intro rfl (And.intro rfl trivial)))) rfl (fun r5 hf => ?_) (fun z4 o1 hf ho hkz4 hez4 => ?_)
      · refine g_iinc (d := 1) C dX0_step_61 rfl (by decide) rfl (Nat.le_of_ble_eq_true rfl) rfl rfl ?_
        refine g_goto (tgt := 10) C dX0_step_64 (by decide) ?_
        have hx := hkz2 _ hf.symm
        refine g_sub ?_ hx
        exact (And.intro rfl (And.intro rfl (And.intro rfl trivial)))
      · refine g_iload_n C dX0_step_20 rfl rfl ?_
        refine g_aload_n C dX0_step_21 rfl rfl ?_
        refine g_getI (i := 3) (j := 3) C dX0_step_22 (L56 hL (by decide) (by decide)) c0 rfl f57 (fun _ h9 => h9) ?_
        refine g_icmp_ge (tgt := 61) C dX0_step_25 (by decide) hf (fun hf => ?_) (fun hf => ?_)
        · have hx := hez4 _ hf.symm
          refine g_sub ?_ hx
          exact (And.intro rfl (And.intro rfl (And.intro rfl trivial)))
        · refine g_aload_n C dX0_step_28 rfl rfl ?_
          refine g_iload_n C dX0_step_29 rfl rfl ?_
          refine g_ialdD C dX0_step_30 ho hf (fun hf => ?_)
          refine g_if_eq (tgt := 61) C dX0_step_31 (by decide) hf (fun hf => ?_) (fun hf => ?_)
          · have hx := hez4 _ hf.symm
            refine g_sub ?_ hx
            exact (And.intro rfl (And.intro rfl (And.intro rfl trivial)))
          · refine g_aload_n C dX0_step_34 rfl rfl ?_
            refine g_getR (i := 9) (j := 9) C dX0_step_35 (L56 hL (by decide) (by decide)) c0 rfl (by decide) f30 (fun _ h9 => h9) (LR56_9 hL (by decide) (by decide)) ?_
            refine g_iload_n C dX0_step_38 rfl rfl ?_
            refine g_dup2 C dX0_step_39 rfl rfl ?_
            refine g_iald C dX0_step_40 (L73 hL (by decide) (by decide)) ho hf (fun hf => ?_)
            refine g_aload_n C dX0_step_41 rfl rfl ?_
            refine g_iload_n C dX0_step_42 rfl rfl ?_
            refine g_ialdD C dX0_step_43 ho hf (fun hf => ?_)
            refine g_aload_n C dX0_step_44 rfl rfl ?_
            refine g_getR (i := 4) (j := 4) C dX0_step_45 (L56 hL (by decide) (by decide)) c0 rfl (by decide) f11 (fun _ h9 => h9) (LR56_4 hL (by decide) (by decide)) ?_
            refine g_iload_n C dX0_step_48 rfl rfl ?_
            refine g_aaldG 1 (fun j => 58 + j) C dX0_step_49 (by decide) (L57 hL (by decide) (by decide)) rfl rfl (fun j hj => LG57 hL (by decide) (by decide) hj) ho hf (fun hj6 hf => ?_)
            refine g_iload_n C dX0_step_50 rfl rfl ?_
            refine g_iald C dX0_step_51 (LH57 hL (by decide) (by decide) hj6) ho hf (fun hf => ?_)
            refine g_imul C dX0_step_52 ?_
            refine g_iadd C dX0_step_53 ?_
            refine g_iast C dX0_step_54 (L73 hL (by decide) (by decide)) ho hf (fun hf => ?_)
            refine g_iinc (d := 1) C dX0_step_55 rfl (by decide) rfl (Nat.le_of_ble_eq_true rfl) rfl rfl ?_
            refine g_goto (tgt := 20) C dX0_step_58 (by decide) ?_
            have hx := hkz4 _ hf.symm
            refine g_sub ?_ hx
            exact (And.intro rfl (And.intro rfl (And.intro rfl (And.intro rfl trivial))))
set_option maxRecDepth 100000 in
set_option maxHeartbeats 8000000 in
theorem m_X2_numberAt (l : Launch) (X : gX) (N : Nat) (I : gI) (R : gR) (S : gS) (hL : gLay 6 17 R S) (a0 : Int32) (a1 : Int32) (v : Int32) (hf : f_X2_numberAt N I R S a0 a1 = some v) : gM l yX2_numberAt wsX2_numberAt { frames := 0, cells := 0, slots := 0, locals := 0 } X gE0 [.ref (X.1 + 6), .int a0, .int a1] I R S (some (.int v)) I R S 0 0 := by
  unfold f_X2_numberAt at hf
  refine gM_of (cc := cX2_numberAt) (own := RX2) (maxL := 3) (ret := (some .int)) (by decide) rfl rfl (Nat.le_of_ble_eq_true rfl) ?_
  intro p e s m args below meth c C hr hlk hnm hE
  have ho : (some v) ≠ none := fun h => by cases h
  have f9 := C.2.2.2.2.1 (.fieldLink RX2 9 "TimesByPowers$Field" "place" "[I") (by decide +kernel)
  have c2 : gCl wsX2_numberAt 2 RX2 TX2 8 := ⟨by decide, rfl, rfl, by decide +kernel⟩
  have f26 := C.2.2.2.2.1 (.fieldLink RX2 26 "TimesByPowers$Field" "p" "I") (by decide +kernel)
  refine g_iload_n C dX2_numberAt_0 rfl rfl ?_
  refine g_aload_n C dX2_numberAt_1 rfl rfl ?_
  refine g_getR (i := 4) (j := 4) C dX2_numberAt_2 (L6 hL (by decide) (by decide)) c2 rfl (by decide) f9 (fun _ h9 => h9) (LR6_4 hL (by decide) (by decide)) ?_
  refine g_iload_n C dX2_numberAt_5 rfl rfl ?_
  refine g_iald C dX2_numberAt_6 (L7 hL (by decide) (by decide)) ho hf (fun hf => ?_)
  refine g_idiv C dX2_numberAt_7 ho hf (fun hf => ?_)
  refine g_aload_n C dX2_numberAt_8 rfl rfl ?_
  refine g_getI (i := 0) (j := 0) C dX2_numberAt_9 (L6 hL (by decide) (by decide)) c2 rfl f26 (fun _ h9 => h9) ?_
  refine g_irem C dX2_numberAt_12 ho hf (fun hf => ?_)
  obtain rfl := gs1 hf
  exact g_iret C dX2_numberAt_13 hr hlk
set_option maxRecDepth 100000 in
set_option maxHeartbeats 8000000 in
theorem m_X0_follow (l : Launch) (X : gX) (N : Nat) (I : gI) (R : gR) (S : gS) (hL : gLay 6 75 R S) (a0 : Int32) (J : gI) (hf : f_X0_follow N I R S a0 = some J) : gM l yX0_follow wsX0_follow { frames := 2, cells := 0, slots := 0, locals := 46 } X gE0 [.ref (X.1 + 56), .int a0] I R S none J R S 0 0 := by
  unfold f_X0_follow at hf
  refine gM_of (cc := cX0_follow) (own := RX0) (maxL := 5) (ret := none) (by decide) rfl rfl (Nat.le_of_ble_eq_true rfl) ?_
  intro p e s m args below meth c C hr hlk hnm hE
  have ho : (some J) ≠ none := fun h => by cases h
  have f23 := C.2.2.2.2.1 (.fieldLink RX0 23 "TimesByPowers$Action" "point" "[I") (by decide +kernel)
  have c0 : gCl wsX0_follow 0 RX0 TX0 12 := ⟨by decide, rfl, rfl, by decide +kernel⟩
  have f40 := C.2.2.2.2.1 (.fieldLink RX0 40 "TimesByPowers$Action" "elements" "LTimesByPowers$Field;") (by decide +kernel)
  have f57 := C.2.2.2.2.1 (.fieldLink RX0 57 "TimesByPowers$Action" "n" "I") (by decide +kernel)
  have f27 := C.2.2.2.2.1 (.fieldLink RX0 27 "TimesByPowers$Action" "start" "[I") (by decide +kernel)
  have f53 := C.2.2.2.2.1 (.fieldLink RX0 53 "TimesByPowers$Action" "p" "I") (by decide +kernel)
  refine g_aload_n C dX0_follow_0 rfl rfl ?_
  refine g_getR (i := 7) (j := 7) C dX0_follow_1 (L56 hL (by decide) (by decide)) c0 rfl (by decide) f23 (fun _ h9 => h9) (LR56_7 hL (by decide) (by decide)) ?_
  refine g_iconst (v := 0) C dX0_follow_4 (by decide) ?_
  obtain ⟨z1, hz1, hf⟩ := gbind hf ho
  refine g_callS C dX0_follow_5 (m_J7_fill_53178 l X N _ _ _   _ _ z1 hz1) gEin0 (va_cwS 2 C.2.2.2.2.1 gX0_follow_J7_fill_53178 rfl rfl rfl (by decide +kernel) ⟨Nat.le_of_ble_eq_true rfl, Nat.le_of_ble_eq_true rfl⟩) rfl rfl (Nat.le_of_ble_eq_true rfl) ⟨Nat.le_of_ble_eq_true rfl, Nat.le_of_ble_eq_true rfl⟩ ?_
  refine g_aload_n C dX0_follow_8 rfl rfl ?_
  refine g_getR (i := 0) (j := 0) C dX0_follow_9 (L56 hL (by decide) (by decide)) c0 rfl (by decide) f40 (fun _ h9 => h9) (LR56_0 hL (by decide) (by decide)) ?_
  refine g_iload_n C dX0_follow_12 rfl rfl ?_
  obtain ⟨z2, hz2, hf⟩ := gbind hf ho
  refine g_callV C dX0_follow_13 (m_X2_degreeOf l X N _ _ _  (gLay.sub hL (by decide) (by decide)) _ z2 hz2) gEin0 (cwV 1 C.2.2.2.2.1 gX0_follow_X2_degreeOf rfl rfl rfl (by decide +kernel) ⟨Nat.le_of_ble_eq_true rfl, Nat.le_of_ble_eq_true rfl⟩) (L6 hL (by decide) (by decide)) (by decide) rfl rfl rfl (Nat.le_of_ble_eq_true rfl) ⟨Nat.le_of_ble_eq_true rfl, Nat.le_of_ble_eq_true rfl⟩ ?_
  refine g_istore_n C dX0_follow_16 rfl (Nat.le_of_ble_eq_true rfl) rfl rfl ?_
  refine g_loop (fun z3 => [(0, .ref (X.1 + 56)), (1, .int a0), (2, .int z3.1)]) (fun z3 => z3.2) (fun r4 => []) (fun r4 => r4) 92 hf ho (And.intro rfl (And.intro rfl (And.intro rfl trivial))) rfl (fun r4 hf => ?_) (fun z3 o1 hf ho hkz3 hez3 => ?_)
  · obtain rfl := gs1 hf
    exact g_vret C dX0_follow_92 hr hlk
  · refine g_iload_n C dX0_follow_17 rfl rfl ?_
    refine g_if_lt (tgt := 92) C dX0_follow_18 (by decide) hf (fun hf => ?_) (fun hf => ?_)
    · have hx := hez3 _ hf.symm
      refine g_sub ?_ hx
      exact trivial
    · refine g_aload_n C dX0_follow_21 rfl rfl ?_
      refine g_aload_n C dX0_follow_22 rfl rfl ?_
      refine g_getR (i := 7) (j := 7) C dX0_follow_23 (L56 hL (by decide) (by decide)) c0 rfl (by decide) f23 (fun _ h9 => h9) (LR56_7 hL (by decide) (by decide)) ?_
      obtain ⟨z5, hz5, hf⟩ := gbind hf ho
      refine g_callV C dX0_follow_26 (m_X0_step l X N _ _ _  (gLay.sub hL (by decide) (by decide)) _ z5 hz5) gEin0 (cwV 1 C.2.2.2.2.1 gX0_follow_X0_step rfl rfl rfl (by decide +kernel) ⟨Nat.le_of_ble_eq_true rfl, Nat.le_of_ble_eq_true rfl⟩) (L56 hL (by decide) (by decide)) (by decide) rfl rfl rfl (Nat.le_of_ble_eq_true rfl) ⟨Nat.le_of_ble_eq_true rfl, Nat.le_of_ble_eq_true rfl⟩ ?_
      refine g_aload_n C dX0_follow_29 rfl rfl ?_
      refine g_getR (i := 0) (j := 0) C dX0_follow_30 (L56 hL (by decide) (by decide)) c0 rfl (by decide) f40 (fun _ h9 => h9) (LR56_0 hL (by decide) (by decide)) ?_
      refine g_iload_n C dX0_follow_33 rfl rfl ?_
      refine g_iload_n C dX0_follow_34 rfl rfl ?_
      obtain ⟨z6, hz6, hf⟩ := gbind hf ho
      refine g_callV C dX0_follow_35 (m_X2_numberAt l X N _ _ _  (gLay.sub hL (by decide) (by decide)) _ _ z6 hz6) gEin0 (cwV 2 C.2.2.2.2.1 gX0_follow_X2_numberAt rfl rfl rfl (by decide +kernel) ⟨Nat.le_of_ble_eq_true rfl, Nat.le_of_ble_eq_true rfl⟩) (L6 hL (by decide) (by decide)) (by decide) rfl rfl rfl (Nat.le_of_ble_eq_true rfl) ⟨Nat.le_of_ble_eq_true rfl, Nat.le_of_ble_eq_true rfl⟩ ?_
      refine g_istore_n C dX0_follow_38 rfl (Nat.le_of_ble_eq_true rfl) rfl rfl ?_
      refine g_iconst (v := 0) C dX0_follow_39 (by decide) ?_
      refine g_istore C dX0_follow_40 (Nat.le_of_ble_eq_true rfl) rfl rfl ?_
      refine g_loop (fun z7 => [(0, .ref (X.1 + 56)), (1, .int a0), (2, .int z3.1), (3, .int z6), (4, .int z7.1)]) (fun z7 => z7.2) (fun r8 => [(0, .ref (X.1 + 56)), (1, .int a0), (2, .int z3.1)]) (fun r8 => r8) 86 hf ho (And.intro rfl (And.intro rfl (And.intro rfl (And.intro rfl (And.intro rfl trivial))))) rfl (fun r8 hf => ?_) (fun z7 o1 hf ho hkz7 hez7 => ?_)
      · refine g_iinc (d := -1) C dX0_follow_86 rfl (by decide) rfl (Nat.le_of_ble_eq_true rfl) rfl rfl ?_
        refine g_goto (tgt := 17) C dX0_follow_89 (by decide) ?_
        have hx := hkz3 _ hf.symm
        refine g_sub ?_ hx
        exact (And.intro rfl (And.intro rfl (And.intro rfl trivial)))
      · refine g_iload C dX0_follow_42 rfl ?_
        refine g_aload_n C dX0_follow_44 rfl rfl ?_
        refine g_getI (i := 3) (j := 3) C dX0_follow_45 (L56 hL (by decide) (by decide)) c0 rfl f57 (fun _ h9 => h9) ?_
        refine g_icmp_ge (tgt := 86) C dX0_follow_48 (by decide) hf (fun hf => ?_) (fun hf => ?_)
        · have hx := hez7 _ hf.symm
          refine g_sub ?_ hx
          exact (And.intro rfl (And.intro rfl (And.intro rfl trivial)))
        · refine g_aload_n C dX0_follow_51 rfl rfl ?_
          refine g_getR (i := 7) (j := 7) C dX0_follow_52 (L56 hL (by decide) (by decide)) c0 rfl (by decide) f23 (fun _ h9 => h9) (LR56_7 hL (by decide) (by decide)) ?_
          refine g_iload C dX0_follow_55 rfl ?_
          refine g_aload_n C dX0_follow_57 rfl rfl ?_
          refine g_getR (i := 7) (j := 7) C dX0_follow_58 (L56 hL (by decide) (by decide)) c0 rfl (by decide) f23 (fun _ h9 => h9) (LR56_7 hL (by decide) (by decide)) ?_
          refine g_iload C dX0_follow_61 rfl ?_
          refine g_iald C dX0_follow_63 (L71 hL (by decide) (by decide)) ho hf (fun hf => ?_)
          refine g_iload_n C dX0_follow_64 rfl rfl ?_
          refine g_aload_n C dX0_follow_65 rfl rfl ?_
          refine g_getR (i := 8) (j := 8) C dX0_follow_66 (L56 hL (by decide) (by decide)) c0 rfl (by decide) f27 (fun _ h9 => h9) (LR56_8 hL (by decide) (by decide)) ?_
          refine g_iload C dX0_follow_69 rfl ?_
          refine g_iald C dX0_follow_71 (L72 hL (by decide) (by decide)) ho hf (fun hf => ?_)
          refine g_imul C dX0_follow_72 ?_
          refine g_iadd C dX0_follow_73 ?_
          refine g_aload_n C dX0_follow_74 rfl rfl ?_
          refine g_getI (i := 2) (j := 2) C dX0_follow_75 (L56 hL (by decide) (by decide)) c0 rfl f53 (fun _ h9 => h9) ?_
          refine g_irem C dX0_follow_78 ho hf (fun hf => ?_)
          refine g_iast C dX0_follow_79 (L71 hL (by decide) (by decide)) ho hf (fun hf => ?_)
          refine g_iinc (d := 1) C dX0_follow_80 rfl (by decide) rfl (Nat.le_of_ble_eq_true rfl) rfl rfl ?_
          refine g_goto (tgt := 42) C dX0_follow_83 (by decide) ?_
          have hx := hkz7 _ hf.symm
          refine g_sub ?_ hx
          exact (And.intro rfl (And.intro rfl (And.intro rfl (And.intro rfl (And.intro rfl trivial)))))
set_option maxRecDepth 100000 in
set_option maxHeartbeats 8000000 in
theorem m_X2_packed (l : Launch) (X : gX) (N : Nat) (I : gI) (R : gR) (S : gS) (hL : gLay 6 17 R S) (a0 : Nat) (v : Int32) (hf : f_X2_packed N I R S a0 = some v) : gM l yX2_packed wsX2_packed { frames := 0, cells := 0, slots := 0, locals := 0 } X gE0 [.ref (X.1 + 6), .ref (X.1 + a0)] I R S (some (.int v)) I R S 0 0 := by
  unfold f_X2_packed at hf
  refine gM_of (cc := cX2_packed) (own := RX2) (maxL := 4) (ret := (some .int)) (by decide) rfl rfl (Nat.le_of_ble_eq_true rfl) ?_
  intro p e s m args below meth c C hr hlk hnm hE
  have ho : (some v) ≠ none := fun h => by cases h
  have f30 := C.2.2.2.2.1 (.fieldLink RX2 30 "TimesByPowers$Field" "n" "I") (by decide +kernel)
  have c2 : gCl wsX2_packed 2 RX2 TX2 8 := ⟨by decide, rfl, rfl, by decide +kernel⟩
  have f26 := C.2.2.2.2.1 (.fieldLink RX2 26 "TimesByPowers$Field" "p" "I") (by decide +kernel)
  refine g_iconst (v := 0) C dX2_packed_0 (by decide) ?_
  refine g_istore_n C dX2_packed_1 rfl (Nat.le_of_ble_eq_true rfl) rfl rfl ?_
  refine g_aload_n C dX2_packed_2 rfl rfl ?_
  refine g_getI (i := 1) (j := 1) C dX2_packed_3 (L6 hL (by decide) (by decide)) c2 rfl f30 (fun _ h9 => h9) ?_
  refine g_iconst (v := 1) C dX2_packed_6 (by decide) ?_
  refine g_isub C dX2_packed_7 ?_
  refine g_istore_n C dX2_packed_8 rfl (Nat.le_of_ble_eq_true rfl) rfl rfl ?_
  refine g_loop (fun z1 => [(0, .ref (X.1 + 6)), (1, .ref (X.1 + a0)), (2, .int z1.1), (3, .int z1.2)]) (fun z1 => I) (fun r2 => [(2, .int r2)]) (fun r2 => I) 30 hf ho (And.intro rfl (And.intro rfl (And.intro rfl (And.intro rfl trivial)))) rfl (fun r2 hf => ?_) (fun z1 o1 hf ho hkz1 hez1 => ?_)
  · refine g_iload_n C dX2_packed_30 rfl rfl ?_
    obtain rfl := gs1 hf
    exact g_iret C dX2_packed_31 hr hlk
  · refine g_iload_n C dX2_packed_9 rfl rfl ?_
    refine g_if_lt (tgt := 30) C dX2_packed_10 (by decide) hf (fun hf => ?_) (fun hf => ?_)
    · have hx := hez1 _ hf.symm
      refine g_sub ?_ hx
      exact (And.intro rfl trivial)
    · refine g_iload_n C dX2_packed_13 rfl rfl ?_
      refine g_aload_n C dX2_packed_14 rfl rfl ?_
      refine g_getI (i := 0) (j := 0) C dX2_packed_15 (L6 hL (by decide) (by decide)) c2 rfl f26 (fun _ h9 => h9) ?_
      refine g_imul C dX2_packed_18 ?_
      refine g_aload_n C dX2_packed_19 rfl rfl ?_
      refine g_iload_n C dX2_packed_20 rfl rfl ?_
      refine g_ialdD C dX2_packed_21 ho hf (fun hf => ?_)
      refine g_iadd C dX2_packed_22 ?_
      refine g_istore_n C dX2_packed_23 rfl (Nat.le_of_ble_eq_true rfl) rfl rfl ?_
      refine g_iinc (d := -1) C dX2_packed_24 rfl (by decide) rfl (Nat.le_of_ble_eq_true rfl) rfl rfl ?_
      refine g_goto (tgt := 9) C dX2_packed_27 (by decide) ?_
      have hx := hkz1 _ hf.symm
      refine g_sub ?_ hx
      exact (And.intro rfl (And.intro rfl (And.intro rfl (And.intro rfl trivial))))
set_option maxRecDepth 100000 in
set_option maxHeartbeats 8000000 in
theorem m_X0_imageOf (l : Launch) (X : gX) (N : Nat) (I : gI) (R : gR) (S : gS) (hL : gLay 6 75 R S) (a0 : Nat) (a1 : Int32) (a2 : Int32) (v : Int32) (J : gI) (hf : f_X0_imageOf N I R S a0 a1 a2 = some (v, J)) : gM l yX0_imageOf wsX0_imageOf { frames := 3, cells := 0, slots := 0, locals := 75 } X gE0 [.ref (X.1 + 56), .ref (X.1 + a0), .int a1, .int a2] I R S (some (.int v)) J R S 0 0 := by
  unfold f_X0_imageOf at hf
  refine gM_of (cc := cX0_imageOf) (own := RX0) (maxL := 4) (ret := (some .int)) (by decide) rfl rfl (Nat.le_of_ble_eq_true rfl) ?_
  intro p e s m args below meth c C hr hlk hnm hE
  have ho : (some (v, J)) ≠ none := fun h => by cases h
  have f40 := C.2.2.2.2.1 (.fieldLink RX0 40 "TimesByPowers$Action" "elements" "LTimesByPowers$Field;") (by decide +kernel)
  have c0 : gCl wsX0_imageOf 0 RX0 TX0 12 := ⟨by decide, rfl, rfl, by decide +kernel⟩
  have f27 := C.2.2.2.2.1 (.fieldLink RX0 27 "TimesByPowers$Action" "start" "[I") (by decide +kernel)
  have f23 := C.2.2.2.2.1 (.fieldLink RX0 23 "TimesByPowers$Action" "point" "[I") (by decide +kernel)
  obtain ⟨hwa0, hf⟩ := gcase hf ho
  refine g_aload_n C dX0_imageOf_0 rfl rfl ?_
  refine g_aload_n C dX0_imageOf_1 rfl rfl ?_
  obtain ⟨z1, hz1, hf⟩ := gbind hf ho
  refine g_callV C dX0_imageOf_2 (m_X0_actBy l X N _ _ _  (gLay.sub hL (by decide) (by decide)) _ z1 hz1) gEin0 (cwV 1 C.2.2.2.2.1 gX0_imageOf_X0_actBy rfl rfl rfl (by decide +kernel) ⟨Nat.le_of_ble_eq_true rfl, Nat.le_of_ble_eq_true rfl⟩) (L56 hL (by decide) (by decide)) (by decide) rfl rfl rfl (Nat.le_of_ble_eq_true rfl) ⟨Nat.le_of_ble_eq_true rfl, Nat.le_of_ble_eq_true rfl⟩ ?_
  refine g_aload_n C dX0_imageOf_5 rfl rfl ?_
  refine g_getR (i := 0) (j := 0) C dX0_imageOf_6 (L56 hL (by decide) (by decide)) c0 rfl (by decide) f40 (fun _ h9 => h9) (LR56_0 hL (by decide) (by decide)) ?_
  refine g_iload_n C dX0_imageOf_9 rfl rfl ?_
  refine g_aload_n C dX0_imageOf_10 rfl rfl ?_
  refine g_getR (i := 8) (j := 8) C dX0_imageOf_11 (L56 hL (by decide) (by decide)) c0 rfl (by decide) f27 (fun _ h9 => h9) (LR56_8 hL (by decide) (by decide)) ?_
  obtain ⟨z2, hz2, hf⟩ := gbind hf ho
  refine g_callV C dX0_imageOf_14 (m_X2_split l X N _ _ _  (gLay.sub hL (by decide) (by decide)) _ _ z2 hz2) gEin0 (cwV 2 C.2.2.2.2.1 gX0_imageOf_X2_split rfl rfl rfl (by decide +kernel) ⟨Nat.le_of_ble_eq_true rfl, Nat.le_of_ble_eq_true rfl⟩) (L6 hL (by decide) (by decide)) (by decide) rfl rfl rfl (Nat.le_of_ble_eq_true rfl) ⟨Nat.le_of_ble_eq_true rfl, Nat.le_of_ble_eq_true rfl⟩ ?_
  refine g_aload_n C dX0_imageOf_17 rfl rfl ?_
  refine g_iload_n C dX0_imageOf_18 rfl rfl ?_
  obtain ⟨z3, hz3, hf⟩ := gbind hf ho
  refine g_callV C dX0_imageOf_19 (m_X0_follow l X N _ _ _  (gLay.sub hL (by decide) (by decide)) _ z3 hz3) gEin0 (cwV 1 C.2.2.2.2.1 gX0_imageOf_X0_follow rfl rfl rfl (by decide +kernel) ⟨Nat.le_of_ble_eq_true rfl, Nat.le_of_ble_eq_true rfl⟩) (L56 hL (by decide) (by decide)) (by decide) rfl rfl rfl (Nat.le_of_ble_eq_true rfl) ⟨Nat.le_of_ble_eq_true rfl, Nat.le_of_ble_eq_true rfl⟩ ?_
  refine g_aload_n C dX0_imageOf_22 rfl rfl ?_
  refine g_getR (i := 0) (j := 0) C dX0_imageOf_23 (L56 hL (by decide) (by decide)) c0 rfl (by decide) f40 (fun _ h9 => h9) (LR56_0 hL (by decide) (by decide)) ?_
  refine g_aload_n C dX0_imageOf_26 rfl rfl ?_
  refine g_getR (i := 7) (j := 7) C dX0_imageOf_27 (L56 hL (by decide) (by decide)) c0 rfl (by decide) f23 (fun _ h9 => h9) (LR56_7 hL (by decide) (by decide)) ?_
  obtain ⟨z4, hz4, hf⟩ := gbind hf ho
  refine g_callV C dX0_imageOf_30 (m_X2_packed l X N _ _ _  (gLay.sub hL (by decide) (by decide)) _ z4 hz4) gEin0 (cwV 1 C.2.2.2.2.1 gX0_imageOf_X2_packed rfl rfl rfl (by decide +kernel) ⟨Nat.le_of_ble_eq_true rfl, Nat.le_of_ble_eq_true rfl⟩) (L6 hL (by decide) (by decide)) (by decide) rfl rfl rfl (Nat.le_of_ble_eq_true rfl) ⟨Nat.le_of_ble_eq_true rfl, Nat.le_of_ble_eq_true rfl⟩ ?_
  obtain ⟨rfl, rfl⟩ := gs2 hf
  exact g_iret C dX0_imageOf_33 hr hlk
set_option maxRecDepth 100000 in
set_option maxHeartbeats 8000000 in
theorem m_X6_begin (l : Launch) (X : gX) (N : Nat) (I : gI) (R : gR) (S : gS) (hL : gLay 6 37 R S) (a0 : Int32) (J : gI) (hf : f_X6_begin N I R S a0 = some J) : gM l yX6_begin wsX6_begin { frames := 1, cells := 0, slots := 0, locals := 21 } X gE0 [.ref (X.1 + 17), .int a0] I R S none J R S 0 0 := by
  unfold f_X6_begin at hf
  refine gM_of (cc := cX6_begin) (own := RX6) (maxL := 2) (ret := none) (by decide) rfl rfl (Nat.le_of_ble_eq_true rfl) ?_
  intro p e s m args below meth c C hr hlk hnm hE
  have ho : (some J) ≠ none := fun h => by cases h
  have m49 := C.2.2.2.2.1 (.methodLink RX6 49 Lib.Math.min.name) (by decide +kernel)
  have hmin : gMin s args := ⟨C.2.2.2.2.1 (.static Lib.Math.min.name) (by decide +kernel), C.2.2.2.2.1 (.initialized "java/lang/Math") (by decide +kernel), C.2.2.2.2.1 (.code Lib.Math.min.name Lib.Math.min.code 2 (some .int)) (by decide +kernel)⟩
  have f29 := C.2.2.2.2.1 (.fieldLink RX6 29 "TimesByPowers$Span" "width" "I") (by decide +kernel)
  have c6 : gCl wsX6_begin 6 RX6 TX6 10 := ⟨by decide, rfl, rfl, by decide +kernel⟩
  have f33 := C.2.2.2.2.1 (.fieldLink RX6 33 "TimesByPowers$Span" "keptSize" "I") (by decide +kernel)
  have f36 := C.2.2.2.2.1 (.fieldLink RX6 36 "TimesByPowers$Span" "fed" "I") (by decide +kernel)
  refine g_aload_n C dX6_begin_0 rfl rfl ?_
  refine g_iload_n C dX6_begin_1 rfl rfl ?_
  refine g_bipush (v := 36) C dX6_begin_2 (by decide) ?_
  refine g_min C dX6_begin_4 m49 hmin (Nat.le_of_ble_eq_true rfl) (Nat.le_of_ble_eq_true rfl) ⟨Nat.le_of_ble_eq_true rfl, Nat.le_of_ble_eq_true rfl⟩ ?_
  refine g_putI (i := 7) (j := 7) C dX6_begin_7 (L17 hL (by decide) (by decide)) c6 gy6 rfl f29 (fun _ h9 => h9) (Or.inl rfl) rfl ?_
  refine g_aload_n C dX6_begin_10 rfl rfl ?_
  refine g_iconst (v := 0) C dX6_begin_11 (by decide) ?_
  refine g_putI (i := 8) (j := 8) C dX6_begin_12 (L17 hL (by decide) (by decide)) c6 gy6 rfl f33 (fun _ h9 => h9) (Or.inl rfl) rfl ?_
  refine g_aload_n C dX6_begin_15 rfl rfl ?_
  refine g_iconst (v := 0) C dX6_begin_16 (by decide) ?_
  refine g_putI (i := 9) (j := 9) C dX6_begin_17 (L17 hL (by decide) (by decide)) c6 gy6 rfl f36 (fun _ h9 => h9) (Or.inl rfl) rfl ?_
  obtain rfl := gs1 hf
  exact g_vret C dX6_begin_20 hr hlk
set_option maxRecDepth 100000 in
set_option maxHeartbeats 8000000 in
theorem m_X6_put (l : Launch) (X : gX) (N : Nat) (I : gI) (R : gR) (S : gS) (hL : gLay 6 37 R S) (a0 : Int32) (a1 : Int32) (J : gI) (hf : f_X6_put N I R S a0 a1 = some J) : gM l yX6_put wsX6_put { frames := 0, cells := 0, slots := 0, locals := 0 } X gE0 [.ref (X.1 + 17), .int a0, .int a1] I R S none J R S 0 0 := by
  unfold f_X6_put at hf
  refine gM_of (cc := cX6_put) (own := RX6) (maxL := 3) (ret := none) (by decide) rfl rfl (Nat.le_of_ble_eq_true rfl) ?_
  intro p e s m args below meth c C hr hlk hnm hE
  have ho : (some J) ≠ none := fun h => by cases h
  have f29 := C.2.2.2.2.1 (.fieldLink RX6 29 "TimesByPowers$Span" "width" "I") (by decide +kernel)
  have c6 : gCl wsX6_put 6 RX6 TX6 10 := ⟨by decide, rfl, rfl, by decide +kernel⟩
  have f11 := C.2.2.2.2.1 (.fieldLink RX6 11 "TimesByPowers$Span" "vector" "[I") (by decide +kernel)
  refine g_iload_n C dX6_put_0 rfl rfl ?_
  refine g_if_lt (tgt := 19) C dX6_put_1 (by decide) hf (fun hf => ?_) (fun hf => ?_)
  · obtain rfl := gs1 hf
    exact g_vret C dX6_put_19 hr hlk
  · refine g_iload_n C dX6_put_4 rfl rfl ?_
    refine g_aload_n C dX6_put_5 rfl rfl ?_
    refine g_getI (i := 7) (j := 7) C dX6_put_6 (L17 hL (by decide) (by decide)) c6 rfl f29 (fun _ h9 => h9) ?_
    refine g_icmp_ge (tgt := 19) C dX6_put_9 (by decide) hf (fun hf => ?_) (fun hf => ?_)
    · obtain rfl := gs1 hf
      exact g_vret C dX6_put_19 hr hlk
    · refine g_aload_n C dX6_put_12 rfl rfl ?_
      refine g_getR (i := 2) (j := 2) C dX6_put_13 (L17 hL (by decide) (by decide)) c6 rfl (by decide) f11 (fun _ h9 => h9) (LR17_2 hL (by decide) (by decide)) ?_
      refine g_iload_n C dX6_put_16 rfl rfl ?_
      refine g_iload_n C dX6_put_17 rfl rfl ?_
      refine g_iast C dX6_put_18 (L18 hL (by decide) (by decide)) ho hf (fun hf => ?_)
      obtain rfl := gs1 hf
      exact g_vret C dX6_put_19 hr hlk
set_option maxRecDepth 100000 in
set_option maxHeartbeats 8000000 in
theorem m_X6_putNumbers (l : Launch) (X : gX) (N : Nat) (I : gI) (R : gR) (S : gS) (hL : gLay 6 37 R S) (a0 : Int32) (a1 : Nat) (J : gI) (hf : f_X6_putNumbers N I R S a0 a1 = some J) : gM l yX6_putNumbers wsX6_putNumbers { frames := 1, cells := 0, slots := 0, locals := 22 } X gE0 [.ref (X.1 + 17), .int a0, .ref (X.1 + a1)] I R S none J R S 0 0 := by
  unfold f_X6_putNumbers at hf
  refine gM_of (cc := cX6_putNumbers) (own := RX6) (maxL := 4) (ret := none) (by decide) rfl rfl (Nat.le_of_ble_eq_true rfl) ?_
  intro p e s m args below meth c C hr hlk hnm hE
  have ho : (some J) ≠ none := fun h => by cases h
  have f39 := C.2.2.2.2.1 (.fieldLink RX6 39 "TimesByPowers$Span" "elements" "LTimesByPowers$Field;") (by decide +kernel)
  have c6 : gCl wsX6_putNumbers 6 RX6 TX6 10 := ⟨by decide, rfl, rfl, by decide +kernel⟩
  have f61 := C.2.2.2.2.1 (.fieldLink RX6 61 "TimesByPowers$Field" "n" "I") (by decide +kernel)
  have c2 : gCl wsX6_putNumbers 2 RX2 TX2 8 := ⟨by decide, rfl, rfl, by decide +kernel⟩
  refine g_iconst (v := 0) C dX6_putNumbers_0 (by decide) ?_
  refine g_istore_n C dX6_putNumbers_1 rfl (Nat.le_of_ble_eq_true rfl) rfl rfl ?_
  refine g_loop (fun z1 => [(0, .ref (X.1 + 17)), (1, .int a0), (2, .ref (X.1 + a1)), (3, .int z1.1)]) (fun z1 => z1.2) (fun r2 => []) (fun r2 => r2) 29 hf ho (And.intro rfl (And.intro rfl (And.intro rfl (And.intro rfl trivial)))) rfl (fun r2 hf => ?_) (fun z1 o1 hf ho hkz1 hez1 => ?_)
  · obtain rfl := gs1 hf
    exact g_vret C dX6_putNumbers_29 hr hlk
  · refine g_iload_n C dX6_putNumbers_2 rfl rfl ?_
    refine g_aload_n C dX6_putNumbers_3 rfl rfl ?_
    refine g_getR (i := 0) (j := 0) C dX6_putNumbers_4 (L17 hL (by decide) (by decide)) c6 rfl (by decide) f39 (fun _ h9 => h9) (LR17_0 hL (by decide) (by decide)) ?_
    refine g_getI (i := 1) (j := 1) C dX6_putNumbers_7 (L6 hL (by decide) (by decide)) c2 rfl f61 (fun _ h9 => h9) ?_
    refine g_icmp_ge (tgt := 29) C dX6_putNumbers_10 (by decide) hf (fun hf => ?_) (fun hf => ?_)
    · have hx := hez1 _ hf.symm
      refine g_sub ?_ hx
      exact trivial
    · refine g_aload_n C dX6_putNumbers_13 rfl rfl ?_
      refine g_iload_n C dX6_putNumbers_14 rfl rfl ?_
      refine g_iload_n C dX6_putNumbers_15 rfl rfl ?_
      refine g_iadd C dX6_putNumbers_16 ?_
      refine g_aload_n C dX6_putNumbers_17 rfl rfl ?_
      refine g_iload_n C dX6_putNumbers_18 rfl rfl ?_
      refine g_ialdD C dX6_putNumbers_19 ho hf (fun hf => ?_)
      obtain ⟨z3, hz3, hf⟩ := gbind hf ho
      refine g_callV C dX6_putNumbers_20 (m_X6_put l X N _ _ _  (gLay.sub hL (by decide) (by decide)) _ _ z3 hz3) gEin0 (cwV 2 C.2.2.2.2.1 gX6_putNumbers_X6_put rfl rfl rfl (by decide +kernel) ⟨Nat.le_of_ble_eq_true rfl, Nat.le_of_ble_eq_true rfl⟩) (L17 hL (by decide) (by decide)) (by decide) rfl rfl rfl (Nat.le_of_ble_eq_true rfl) ⟨Nat.le_of_ble_eq_true rfl, Nat.le_of_ble_eq_true rfl⟩ ?_
      refine g_iinc (d := 1) C dX6_putNumbers_23 rfl (by decide) rfl (Nat.le_of_ble_eq_true rfl) rfl rfl ?_
      refine g_goto (tgt := 2) C dX6_putNumbers_26 (by decide) ?_
      have hx := hkz1 _ hf.symm
      refine g_sub ?_ hx
      exact (And.intro rfl (And.intro rfl (And.intro rfl (And.intro rfl trivial))))
set_option maxRecDepth 100000 in
set_option maxHeartbeats 8000000 in
theorem m_X6_takeAway (l : Launch) (X : gX) (N : Nat) (I : gI) (R : gR) (S : gS) (hL : gLay 6 37 R S) (a0 : Int32) (J : gI) (hf : f_X6_takeAway N I R S a0 = some J) : gM l yX6_takeAway wsX6_takeAway { frames := 0, cells := 0, slots := 0, locals := 0 } X gE0 [.ref (X.1 + 17), .int a0] I R S none J R S 0 0 := by
  unfold f_X6_takeAway at hf
  refine gM_of (cc := cX6_takeAway) (own := RX6) (maxL := 4) (ret := none) (by decide) rfl rfl (Nat.le_of_ble_eq_true rfl) ?_
  intro p e s m args below meth c C hr hlk hnm hE
  have ho : (some J) ≠ none := fun h => by cases h
  have f48 := C.2.2.2.2.1 (.fieldLink RX6 48 "TimesByPowers$Span" "p" "I") (by decide +kernel)
  have c6 : gCl wsX6_takeAway 6 RX6 TX6 10 := ⟨by decide, rfl, rfl, by decide +kernel⟩
  have f11 := C.2.2.2.2.1 (.fieldLink RX6 11 "TimesByPowers$Span" "vector" "[I") (by decide +kernel)
  have f26 := C.2.2.2.2.1 (.fieldLink RX6 26 "TimesByPowers$Span" "lead" "[I") (by decide +kernel)
  have f29 := C.2.2.2.2.1 (.fieldLink RX6 29 "TimesByPowers$Span" "width" "I") (by decide +kernel)
  have f20 := C.2.2.2.2.1 (.fieldLink RX6 20 "TimesByPowers$Span" "kept" "[[I") (by decide +kernel)
  have f36 := C.2.2.2.2.1 (.fieldLink RX6 36 "TimesByPowers$Span" "fed" "I") (by decide +kernel)
  have f15 := C.2.2.2.2.1 (.fieldLink RX6 15 "TimesByPowers$Span" "mix" "[I") (by decide +kernel)
  have f23 := C.2.2.2.2.1 (.fieldLink RX6 23 "TimesByPowers$Span" "keptMix" "[[I") (by decide +kernel)
  refine g_aload_n C dX6_takeAway_0 rfl rfl ?_
  refine g_getI (i := 1) (j := 1) C dX6_takeAway_1 (L17 hL (by decide) (by decide)) c6 rfl f48 (fun _ h9 => h9) ?_
  refine g_aload_n C dX6_takeAway_4 rfl rfl ?_
  refine g_getR (i := 2) (j := 2) C dX6_takeAway_5 (L17 hL (by decide) (by decide)) c6 rfl (by decide) f11 (fun _ h9 => h9) (LR17_2 hL (by decide) (by decide)) ?_
  refine g_aload_n C dX6_takeAway_8 rfl rfl ?_
  refine g_getR (i := 6) (j := 6) C dX6_takeAway_9 (L17 hL (by decide) (by decide)) c6 rfl (by decide) f26 (fun _ h9 => h9) (LR17_6 hL (by decide) (by decide)) ?_
  refine g_iload_n C dX6_takeAway_12 rfl rfl ?_
  refine g_iald C dX6_takeAway_13 (L36 hL (by decide) (by decide)) ho hf (fun hf => ?_)
  refine g_iald C dX6_takeAway_14 (L18 hL (by decide) (by decide)) ho hf (fun hf => ?_)
  refine g_isub C dX6_takeAway_15 ?_
  refine g_istore_n C dX6_takeAway_16 rfl (Nat.le_of_ble_eq_true rfl) rfl rfl ?_
  refine g_iload_n C dX6_takeAway_17 rfl rfl ?_
  refine g_aload_n C dX6_takeAway_18 rfl rfl ?_
  refine g_getI (i := 1) (j := 1) C dX6_takeAway_19 (L17 hL (by decide) (by decide)) c6 rfl f48 (fun _ h9 => h9) ?_
  refine g_icmp_ne (tgt := 26) C dX6_takeAway_22 (by decide) hf (fun hf => ?_) (fun hf => ?_)
  · refine g_aload_n C dX6_takeAway_26 rfl rfl ?_
    refine g_getR (i := 6) (j := 6) C dX6_takeAway_27 (L17 hL (by decide) (by decide)) c6 rfl (by decide) f26 (fun _ h9 => h9) (LR17_6 hL (by decide) (by decide)) ?_
    refine g_iload_n C dX6_takeAway_30 rfl rfl ?_
    refine g_iald C dX6_takeAway_31 (L36 hL (by decide) (by decide)) ho hf (fun hf => ?_)
    refine g_istore_n C dX6_takeAway_32 rfl (Nat.le_of_ble_eq_true rfl) rfl rfl ?_
    refine g_loop (fun z1 => [(0, .ref (X.1 + 17)), (1, .int a0), (2, .int ((I 17 1) - (I 18 (I 36 a0.toNatClampNeg).toNatClampNeg))), (3, .int z1.1)]) (fun z1 => z1.2) (fun r2 => [(0, .ref (X.1 + 17)), (1, .int a0), (2, .int ((I 17 1) - (I 18 (I 36 a0.toNatClampNeg).toNatClampNeg)))]) (fun r2 => r2) 75 hf ho (And.intro rfl (And.intro rfl (And.intro rfl (And.intro rfl trivial)))) rfl (fun r2 hf => ?_) (fun z1 o1 hf ho hkz1 hez1 => ?_)
    · refine g_iconst (v := 0) C dX6_takeAway_75 (by decide) ?_
      refine g_istore_n C dX6_takeAway_76 rfl (Nat.le_of_ble_eq_true rfl) rfl rfl ?_
      refine g_loop (fun z4 => [(0, .ref (X.1 + 17)), (1, .int a0), (2, .int ((I 17 1) - (I 18 (I 36 a0.toNatClampNeg).toNatClampNeg))), (3, .int z4.1)]) (fun z4 => z4.2) (fun r5 => []) (fun r5 => r5) 119 hf ho (And.intro rfl (And.intro rfl (And.intro rfl (And.intro rfl trivial)))) rfl (fun r5 hf => ?_) (fun z4 o1 hf ho hkz4 hez4 => ?_)
      · obtain rfl := gs1 hf
        exact g_vret C dX6_takeAway_119 hr hlk
      · refine g_iload_n C dX6_takeAway_77 rfl rfl ?_
        refine g_aload_n C dX6_takeAway_78 rfl rfl ?_
        refine g_getI (i := 9) (j := 9) C dX6_takeAway_79 (L17 hL (by decide) (by decide)) c6 rfl f36 (fun _ h9 => h9) ?_
        refine g_icmp_ge (tgt := 119) C dX6_takeAway_82 (by decide) hf (fun hf => ?_) (fun hf => ?_)
        · have hx := hez4 _ hf.symm
          refine g_sub ?_ hx
          exact trivial
        · refine g_aload_n C dX6_takeAway_85 rfl rfl ?_
          refine g_getR (i := 3) (j := 3) C dX6_takeAway_86 (L17 hL (by decide) (by decide)) c6 rfl (by decide) f15 (fun _ h9 => h9) (LR17_3 hL (by decide) (by decide)) ?_
          refine g_iload_n C dX6_takeAway_89 rfl rfl ?_
          refine g_aload_n C dX6_takeAway_90 rfl rfl ?_
          refine g_getR (i := 3) (j := 3) C dX6_takeAway_91 (L17 hL (by decide) (by decide)) c6 rfl (by decide) f15 (fun _ h9 => h9) (LR17_3 hL (by decide) (by decide)) ?_
          refine g_iload_n C dX6_takeAway_94 rfl rfl ?_
          refine g_iald C dX6_takeAway_95 (L19 hL (by decide) (by decide)) ho hf (fun hf => ?_)
          refine g_iload_n C dX6_takeAway_96 rfl rfl ?_
          refine g_aload_n C dX6_takeAway_97 rfl rfl ?_
          refine g_getR (i := 5) (j := 5) C dX6_takeAway_98 (L17 hL (by decide) (by decide)) c6 rfl (by decide) f23 (fun _ h9 => h9) (LR17_5 hL (by decide) (by decide)) ?_
          refine g_iload_n C dX6_takeAway_101 rfl rfl ?_
          refine g_aaldG 1 (fun j => 29 + j) C dX6_takeAway_102 (by decide) (L28 hL (by decide) (by decide)) rfl rfl (fun j hj => LG28 hL (by decide) (by decide) hj) ho hf (fun hj6 hf => ?_)
          refine g_iload_n C dX6_takeAway_103 rfl rfl ?_
          refine g_iald C dX6_takeAway_104 (LH28 hL (by decide) (by decide) hj6) ho hf (fun hf => ?_)
          refine g_imul C dX6_takeAway_105 ?_
          refine g_iadd C dX6_takeAway_106 ?_
          refine g_aload_n C dX6_takeAway_107 rfl rfl ?_
          refine g_getI (i := 1) (j := 1) C dX6_takeAway_108 (L17 hL (by decide) (by decide)) c6 rfl f48 (fun _ h9 => h9) ?_
          refine g_irem C dX6_takeAway_111 ho hf (fun hf => ?_)
          refine g_iast C dX6_takeAway_112 (L19 hL (by decide) (by decide)) ho hf (fun hf => ?_)
          refine g_iinc (d := 1) C dX6_takeAway_113 rfl (by decide) rfl (Nat.le_of_ble_eq_true rfl) rfl rfl ?_
          refine g_goto (tgt := 77) C dX6_takeAway_116 (by decide) ?_
          have hx := hkz4 _ hf.symm
          refine g_sub ?_ hx
          exact (And.intro rfl (And.intro rfl (And.intro rfl (And.intro rfl trivial))))
    · refine g_iload_n C dX6_takeAway_33 rfl rfl ?_
      refine g_aload_n C dX6_takeAway_34 rfl rfl ?_
      refine g_getI (i := 7) (j := 7) C dX6_takeAway_35 (L17 hL (by decide) (by decide)) c6 rfl f29 (fun _ h9 => h9) ?_
      refine g_icmp_ge (tgt := 75) C dX6_takeAway_38 (by decide) hf (fun hf => ?_) (fun hf => ?_)
      · have hx := hez1 _ hf.symm
        refine g_sub ?_ hx
        exact (And.intro rfl (And.intro rfl (And.intro rfl trivial)))
      · refine g_aload_n C dX6_takeAway_41 rfl rfl ?_
        refine g_getR (i := 2) (j := 2) C dX6_takeAway_42 (L17 hL (by decide) (by decide)) c6 rfl (by decide) f11 (fun _ h9 => h9) (LR17_2 hL (by decide) (by decide)) ?_
        refine g_iload_n C dX6_takeAway_45 rfl rfl ?_
        refine g_aload_n C dX6_takeAway_46 rfl rfl ?_
        refine g_getR (i := 2) (j := 2) C dX6_takeAway_47 (L17 hL (by decide) (by decide)) c6 rfl (by decide) f11 (fun _ h9 => h9) (LR17_2 hL (by decide) (by decide)) ?_
        refine g_iload_n C dX6_takeAway_50 rfl rfl ?_
        refine g_iald C dX6_takeAway_51 (L18 hL (by decide) (by decide)) ho hf (fun hf => ?_)
        refine g_iload_n C dX6_takeAway_52 rfl rfl ?_
        refine g_aload_n C dX6_takeAway_53 rfl rfl ?_
        refine g_getR (i := 4) (j := 4) C dX6_takeAway_54 (L17 hL (by decide) (by decide)) c6 rfl (by decide) f20 (fun _ h9 => h9) (LR17_4 hL (by decide) (by decide)) ?_
        refine g_iload_n C dX6_takeAway_57 rfl rfl ?_
        refine g_aaldG 1 (fun j => 21 + j) C dX6_takeAway_58 (by decide) (L20 hL (by decide) (by decide)) rfl rfl (fun j hj => LG20 hL (by decide) (by decide) hj) ho hf (fun hj3 hf => ?_)
        refine g_iload_n C dX6_takeAway_59 rfl rfl ?_
        refine g_iald C dX6_takeAway_60 (LH20 hL (by decide) (by decide) hj3) ho hf (fun hf => ?_)
        refine g_imul C dX6_takeAway_61 ?_
        refine g_iadd C dX6_takeAway_62 ?_
        refine g_aload_n C dX6_takeAway_63 rfl rfl ?_
        refine g_getI (i := 1) (j := 1) C dX6_takeAway_64 (L17 hL (by decide) (by decide)) c6 rfl f48 (fun _ h9 => h9) ?_
        refine g_irem C dX6_takeAway_67 ho hf (fun hf => ?_)
        refine g_iast C dX6_takeAway_68 (L18 hL (by decide) (by decide)) ho hf (fun hf => ?_)
        refine g_iinc (d := 1) C dX6_takeAway_69 rfl (by decide) rfl (Nat.le_of_ble_eq_true rfl) rfl rfl ?_
        refine g_goto (tgt := 33) C dX6_takeAway_72 (by decide) ?_
        have hx := hkz1 _ hf.symm
        refine g_sub ?_ hx
        exact (And.intro rfl (And.intro rfl (And.intro rfl (And.intro rfl trivial))))
  · obtain rfl := gs1 hf
    exact g_vret C dX6_takeAway_25 hr hlk

