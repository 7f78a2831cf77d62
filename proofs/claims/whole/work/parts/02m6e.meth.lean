set_option maxRecDepth 100000 in
set_option maxHeartbeats 8000000 in
theorem m_X9_init (l : Launch) (X : gX) (N : Nat) (I : gI) (R : gR) (S : gS)  (J : gI) (P : gR) (T : gS) (hf : f_X9_init N I R S  = some (J, P, T)) : gM l yX9_init wsX9_init { frames := 1, cells := 1, slots := 16, locals := 20 } X gE0 [.ref (X.1 + 3)] I R S none J P T 1 16 := by
  unfold f_X9_init at hf
  refine gM_of (cc := cX9_init) (own := RX9) (maxL := 1) (ret := none) (by decide) rfl rfl (Nat.le_of_ble_eq_true rfl) ?_
  intro p e s m args below meth c C hr hlk hnm hE
  have ho : (some (J, P, T)) ≠ none := fun h => by cases h
  have m1 := C.2.2.2.2.1 (.methodLink RX9 1 objectInit) (by decide +kernel)
  have oi := C.2.2.2.2.1 (.instanceMethod objectInit) (by decide +kernel)
  have oc := C.2.2.2.2.1 (.code objectInit ⟨#[0xb1]⟩ 1 none) (by first | exact List.mem_cons_of_mem _ (List.mem_append_left _ (List.mem_of_getElem? (i := 2) rfl)) | decide +kernel)
  have ai := C.2.2.2.2.1 (.arrayClass .int) (by decide +kernel)
  have f9 := C.2.2.2.2.1 (.fieldLink RX9 9 "TimesByPowers$Trace" "numbers" "[I") (by decide +kernel)
  have c9 : gCl wsX9_init 9 RX9 TX9 2 := ⟨by decide, rfl, rfl, by decide +kernel⟩
  have f13 := C.2.2.2.2.1 (.fieldLink RX9 13 "TimesByPowers$Trace" "left" "I") (by decide +kernel)
  refine g_aload_n C dX9_init_0 rfl rfl ?_
  refine g_objInit C dX9_init_1 m1 oi oc (Nat.le_of_ble_eq_true rfl) (Nat.le_of_ble_eq_true rfl) ?_
  refine g_aload_n C dX9_init_4 rfl rfl ?_
  refine g_bipush (v := 16) C dX9_init_5 (by decide) ?_
  obtain ⟨hq1, hf⟩ := gcase hf ho
  refine g_newa (q := 4) (N' := 16) C dX9_init_7 ai (by decide) (by decide) (by decide) ⟨Nat.le_of_ble_eq_true rfl, Nat.le_of_ble_eq_true rfl⟩ hq1 ?_
  obtain ⟨hs2, hf⟩ := gcase hf ho
  refine g_putR (i := 0) (j := 0) C dX9_init_9 hs2 c9 gy9 rfl (by decide) f9 (fun _ h9 => h9) (Or.inr ⟨rfl, hnm, rfl⟩) (fun _ => ⟨rfl, rfl⟩) ?_
  refine g_aload_n C dX9_init_12 rfl rfl ?_
  refine g_iconst (v := 0) C dX9_init_13 (by decide) ?_
  refine g_putI (i := 1) (j := 1) C dX9_init_14 hs2 c9 gy9 rfl f13 (fun _ h9 => h9) (Or.inl rfl) rfl ?_
  obtain ⟨rfl, rfl, rfl⟩ := gs3 hf
  refine g_widen (k := 1) (n := 16) (Nat.le_of_ble_eq_true rfl) (Nat.le_of_ble_eq_true rfl) ?_
  exact g_vret C dX9_init_17 hr hlk
set_option maxRecDepth 100000 in
set_option maxHeartbeats 8000000 in
theorem m_X9_empty (l : Launch) (X : gX) (N : Nat) (I : gI) (R : gR) (S : gS) (hL : gLay 3 5 R S)  (J : gI) (hf : f_X9_empty N I R S  = some J) : gM l yX9_empty wsX9_empty { frames := 0, cells := 0, slots := 0, locals := 0 } X gE0 [.ref (X.1 + 3)] I R S none J R S 0 0 := by
  unfold f_X9_empty at hf
  refine gM_of (cc := cX9_empty) (own := RX9) (maxL := 1) (ret := none) (by decide) rfl rfl (Nat.le_of_ble_eq_true rfl) ?_
  intro p e s m args below meth c C hr hlk hnm hE
  have ho : (some J) ≠ none := fun h => by cases h
  have f13 := C.2.2.2.2.1 (.fieldLink RX9 13 "TimesByPowers$Trace" "left" "I") (by decide +kernel)
  have c9 : gCl wsX9_empty 9 RX9 TX9 2 := ⟨by decide, rfl, rfl, by decide +kernel⟩
  refine g_aload_n C dX9_empty_0 rfl rfl ?_
  refine g_iconst (v := 0) C dX9_empty_1 (by decide) ?_
  refine g_putI (i := 1) (j := 1) C dX9_empty_2 (L3 hL (by decide) (by decide)) c9 gy9 rfl f13 (fun _ h9 => h9) (Or.inl rfl) rfl ?_
  obtain rfl := gs1 hf
  exact g_vret C dX9_empty_5 hr hlk
set_option maxRecDepth 100000 in
set_option maxHeartbeats 8000000 in
theorem m_X9_has (l : Launch) (X : gX) (N : Nat) (I : gI) (R : gR) (S : gS) (hL : gLay 3 5 R S) (a0 : Int32) (v : Int32) (hf : f_X9_has N I R S a0 = some v) : gM l yX9_has wsX9_has { frames := 0, cells := 0, slots := 0, locals := 0 } X gE0 [.ref (X.1 + 3), .int a0] I R S (some (.int v)) I R S 0 0 := by
  unfold f_X9_has at hf
  refine gM_of (cc := cX9_has) (own := RX9) (maxL := 2) (ret := (some .boolean)) (by decide) rfl rfl (Nat.le_of_ble_eq_true rfl) ?_
  intro p e s m args below meth c C hr hlk hnm hE
  have ho : (some v) ≠ none := fun h => by cases h
  have f13 := C.2.2.2.2.1 (.fieldLink RX9 13 "TimesByPowers$Trace" "left" "I") (by decide +kernel)
  have c9 : gCl wsX9_has 9 RX9 TX9 2 := ⟨by decide, rfl, rfl, by decide +kernel⟩
  refine g_iload_n C dX9_has_0 rfl rfl ?_
  refine g_if_lt (tgt := 16) C dX9_has_1 (by decide) hf (fun hf => ?_) (fun hf => ?_)
  · refine g_iconst (v := 0) C dX9_has_16 (by decide) ?_
    obtain rfl := gs1 hf
    exact g_zret C dX9_has_17 hr hlk (by decide)
  · refine g_iload_n C dX9_has_4 rfl rfl ?_
    refine g_aload_n C dX9_has_5 rfl rfl ?_
    refine g_getI (i := 1) (j := 1) C dX9_has_6 (L3 hL (by decide) (by decide)) c9 rfl f13 (fun _ h9 => h9) ?_
    refine g_icmp_ge (tgt := 16) C dX9_has_9 (by decide) hf (fun hf => ?_) (fun hf => ?_)
    · refine g_iconst (v := 0) C dX9_has_16 (by decide) ?_
      obtain rfl := gs1 hf
      exact g_zret C dX9_has_17 hr hlk (by decide)
    · refine g_iconst (v := 1) C dX9_has_12 (by decide) ?_
      refine g_goto (tgt := 17) C dX9_has_13 (by decide) ?_
      obtain rfl := gs1 hf
      exact g_zret C dX9_has_17 hr hlk (by decide)
set_option maxRecDepth 100000 in
set_option maxHeartbeats 8000000 in
theorem m_X11_init (l : Launch) (X : gX) (N : Nat) (I : gI) (R : gR) (S : gS) (tm : Nat) (a0 : Int32) (a1 : Int32) (J : gI) (P : gR) (T : gS) (hf : f_X11_init N I R S a0 a1 = some (J, P, T)) : gM l yX11_init wsX11_init { frames := 4, cells := 90, slots := 1077, locals := 99 } X (gEC X tm) [.ref (X.1 + 0), .int a0, .int a1] I R S none J P T 90 1077 := by
  unfold f_X11_init at hf
  refine gM_of (cc := cX11_init) (own := RX11) (maxL := 5) (ret := none) (by decide) rfl rfl (Nat.le_of_ble_eq_true rfl) ?_
  intro p e s m args below meth c C hr hlk hnm hE
  have ho : (some (J, P, T)) ≠ none := fun h => by cases h
  have hZm := hE.2.2.2.1
  have hTm := hE.2.2.2.2.1
  have m1 := C.2.2.2.2.1 (.methodLink RX11 1 objectInit) (by decide +kernel)
  have oi := C.2.2.2.2.1 (.instanceMethod objectInit) (by decide +kernel)
  have oc := C.2.2.2.2.1 (.code objectInit ⟨#[0xb1]⟩ 1 none) (by first | exact List.mem_cons_of_mem _ (List.mem_append_left _ (List.mem_of_getElem? (i := 2) rfl)) | decide +kernel)
  have cl9 := C.2.2.2.2.1 (.classLink RX11 9 RX5) (by decide +kernel)
  have f11 := C.2.2.2.2.1 (.fieldLink RX11 11 "TimesByPowers" "rows" "[LTimesByPowers$Row;") (by decide +kernel)
  have c10 : gCl wsX11_init 10 RX11 TX11 8 := ⟨by decide, rfl, rfl, by decide +kernel⟩
  have cl15 := C.2.2.2.2.1 (.classLink RX11 15 RX10) (by decide +kernel)
  have f17 := C.2.2.2.2.1 (.fieldLink RX11 17 "TimesByPowers" "shelf" "[LTimesByPowers$World;") (by decide +kernel)
  have c9 : gCl wsX11_init 9 RX9 TX9 2 := ⟨by decide, rfl, rfl, by decide +kernel⟩
  have cl21 := C.2.2.2.2.1 (.classLink RX11 21 RX9) (by decide +kernel)
  have inX9 := C.2.2.2.2.1 (.instantiable RX9 2) (by decide +kernel)
  have niX9 := C.2.2.2.2.1 (.initialized RX9) (by decide +kernel)
  have imX9 := C.2.2.2.2.1 (.instanceMethod yX9_init) (by decide +kernel)
  have f24 := C.2.2.2.2.1 (.fieldLink RX11 24 "TimesByPowers" "steps" "LTimesByPowers$Trace;") (by decide +kernel)
  have ai := C.2.2.2.2.1 (.arrayClass .int) (by decide +kernel)
  have f28 := C.2.2.2.2.1 (.fieldLink RX11 28 "TimesByPowers" "taken" "[I") (by decide +kernel)
  have f32 := C.2.2.2.2.1 (.fieldLink RX11 32 "TimesByPowers" "latest" "I") (by decide +kernel)
  have c2 : gCl wsX11_init 2 RX2 TX2 8 := ⟨by decide, rfl, rfl, by decide +kernel⟩
  have cl36 := C.2.2.2.2.1 (.classLink RX11 36 RX2) (by decide +kernel)
  have inX2 := C.2.2.2.2.1 (.instantiable RX2 8) (by decide +kernel)
  have niX2 := C.2.2.2.2.1 (.initialized RX2) (by decide +kernel)
  have m38 := C.2.2.2.2.1 (.methodLink RX11 38 Lib.Math.min.name) (by decide +kernel)
  have hmin : gMin s args := ⟨C.2.2.2.2.1 (.static Lib.Math.min.name) (by decide +kernel), C.2.2.2.2.1 (.initialized "java/lang/Math") (by decide +kernel), C.2.2.2.2.1 (.code Lib.Math.min.name Lib.Math.min.code 2 (some .int)) (by decide +kernel)⟩
  have m44 := C.2.2.2.2.1 (.methodLink RX11 44 Lib.Math.max.name) (by decide +kernel)
  have hmax : gMax s args := ⟨C.2.2.2.2.1 (.static Lib.Math.max.name) (by decide +kernel), C.2.2.2.2.1 (.initialized "java/lang/Math") (by decide +kernel), C.2.2.2.2.1 (.code Lib.Math.max.name Lib.Math.max.code 2 (some .int)) (by decide +kernel)⟩
  have imX2 := C.2.2.2.2.1 (.instanceMethod yX2_init) (by decide +kernel)
  have m47 := C.2.2.2.2.1 (.methodLink RX11 47 yX2_init) (by decide +kernel)
  have f50 := C.2.2.2.2.1 (.fieldLink RX11 50 "TimesByPowers" "elements" "LTimesByPowers$Field;") (by decide +kernel)
  have c6 : gCl wsX11_init 6 RX6 TX6 10 := ⟨by decide, rfl, rfl, by decide +kernel⟩
  have cl54 := C.2.2.2.2.1 (.classLink RX11 54 RX6) (by decide +kernel)
  have inX6 := C.2.2.2.2.1 (.instantiable RX6 10) (by decide +kernel)
  have niX6 := C.2.2.2.2.1 (.initialized RX6) (by decide +kernel)
  have imX6 := C.2.2.2.2.1 (.instanceMethod yX6_init) (by decide +kernel)
  have m56 := C.2.2.2.2.1 (.methodLink RX11 56 yX6_init) (by decide +kernel)
  have c8 : gCl wsX11_init 8 RX8 TX8 10 := ⟨by decide, rfl, rfl, by decide +kernel⟩
  have cl59 := C.2.2.2.2.1 (.classLink RX11 59 RX8) (by decide +kernel)
  have inX8 := C.2.2.2.2.1 (.instantiable RX8 10) (by decide +kernel)
  have niX8 := C.2.2.2.2.1 (.initialized RX8) (by decide +kernel)
  have imX8 := C.2.2.2.2.1 (.instanceMethod yX8_init) (by decide +kernel)
  have m61 := C.2.2.2.2.1 (.methodLink RX11 61 yX8_init) (by decide +kernel)
  have f64 := C.2.2.2.2.1 (.fieldLink RX11 64 "TimesByPowers" "sums" "LTimesByPowers$Sums;") (by decide +kernel)
  have c0 : gCl wsX11_init 0 RX0 TX0 12 := ⟨by decide, rfl, rfl, by decide +kernel⟩
  have cl68 := C.2.2.2.2.1 (.classLink RX11 68 RX0) (by decide +kernel)
  have inX0 := C.2.2.2.2.1 (.instantiable RX0 12) (by decide +kernel)
  have niX0 := C.2.2.2.2.1 (.initialized RX0) (by decide +kernel)
  have imX0 := C.2.2.2.2.1 (.instanceMethod yX0_init) (by decide +kernel)
  have m70 := C.2.2.2.2.1 (.methodLink RX11 70 yX0_init) (by decide +kernel)
  have f71 := C.2.2.2.2.1 (.fieldLink RX11 71 "TimesByPowers" "action" "LTimesByPowers$Action;") (by decide +kernel)
  have c5 : gCl wsX11_init 5 RX5 TX5 3 := ⟨by decide, rfl, rfl, by decide +kernel⟩
  have inX5 := C.2.2.2.2.1 (.instantiable RX5 3) (by decide +kernel)
  have niX5 := C.2.2.2.2.1 (.initialized RX5) (by decide +kernel)
  have imX5 := C.2.2.2.2.1 (.instanceMethod yX5_init) (by decide +kernel)
  refine g_aload_n C dX11_init_0 rfl rfl ?_
  refine g_objInit C dX11_init_1 m1 oi oc (Nat.le_of_ble_eq_true rfl) (Nat.le_of_ble_eq_true rfl) ?_
  refine g_aload_n C dX11_init_4 rfl rfl ?_
  refine g_bipush (v := 8) C dX11_init_5 (by decide) ?_
  obtain ⟨hq1, hf⟩ := gcase hf ho
  refine g_anewa (q := 1) (N' := 8) 2 C dX11_init_7 cl9 hE.1 (by decide) rfl (by decide) (by decide) (by decide) ⟨Nat.le_of_ble_eq_true rfl, Nat.le_of_ble_eq_true rfl⟩ hq1 ?_
  obtain ⟨hs2, hf⟩ := gcase hf ho
  refine g_putR (i := 3) (j := 3) C dX11_init_10 hs2 c10 gy10 rfl (by decide) f11 (fun _ h9 => h9) (Or.inr ⟨rfl, hnm, rfl⟩) (fun _ => ⟨rfl, rfl⟩) ?_
  refine g_aload_n C dX11_init_13 rfl rfl ?_
  refine g_bipush (v := 10) C dX11_init_14 (by decide) ?_
  obtain ⟨hq3, hf⟩ := gcase hf ho
  refine g_anewa (q := 2) (N' := 10) 3 C dX11_init_16 cl15 hE.2.1 (by decide) rfl (by decide) (by decide) (by decide) ⟨Nat.le_of_ble_eq_true rfl, Nat.le_of_ble_eq_true rfl⟩ hq3 ?_
  refine g_putR (i := 4) (j := 4) C dX11_init_19 (gS_app hs2) c10 gy10 rfl (by decide) f17 (fun _ h9 => h9) (Or.inr ⟨rfl, hnm, rfl⟩) (fun _ => ⟨rfl, rfl⟩) ?_
  refine g_aload_n C dX11_init_22 rfl rfl ?_
  obtain ⟨hq4, hf⟩ := gcase hf ho
  refine g_new (q := 3) C dX11_init_23 c9 gy9 cl21 inX9 niX9 gd9 ⟨Nat.le_of_ble_eq_true rfl, Nat.le_of_ble_eq_true rfl⟩ hq4 ?_
  refine g_dup C dX11_init_26 rfl ?_
  obtain ⟨z5, hz5, hf⟩ := gbind hf ho
  refine g_callIN C dX11_init_27 (m_X9_init l X N _ _ _    z5.1 z5.2.1 z5.2.2 hz5) gEin0 ⟨va_cnB 0 C.2.2.2.2.1 gX11_init_X9_init_n23 rfl rfl rfl hE.2.2.2.2.2.1 niX9 (by decide +kernel) ⟨Nat.le_of_ble_eq_true rfl, Nat.le_of_ble_eq_true rfl⟩, rfl, imX9⟩ rfl rfl (Nat.le_of_ble_eq_true rfl) ⟨Nat.le_of_ble_eq_true rfl, Nat.le_of_ble_eq_true rfl⟩ ?_
  obtain ⟨hs6, hf⟩ := gcase hf ho
  refine g_putR (i := 5) (j := 5) C dX11_init_30 hs6 c10 gy10 rfl (by decide) f24 (fun _ h9 => h9) (Or.inr ⟨rfl, hnm, rfl⟩) (fun _ => ⟨rfl, rfl⟩) ?_
  refine g_aload_n C dX11_init_33 rfl rfl ?_
  refine g_iconst (v := 5) C dX11_init_34 (by decide) ?_
  obtain ⟨hq7, hf⟩ := gcase hf ho
  refine g_newa (q := 5) (N' := 5) C dX11_init_35 ai (by decide) (by decide) (by decide) ⟨Nat.le_of_ble_eq_true rfl, Nat.le_of_ble_eq_true rfl⟩ hq7 ?_
  refine g_putR (i := 6) (j := 6) C dX11_init_37 (gS_app hs6) c10 gy10 rfl (by decide) f28 (fun _ h9 => h9) (Or.inr ⟨rfl, hnm, rfl⟩) (fun _ => ⟨rfl, rfl⟩) ?_
  refine g_aload_n C dX11_init_40 rfl rfl ?_
  refine g_iconst (v := 0) C dX11_init_41 (by decide) ?_
  refine g_putI (i := 7) (j := 7) C dX11_init_42 (gS_app hs6) c10 gy10 rfl f32 (fun _ h9 => h9) (Or.inl rfl) rfl ?_
  refine g_aload_n C dX11_init_45 rfl rfl ?_
  obtain ⟨hq8, hf⟩ := gcase hf ho
  refine g_new (q := 6) C dX11_init_46 c2 gy2 cl36 inX2 niX2 gd2 ⟨Nat.le_of_ble_eq_true rfl, Nat.le_of_ble_eq_true rfl⟩ hq8 ?_
  refine g_dup C dX11_init_49 rfl ?_
  refine g_iload_n C dX11_init_50 rfl rfl ?_
  refine g_iconst (v := 3) C dX11_init_51 (by decide) ?_
  refine g_join (fun z9 => [(0, .ref (X.1 + 0)), (2, .int a1)]) (fun z9 => [.int z9, .ref (X.1 + 6), .ref (X.1 + 6), .ref (X.1 + 0)]) (fun z9 => gZ (gU (gZ z5.1 5) 0 7 (0 : Int32)) 6) 65 hf ho (fun z9 hf => ?_) (fun o1 hf ho hkz9 => ?_)
  · refine g_iconst (v := 1) C dX11_init_65 (by decide) ?_
    refine g_bipush (v := 6) C dX11_init_66 (by decide) ?_
    refine g_iload_n C dX11_init_68 rfl rfl ?_
    refine g_min C dX11_init_69 m38 hmin (Nat.le_of_ble_eq_true rfl) (Nat.le_of_ble_eq_true rfl) ⟨Nat.le_of_ble_eq_true rfl, Nat.le_of_ble_eq_true rfl⟩ ?_
    refine g_max C dX11_init_72 m44 hmax (Nat.le_of_ble_eq_true rfl) (Nat.le_of_ble_eq_true rfl) ⟨Nat.le_of_ble_eq_true rfl, Nat.le_of_ble_eq_true rfl⟩ ?_
    obtain ⟨z10, hz10, hf⟩ := gbind hf ho
    refine g_callI C dX11_init_75 (m_X2_init l X N _ _ _ tm   _ _ z10.1 z10.2.1 z10.2.2 hz10) (gEC_in hE) (cwI 2 C.2.2.2.2.1 gX11_init_X2_init rfl rfl rfl niX2 m47 imX2 rfl (by decide +kernel) ⟨Nat.le_of_ble_eq_true rfl, Nat.le_of_ble_eq_true rfl⟩) rfl rfl (Nat.le_of_ble_eq_true rfl) ⟨Nat.le_of_ble_eq_true rfl, Nat.le_of_ble_eq_true rfl⟩ ?_
    obtain ⟨hs11, hf⟩ := gcase hf ho
    refine g_putR (i := 0) (j := 0) C dX11_init_78 hs11 c10 gy10 rfl (by decide) f50 (fun _ h9 => h9) (Or.inr ⟨rfl, hnm, rfl⟩) (fun _ => ⟨rfl, rfl⟩) ?_
    obtain ⟨hq12, hf⟩ := gcase hf ho
    refine g_new (q := 17) C dX11_init_81 c6 gy6 cl54 inX6 niX6 gd6 ⟨Nat.le_of_ble_eq_true rfl, Nat.le_of_ble_eq_true rfl⟩ hq12 ?_
    refine g_dup C dX11_init_84 rfl ?_
    refine g_aload_n C dX11_init_85 rfl rfl ?_
    refine g_getR (i := 0) (j := 0) C dX11_init_86 (gS_app hs11) c10 rfl (by decide) f50 (fun _ h9 => h9) rfl ?_
    obtain ⟨z13, hz13, hf⟩ := gbind hf ho
    refine g_callI C dX11_init_89 (m_X6_init l X N _ _ _ tm    z13.1 z13.2.1 z13.2.2 hz13) (gEC_in hE) (cwI 1 C.2.2.2.2.1 gX11_init_X6_init rfl rfl rfl niX6 m56 imX6 rfl (by decide +kernel) ⟨Nat.le_of_ble_eq_true rfl, Nat.le_of_ble_eq_true rfl⟩) rfl rfl (Nat.le_of_ble_eq_true rfl) ⟨Nat.le_of_ble_eq_true rfl, Nat.le_of_ble_eq_true rfl⟩ ?_
    refine g_astore_n C dX11_init_92 rfl (Nat.le_of_ble_eq_true rfl) rfl rfl ?_
    refine g_aload_n C dX11_init_93 rfl rfl ?_
    obtain ⟨hq14, hf⟩ := gcase hf ho
    refine g_new (q := 37) C dX11_init_94 c8 gy8 cl59 inX8 niX8 gd8 ⟨Nat.le_of_ble_eq_true rfl, Nat.le_of_ble_eq_true rfl⟩ hq14 ?_
    refine g_dup C dX11_init_97 rfl ?_
    refine g_aload_n C dX11_init_98 rfl rfl ?_
    obtain ⟨hs15, hf⟩ := gcase hf ho
    obtain ⟨hL16, hf⟩ := gcase hf ho
    have hL16 := gLayb_ok (by decide) hL16
    refine g_getR (i := 0) (j := 0) C dX11_init_99 hs15 c10 rfl (by decide) f50 (fun _ h9 => h9) (LR0_0 hL16 (by decide) (by decide)) ?_
    refine g_aload_n C dX11_init_102 rfl rfl ?_
    obtain ⟨z17, hz17, hf⟩ := gbind hf ho
    refine g_callI C dX11_init_103 (m_X8_init l X N _ _ _ tm    z17.1 z17.2.1 z17.2.2 hz17) (gEC_in hE) (cwI 2 C.2.2.2.2.1 gX11_init_X8_init rfl rfl rfl niX8 m61 imX8 rfl (by decide +kernel) ⟨Nat.le_of_ble_eq_true rfl, Nat.le_of_ble_eq_true rfl⟩) rfl rfl (Nat.le_of_ble_eq_true rfl) ⟨Nat.le_of_ble_eq_true rfl, Nat.le_of_ble_eq_true rfl⟩ ?_
    obtain ⟨hs18, hf⟩ := gcase hf ho
    refine g_putR (i := 1) (j := 1) C dX11_init_106 hs18 c10 gy10 rfl (by decide) f64 (fun _ h9 => h9) (Or.inr ⟨rfl, hnm, rfl⟩) (fun _ => ⟨rfl, rfl⟩) ?_
    refine g_aload_n C dX11_init_109 rfl rfl ?_
    obtain ⟨hq19, hf⟩ := gcase hf ho
    refine g_new (q := 56) C dX11_init_110 c0 gy0 cl68 inX0 niX0 gd0 ⟨Nat.le_of_ble_eq_true rfl, Nat.le_of_ble_eq_true rfl⟩ hq19 ?_
    refine g_dup C dX11_init_113 rfl ?_
    refine g_aload_n C dX11_init_114 rfl rfl ?_
    obtain ⟨hL20, hf⟩ := gcase hf ho
    have hL20 := gLayb_ok (by decide) hL20
    refine g_getR (i := 0) (j := 0) C dX11_init_115 (gS_app hs18) c10 rfl (by decide) f50 (fun _ h9 => h9) (LR0_0 hL20 (by decide) (by decide)) ?_
    refine g_aload_n C dX11_init_118 rfl rfl ?_
    obtain ⟨z21, hz21, hf⟩ := gbind hf ho
    refine g_callI C dX11_init_119 (m_X0_init l X N _ _ _ tm    z21.1 z21.2.1 z21.2.2 hz21) (gEC_in hE) (cwI 2 C.2.2.2.2.1 gX11_init_X0_init rfl rfl rfl niX0 m70 imX0 rfl (by decide +kernel) ⟨Nat.le_of_ble_eq_true rfl, Nat.le_of_ble_eq_true rfl⟩) rfl rfl (Nat.le_of_ble_eq_true rfl) ⟨Nat.le_of_ble_eq_true rfl, Nat.le_of_ble_eq_true rfl⟩ ?_
    obtain ⟨hs22, hf⟩ := gcase hf ho
    refine g_putR (i := 2) (j := 2) C dX11_init_122 hs22 c10 gy10 rfl (by decide) f71 (fun _ h9 => h9) (Or.inr ⟨rfl, hnm, rfl⟩) (fun _ => ⟨rfl, rfl⟩) ?_
    refine g_iconst (v := 0) C dX11_init_125 (by decide) ?_
    refine g_istore C dX11_init_126 (Nat.le_of_ble_eq_true rfl) rfl rfl ?_
    refine g_iload C dX11_init_128 rfl ?_
    refine g_bipush (v := 8) C dX11_init_130 (by decide) ?_
    refine g_icmp_ge_f (tgt := 155) C dX11_init_132 (by decide) (by decide) ?_
    refine g_aload_n C dX11_init_135 rfl rfl ?_
    obtain ⟨hL23, hf⟩ := gcase hf ho
    have hL23 := gLayb_ok (by decide) hL23
    refine g_getR (i := 3) (j := 3) C dX11_init_136 hs22 c10 rfl (by decide) f11 (fun _ h9 => h9) (LR0_3 hL23 (by decide) (by decide)) ?_
    refine g_iload C dX11_init_139 rfl ?_
    obtain ⟨hq24, hf⟩ := gcase hf ho
    refine g_new (q := 75) C dX11_init_141 c5 gy5 cl9 inX5 niX5 gd5 ⟨Nat.le_of_ble_eq_true rfl, Nat.le_of_ble_eq_true rfl⟩ hq24 ?_
    refine g_dup C dX11_init_144 rfl ?_
    obtain ⟨z25, hz25, hf⟩ := gbind hf ho
    refine g_callIN C dX11_init_145 (m_X5_init l X N _ _ _   _ z25.1 z25.2.1 z25.2.2 hz25) gEin0 ⟨va_cnB 0 C.2.2.2.2.1 gX11_init_X5_init_n75 rfl rfl rfl hE.2.2.2.2.2.2 niX5 (by decide +kernel) ⟨Nat.le_of_ble_eq_true rfl, Nat.le_of_ble_eq_true rfl⟩, rfl, imX5⟩ rfl rfl (Nat.le_of_ble_eq_true rfl) ⟨Nat.le_of_ble_eq_true rfl, Nat.le_of_ble_eq_true rfl⟩ ?_
    obtain ⟨hs26, hf⟩ := gcase hf ho
    obtain ⟨hs27, hf⟩ := gcase hf ho
    refine g_aast 2 C dX11_init_148 (by decide) hs26 rfl hs27 (by decide) rfl (Or.inl rfl) ho hf (fun hf => ?_)
    refine g_iinc (d := 1) (v := (1 : Int32)) C dX11_init_149 rfl (by decide) (by decide) (Nat.le_of_ble_eq_true rfl) rfl rfl ?_
    refine g_goto (tgt := 128) C dX11_init_152 (by decide) ?_
    refine g_iload C dX11_init_128 rfl ?_
    refine g_bipush (v := 8) C dX11_init_130 (by decide) ?_
    refine g_icmp_ge_f (tgt := 155) C dX11_init_132 (by decide) (by decide) ?_
    refine g_aload_n C dX11_init_135 rfl rfl ?_
    obtain ⟨hs28, hf⟩ := gcase hf ho
    obtain ⟨hL29, hf⟩ := gcase hf ho
    have hL29 := gLayb_ok (by decide) hL29
    refine g_getR (i := 3) (j := 3) C dX11_init_136 hs28 c10 rfl (by decide) f11 (fun _ h9 => h9) (LR0_3 hL29 (by decide) (by decide)) ?_
    refine g_iload C dX11_init_139 rfl ?_
    obtain ⟨hq30, hf⟩ := gcase hf ho
    refine g_new (q := 77) C dX11_init_141 c5 gy5 cl9 inX5 niX5 gd5 ⟨Nat.le_of_ble_eq_true rfl, Nat.le_of_ble_eq_true rfl⟩ hq30 ?_
    refine g_dup C dX11_init_144 rfl ?_
    obtain ⟨z31, hz31, hf⟩ := gbind hf ho
    refine g_callIN C dX11_init_145 (m_X5_init l X N _ _ _   _ z31.1 z31.2.1 z31.2.2 hz31) gEin0 ⟨va_cnB 0 C.2.2.2.2.1 gX11_init_X5_init_n75 rfl rfl rfl hE.2.2.2.2.2.2 niX5 (by decide +kernel) ⟨Nat.le_of_ble_eq_true rfl, Nat.le_of_ble_eq_true rfl⟩, rfl, imX5⟩ rfl rfl (Nat.le_of_ble_eq_true rfl) ⟨Nat.le_of_ble_eq_true rfl, Nat.le_of_ble_eq_true rfl⟩ ?_
    obtain ⟨hs32, hf⟩ := gcase hf ho
    obtain ⟨hs33, hf⟩ := gcase hf ho
    refine g_aast 2 C dX11_init_148 (by decide) hs32 rfl hs33 (by decide) rfl (Or.inl rfl) ho hf (fun hf => ?_)
    refine g_iinc (d := 1) (v := (2 : Int32)) C dX11_init_149 rfl (by decide) (by decide) (Nat.le_of_ble_eq_true rfl) rfl rfl ?_
    refine g_goto (tgt := 128) C dX11_init_152 (by decide) ?_
    refine g_iload C dX11_init_128 rfl ?_
    refine g_bipush (v := 8) C dX11_init_130 (by decide) ?_
    refine g_icmp_ge_f (tgt := 155) C dX11_init_132 (by decide) (by decide) ?_
    refine g_aload_n C dX11_init_135 rfl rfl ?_
    obtain ⟨hs34, hf⟩ := gcase hf ho
    obtain ⟨hL35, hf⟩ := gcase hf ho
    have hL35 := gLayb_ok (by decide) hL35
    refine g_getR (i := 3) (j := 3) C dX11_init_136 hs34 c10 rfl (by decide) f11 (fun _ h9 => h9) (LR0_3 hL35 (by decide) (by decide)) ?_
    refine g_iload C dX11_init_139 rfl ?_
    obtain ⟨hq36, hf⟩ := gcase hf ho
    refine g_new (q := 79) C dX11_init_141 c5 gy5 cl9 inX5 niX5 gd5 ⟨Nat.le_of_ble_eq_true rfl, Nat.le_of_ble_eq_true rfl⟩ hq36 ?_
    refine g_dup C dX11_init_144 rfl ?_
    obtain ⟨z37, hz37, hf⟩ := gbind hf ho
    refine g_callIN C dX11_init_145 (m_X5_init l X N _ _ _   _ z37.1 z37.2.1 z37.2.2 hz37) gEin0 ⟨va_cnB 0 C.2.2.2.2.1 gX11_init_X5_init_n75 rfl rfl rfl hE.2.2.2.2.2.2 niX5 (by decide +kernel) ⟨Nat.le_of_ble_eq_true rfl, Nat.le_of_ble_eq_true rfl⟩, rfl, imX5⟩ rfl rfl (Nat.le_of_ble_eq_true rfl) ⟨Nat.le_of_ble_eq_true rfl, Nat.le_of_ble_eq_true rfl⟩ ?_
    obtain ⟨hs38, hf⟩ := gcase hf ho
    obtain ⟨hs39, hf⟩ := gcase hf ho
    refine g_aast 2 C dX11_init_148 (by decide) hs38 rfl hs39 (by decide) rfl (Or.inl rfl) ho hf (fun hf => ?_)
    refine g_iinc (d := 1) (v := (3 : Int32)) C dX11_init_149 rfl (by decide) (by decide) (Nat.le_of_ble_eq_true rfl) rfl rfl ?_
    refine g_goto (tgt := 128) C dX11_init_152 (by decide) ?_
    refine g_iload C dX11_init_128 rfl ?_
    refine g_bipush (v := 8) C dX11_init_130 (by decide) ?_
    refine g_icmp_ge_f (tgt := 155) C dX11_init_132 (by decide) (by decide) ?_
    refine g_aload_n C dX11_init_135 rfl rfl ?_
    obtain ⟨hs40, hf⟩ := gcase hf ho
    obtain ⟨hL41, hf⟩ := gcase hf ho
    have hL41 := gLayb_ok (by decide) hL41
    refine g_getR (i := 3) (j := 3) C dX11_init_136 hs40 c10 rfl (by decide) f11 (fun _ h9 => h9) (LR0_3 hL41 (by decide) (by decide)) ?_
    refine g_iload C dX11_init_139 rfl ?_
    obtain ⟨hq42, hf⟩ := gcase hf ho
    refine g_new (q := 81) C dX11_init_141 c5 gy5 cl9 inX5 niX5 gd5 ⟨Nat.le_of_ble_eq_true rfl, Nat.le_of_ble_eq_true rfl⟩ hq42 ?_
    refine g_dup C dX11_init_144 rfl ?_
    obtain ⟨z43, hz43, hf⟩ := gbind hf ho
    refine g_callIN C dX11_init_145 (m_X5_init l X N _ _ _   _ z43.1 z43.2.1 z43.2.2 hz43) gEin0 ⟨va_cnB 0 C.2.2.2.2.1 gX11_init_X5_init_n75 rfl rfl rfl hE.2.2.2.2.2.2 niX5 (by decide +kernel) ⟨Nat.le_of_ble_eq_true rfl, Nat.le_of_ble_eq_true rfl⟩, rfl, imX5⟩ rfl rfl (Nat.le_of_ble_eq_true rfl) ⟨Nat.le_of_ble_eq_true rfl, Nat.le_of_ble_eq_true rfl⟩ ?_
    obtain ⟨hs44, hf⟩ := gcase hf ho
    obtain ⟨hs45, hf⟩ := gcase hf ho
    refine g_aast 2 C dX11_init_148 (by decide) hs44 rfl hs45 (by decide) rfl (Or.inl rfl) ho hf (fun hf => ?_)
    refine g_iinc (d := 1) (v := (4 : Int32)) C dX11_init_149 rfl (by decide) (by decide) (Nat.le_of_ble_eq_true rfl) rfl rfl ?_
    refine g_goto (tgt := 128) C dX11_init_152 (by decide) ?_
    refine g_iload C dX11_init_128 rfl ?_
    refine g_bipush (v := 8) C dX11_init_130 (by decide) ?_
    refine g_icmp_ge_f (tgt := 155) C dX11_init_132 (by decide) (by decide) ?_
    refine g_aload_n C dX11_init_135 rfl rfl ?_
    obtain ⟨hs46, hf⟩ := gcase hf ho
    obtain ⟨hL47, hf⟩ := gcase hf ho
    have hL47 := gLayb_ok (by decide) hL47
    refine g_getR (i := 3) (j := 3) C dX11_init_136 hs46 c10 rfl (by decide) f11 (fun _ h9 => h9) (LR0_3 hL47 (by decide) (by decide)) ?_
    refine g_iload C dX11_init_139 rfl ?_
    obtain ⟨hq48, hf⟩ := gcase hf ho
    refine g_new (q := 83) C dX11_init_141 c5 gy5 cl9 inX5 niX5 gd5 ⟨Nat.le_of_ble_eq_true rfl, Nat.le_of_ble_eq_true rfl⟩ hq48 ?_
    refine g_dup C dX11_init_144 rfl ?_
    obtain ⟨z49, hz49, hf⟩ := gbind hf ho
    refine g_callIN C dX11_init_145 (m_X5_init l X N _ _ _   _ z49.1 z49.2.1 z49.2.2 hz49) gEin0 ⟨va_cnB 0 C.2.2.2.2.1 gX11_init_X5_init_n75 rfl rfl rfl hE.2.2.2.2.2.2 niX5 (by decide +kernel) ⟨Nat.le_of_ble_eq_true rfl, Nat.le_of_ble_eq_true rfl⟩, rfl, imX5⟩ rfl rfl (Nat.le_of_ble_eq_true rfl) ⟨Nat.le_of_ble_eq_true rfl, Nat.le_of_ble_eq_true rfl⟩ ?_
    obtain ⟨hs50, hf⟩ := gcase hf ho
    obtain ⟨hs51, hf⟩ := gcase hf ho
    refine g_aast 2 C dX11_init_148 (by decide) hs50 rfl hs51 (by decide) rfl (Or.inl rfl) ho hf (fun hf => ?_)
    refine g_iinc (d := 1) (v := (5 : Int32)) C dX11_init_149 rfl (by decide) (by decide) (Nat.le_of_ble_eq_true rfl) rfl rfl ?_
    refine g_goto (tgt := 128) C dX11_init_152 (by decide) ?_
    refine g_iload C dX11_init_128 rfl ?_
    refine g_bipush (v := 8) C dX11_init_130 (by decide) ?_
    refine g_icmp_ge_f (tgt := 155) C dX11_init_132 (by decide) (by decide) ?_
    refine g_aload_n C dX11_init_135 rfl rfl ?_
    obtain ⟨hs52, hf⟩ := gcase hf ho
    obtain ⟨hL53, hf⟩ := gcase hf ho
    have hL53 := gLayb_ok (by decide) hL53
    refine g_getR (i := 3) (j := 3) C dX11_init_136 hs52 c10 rfl (by decide) f11 (fun _ h9 => h9) (LR0_3 hL53 (by decide) (by decide)) ?_
    refine g_iload C dX11_init_139 rfl ?_
    obtain ⟨hq54, hf⟩ := gcase hf ho
    refine g_new (q := 85) C dX11_init_141 c5 gy5 cl9 inX5 niX5 gd5 ⟨Nat.le_of_ble_eq_true rfl, Nat.le_of_ble_eq_true rfl⟩ hq54 ?_
    refine g_dup C dX11_init_144 rfl ?_
    obtain ⟨z55, hz55, hf⟩ := gbind hf ho
    refine g_callIN C dX11_init_145 (m_X5_init l X N _ _ _   _ z55.1 z55.2.1 z55.2.2 hz55) gEin0 ⟨va_cnB 0 C.2.2.2.2.1 gX11_init_X5_init_n75 rfl rfl rfl hE.2.2.2.2.2.2 niX5 (by decide +kernel) ⟨Nat.le_of_ble_eq_true rfl, Nat.le_of_ble_eq_true rfl⟩, rfl, imX5⟩ rfl rfl (Nat.le_of_ble_eq_true rfl) ⟨Nat.le_of_ble_eq_true rfl, Nat.le_of_ble_eq_true rfl⟩ ?_
    obtain ⟨hs56, hf⟩ := gcase hf ho
    obtain ⟨hs57, hf⟩ := gcase hf ho
    refine g_aast 2 C dX11_init_148 (by decide) hs56 rfl hs57 (by decide) rfl (Or.inl rfl) ho hf (fun hf => ?_)
    refine g_iinc (d := 1) (v := (6 : Int32)) C dX11_init_149 rfl (by decide) (by decide) (Nat.le_of_ble_eq_true rfl) rfl rfl ?_
    refine g_goto (tgt := 128) C dX11_init_152 (by decide) ?_
    refine g_iload C dX11_init_128 rfl ?_
    refine g_bipush (v := 8) C dX11_init_130 (by decide) ?_
    refine g_icmp_ge_f (tgt := 155) C dX11_init_132 (by decide) (by decide) ?_
    refine g_aload_n C dX11_init_135 rfl rfl ?_
    obtain ⟨hs58, hf⟩ := gcase hf ho
    obtain ⟨hL59, hf⟩ := gcase hf ho
    have hL59 := gLayb_ok (by decide) hL59
    refine g_getR (i := 3) (j := 3) C dX11_init_136 hs58 c10 rfl (by decide) f11 (fun _ h9 => h9) (LR0_3 hL59 (by decide) (by decide)) ?_
    refine g_iload C dX11_init_139 rfl ?_
    obtain ⟨hq60, hf⟩ := gcase hf ho
    refine g_new (q := 87) C dX11_init_141 c5 gy5 cl9 inX5 niX5 gd5 ⟨Nat.le_of_ble_eq_true rfl, Nat.le_of_ble_eq_true rfl⟩ hq60 ?_
    refine g_dup C dX11_init_144 rfl ?_
    obtain ⟨z61, hz61, hf⟩ := gbind hf ho
    refine g_callIN C dX11_init_145 (m_X5_init l X N _ _ _   _ z61.1 z61.2.1 z61.2.2 hz61) gEin0 ⟨va_cnB 0 C.2.2.2.2.1 gX11_init_X5_init_n75 rfl rfl rfl hE.2.2.2.2.2.2 niX5 (by decide +kernel) ⟨Nat.le_of_ble_eq_true rfl, Nat.le_of_ble_eq_true rfl⟩, rfl, imX5⟩ rfl rfl (Nat.le_of_ble_eq_true rfl) ⟨Nat.le_of_ble_eq_true rfl, Nat.le_of_ble_eq_true rfl⟩ ?_
    obtain ⟨hs62, hf⟩ := gcase hf ho
    obtain ⟨hs63, hf⟩ := gcase hf ho
    refine g_aast 2 C dX11_init_148 (by decide) hs62 rfl hs63 (by decide) rfl (Or.inl rfl) ho hf (fun hf => ?_)
    refine g_iinc (d := 1) (v := (7 : Int32)) C dX11_init_149 rfl (by decide) (by decide) (Nat.le_of_ble_eq_true rfl) rfl rfl ?_
    refine g_goto (tgt := 128) C dX11_init_152 (by decide) ?_
    refine g_iload C dX11_init_128 rfl ?_
    refine g_bipush (v := 8) C dX11_init_130 (by decide) ?_
    refine g_icmp_ge_f (tgt := 155) C dX11_init_132 (by decide) (by decide) ?_
    refine g_aload_n C dX11_init_135 rfl rfl ?_
    obtain ⟨hs64, hf⟩ := gcase hf ho
    obtain ⟨hL65, hf⟩ := gcase hf ho
    have hL65 := gLayb_ok (by decide) hL65
    refine g_getR (i := 3) (j := 3) C dX11_init_136 hs64 c10 rfl (by decide) f11 (fun _ h9 => h9) (LR0_3 hL65 (by decide) (by decide)) ?_
    refine g_iload C dX11_init_139 rfl ?_
    obtain ⟨hq66, hf⟩ := gcase hf ho
    refine g_new (q := 89) C dX11_init_141 c5 gy5 cl9 inX5 niX5 gd5 ⟨Nat.le_of_ble_eq_true rfl, Nat.le_of_ble_eq_true rfl⟩ hq66 ?_
    refine g_dup C dX11_init_144 rfl ?_
    obtain ⟨z67, hz67, hf⟩ := gbind hf ho
    refine g_callIN C dX11_init_145 (m_X5_init l X N _ _ _   _ z67.1 z67.2.1 z67.2.2 hz67) gEin0 ⟨va_cnB 0 C.2.2.2.2.1 gX11_init_X5_init_n75 rfl rfl rfl hE.2.2.2.2.2.2 niX5 (by decide +kernel) ⟨Nat.le_of_ble_eq_true rfl, Nat.le_of_ble_eq_true rfl⟩, rfl, imX5⟩ rfl rfl (Nat.le_of_ble_eq_true rfl) ⟨Nat.le_of_ble_eq_true rfl, Nat.le_of_ble_eq_true rfl⟩ ?_
    obtain ⟨hs68, hf⟩ := gcase hf ho
    obtain ⟨hs69, hf⟩ := gcase hf ho
    refine g_aast 2 C dX11_init_148 (by decide) hs68 rfl hs69 (by decide) rfl (Or.inl rfl) ho hf (fun hf => ?_)
    refine g_iinc (d := 1) (v := (8 : Int32)) C dX11_init_149 rfl (by decide) (by decide) (Nat.le_of_ble_eq_true rfl) rfl rfl ?_
    refine g_goto (tgt := 128) C dX11_init_152 (by decide) ?_
    refine g_iload C dX11_init_128 rfl ?_
    refine g_bipush (v := 8) C dX11_init_130 (by decide) ?_
    refine g_icmp_ge_t (tgt := 155) C dX11_init_132 (by decide) (by decide) ?_
    obtain ⟨rfl, rfl, rfl⟩ := gs3 hf
    refine g_widen (k := 90) (n := 1077) (Nat.le_of_ble_eq_true rfl) (Nat.le_of_ble_eq_true rfl) ?_
    exact g_vret C dX11_init_155 hr hlk
  · refine g_icmp_eq (tgt := 60) C dX11_init_52 (by decide) hf (fun hf => ?_) (fun hf => ?_)
    · refine g_iload_n C dX11_init_60 rfl rfl ?_
      refine g_goto (tgt := 65) C dX11_init_61 (by decide) ?_
      have hx := hkz9 _ hf.symm
      refine g_sub ?_ hx
      exact (And.intro rfl (And.intro rfl trivial))
    · refine g_iload_n C dX11_init_55 rfl rfl ?_
      refine g_iconst (v := 5) C dX11_init_56 (by decide) ?_
      refine g_icmp_ne (tgt := 64) C dX11_init_57 (by decide) hf (fun hf => ?_) (fun hf => ?_)
      · refine g_iconst (v := 2) C dX11_init_64 (by decide) ?_
        have hx := hkz9 _ hf.symm
        refine g_sub ?_ hx
        exact (And.intro rfl (And.intro rfl trivial))
      · refine g_iload_n C dX11_init_60 rfl rfl ?_
        refine g_goto (tgt := 65) C dX11_init_61 (by decide) ?_
        have hx := hkz9 _ hf.symm
        refine g_sub ?_ hx
        exact (And.intro rfl (And.intro rfl trivial))
set_option maxRecDepth 100000 in
set_option maxHeartbeats 8000000 in
theorem m_X11_isRow (l : Launch) (X : gX) (N : Nat) (I : gI) (R : gR) (S : gS) (hL : gLay 0 91 R S) (a0 : Int32) (v : Int32) (hf : f_X11_isRow N I R S a0 = some v) : gM l yX11_isRow wsX11_isRow { frames := 0, cells := 0, slots := 0, locals := 0 } X gE0 [.int a0] I R S (some (.int v)) I R S 0 0 := by
  unfold f_X11_isRow at hf
  refine gM_of (cc := cX11_isRow) (own := RX11) (maxL := 1) (ret := (some .boolean)) (by decide) rfl rfl (Nat.le_of_ble_eq_true rfl) ?_
  intro p e s m args below meth c C hr hlk hnm hE
  have ho : (some v) ≠ none := fun h => by cases h
  refine g_iload_n C dX11_isRow_0 rfl rfl ?_
  refine g_if_lt (tgt := 14) C dX11_isRow_1 (by decide) hf (fun hf => ?_) (fun hf => ?_)
  · refine g_iconst (v := 0) C dX11_isRow_14 (by decide) ?_
    obtain rfl := gs1 hf
    exact g_zret C dX11_isRow_15 hr hlk (by decide)
  · refine g_iload_n C dX11_isRow_4 rfl rfl ?_
    refine g_bipush (v := 8) C dX11_isRow_5 (by decide) ?_
    refine g_icmp_ge (tgt := 14) C dX11_isRow_7 (by decide) hf (fun hf => ?_) (fun hf => ?_)
    · refine g_iconst (v := 0) C dX11_isRow_14 (by decide) ?_
      obtain rfl := gs1 hf
      exact g_zret C dX11_isRow_15 hr hlk (by decide)
    · refine g_iconst (v := 1) C dX11_isRow_10 (by decide) ?_
      refine g_goto (tgt := 15) C dX11_isRow_11 (by decide) ?_
      obtain rfl := gs1 hf
      exact g_zret C dX11_isRow_15 hr hlk (by decide)
set_option maxRecDepth 100000 in
set_option maxHeartbeats 8000000 in
theorem m_X11_found (l : Launch) (X : gX) (N : Nat) (I : gI) (R : gR) (S : gS) (hL : gLay 0 91 R S) (a0 : Int32) (v : Int32) (J : gI) (hf : f_X11_found N I R S a0 = some (v, J)) : gM l yX11_found wsX11_found { frames := 0, cells := 0, slots := 0, locals := 0 } X gE0 [.ref (X.1 + 0), .int a0] I R S (some (.int v)) J R S 0 0 := by
  unfold f_X11_found at hf
  refine gM_of (cc := cX11_found) (own := RX11) (maxL := 2) (ret := (some .int)) (by decide) rfl rfl (Nat.le_of_ble_eq_true rfl) ?_
  intro p e s m args below meth c C hr hlk hnm hE
  have ho : (some (v, J)) ≠ none := fun h => by cases h
  have f32 := C.2.2.2.2.1 (.fieldLink RX11 32 "TimesByPowers" "latest" "I") (by decide +kernel)
  have c10 : gCl wsX11_found 10 RX11 TX11 8 := ⟨by decide, rfl, rfl, by decide +kernel⟩
  have k255 := C.2.2.2.2.1 (.constant RX11 255 (-1000010)) (by decide +kernel)
  refine g_aload_n C dX11_found_0 rfl rfl ?_
  refine g_iload_n C dX11_found_1 rfl rfl ?_
  refine g_putI (i := 7) (j := 7) C dX11_found_2 (L0 hL (by decide) (by decide)) c10 gy10 rfl f32 (fun _ h9 => h9) (Or.inl rfl) rfl ?_
  refine g_ldc C k255 dX11_found_5 ?_
  refine g_iload_n C dX11_found_7 rfl rfl ?_
  refine g_isub C dX11_found_8 ?_
  obtain ⟨rfl, rfl⟩ := gs2 hf
  exact g_iret C dX11_found_9 hr hlk
set_option maxRecDepth 100000 in
set_option maxHeartbeats 8000000 in
theorem m_X11_fine (l : Launch) (X : gX) (N : Nat) (I : gI) (R : gR) (S : gS) (hL : gLay 0 91 R S) (a0 : Int32) (v : Int32) (J : gI) (hf : f_X11_fine N I R S a0 = some (v, J)) : gM l yX11_fine wsX11_fine { frames := 0, cells := 0, slots := 0, locals := 0 } X gE0 [.ref (X.1 + 0), .int a0] I R S (some (.int v)) J R S 0 0 := by
  unfold f_X11_fine at hf
  refine gM_of (cc := cX11_fine) (own := RX11) (maxL := 2) (ret := (some .int)) (by decide) rfl rfl (Nat.le_of_ble_eq_true rfl) ?_
  intro p e s m args below meth c C hr hlk hnm hE
  have ho : (some (v, J)) ≠ none := fun h => by cases h
  have f32 := C.2.2.2.2.1 (.fieldLink RX11 32 "TimesByPowers" "latest" "I") (by decide +kernel)
  have c10 : gCl wsX11_fine 10 RX11 TX11 8 := ⟨by decide, rfl, rfl, by decide +kernel⟩
  refine g_aload_n C dX11_fine_0 rfl rfl ?_
  refine g_iconst (v := 0) C dX11_fine_1 (by decide) ?_
  refine g_putI (i := 7) (j := 7) C dX11_fine_2 (L0 hL (by decide) (by decide)) c10 gy10 rfl f32 (fun _ h9 => h9) (Or.inl rfl) rfl ?_
  refine g_iload_n C dX11_fine_5 rfl rfl ?_
  obtain ⟨rfl, rfl⟩ := gs2 hf
  exact g_iret C dX11_fine_6 hr hlk
set_option maxRecDepth 100000 in
set_option maxHeartbeats 8000000 in
theorem m_X11_row (l : Launch) (X : gX) (N : Nat) (I : gI) (R : gR) (S : gS) (hL : gLay 0 91 R S) (a0 : Int32) (a1 : Int32) (a2 : Int32) (v : Int32) (J : gI) (hf : f_X11_row N I R S a0 a1 a2 = some (v, J)) : gM l yX11_row wsX11_row { frames := 2, cells := 0, slots := 0, locals := 45 } X gE0 [.ref (X.1 + 0), .int a0, .int a1, .int a2] I R S (some (.int v)) J R S 0 0 := by
  unfold f_X11_row at hf
  refine gM_of (cc := cX11_row) (own := RX11) (maxL := 4) (ret := (some .int)) (by decide) rfl rfl (Nat.le_of_ble_eq_true rfl) ?_
  intro p e s m args below meth c C hr hlk hnm hE
  have ho : (some (v, J)) ≠ none := fun h => by cases h
  have k80 := C.2.2.2.2.1 (.constant RX11 80 (-1000001)) (by decide +kernel)
  have f11 := C.2.2.2.2.1 (.fieldLink RX11 11 "TimesByPowers" "rows" "[LTimesByPowers$Row;") (by decide +kernel)
  have c10 : gCl wsX11_row 10 RX11 TX11 8 := ⟨by decide, rfl, rfl, by decide +kernel⟩
  refine g_iload_n C dX11_row_0 rfl rfl ?_
  obtain ⟨z1, hz1, hf⟩ := gbind hf ho
  refine g_callS C dX11_row_1 (m_X11_isRow l X N _ _ _  (gLay.sub hL (by decide) (by decide)) _ z1 hz1) gEin0 (va_cwS 1 C.2.2.2.2.1 gX11_row_X11_isRow rfl rfl rfl (by decide +kernel) ⟨Nat.le_of_ble_eq_true rfl, Nat.le_of_ble_eq_true rfl⟩) rfl rfl (Nat.le_of_ble_eq_true rfl) ⟨Nat.le_of_ble_eq_true rfl, Nat.le_of_ble_eq_true rfl⟩ ?_
  refine g_if_eq (tgt := 22) C dX11_row_4 (by decide) hf (fun hf => ?_) (fun hf => ?_)
  · refine g_ldc C k80 dX11_row_22 ?_
    obtain ⟨rfl, rfl⟩ := gs2 hf
    exact g_iret C dX11_row_24 hr hlk
  · refine g_iload_n C dX11_row_7 rfl rfl ?_
    refine g_if_lt (tgt := 22) C dX11_row_8 (by decide) hf (fun hf => ?_) (fun hf => ?_)
    · refine g_ldc C k80 dX11_row_22 ?_
      obtain ⟨rfl, rfl⟩ := gs2 hf
      exact g_iret C dX11_row_24 hr hlk
    · refine g_iload_n C dX11_row_11 rfl rfl ?_
      refine g_iconst (v := 3) C dX11_row_12 (by decide) ?_
      refine g_icmp_ge (tgt := 22) C dX11_row_13 (by decide) hf (fun hf => ?_) (fun hf => ?_)
      · refine g_ldc C k80 dX11_row_22 ?_
        obtain ⟨rfl, rfl⟩ := gs2 hf
        exact g_iret C dX11_row_24 hr hlk
      · refine g_iload_n C dX11_row_16 rfl rfl ?_
        refine g_bipush (v := 24) C dX11_row_17 (by decide) ?_
        refine g_icmp_le (tgt := 25) C dX11_row_19 (by decide) hf (fun hf => ?_) (fun hf => ?_)
        · refine g_iload_n C dX11_row_25 rfl rfl ?_
          refine g_if_ge (tgt := 35) C dX11_row_26 (by decide) hf (fun hf => ?_) (fun hf => ?_)
          · refine g_aload_n C dX11_row_35 rfl rfl ?_
            refine g_getR (i := 3) (j := 3) C dX11_row_36 (L0 hL (by decide) (by decide)) c10 rfl (by decide) f11 (fun _ h9 => h9) (LR0_3 hL (by decide) (by decide)) ?_
            refine g_iload_n C dX11_row_39 rfl rfl ?_
            refine g_aaldG 2 (fun j => 75 + 2 * j) C dX11_row_40 (by decide) (L1 hL (by decide) (by decide)) rfl rfl (fun j hj => LG1 hL (by decide) (by decide) hj) ho hf (fun hj2 hf => ?_)
            refine g_iload_n C dX11_row_41 rfl rfl ?_
            refine g_iload_n C dX11_row_42 rfl rfl ?_
            obtain ⟨z3, hz3, hf⟩ := gbind hf ho
            refine g_callV C dX11_row_43 (m_X5_begin l X N _ _ _   _ _ _ (LH1 hL (by decide) (by decide) hj2) z3 hz3) gEin0 (cwV 2 C.2.2.2.2.1 gX11_row_X5_begin rfl rfl rfl (by decide +kernel) ⟨Nat.le_of_ble_eq_true rfl, Nat.le_of_ble_eq_true rfl⟩) ((LH1 hL (by decide) (by decide) hj2)).1 (by decide) rfl rfl rfl (Nat.le_of_ble_eq_true rfl) ⟨Nat.le_of_ble_eq_true rfl, Nat.le_of_ble_eq_true rfl⟩ ?_
            refine g_aload_n C dX11_row_46 rfl rfl ?_
            refine g_iload_n C dX11_row_47 rfl rfl ?_
            obtain ⟨z4, hz4, hf⟩ := gbind hf ho
            refine g_callV C dX11_row_48 (m_X11_fine l X N _ _ _  (gLay.sub hL (by decide) (by decide)) _ z4.1 z4.2 hz4) gEin0 (cwV 1 C.2.2.2.2.1 gX11_row_X11_fine rfl rfl rfl (by decide +kernel) ⟨Nat.le_of_ble_eq_true rfl, Nat.le_of_ble_eq_true rfl⟩) (L0 hL (by decide) (by decide)) (by decide) rfl rfl rfl (Nat.le_of_ble_eq_true rfl) ⟨Nat.le_of_ble_eq_true rfl, Nat.le_of_ble_eq_true rfl⟩ ?_
            obtain ⟨rfl, rfl⟩ := gs2 hf
            exact g_iret C dX11_row_51 hr hlk
          · refine g_aload_n C dX11_row_29 rfl rfl ?_
            refine g_iconst (v := 4) C dX11_row_30 (by decide) ?_
            obtain ⟨z5, hz5, hf⟩ := gbind hf ho
            refine g_callV C dX11_row_31 (m_X11_found l X N _ _ _  (gLay.sub hL (by decide) (by decide)) _ z5.1 z5.2 hz5) gEin0 (cwV 1 C.2.2.2.2.1 gX11_row_X11_found rfl rfl rfl (by decide +kernel) ⟨Nat.le_of_ble_eq_true rfl, Nat.le_of_ble_eq_true rfl⟩) (L0 hL (by decide) (by decide)) (by decide) rfl rfl rfl (Nat.le_of_ble_eq_true rfl) ⟨Nat.le_of_ble_eq_true rfl, Nat.le_of_ble_eq_true rfl⟩ ?_
            obtain ⟨rfl, rfl⟩ := gs2 hf
            exact g_iret C dX11_row_34 hr hlk
        · refine g_ldc C k80 dX11_row_22 ?_
          obtain ⟨rfl, rfl⟩ := gs2 hf
          exact g_iret C dX11_row_24 hr hlk
set_option maxRecDepth 100000 in
set_option maxHeartbeats 8000000 in
theorem m_X11_set (l : Launch) (X : gX) (N : Nat) (I : gI) (R : gR) (S : gS) (hL : gLay 0 91 R S) (a0 : Int32) (a1 : Int32) (a2 : Int32) (v : Int32) (J : gI) (hf : f_X11_set N I R S a0 a1 a2 = some (v, J)) : gM l yX11_set wsX11_set { frames := 1, cells := 0, slots := 0, locals := 22 } X gE0 [.ref (X.1 + 0), .int a0, .int a1, .int a2] I R S (some (.int v)) J R S 0 0 := by
  unfold f_X11_set at hf
  refine gM_of (cc := cX11_set) (own := RX11) (maxL := 5) (ret := (some .int)) (by decide) rfl rfl (Nat.le_of_ble_eq_true rfl) ?_
  intro p e s m args below meth c C hr hlk hnm hE
  have ho : (some (v, J)) ≠ none := fun h => by cases h
  have f11 := C.2.2.2.2.1 (.fieldLink RX11 11 "TimesByPowers" "rows" "[LTimesByPowers$Row;") (by decide +kernel)
  have c10 : gCl wsX11_set 10 RX11 TX11 8 := ⟨by decide, rfl, rfl, by decide +kernel⟩
  have k80 := C.2.2.2.2.1 (.constant RX11 80 (-1000001)) (by decide +kernel)
  refine g_iload_n C dX11_set_0 rfl rfl ?_
  obtain ⟨z1, hz1, hf⟩ := gbind hf ho
  refine g_callS C dX11_set_1 (m_X11_isRow l X N _ _ _  (gLay.sub hL (by decide) (by decide)) _ z1 hz1) gEin0 (va_cwS 1 C.2.2.2.2.1 gX11_set_X11_isRow rfl rfl rfl (by decide +kernel) ⟨Nat.le_of_ble_eq_true rfl, Nat.le_of_ble_eq_true rfl⟩) rfl rfl (Nat.le_of_ble_eq_true rfl) ⟨Nat.le_of_ble_eq_true rfl, Nat.le_of_ble_eq_true rfl⟩ ?_
  refine g_if_ne (tgt := 10) C dX11_set_4 (by decide) hf (fun hf => ?_) (fun hf => ?_)
  · refine g_aload_n C dX11_set_10 rfl rfl ?_
    refine g_getR (i := 3) (j := 3) C dX11_set_11 (L0 hL (by decide) (by decide)) c10 rfl (by decide) f11 (fun _ h9 => h9) (LR0_3 hL (by decide) (by decide)) ?_
    refine g_iload_n C dX11_set_14 rfl rfl ?_
    refine g_aaldG 2 (fun j => 75 + 2 * j) C dX11_set_15 (by decide) (L1 hL (by decide) (by decide)) rfl rfl (fun j hj => LG1 hL (by decide) (by decide) hj) ho hf (fun hj2 hf => ?_)
    refine g_astore C dX11_set_16 (Nat.le_of_ble_eq_true rfl) rfl rfl ?_
    refine g_aload C dX11_set_18 rfl ?_
    obtain ⟨z3, hz3, hf⟩ := gbind hf ho
    refine g_callV C dX11_set_20 (m_X5_isMissing l X N _ _ _   _ (LH1 hL (by decide) (by decide) hj2) z3 hz3) gEin0 (cwV 0 C.2.2.2.2.1 gX11_set_X5_isMissing rfl rfl rfl (by decide +kernel) ⟨Nat.le_of_ble_eq_true rfl, Nat.le_of_ble_eq_true rfl⟩) ((LH1 hL (by decide) (by decide) hj2)).1 (by decide) rfl rfl rfl (Nat.le_of_ble_eq_true rfl) ⟨Nat.le_of_ble_eq_true rfl, Nat.le_of_ble_eq_true rfl⟩ ?_
    refine g_if_eq (tgt := 32) C dX11_set_23 (by decide) hf (fun hf => ?_) (fun hf => ?_)
    · refine g_aload C dX11_set_32 rfl ?_
      refine g_iload_n C dX11_set_34 rfl rfl ?_
      refine g_iconst (v := 1) C dX11_set_35 (by decide) ?_
      obtain ⟨z4, hz4, hf⟩ := gbind hf ho
      refine g_callV C dX11_set_36 (m_X5_hasItems l X N _ _ _   _ _ _ (LH1 hL (by decide) (by decide) hj2) z4 hz4) gEin0 (cwV 2 C.2.2.2.2.1 gX11_set_X5_hasItems rfl rfl rfl (by decide +kernel) ⟨Nat.le_of_ble_eq_true rfl, Nat.le_of_ble_eq_true rfl⟩) ((LH1 hL (by decide) (by decide) hj2)).1 (by decide) rfl rfl rfl (Nat.le_of_ble_eq_true rfl) ⟨Nat.le_of_ble_eq_true rfl, Nat.le_of_ble_eq_true rfl⟩ ?_
      refine g_if_ne (tgt := 48) C dX11_set_39 (by decide) hf (fun hf => ?_) (fun hf => ?_)
      · refine g_aload_n C dX11_set_48 rfl rfl ?_
        refine g_aload C dX11_set_49 rfl ?_
        refine g_iload_n C dX11_set_51 rfl rfl ?_
        refine g_iload_n C dX11_set_52 rfl rfl ?_
        obtain ⟨z5, hz5, hf⟩ := gbind hf ho
        refine g_callV C dX11_set_53 (m_X5_put l X N _ _ _   _ _ _ (LH1 hL (by decide) (by decide) hj2) z5.1 z5.2 hz5) gEin0 (cwV 2 C.2.2.2.2.1 gX11_set_X5_put rfl rfl rfl (by decide +kernel) ⟨Nat.le_of_ble_eq_true rfl, Nat.le_of_ble_eq_true rfl⟩) ((LH1 hL (by decide) (by decide) hj2)).1 (by decide) rfl rfl rfl (Nat.le_of_ble_eq_true rfl) ⟨Nat.le_of_ble_eq_true rfl, Nat.le_of_ble_eq_true rfl⟩ ?_
        obtain ⟨z6, hz6, hf⟩ := gbind hf ho
        refine g_callV C dX11_set_56 (m_X11_fine l X N _ _ _  (gLay.sub hL (by decide) (by decide)) _ z6.1 z6.2 hz6) gEin0 (cwV 1 C.2.2.2.2.1 gX11_set_X11_fine rfl rfl rfl (by decide +kernel) ⟨Nat.le_of_ble_eq_true rfl, Nat.le_of_ble_eq_true rfl⟩) (L0 hL (by decide) (by decide)) (by decide) rfl rfl rfl (Nat.le_of_ble_eq_true rfl) ⟨Nat.le_of_ble_eq_true rfl, Nat.le_of_ble_eq_true rfl⟩ ?_
        obtain ⟨rfl, rfl⟩ := gs2 hf
        exact g_iret C dX11_set_59 hr hlk
      · refine g_aload_n C dX11_set_42 rfl rfl ?_
        refine g_iconst (v := 2) C dX11_set_43 (by decide) ?_
        obtain ⟨z7, hz7, hf⟩ := gbind hf ho
        refine g_callV C dX11_set_44 (m_X11_found l X N _ _ _  (gLay.sub hL (by decide) (by decide)) _ z7.1 z7.2 hz7) gEin0 (cwV 1 C.2.2.2.2.1 gX11_set_X11_found rfl rfl rfl (by decide +kernel) ⟨Nat.le_of_ble_eq_true rfl, Nat.le_of_ble_eq_true rfl⟩) (L0 hL (by decide) (by decide)) (by decide) rfl rfl rfl (Nat.le_of_ble_eq_true rfl) ⟨Nat.le_of_ble_eq_true rfl, Nat.le_of_ble_eq_true rfl⟩ ?_
        obtain ⟨rfl, rfl⟩ := gs2 hf
        exact g_iret C dX11_set_47 hr hlk
    · refine g_aload_n C dX11_set_26 rfl rfl ?_
      refine g_iconst (v := 1) C dX11_set_27 (by decide) ?_
      obtain ⟨z8, hz8, hf⟩ := gbind hf ho
      refine g_callV C dX11_set_28 (m_X11_found l X N _ _ _  (gLay.sub hL (by decide) (by decide)) _ z8.1 z8.2 hz8) gEin0 (cwV 1 C.2.2.2.2.1 gX11_set_X11_found rfl rfl rfl (by decide +kernel) ⟨Nat.le_of_ble_eq_true rfl, Nat.le_of_ble_eq_true rfl⟩) (L0 hL (by decide) (by decide)) (by decide) rfl rfl rfl (Nat.le_of_ble_eq_true rfl) ⟨Nat.le_of_ble_eq_true rfl, Nat.le_of_ble_eq_true rfl⟩ ?_
      obtain ⟨rfl, rfl⟩ := gs2 hf
      exact g_iret C dX11_set_31 hr hlk
  · refine g_ldc C k80 dX11_set_7 ?_
    obtain ⟨rfl, rfl⟩ := gs2 hf
    exact g_iret C dX11_set_9 hr hlk
set_option maxRecDepth 100000 in
set_option maxHeartbeats 8000000 in
theorem m_X11_copy (l : Launch) (X : gX) (N : Nat) (I : gI) (R : gR) (S : gS) (hL : gLay 0 91 R S) (a0 : Int32) (a1 : Int32) (a2 : Int32) (a3 : Int32) (a4 : Int32) (v : Int32) (J : gI) (hf : f_X11_copy N I R S a0 a1 a2 a3 a4 = some (v, J)) : gM l yX11_copy wsX11_copy { frames := 1, cells := 0, slots := 0, locals := 43 } X gE0 [.ref (X.1 + 0), .int a0, .int a1, .int a2, .int a3, .int a4] I R S (some (.int v)) J R S 0 0 := by
  unfold f_X11_copy at hf
  refine gM_of (cc := cX11_copy) (own := RX11) (maxL := 8) (ret := (some .int)) (by decide) rfl rfl (Nat.le_of_ble_eq_true rfl) ?_
  intro p e s m args below meth c C hr hlk hnm hE
  have ho : (some (v, J)) ≠ none := fun h => by cases h
  have k80 := C.2.2.2.2.1 (.constant RX11 80 (-1000001)) (by decide +kernel)
  have f11 := C.2.2.2.2.1 (.fieldLink RX11 11 "TimesByPowers" "rows" "[LTimesByPowers$Row;") (by decide +kernel)
  have c10 : gCl wsX11_copy 10 RX11 TX11 8 := ⟨by decide, rfl, rfl, by decide +kernel⟩
  have f102 := C.2.2.2.2.1 (.fieldLink RX11 102 "TimesByPowers$Row" "lane" "I") (by decide +kernel)
  have c5 : gCl wsX11_copy 5 RX5 TX5 3 := ⟨by decide, rfl, rfl, by decide +kernel⟩
  have f105 := C.2.2.2.2.1 (.fieldLink RX11 105 "TimesByPowers$Row" "items" "[I") (by decide +kernel)
  have m108 := C.2.2.2.2.1 (.methodLink RX11 108 arraycopyName) (by decide +kernel)
  have hacw : gAcw s args := ⟨C.2.2.2.2.1 (.native arraycopyName) (by decide +kernel), C.2.2.2.2.1 (.static arraycopyName) (by decide +kernel), C.2.2.2.2.1 (.initialized "java/lang/System") (by decide +kernel)⟩
  refine g_iload_n C dX11_copy_0 rfl rfl ?_
  obtain ⟨z1, hz1, hf⟩ := gbind hf ho
  refine g_callS C dX11_copy_1 (m_X11_isRow l X N _ _ _  (gLay.sub hL (by decide) (by decide)) _ z1 hz1) gEin0 (va_cwS 1 C.2.2.2.2.1 gX11_copy_X11_isRow rfl rfl rfl (by decide +kernel) ⟨Nat.le_of_ble_eq_true rfl, Nat.le_of_ble_eq_true rfl⟩) rfl rfl (Nat.le_of_ble_eq_true rfl) ⟨Nat.le_of_ble_eq_true rfl, Nat.le_of_ble_eq_true rfl⟩ ?_
  refine g_if_eq (tgt := 14) C dX11_copy_4 (by decide) hf (fun hf => ?_) (fun hf => ?_)
  · refine g_ldc C k80 dX11_copy_14 ?_
    obtain ⟨rfl, rfl⟩ := gs2 hf
    exact g_iret C dX11_copy_16 hr hlk
  · refine g_iload_n C dX11_copy_7 rfl rfl ?_
    obtain ⟨z2, hz2, hf⟩ := gbind hf ho
    refine g_callS C dX11_copy_8 (m_X11_isRow l X N _ _ _  (gLay.sub hL (by decide) (by decide)) _ z2 hz2) gEin0 (va_cwS 1 C.2.2.2.2.1 gX11_copy_X11_isRow rfl rfl rfl (by decide +kernel) ⟨Nat.le_of_ble_eq_true rfl, Nat.le_of_ble_eq_true rfl⟩) rfl rfl (Nat.le_of_ble_eq_true rfl) ⟨Nat.le_of_ble_eq_true rfl, Nat.le_of_ble_eq_true rfl⟩ ?_
    refine g_if_ne (tgt := 17) C dX11_copy_11 (by decide) hf (fun hf => ?_) (fun hf => ?_)
    · refine g_aload_n C dX11_copy_17 rfl rfl ?_
      refine g_getR (i := 3) (j := 3) C dX11_copy_18 (L0 hL (by decide) (by decide)) c10 rfl (by decide) f11 (fun _ h9 => h9) (LR0_3 hL (by decide) (by decide)) ?_
      refine g_iload_n C dX11_copy_21 rfl rfl ?_
      refine g_aaldG 2 (fun j => 75 + 2 * j) C dX11_copy_22 (by decide) (L1 hL (by decide) (by decide)) rfl rfl (fun j hj => LG1 hL (by decide) (by decide) hj) ho hf (fun hj3 hf => ?_)
      refine g_astore C dX11_copy_23 (Nat.le_of_ble_eq_true rfl) rfl rfl ?_
      refine g_aload_n C dX11_copy_25 rfl rfl ?_
      refine g_getR (i := 3) (j := 3) C dX11_copy_26 (L0 hL (by decide) (by decide)) c10 rfl (by decide) f11 (fun _ h9 => h9) (LR0_3 hL (by decide) (by decide)) ?_
      refine g_iload_n C dX11_copy_29 rfl rfl ?_
      refine g_aaldG 2 (fun j => 75 + 2 * j) C dX11_copy_30 (by decide) (L1 hL (by decide) (by decide)) rfl rfl (fun j hj => LG1 hL (by decide) (by decide) hj) ho hf (fun hj4 hf => ?_)
      refine g_astore C dX11_copy_31 (Nat.le_of_ble_eq_true rfl) rfl rfl ?_
      refine g_aload C dX11_copy_33 rfl ?_
      obtain ⟨z5, hz5, hf⟩ := gbind hf ho
      refine g_callV C dX11_copy_35 (m_X5_isMissing l X N _ _ _   _ (LH1 hL (by decide) (by decide) hj3) z5 hz5) gEin0 (cwV 0 C.2.2.2.2.1 gX11_copy_X5_isMissing rfl rfl rfl (by decide +kernel) ⟨Nat.le_of_ble_eq_true rfl, Nat.le_of_ble_eq_true rfl⟩) ((LH1 hL (by decide) (by decide) hj3)).1 (by decide) rfl rfl rfl (Nat.le_of_ble_eq_true rfl) ⟨Nat.le_of_ble_eq_true rfl, Nat.le_of_ble_eq_true rfl⟩ ?_
      refine g_if_ne (tgt := 49) C dX11_copy_38 (by decide) hf (fun hf => ?_) (fun hf => ?_)
      · refine g_aload_n C dX11_copy_49 rfl rfl ?_
        refine g_iconst (v := 1) C dX11_copy_50 (by decide) ?_
        obtain ⟨z6, hz6, hf⟩ := gbind hf ho
        refine g_callV C dX11_copy_51 (m_X11_found l X N _ _ _  (gLay.sub hL (by decide) (by decide)) _ z6.1 z6.2 hz6) gEin0 (cwV 1 C.2.2.2.2.1 gX11_copy_X11_found rfl rfl rfl (by decide +kernel) ⟨Nat.le_of_ble_eq_true rfl, Nat.le_of_ble_eq_true rfl⟩) (L0 hL (by decide) (by decide)) (by decide) rfl rfl rfl (Nat.le_of_ble_eq_true rfl) ⟨Nat.le_of_ble_eq_true rfl, Nat.le_of_ble_eq_true rfl⟩ ?_
        obtain ⟨rfl, rfl⟩ := gs2 hf
        exact g_iret C dX11_copy_54 hr hlk
      · refine g_aload C dX11_copy_41 rfl ?_
        obtain ⟨z7, hz7, hf⟩ := gbind hf ho
        refine g_callV C dX11_copy_43 (m_X5_isMissing l X N _ _ _   _ (LH1 hL (by decide) (by decide) hj4) z7 hz7) gEin0 (cwV 0 C.2.2.2.2.1 gX11_copy_X5_isMissing rfl rfl rfl (by decide +kernel) ⟨Nat.le_of_ble_eq_true rfl, Nat.le_of_ble_eq_true rfl⟩) ((LH1 hL (by decide) (by decide) hj4)).1 (by decide) rfl rfl rfl (Nat.le_of_ble_eq_true rfl) ⟨Nat.le_of_ble_eq_true rfl, Nat.le_of_ble_eq_true rfl⟩ ?_
        refine g_if_eq (tgt := 55) C dX11_copy_46 (by decide) hf (fun hf => ?_) (fun hf => ?_)
        · refine g_aload C dX11_copy_55 rfl ?_
          refine g_getI (i := 1) (j := 1) C dX11_copy_57 ((LH1 hL (by decide) (by decide) hj3)).1 c5 rfl f102 (fun _ h9 => h9) ?_
          refine g_aload C dX11_copy_60 rfl ?_
          refine g_getI (i := 1) (j := 1) C dX11_copy_62 ((LH1 hL (by decide) (by decide) hj4)).1 c5 rfl f102 (fun _ h9 => h9) ?_
          refine g_icmp_eq (tgt := 74) C dX11_copy_65 (by decide) hf (fun hf => ?_) (fun hf => ?_)
          · refine g_aload C dX11_copy_74 rfl ?_
            refine g_iload_n C dX11_copy_76 rfl rfl ?_
            refine g_iload C dX11_copy_77 rfl ?_
            obtain ⟨z8, hz8, hf⟩ := gbind hf ho
            refine g_callV C dX11_copy_79 (m_X5_hasItems l X N _ _ _   _ _ _ (LH1 hL (by decide) (by decide) hj3) z8 hz8) gEin0 (cwV 2 C.2.2.2.2.1 gX11_copy_X5_hasItems rfl rfl rfl (by decide +kernel) ⟨Nat.le_of_ble_eq_true rfl, Nat.le_of_ble_eq_true rfl⟩) ((LH1 hL (by decide) (by decide) hj3)).1 (by decide) rfl rfl rfl (Nat.le_of_ble_eq_true rfl) ⟨Nat.le_of_ble_eq_true rfl, Nat.le_of_ble_eq_true rfl⟩ ?_
            refine g_if_eq (tgt := 97) C dX11_copy_82 (by decide) hf (fun hf => ?_) (fun hf => ?_)
            · refine g_aload_n C dX11_copy_97 rfl rfl ?_
              refine g_iconst (v := 2) C dX11_copy_98 (by decide) ?_
              obtain ⟨z9, hz9, hf⟩ := gbind hf ho
              refine g_callV C dX11_copy_99 (m_X11_found l X N _ _ _  (gLay.sub hL (by decide) (by decide)) _ z9.1 z9.2 hz9) gEin0 (cwV 1 C.2.2.2.2.1 gX11_copy_X11_found rfl rfl rfl (by decide +kernel) ⟨Nat.le_of_ble_eq_true rfl, Nat.le_of_ble_eq_true rfl⟩) (L0 hL (by decide) (by decide)) (by decide) rfl rfl rfl (Nat.le_of_ble_eq_true rfl) ⟨Nat.le_of_ble_eq_true rfl, Nat.le_of_ble_eq_true rfl⟩ ?_
              obtain ⟨rfl, rfl⟩ := gs2 hf
              exact g_iret C dX11_copy_102 hr hlk
            · refine g_aload C dX11_copy_85 rfl ?_
              refine g_iload C dX11_copy_87 rfl ?_
              refine g_iload C dX11_copy_89 rfl ?_
              obtain ⟨z10, hz10, hf⟩ := gbind hf ho
              refine g_callV C dX11_copy_91 (m_X5_hasItems l X N _ _ _   _ _ _ (LH1 hL (by decide) (by decide) hj4) z10 hz10) gEin0 (cwV 2 C.2.2.2.2.1 gX11_copy_X5_hasItems rfl rfl rfl (by decide +kernel) ⟨Nat.le_of_ble_eq_true rfl, Nat.le_of_ble_eq_true rfl⟩) ((LH1 hL (by decide) (by decide) hj4)).1 (by decide) rfl rfl rfl (Nat.le_of_ble_eq_true rfl) ⟨Nat.le_of_ble_eq_true rfl, Nat.le_of_ble_eq_true rfl⟩ ?_
              refine g_if_ne (tgt := 103) C dX11_copy_94 (by decide) hf (fun hf => ?_) (fun hf => ?_)
              · refine g_aload C dX11_copy_103 rfl ?_
                refine g_getR (i := 0) (j := 0) C dX11_copy_105 ((LH1 hL (by decide) (by decide) hj3)).1 c5 rfl (by decide) f105 (fun _ h9 => h9) ((LH1 hL (by decide) (by decide) hj3)).2.1 ?_
                refine g_iload_n C dX11_copy_108 rfl rfl ?_
                refine g_aload C dX11_copy_109 rfl ?_
                refine g_getR (i := 0) (j := 0) C dX11_copy_111 ((LH1 hL (by decide) (by decide) hj4)).1 c5 rfl (by decide) f105 (fun _ h9 => h9) ((LH1 hL (by decide) (by decide) hj4)).2.1 ?_
                refine g_iload C dX11_copy_114 rfl ?_
                refine g_iload C dX11_copy_116 rfl ?_
                refine g_copy C dX11_copy_118 m108 hacw ((LH1 hL (by decide) (by decide) hj3)).2.2 ((LH1 hL (by decide) (by decide) hj4)).2.2 ho hf (Nat.le_of_ble_eq_true rfl) (Nat.le_of_ble_eq_true rfl) (fun hf => ?_)
                refine g_aload_n C dX11_copy_121 rfl rfl ?_
                refine g_iload C dX11_copy_122 rfl ?_
                obtain ⟨z11, hz11, hf⟩ := gbind hf ho
                refine g_callV C dX11_copy_124 (m_X11_fine l X N _ _ _  (gLay.sub hL (by decide) (by decide)) _ z11.1 z11.2 hz11) gEin0 (cwV 1 C.2.2.2.2.1 gX11_copy_X11_fine rfl rfl rfl (by decide +kernel) ⟨Nat.le_of_ble_eq_true rfl, Nat.le_of_ble_eq_true rfl⟩) (L0 hL (by decide) (by decide)) (by decide) rfl rfl rfl (Nat.le_of_ble_eq_true rfl) ⟨Nat.le_of_ble_eq_true rfl, Nat.le_of_ble_eq_true rfl⟩ ?_
                obtain ⟨rfl, rfl⟩ := gs2 hf
                exact g_iret C dX11_copy_127 hr hlk
              · refine g_aload_n C dX11_copy_97 rfl rfl ?_
                refine g_iconst (v := 2) C dX11_copy_98 (by decide) ?_
                obtain ⟨z12, hz12, hf⟩ := gbind hf ho
                refine g_callV C dX11_copy_99 (m_X11_found l X N _ _ _  (gLay.sub hL (by decide) (by decide)) _ z12.1 z12.2 hz12) gEin0 (cwV 1 C.2.2.2.2.1 gX11_copy_X11_found rfl rfl rfl (by decide +kernel) ⟨Nat.le_of_ble_eq_true rfl, Nat.le_of_ble_eq_true rfl⟩) (L0 hL (by decide) (by decide)) (by decide) rfl rfl rfl (Nat.le_of_ble_eq_true rfl) ⟨Nat.le_of_ble_eq_true rfl, Nat.le_of_ble_eq_true rfl⟩ ?_
                obtain ⟨rfl, rfl⟩ := gs2 hf
                exact g_iret C dX11_copy_102 hr hlk
          · refine g_aload_n C dX11_copy_68 rfl rfl ?_
            refine g_iconst (v := 5) C dX11_copy_69 (by decide) ?_
            obtain ⟨z13, hz13, hf⟩ := gbind hf ho
            refine g_callV C dX11_copy_70 (m_X11_found l X N _ _ _  (gLay.sub hL (by decide) (by decide)) _ z13.1 z13.2 hz13) gEin0 (cwV 1 C.2.2.2.2.1 gX11_copy_X11_found rfl rfl rfl (by decide +kernel) ⟨Nat.le_of_ble_eq_true rfl, Nat.le_of_ble_eq_true rfl⟩) (L0 hL (by decide) (by decide)) (by decide) rfl rfl rfl (Nat.le_of_ble_eq_true rfl) ⟨Nat.le_of_ble_eq_true rfl, Nat.le_of_ble_eq_true rfl⟩ ?_
            obtain ⟨rfl, rfl⟩ := gs2 hf
            exact g_iret C dX11_copy_73 hr hlk
        · refine g_aload_n C dX11_copy_49 rfl rfl ?_
          refine g_iconst (v := 1) C dX11_copy_50 (by decide) ?_
          obtain ⟨z14, hz14, hf⟩ := gbind hf ho
          refine g_callV C dX11_copy_51 (m_X11_found l X N _ _ _  (gLay.sub hL (by decide) (by decide)) _ z14.1 z14.2 hz14) gEin0 (cwV 1 C.2.2.2.2.1 gX11_copy_X11_found rfl rfl rfl (by decide +kernel) ⟨Nat.le_of_ble_eq_true rfl, Nat.le_of_ble_eq_true rfl⟩) (L0 hL (by decide) (by decide)) (by decide) rfl rfl rfl (Nat.le_of_ble_eq_true rfl) ⟨Nat.le_of_ble_eq_true rfl, Nat.le_of_ble_eq_true rfl⟩ ?_
          obtain ⟨rfl, rfl⟩ := gs2 hf
          exact g_iret C dX11_copy_54 hr hlk
    · refine g_ldc C k80 dX11_copy_14 ?_
      obtain ⟨rfl, rfl⟩ := gs2 hf
      exact g_iret C dX11_copy_16 hr hlk
set_option maxRecDepth 100000 in
set_option maxHeartbeats 8000000 in
theorem m_X11_drop (l : Launch) (X : gX) (N : Nat) (I : gI) (R : gR) (S : gS) (hL : gLay 0 91 R S) (a0 : Int32) (v : Int32) (J : gI) (hf : f_X11_drop N I R S a0 = some (v, J)) : gM l yX11_drop wsX11_drop { frames := 1, cells := 0, slots := 0, locals := 21 } X gE0 [.ref (X.1 + 0), .int a0] I R S (some (.int v)) J R S 0 0 := by
  unfold f_X11_drop at hf
  refine gM_of (cc := cX11_drop) (own := RX11) (maxL := 2) (ret := (some .int)) (by decide) rfl rfl (Nat.le_of_ble_eq_true rfl) ?_
  intro p e s m args below meth c C hr hlk hnm hE
  have ho : (some (v, J)) ≠ none := fun h => by cases h
  have f11 := C.2.2.2.2.1 (.fieldLink RX11 11 "TimesByPowers" "rows" "[LTimesByPowers$Row;") (by decide +kernel)
  have c10 : gCl wsX11_drop 10 RX11 TX11 8 := ⟨by decide, rfl, rfl, by decide +kernel⟩
  have k80 := C.2.2.2.2.1 (.constant RX11 80 (-1000001)) (by decide +kernel)
  refine g_iload_n C dX11_drop_0 rfl rfl ?_
  obtain ⟨z1, hz1, hf⟩ := gbind hf ho
  refine g_callS C dX11_drop_1 (m_X11_isRow l X N _ _ _  (gLay.sub hL (by decide) (by decide)) _ z1 hz1) gEin0 (va_cwS 1 C.2.2.2.2.1 gX11_drop_X11_isRow rfl rfl rfl (by decide +kernel) ⟨Nat.le_of_ble_eq_true rfl, Nat.le_of_ble_eq_true rfl⟩) rfl rfl (Nat.le_of_ble_eq_true rfl) ⟨Nat.le_of_ble_eq_true rfl, Nat.le_of_ble_eq_true rfl⟩ ?_
  refine g_if_ne (tgt := 10) C dX11_drop_4 (by decide) hf (fun hf => ?_) (fun hf => ?_)
  · refine g_aload_n C dX11_drop_10 rfl rfl ?_
    refine g_getR (i := 3) (j := 3) C dX11_drop_11 (L0 hL (by decide) (by decide)) c10 rfl (by decide) f11 (fun _ h9 => h9) (LR0_3 hL (by decide) (by decide)) ?_
    refine g_iload_n C dX11_drop_14 rfl rfl ?_
    refine g_aaldG 2 (fun j => 75 + 2 * j) C dX11_drop_15 (by decide) (L1 hL (by decide) (by decide)) rfl rfl (fun j hj => LG1 hL (by decide) (by decide) hj) ho hf (fun hj2 hf => ?_)
    obtain ⟨z3, hz3, hf⟩ := gbind hf ho
    refine g_callV C dX11_drop_16 (m_X5_isMissing l X N _ _ _   _ (LH1 hL (by decide) (by decide) hj2) z3 hz3) gEin0 (cwV 0 C.2.2.2.2.1 gX11_drop_X5_isMissing rfl rfl rfl (by decide +kernel) ⟨Nat.le_of_ble_eq_true rfl, Nat.le_of_ble_eq_true rfl⟩) ((LH1 hL (by decide) (by decide) hj2)).1 (by decide) rfl rfl rfl (Nat.le_of_ble_eq_true rfl) ⟨Nat.le_of_ble_eq_true rfl, Nat.le_of_ble_eq_true rfl⟩ ?_
    refine g_if_eq (tgt := 28) C dX11_drop_19 (by decide) hf (fun hf => ?_) (fun hf => ?_)
    · refine g_aload_n C dX11_drop_28 rfl rfl ?_
      refine g_aload_n C dX11_drop_29 rfl rfl ?_
      refine g_getR (i := 3) (j := 3) C dX11_drop_30 (L0 hL (by decide) (by decide)) c10 rfl (by decide) f11 (fun _ h9 => h9) (LR0_3 hL (by decide) (by decide)) ?_
      refine g_iload_n C dX11_drop_33 rfl rfl ?_
      refine g_aaldG 2 (fun j => 75 + 2 * j) C dX11_drop_34 (by decide) (L1 hL (by decide) (by decide)) rfl rfl (fun j hj => LG1 hL (by decide) (by decide) hj) ho hf (fun hj4 hf => ?_)
      obtain ⟨z5, hz5, hf⟩ := gbind hf ho
      refine g_callV C dX11_drop_35 (m_X5_end l X N _ _ _   _ (LH1 hL (by decide) (by decide) hj4) z5.1 z5.2 hz5) gEin0 (cwV 0 C.2.2.2.2.1 gX11_drop_X5_end rfl rfl rfl (by decide +kernel) ⟨Nat.le_of_ble_eq_true rfl, Nat.le_of_ble_eq_true rfl⟩) ((LH1 hL (by decide) (by decide) hj4)).1 (by decide) rfl rfl rfl (Nat.le_of_ble_eq_true rfl) ⟨Nat.le_of_ble_eq_true rfl, Nat.le_of_ble_eq_true rfl⟩ ?_
      obtain ⟨z6, hz6, hf⟩ := gbind hf ho
      refine g_callV C dX11_drop_38 (m_X11_fine l X N _ _ _  (gLay.sub hL (by decide) (by decide)) _ z6.1 z6.2 hz6) gEin0 (cwV 1 C.2.2.2.2.1 gX11_drop_X11_fine rfl rfl rfl (by decide +kernel) ⟨Nat.le_of_ble_eq_true rfl, Nat.le_of_ble_eq_true rfl⟩) (L0 hL (by decide) (by decide)) (by decide) rfl rfl rfl (Nat.le_of_ble_eq_true rfl) ⟨Nat.le_of_ble_eq_true rfl, Nat.le_of_ble_eq_true rfl⟩ ?_
      obtain ⟨rfl, rfl⟩ := gs2 hf
      exact g_iret C dX11_drop_41 hr hlk
    · refine g_aload_n C dX11_drop_22 rfl rfl ?_
      refine g_iconst (v := 1) C dX11_drop_23 (by decide) ?_
      obtain ⟨z7, hz7, hf⟩ := gbind hf ho
      refine g_callV C dX11_drop_24 (m_X11_found l X N _ _ _  (gLay.sub hL (by decide) (by decide)) _ z7.1 z7.2 hz7) gEin0 (cwV 1 C.2.2.2.2.1 gX11_drop_X11_found rfl rfl rfl (by decide +kernel) ⟨Nat.le_of_ble_eq_true rfl, Nat.le_of_ble_eq_true rfl⟩) (L0 hL (by decide) (by decide)) (by decide) rfl rfl rfl (Nat.le_of_ble_eq_true rfl) ⟨Nat.le_of_ble_eq_true rfl, Nat.le_of_ble_eq_true rfl⟩ ?_
      obtain ⟨rfl, rfl⟩ := gs2 hf
      exact g_iret C dX11_drop_27 hr hlk
  · refine g_ldc C k80 dX11_drop_7 ?_
    obtain ⟨rfl, rfl⟩ := gs2 hf
    exact g_iret C dX11_drop_9 hr hlk
set_option maxRecDepth 100000 in
set_option maxHeartbeats 8000000 in
theorem m_X11_field (l : Launch) (X : gX) (N : Nat) (I : gI) (R : gR) (S : gS) (hL : gLay 0 91 R S) (a0 : Int32) (a1 : Int32) (a2 : Int32) (v : Int32) (J : gI) (hf : f_X11_field N I R S a0 a1 a2 = some (v, J)) : gM l yX11_field wsX11_field { frames := 4, cells := 0, slots := 0, locals := 95 } X gE0 [.ref (X.1 + 0), .int a0, .int a1, .int a2] I R S (some (.int v)) J R S 0 0 := by
  unfold f_X11_field at hf
  refine gM_of (cc := cX11_field) (own := RX11) (maxL := 4) (ret := (some .int)) (by decide) rfl rfl (Nat.le_of_ble_eq_true rfl) ?_
  intro p e s m args below meth c C hr hlk hnm hE
  have ho : (some (v, J)) ≠ none := fun h => by cases h
  have f50 := C.2.2.2.2.1 (.fieldLink RX11 50 "TimesByPowers" "elements" "LTimesByPowers$Field;") (by decide +kernel)
  have c10 : gCl wsX11_field 10 RX11 TX11 8 := ⟨by decide, rfl, rfl, by decide +kernel⟩
  have k80 := C.2.2.2.2.1 (.constant RX11 80 (-1000001)) (by decide +kernel)
  have k132 := C.2.2.2.2.1 (.constant RX11 132 (-1000000)) (by decide +kernel)
  have k121 := C.2.2.2.2.1 (.constant RX11 121 (100000)) (by decide +kernel)
  refine g_aload_n C dX11_field_0 rfl rfl ?_
  refine g_getR (i := 0) (j := 0) C dX11_field_1 (L0 hL (by decide) (by decide)) c10 rfl (by decide) f50 (fun _ h9 => h9) (LR0_0 hL (by decide) (by decide)) ?_
  refine g_iload_n C dX11_field_4 rfl rfl ?_
  obtain ⟨z1, hz1, hf⟩ := gbind hf ho
  refine g_callV C dX11_field_5 (m_X2_has l X N _ _ _  (gLay.sub hL (by decide) (by decide)) _ z1 hz1) gEin0 (cwV 1 C.2.2.2.2.1 gX11_field_X2_has rfl rfl rfl (by decide +kernel) ⟨Nat.le_of_ble_eq_true rfl, Nat.le_of_ble_eq_true rfl⟩) (L6 hL (by decide) (by decide)) (by decide) rfl rfl rfl (Nat.le_of_ble_eq_true rfl) ⟨Nat.le_of_ble_eq_true rfl, Nat.le_of_ble_eq_true rfl⟩ ?_
  refine g_if_eq (tgt := 20) C dX11_field_8 (by decide) hf (fun hf => ?_) (fun hf => ?_)
  · refine g_ldc C k80 dX11_field_20 ?_
    obtain ⟨rfl, rfl⟩ := gs2 hf
    exact g_iret C dX11_field_22 hr hlk
  · refine g_iload_n C dX11_field_11 rfl rfl ?_
    refine g_if_lt (tgt := 20) C dX11_field_12 (by decide) hf (fun hf => ?_) (fun hf => ?_)
    · refine g_ldc C k80 dX11_field_20 ?_
      obtain ⟨rfl, rfl⟩ := gs2 hf
      exact g_iret C dX11_field_22 hr hlk
    · refine g_iload_n C dX11_field_15 rfl rfl ?_
      refine g_iconst (v := 3) C dX11_field_16 (by decide) ?_
      refine g_icmp_le (tgt := 23) C dX11_field_17 (by decide) hf (fun hf => ?_) (fun hf => ?_)
      · refine g_iload_n C dX11_field_23 rfl rfl ?_
        refine g_iconst (v := 2) C dX11_field_24 (by decide) ?_
        refine g_icmp_ne (tgt := 53) C dX11_field_25 (by decide) hf (fun hf => ?_) (fun hf => ?_)
        · refine g_aload_n C dX11_field_53 rfl rfl ?_
          refine g_getR (i := 0) (j := 0) C dX11_field_54 (L0 hL (by decide) (by decide)) c10 rfl (by decide) f50 (fun _ h9 => h9) (LR0_0 hL (by decide) (by decide)) ?_
          refine g_iload_n C dX11_field_57 rfl rfl ?_
          obtain ⟨z2, hz2, hf⟩ := gbind hf ho
          refine g_callV C dX11_field_58 (m_X2_has l X N _ _ _  (gLay.sub hL (by decide) (by decide)) _ z2 hz2) gEin0 (cwV 1 C.2.2.2.2.1 gX11_field_X2_has rfl rfl rfl (by decide +kernel) ⟨Nat.le_of_ble_eq_true rfl, Nat.le_of_ble_eq_true rfl⟩) (L6 hL (by decide) (by decide)) (by decide) rfl rfl rfl (Nat.le_of_ble_eq_true rfl) ⟨Nat.le_of_ble_eq_true rfl, Nat.le_of_ble_eq_true rfl⟩ ?_
          refine g_if_ne (tgt := 67) C dX11_field_61 (by decide) hf (fun hf => ?_) (fun hf => ?_)
          · refine g_iload_n C dX11_field_67 rfl rfl ?_
            refine g_if_ne (tgt := 82) C dX11_field_68 (by decide) hf (fun hf => ?_) (fun hf => ?_)
            · refine g_iload_n C dX11_field_82 rfl rfl ?_
              refine g_iconst (v := 1) C dX11_field_83 (by decide) ?_
              refine g_icmp_ne (tgt := 97) C dX11_field_84 (by decide) hf (fun hf => ?_) (fun hf => ?_)
              · refine g_iload_n C dX11_field_97 rfl rfl ?_
                refine g_if_ne (tgt := 106) C dX11_field_98 (by decide) hf (fun hf => ?_) (fun hf => ?_)
                · refine g_aload_n C dX11_field_106 rfl rfl ?_
                  refine g_getR (i := 0) (j := 0) C dX11_field_107 (L0 hL (by decide) (by decide)) c10 rfl (by decide) f50 (fun _ h9 => h9) (LR0_0 hL (by decide) (by decide)) ?_
                  refine g_iload_n C dX11_field_110 rfl rfl ?_
                  refine g_aload_n C dX11_field_111 rfl rfl ?_
                  refine g_getR (i := 0) (j := 0) C dX11_field_112 (L0 hL (by decide) (by decide)) c10 rfl (by decide) f50 (fun _ h9 => h9) (LR0_0 hL (by decide) (by decide)) ?_
                  refine g_iload_n C dX11_field_115 rfl rfl ?_
                  obtain ⟨z3, hz3, hf⟩ := gbind hf ho
                  refine g_callV C dX11_field_116 (m_X2_inverse l X N _ _ _  (gLay.sub hL (by decide) (by decide)) _ z3.1 z3.2 hz3) gEin0 (cwV 1 C.2.2.2.2.1 gX11_field_X2_inverse rfl rfl rfl (by decide +kernel) ⟨Nat.le_of_ble_eq_true rfl, Nat.le_of_ble_eq_true rfl⟩) (L6 hL (by decide) (by decide)) (by decide) rfl rfl rfl (Nat.le_of_ble_eq_true rfl) ⟨Nat.le_of_ble_eq_true rfl, Nat.le_of_ble_eq_true rfl⟩ ?_
                  obtain ⟨z4, hz4, hf⟩ := gbind hf ho
                  refine g_callV C dX11_field_119 (m_X2_times l X N _ _ _  (gLay.sub hL (by decide) (by decide)) _ _ z4.1 z4.2 hz4) gEin0 (cwV 2 C.2.2.2.2.1 gX11_field_X2_times rfl rfl rfl (by decide +kernel) ⟨Nat.le_of_ble_eq_true rfl, Nat.le_of_ble_eq_true rfl⟩) (L6 hL (by decide) (by decide)) (by decide) rfl rfl rfl (Nat.le_of_ble_eq_true rfl) ⟨Nat.le_of_ble_eq_true rfl, Nat.le_of_ble_eq_true rfl⟩ ?_
                  obtain ⟨rfl, rfl⟩ := gs2 hf
                  exact g_iret C dX11_field_122 hr hlk
                · refine g_ldc C k132 dX11_field_101 ?_
                  refine g_goto (tgt := 122) C dX11_field_103 (by decide) ?_
                  obtain ⟨rfl, rfl⟩ := gs2 hf
                  exact g_iret C dX11_field_122 hr hlk
              · refine g_aload_n C dX11_field_87 rfl rfl ?_
                refine g_getR (i := 0) (j := 0) C dX11_field_88 (L0 hL (by decide) (by decide)) c10 rfl (by decide) f50 (fun _ h9 => h9) (LR0_0 hL (by decide) (by decide)) ?_
                refine g_iload_n C dX11_field_91 rfl rfl ?_
                refine g_iload_n C dX11_field_92 rfl rfl ?_
                obtain ⟨z5, hz5, hf⟩ := gbind hf ho
                refine g_callV C dX11_field_93 (m_X2_times l X N _ _ _  (gLay.sub hL (by decide) (by decide)) _ _ z5.1 z5.2 hz5) gEin0 (cwV 2 C.2.2.2.2.1 gX11_field_X2_times rfl rfl rfl (by decide +kernel) ⟨Nat.le_of_ble_eq_true rfl, Nat.le_of_ble_eq_true rfl⟩) (L6 hL (by decide) (by decide)) (by decide) rfl rfl rfl (Nat.le_of_ble_eq_true rfl) ⟨Nat.le_of_ble_eq_true rfl, Nat.le_of_ble_eq_true rfl⟩ ?_
                obtain ⟨rfl, rfl⟩ := gs2 hf
                exact g_iret C dX11_field_96 hr hlk
            · refine g_aload_n C dX11_field_71 rfl rfl ?_
              refine g_getR (i := 0) (j := 0) C dX11_field_72 (L0 hL (by decide) (by decide)) c10 rfl (by decide) f50 (fun _ h9 => h9) (LR0_0 hL (by decide) (by decide)) ?_
              refine g_iload_n C dX11_field_75 rfl rfl ?_
              refine g_iconst (v := 1) C dX11_field_76 (by decide) ?_
              refine g_iload_n C dX11_field_77 rfl rfl ?_
              obtain ⟨z6, hz6, hf⟩ := gbind hf ho
              refine g_callV C dX11_field_78 (m_X2_plusTimes l X N _ _ _  (gLay.sub hL (by decide) (by decide)) _ _ _ z6.1 z6.2 hz6) gEin0 (cwV 3 C.2.2.2.2.1 gX11_field_X2_plusTimes rfl rfl rfl (by decide +kernel) ⟨Nat.le_of_ble_eq_true rfl, Nat.le_of_ble_eq_true rfl⟩) (L6 hL (by decide) (by decide)) (by decide) rfl rfl rfl (Nat.le_of_ble_eq_true rfl) ⟨Nat.le_of_ble_eq_true rfl, Nat.le_of_ble_eq_true rfl⟩ ?_
              obtain ⟨rfl, rfl⟩ := gs2 hf
              exact g_iret C dX11_field_81 hr hlk
          · refine g_ldc C k80 dX11_field_64 ?_
            obtain ⟨rfl, rfl⟩ := gs2 hf
            exact g_iret C dX11_field_66 hr hlk
        · refine g_iload_n C dX11_field_28 rfl rfl ?_
          refine g_if_lt (tgt := 38) C dX11_field_29 (by decide) hf (fun hf => ?_) (fun hf => ?_)
          · refine g_ldc C k80 dX11_field_38 ?_
            refine g_goto (tgt := 52) C dX11_field_40 (by decide) ?_
            obtain ⟨rfl, rfl⟩ := gs2 hf
            exact g_iret C dX11_field_52 hr hlk
          · refine g_iload_n C dX11_field_32 rfl rfl ?_
            refine g_ldc C k121 dX11_field_33 ?_
            refine g_icmp_le (tgt := 43) C dX11_field_35 (by decide) hf (fun hf => ?_) (fun hf => ?_)
            · refine g_aload_n C dX11_field_43 rfl rfl ?_
              refine g_getR (i := 0) (j := 0) C dX11_field_44 (L0 hL (by decide) (by decide)) c10 rfl (by decide) f50 (fun _ h9 => h9) (LR0_0 hL (by decide) (by decide)) ?_
              refine g_iload_n C dX11_field_47 rfl rfl ?_
              refine g_iload_n C dX11_field_48 rfl rfl ?_
              obtain ⟨z7, hz7, hf⟩ := gbind hf ho
              refine g_callV C dX11_field_49 (m_X2_power l X N _ _ _  (gLay.sub hL (by decide) (by decide)) _ _ z7.1 z7.2 hz7) gEin0 (cwV 2 C.2.2.2.2.1 gX11_field_X2_power rfl rfl rfl (by decide +kernel) ⟨Nat.le_of_ble_eq_true rfl, Nat.le_of_ble_eq_true rfl⟩) (L6 hL (by decide) (by decide)) (by decide) rfl rfl rfl (Nat.le_of_ble_eq_true rfl) ⟨Nat.le_of_ble_eq_true rfl, Nat.le_of_ble_eq_true rfl⟩ ?_
              obtain ⟨rfl, rfl⟩ := gs2 hf
              exact g_iret C dX11_field_52 hr hlk
            · refine g_ldc C k80 dX11_field_38 ?_
              refine g_goto (tgt := 52) C dX11_field_40 (by decide) ?_
              obtain ⟨rfl, rfl⟩ := gs2 hf
              exact g_iret C dX11_field_52 hr hlk
      · refine g_ldc C k80 dX11_field_20 ?_
        obtain ⟨rfl, rfl⟩ := gs2 hf
        exact g_iret C dX11_field_22 hr hlk
set_option maxRecDepth 100000 in
set_option maxHeartbeats 8000000 in
theorem m_X11_isPlace (l : Launch) (X : gX) (N : Nat) (I : gI) (R : gR) (S : gS) (hL : gLay 0 91 R S) (a0 : Int32) (v : Int32) (hf : f_X11_isPlace N I R S a0 = some v) : gM l yX11_isPlace wsX11_isPlace { frames := 0, cells := 0, slots := 0, locals := 0 } X gE0 [.int a0] I R S (some (.int v)) I R S 0 0 := by
  unfold f_X11_isPlace at hf
  refine gM_of (cc := cX11_isPlace) (own := RX11) (maxL := 1) (ret := (some .boolean)) (by decide) rfl rfl (Nat.le_of_ble_eq_true rfl) ?_
  intro p e s m args below meth c C hr hlk hnm hE
  have ho : (some v) ≠ none := fun h => by cases h
  refine g_iload_n C dX11_isPlace_0 rfl rfl ?_
  refine g_if_lt (tgt := 14) C dX11_isPlace_1 (by decide) hf (fun hf => ?_) (fun hf => ?_)
  · refine g_iconst (v := 0) C dX11_isPlace_14 (by decide) ?_
    obtain rfl := gs1 hf
    exact g_zret C dX11_isPlace_15 hr hlk (by decide)
  · refine g_iload_n C dX11_isPlace_4 rfl rfl ?_
    refine g_bipush (v := 10) C dX11_isPlace_5 (by decide) ?_
    refine g_icmp_ge (tgt := 14) C dX11_isPlace_7 (by decide) hf (fun hf => ?_) (fun hf => ?_)
    · refine g_iconst (v := 0) C dX11_isPlace_14 (by decide) ?_
      obtain rfl := gs1 hf
      exact g_zret C dX11_isPlace_15 hr hlk (by decide)
    · refine g_iconst (v := 1) C dX11_isPlace_10 (by decide) ?_
      refine g_goto (tgt := 15) C dX11_isPlace_11 (by decide) ?_
      obtain rfl := gs1 hf
      exact g_zret C dX11_isPlace_15 hr hlk (by decide)
set_option maxRecDepth 100000 in
set_option maxHeartbeats 8000000 in
theorem m_X11_take (l : Launch) (X : gX) (N : Nat) (I : gI) (R : gR) (S : gS) (hL : gLay 0 91 R S) (a0 : Int32) (a1 : Int32) (a2 : Int32) (v : Int32) (J : gI) (hf : f_X11_take N I R S a0 a1 a2 = some (v, J)) : gM l yX11_take wsX11_take { frames := 1, cells := 0, slots := 0, locals := 22 } X gE0 [.ref (X.1 + 0), .int a0, .int a1, .int a2] I R S (some (.int v)) J R S 0 0 := by
  unfold f_X11_take at hf
  refine gM_of (cc := cX11_take) (own := RX11) (maxL := 6) (ret := (some .int)) (by decide) rfl rfl (Nat.le_of_ble_eq_true rfl) ?_
  intro p e s m args below meth c C hr hlk hnm hE
  have ho : (some (v, J)) ≠ none := fun h => by cases h
  have f11 := C.2.2.2.2.1 (.fieldLink RX11 11 "TimesByPowers" "rows" "[LTimesByPowers$Row;") (by decide +kernel)
  have c10 : gCl wsX11_take 10 RX11 TX11 8 := ⟨by decide, rfl, rfl, by decide +kernel⟩
  have f28 := C.2.2.2.2.1 (.fieldLink RX11 28 "TimesByPowers" "taken" "[I") (by decide +kernel)
  have f105 := C.2.2.2.2.1 (.fieldLink RX11 105 "TimesByPowers$Row" "items" "[I") (by decide +kernel)
  have c5 : gCl wsX11_take 5 RX5 TX5 3 := ⟨by decide, rfl, rfl, by decide +kernel⟩
  have f50 := C.2.2.2.2.1 (.fieldLink RX11 50 "TimesByPowers" "elements" "LTimesByPowers$Field;") (by decide +kernel)
  have k80 := C.2.2.2.2.1 (.constant RX11 80 (-1000001)) (by decide +kernel)
  refine g_aload_n C dX11_take_0 rfl rfl ?_
  refine g_getR (i := 3) (j := 3) C dX11_take_1 (L0 hL (by decide) (by decide)) c10 rfl (by decide) f11 (fun _ h9 => h9) (LR0_3 hL (by decide) (by decide)) ?_
  refine g_iload_n C dX11_take_4 rfl rfl ?_
  refine g_aaldG 2 (fun j => 75 + 2 * j) C dX11_take_5 (by decide) (L1 hL (by decide) (by decide)) rfl rfl (fun j hj => LG1 hL (by decide) (by decide) hj) ho hf (fun hj1 hf => ?_)
  refine g_astore C dX11_take_6 (Nat.le_of_ble_eq_true rfl) rfl rfl ?_
  refine g_aload C dX11_take_8 rfl ?_
  obtain ⟨z2, hz2, hf⟩ := gbind hf ho
  refine g_callV C dX11_take_10 (m_X5_isMissing l X N _ _ _   _ (LH1 hL (by decide) (by decide) hj1) z2 hz2) gEin0 (cwV 0 C.2.2.2.2.1 gX11_take_X5_isMissing rfl rfl rfl (by decide +kernel) ⟨Nat.le_of_ble_eq_true rfl, Nat.le_of_ble_eq_true rfl⟩) ((LH1 hL (by decide) (by decide) hj1)).1 (by decide) rfl rfl rfl (Nat.le_of_ble_eq_true rfl) ⟨Nat.le_of_ble_eq_true rfl, Nat.le_of_ble_eq_true rfl⟩ ?_
  refine g_if_eq (tgt := 22) C dX11_take_13 (by decide) hf (fun hf => ?_) (fun hf => ?_)
  · refine g_aload C dX11_take_22 rfl ?_
    refine g_iload_n C dX11_take_24 rfl rfl ?_
    refine g_iload_n C dX11_take_25 rfl rfl ?_
    refine g_iconst (v := 1) C dX11_take_26 (by decide) ?_
    refine g_iadd C dX11_take_27 ?_
    obtain ⟨z3, hz3, hf⟩ := gbind hf ho
    refine g_callV C dX11_take_28 (m_X5_hasItems l X N _ _ _   _ _ _ (LH1 hL (by decide) (by decide) hj1) z3 hz3) gEin0 (cwV 2 C.2.2.2.2.1 gX11_take_X5_hasItems rfl rfl rfl (by decide +kernel) ⟨Nat.le_of_ble_eq_true rfl, Nat.le_of_ble_eq_true rfl⟩) ((LH1 hL (by decide) (by decide) hj1)).1 (by decide) rfl rfl rfl (Nat.le_of_ble_eq_true rfl) ⟨Nat.le_of_ble_eq_true rfl, Nat.le_of_ble_eq_true rfl⟩ ?_
    refine g_if_ne (tgt := 40) C dX11_take_31 (by decide) hf (fun hf => ?_) (fun hf => ?_)
    · refine g_iconst (v := 0) C dX11_take_40 (by decide) ?_
      refine g_istore C dX11_take_41 (Nat.le_of_ble_eq_true rfl) rfl rfl ?_
      refine g_loopR (fun z4 => [(0, .ref (X.1 + 0)), (2, .int a1), (3, .int a2), (4, .ref (X.1 + (75 + 2 * a0.toNatClampNeg))), (5, .int z4.1)]) (fun z4 => z4.2) (fun r5 => [(0, .ref (X.1 + 0)), (3, .int a2)]) (fun r5 => r5) 92 hf ho (And.intro rfl (And.intro rfl (And.intro rfl (And.intro rfl (And.intro rfl trivial))))) rfl (fun r5 hf => ?_) (fun z4 o1 hf ho hkz4 hez4 hrz4 => ?_)
      · refine g_aload_n C dX11_take_92 rfl rfl ?_
        refine g_getR (i := 6) (j := 6) C dX11_take_93 (L0 hL (by decide) (by decide)) c10 rfl (by decide) f28 (fun _ h9 => h9) (LR0_6 hL (by decide) (by decide)) ?_
        refine g_iload_n C dX11_take_96 rfl rfl ?_
        refine g_iald C dX11_take_97 (L5 hL (by decide) (by decide)) ho hf (fun hf => ?_)
        refine g_if_ne (tgt := 106) C dX11_take_98 (by decide) hf (fun hf => ?_) (fun hf => ?_)
        · refine g_iconst (v := 0) C dX11_take_106 (by decide) ?_
          obtain ⟨rfl, rfl⟩ := gs2 hf
          exact g_iret C dX11_take_107 hr hlk
        · refine g_ldc C k80 dX11_take_101 ?_
          refine g_goto (tgt := 107) C dX11_take_103 (by decide) ?_
          obtain ⟨rfl, rfl⟩ := gs2 hf
          exact g_iret C dX11_take_107 hr hlk
      · refine g_iload C dX11_take_43 rfl ?_
        refine g_iload_n C dX11_take_45 rfl rfl ?_
        refine g_icmp_gt (tgt := 92) C dX11_take_46 (by decide) hf (fun hf => ?_) (fun hf => ?_)
        · have hx := hez4 _ hf.symm
          refine g_sub ?_ hx
          exact (And.intro rfl (And.intro rfl trivial))
        · refine g_aload_n C dX11_take_49 rfl rfl ?_
          refine g_getR (i := 6) (j := 6) C dX11_take_50 (L0 hL (by decide) (by decide)) c10 rfl (by decide) f28 (fun _ h9 => h9) (LR0_6 hL (by decide) (by decide)) ?_
          refine g_iload C dX11_take_53 rfl ?_
          refine g_aload C dX11_take_55 rfl ?_
          refine g_getR (i := 0) (j := 0) C dX11_take_57 ((LH1 hL (by decide) (by decide) hj1)).1 c5 rfl (by decide) f105 (fun _ h9 => h9) ((LH1 hL (by decide) (by decide) hj1)).2.1 ?_
          refine g_iload_n C dX11_take_60 rfl rfl ?_
          refine g_iload C dX11_take_61 rfl ?_
          refine g_iadd C dX11_take_63 ?_
          refine g_iald C dX11_take_64 ((LH1 hL (by decide) (by decide) hj1)).2.2 ho hf (fun hf => ?_)
          refine g_iast C dX11_take_65 (L5 hL (by decide) (by decide)) ho hf (fun hf => ?_)
          refine g_aload_n C dX11_take_66 rfl rfl ?_
          refine g_getR (i := 0) (j := 0) C dX11_take_67 (L0 hL (by decide) (by decide)) c10 rfl (by decide) f50 (fun _ h9 => h9) (LR0_0 hL (by decide) (by decide)) ?_
          refine g_aload_n C dX11_take_70 rfl rfl ?_
          refine g_getR (i := 6) (j := 6) C dX11_take_71 (L0 hL (by decide) (by decide)) c10 rfl (by decide) f28 (fun _ h9 => h9) (LR0_6 hL (by decide) (by decide)) ?_
          refine g_iload C dX11_take_74 rfl ?_
          refine g_iald C dX11_take_76 (L5 hL (by decide) (by decide)) ho hf (fun hf => ?_)
          obtain ⟨z6, hz6, hf⟩ := gbind hf ho
          refine g_callV C dX11_take_77 (m_X2_has l X N _ _ _  (gLay.sub hL (by decide) (by decide)) _ z6 hz6) gEin0 (cwV 1 C.2.2.2.2.1 gX11_take_X2_has rfl rfl rfl (by decide +kernel) ⟨Nat.le_of_ble_eq_true rfl, Nat.le_of_ble_eq_true rfl⟩) (L6 hL (by decide) (by decide)) (by decide) rfl rfl rfl (Nat.le_of_ble_eq_true rfl) ⟨Nat.le_of_ble_eq_true rfl, Nat.le_of_ble_eq_true rfl⟩ ?_
          refine g_if_ne (tgt := 86) C dX11_take_80 (by decide) hf (fun hf => ?_) (fun hf => ?_)
          · refine g_iinc (d := 1) C dX11_take_86 rfl (by decide) rfl (Nat.le_of_ble_eq_true rfl) rfl rfl ?_
            refine g_goto (tgt := 43) C dX11_take_89 (by decide) ?_
            have hx := hkz4 _ hf.symm
            refine g_sub ?_ hx
            exact (And.intro rfl (And.intro rfl (And.intro rfl (And.intro rfl (And.intro rfl trivial)))))
          · refine g_ldc C k80 dX11_take_83 ?_
            replace hf := hrz4 _ hf.symm
            dsimp only [Sum.elim_inr] at hf
            obtain ⟨rfl, rfl⟩ := gs2 hf
            exact g_iret C dX11_take_85 hr hlk
    · refine g_aload_n C dX11_take_34 rfl rfl ?_
      refine g_iconst (v := 2) C dX11_take_35 (by decide) ?_
      obtain ⟨z9, hz9, hf⟩ := gbind hf ho
      refine g_callV C dX11_take_36 (m_X11_found l X N _ _ _  (gLay.sub hL (by decide) (by decide)) _ z9.1 z9.2 hz9) gEin0 (cwV 1 C.2.2.2.2.1 gX11_take_X11_found rfl rfl rfl (by decide +kernel) ⟨Nat.le_of_ble_eq_true rfl, Nat.le_of_ble_eq_true rfl⟩) (L0 hL (by decide) (by decide)) (by decide) rfl rfl rfl (Nat.le_of_ble_eq_true rfl) ⟨Nat.le_of_ble_eq_true rfl, Nat.le_of_ble_eq_true rfl⟩ ?_
      obtain ⟨rfl, rfl⟩ := gs2 hf
      exact g_iret C dX11_take_39 hr hlk
  · refine g_aload_n C dX11_take_16 rfl rfl ?_
    refine g_iconst (v := 1) C dX11_take_17 (by decide) ?_
    obtain ⟨z10, hz10, hf⟩ := gbind hf ho
    refine g_callV C dX11_take_18 (m_X11_found l X N _ _ _  (gLay.sub hL (by decide) (by decide)) _ z10.1 z10.2 hz10) gEin0 (cwV 1 C.2.2.2.2.1 gX11_take_X11_found rfl rfl rfl (by decide +kernel) ⟨Nat.le_of_ble_eq_true rfl, Nat.le_of_ble_eq_true rfl⟩) (L0 hL (by decide) (by decide)) (by decide) rfl rfl rfl (Nat.le_of_ble_eq_true rfl) ⟨Nat.le_of_ble_eq_true rfl, Nat.le_of_ble_eq_true rfl⟩ ?_
    obtain ⟨rfl, rfl⟩ := gs2 hf
    exact g_iret C dX11_take_21 hr hlk
set_option maxRecDepth 100000 in
set_option maxHeartbeats 8000000 in
theorem m_X11_shelve (l : Launch) (X : gX) (N : Nat) (I : gI) (R : gR) (S : gS) (hL : gLay 0 91 R S) (a0 : Int32) (a1 : Nat) (v : Int32) (J : gI) (P : gR) (T : gS) (hf : f_X11_shelve N I R S a0 a1 = some (v, J, P, T)) : gM l yX11_shelve wsX11_shelve { frames := 1, cells := 0, slots := 0, locals := 21 } X gEN [.ref (X.1 + 0), .int a0, .ref (X.1 + a1)] I R S (some (.int v)) J P T 0 0 := by
  unfold f_X11_shelve at hf
  refine gM_of (cc := cX11_shelve) (own := RX11) (maxL := 3) (ret := (some .int)) (by decide) rfl rfl (Nat.le_of_ble_eq_true rfl) ?_
  intro p e s m args below meth c C hr hlk hnm hE
  have ho : (some (v, J, P, T)) ≠ none := fun h => by cases h
  have f17 := C.2.2.2.2.1 (.fieldLink RX11 17 "TimesByPowers" "shelf" "[LTimesByPowers$World;") (by decide +kernel)
  have c10 : gCl wsX11_shelve 10 RX11 TX11 8 := ⟨by decide, rfl, rfl, by decide +kernel⟩
  obtain ⟨hwa1, hf⟩ := gcase hf ho
  refine g_aload_n C dX11_shelve_0 rfl rfl ?_
  refine g_getR (i := 4) (j := 4) C dX11_shelve_1 (L0 hL (by decide) (by decide)) c10 rfl (by decide) f17 (fun _ h9 => h9) (LR0_4 hL (by decide) (by decide)) ?_
  refine g_iload_n C dX11_shelve_4 rfl rfl ?_
  refine g_aload_n C dX11_shelve_5 rfl rfl ?_
  rcases gKb_k (gW_kb hwa1) with hk1 | hk1 | hk1 | hk1
  · rw [if_pos (gK_of hk1)] at hf
    refine g_aast 3 C dX11_shelve_6 (by decide) (L2 hL (by decide) (by decide)) rfl hk1 (by decide) rfl (Or.inr hE.2.2.1.1) ho hf (fun hf => ?_)
    refine g_aload_n C dX11_shelve_7 rfl rfl ?_
    refine g_aload_n C dX11_shelve_8 rfl rfl ?_
    obtain ⟨z2, hz2, hf⟩ := gbind hf ho
    refine g_callU (k := 1) C dX11_shelve_9 (m_X1_kindTold l X N _ _ _   _ z2 hz2) gEin0 (va_cwA 0 C.2.2.2.2.1 gX11_shelve_X1_kindTold_u213X1 rfl rfl rfl hE.1 (by decide +kernel) ⟨Nat.le_of_ble_eq_true rfl, Nat.le_of_ble_eq_true rfl⟩) hk1 (by decide) rfl rfl rfl (Nat.le_of_ble_eq_true rfl) ⟨Nat.le_of_ble_eq_true rfl, Nat.le_of_ble_eq_true rfl⟩ ?_
    obtain ⟨hL4, hf⟩ := gcase hf ho
    have hL4 := gLayb_ok (by decide) hL4
    obtain ⟨z3, hz3, hf⟩ := gbind hf ho
    refine g_callV C dX11_shelve_12 (m_X11_fine l X N _ _ _  (gLay.sub hL4 (by decide) (by decide)) _ z3.1 z3.2 hz3) gEin0 (cwV 1 C.2.2.2.2.1 gX11_shelve_X11_fine rfl rfl rfl (by decide +kernel) ⟨Nat.le_of_ble_eq_true rfl, Nat.le_of_ble_eq_true rfl⟩) (L0 hL4 (by decide) (by decide)) (by decide) rfl rfl rfl (Nat.le_of_ble_eq_true rfl) ⟨Nat.le_of_ble_eq_true rfl, Nat.le_of_ble_eq_true rfl⟩ ?_
    obtain ⟨rfl, rfl, rfl, rfl⟩ := gs4 hf
    exact g_iret C dX11_shelve_15 hr hlk
  · rw [if_neg (by rw [gK_of hk1]; decide), if_pos (gK_of hk1)] at hf
    refine g_aast 3 C dX11_shelve_6 (by decide) (L2 hL (by decide) (by decide)) rfl hk1 (by decide) rfl (Or.inr hE.2.2.1.2.1) ho hf (fun hf => ?_)
    refine g_aload_n C dX11_shelve_7 rfl rfl ?_
    refine g_aload_n C dX11_shelve_8 rfl rfl ?_
    obtain ⟨z5, hz5, hf⟩ := gbind hf ho
    refine g_callU (k := 3) C dX11_shelve_9 (m_X3_kindTold l X N _ _ _   _ z5 hz5) gEin0 (va_cwA 0 C.2.2.2.2.1 gX11_shelve_X3_kindTold_u213X3 rfl rfl rfl hE.1 (by decide +kernel) ⟨Nat.le_of_ble_eq_true rfl, Nat.le_of_ble_eq_true rfl⟩) hk1 (by decide) rfl rfl rfl (Nat.le_of_ble_eq_true rfl) ⟨Nat.le_of_ble_eq_true rfl, Nat.le_of_ble_eq_true rfl⟩ ?_
    obtain ⟨hL7, hf⟩ := gcase hf ho
    have hL7 := gLayb_ok (by decide) hL7
    obtain ⟨z6, hz6, hf⟩ := gbind hf ho
    refine g_callV C dX11_shelve_12 (m_X11_fine l X N _ _ _  (gLay.sub hL7 (by decide) (by decide)) _ z6.1 z6.2 hz6) gEin0 (cwV 1 C.2.2.2.2.1 gX11_shelve_X11_fine rfl rfl rfl (by decide +kernel) ⟨Nat.le_of_ble_eq_true rfl, Nat.le_of_ble_eq_true rfl⟩) (L0 hL7 (by decide) (by decide)) (by decide) rfl rfl rfl (Nat.le_of_ble_eq_true rfl) ⟨Nat.le_of_ble_eq_true rfl, Nat.le_of_ble_eq_true rfl⟩ ?_
    obtain ⟨rfl, rfl, rfl, rfl⟩ := gs4 hf
    exact g_iret C dX11_shelve_15 hr hlk
  · rw [if_neg (by rw [gK_of hk1]; decide), if_neg (by rw [gK_of hk1]; decide), if_pos (gK_of hk1)] at hf
    refine g_aast 3 C dX11_shelve_6 (by decide) (L2 hL (by decide) (by decide)) rfl hk1 (by decide) rfl (Or.inr hE.2.2.1.2.2.1) ho hf (fun hf => ?_)
    refine g_aload_n C dX11_shelve_7 rfl rfl ?_
    refine g_aload_n C dX11_shelve_8 rfl rfl ?_
    obtain ⟨z8, hz8, hf⟩ := gbind hf ho
    refine g_callU (k := 4) C dX11_shelve_9 (m_X4_kindTold l X N _ _ _   _ z8 hz8) gEin0 (va_cwA 0 C.2.2.2.2.1 gX11_shelve_X4_kindTold_u213X4 rfl rfl rfl hE.1 (by decide +kernel) ⟨Nat.le_of_ble_eq_true rfl, Nat.le_of_ble_eq_true rfl⟩) hk1 (by decide) rfl rfl rfl (Nat.le_of_ble_eq_true rfl) ⟨Nat.le_of_ble_eq_true rfl, Nat.le_of_ble_eq_true rfl⟩ ?_
    obtain ⟨hL10, hf⟩ := gcase hf ho
    have hL10 := gLayb_ok (by decide) hL10
    obtain ⟨z9, hz9, hf⟩ := gbind hf ho
    refine g_callV C dX11_shelve_12 (m_X11_fine l X N _ _ _  (gLay.sub hL10 (by decide) (by decide)) _ z9.1 z9.2 hz9) gEin0 (cwV 1 C.2.2.2.2.1 gX11_shelve_X11_fine rfl rfl rfl (by decide +kernel) ⟨Nat.le_of_ble_eq_true rfl, Nat.le_of_ble_eq_true rfl⟩) (L0 hL10 (by decide) (by decide)) (by decide) rfl rfl rfl (Nat.le_of_ble_eq_true rfl) ⟨Nat.le_of_ble_eq_true rfl, Nat.le_of_ble_eq_true rfl⟩ ?_
    obtain ⟨rfl, rfl, rfl, rfl⟩ := gs4 hf
    exact g_iret C dX11_shelve_15 hr hlk
  · rw [if_neg (by rw [gK_of hk1]; decide), if_neg (by rw [gK_of hk1]; decide), if_neg (by rw [gK_of hk1]; decide)] at hf
    refine g_aast 3 C dX11_shelve_6 (by decide) (L2 hL (by decide) (by decide)) rfl hk1 (by decide) rfl (Or.inr hE.2.2.1.2.2.2) ho hf (fun hf => ?_)
    refine g_aload_n C dX11_shelve_7 rfl rfl ?_
    refine g_aload_n C dX11_shelve_8 rfl rfl ?_
    obtain ⟨z11, hz11, hf⟩ := gbind hf ho
    refine g_callU (k := 7) C dX11_shelve_9 (m_X7_kindTold l X N _ _ _   _ z11 hz11) gEin0 (va_cwA 0 C.2.2.2.2.1 gX11_shelve_X7_kindTold_u213X7 rfl rfl rfl hE.1 (by decide +kernel) ⟨Nat.le_of_ble_eq_true rfl, Nat.le_of_ble_eq_true rfl⟩) hk1 (by decide) rfl rfl rfl (Nat.le_of_ble_eq_true rfl) ⟨Nat.le_of_ble_eq_true rfl, Nat.le_of_ble_eq_true rfl⟩ ?_
    obtain ⟨hL13, hf⟩ := gcase hf ho
    have hL13 := gLayb_ok (by decide) hL13
    obtain ⟨z12, hz12, hf⟩ := gbind hf ho
    refine g_callV C dX11_shelve_12 (m_X11_fine l X N _ _ _  (gLay.sub hL13 (by decide) (by decide)) _ z12.1 z12.2 hz12) gEin0 (cwV 1 C.2.2.2.2.1 gX11_shelve_X11_fine rfl rfl rfl (by decide +kernel) ⟨Nat.le_of_ble_eq_true rfl, Nat.le_of_ble_eq_true rfl⟩) (L0 hL13 (by decide) (by decide)) (by decide) rfl rfl rfl (Nat.le_of_ble_eq_true rfl) ⟨Nat.le_of_ble_eq_true rfl, Nat.le_of_ble_eq_true rfl⟩ ?_
    obtain ⟨rfl, rfl, rfl, rfl⟩ := gs4 hf
    exact g_iret C dX11_shelve_15 hr hlk
set_option maxRecDepth 100000 in
set_option maxHeartbeats 8000000 in
theorem m_X11_world (l : Launch) (X : gX) (N : Nat) (I : gI) (R : gR) (S : gS) (hL : gLay 0 91 R S) (a0 : Int32) (a1 : Int32) (a2 : Int32) (a3 : Int32) (v : Int32) (J : gI) (P : gR) (T : gS) (hf : f_X11_world N I R S a0 a1 a2 a3 = some (v, J, P, T)) : gM l yX11_world wsX11_world { frames := 6, cells := 3, slots := 14, locals := 149 } X gEN [.ref (X.1 + 0), .int a0, .int a1, .int a2, .int a3] I R S (some (.int v)) J P T 3 14 := by
  unfold f_X11_world at hf
  refine gM_of (cc := cX11_world) (own := RX11) (maxL := 7) (ret := (some .int)) (by decide) rfl rfl (Nat.le_of_ble_eq_true rfl) ?_
  intro p e s m args below meth c C hr hlk hnm hE
  have ho : (some (v, J, P, T)) ≠ none := fun h => by cases h
  have k80 := C.2.2.2.2.1 (.constant RX11 80 (-1000001)) (by decide +kernel)
  have ai := C.2.2.2.2.1 (.arrayClass .int) (by decide +kernel)
  have f28 := C.2.2.2.2.1 (.fieldLink RX11 28 "TimesByPowers" "taken" "[I") (by decide +kernel)
  have c10 : gCl wsX11_world 10 RX11 TX11 8 := ⟨by decide, rfl, rfl, by decide +kernel⟩
  have m108 := C.2.2.2.2.1 (.methodLink RX11 108 arraycopyName) (by decide +kernel)
  have hacw : gAcw s args := ⟨C.2.2.2.2.1 (.native arraycopyName) (by decide +kernel), C.2.2.2.2.1 (.static arraycopyName) (by decide +kernel), C.2.2.2.2.1 (.initialized "java/lang/System") (by decide +kernel)⟩
  have f64 := C.2.2.2.2.1 (.fieldLink RX11 64 "TimesByPowers" "sums" "LTimesByPowers$Sums;") (by decide +kernel)
  refine g_iload_n C dX11_world_0 rfl rfl ?_
  obtain ⟨z1, hz1, hf⟩ := gbind hf ho
  refine g_callS C dX11_world_1 (m_X11_isPlace l X N _ _ _  (gLay.sub hL (by decide) (by decide)) _ z1 hz1) gEin0 (va_cwS 1 C.2.2.2.2.1 gX11_world_X11_isPlace rfl rfl rfl (by decide +kernel) ⟨Nat.le_of_ble_eq_true rfl, Nat.le_of_ble_eq_true rfl⟩) rfl rfl (Nat.le_of_ble_eq_true rfl) ⟨Nat.le_of_ble_eq_true rfl, Nat.le_of_ble_eq_true rfl⟩ ?_
  refine g_if_eq (tgt := 26) C dX11_world_4 (by decide) hf (fun hf => ?_) (fun hf => ?_)
  · refine g_ldc C k80 dX11_world_26 ?_
    obtain ⟨rfl, rfl, rfl, rfl⟩ := gs4 hf
    refine g_widen (k := 3) (n := 14) (Nat.le_of_ble_eq_true rfl) (Nat.le_of_ble_eq_true rfl) ?_
    exact g_iret C dX11_world_28 hr hlk
  · refine g_iload_n C dX11_world_7 rfl rfl ?_
    obtain ⟨z2, hz2, hf⟩ := gbind hf ho
    refine g_callS C dX11_world_8 (m_X11_isRow l X N _ _ _  (gLay.sub hL (by decide) (by decide)) _ z2 hz2) gEin0 (va_cwS 1 C.2.2.2.2.1 gX11_world_X11_isRow rfl rfl rfl (by decide +kernel) ⟨Nat.le_of_ble_eq_true rfl, Nat.le_of_ble_eq_true rfl⟩) rfl rfl (Nat.le_of_ble_eq_true rfl) ⟨Nat.le_of_ble_eq_true rfl, Nat.le_of_ble_eq_true rfl⟩ ?_
    refine g_if_eq (tgt := 26) C dX11_world_11 (by decide) hf (fun hf => ?_) (fun hf => ?_)
    · refine g_ldc C k80 dX11_world_26 ?_
      obtain ⟨rfl, rfl, rfl, rfl⟩ := gs4 hf
      refine g_widen (k := 3) (n := 14) (Nat.le_of_ble_eq_true rfl) (Nat.le_of_ble_eq_true rfl) ?_
      exact g_iret C dX11_world_28 hr hlk
    · refine g_iload C dX11_world_14 rfl ?_
      refine g_iconst (v := 1) C dX11_world_16 (by decide) ?_
      refine g_icmp_lt (tgt := 26) C dX11_world_17 (by decide) hf (fun hf => ?_) (fun hf => ?_)
      · refine g_ldc C k80 dX11_world_26 ?_
        obtain ⟨rfl, rfl, rfl, rfl⟩ := gs4 hf
        refine g_widen (k := 3) (n := 14) (Nat.le_of_ble_eq_true rfl) (Nat.le_of_ble_eq_true rfl) ?_
        exact g_iret C dX11_world_28 hr hlk
      · refine g_iload C dX11_world_20 rfl ?_
        refine g_iconst (v := 3) C dX11_world_22 (by decide) ?_
        refine g_icmp_le (tgt := 29) C dX11_world_23 (by decide) hf (fun hf => ?_) (fun hf => ?_)
        · refine g_aload_n C dX11_world_29 rfl rfl ?_
          refine g_iload_n C dX11_world_30 rfl rfl ?_
          refine g_iload_n C dX11_world_31 rfl rfl ?_
          refine g_iload C dX11_world_32 rfl ?_
          obtain ⟨z3, hz3, hf⟩ := gbind hf ho
          refine g_callV C dX11_world_34 (m_X11_take l X N _ _ _  (gLay.sub hL (by decide) (by decide)) _ _ _ z3.1 z3.2 hz3) gEin0 (cwV 3 C.2.2.2.2.1 gX11_world_X11_take rfl rfl rfl (by decide +kernel) ⟨Nat.le_of_ble_eq_true rfl, Nat.le_of_ble_eq_true rfl⟩) (L0 hL (by decide) (by decide)) (by decide) rfl rfl rfl (Nat.le_of_ble_eq_true rfl) ⟨Nat.le_of_ble_eq_true rfl, Nat.le_of_ble_eq_true rfl⟩ ?_
          refine g_istore C dX11_world_37 (Nat.le_of_ble_eq_true rfl) rfl rfl ?_
          refine g_iload C dX11_world_39 rfl ?_
          refine g_if_eq (tgt := 47) C dX11_world_41 (by decide) hf (fun hf => ?_) (fun hf => ?_)
          · refine g_iconst (v := 4) C dX11_world_47 (by decide) ?_
            refine g_newa (q := S.length) (N' := 4) C dX11_world_48 ai (by decide) (by decide) (by decide) ⟨Nat.le_of_ble_eq_true rfl, Nat.le_of_ble_eq_true rfl⟩ rfl ?_
            have hL := gLay.app hL (T := [(12, 4)]) (by decide)
            refine g_astore C dX11_world_50 (Nat.le_of_ble_eq_true rfl) rfl rfl ?_
            refine g_aload_n C dX11_world_52 rfl rfl ?_
            refine g_getR (i := 6) (j := 6) C dX11_world_53 (L0 hL (by decide) (by decide)) c10 rfl (by decide) f28 (fun _ h9 => h9) (LR0_6 hL (by decide) (by decide)) ?_
            refine g_iconst (v := 0) C dX11_world_56 (by decide) ?_
            refine g_aload C dX11_world_57 rfl ?_
            refine g_iconst (v := 0) C dX11_world_59 (by decide) ?_
            refine g_iload C dX11_world_60 rfl ?_
            refine g_iconst (v := 1) C dX11_world_62 (by decide) ?_
            refine g_iadd C dX11_world_63 ?_
            obtain ⟨ha4, hf⟩ := gcaseF hf ho
            refine g_copy C dX11_world_64 m108 hacw (L5 hL (by decide) (by decide)) (gAr_at ha4) ho hf (Nat.le_of_ble_eq_true rfl) (Nat.le_of_ble_eq_true rfl) (fun hf => ?_)
            refine g_aload_n C dX11_world_67 rfl rfl ?_
            refine g_iload_n C dX11_world_68 rfl rfl ?_
            refine g_aload_n C dX11_world_69 rfl rfl ?_
            refine g_getR (i := 1) (j := 1) C dX11_world_70 (L0 hL (by decide) (by decide)) c10 rfl (by decide) f64 (fun _ h9 => h9) (LR0_1 hL (by decide) (by decide)) ?_
            refine g_aload C dX11_world_73 rfl ?_
            refine g_iload C dX11_world_75 rfl ?_
            obtain ⟨z5, hz5, hf⟩ := gbind hf ho
            refine g_callV C dX11_world_77 (m_X8_worldOf l X N _ _ _  (gLay.sub hL (by decide) (by decide)) _ _ z5.1 z5.2.1 z5.2.2.1 z5.2.2.2 hz5) gEin0 (cwV 2 C.2.2.2.2.1 gX11_world_X8_worldOf rfl rfl rfl (by decide +kernel) ⟨Nat.le_of_ble_eq_true rfl, Nat.le_of_ble_eq_true rfl⟩) (L37 hL (by decide) (by decide)) (by decide) rfl rfl rfl (Nat.le_of_ble_eq_true rfl) ⟨Nat.le_of_ble_eq_true rfl, Nat.le_of_ble_eq_true rfl⟩ ?_
            obtain ⟨hL7, hf⟩ := gcase hf ho
            have hL7 := gLayb_ok (by decide) hL7
            obtain ⟨z6, hz6, hf⟩ := gbind hf ho
            refine g_callV C dX11_world_80 (m_X11_shelve l X N _ _ _  (gLay.sub hL7 (by decide) (by decide)) _ _ z6.1 z6.2.1 z6.2.2.1 z6.2.2.2 hz6) (gEN_in hE) (cwV 2 C.2.2.2.2.1 gX11_world_X11_shelve rfl rfl rfl (by decide +kernel) ⟨Nat.le_of_ble_eq_true rfl, Nat.le_of_ble_eq_true rfl⟩) (L0 hL7 (by decide) (by decide)) (by decide) rfl rfl rfl (Nat.le_of_ble_eq_true rfl) ⟨Nat.le_of_ble_eq_true rfl, Nat.le_of_ble_eq_true rfl⟩ ?_
            obtain ⟨rfl, rfl, rfl, rfl⟩ := gs4 hf
            refine g_widen (k := 3) (n := 14) (Nat.le_of_ble_eq_true rfl) (Nat.le_of_ble_eq_true rfl) ?_
            exact g_iret C dX11_world_83 hr hlk
          · refine g_iload C dX11_world_44 rfl ?_
            obtain ⟨rfl, rfl, rfl, rfl⟩ := gs4 hf
            refine g_widen (k := 3) (n := 14) (Nat.le_of_ble_eq_true rfl) (Nat.le_of_ble_eq_true rfl) ?_
            exact g_iret C dX11_world_46 hr hlk
        · refine g_ldc C k80 dX11_world_26 ?_
          obtain ⟨rfl, rfl, rfl, rfl⟩ := gs4 hf
          refine g_widen (k := 3) (n := 14) (Nat.le_of_ble_eq_true rfl) (Nat.le_of_ble_eq_true rfl) ?_
          exact g_iret C dX11_world_28 hr hlk

