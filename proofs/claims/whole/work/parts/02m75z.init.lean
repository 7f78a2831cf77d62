/-! the class is made: as it is, with what has been made at each place alone asked for -/
section GY
def f_Y11_init (N : Nat) (I : gI) (R : gR) (S : gS) (a0 : Int32) (a1 : Int32) : Option (gI × gR × gS) :=
  if S.length = 1 then if (S ++ [(14, 8)])[0]? = some (10, 8) then if (S ++ [(14, 8)]).length = 2 then if ((S ++ [(14, 8)]) ++ [(15, 10)]).length = 3 then ((f_X9_init N (gZ I 3) (gZn (gU (gZn (gU (gZn R 1) 0 3 (some 1)) 2) 0 4 (some 2)) 3) (((S ++ [(14, 8)]) ++ [(15, 10)]) ++ [(9, 2)])).bind (fun z5 => if z5.2.2[0]? = some (10, 8) then if z5.2.2.length = 5 then if (z5.2.2 ++ [(12, 5)]).length = 6 then (((if a0 = (3 : Int32) then some a0 else (if a0 = (5 : Int32) then some a0 else some (2 : Int32))) : Option (Int32)).bind (fun z9 => ((f_X2_init N (gZ (gU (gZ z5.1 5) 0 7 (0 : Int32)) 6) (gZn (gU (gU z5.2.1 0 5 (some 3)) 0 6 (some 5)) 6) ((z5.2.2 ++ [(12, 5)]) ++ [(2, 8)]) z9 (if (1 : Int32) < (if a1 < (6 : Int32) then a1 else (6 : Int32)) then (if a1 < (6 : Int32) then a1 else (6 : Int32)) else (1 : Int32))).bind (fun z10 => if z10.2.2[0]? = some (10, 8) then if z10.2.2.length = 17 then ((f_X6_init N (gZ z10.1 17) (gZn (gU z10.2.1 0 0 (some 6)) 17) (z10.2.2 ++ [(6, 10)])).bind (fun z13 => if z13.2.2.length = 37 then if (z13.2.2 ++ [(8, 10)])[0]? = some (10, 8) then if (gZn z13.2.1 37) 0 0 = some 6 then ((f_X8_init N (gZ z13.1 37) (gZn z13.2.1 37) (z13.2.2 ++ [(8, 10)])).bind (fun z17 => if z17.2.2[0]? = some (10, 8) then if z17.2.2.length = 56 then if (gZn (gU z17.2.1 0 1 (some 37)) 56) 0 0 = some 6 then ((f_X0_init N (gZ z17.1 56) (gZn (gU z17.2.1 0 1 (some 37)) 56) (z17.2.2 ++ [(0, 12)])).bind (fun z21 => if z21.2.2[0]? = some (10, 8) then if (gU z21.2.1 0 2 (some 56)) 0 3 = some 1 then if z21.2.2.length = 75 then ((f_X5_init N (gZ z21.1 75) (gZn (gU z21.2.1 0 2 (some 56)) 75) (z21.2.2 ++ [(5, 3)]) 75).bind (fun z25 => if z25.2.2[1]? = some (14, 8) then if (0 : Int32) < 0 ∨ 8 ≤ (0 : Int32).toNatClampNeg then none else if z25.2.2[75]? = some (5, 3) then if z25.2.2[0]? = some (10, 8) then if (gU z25.2.1 1 (0 : Int32).toNatClampNeg (some 75)) 0 3 = some 1 then if z25.2.2.length = 77 then ((f_X5_init N (gZ z25.1 77) (gZn (gU z25.2.1 1 (0 : Int32).toNatClampNeg (some 75)) 77) (z25.2.2 ++ [(5, 3)]) 77).bind (fun z31 => if z31.2.2[1]? = some (14, 8) then if (1 : Int32) < 0 ∨ 8 ≤ (1 : Int32).toNatClampNeg then none else if z31.2.2[77]? = some (5, 3) then if z31.2.2[0]? = some (10, 8) then if (gU z31.2.1 1 (1 : Int32).toNatClampNeg (some 77)) 0 3 = some 1 then if z31.2.2.length = 79 then ((f_X5_init N (gZ z31.1 79) (gZn (gU z31.2.1 1 (1 : Int32).toNatClampNeg (some 77)) 79) (z31.2.2 ++ [(5, 3)]) 79).bind (fun z37 => if z37.2.2[1]? = some (14, 8) then if (2 : Int32) < 0 ∨ 8 ≤ (2 : Int32).toNatClampNeg then none else if z37.2.2[79]? = some (5, 3) then if z37.2.2[0]? = some (10, 8) then if (gU z37.2.1 1 (2 : Int32).toNatClampNeg (some 79)) 0 3 = some 1 then if z37.2.2.length = 81 then ((f_X5_init N (gZ z37.1 81) (gZn (gU z37.2.1 1 (2 : Int32).toNatClampNeg (some 79)) 81) (z37.2.2 ++ [(5, 3)]) 81).bind (fun z43 => if z43.2.2[1]? = some (14, 8) then if (3 : Int32) < 0 ∨ 8 ≤ (3 : Int32).toNatClampNeg then none else if z43.2.2[81]? = some (5, 3) then if z43.2.2[0]? = some (10, 8) then if (gU z43.2.1 1 (3 : Int32).toNatClampNeg (some 81)) 0 3 = some 1 then if z43.2.2.length = 83 then ((f_X5_init N (gZ z43.1 83) (gZn (gU z43.2.1 1 (3 : Int32).toNatClampNeg (some 81)) 83) (z43.2.2 ++ [(5, 3)]) 83).bind (fun z49 => if z49.2.2[1]? = some (14, 8) then if (4 : Int32) < 0 ∨ 8 ≤ (4 : Int32).toNatClampNeg then none else if z49.2.2[83]? = some (5, 3) then if z49.2.2[0]? = some (10, 8) then if (gU z49.2.1 1 (4 : Int32).toNatClampNeg (some 83)) 0 3 = some 1 then if z49.2.2.length = 85 then ((f_X5_init N (gZ z49.1 85) (gZn (gU z49.2.1 1 (4 : Int32).toNatClampNeg (some 83)) 85) (z49.2.2 ++ [(5, 3)]) 85).bind (fun z55 => if z55.2.2[1]? = some (14, 8) then if (5 : Int32) < 0 ∨ 8 ≤ (5 : Int32).toNatClampNeg then none else if z55.2.2[85]? = some (5, 3) then if z55.2.2[0]? = some (10, 8) then if (gU z55.2.1 1 (5 : Int32).toNatClampNeg (some 85)) 0 3 = some 1 then if z55.2.2.length = 87 then ((f_X5_init N (gZ z55.1 87) (gZn (gU z55.2.1 1 (5 : Int32).toNatClampNeg (some 85)) 87) (z55.2.2 ++ [(5, 3)]) 87).bind (fun z61 => if z61.2.2[1]? = some (14, 8) then if (6 : Int32) < 0 ∨ 8 ≤ (6 : Int32).toNatClampNeg then none else if z61.2.2[87]? = some (5, 3) then if z61.2.2[0]? = some (10, 8) then if (gU z61.2.1 1 (6 : Int32).toNatClampNeg (some 87)) 0 3 = some 1 then if z61.2.2.length = 89 then ((f_X5_init N (gZ z61.1 89) (gZn (gU z61.2.1 1 (6 : Int32).toNatClampNeg (some 87)) 89) (z61.2.2 ++ [(5, 3)]) 89).bind (fun z67 => if z67.2.2[1]? = some (14, 8) then if (7 : Int32) < 0 ∨ 8 ≤ (7 : Int32).toNatClampNeg then none else if z67.2.2[89]? = some (5, 3) then some (z67.1, gU z67.2.1 1 (7 : Int32).toNatClampNeg (some 89), z67.2.2) else none else none)) else none else none else none else none else none)) else none else none else none else none else none)) else none else none else none else none else none)) else none else none else none else none else none)) else none else none else none else none else none)) else none else none else none else none else none)) else none else none else none else none else none)) else none else none else none)) else none else none else none)) else none else none else none)) else none else none)))) else none else none else none)) else none else none else none else none
/-- what is left: the constructors' functions answer, and each call's, and the state stays well -/
def gPureY (N : Nat) (Inv : Nat → gI → gR → gS → Prop) : Prop :=
  (∀ k I R S, Inv k I R S → gLay 0 114 R S) ∧
  (∀ pv nv : Int32, ∃ J P T J2 P2 T2, f_Y11_init N (gZ (fun _ _ => 0) 0) (gZn (fun _ _ => none) 0) ([] ++ [(10, 8)]) pv nv = some (J, P, T) ∧ T.length = 91 ∧ f_X12_init N (gZ J 91) (gZn P 91) (T ++ [(11, 29)]) pv nv = some (J2, P2, T2) ∧ Inv 0 J2 P2 T2) ∧
  (∀ (k : Nat) (I : gI) (R : gR) (S : gS) (op a0 a1 a2 a3 a4 : Int32), k < 512 → Inv k I R S → ∃ J P T, f_step N I R S op a0 a1 a2 a3 a4 = some (J, P, T) ∧ Inv (k + 1) J P T)
set_option maxRecDepth 100000 in
set_option maxHeartbeats 8000000 in
theorem m_Y11_init (l : Launch) (X : gX) (N : Nat) (I : gI) (R : gR) (S : gS) (tm : Nat) (a0 : Int32) (a1 : Int32) (J : gI) (P : gR) (T : gS) (hf : f_Y11_init N I R S a0 a1 = some (J, P, T)) : gM l yX11_init wsX11_init { frames := 4, cells := 90, slots := 1077, locals := 99 } X (gEC X tm) [.ref (X.1 + 0), .int a0, .int a1] I R S none J P T 90 1077 := by
  unfold f_Y11_init at hf
  refine gM_of (cc := cX11_init) (own := RX11) (maxL := 5) (ret := none) (by decide) rfl rfl (Nat.le_of_ble_eq_true rfl) ?_
  intro p e s m args below meth c C hr hlk hnm hE
  have ho : (some (J, P, T)) ≠ none := fun h => by cases h
  have hZm := hE.2.2.2.1
  have hTm := hE.2.2.2.2.1
  have m1 := C.2.2.2.2.1 (.methodLink RX11 1 objectInit) (by decide +kernel)
  have oi := C.2.2.2.2.1 (.instanceMethod objectInit) (by decide +kernel)
  have oc := C.2.2.2.2.1 (.code objectInit ⟨#[0xb1]⟩ 1 none) (by first | exact List.mem_cons_of_mem _ (List.mem_append_left _ (List.mem_of_getElem? (i := 2) rfl)) | decide +kernel)
  have cl9 := C.2.2.2.2.1 (.classLink RX11 9 RX5) (by decide +kernel)
  have f11 := C.2.2.2.2.1 (.fieldLink RX11 11 "TimesByPowers" "rows" "[LTimesByPowers$Row;") (by decide +kernel)
  have c10 : gCl wsX11_init 10 RX11 TX11 8 := ⟨by decide, rfl, rfl, by decide +kernel⟩
  have cl15 := C.2.2.2.2.1 (.classLink RX11 15 RX10) (by decide +kernel)
  have f17 := C.2.2.2.2.1 (.fieldLink RX11 17 "TimesByPowers" "shelf" "[LTimesByPowers$World;") (by decide +kernel)
  have c9 : gCl wsX11_init 9 RX9 TX9 2 := ⟨by decide, rfl, rfl, by decide +kernel⟩
  have cl21 := C.2.2.2.2.1 (.classLink RX11 21 RX9) (by decide +kernel)
  have inX9 := C.2.2.2.2.1 (.instantiable RX9 2) (by decide +kernel)
  have niX9 := C.2.2.2.2.1 (.initialized RX9) (by decide +kernel)
  have imX9 := C.2.2.2.2.1 (.instanceMethod yX9_init) (by decide +kernel)
  have f24 := C.2.2.2.2.1 (.fieldLink RX11 24 "TimesByPowers" "steps" "LTimesByPowers$Trace;") (by decide +kernel)
  have ai := C.2.2.2.2.1 (.arrayClass .int) (by decide +kernel)
  have f28 := C.2.2.2.2.1 (.fieldLink RX11 28 "TimesByPowers" "taken" "[I") (by decide +kernel)
  have f32 := C.2.2.2.2.1 (.fieldLink RX11 32 "TimesByPowers" "latest" "I") (by decide +kernel)
  have c2 : gCl wsX11_init 2 RX2 TX2 8 := ⟨by decide, rfl, rfl, by decide +kernel⟩
  have cl36 := C.2.2.2.2.1 (.classLink RX11 36 RX2) (by decide +kernel)
  have inX2 := C.2.2.2.2.1 (.instantiable RX2 8) (by decide +kernel)
  have niX2 := C.2.2.2.2.1 (.initialized RX2) (by decide +kernel)
  have m38 := C.2.2.2.2.1 (.methodLink RX11 38 Lib.Math.min.name) (by decide +kernel)
  have hmin : gMin s args := ⟨C.2.2.2.2.1 (.static Lib.Math.min.name) (by decide +kernel), C.2.2.2.2.1 (.initialized "java/lang/Math") (by decide +kernel), C.2.2.2.2.1 (.code Lib.Math.min.name Lib.Math.min.code 2 (some .int)) (by decide +kernel)⟩
  have m44 := C.2.2.2.2.1 (.methodLink RX11 44 Lib.Math.max.name) (by decide +kernel)
  have hmax : gMax s args := ⟨C.2.2.2.2.1 (.static Lib.Math.max.name) (by decide +kernel), C.2.2.2.2.1 (.initialized "java/lang/Math") (by decide +kernel), C.2.2.2.2.1 (.code Lib.Math.max.name Lib.Math.max.code 2 (some .int)) (by decide +kernel)⟩
  have imX2 := C.2.2.2.2.1 (.instanceMethod yX2_init) (by decide +kernel)
  have m47 := C.2.2.2.2.1 (.methodLink RX11 47 yX2_init) (by decide +kernel)
  have f50 := C.2.2.2.2.1 (.fieldLink RX11 50 "TimesByPowers" "elements" "LTimesByPowers$Field;") (by decide +kernel)
  have c6 : gCl wsX11_init 6 RX6 TX6 10 := ⟨by decide, rfl, rfl, by decide +kernel⟩
  have cl54 := C.2.2.2.2.1 (.classLink RX11 54 RX6) (by decide +kernel)
  have inX6 := C.2.2.2.2.1 (.instantiable RX6 10) (by decide +kernel)
  have niX6 := C.2.2.2.2.1 (.initialized RX6) (by decide +kernel)
  have imX6 := C.2.2.2.2.1 (.instanceMethod yX6_init) (by decide +kernel)
  have m56 := C.2.2.2.2.1 (.methodLink RX11 56 yX6_init) (by decide +kernel)
  have c8 : gCl wsX11_init 8 RX8 TX8 10 := ⟨by decide, rfl, rfl, by decide +kernel⟩
  have cl59 := C.2.2.2.2.1 (.classLink RX11 59 RX8) (by decide +kernel)
  have inX8 := C.2.2.2.2.1 (.instantiable RX8 10) (by decide +kernel)
  have niX8 := C.2.2.2.2.1 (.initialized RX8) (by decide +kernel)
  have imX8 := C.2.2.2.2.1 (.instanceMethod yX8_init) (by decide +kernel)
  have m61 := C.2.2.2.2.1 (.methodLink RX11 61 yX8_init) (by decide +kernel)
  have f64 := C.2.2.2.2.1 (.fieldLink RX11 64 "TimesByPowers" "sums" "LTimesByPowers$Sums;") (by decide +kernel)
  have c0 : gCl wsX11_init 0 RX0 TX0 12 := ⟨by decide, rfl, rfl, by decide +kernel⟩
  have cl68 := C.2.2.2.2.1 (.classLink RX11 68 RX0) (by decide +kernel)
  have inX0 := C.2.2.2.2.1 (.instantiable RX0 12) (by decide +kernel)
  have niX0 := C.2.2.2.2.1 (.initialized RX0) (by decide +kernel)
  have imX0 := C.2.2.2.2.1 (.instanceMethod yX0_init) (by decide +kernel)
  have m70 := C.2.2.2.2.1 (.methodLink RX11 70 yX0_init) (by decide +kernel)
  have f71 := C.2.2.2.2.1 (.fieldLink RX11 71 "TimesByPowers" "action" "LTimesByPowers$Action;") (by decide +kernel)
  have c5 : gCl wsX11_init 5 RX5 TX5 3 := ⟨by decide, rfl, rfl, by decide +kernel⟩
  have inX5 := C.2.2.2.2.1 (.instantiable RX5 3) (by decide +kernel)
  have niX5 := C.2.2.2.2.1 (.initialized RX5) (by decide +kernel)
  have imX5 := C.2.2.2.2.1 (.instanceMethod yX5_init) (by decide +kernel)
  refine g_aload_n C dX11_init_0 rfl rfl ?_
  refine g_objInit C dX11_init_1 m1 oi oc (Nat.le_of_ble_eq_true rfl) (Nat.le_of_ble_eq_true rfl) ?_
  refine g_aload_n C dX11_init_4 rfl rfl ?_
  refine g_bipush (v := 8) C dX11_init_5 (by decide) ?_
  obtain ⟨hq1, hf⟩ := gcase hf ho
  refine g_anewa (q := 1) (N' := 8) 2 C dX11_init_7 cl9 hE.1 (by decide) rfl (by decide) (by decide) (by decide) ⟨Nat.le_of_ble_eq_true rfl, Nat.le_of_ble_eq_true rfl⟩ hq1 ?_
  obtain ⟨hs2, hf⟩ := gcase hf ho
  refine g_putR (i := 3) (j := 3) C dX11_init_10 hs2 c10 gy10 rfl (by decide) f11 (fun _ h9 => h9) (Or.inr ⟨rfl, hnm, rfl⟩) (fun _ => ⟨rfl, rfl⟩) ?_
  refine g_aload_n C dX11_init_13 rfl rfl ?_
  refine g_bipush (v := 10) C dX11_init_14 (by decide) ?_
  obtain ⟨hq3, hf⟩ := gcase hf ho
  refine g_anewa (q := 2) (N' := 10) 3 C dX11_init_16 cl15 hE.2.1 (by decide) rfl (by decide) (by decide) (by decide) ⟨Nat.le_of_ble_eq_true rfl, Nat.le_of_ble_eq_true rfl⟩ hq3 ?_
  refine g_putR (i := 4) (j := 4) C dX11_init_19 (gS_app hs2) c10 gy10 rfl (by decide) f17 (fun _ h9 => h9) (Or.inr ⟨rfl, hnm, rfl⟩) (fun _ => ⟨rfl, rfl⟩) ?_
  refine g_aload_n C dX11_init_22 rfl rfl ?_
  obtain ⟨hq4, hf⟩ := gcase hf ho
  refine g_new (q := 3) C dX11_init_23 c9 gy9 cl21 inX9 niX9 gd9 ⟨Nat.le_of_ble_eq_true rfl, Nat.le_of_ble_eq_true rfl⟩ hq4 ?_
  refine g_dup C dX11_init_26 rfl ?_
  obtain ⟨z5, hz5, hf⟩ := gbind hf ho
  refine g_callIN C dX11_init_27 (m_X9_init l X N _ _ _    z5.1 z5.2.1 z5.2.2 hz5) gEin0 ⟨va_cnB 0 C.2.2.2.2.1 gX11_init_X9_init_n23 rfl rfl rfl hE.2.2.2.2.2.1 niX9 (by decide +kernel) ⟨Nat.le_of_ble_eq_true rfl, Nat.le_of_ble_eq_true rfl⟩, rfl, imX9⟩ rfl rfl (Nat.le_of_ble_eq_true rfl) ⟨Nat.le_of_ble_eq_true rfl, Nat.le_of_ble_eq_true rfl⟩ ?_
  obtain ⟨hs6, hf⟩ := gcase hf ho
  refine g_putR (i := 5) (j := 5) C dX11_init_30 hs6 c10 gy10 rfl (by decide) f24 (fun _ h9 => h9) (Or.inr ⟨rfl, hnm, rfl⟩) (fun _ => ⟨rfl, rfl⟩) ?_
  refine g_aload_n C dX11_init_33 rfl rfl ?_
  refine g_iconst (v := 5) C dX11_init_34 (by decide) ?_
  obtain ⟨hq7, hf⟩ := gcase hf ho
  refine g_newa (q := 5) (N' := 5) C dX11_init_35 ai (by decide) (by decide) (by decide) ⟨Nat.le_of_ble_eq_true rfl, Nat.le_of_ble_eq_true rfl⟩ hq7 ?_
  refine g_putR (i := 6) (j := 6) C dX11_init_37 (gS_app hs6) c10 gy10 rfl (by decide) f28 (fun _ h9 => h9) (Or.inr ⟨rfl, hnm, rfl⟩) (fun _ => ⟨rfl, rfl⟩) ?_
  refine g_aload_n C dX11_init_40 rfl rfl ?_
  refine g_iconst (v := 0) C dX11_init_41 (by decide) ?_
  refine g_putI (i := 7) (j := 7) C dX11_init_42 (gS_app hs6) c10 gy10 rfl f32 (fun _ h9 => h9) (Or.inl rfl) rfl ?_
  refine g_aload_n C dX11_init_45 rfl rfl ?_
  obtain ⟨hq8, hf⟩ := gcase hf ho
  refine g_new (q := 6) C dX11_init_46 c2 gy2 cl36 inX2 niX2 gd2 ⟨Nat.le_of_ble_eq_true rfl, Nat.le_of_ble_eq_true rfl⟩ hq8 ?_
  refine g_dup C dX11_init_49 rfl ?_
  refine g_iload_n C dX11_init_50 rfl rfl ?_
  refine g_iconst (v := 3) C dX11_init_51 (by decide) ?_
  refine g_join (fun z9 => [(0, .ref (X.1 + 0)), (2, .int a1)]) (fun z9 => [.int z9, .ref (X.1 + 6), .ref (X.1 + 6), .ref (X.1 + 0)]) (fun z9 => gZ (gU (gZ z5.1 5) 0 7 (0 : Int32)) 6) 65 hf ho (fun z9 hf => ?_) (fun o1 hf ho hkz9 => ?_)
  · refine g_iconst (v := 1) C dX11_init_65 (by decide) ?_
    refine g_bipush (v := 6) C dX11_init_66 (by decide) ?_
    refine g_iload_n C dX11_init_68 rfl rfl ?_
    refine g_min C dX11_init_69 m38 hmin (Nat.le_of_ble_eq_true rfl) (Nat.le_of_ble_eq_true rfl) ⟨Nat.le_of_ble_eq_true rfl, Nat.le_of_ble_eq_true rfl⟩ ?_
    refine g_max C dX11_init_72 m44 hmax (Nat.le_of_ble_eq_true rfl) (Nat.le_of_ble_eq_true rfl) ⟨Nat.le_of_ble_eq_true rfl, Nat.le_of_ble_eq_true rfl⟩ ?_
    obtain ⟨z10, hz10, hf⟩ := gbind hf ho
    refine g_callI C dX11_init_75 (m_X2_init l X N _ _ _ tm   _ _ z10.1 z10.2.1 z10.2.2 hz10) (gEC_in hE) (cwI 2 C.2.2.2.2.1 gX11_init_X2_init rfl rfl rfl niX2 m47 imX2 rfl (by decide +kernel) ⟨Nat.le_of_ble_eq_true rfl, Nat.le_of_ble_eq_true rfl⟩) rfl rfl (Nat.le_of_ble_eq_true rfl) ⟨Nat.le_of_ble_eq_true rfl, Nat.le_of_ble_eq_true rfl⟩ ?_
    obtain ⟨hs11, hf⟩ := gcase hf ho
    refine g_putR (i := 0) (j := 0) C dX11_init_78 hs11 c10 gy10 rfl (by decide) f50 (fun _ h9 => h9) (Or.inr ⟨rfl, hnm, rfl⟩) (fun _ => ⟨rfl, rfl⟩) ?_
    obtain ⟨hq12, hf⟩ := gcase hf ho
    refine g_new (q := 17) C dX11_init_81 c6 gy6 cl54 inX6 niX6 gd6 ⟨Nat.le_of_ble_eq_true rfl, Nat.le_of_ble_eq_true rfl⟩ hq12 ?_
    refine g_dup C dX11_init_84 rfl ?_
    refine g_aload_n C dX11_init_85 rfl rfl ?_
    refine g_getR (i := 0) (j := 0) C dX11_init_86 (gS_app hs11) c10 rfl (by decide) f50 (fun _ h9 => h9) rfl ?_
    obtain ⟨z13, hz13, hf⟩ := gbind hf ho
    refine g_callI C dX11_init_89 (m_X6_init l X N _ _ _ tm    z13.1 z13.2.1 z13.2.2 hz13) (gEC_in hE) (cwI 1 C.2.2.2.2.1 gX11_init_X6_init rfl rfl rfl niX6 m56 imX6 rfl (by decide +kernel) ⟨Nat.le_of_ble_eq_true rfl, Nat.le_of_ble_eq_true rfl⟩) rfl rfl (Nat.le_of_ble_eq_true rfl) ⟨Nat.le_of_ble_eq_true rfl, Nat.le_of_ble_eq_true rfl⟩ ?_
    refine g_astore_n C dX11_init_92 rfl (Nat.le_of_ble_eq_true rfl) rfl rfl ?_
    refine g_aload_n C dX11_init_93 rfl rfl ?_
    obtain ⟨hq14, hf⟩ := gcase hf ho
    refine g_new (q := 37) C dX11_init_94 c8 gy8 cl59 inX8 niX8 gd8 ⟨Nat.le_of_ble_eq_true rfl, Nat.le_of_ble_eq_true rfl⟩ hq14 ?_
    refine g_dup C dX11_init_97 rfl ?_
    refine g_aload_n C dX11_init_98 rfl rfl ?_
    obtain ⟨hs15, hf⟩ := gcase hf ho
    obtain ⟨hL16, hf⟩ := gcase hf ho
    refine g_getR (i := 0) (j := 0) C dX11_init_99 hs15 c10 rfl (by decide) f50 (fun _ h9 => h9) hL16 ?_
    refine g_aload_n C dX11_init_102 rfl rfl ?_
    obtain ⟨z17, hz17, hf⟩ := gbind hf ho
    refine g_callI C dX11_init_103 (m_X8_init l X N _ _ _ tm    z17.1 z17.2.1 z17.2.2 hz17) (gEC_in hE) (cwI 2 C.2.2.2.2.1 gX11_init_X8_init rfl rfl rfl niX8 m61 imX8 rfl (by decide +kernel) ⟨Nat.le_of_ble_eq_true rfl, Nat.le_of_ble_eq_true rfl⟩) rfl rfl (Nat.le_of_ble_eq_true rfl) ⟨Nat.le_of_ble_eq_true rfl, Nat.le_of_ble_eq_true rfl⟩ ?_
    obtain ⟨hs18, hf⟩ := gcase hf ho
    refine g_putR (i := 1) (j := 1) C dX11_init_106 hs18 c10 gy10 rfl (by decide) f64 (fun _ h9 => h9) (Or.inr ⟨rfl, hnm, rfl⟩) (fun _ => ⟨rfl, rfl⟩) ?_
    refine g_aload_n C dX11_init_109 rfl rfl ?_
    obtain ⟨hq19, hf⟩ := gcase hf ho
    refine g_new (q := 56) C dX11_init_110 c0 gy0 cl68 inX0 niX0 gd0 ⟨Nat.le_of_ble_eq_true rfl, Nat.le_of_ble_eq_true rfl⟩ hq19 ?_
    refine g_dup C dX11_init_113 rfl ?_
    refine g_aload_n C dX11_init_114 rfl rfl ?_
    obtain ⟨hL20, hf⟩ := gcase hf ho
    refine g_getR (i := 0) (j := 0) C dX11_init_115 (gS_app hs18) c10 rfl (by decide) f50 (fun _ h9 => h9) hL20 ?_
    refine g_aload_n C dX11_init_118 rfl rfl ?_
    obtain ⟨z21, hz21, hf⟩ := gbind hf ho
    refine g_callI C dX11_init_119 (m_X0_init l X N _ _ _ tm    z21.1 z21.2.1 z21.2.2 hz21) (gEC_in hE) (cwI 2 C.2.2.2.2.1 gX11_init_X0_init rfl rfl rfl niX0 m70 imX0 rfl (by decide +kernel) ⟨Nat.le_of_ble_eq_true rfl, Nat.le_of_ble_eq_true rfl⟩) rfl rfl (Nat.le_of_ble_eq_true rfl) ⟨Nat.le_of_ble_eq_true rfl, Nat.le_of_ble_eq_true rfl⟩ ?_
    obtain ⟨hs22, hf⟩ := gcase hf ho
    refine g_putR (i := 2) (j := 2) C dX11_init_122 hs22 c10 gy10 rfl (by decide) f71 (fun _ h9 => h9) (Or.inr ⟨rfl, hnm, rfl⟩) (fun _ => ⟨rfl, rfl⟩) ?_
    refine g_iconst (v := 0) C dX11_init_125 (by decide) ?_
    refine g_istore C dX11_init_126 (Nat.le_of_ble_eq_true rfl) rfl rfl ?_
    refine g_iload C dX11_init_128 rfl ?_
    refine g_bipush (v := 8) C dX11_init_130 (by decide) ?_
    refine g_icmp_ge_f (tgt := 155) C dX11_init_132 (by decide) (by decide) ?_
    refine g_aload_n C dX11_init_135 rfl rfl ?_
    obtain ⟨hL23, hf⟩ := gcase hf ho
    refine g_getR (i := 3) (j := 3) C dX11_init_136 hs22 c10 rfl (by decide) f11 (fun _ h9 => h9) hL23 ?_
    refine g_iload C dX11_init_139 rfl ?_
    obtain ⟨hq24, hf⟩ := gcase hf ho
    refine g_new (q := 75) C dX11_init_141 c5 gy5 cl9 inX5 niX5 gd5 ⟨Nat.le_of_ble_eq_true rfl, Nat.le_of_ble_eq_true rfl⟩ hq24 ?_
    refine g_dup C dX11_init_144 rfl ?_
    obtain ⟨z25, hz25, hf⟩ := gbind hf ho
    refine g_callIN C dX11_init_145 (m_X5_init l X N _ _ _   _ z25.1 z25.2.1 z25.2.2 hz25) gEin0 ⟨va_cnB 0 C.2.2.2.2.1 gX11_init_X5_init_n75 rfl rfl rfl hE.2.2.2.2.2.2 niX5 (by decide +kernel) ⟨Nat.le_of_ble_eq_true rfl, Nat.le_of_ble_eq_true rfl⟩, rfl, imX5⟩ rfl rfl (Nat.le_of_ble_eq_true rfl) ⟨Nat.le_of_ble_eq_true rfl, Nat.le_of_ble_eq_true rfl⟩ ?_
    obtain ⟨hs26, hf⟩ := gcase hf ho
    obtain ⟨hs27, hf⟩ := gcase hf ho
    refine g_aast 2 C dX11_init_148 (by decide) hs26 rfl hs27 (by decide) rfl (Or.inl rfl) ho hf (fun hf => ?_)
    refine g_iinc (d := 1) (v := (1 : Int32)) C dX11_init_149 rfl (by decide) (by decide) (Nat.le_of_ble_eq_true rfl) rfl rfl ?_
    refine g_goto (tgt := 128) C dX11_init_152 (by decide) ?_
    refine g_iload C dX11_init_128 rfl ?_
    refine g_bipush (v := 8) C dX11_init_130 (by decide) ?_
    refine g_icmp_ge_f (tgt := 155) C dX11_init_132 (by decide) (by decide) ?_
    refine g_aload_n C dX11_init_135 rfl rfl ?_
    obtain ⟨hs28, hf⟩ := gcase hf ho
    obtain ⟨hL29, hf⟩ := gcase hf ho
    refine g_getR (i := 3) (j := 3) C dX11_init_136 hs28 c10 rfl (by decide) f11 (fun _ h9 => h9) hL29 ?_
    refine g_iload C dX11_init_139 rfl ?_
    obtain ⟨hq30, hf⟩ := gcase hf ho
    refine g_new (q := 77) C dX11_init_141 c5 gy5 cl9 inX5 niX5 gd5 ⟨Nat.le_of_ble_eq_true rfl, Nat.le_of_ble_eq_true rfl⟩ hq30 ?_
    refine g_dup C dX11_init_144 rfl ?_
    obtain ⟨z31, hz31, hf⟩ := gbind hf ho
    refine g_callIN C dX11_init_145 (m_X5_init l X N _ _ _   _ z31.1 z31.2.1 z31.2.2 hz31) gEin0 ⟨va_cnB 0 C.2.2.2.2.1 gX11_init_X5_init_n75 rfl rfl rfl hE.2.2.2.2.2.2 niX5 (by decide +kernel) ⟨Nat.le_of_ble_eq_true rfl, Nat.le_of_ble_eq_true rfl⟩, rfl, imX5⟩ rfl rfl (Nat.le_of_ble_eq_true rfl) ⟨Nat.le_of_ble_eq_true rfl, Nat.le_of_ble_eq_true rfl⟩ ?_
    obtain ⟨hs32, hf⟩ := gcase hf ho
    obtain ⟨hs33, hf⟩ := gcase hf ho
    refine g_aast 2 C dX11_init_148 (by decide) hs32 rfl hs33 (by decide) rfl (Or.inl rfl) ho hf (fun hf => ?_)
    refine g_iinc (d := 1) (v := (2 : Int32)) C dX11_init_149 rfl (by decide) (by decide) (Nat.le_of_ble_eq_true rfl) rfl rfl ?_
    refine g_goto (tgt := 128) C dX11_init_152 (by decide) ?_
    refine g_iload C dX11_init_128 rfl ?_
    refine g_bipush (v := 8) C dX11_init_130 (by decide) ?_
    refine g_icmp_ge_f (tgt := 155) C dX11_init_132 (by decide) (by decide) ?_
    refine g_aload_n C dX11_init_135 rfl rfl ?_
    obtain ⟨hs34, hf⟩ := gcase hf ho
    obtain ⟨hL35, hf⟩ := gcase hf ho
    refine g_getR (i := 3) (j := 3) C dX11_init_136 hs34 c10 rfl (by decide) f11 (fun _ h9 => h9) hL35 ?_
    refine g_iload C dX11_init_139 rfl ?_
    obtain ⟨hq36, hf⟩ := gcase hf ho
    refine g_new (q := 79) C dX11_init_141 c5 gy5 cl9 inX5 niX5 gd5 ⟨Nat.le_of_ble_eq_true rfl, Nat.le_of_ble_eq_true rfl⟩ hq36 ?_
    refine g_dup C dX11_init_144 rfl ?_
    obtain ⟨z37, hz37, hf⟩ := gbind hf ho
    refine g_callIN C dX11_init_145 (m_X5_init l X N _ _ _   _ z37.1 z37.2.1 z37.2.2 hz37) gEin0 ⟨va_cnB 0 C.2.2.2.2.1 gX11_init_X5_init_n75 rfl rfl rfl hE.2.2.2.2.2.2 niX5 (by decide +kernel) ⟨Nat.le_of_ble_eq_true rfl, Nat.le_of_ble_eq_true rfl⟩, rfl, imX5⟩ rfl rfl (Nat.le_of_ble_eq_true rfl) ⟨Nat.le_of_ble_eq_true rfl, Nat.le_of_ble_eq_true rfl⟩ ?_
    obtain ⟨hs38, hf⟩ := gcase hf ho
    obtain ⟨hs39, hf⟩ := gcase hf ho
    refine g_aast 2 C dX11_init_148 (by decide) hs38 rfl hs39 (by decide) rfl (Or.inl rfl) ho hf (fun hf => ?_)
    refine g_iinc (d := 1) (v := (3 : Int32)) C dX11_init_149 rfl (by decide) (by decide) (Nat.le_of_ble_eq_true rfl) rfl rfl ?_
    refine g_goto (tgt := 128) C dX11_init_152 (by decide) ?_
    refine g_iload C dX11_init_128 rfl ?_
    refine g_bipush (v := 8) C dX11_init_130 (by decide) ?_
    refine g_icmp_ge_f (tgt := 155) C dX11_init_132 (by decide) (by decide) ?_
    refine g_aload_n C dX11_init_135 rfl rfl ?_
    obtain ⟨hs40, hf⟩ := gcase hf ho
    obtain ⟨hL41, hf⟩ := gcase hf ho
    refine g_getR (i := 3) (j := 3) C dX11_init_136 hs40 c10 rfl (by decide) f11 (fun _ h9 => h9) hL41 ?_
    refine g_iload C dX11_init_139 rfl ?_
    obtain ⟨hq42, hf⟩ := gcase hf ho
    refine g_new (q := 81) C dX11_init_141 c5 gy5 cl9 inX5 niX5 gd5 ⟨Nat.le_of_ble_eq_true rfl, Nat.le_of_ble_eq_true rfl⟩ hq42 ?_
    refine g_dup C dX11_init_144 rfl ?_
    obtain ⟨z43, hz43, hf⟩ := gbind hf ho
    refine g_callIN C dX11_init_145 (m_X5_init l X N _ _ _   _ z43.1 z43.2.1 z43.2.2 hz43) gEin0 ⟨va_cnB 0 C.2.2.2.2.1 gX11_init_X5_init_n75 rfl rfl rfl hE.2.2.2.2.2.2 niX5 (by decide +kernel) ⟨Nat.le_of_ble_eq_true rfl, Nat.le_of_ble_eq_true rfl⟩, rfl, imX5⟩ rfl rfl (Nat.le_of_ble_eq_true rfl) ⟨Nat.le_of_ble_eq_true rfl, Nat.le_of_ble_eq_true rfl⟩ ?_
    obtain ⟨hs44, hf⟩ := gcase hf ho
    obtain ⟨hs45, hf⟩ := gcase hf ho
    refine g_aast 2 C dX11_init_148 (by decide) hs44 rfl hs45 (by decide) rfl (Or.inl rfl) ho hf (fun hf => ?_)
    refine g_iinc (d := 1) (v := (4 : Int32)) C dX11_init_149 rfl (by decide) (by decide) (Nat.le_of_ble_eq_true rfl) rfl rfl ?_
    refine g_goto (tgt := 128) C dX11_init_152 (by decide) ?_
    refine g_iload C dX11_init_128 rfl ?_
    refine g_bipush (v := 8) C dX11_init_130 (by decide) ?_
    refine g_icmp_ge_f (tgt := 155) C dX11_init_132 (by decide) (by decide) ?_
    refine g_aload_n C dX11_init_135 rfl rfl ?_
    obtain ⟨hs46, hf⟩ := gcase hf ho
    obtain ⟨hL47, hf⟩ := gcase hf ho
    refine g_getR (i := 3) (j := 3) C dX11_init_136 hs46 c10 rfl (by decide) f11 (fun _ h9 => h9) hL47 ?_
    refine g_iload C dX11_init_139 rfl ?_
    obtain ⟨hq48, hf⟩ := gcase hf ho
    refine g_new (q := 83) C dX11_init_141 c5 gy5 cl9 inX5 niX5 gd5 ⟨Nat.le_of_ble_eq_true rfl, Nat.le_of_ble_eq_true rfl⟩ hq48 ?_
    refine g_dup C dX11_init_144 rfl ?_
    obtain ⟨z49, hz49, hf⟩ := gbind hf ho
    refine g_callIN C dX11_init_145 (m_X5_init l X N _ _ _   _ z49.1 z49.2.1 z49.2.2 hz49) gEin0 ⟨va_cnB 0 C.2.2.2.2.1 gX11_init_X5_init_n75 rfl rfl rfl hE.2.2.2.2.2.2 niX5 (by decide +kernel) ⟨Nat.le_of_ble_eq_true rfl, Nat.le_of_ble_eq_true rfl⟩, rfl, imX5⟩ rfl rfl (Nat.le_of_ble_eq_true rfl) ⟨Nat.le_of_ble_eq_true rfl, Nat.le_of_ble_eq_true rfl⟩ ?_
    obtain ⟨hs50, hf⟩ := gcase hf ho
    obtain ⟨hs51, hf⟩ := gcase hf ho
    refine g_aast 2 C dX11_init_148 (by decide) hs50 rfl hs51 (by decide) rfl (Or.inl rfl) ho hf (fun hf => ?_)
    refine g_iinc (d := 1) (v := (5 : Int32)) C dX11_init_149 rfl (by decide) (by decide) (Nat.le_of_ble_eq_true rfl) rfl rfl ?_
    refine g_goto (tgt := 128) C dX11_init_152 (by decide) ?_
    refine g_iload C dX11_init_128 rfl ?_
    refine g_bipush (v := 8) C dX11_init_130 (by decide) ?_
    refine g_icmp_ge_f (tgt := 155) C dX11_init_132 (by decide) (by decide) ?_
    refine g_aload_n C dX11_init_135 rfl rfl ?_
    obtain ⟨hs52, hf⟩ := gcase hf ho
    obtain ⟨hL53, hf⟩ := gcase hf ho
    refine g_getR (i := 3) (j := 3) C dX11_init_136 hs52 c10 rfl (by decide) f11 (fun _ h9 => h9) hL53 ?_
    refine g_iload C dX11_init_139 rfl ?_
    obtain ⟨hq54, hf⟩ := gcase hf ho
    refine g_new (q := 85) C dX11_init_141 c5 gy5 cl9 inX5 niX5 gd5 ⟨Nat.le_of_ble_eq_true rfl, Nat.le_of_ble_eq_true rfl⟩ hq54 ?_
    refine g_dup C dX11_init_144 rfl ?_
    obtain ⟨z55, hz55, hf⟩ := gbind hf ho
    refine g_callIN C dX11_init_145 (m_X5_init l X N _ _ _   _ z55.1 z55.2.1 z55.2.2 hz55) gEin0 ⟨va_cnB 0 C.2.2.2.2.1 gX11_init_X5_init_n75 rfl rfl rfl hE.2.2.2.2.2.2 niX5 (by decide +kernel) ⟨Nat.le_of_ble_eq_true rfl, Nat.le_of_ble_eq_true rfl⟩, rfl, imX5⟩ rfl rfl (Nat.le_of_ble_eq_true rfl) ⟨Nat.le_of_ble_eq_true rfl, Nat.le_of_ble_eq_true rfl⟩ ?_
    obtain ⟨hs56, hf⟩ := gcase hf ho
    obtain ⟨hs57, hf⟩ := gcase hf ho
    refine g_aast 2 C dX11_init_148 (by decide) hs56 rfl hs57 (by decide) rfl (Or.inl rfl) ho hf (fun hf => ?_)
    refine g_iinc (d := 1) (v := (6 : Int32)) C dX11_init_149 rfl (by decide) (by decide) (Nat.le_of_ble_eq_true rfl) rfl rfl ?_
    refine g_goto (tgt := 128) C dX11_init_152 (by decide) ?_
    refine g_iload C dX11_init_128 rfl ?_
    refine g_bipush (v := 8) C dX11_init_130 (by decide) ?_
    refine g_icmp_ge_f (tgt := 155) C dX11_init_132 (by decide) (by decide) ?_
    refine g_aload_n C dX11_init_135 rfl rfl ?_
    obtain ⟨hs58, hf⟩ := gcase hf ho
    obtain ⟨hL59, hf⟩ := gcase hf ho
    refine g_getR (i := 3) (j := 3) C dX11_init_136 hs58 c10 rfl (by decide) f11 (fun _ h9 => h9) hL59 ?_
    refine g_iload C dX11_init_139 rfl ?_
    obtain ⟨hq60, hf⟩ := gcase hf ho
    refine g_new (q := 87) C dX11_init_141 c5 gy5 cl9 inX5 niX5 gd5 ⟨Nat.le_of_ble_eq_true rfl, Nat.le_of_ble_eq_true rfl⟩ hq60 ?_
    refine g_dup C dX11_init_144 rfl ?_
    obtain ⟨z61, hz61, hf⟩ := gbind hf ho
    refine g_callIN C dX11_init_145 (m_X5_init l X N _ _ _   _ z61.1 z61.2.1 z61.2.2 hz61) gEin0 ⟨va_cnB 0 C.2.2.2.2.1 gX11_init_X5_init_n75 rfl rfl rfl hE.2.2.2.2.2.2 niX5 (by decide +kernel) ⟨Nat.le_of_ble_eq_true rfl, Nat.le_of_ble_eq_true rfl⟩, rfl, imX5⟩ rfl rfl (Nat.le_of_ble_eq_true rfl) ⟨Nat.le_of_ble_eq_true rfl, Nat.le_of_ble_eq_true rfl⟩ ?_
    obtain ⟨hs62, hf⟩ := gcase hf ho
    obtain ⟨hs63, hf⟩ := gcase hf ho
    refine g_aast 2 C dX11_init_148 (by decide) hs62 rfl hs63 (by decide) rfl (Or.inl rfl) ho hf (fun hf => ?_)
    refine g_iinc (d := 1) (v := (7 : Int32)) C dX11_init_149 rfl (by decide) (by decide) (Nat.le_of_ble_eq_true rfl) rfl rfl ?_
    refine g_goto (tgt := 128) C dX11_init_152 (by decide) ?_
    refine g_iload C dX11_init_128 rfl ?_
    refine g_bipush (v := 8) C dX11_init_130 (by decide) ?_
    refine g_icmp_ge_f (tgt := 155) C dX11_init_132 (by decide) (by decide) ?_
    refine g_aload_n C dX11_init_135 rfl rfl ?_
    obtain ⟨hs64, hf⟩ := gcase hf ho
    obtain ⟨hL65, hf⟩ := gcase hf ho
    refine g_getR (i := 3) (j := 3) C dX11_init_136 hs64 c10 rfl (by decide) f11 (fun _ h9 => h9) hL65 ?_
    refine g_iload C dX11_init_139 rfl ?_
    obtain ⟨hq66, hf⟩ := gcase hf ho
    refine g_new (q := 89) C dX11_init_141 c5 gy5 cl9 inX5 niX5 gd5 ⟨Nat.le_of_ble_eq_true rfl, Nat.le_of_ble_eq_true rfl⟩ hq66 ?_
    refine g_dup C dX11_init_144 rfl ?_
    obtain ⟨z67, hz67, hf⟩ := gbind hf ho
    refine g_callIN C dX11_init_145 (m_X5_init l X N _ _ _   _ z67.1 z67.2.1 z67.2.2 hz67) gEin0 ⟨va_cnB 0 C.2.2.2.2.1 gX11_init_X5_init_n75 rfl rfl rfl hE.2.2.2.2.2.2 niX5 (by decide +kernel) ⟨Nat.le_of_ble_eq_true rfl, Nat.le_of_ble_eq_true rfl⟩, rfl, imX5⟩ rfl rfl (Nat.le_of_ble_eq_true rfl) ⟨Nat.le_of_ble_eq_true rfl, Nat.le_of_ble_eq_true rfl⟩ ?_
    obtain ⟨hs68, hf⟩ := gcase hf ho
    obtain ⟨hs69, hf⟩ := gcase hf ho
    refine g_aast 2 C dX11_init_148 (by decide) hs68 rfl hs69 (by decide) rfl (Or.inl rfl) ho hf (fun hf => ?_)
    refine g_iinc (d := 1) (v := (8 : Int32)) C dX11_init_149 rfl (by decide) (by decide) (Nat.le_of_ble_eq_true rfl) rfl rfl ?_
    refine g_goto (tgt := 128) C dX11_init_152 (by decide) ?_
    refine g_iload C dX11_init_128 rfl ?_
    refine g_bipush (v := 8) C dX11_init_130 (by decide) ?_
    refine g_icmp_ge_t (tgt := 155) C dX11_init_132 (by decide) (by decide) ?_
    obtain ⟨rfl, rfl, rfl⟩ := gs3 hf
    refine g_widen (k := 90) (n := 1077) (Nat.le_of_ble_eq_true rfl) (Nat.le_of_ble_eq_true rfl) ?_
    exact g_vret C dX11_init_155 hr hlk
  · refine g_icmp_eq (tgt := 60) C dX11_init_52 (by decide) hf (fun hf => ?_) (fun hf => ?_)
    · refine g_iload_n C dX11_init_60 rfl rfl ?_
      refine g_goto (tgt := 65) C dX11_init_61 (by decide) ?_
      have hx := hkz9 _ hf.symm
      refine g_sub ?_ hx
      exact (And.intro rfl (And.intro rfl trivial))
    · refine g_iload_n C dX11_init_55 rfl rfl ?_
      refine g_iconst (v := 5) C dX11_init_56 (by decide) ?_
      refine g_icmp_ne (tgt := 64) C dX11_init_57 (by decide) hf (fun hf => ?_) (fun hf => ?_)
      · refine g_iconst (v := 2) C dX11_init_64 (by decide) ?_
        have hx := hkz9 _ hf.symm
        refine g_sub ?_ hx
        exact (And.intro rfl (And.intro rfl trivial))
      · refine g_iload_n C dX11_init_60 rfl rfl ?_
        refine g_goto (tgt := 65) C dX11_init_61 (by decide) ?_
        have hx := hkz9 _ hf.symm
        refine g_sub ?_ hx
        exact (And.intro rfl (And.intro rfl trivial))
end GY
