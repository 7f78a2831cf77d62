set_option maxRecDepth 100000 in
set_option maxHeartbeats 8000000 in
theorem m_X11_turn (l : Launch) (X : gX) (N : Nat) (I : gI) (R : gR) (S : gS) (hL : gLay 0 91 R S) (a0 : Int32) (a1 : Int32) (a2 : Int32) (v : Int32) (J : gI) (P : gR) (T : gS) (hf : f_X11_turn N I R S a0 a1 a2 = some (v, J, P, T)) : gM l yX11_turn wsX11_turn { frames := 6, cells := 3, slots := 14, locals := 149 } X gEN [.ref (X.1 + 0), .int a0, .int a1, .int a2] I R S (some (.int v)) J P T 3 14 := by
  unfold f_X11_turn at hf
  refine gM_of (cc := cX11_turn) (own := RX11) (maxL := 5) (ret := (some .int)) (by decide) rfl rfl (Nat.le_of_ble_eq_true rfl) ?_
  intro p e s m args below meth c C hr hlk hnm hE
  have ho : (some (v, J, P, T)) ≠ none := fun h => by cases h
  have k80 := C.2.2.2.2.1 (.constant RX11 80 (-1000001)) (by decide +kernel)
  have f50 := C.2.2.2.2.1 (.fieldLink RX11 50 "TimesByPowers" "elements" "LTimesByPowers$Field;") (by decide +kernel)
  have c10 : gCl wsX11_turn 10 RX11 TX11 8 := ⟨by decide, rfl, rfl, by decide +kernel⟩
  have f17 := C.2.2.2.2.1 (.fieldLink RX11 17 "TimesByPowers" "shelf" "[LTimesByPowers$World;") (by decide +kernel)
  have f64 := C.2.2.2.2.1 (.fieldLink RX11 64 "TimesByPowers" "sums" "LTimesByPowers$Sums;") (by decide +kernel)
  have f154 := C.2.2.2.2.1 (.fieldLink RX11 154 "TimesByPowers$World" "\x72" "I") (by decide +kernel)
  have cw : gWc wsX11_turn := ⟨⟨by decide, rfl, rfl, by decide +kernel⟩, ⟨by decide, rfl, rfl, by decide +kernel⟩, ⟨by decide, rfl, rfl, by decide +kernel⟩, ⟨by decide, rfl, rfl, by decide +kernel⟩⟩
  refine g_iload_n C dX11_turn_0 rfl rfl ?_
  obtain ⟨z1, hz1, hf⟩ := gbind hf ho
  refine g_callS C dX11_turn_1 (m_X11_isPlace l X N _ _ _  (gLay.sub hL (by decide) (by decide)) _ z1 hz1) gEin0 (va_cwS 1 C.2.2.2.2.1 gX11_turn_X11_isPlace rfl rfl rfl (by decide +kernel) ⟨Nat.le_of_ble_eq_true rfl, Nat.le_of_ble_eq_true rfl⟩) rfl rfl (Nat.le_of_ble_eq_true rfl) ⟨Nat.le_of_ble_eq_true rfl, Nat.le_of_ble_eq_true rfl⟩ ?_
  refine g_if_eq (tgt := 29) C dX11_turn_4 (by decide) hf (fun hf => ?_) (fun hf => ?_)
  · refine g_ldc C k80 dX11_turn_29 ?_
    obtain ⟨rfl, rfl, rfl, rfl⟩ := gs4 hf
    refine g_widen (k := 3) (n := 14) (Nat.le_of_ble_eq_true rfl) (Nat.le_of_ble_eq_true rfl) ?_
    exact g_iret C dX11_turn_31 hr hlk
  · refine g_iload_n C dX11_turn_7 rfl rfl ?_
    obtain ⟨z2, hz2, hf⟩ := gbind hf ho
    refine g_callS C dX11_turn_8 (m_X11_isPlace l X N _ _ _  (gLay.sub hL (by decide) (by decide)) _ z2 hz2) gEin0 (va_cwS 1 C.2.2.2.2.1 gX11_turn_X11_isPlace rfl rfl rfl (by decide +kernel) ⟨Nat.le_of_ble_eq_true rfl, Nat.le_of_ble_eq_true rfl⟩) rfl rfl (Nat.le_of_ble_eq_true rfl) ⟨Nat.le_of_ble_eq_true rfl, Nat.le_of_ble_eq_true rfl⟩ ?_
    refine g_if_eq (tgt := 29) C dX11_turn_11 (by decide) hf (fun hf => ?_) (fun hf => ?_)
    · refine g_ldc C k80 dX11_turn_29 ?_
      obtain ⟨rfl, rfl, rfl, rfl⟩ := gs4 hf
      refine g_widen (k := 3) (n := 14) (Nat.le_of_ble_eq_true rfl) (Nat.le_of_ble_eq_true rfl) ?_
      exact g_iret C dX11_turn_31 hr hlk
    · refine g_iload_n C dX11_turn_14 rfl rfl ?_
      refine g_if_eq (tgt := 29) C dX11_turn_15 (by decide) hf (fun hf => ?_) (fun hf => ?_)
      · refine g_ldc C k80 dX11_turn_29 ?_
        obtain ⟨rfl, rfl, rfl, rfl⟩ := gs4 hf
        refine g_widen (k := 3) (n := 14) (Nat.le_of_ble_eq_true rfl) (Nat.le_of_ble_eq_true rfl) ?_
        exact g_iret C dX11_turn_31 hr hlk
      · refine g_aload_n C dX11_turn_18 rfl rfl ?_
        refine g_getR (i := 0) (j := 0) C dX11_turn_19 (L0 hL (by decide) (by decide)) c10 rfl (by decide) f50 (fun _ h9 => h9) (LR0_0 hL (by decide) (by decide)) ?_
        refine g_iload_n C dX11_turn_22 rfl rfl ?_
        obtain ⟨z3, hz3, hf⟩ := gbind hf ho
        refine g_callV C dX11_turn_23 (m_X2_has l X N _ _ _  (gLay.sub hL (by decide) (by decide)) _ z3 hz3) gEin0 (cwV 1 C.2.2.2.2.1 gX11_turn_X2_has rfl rfl rfl (by decide +kernel) ⟨Nat.le_of_ble_eq_true rfl, Nat.le_of_ble_eq_true rfl⟩) (L6 hL (by decide) (by decide)) (by decide) rfl rfl rfl (Nat.le_of_ble_eq_true rfl) ⟨Nat.le_of_ble_eq_true rfl, Nat.le_of_ble_eq_true rfl⟩ ?_
        refine g_if_ne (tgt := 32) C dX11_turn_26 (by decide) hf (fun hf => ?_) (fun hf => ?_)
        · refine g_aload_n C dX11_turn_32 rfl rfl ?_
          refine g_getR (i := 4) (j := 4) C dX11_turn_33 (L0 hL (by decide) (by decide)) c10 rfl (by decide) f17 (fun _ h9 => h9) (LR0_4 hL (by decide) (by decide)) ?_
          refine g_iload_n C dX11_turn_36 rfl rfl ?_
          refine g_aald 3 C dX11_turn_37 (by decide) (L2 hL (by decide) (by decide)) rfl rfl ho hf (fun hf => ?_)
          refine g_split hf (fun hnw4 hf => ?_) (fun w4 hsw4 hf => ?_)
          · refine g_astoreN C dX11_turn_38 (Nat.le_of_ble_eq_true rfl) rfl rfl ?_
            refine g_aloadN C dX11_turn_40 rfl ?_
            refine g_ifnonnullN C dX11_turn_42 ?_
            refine g_aload_n C dX11_turn_45 rfl rfl ?_
            refine g_iconst (v := 1) C dX11_turn_46 (by decide) ?_
            obtain ⟨z5, hz5, hf⟩ := gbind hf ho
            refine g_callV C dX11_turn_47 (m_X11_found l X N _ _ _  (gLay.sub hL (by decide) (by decide)) _ z5.1 z5.2 hz5) gEin0 (cwV 1 C.2.2.2.2.1 gX11_turn_X11_found rfl rfl rfl (by decide +kernel) ⟨Nat.le_of_ble_eq_true rfl, Nat.le_of_ble_eq_true rfl⟩) (L0 hL (by decide) (by decide)) (by decide) rfl rfl rfl (Nat.le_of_ble_eq_true rfl) ⟨Nat.le_of_ble_eq_true rfl, Nat.le_of_ble_eq_true rfl⟩ ?_
            obtain ⟨rfl, rfl, rfl, rfl⟩ := gs4 hf
            refine g_widen (k := 3) (n := 14) (Nat.le_of_ble_eq_true rfl) (Nat.le_of_ble_eq_true rfl) ?_
            exact g_iret C dX11_turn_50 hr hlk
          · obtain ⟨hww4, hf⟩ := gcase hf ho
            refine g_astore C dX11_turn_38 (Nat.le_of_ble_eq_true rfl) rfl rfl ?_
            refine g_aload C dX11_turn_40 rfl ?_
            refine g_ifnonnull (tgt := 51) C dX11_turn_42 (by decide) ?_
            refine g_aload_n C dX11_turn_51 rfl rfl ?_
            refine g_iload_n C dX11_turn_52 rfl rfl ?_
            refine g_aload_n C dX11_turn_53 rfl rfl ?_
            refine g_getR (i := 1) (j := 1) C dX11_turn_54 (L0 hL (by decide) (by decide)) c10 rfl (by decide) f64 (fun _ h9 => h9) (LR0_1 hL (by decide) (by decide)) ?_
            refine g_aload_n C dX11_turn_57 rfl rfl ?_
            refine g_getR (i := 1) (j := 1) C dX11_turn_58 (L0 hL (by decide) (by decide)) c10 rfl (by decide) f64 (fun _ h9 => h9) (LR0_1 hL (by decide) (by decide)) ?_
            refine g_aload C dX11_turn_61 rfl ?_
            refine g_iload_n C dX11_turn_63 rfl rfl ?_
            obtain ⟨z6, hz6, hf⟩ := gbind hf ho
            refine g_callV C dX11_turn_64 (m_X8_turned l X N _ _ _  (gLay.sub hL (by decide) (by decide)) _ _ z6.1 z6.2.1 z6.2.2.1 z6.2.2.2 hz6) gEin0 (cwV 2 C.2.2.2.2.1 gX11_turn_X8_turned rfl rfl rfl (by decide +kernel) ⟨Nat.le_of_ble_eq_true rfl, Nat.le_of_ble_eq_true rfl⟩) (L37 hL (by decide) (by decide)) (by decide) rfl rfl rfl (Nat.le_of_ble_eq_true rfl) ⟨Nat.le_of_ble_eq_true rfl, Nat.le_of_ble_eq_true rfl⟩ ?_
            refine g_aload C dX11_turn_67 rfl ?_
            obtain ⟨hw7, hf⟩ := gcase hf ho
            refine g_getWI 1 C dX11_turn_69 hw7 cw ⟨rfl, rfl, rfl, rfl⟩ f154 ⟨rfl, rfl, rfl, rfl⟩ ?_
            obtain ⟨hL9, hf⟩ := gcase hf ho
            have hL9 := gLayb_ok (by decide) hL9
            obtain ⟨z8, hz8, hf⟩ := gbind hf ho
            refine g_callV C dX11_turn_72 (m_X8_worldOf l X N _ _ _  (gLay.sub hL9 (by decide) (by decide)) _ _ z8.1 z8.2.1 z8.2.2.1 z8.2.2.2 hz8) gEin0 (cwV 2 C.2.2.2.2.1 gX11_turn_X8_worldOf rfl rfl rfl (by decide +kernel) ⟨Nat.le_of_ble_eq_true rfl, Nat.le_of_ble_eq_true rfl⟩) (L37 hL9 (by decide) (by decide)) (by decide) rfl rfl rfl (Nat.le_of_ble_eq_true rfl) ⟨Nat.le_of_ble_eq_true rfl, Nat.le_of_ble_eq_true rfl⟩ ?_
            obtain ⟨hL11, hf⟩ := gcase hf ho
            have hL11 := gLayb_ok (by decide) hL11
            obtain ⟨z10, hz10, hf⟩ := gbind hf ho
            refine g_callV C dX11_turn_75 (m_X11_shelve l X N _ _ _  (gLay.sub hL11 (by decide) (by decide)) _ _ z10.1 z10.2.1 z10.2.2.1 z10.2.2.2 hz10) (gEN_in hE) (cwV 2 C.2.2.2.2.1 gX11_turn_X11_shelve rfl rfl rfl (by decide +kernel) ⟨Nat.le_of_ble_eq_true rfl, Nat.le_of_ble_eq_true rfl⟩) (L0 hL11 (by decide) (by decide)) (by decide) rfl rfl rfl (Nat.le_of_ble_eq_true rfl) ⟨Nat.le_of_ble_eq_true rfl, Nat.le_of_ble_eq_true rfl⟩ ?_
            obtain ⟨rfl, rfl, rfl, rfl⟩ := gs4 hf
            refine g_widen (k := 3) (n := 14) (Nat.le_of_ble_eq_true rfl) (Nat.le_of_ble_eq_true rfl) ?_
            exact g_iret C dX11_turn_78 hr hlk
        · refine g_ldc C k80 dX11_turn_29 ?_
          obtain ⟨rfl, rfl, rfl, rfl⟩ := gs4 hf
          refine g_widen (k := 3) (n := 14) (Nat.le_of_ble_eq_true rfl) (Nat.le_of_ble_eq_true rfl) ?_
          exact g_iret C dX11_turn_31 hr hlk
set_option maxRecDepth 100000 in
set_option maxHeartbeats 8000000 in
theorem m_X11_takeMap (l : Launch) (X : gX) (N : Nat) (I : gI) (R : gR) (S : gS) (hL : gLay 0 91 R S) (a0 : Option Nat) (a1 : Int32) (a2 : Int32) (a3 : Int32) (v : Int32) (J : gI) (hf : f_X11_takeMap N I R S a0 a1 a2 a3 = some (v, J)) : gM l yX11_takeMap wsX11_takeMap { frames := 2, cells := 0, slots := 0, locals := 47 } X gE0 [.ref (X.1 + 0), gv X.1 a0, .int a1, .int a2, .int a3] I R S (some (.int v)) J R S 0 0 := by
  unfold f_X11_takeMap at hf
  cases a0 with
  | none =>
    dsimp only at hf
    refine gM_of (cc := cX11_takeMap) (own := RX11) (maxL := 6) (ret := (some .int)) (by decide) rfl rfl (Nat.le_of_ble_eq_true rfl) ?_
    intro p e s m args below meth c C hr hlk hnm hE
    have ho : (some (v, J)) ≠ none := fun h => by cases h
    have f28 := C.2.2.2.2.1 (.fieldLink RX11 28 "TimesByPowers" "taken" "[I") (by decide +kernel)
    have c10 : gCl wsX11_takeMap 10 RX11 TX11 8 := ⟨by decide, rfl, rfl, by decide +kernel⟩
    have k80 := C.2.2.2.2.1 (.constant RX11 80 (-1000001)) (by decide +kernel)
    refine g_aload_nN C dX11_takeMap_0 rfl rfl ?_
    refine g_ifnonnullN C dX11_takeMap_1 ?_
    refine g_aload_n C dX11_takeMap_4 rfl rfl ?_
    refine g_iconst (v := 1) C dX11_takeMap_5 (by decide) ?_
    obtain ⟨z1, hz1, hf⟩ := gbind hf ho
    refine g_callV C dX11_takeMap_6 (m_X11_found l X N _ _ _  (gLay.sub hL (by decide) (by decide)) _ z1.1 z1.2 hz1) gEin0 (cwV 1 C.2.2.2.2.1 gX11_takeMap_X11_found rfl rfl rfl (by decide +kernel) ⟨Nat.le_of_ble_eq_true rfl, Nat.le_of_ble_eq_true rfl⟩) (L0 hL (by decide) (by decide)) (by decide) rfl rfl rfl (Nat.le_of_ble_eq_true rfl) ⟨Nat.le_of_ble_eq_true rfl, Nat.le_of_ble_eq_true rfl⟩ ?_
    obtain ⟨rfl, rfl⟩ := gs2 hf
    exact g_iret C dX11_takeMap_9 hr hlk
  | some wa0 =>
    dsimp only at hf
    refine gM_of (cc := cX11_takeMap) (own := RX11) (maxL := 6) (ret := (some .int)) (by decide) rfl rfl (Nat.le_of_ble_eq_true rfl) ?_
    intro p e s m args below meth c C hr hlk hnm hE
    have ho : (some (v, J)) ≠ none := fun h => by cases h
    have f28 := C.2.2.2.2.1 (.fieldLink RX11 28 "TimesByPowers" "taken" "[I") (by decide +kernel)
    have c10 : gCl wsX11_takeMap 10 RX11 TX11 8 := ⟨by decide, rfl, rfl, by decide +kernel⟩
    have k80 := C.2.2.2.2.1 (.constant RX11 80 (-1000001)) (by decide +kernel)
    obtain ⟨hwwa0, hf⟩ := gcase hf ho
    refine g_aload_n C dX11_takeMap_0 rfl rfl ?_
    refine g_ifnonnull (tgt := 10) C dX11_takeMap_1 (by decide) ?_
    refine g_aload_n C dX11_takeMap_10 rfl rfl ?_
    refine g_iload_n C dX11_takeMap_11 rfl rfl ?_
    refine g_iload_n C dX11_takeMap_12 rfl rfl ?_
    refine g_iload C dX11_takeMap_13 rfl ?_
    obtain ⟨z2, hz2, hf⟩ := gbind hf ho
    refine g_callV C dX11_takeMap_15 (m_X11_take l X N _ _ _  (gLay.sub hL (by decide) (by decide)) _ _ _ z2.1 z2.2 hz2) gEin0 (cwV 3 C.2.2.2.2.1 gX11_takeMap_X11_take rfl rfl rfl (by decide +kernel) ⟨Nat.le_of_ble_eq_true rfl, Nat.le_of_ble_eq_true rfl⟩) (L0 hL (by decide) (by decide)) (by decide) rfl rfl rfl (Nat.le_of_ble_eq_true rfl) ⟨Nat.le_of_ble_eq_true rfl, Nat.le_of_ble_eq_true rfl⟩ ?_
    refine g_istore C dX11_takeMap_18 (Nat.le_of_ble_eq_true rfl) rfl rfl ?_
    refine g_iload C dX11_takeMap_20 rfl ?_
    refine g_if_ne (tgt := 39) C dX11_takeMap_22 (by decide) hf (fun hf => ?_) (fun hf => ?_)
    · refine g_iload C dX11_takeMap_39 rfl ?_
      obtain ⟨rfl, rfl⟩ := gs2 hf
      exact g_iret C dX11_takeMap_41 hr hlk
    · refine g_aload_n C dX11_takeMap_25 rfl rfl ?_
      refine g_getR (i := 6) (j := 6) C dX11_takeMap_26 (L0 hL (by decide) (by decide)) c10 rfl (by decide) f28 (fun _ h9 => h9) (LR0_6 hL (by decide) (by decide)) ?_
      refine g_iconst (v := 0) C dX11_takeMap_29 (by decide) ?_
      refine g_iald C dX11_takeMap_30 (L5 hL (by decide) (by decide)) ho hf (fun hf => ?_)
      refine g_if_ne (tgt := 39) C dX11_takeMap_31 (by decide) hf (fun hf => ?_) (fun hf => ?_)
      · refine g_iload C dX11_takeMap_39 rfl ?_
        obtain ⟨rfl, rfl⟩ := gs2 hf
        exact g_iret C dX11_takeMap_41 hr hlk
      · refine g_ldc C k80 dX11_takeMap_34 ?_
        refine g_goto (tgt := 41) C dX11_takeMap_36 (by decide) ?_
        obtain ⟨rfl, rfl⟩ := gs2 hf
        exact g_iret C dX11_takeMap_41 hr hlk
set_option maxRecDepth 100000 in
set_option maxHeartbeats 8000000 in
theorem m_J7_copyOf_59c91 (l : Launch) (X : gX) (N : Nat) (I : gI) (R : gR) (S : gS) (a0 : Nat) (v : Nat) (J : gI) (P : gR) (T : gS) (hf : f_J7_copyOf_59c91 N I R S a0 = some (v, J, P, T)) : gM l yJ7_copyOf_59c91 wsJ7_copyOf_59c91 { frames := 1, cells := 1, slots := 4, locals := 43 } X gE0 [.ref (X.1 + a0), .int 4] I R S (some (.ref (X.1 + v))) J P T 1 4 := by
  unfold f_J7_copyOf_59c91 at hf
  refine gM_of (cc := cJ7_copyOf_59c91) (own := RJ7) (maxL := 3) (ret := (some (.array .int))) (by decide) rfl rfl (Nat.le_of_ble_eq_true rfl) ?_
  intro p e s m args below meth c C hr hlk hnm hE
  have ho : (some (v, J, P, T)) ≠ none := fun h => by cases h
  have ai := C.2.2.2.2.1 (.arrayClass .int) (by decide +kernel)
  have m304 := C.2.2.2.2.1 (.methodLink RJ7 304 Lib.Math.min.name) (by decide +kernel)
  have hmin : gMin s args := ⟨C.2.2.2.2.1 (.static Lib.Math.min.name) (by decide +kernel), C.2.2.2.2.1 (.initialized "java/lang/Math") (by decide +kernel), C.2.2.2.2.1 (.code Lib.Math.min.name Lib.Math.min.code 2 (some .int)) (by decide +kernel)⟩
  have m150 := C.2.2.2.2.1 (.methodLink RJ7 150 arraycopyName) (by decide +kernel)
  have hacw : gAcw s args := ⟨C.2.2.2.2.1 (.native arraycopyName) (by decide +kernel), C.2.2.2.2.1 (.static arraycopyName) (by decide +kernel), C.2.2.2.2.1 (.initialized "java/lang/System") (by decide +kernel)⟩
  refine g_iload_n C dJ7_copyOf_59c91_0 rfl rfl ?_
  refine g_aload_n C dJ7_copyOf_59c91_1 rfl rfl ?_
  refine g_alenD C dJ7_copyOf_59c91_2 ho hf (fun hf => ?_)
  refine g_icmp_ne (tgt := 14) C dJ7_copyOf_59c91_3 (by decide) hf (fun hf => ?_) (fun hf => ?_)
  · refine g_iload_n C dJ7_copyOf_59c91_14 rfl rfl ?_
    refine g_newa (q := S.length) (N' := 4) C dJ7_copyOf_59c91_15 ai (by decide) (by decide) (by decide) ⟨Nat.le_of_ble_eq_true rfl, Nat.le_of_ble_eq_true rfl⟩ rfl ?_
    refine g_astore_n C dJ7_copyOf_59c91_17 rfl (Nat.le_of_ble_eq_true rfl) rfl rfl ?_
    refine g_aload_n C dJ7_copyOf_59c91_18 rfl rfl ?_
    refine g_iconst (v := 0) C dJ7_copyOf_59c91_19 (by decide) ?_
    refine g_aload_n C dJ7_copyOf_59c91_20 rfl rfl ?_
    refine g_iconst (v := 0) C dJ7_copyOf_59c91_21 (by decide) ?_
    refine g_aload_n C dJ7_copyOf_59c91_22 rfl rfl ?_
    refine g_alenD C dJ7_copyOf_59c91_23 ho hf (fun hf => ?_)
    refine g_iload_n C dJ7_copyOf_59c91_24 rfl rfl ?_
    refine g_min C dJ7_copyOf_59c91_25 m304 hmin (Nat.le_of_ble_eq_true rfl) (Nat.le_of_ble_eq_true rfl) ⟨Nat.le_of_ble_eq_true rfl, Nat.le_of_ble_eq_true rfl⟩ ?_
    obtain ⟨ha1, hf⟩ := gcaseF hf ho
    obtain ⟨ha2, hf⟩ := gcaseF hf ho
    refine g_copy C dJ7_copyOf_59c91_28 m150 hacw (gAr_at ha1) (gAr_at ha2) ho hf (Nat.le_of_ble_eq_true rfl) (Nat.le_of_ble_eq_true rfl) (fun hf => ?_)
    refine g_aload_n C dJ7_copyOf_59c91_31 rfl rfl ?_
    obtain ⟨rfl, rfl, rfl, rfl⟩ := gs4 hf
    refine g_widen (k := 1) (n := 4) (Nat.le_of_ble_eq_true rfl) (Nat.le_of_ble_eq_true rfl) ?_
    exact g_aret C dJ7_copyOf_59c91_32 hr (by first | exact Or.inl ⟨_, rfl⟩ | exact Or.inr ⟨_, rfl⟩) hlk
  · refine g_aload_n C dJ7_copyOf_59c91_6 rfl rfl ?_
    exact absurd hf.symm ho
set_option maxRecDepth 100000 in
set_option maxHeartbeats 8000000 in
theorem m_X11_map (l : Launch) (X : gX) (N : Nat) (I : gI) (R : gR) (S : gS) (hL : gLay 0 91 R S) (a0 : Int32) (a1 : Int32) (a2 : Int32) (a3 : Int32) (a4 : Int32) (v : Int32) (J : gI) (P : gR) (T : gS) (hf : f_X11_map N I R S a0 a1 a2 a3 a4 = some (v, J, P, T)) : gM l yX11_map wsX11_map { frames := 6, cells := 3, slots := 14, locals := 149 } X gEN [.ref (X.1 + 0), .int a0, .int a1, .int a2, .int a3, .int a4] I R S (some (.int v)) J P T 3 14 := by
  unfold f_X11_map at hf
  refine gM_of (cc := cX11_map) (own := RX11) (maxL := 9) (ret := (some .int)) (by decide) rfl rfl (Nat.le_of_ble_eq_true rfl) ?_
  intro p e s m args below meth c C hr hlk hnm hE
  have ho : (some (v, J, P, T)) ≠ none := fun h => by cases h
  have k80 := C.2.2.2.2.1 (.constant RX11 80 (-1000001)) (by decide +kernel)
  have f17 := C.2.2.2.2.1 (.fieldLink RX11 17 "TimesByPowers" "shelf" "[LTimesByPowers$World;") (by decide +kernel)
  have c10 : gCl wsX11_map 10 RX11 TX11 8 := ⟨by decide, rfl, rfl, by decide +kernel⟩
  have f64 := C.2.2.2.2.1 (.fieldLink RX11 64 "TimesByPowers" "sums" "LTimesByPowers$Sums;") (by decide +kernel)
  have f28 := C.2.2.2.2.1 (.fieldLink RX11 28 "TimesByPowers" "taken" "[I") (by decide +kernel)
  have f165 := C.2.2.2.2.1 (.fieldLink RX11 165 "TimesByPowers$Sums" "quotient" "[I") (by decide +kernel)
  have c8 : gCl wsX11_map 8 RX8 TX8 10 := ⟨by decide, rfl, rfl, by decide +kernel⟩
  have f154 := C.2.2.2.2.1 (.fieldLink RX11 154 "TimesByPowers$World" "\x72" "I") (by decide +kernel)
  have cw : gWc wsX11_map := ⟨⟨by decide, rfl, rfl, by decide +kernel⟩, ⟨by decide, rfl, rfl, by decide +kernel⟩, ⟨by decide, rfl, rfl, by decide +kernel⟩, ⟨by decide, rfl, rfl, by decide +kernel⟩⟩
  have k132 := C.2.2.2.2.1 (.constant RX11 132 (-1000000)) (by decide +kernel)
  refine g_iload_n C dX11_map_0 rfl rfl ?_
  obtain ⟨z1, hz1, hf⟩ := gbind hf ho
  refine g_callS C dX11_map_1 (m_X11_isPlace l X N _ _ _  (gLay.sub hL (by decide) (by decide)) _ z1 hz1) gEin0 (va_cwS 1 C.2.2.2.2.1 gX11_map_X11_isPlace rfl rfl rfl (by decide +kernel) ⟨Nat.le_of_ble_eq_true rfl, Nat.le_of_ble_eq_true rfl⟩) rfl rfl (Nat.le_of_ble_eq_true rfl) ⟨Nat.le_of_ble_eq_true rfl, Nat.le_of_ble_eq_true rfl⟩ ?_
  refine g_if_eq (tgt := 33) C dX11_map_4 (by decide) hf (fun hf => ?_) (fun hf => ?_)
  · refine g_ldc C k80 dX11_map_33 ?_
    obtain ⟨rfl, rfl, rfl, rfl⟩ := gs4 hf
    refine g_widen (k := 3) (n := 14) (Nat.le_of_ble_eq_true rfl) (Nat.le_of_ble_eq_true rfl) ?_
    exact g_iret C dX11_map_35 hr hlk
  · refine g_iload_n C dX11_map_7 rfl rfl ?_
    obtain ⟨z2, hz2, hf⟩ := gbind hf ho
    refine g_callS C dX11_map_8 (m_X11_isPlace l X N _ _ _  (gLay.sub hL (by decide) (by decide)) _ z2 hz2) gEin0 (va_cwS 1 C.2.2.2.2.1 gX11_map_X11_isPlace rfl rfl rfl (by decide +kernel) ⟨Nat.le_of_ble_eq_true rfl, Nat.le_of_ble_eq_true rfl⟩) rfl rfl (Nat.le_of_ble_eq_true rfl) ⟨Nat.le_of_ble_eq_true rfl, Nat.le_of_ble_eq_true rfl⟩ ?_
    refine g_if_eq (tgt := 33) C dX11_map_11 (by decide) hf (fun hf => ?_) (fun hf => ?_)
    · refine g_ldc C k80 dX11_map_33 ?_
      obtain ⟨rfl, rfl, rfl, rfl⟩ := gs4 hf
      refine g_widen (k := 3) (n := 14) (Nat.le_of_ble_eq_true rfl) (Nat.le_of_ble_eq_true rfl) ?_
      exact g_iret C dX11_map_35 hr hlk
    · refine g_iload_n C dX11_map_14 rfl rfl ?_
      obtain ⟨z3, hz3, hf⟩ := gbind hf ho
      refine g_callS C dX11_map_15 (m_X11_isRow l X N _ _ _  (gLay.sub hL (by decide) (by decide)) _ z3 hz3) gEin0 (va_cwS 1 C.2.2.2.2.1 gX11_map_X11_isRow rfl rfl rfl (by decide +kernel) ⟨Nat.le_of_ble_eq_true rfl, Nat.le_of_ble_eq_true rfl⟩) rfl rfl (Nat.le_of_ble_eq_true rfl) ⟨Nat.le_of_ble_eq_true rfl, Nat.le_of_ble_eq_true rfl⟩ ?_
      refine g_if_eq (tgt := 33) C dX11_map_18 (by decide) hf (fun hf => ?_) (fun hf => ?_)
      · refine g_ldc C k80 dX11_map_33 ?_
        obtain ⟨rfl, rfl, rfl, rfl⟩ := gs4 hf
        refine g_widen (k := 3) (n := 14) (Nat.le_of_ble_eq_true rfl) (Nat.le_of_ble_eq_true rfl) ?_
        exact g_iret C dX11_map_35 hr hlk
      · refine g_iload C dX11_map_21 rfl ?_
        refine g_iconst (v := 1) C dX11_map_23 (by decide) ?_
        refine g_icmp_lt (tgt := 33) C dX11_map_24 (by decide) hf (fun hf => ?_) (fun hf => ?_)
        · refine g_ldc C k80 dX11_map_33 ?_
          obtain ⟨rfl, rfl, rfl, rfl⟩ := gs4 hf
          refine g_widen (k := 3) (n := 14) (Nat.le_of_ble_eq_true rfl) (Nat.le_of_ble_eq_true rfl) ?_
          exact g_iret C dX11_map_35 hr hlk
        · refine g_iload C dX11_map_27 rfl ?_
          refine g_iconst (v := 4) C dX11_map_29 (by decide) ?_
          refine g_icmp_le (tgt := 36) C dX11_map_30 (by decide) hf (fun hf => ?_) (fun hf => ?_)
          · refine g_aload_n C dX11_map_36 rfl rfl ?_
            refine g_getR (i := 4) (j := 4) C dX11_map_37 (L0 hL (by decide) (by decide)) c10 rfl (by decide) f17 (fun _ h9 => h9) (LR0_4 hL (by decide) (by decide)) ?_
            refine g_iload_n C dX11_map_40 rfl rfl ?_
            refine g_aald 3 C dX11_map_41 (by decide) (L2 hL (by decide) (by decide)) rfl rfl ho hf (fun hf => ?_)
            refine g_split hf (fun hnw4 hf => ?_) (fun w4 hsw4 hf => ?_)
            · refine g_astoreN C dX11_map_42 (Nat.le_of_ble_eq_true rfl) rfl rfl ?_
              refine g_aload_n C dX11_map_44 rfl rfl ?_
              refine g_aloadN C dX11_map_45 rfl ?_
              refine g_iload_n C dX11_map_47 rfl rfl ?_
              refine g_iload C dX11_map_48 rfl ?_
              refine g_iload C dX11_map_50 rfl ?_
              obtain ⟨z5, hz5, hf⟩ := gbind hf ho
              refine g_callV C dX11_map_52 (m_X11_takeMap l X N _ _ _  (gLay.sub hL (by decide) (by decide)) _ _ _ _ z5.1 z5.2 hz5) gEin0 (cwV 4 C.2.2.2.2.1 gX11_map_X11_takeMap rfl rfl rfl (by decide +kernel) ⟨Nat.le_of_ble_eq_true rfl, Nat.le_of_ble_eq_true rfl⟩) (L0 hL (by decide) (by decide)) (by decide) rfl rfl rfl (Nat.le_of_ble_eq_true rfl) ⟨Nat.le_of_ble_eq_true rfl, Nat.le_of_ble_eq_true rfl⟩ ?_
              refine g_istore C dX11_map_55 (Nat.le_of_ble_eq_true rfl) rfl rfl ?_
              refine g_iload C dX11_map_57 rfl ?_
              refine g_if_eq (tgt := 65) C dX11_map_59 (by decide) hf (fun hf => ?_) (fun hf => ?_)
              · refine g_aload_n C dX11_map_65 rfl rfl ?_
                refine g_getR (i := 1) (j := 1) C dX11_map_66 (L0 hL (by decide) (by decide)) c10 rfl (by decide) f64 (fun _ h9 => h9) (LR0_1 hL (by decide) (by decide)) ?_
                refine g_aloadN C dX11_map_69 rfl ?_
                refine g_aload_n C dX11_map_71 rfl rfl ?_
                refine g_getR (i := 6) (j := 6) C dX11_map_72 (L0 hL (by decide) (by decide)) c10 rfl (by decide) f28 (fun _ h9 => h9) (LR0_6 hL (by decide) (by decide)) ?_
                refine g_iload C dX11_map_75 rfl ?_
                exact absurd hf.symm ho
              · refine g_iload C dX11_map_62 rfl ?_
                obtain ⟨rfl, rfl, rfl, rfl⟩ := gs4 hf
                refine g_widen (k := 3) (n := 14) (Nat.le_of_ble_eq_true rfl) (Nat.le_of_ble_eq_true rfl) ?_
                exact g_iret C dX11_map_64 hr hlk
            · obtain ⟨hww4, hf⟩ := gcase hf ho
              refine g_astore C dX11_map_42 (Nat.le_of_ble_eq_true rfl) rfl rfl ?_
              refine g_aload_n C dX11_map_44 rfl rfl ?_
              refine g_aload C dX11_map_45 rfl ?_
              refine g_iload_n C dX11_map_47 rfl rfl ?_
              refine g_iload C dX11_map_48 rfl ?_
              refine g_iload C dX11_map_50 rfl ?_
              obtain ⟨z7, hz7, hf⟩ := gbind hf ho
              refine g_callV C dX11_map_52 (m_X11_takeMap l X N _ _ _  (gLay.sub hL (by decide) (by decide)) _ _ _ _ z7.1 z7.2 hz7) gEin0 (cwV 4 C.2.2.2.2.1 gX11_map_X11_takeMap rfl rfl rfl (by decide +kernel) ⟨Nat.le_of_ble_eq_true rfl, Nat.le_of_ble_eq_true rfl⟩) (L0 hL (by decide) (by decide)) (by decide) rfl rfl rfl (Nat.le_of_ble_eq_true rfl) ⟨Nat.le_of_ble_eq_true rfl, Nat.le_of_ble_eq_true rfl⟩ ?_
              refine g_istore C dX11_map_55 (Nat.le_of_ble_eq_true rfl) rfl rfl ?_
              refine g_iload C dX11_map_57 rfl ?_
              refine g_if_eq (tgt := 65) C dX11_map_59 (by decide) hf (fun hf => ?_) (fun hf => ?_)
              · refine g_aload_n C dX11_map_65 rfl rfl ?_
                refine g_getR (i := 1) (j := 1) C dX11_map_66 (L0 hL (by decide) (by decide)) c10 rfl (by decide) f64 (fun _ h9 => h9) (LR0_1 hL (by decide) (by decide)) ?_
                refine g_aload C dX11_map_69 rfl ?_
                refine g_aload_n C dX11_map_71 rfl rfl ?_
                refine g_getR (i := 6) (j := 6) C dX11_map_72 (L0 hL (by decide) (by decide)) c10 rfl (by decide) f28 (fun _ h9 => h9) (LR0_6 hL (by decide) (by decide)) ?_
                refine g_iload C dX11_map_75 rfl ?_
                obtain ⟨z8, hz8, hf⟩ := gbind hf ho
                refine g_callV C dX11_map_77 (m_X8_leads l X N _ _ _  (gLay.sub hL (by decide) (by decide)) _ _ _ z8.1 z8.2 hz8) gEin0 (cwV 3 C.2.2.2.2.1 gX11_map_X8_leads rfl rfl rfl (by decide +kernel) ⟨Nat.le_of_ble_eq_true rfl, Nat.le_of_ble_eq_true rfl⟩) (L37 hL (by decide) (by decide)) (by decide) rfl rfl rfl (Nat.le_of_ble_eq_true rfl) ⟨Nat.le_of_ble_eq_true rfl, Nat.le_of_ble_eq_true rfl⟩ ?_
                refine g_if_ne (tgt := 90) C dX11_map_80 (by decide) hf (fun hf => ?_) (fun hf => ?_)
                · refine g_aload_n C dX11_map_90 rfl rfl ?_
                  refine g_getR (i := 1) (j := 1) C dX11_map_91 (L0 hL (by decide) (by decide)) c10 rfl (by decide) f64 (fun _ h9 => h9) (LR0_1 hL (by decide) (by decide)) ?_
                  refine g_getR (i := 9) (j := 9) C dX11_map_94 (L37 hL (by decide) (by decide)) c8 rfl (by decide) f165 (fun _ h9 => h9) (LR37_9 hL (by decide) (by decide)) ?_
                  refine g_iconst (v := 4) C dX11_map_97 (by decide) ?_
                  obtain ⟨z9, hz9, hf⟩ := gbind hf ho
                  refine g_callS C dX11_map_98 (m_J7_copyOf_59c91 l X N _ _ _   _ z9.1 z9.2.1 z9.2.2.1 z9.2.2.2 hz9) gEin0 (va_cwS 2 C.2.2.2.2.1 gX11_map_J7_copyOf_59c91 rfl rfl rfl (by decide +kernel) ⟨Nat.le_of_ble_eq_true rfl, Nat.le_of_ble_eq_true rfl⟩) rfl rfl (Nat.le_of_ble_eq_true rfl) ⟨Nat.le_of_ble_eq_true rfl, Nat.le_of_ble_eq_true rfl⟩ ?_
                  refine g_astore C dX11_map_101 (Nat.le_of_ble_eq_true rfl) rfl rfl ?_
                  refine g_aload_n C dX11_map_103 rfl rfl ?_
                  refine g_iload_n C dX11_map_104 rfl rfl ?_
                  refine g_aload_n C dX11_map_105 rfl rfl ?_
                  obtain ⟨hL10, hf⟩ := gcase hf ho
                  have hL10 := gLayb_ok (by decide) hL10
                  refine g_getR (i := 1) (j := 1) C dX11_map_106 (L0 hL10 (by decide) (by decide)) c10 rfl (by decide) f64 (fun _ h9 => h9) (LR0_1 hL10 (by decide) (by decide)) ?_
                  refine g_aload C dX11_map_109 rfl ?_
                  refine g_aload C dX11_map_111 rfl ?_
                  obtain ⟨hw11, hf⟩ := gcase hf ho
                  refine g_getWI 1 C dX11_map_113 hw11 cw ⟨rfl, rfl, rfl, rfl⟩ f154 ⟨rfl, rfl, rfl, rfl⟩ ?_
                  obtain ⟨z12, hz12, hf⟩ := gbind hf ho
                  refine g_callV C dX11_map_116 (m_X8_worldOf l X N _ _ _  (gLay.sub hL10 (by decide) (by decide)) _ _ z12.1 z12.2.1 z12.2.2.1 z12.2.2.2 hz12) gEin0 (cwV 2 C.2.2.2.2.1 gX11_map_X8_worldOf rfl rfl rfl (by decide +kernel) ⟨Nat.le_of_ble_eq_true rfl, Nat.le_of_ble_eq_true rfl⟩) (L37 hL10 (by decide) (by decide)) (by decide) rfl rfl rfl (Nat.le_of_ble_eq_true rfl) ⟨Nat.le_of_ble_eq_true rfl, Nat.le_of_ble_eq_true rfl⟩ ?_
                  obtain ⟨hL14, hf⟩ := gcase hf ho
                  have hL14 := gLayb_ok (by decide) hL14
                  obtain ⟨z13, hz13, hf⟩ := gbind hf ho
                  refine g_callV C dX11_map_119 (m_X11_shelve l X N _ _ _  (gLay.sub hL14 (by decide) (by decide)) _ _ z13.1 z13.2.1 z13.2.2.1 z13.2.2.2 hz13) (gEN_in hE) (cwV 2 C.2.2.2.2.1 gX11_map_X11_shelve rfl rfl rfl (by decide +kernel) ⟨Nat.le_of_ble_eq_true rfl, Nat.le_of_ble_eq_true rfl⟩) (L0 hL14 (by decide) (by decide)) (by decide) rfl rfl rfl (Nat.le_of_ble_eq_true rfl) ⟨Nat.le_of_ble_eq_true rfl, Nat.le_of_ble_eq_true rfl⟩ ?_
                  obtain ⟨rfl, rfl, rfl, rfl⟩ := gs4 hf
                  refine g_widen (k := 3) (n := 14) (Nat.le_of_ble_eq_true rfl) (Nat.le_of_ble_eq_true rfl) ?_
                  exact g_iret C dX11_map_122 hr hlk
                · refine g_aload_n C dX11_map_83 rfl rfl ?_
                  refine g_ldc C k132 dX11_map_84 ?_
                  obtain ⟨z15, hz15, hf⟩ := gbind hf ho
                  refine g_callV C dX11_map_86 (m_X11_fine l X N _ _ _  (gLay.sub hL (by decide) (by decide)) _ z15.1 z15.2 hz15) gEin0 (cwV 1 C.2.2.2.2.1 gX11_map_X11_fine rfl rfl rfl (by decide +kernel) ⟨Nat.le_of_ble_eq_true rfl, Nat.le_of_ble_eq_true rfl⟩) (L0 hL (by decide) (by decide)) (by decide) rfl rfl rfl (Nat.le_of_ble_eq_true rfl) ⟨Nat.le_of_ble_eq_true rfl, Nat.le_of_ble_eq_true rfl⟩ ?_
                  obtain ⟨rfl, rfl, rfl, rfl⟩ := gs4 hf
                  refine g_widen (k := 3) (n := 14) (Nat.le_of_ble_eq_true rfl) (Nat.le_of_ble_eq_true rfl) ?_
                  exact g_iret C dX11_map_89 hr hlk
              · refine g_iload C dX11_map_62 rfl ?_
                obtain ⟨rfl, rfl, rfl, rfl⟩ := gs4 hf
                refine g_widen (k := 3) (n := 14) (Nat.le_of_ble_eq_true rfl) (Nat.le_of_ble_eq_true rfl) ?_
                exact g_iret C dX11_map_64 hr hlk
          · refine g_ldc C k80 dX11_map_33 ?_
            obtain ⟨rfl, rfl, rfl, rfl⟩ := gs4 hf
            refine g_widen (k := 3) (n := 14) (Nat.le_of_ble_eq_true rfl) (Nat.le_of_ble_eq_true rfl) ?_
            exact g_iret C dX11_map_35 hr hlk
set_option maxRecDepth 100000 in
set_option maxHeartbeats 8000000 in
theorem m_X11_clear (l : Launch) (X : gX) (N : Nat) (I : gI) (R : gR) (S : gS) (hL : gLay 0 91 R S) (a0 : Int32) (v : Int32) (P : gR) (T : gS) (hf : f_X11_clear N I R S a0 = some (v, P, T)) : gM l yX11_clear wsX11_clear { frames := 1, cells := 0, slots := 0, locals := 20 } X gE0 [.ref (X.1 + 0), .int a0] I R S (some (.int v)) I P T 0 0 := by
  unfold f_X11_clear at hf
  refine gM_of (cc := cX11_clear) (own := RX11) (maxL := 3) (ret := (some .int)) (by decide) rfl rfl (Nat.le_of_ble_eq_true rfl) ?_
  intro p e s m args below meth c C hr hlk hnm hE
  have ho : (some (v, P, T)) ≠ none := fun h => by cases h
  have f17 := C.2.2.2.2.1 (.fieldLink RX11 17 "TimesByPowers" "shelf" "[LTimesByPowers$World;") (by decide +kernel)
  have c10 : gCl wsX11_clear 10 RX11 TX11 8 := ⟨by decide, rfl, rfl, by decide +kernel⟩
  have k80 := C.2.2.2.2.1 (.constant RX11 80 (-1000001)) (by decide +kernel)
  refine g_iload_n C dX11_clear_0 rfl rfl ?_
  obtain ⟨z1, hz1, hf⟩ := gbind hf ho
  refine g_callS C dX11_clear_1 (m_X11_isPlace l X N _ _ _  (gLay.sub hL (by decide) (by decide)) _ z1 hz1) gEin0 (va_cwS 1 C.2.2.2.2.1 gX11_clear_X11_isPlace rfl rfl rfl (by decide +kernel) ⟨Nat.le_of_ble_eq_true rfl, Nat.le_of_ble_eq_true rfl⟩) rfl rfl (Nat.le_of_ble_eq_true rfl) ⟨Nat.le_of_ble_eq_true rfl, Nat.le_of_ble_eq_true rfl⟩ ?_
  refine g_if_ne (tgt := 10) C dX11_clear_4 (by decide) hf (fun hf => ?_) (fun hf => ?_)
  · refine g_aload_n C dX11_clear_10 rfl rfl ?_
    refine g_getR (i := 4) (j := 4) C dX11_clear_11 (L0 hL (by decide) (by decide)) c10 rfl (by decide) f17 (fun _ h9 => h9) (LR0_4 hL (by decide) (by decide)) ?_
    refine g_iload_n C dX11_clear_14 rfl rfl ?_
    refine g_aald 3 C dX11_clear_15 (by decide) (L2 hL (by decide) (by decide)) rfl rfl ho hf (fun hf => ?_)
    refine g_split hf (fun hnw2 hf => ?_) (fun w2 hsw2 hf => ?_)
    · refine g_ifnonnullN C dX11_clear_16 ?_
      refine g_iconst (v := 0) C dX11_clear_19 (by decide) ?_
      refine g_goto (tgt := 24) C dX11_clear_20 (by decide) ?_
      refine g_istore_n C dX11_clear_24 rfl (Nat.le_of_ble_eq_true rfl) rfl rfl ?_
      refine g_aload_n C dX11_clear_25 rfl rfl ?_
      refine g_getR (i := 4) (j := 4) C dX11_clear_26 (L0 hL (by decide) (by decide)) c10 rfl (by decide) f17 (fun _ h9 => h9) (LR0_4 hL (by decide) (by decide)) ?_
      refine g_iload_n C dX11_clear_29 rfl rfl ?_
      refine g_null C dX11_clear_30 ?_
      refine g_aastN 3 C dX11_clear_31 (by decide) (L2 hL (by decide) (by decide)) rfl ho hf (fun hf => ?_)
      refine g_iload_n C dX11_clear_32 rfl rfl ?_
      obtain ⟨rfl, rfl, rfl⟩ := gs3 hf
      exact g_iret C dX11_clear_33 hr hlk
    · obtain ⟨hww2, hf⟩ := gcase hf ho
      refine g_ifnonnull (tgt := 23) C dX11_clear_16 (by decide) ?_
      refine g_iconst (v := 1) C dX11_clear_23 (by decide) ?_
      refine g_istore_n C dX11_clear_24 rfl (Nat.le_of_ble_eq_true rfl) rfl rfl ?_
      refine g_aload_n C dX11_clear_25 rfl rfl ?_
      refine g_getR (i := 4) (j := 4) C dX11_clear_26 (L0 hL (by decide) (by decide)) c10 rfl (by decide) f17 (fun _ h9 => h9) (LR0_4 hL (by decide) (by decide)) ?_
      refine g_iload_n C dX11_clear_29 rfl rfl ?_
      refine g_null C dX11_clear_30 ?_
      refine g_aastN 3 C dX11_clear_31 (by decide) (L2 hL (by decide) (by decide)) rfl ho hf (fun hf => ?_)
      refine g_iload_n C dX11_clear_32 rfl rfl ?_
      obtain ⟨rfl, rfl, rfl⟩ := gs3 hf
      exact g_iret C dX11_clear_33 hr hlk
  · refine g_ldc C k80 dX11_clear_7 ?_
    obtain ⟨rfl, rfl, rfl⟩ := gs3 hf
    exact g_iret C dX11_clear_9 hr hlk
set_option maxRecDepth 100000 in
set_option maxHeartbeats 8000000 in
theorem m_X11_tellOf (l : Launch) (X : gX) (N : Nat) (I : gI) (R : gR) (S : gS) (hL : gLay 0 91 R S) (a0 : Nat) (a1 : Int32) (v : Int32) (J : gI) (hf : f_X11_tellOf N I R S a0 a1 = some (v, J)) : gM l yX11_tellOf wsX11_tellOf { frames := 5, cells := 0, slots := 0, locals := 123 } X gE0 [.ref (X.1 + 0), .ref (X.1 + a0), .int a1] I R S (some (.int v)) J R S 0 0 := by
  unfold f_X11_tellOf at hf
  refine gM_of (cc := cX11_tellOf) (own := RX11) (maxL := 3) (ret := (some .int)) (by decide) rfl rfl (Nat.le_of_ble_eq_true rfl) ?_
  intro p e s m args below meth c C hr hlk hnm hE
  have ho : (some (v, J)) ≠ none := fun h => by cases h
  have f154 := C.2.2.2.2.1 (.fieldLink RX11 154 "TimesByPowers$World" "\x72" "I") (by decide +kernel)
  have cw : gWc wsX11_tellOf := ⟨⟨by decide, rfl, rfl, by decide +kernel⟩, ⟨by decide, rfl, rfl, by decide +kernel⟩, ⟨by decide, rfl, rfl, by decide +kernel⟩, ⟨by decide, rfl, rfl, by decide +kernel⟩⟩
  have k80 := C.2.2.2.2.1 (.constant RX11 80 (-1000001)) (by decide +kernel)
  have f269 := C.2.2.2.2.1 (.fieldLink RX11 269 "TimesByPowers$World" "t" "[I") (by decide +kernel)
  have f256 := C.2.2.2.2.1 (.fieldLink RX11 256 "TimesByPowers$World" "own" "I") (by decide +kernel)
  have f64 := C.2.2.2.2.1 (.fieldLink RX11 64 "TimesByPowers" "sums" "LTimesByPowers$Sums;") (by decide +kernel)
  have c10 : gCl wsX11_tellOf 10 RX11 TX11 8 := ⟨by decide, rfl, rfl, by decide +kernel⟩
  have f71 := C.2.2.2.2.1 (.fieldLink RX11 71 "TimesByPowers" "action" "LTimesByPowers$Action;") (by decide +kernel)
  obtain ⟨hwa0, hf⟩ := gcase hf ho
  refine g_iload_n C dX11_tellOf_0 rfl rfl ?_
  by_cases ht1_0 : a1 = (0 : Int32)
  · rw [if_pos ht1_0] at hf
    refine g_tabC (v := (0 : Int32)) (tgt := 52) C dX11_tellOf_1 ht1_0 (by decide) (by decide) rfl (by decide) ?_
    refine g_aload_n C dX11_tellOf_52 rfl rfl ?_
    refine g_getWI 1 C dX11_tellOf_53 hwa0 cw ⟨rfl, rfl, rfl, rfl⟩ f154 ⟨rfl, rfl, rfl, rfl⟩ ?_
    obtain ⟨rfl, rfl⟩ := gs2 hf
    exact g_iret C dX11_tellOf_56 hr hlk
  · rw [if_neg ht1_0] at hf
    by_cases ht1_1 : a1 = (1 : Int32)
    · rw [if_pos ht1_1] at hf
      refine g_tabC (v := (1 : Int32)) (tgt := 89) C dX11_tellOf_1 ht1_1 (by decide) (by decide) rfl (by decide) ?_
      refine g_iload_n C dX11_tellOf_89 rfl rfl ?_
      refine g_iconst (v := 1) C dX11_tellOf_90 (by decide) ?_
      refine g_icmp_lt (tgt := 110) C dX11_tellOf_91 (by decide) hf (fun hf => ?_) (fun hf => ?_)
      · refine g_ldc C k80 dX11_tellOf_110 ?_
        obtain ⟨rfl, rfl⟩ := gs2 hf
        exact g_iret C dX11_tellOf_112 hr hlk
      · refine g_iload_n C dX11_tellOf_94 rfl rfl ?_
        refine g_iconst (v := 4) C dX11_tellOf_95 (by decide) ?_
        refine g_icmp_gt (tgt := 110) C dX11_tellOf_96 (by decide) hf (fun hf => ?_) (fun hf => ?_)
        · refine g_ldc C k80 dX11_tellOf_110 ?_
          obtain ⟨rfl, rfl⟩ := gs2 hf
          exact g_iret C dX11_tellOf_112 hr hlk
        · refine g_aload_n C dX11_tellOf_99 rfl rfl ?_
          refine g_getWt C dX11_tellOf_100 hwa0 cw f269 ⟨rfl, rfl, rfl, rfl⟩ ?_
          refine g_iload_n C dX11_tellOf_103 rfl rfl ?_
          refine g_iconst (v := 1) C dX11_tellOf_104 (by decide) ?_
          refine g_isub C dX11_tellOf_105 ?_
          refine g_iald C dX11_tellOf_106 (gWb_t hwa0).2 ho hf (fun hf => ?_)
          refine g_goto (tgt := 112) C dX11_tellOf_107 (by decide) ?_
          obtain ⟨rfl, rfl⟩ := gs2 hf
          exact g_iret C dX11_tellOf_112 hr hlk
    · rw [if_neg ht1_1] at hf
      by_cases ht1_2 : a1 = (2 : Int32)
      · rw [if_pos ht1_2] at hf
        refine g_tabC (v := (2 : Int32)) (tgt := 89) C dX11_tellOf_1 ht1_2 (by decide) (by decide) rfl (by decide) ?_
        refine g_iload_n C dX11_tellOf_89 rfl rfl ?_
        refine g_iconst (v := 1) C dX11_tellOf_90 (by decide) ?_
        refine g_icmp_lt (tgt := 110) C dX11_tellOf_91 (by decide) hf (fun hf => ?_) (fun hf => ?_)
        · refine g_ldc C k80 dX11_tellOf_110 ?_
          obtain ⟨rfl, rfl⟩ := gs2 hf
          exact g_iret C dX11_tellOf_112 hr hlk
        · refine g_iload_n C dX11_tellOf_94 rfl rfl ?_
          refine g_iconst (v := 4) C dX11_tellOf_95 (by decide) ?_
          refine g_icmp_gt (tgt := 110) C dX11_tellOf_96 (by decide) hf (fun hf => ?_) (fun hf => ?_)
          · refine g_ldc C k80 dX11_tellOf_110 ?_
            obtain ⟨rfl, rfl⟩ := gs2 hf
            exact g_iret C dX11_tellOf_112 hr hlk
          · refine g_aload_n C dX11_tellOf_99 rfl rfl ?_
            refine g_getWt C dX11_tellOf_100 hwa0 cw f269 ⟨rfl, rfl, rfl, rfl⟩ ?_
            refine g_iload_n C dX11_tellOf_103 rfl rfl ?_
            refine g_iconst (v := 1) C dX11_tellOf_104 (by decide) ?_
            refine g_isub C dX11_tellOf_105 ?_
            refine g_iald C dX11_tellOf_106 (gWb_t hwa0).2 ho hf (fun hf => ?_)
            refine g_goto (tgt := 112) C dX11_tellOf_107 (by decide) ?_
            obtain ⟨rfl, rfl⟩ := gs2 hf
            exact g_iret C dX11_tellOf_112 hr hlk
      · rw [if_neg ht1_2] at hf
        by_cases ht1_3 : a1 = (3 : Int32)
        · rw [if_pos ht1_3] at hf
          refine g_tabC (v := (3 : Int32)) (tgt := 89) C dX11_tellOf_1 ht1_3 (by decide) (by decide) rfl (by decide) ?_
          refine g_iload_n C dX11_tellOf_89 rfl rfl ?_
          refine g_iconst (v := 1) C dX11_tellOf_90 (by decide) ?_
          refine g_icmp_lt (tgt := 110) C dX11_tellOf_91 (by decide) hf (fun hf => ?_) (fun hf => ?_)
          · refine g_ldc C k80 dX11_tellOf_110 ?_
            obtain ⟨rfl, rfl⟩ := gs2 hf
            exact g_iret C dX11_tellOf_112 hr hlk
          · refine g_iload_n C dX11_tellOf_94 rfl rfl ?_
            refine g_iconst (v := 4) C dX11_tellOf_95 (by decide) ?_
            refine g_icmp_gt (tgt := 110) C dX11_tellOf_96 (by decide) hf (fun hf => ?_) (fun hf => ?_)
            · refine g_ldc C k80 dX11_tellOf_110 ?_
              obtain ⟨rfl, rfl⟩ := gs2 hf
              exact g_iret C dX11_tellOf_112 hr hlk
            · refine g_aload_n C dX11_tellOf_99 rfl rfl ?_
              refine g_getWt C dX11_tellOf_100 hwa0 cw f269 ⟨rfl, rfl, rfl, rfl⟩ ?_
              refine g_iload_n C dX11_tellOf_103 rfl rfl ?_
              refine g_iconst (v := 1) C dX11_tellOf_104 (by decide) ?_
              refine g_isub C dX11_tellOf_105 ?_
              refine g_iald C dX11_tellOf_106 (gWb_t hwa0).2 ho hf (fun hf => ?_)
              refine g_goto (tgt := 112) C dX11_tellOf_107 (by decide) ?_
              obtain ⟨rfl, rfl⟩ := gs2 hf
              exact g_iret C dX11_tellOf_112 hr hlk
        · rw [if_neg ht1_3] at hf
          by_cases ht1_4 : a1 = (4 : Int32)
          · rw [if_pos ht1_4] at hf
            refine g_tabC (v := (4 : Int32)) (tgt := 89) C dX11_tellOf_1 ht1_4 (by decide) (by decide) rfl (by decide) ?_
            refine g_iload_n C dX11_tellOf_89 rfl rfl ?_
            refine g_iconst (v := 1) C dX11_tellOf_90 (by decide) ?_
            refine g_icmp_lt (tgt := 110) C dX11_tellOf_91 (by decide) hf (fun hf => ?_) (fun hf => ?_)
            · refine g_ldc C k80 dX11_tellOf_110 ?_
              obtain ⟨rfl, rfl⟩ := gs2 hf
              exact g_iret C dX11_tellOf_112 hr hlk
            · refine g_iload_n C dX11_tellOf_94 rfl rfl ?_
              refine g_iconst (v := 4) C dX11_tellOf_95 (by decide) ?_
              refine g_icmp_gt (tgt := 110) C dX11_tellOf_96 (by decide) hf (fun hf => ?_) (fun hf => ?_)
              · refine g_ldc C k80 dX11_tellOf_110 ?_
                obtain ⟨rfl, rfl⟩ := gs2 hf
                exact g_iret C dX11_tellOf_112 hr hlk
              · refine g_aload_n C dX11_tellOf_99 rfl rfl ?_
                refine g_getWt C dX11_tellOf_100 hwa0 cw f269 ⟨rfl, rfl, rfl, rfl⟩ ?_
                refine g_iload_n C dX11_tellOf_103 rfl rfl ?_
                refine g_iconst (v := 1) C dX11_tellOf_104 (by decide) ?_
                refine g_isub C dX11_tellOf_105 ?_
                refine g_iald C dX11_tellOf_106 (gWb_t hwa0).2 ho hf (fun hf => ?_)
                refine g_goto (tgt := 112) C dX11_tellOf_107 (by decide) ?_
                obtain ⟨rfl, rfl⟩ := gs2 hf
                exact g_iret C dX11_tellOf_112 hr hlk
          · rw [if_neg ht1_4] at hf
            by_cases ht1_5 : a1 = (5 : Int32)
            · rw [if_pos ht1_5] at hf
              refine g_tabC (v := (5 : Int32)) (tgt := 57) C dX11_tellOf_1 ht1_5 (by decide) (by decide) rfl (by decide) ?_
              refine g_aload_n C dX11_tellOf_57 rfl rfl ?_
              refine g_getWI 2 C dX11_tellOf_58 hwa0 cw ⟨rfl, rfl, rfl, rfl⟩ f256 ⟨rfl, rfl, rfl, rfl⟩ ?_
              obtain ⟨rfl, rfl⟩ := gs2 hf
              exact g_iret C dX11_tellOf_61 hr hlk
            · rw [if_neg ht1_5] at hf
              by_cases ht1_6 : a1 = (6 : Int32)
              · rw [if_pos ht1_6] at hf
                refine g_tabC (v := (6 : Int32)) (tgt := 62) C dX11_tellOf_1 ht1_6 (by decide) (by decide) rfl (by decide) ?_
                refine g_aload_n C dX11_tellOf_62 rfl rfl ?_
                refine g_getR (i := 1) (j := 1) C dX11_tellOf_63 (L0 hL (by decide) (by decide)) c10 rfl (by decide) f64 (fun _ h9 => h9) (LR0_1 hL (by decide) (by decide)) ?_
                refine g_aload_n C dX11_tellOf_66 rfl rfl ?_
                obtain ⟨z2, hz2, hf⟩ := gbind hf ho
                refine g_callV C dX11_tellOf_67 (m_X8_heightOf l X N _ _ _  (gLay.sub hL (by decide) (by decide)) _ z2.1 z2.2 hz2) gEin0 (cwV 1 C.2.2.2.2.1 gX11_tellOf_X8_heightOf rfl rfl rfl (by decide +kernel) ⟨Nat.le_of_ble_eq_true rfl, Nat.le_of_ble_eq_true rfl⟩) (L37 hL (by decide) (by decide)) (by decide) rfl rfl rfl (Nat.le_of_ble_eq_true rfl) ⟨Nat.le_of_ble_eq_true rfl, Nat.le_of_ble_eq_true rfl⟩ ?_
                obtain ⟨rfl, rfl⟩ := gs2 hf
                exact g_iret C dX11_tellOf_70 hr hlk
              · rw [if_neg ht1_6] at hf
                by_cases ht1_7 : a1 = (7 : Int32)
                · rw [if_pos ht1_7] at hf
                  refine g_tabC (v := (7 : Int32)) (tgt := 71) C dX11_tellOf_1 ht1_7 (by decide) (by decide) rfl (by decide) ?_
                  refine g_aload_n C dX11_tellOf_71 rfl rfl ?_
                  refine g_getR (i := 2) (j := 2) C dX11_tellOf_72 (L0 hL (by decide) (by decide)) c10 rfl (by decide) f71 (fun _ h9 => h9) (LR0_2 hL (by decide) (by decide)) ?_
                  refine g_aload_n C dX11_tellOf_75 rfl rfl ?_
                  obtain ⟨z3, hz3, hf⟩ := gbind hf ho
                  refine g_callV C dX11_tellOf_76 (m_X0_wholeOf l X N _ _ _  (gLay.sub hL (by decide) (by decide)) _ z3.1 z3.2 hz3) gEin0 (cwV 1 C.2.2.2.2.1 gX11_tellOf_X0_wholeOf rfl rfl rfl (by decide +kernel) ⟨Nat.le_of_ble_eq_true rfl, Nat.le_of_ble_eq_true rfl⟩) (L56 hL (by decide) (by decide)) (by decide) rfl rfl rfl (Nat.le_of_ble_eq_true rfl) ⟨Nat.le_of_ble_eq_true rfl, Nat.le_of_ble_eq_true rfl⟩ ?_
                  obtain ⟨rfl, rfl⟩ := gs2 hf
                  exact g_iret C dX11_tellOf_79 hr hlk
                · rw [if_neg ht1_7] at hf
                  by_cases ht1_8 : a1 = (8 : Int32)
                  · rw [if_pos ht1_8] at hf
                    refine g_tabC (v := (8 : Int32)) (tgt := 80) C dX11_tellOf_1 ht1_8 (by decide) (by decide) rfl (by decide) ?_
                    refine g_aload_n C dX11_tellOf_80 rfl rfl ?_
                    refine g_getR (i := 2) (j := 2) C dX11_tellOf_81 (L0 hL (by decide) (by decide)) c10 rfl (by decide) f71 (fun _ h9 => h9) (LR0_2 hL (by decide) (by decide)) ?_
                    refine g_aload_n C dX11_tellOf_84 rfl rfl ?_
                    obtain ⟨z4, hz4, hf⟩ := gbind hf ho
                    refine g_callV C dX11_tellOf_85 (m_X0_leastOf l X N _ _ _  (gLay.sub hL (by decide) (by decide)) _ z4.1 z4.2 hz4) gEin0 (cwV 1 C.2.2.2.2.1 gX11_tellOf_X0_leastOf rfl rfl rfl (by decide +kernel) ⟨Nat.le_of_ble_eq_true rfl, Nat.le_of_ble_eq_true rfl⟩) (L56 hL (by decide) (by decide)) (by decide) rfl rfl rfl (Nat.le_of_ble_eq_true rfl) ⟨Nat.le_of_ble_eq_true rfl, Nat.le_of_ble_eq_true rfl⟩ ?_
                    obtain ⟨rfl, rfl⟩ := gs2 hf
                    exact g_iret C dX11_tellOf_88 hr hlk
                  · rw [if_neg ht1_8] at hf
                    refine g_tabD (cnt := 9) (tgt := 89) C dX11_tellOf_1 (fun k hk => by have hq : k = 0 ∨ k = 1 ∨ k = 2 ∨ k = 3 ∨ k = 4 ∨ k = 5 ∨ k = 6 ∨ k = 7 ∨ k = 8 := (by omega); rcases hq with rfl | rfl | rfl | rfl | rfl | rfl | rfl | rfl | rfl <;> assumption) (by decide) (by decide) ?_
                    refine g_iload_n C dX11_tellOf_89 rfl rfl ?_
                    refine g_iconst (v := 1) C dX11_tellOf_90 (by decide) ?_
                    refine g_icmp_lt (tgt := 110) C dX11_tellOf_91 (by decide) hf (fun hf => ?_) (fun hf => ?_)
                    · refine g_ldc C k80 dX11_tellOf_110 ?_
                      obtain ⟨rfl, rfl⟩ := gs2 hf
                      exact g_iret C dX11_tellOf_112 hr hlk
                    · refine g_iload_n C dX11_tellOf_94 rfl rfl ?_
                      refine g_iconst (v := 4) C dX11_tellOf_95 (by decide) ?_
                      refine g_icmp_gt (tgt := 110) C dX11_tellOf_96 (by decide) hf (fun hf => ?_) (fun hf => ?_)
                      · refine g_ldc C k80 dX11_tellOf_110 ?_
                        obtain ⟨rfl, rfl⟩ := gs2 hf
                        exact g_iret C dX11_tellOf_112 hr hlk
                      · refine g_aload_n C dX11_tellOf_99 rfl rfl ?_
                        refine g_getWt C dX11_tellOf_100 hwa0 cw f269 ⟨rfl, rfl, rfl, rfl⟩ ?_
                        refine g_iload_n C dX11_tellOf_103 rfl rfl ?_
                        refine g_iconst (v := 1) C dX11_tellOf_104 (by decide) ?_
                        refine g_isub C dX11_tellOf_105 ?_
                        refine g_iald C dX11_tellOf_106 (gWb_t hwa0).2 ho hf (fun hf => ?_)
                        refine g_goto (tgt := 112) C dX11_tellOf_107 (by decide) ?_
                        obtain ⟨rfl, rfl⟩ := gs2 hf
                        exact g_iret C dX11_tellOf_112 hr hlk
set_option maxRecDepth 100000 in
set_option maxHeartbeats 8000000 in
theorem m_X11_told (l : Launch) (X : gX) (N : Nat) (I : gI) (R : gR) (S : gS) (hL : gLay 0 91 R S) (a0 : Int32) (a1 : Int32) (v : Int32) (J : gI) (hf : f_X11_told N I R S a0 a1 = some (v, J)) : gM l yX11_told wsX11_told { frames := 6, cells := 0, slots := 0, locals := 145 } X gEN [.ref (X.1 + 0), .int a0, .int a1] I R S (some (.int v)) J R S 0 0 := by
  unfold f_X11_told at hf
  refine gM_of (cc := cX11_told) (own := RX11) (maxL := 5) (ret := (some .int)) (by decide) rfl rfl (Nat.le_of_ble_eq_true rfl) ?_
  intro p e s m args below meth c C hr hlk hnm hE
  have ho : (some (v, J)) ≠ none := fun h => by cases h
  have k80 := C.2.2.2.2.1 (.constant RX11 80 (-1000001)) (by decide +kernel)
  have f17 := C.2.2.2.2.1 (.fieldLink RX11 17 "TimesByPowers" "shelf" "[LTimesByPowers$World;") (by decide +kernel)
  have c10 : gCl wsX11_told 10 RX11 TX11 8 := ⟨by decide, rfl, rfl, by decide +kernel⟩
  have cl174 := C.2.2.2.2.1 (.classLink RX11 174 RX4) (by decide +kernel)
  have f176 := C.2.2.2.2.1 (.fieldLink RX11 176 "TimesByPowers$Pair" "mark" "I") (by decide +kernel)
  have c4 : gCl wsX11_told 4 RX4 TX4 5 := ⟨by decide, rfl, rfl, by decide +kernel⟩
  have c7 : gCl wsX11_told 7 RX7 TX7 5 := ⟨by decide, rfl, rfl, by decide +kernel⟩
  refine g_iload_n C dX11_told_0 rfl rfl ?_
  obtain ⟨z1, hz1, hf⟩ := gbind hf ho
  refine g_callS C dX11_told_1 (m_X11_isPlace l X N _ _ _  (gLay.sub hL (by decide) (by decide)) _ z1 hz1) gEin0 (va_cwS 1 C.2.2.2.2.1 gX11_told_X11_isPlace rfl rfl rfl (by decide +kernel) ⟨Nat.le_of_ble_eq_true rfl, Nat.le_of_ble_eq_true rfl⟩) rfl rfl (Nat.le_of_ble_eq_true rfl) ⟨Nat.le_of_ble_eq_true rfl, Nat.le_of_ble_eq_true rfl⟩ ?_
  refine g_if_eq (tgt := 17) C dX11_told_4 (by decide) hf (fun hf => ?_) (fun hf => ?_)
  · refine g_ldc C k80 dX11_told_17 ?_
    obtain ⟨rfl, rfl⟩ := gs2 hf
    exact g_iret C dX11_told_19 hr hlk
  · refine g_iload_n C dX11_told_7 rfl rfl ?_
    refine g_if_lt (tgt := 17) C dX11_told_8 (by decide) hf (fun hf => ?_) (fun hf => ?_)
    · refine g_ldc C k80 dX11_told_17 ?_
      obtain ⟨rfl, rfl⟩ := gs2 hf
      exact g_iret C dX11_told_19 hr hlk
    · refine g_iload_n C dX11_told_11 rfl rfl ?_
      refine g_bipush (v := 9) C dX11_told_12 (by decide) ?_
      refine g_icmp_le (tgt := 20) C dX11_told_14 (by decide) hf (fun hf => ?_) (fun hf => ?_)
      · refine g_aload_n C dX11_told_20 rfl rfl ?_
        refine g_getR (i := 4) (j := 4) C dX11_told_21 (L0 hL (by decide) (by decide)) c10 rfl (by decide) f17 (fun _ h9 => h9) (LR0_4 hL (by decide) (by decide)) ?_
        refine g_iload_n C dX11_told_24 rfl rfl ?_
        refine g_aald 3 C dX11_told_25 (by decide) (L2 hL (by decide) (by decide)) rfl rfl ho hf (fun hf => ?_)
        refine g_split hf (fun hnw2 hf => ?_) (fun w2 hsw2 hf => ?_)
        · refine g_astore_nN C dX11_told_26 rfl (Nat.le_of_ble_eq_true rfl) rfl rfl ?_
          refine g_aload_nN C dX11_told_27 rfl rfl ?_
          refine g_ifnonnullN C dX11_told_28 ?_
          refine g_aload_n C dX11_told_31 rfl rfl ?_
          refine g_iconst (v := 1) C dX11_told_32 (by decide) ?_
          obtain ⟨z3, hz3, hf⟩ := gbind hf ho
          refine g_callV C dX11_told_33 (m_X11_found l X N _ _ _  (gLay.sub hL (by decide) (by decide)) _ z3.1 z3.2 hz3) gEin0 (cwV 1 C.2.2.2.2.1 gX11_told_X11_found rfl rfl rfl (by decide +kernel) ⟨Nat.le_of_ble_eq_true rfl, Nat.le_of_ble_eq_true rfl⟩) (L0 hL (by decide) (by decide)) (by decide) rfl rfl rfl (Nat.le_of_ble_eq_true rfl) ⟨Nat.le_of_ble_eq_true rfl, Nat.le_of_ble_eq_true rfl⟩ ?_
          obtain ⟨rfl, rfl⟩ := gs2 hf
          exact g_iret C dX11_told_36 hr hlk
        · obtain ⟨hww2, hf⟩ := gcase hf ho
          refine g_astore_n C dX11_told_26 rfl (Nat.le_of_ble_eq_true rfl) rfl rfl ?_
          refine g_aload_n C dX11_told_27 rfl rfl ?_
          refine g_ifnonnull (tgt := 37) C dX11_told_28 (by decide) ?_
          refine g_iload_n C dX11_told_37 rfl rfl ?_
          refine g_bipush (v := 9) C dX11_told_38 (by decide) ?_
          refine g_icmp_ne (tgt := 74) C dX11_told_40 (by decide) hf (fun hf => ?_) (fun hf => ?_)
          · refine g_aload_n C dX11_told_74 rfl rfl ?_
            refine g_aload_n C dX11_told_75 rfl rfl ?_
            refine g_aload_n C dX11_told_76 rfl rfl ?_
            refine g_iload_n C dX11_told_77 rfl rfl ?_
            obtain ⟨z4, hz4, hf⟩ := gbind hf ho
            refine g_callV C dX11_told_78 (m_X11_tellOf l X N _ _ _  (gLay.sub hL (by decide) (by decide)) _ _ z4.1 z4.2 hz4) gEin0 (cwV 2 C.2.2.2.2.1 gX11_told_X11_tellOf rfl rfl rfl (by decide +kernel) ⟨Nat.le_of_ble_eq_true rfl, Nat.le_of_ble_eq_true rfl⟩) (L0 hL (by decide) (by decide)) (by decide) rfl rfl rfl (Nat.le_of_ble_eq_true rfl) ⟨Nat.le_of_ble_eq_true rfl, Nat.le_of_ble_eq_true rfl⟩ ?_
            obtain ⟨z5, hz5, hf⟩ := gbind hf ho
            refine g_callV C dX11_told_81 (m_X11_fine l X N _ _ _  (gLay.sub hL (by decide) (by decide)) _ z5.1 z5.2 hz5) gEin0 (cwV 1 C.2.2.2.2.1 gX11_told_X11_fine rfl rfl rfl (by decide +kernel) ⟨Nat.le_of_ble_eq_true rfl, Nat.le_of_ble_eq_true rfl⟩) (L0 hL (by decide) (by decide)) (by decide) rfl rfl rfl (Nat.le_of_ble_eq_true rfl) ⟨Nat.le_of_ble_eq_true rfl, Nat.le_of_ble_eq_true rfl⟩ ?_
            obtain ⟨rfl, rfl⟩ := gs2 hf
            exact g_iret C dX11_told_84 hr hlk
          · refine g_aload_n C dX11_told_43 rfl rfl ?_
            rcases gKb_k (gW_kb hww2) with hk6 | hk6 | hk6 | hk6
            · rw [if_pos (gK_of hk6)] at hf
              refine g_instNo (k := 1) C dX11_told_44 cl174 hk6 (by decide) rfl hE.2.2.2.1.2.1 ?_
              refine g_if_eq_t (tgt := 68) C dX11_told_47 (by decide) (by decide) ?_
              refine g_aload_n C dX11_told_68 rfl rfl ?_
              refine g_iconst (v := 3) C dX11_told_69 (by decide) ?_
              obtain ⟨z7, hz7, hf⟩ := gbind hf ho
              refine g_callV C dX11_told_70 (m_X11_found l X N _ _ _  (gLay.sub hL (by decide) (by decide)) _ z7.1 z7.2 hz7) gEin0 (cwV 1 C.2.2.2.2.1 gX11_told_X11_found rfl rfl rfl (by decide +kernel) ⟨Nat.le_of_ble_eq_true rfl, Nat.le_of_ble_eq_true rfl⟩) (L0 hL (by decide) (by decide)) (by decide) rfl rfl rfl (Nat.le_of_ble_eq_true rfl) ⟨Nat.le_of_ble_eq_true rfl, Nat.le_of_ble_eq_true rfl⟩ ?_
              obtain ⟨rfl, rfl⟩ := gs2 hf
              exact g_iret C dX11_told_73 hr hlk
            · rw [if_neg (by rw [gK_of hk6]; decide), if_pos (gK_of hk6)] at hf
              refine g_instNo (k := 3) C dX11_told_44 cl174 hk6 (by decide) rfl hE.2.2.2.2.1.2.1 ?_
              refine g_if_eq_t (tgt := 68) C dX11_told_47 (by decide) (by decide) ?_
              refine g_aload_n C dX11_told_68 rfl rfl ?_
              refine g_iconst (v := 3) C dX11_told_69 (by decide) ?_
              obtain ⟨z8, hz8, hf⟩ := gbind hf ho
              refine g_callV C dX11_told_70 (m_X11_found l X N _ _ _  (gLay.sub hL (by decide) (by decide)) _ z8.1 z8.2 hz8) gEin0 (cwV 1 C.2.2.2.2.1 gX11_told_X11_found rfl rfl rfl (by decide +kernel) ⟨Nat.le_of_ble_eq_true rfl, Nat.le_of_ble_eq_true rfl⟩) (L0 hL (by decide) (by decide)) (by decide) rfl rfl rfl (Nat.le_of_ble_eq_true rfl) ⟨Nat.le_of_ble_eq_true rfl, Nat.le_of_ble_eq_true rfl⟩ ?_
              obtain ⟨rfl, rfl⟩ := gs2 hf
              exact g_iret C dX11_told_73 hr hlk
            · rw [if_neg (by rw [gK_of hk6]; decide), if_neg (by rw [gK_of hk6]; decide), if_pos (gK_of hk6)] at hf
              refine g_instS (k := 4) C dX11_told_44 cl174 hk6 (by decide) rfl ?_
              refine g_if_eq_f (tgt := 68) C dX11_told_47 (by decide) (by decide) ?_
              refine g_aload_n C dX11_told_50 rfl rfl ?_
              refine g_castS (k := 4) C dX11_told_51 cl174 hk6 (by decide) rfl ?_
              refine g_astore C dX11_told_54 (Nat.le_of_ble_eq_true rfl) rfl rfl ?_
              refine g_aload_n C dX11_told_56 rfl rfl ?_
              refine g_aload C dX11_told_57 rfl ?_
              refine g_getI (i := 4) (j := 4) C dX11_told_59 hk6 c4 rfl f176 (fun _ h9 => h9) ?_
              obtain ⟨z9, hz9, hf⟩ := gbind hf ho
              refine g_callV C dX11_told_62 (m_X11_fine l X N _ _ _  (gLay.sub hL (by decide) (by decide)) _ z9.1 z9.2 hz9) gEin0 (cwV 1 C.2.2.2.2.1 gX11_told_X11_fine rfl rfl rfl (by decide +kernel) ⟨Nat.le_of_ble_eq_true rfl, Nat.le_of_ble_eq_true rfl⟩) (L0 hL (by decide) (by decide)) (by decide) rfl rfl rfl (Nat.le_of_ble_eq_true rfl) ⟨Nat.le_of_ble_eq_true rfl, Nat.le_of_ble_eq_true rfl⟩ ?_
              refine g_goto (tgt := 73) C dX11_told_65 (by decide) ?_
              obtain ⟨rfl, rfl⟩ := gs2 hf
              exact g_iret C dX11_told_73 hr hlk
            · rw [if_neg (by rw [gK_of hk6]; decide), if_neg (by rw [gK_of hk6]; decide), if_neg (by rw [gK_of hk6]; decide)] at hf
              refine g_instY (k := 7) C dX11_told_44 cl174 hk6 (by decide) rfl hE.2.1 ?_
              refine g_if_eq_f (tgt := 68) C dX11_told_47 (by decide) (by decide) ?_
              refine g_aload_n C dX11_told_50 rfl rfl ?_
              refine g_castY (k := 7) C dX11_told_51 cl174 hk6 (by decide) rfl hE.2.1 ?_
              refine g_astore C dX11_told_54 (Nat.le_of_ble_eq_true rfl) rfl rfl ?_
              refine g_aload_n C dX11_told_56 rfl rfl ?_
              refine g_aload C dX11_told_57 rfl ?_
              refine g_getI (i := 0) (j := 4) C dX11_told_59 hk6 c7 rfl f176 (fun _ h9 => h9) ?_
              obtain ⟨z10, hz10, hf⟩ := gbind hf ho
              refine g_callV C dX11_told_62 (m_X11_fine l X N _ _ _  (gLay.sub hL (by decide) (by decide)) _ z10.1 z10.2 hz10) gEin0 (cwV 1 C.2.2.2.2.1 gX11_told_X11_fine rfl rfl rfl (by decide +kernel) ⟨Nat.le_of_ble_eq_true rfl, Nat.le_of_ble_eq_true rfl⟩) (L0 hL (by decide) (by decide)) (by decide) rfl rfl rfl (Nat.le_of_ble_eq_true rfl) ⟨Nat.le_of_ble_eq_true rfl, Nat.le_of_ble_eq_true rfl⟩ ?_
              refine g_goto (tgt := 73) C dX11_told_65 (by decide) ?_
              obtain ⟨rfl, rfl⟩ := gs2 hf
              exact g_iret C dX11_told_73 hr hlk
      · refine g_ldc C k80 dX11_told_17 ?_
        obtain ⟨rfl, rfl⟩ := gs2 hf
        exact g_iret C dX11_told_19 hr hlk
set_option maxRecDepth 100000 in
set_option maxHeartbeats 8000000 in
theorem m_X11_acts (l : Launch) (X : gX) (N : Nat) (I : gI) (R : gR) (S : gS) (hL : gLay 0 91 R S) (a0 : Int32) (a1 : Int32) (a2 : Int32) (v : Int32) (J : gI) (hf : f_X11_acts N I R S a0 a1 a2 = some (v, J)) : gM l yX11_acts wsX11_acts { frames := 4, cells := 0, slots := 0, locals := 98 } X gE0 [.ref (X.1 + 0), .int a0, .int a1, .int a2] I R S (some (.int v)) J R S 0 0 := by
  unfold f_X11_acts at hf
  refine gM_of (cc := cX11_acts) (own := RX11) (maxL := 5) (ret := (some .int)) (by decide) rfl rfl (Nat.le_of_ble_eq_true rfl) ?_
  intro p e s m args below meth c C hr hlk hnm hE
  have ho : (some (v, J)) ≠ none := fun h => by cases h
  have k80 := C.2.2.2.2.1 (.constant RX11 80 (-1000001)) (by decide +kernel)
  have f50 := C.2.2.2.2.1 (.fieldLink RX11 50 "TimesByPowers" "elements" "LTimesByPowers$Field;") (by decide +kernel)
  have c10 : gCl wsX11_acts 10 RX11 TX11 8 := ⟨by decide, rfl, rfl, by decide +kernel⟩
  have f17 := C.2.2.2.2.1 (.fieldLink RX11 17 "TimesByPowers" "shelf" "[LTimesByPowers$World;") (by decide +kernel)
  have f71 := C.2.2.2.2.1 (.fieldLink RX11 71 "TimesByPowers" "action" "LTimesByPowers$Action;") (by decide +kernel)
  refine g_iload_n C dX11_acts_0 rfl rfl ?_
  obtain ⟨z1, hz1, hf⟩ := gbind hf ho
  refine g_callS C dX11_acts_1 (m_X11_isPlace l X N _ _ _  (gLay.sub hL (by decide) (by decide)) _ z1 hz1) gEin0 (va_cwS 1 C.2.2.2.2.1 gX11_acts_X11_isPlace rfl rfl rfl (by decide +kernel) ⟨Nat.le_of_ble_eq_true rfl, Nat.le_of_ble_eq_true rfl⟩) rfl rfl (Nat.le_of_ble_eq_true rfl) ⟨Nat.le_of_ble_eq_true rfl, Nat.le_of_ble_eq_true rfl⟩ ?_
  refine g_if_eq (tgt := 29) C dX11_acts_4 (by decide) hf (fun hf => ?_) (fun hf => ?_)
  · refine g_ldc C k80 dX11_acts_29 ?_
    obtain ⟨rfl, rfl⟩ := gs2 hf
    exact g_iret C dX11_acts_31 hr hlk
  · refine g_aload_n C dX11_acts_7 rfl rfl ?_
    refine g_getR (i := 0) (j := 0) C dX11_acts_8 (L0 hL (by decide) (by decide)) c10 rfl (by decide) f50 (fun _ h9 => h9) (LR0_0 hL (by decide) (by decide)) ?_
    refine g_iload_n C dX11_acts_11 rfl rfl ?_
    obtain ⟨z2, hz2, hf⟩ := gbind hf ho
    refine g_callV C dX11_acts_12 (m_X2_hasPolynomial l X N _ _ _  (gLay.sub hL (by decide) (by decide)) _ z2 hz2) gEin0 (cwV 1 C.2.2.2.2.1 gX11_acts_X2_hasPolynomial rfl rfl rfl (by decide +kernel) ⟨Nat.le_of_ble_eq_true rfl, Nat.le_of_ble_eq_true rfl⟩) (L6 hL (by decide) (by decide)) (by decide) rfl rfl rfl (Nat.le_of_ble_eq_true rfl) ⟨Nat.le_of_ble_eq_true rfl, Nat.le_of_ble_eq_true rfl⟩ ?_
    refine g_if_eq (tgt := 29) C dX11_acts_15 (by decide) hf (fun hf => ?_) (fun hf => ?_)
    · refine g_ldc C k80 dX11_acts_29 ?_
      obtain ⟨rfl, rfl⟩ := gs2 hf
      exact g_iret C dX11_acts_31 hr hlk
    · refine g_aload_n C dX11_acts_18 rfl rfl ?_
      refine g_getR (i := 0) (j := 0) C dX11_acts_19 (L0 hL (by decide) (by decide)) c10 rfl (by decide) f50 (fun _ h9 => h9) (LR0_0 hL (by decide) (by decide)) ?_
      refine g_iload_n C dX11_acts_22 rfl rfl ?_
      obtain ⟨z3, hz3, hf⟩ := gbind hf ho
      refine g_callV C dX11_acts_23 (m_X2_has l X N _ _ _  (gLay.sub hL (by decide) (by decide)) _ z3 hz3) gEin0 (cwV 1 C.2.2.2.2.1 gX11_acts_X2_has rfl rfl rfl (by decide +kernel) ⟨Nat.le_of_ble_eq_true rfl, Nat.le_of_ble_eq_true rfl⟩) (L6 hL (by decide) (by decide)) (by decide) rfl rfl rfl (Nat.le_of_ble_eq_true rfl) ⟨Nat.le_of_ble_eq_true rfl, Nat.le_of_ble_eq_true rfl⟩ ?_
      refine g_if_ne (tgt := 32) C dX11_acts_26 (by decide) hf (fun hf => ?_) (fun hf => ?_)
      · refine g_aload_n C dX11_acts_32 rfl rfl ?_
        refine g_getR (i := 4) (j := 4) C dX11_acts_33 (L0 hL (by decide) (by decide)) c10 rfl (by decide) f17 (fun _ h9 => h9) (LR0_4 hL (by decide) (by decide)) ?_
        refine g_iload_n C dX11_acts_36 rfl rfl ?_
        refine g_aald 3 C dX11_acts_37 (by decide) (L2 hL (by decide) (by decide)) rfl rfl ho hf (fun hf => ?_)
        refine g_split hf (fun hnw4 hf => ?_) (fun w4 hsw4 hf => ?_)
        · refine g_astoreN C dX11_acts_38 (Nat.le_of_ble_eq_true rfl) rfl rfl ?_
          refine g_aloadN C dX11_acts_40 rfl ?_
          refine g_ifnonnullN C dX11_acts_42 ?_
          refine g_aload_n C dX11_acts_45 rfl rfl ?_
          refine g_iconst (v := 1) C dX11_acts_46 (by decide) ?_
          obtain ⟨z5, hz5, hf⟩ := gbind hf ho
          refine g_callV C dX11_acts_47 (m_X11_found l X N _ _ _  (gLay.sub hL (by decide) (by decide)) _ z5.1 z5.2 hz5) gEin0 (cwV 1 C.2.2.2.2.1 gX11_acts_X11_found rfl rfl rfl (by decide +kernel) ⟨Nat.le_of_ble_eq_true rfl, Nat.le_of_ble_eq_true rfl⟩) (L0 hL (by decide) (by decide)) (by decide) rfl rfl rfl (Nat.le_of_ble_eq_true rfl) ⟨Nat.le_of_ble_eq_true rfl, Nat.le_of_ble_eq_true rfl⟩ ?_
          refine g_goto (tgt := 68) C dX11_acts_50 (by decide) ?_
          obtain ⟨rfl, rfl⟩ := gs2 hf
          exact g_iret C dX11_acts_68 hr hlk
        · obtain ⟨hww4, hf⟩ := gcase hf ho
          refine g_astore C dX11_acts_38 (Nat.le_of_ble_eq_true rfl) rfl rfl ?_
          refine g_aload C dX11_acts_40 rfl ?_
          refine g_ifnonnull (tgt := 53) C dX11_acts_42 (by decide) ?_
          refine g_aload_n C dX11_acts_53 rfl rfl ?_
          refine g_aload_n C dX11_acts_54 rfl rfl ?_
          refine g_getR (i := 2) (j := 2) C dX11_acts_55 (L0 hL (by decide) (by decide)) c10 rfl (by decide) f71 (fun _ h9 => h9) (LR0_2 hL (by decide) (by decide)) ?_
          refine g_aload C dX11_acts_58 rfl ?_
          refine g_iload_n C dX11_acts_60 rfl rfl ?_
          refine g_iload_n C dX11_acts_61 rfl rfl ?_
          obtain ⟨z6, hz6, hf⟩ := gbind hf ho
          refine g_callV C dX11_acts_62 (m_X0_imageOf l X N _ _ _  (gLay.sub hL (by decide) (by decide)) _ _ _ z6.1 z6.2 hz6) gEin0 (cwV 3 C.2.2.2.2.1 gX11_acts_X0_imageOf rfl rfl rfl (by decide +kernel) ⟨Nat.le_of_ble_eq_true rfl, Nat.le_of_ble_eq_true rfl⟩) (L56 hL (by decide) (by decide)) (by decide) rfl rfl rfl (Nat.le_of_ble_eq_true rfl) ⟨Nat.le_of_ble_eq_true rfl, Nat.le_of_ble_eq_true rfl⟩ ?_
          obtain ⟨z7, hz7, hf⟩ := gbind hf ho
          refine g_callV C dX11_acts_65 (m_X11_fine l X N _ _ _  (gLay.sub hL (by decide) (by decide)) _ z7.1 z7.2 hz7) gEin0 (cwV 1 C.2.2.2.2.1 gX11_acts_X11_fine rfl rfl rfl (by decide +kernel) ⟨Nat.le_of_ble_eq_true rfl, Nat.le_of_ble_eq_true rfl⟩) (L0 hL (by decide) (by decide)) (by decide) rfl rfl rfl (Nat.le_of_ble_eq_true rfl) ⟨Nat.le_of_ble_eq_true rfl, Nat.le_of_ble_eq_true rfl⟩ ?_
          obtain ⟨rfl, rfl⟩ := gs2 hf
          exact g_iret C dX11_acts_68 hr hlk
      · refine g_ldc C k80 dX11_acts_29 ?_
        obtain ⟨rfl, rfl⟩ := gs2 hf
        exact g_iret C dX11_acts_31 hr hlk
set_option maxRecDepth 100000 in
set_option maxHeartbeats 8000000 in
theorem m_X11_sum (l : Launch) (X : gX) (N : Nat) (I : gI) (R : gR) (S : gS) (hL : gLay 0 91 R S) (a0 : Int32) (a1 : Int32) (a2 : Int32) (v : Int32) (J : gI) (hf : f_X11_sum N I R S a0 a1 a2 = some (v, J)) : gM l yX11_sum wsX11_sum { frames := 5, cells := 0, slots := 0, locals := 123 } X gE0 [.ref (X.1 + 0), .int a0, .int a1, .int a2] I R S (some (.int v)) J R S 0 0 := by
  unfold f_X11_sum at hf
  refine gM_of (cc := cX11_sum) (own := RX11) (maxL := 6) (ret := (some .int)) (by decide) rfl rfl (Nat.le_of_ble_eq_true rfl) ?_
  intro p e s m args below meth c C hr hlk hnm hE
  have ho : (some (v, J)) ≠ none := fun h => by cases h
  have k80 := C.2.2.2.2.1 (.constant RX11 80 (-1000001)) (by decide +kernel)
  have f50 := C.2.2.2.2.1 (.fieldLink RX11 50 "TimesByPowers" "elements" "LTimesByPowers$Field;") (by decide +kernel)
  have c10 : gCl wsX11_sum 10 RX11 TX11 8 := ⟨by decide, rfl, rfl, by decide +kernel⟩
  have f17 := C.2.2.2.2.1 (.fieldLink RX11 17 "TimesByPowers" "shelf" "[LTimesByPowers$World;") (by decide +kernel)
  have f64 := C.2.2.2.2.1 (.fieldLink RX11 64 "TimesByPowers" "sums" "LTimesByPowers$Sums;") (by decide +kernel)
  refine g_iload_n C dX11_sum_0 rfl rfl ?_
  obtain ⟨z1, hz1, hf⟩ := gbind hf ho
  refine g_callS C dX11_sum_1 (m_X11_isPlace l X N _ _ _  (gLay.sub hL (by decide) (by decide)) _ z1 hz1) gEin0 (va_cwS 1 C.2.2.2.2.1 gX11_sum_X11_isPlace rfl rfl rfl (by decide +kernel) ⟨Nat.le_of_ble_eq_true rfl, Nat.le_of_ble_eq_true rfl⟩) rfl rfl (Nat.le_of_ble_eq_true rfl) ⟨Nat.le_of_ble_eq_true rfl, Nat.le_of_ble_eq_true rfl⟩ ?_
  refine g_if_eq (tgt := 23) C dX11_sum_4 (by decide) hf (fun hf => ?_) (fun hf => ?_)
  · refine g_ldc C k80 dX11_sum_23 ?_
    obtain ⟨rfl, rfl⟩ := gs2 hf
    exact g_iret C dX11_sum_25 hr hlk
  · refine g_aload_n C dX11_sum_7 rfl rfl ?_
    refine g_getR (i := 0) (j := 0) C dX11_sum_8 (L0 hL (by decide) (by decide)) c10 rfl (by decide) f50 (fun _ h9 => h9) (LR0_0 hL (by decide) (by decide)) ?_
    refine g_iload_n C dX11_sum_11 rfl rfl ?_
    obtain ⟨z2, hz2, hf⟩ := gbind hf ho
    refine g_callV C dX11_sum_12 (m_X2_hasPolynomial l X N _ _ _  (gLay.sub hL (by decide) (by decide)) _ z2 hz2) gEin0 (cwV 1 C.2.2.2.2.1 gX11_sum_X2_hasPolynomial rfl rfl rfl (by decide +kernel) ⟨Nat.le_of_ble_eq_true rfl, Nat.le_of_ble_eq_true rfl⟩) (L6 hL (by decide) (by decide)) (by decide) rfl rfl rfl (Nat.le_of_ble_eq_true rfl) ⟨Nat.le_of_ble_eq_true rfl, Nat.le_of_ble_eq_true rfl⟩ ?_
    refine g_if_eq (tgt := 23) C dX11_sum_15 (by decide) hf (fun hf => ?_) (fun hf => ?_)
    · refine g_ldc C k80 dX11_sum_23 ?_
      obtain ⟨rfl, rfl⟩ := gs2 hf
      exact g_iret C dX11_sum_25 hr hlk
    · refine g_iload_n C dX11_sum_18 rfl rfl ?_
      refine g_iconst (v := -1) C dX11_sum_19 (by decide) ?_
      refine g_icmp_ge (tgt := 26) C dX11_sum_20 (by decide) hf (fun hf => ?_) (fun hf => ?_)
      · refine g_aload_n C dX11_sum_26 rfl rfl ?_
        refine g_getR (i := 4) (j := 4) C dX11_sum_27 (L0 hL (by decide) (by decide)) c10 rfl (by decide) f17 (fun _ h9 => h9) (LR0_4 hL (by decide) (by decide)) ?_
        refine g_iload_n C dX11_sum_30 rfl rfl ?_
        refine g_aald 3 C dX11_sum_31 (by decide) (L2 hL (by decide) (by decide)) rfl rfl ho hf (fun hf => ?_)
        refine g_split hf (fun hnw3 hf => ?_) (fun w3 hsw3 hf => ?_)
        · refine g_astoreN C dX11_sum_32 (Nat.le_of_ble_eq_true rfl) rfl rfl ?_
          refine g_aloadN C dX11_sum_34 rfl ?_
          refine g_ifnonnullN C dX11_sum_36 ?_
          refine g_aload_n C dX11_sum_39 rfl rfl ?_
          refine g_iconst (v := 1) C dX11_sum_40 (by decide) ?_
          obtain ⟨z4, hz4, hf⟩ := gbind hf ho
          refine g_callV C dX11_sum_41 (m_X11_found l X N _ _ _  (gLay.sub hL (by decide) (by decide)) _ z4.1 z4.2 hz4) gEin0 (cwV 1 C.2.2.2.2.1 gX11_sum_X11_found rfl rfl rfl (by decide +kernel) ⟨Nat.le_of_ble_eq_true rfl, Nat.le_of_ble_eq_true rfl⟩) (L0 hL (by decide) (by decide)) (by decide) rfl rfl rfl (Nat.le_of_ble_eq_true rfl) ⟨Nat.le_of_ble_eq_true rfl, Nat.le_of_ble_eq_true rfl⟩ ?_
          obtain ⟨rfl, rfl⟩ := gs2 hf
          exact g_iret C dX11_sum_44 hr hlk
        · obtain ⟨hww3, hf⟩ := gcase hf ho
          refine g_astore C dX11_sum_32 (Nat.le_of_ble_eq_true rfl) rfl rfl ?_
          refine g_aload C dX11_sum_34 rfl ?_
          refine g_ifnonnull (tgt := 45) C dX11_sum_36 (by decide) ?_
          refine g_aload_n C dX11_sum_45 rfl rfl ?_
          refine g_getR (i := 1) (j := 1) C dX11_sum_46 (L0 hL (by decide) (by decide)) c10 rfl (by decide) f64 (fun _ h9 => h9) (LR0_1 hL (by decide) (by decide)) ?_
          refine g_aload C dX11_sum_49 rfl ?_
          refine g_iload_n C dX11_sum_51 rfl rfl ?_
          obtain ⟨z5, hz5, hf⟩ := gbind hf ho
          refine g_callV C dX11_sum_52 (m_X8_lengthOf l X N _ _ _  (gLay.sub hL (by decide) (by decide)) _ _ z5 hz5) gEin0 (cwV 2 C.2.2.2.2.1 gX11_sum_X8_lengthOf rfl rfl rfl (by decide +kernel) ⟨Nat.le_of_ble_eq_true rfl, Nat.le_of_ble_eq_true rfl⟩) (L37 hL (by decide) (by decide)) (by decide) rfl rfl rfl (Nat.le_of_ble_eq_true rfl) ⟨Nat.le_of_ble_eq_true rfl, Nat.le_of_ble_eq_true rfl⟩ ?_
          refine g_istore C dX11_sum_55 (Nat.le_of_ble_eq_true rfl) rfl rfl ?_
          refine g_iload_n C dX11_sum_57 rfl rfl ?_
          refine g_iconst (v := -1) C dX11_sum_58 (by decide) ?_
          refine g_icmp_ne (tgt := 69) C dX11_sum_59 (by decide) hf (fun hf => ?_) (fun hf => ?_)
          · refine g_aload_n C dX11_sum_69 rfl rfl ?_
            refine g_iload_n C dX11_sum_70 rfl rfl ?_
            refine g_iload C dX11_sum_71 rfl ?_
            refine g_join (fun z6 => []) (fun z6 => [.int z6.1, .ref (X.1 + 0)]) (fun z6 => z6.2) 91 hf ho (fun z6 hf => ?_) (fun o1 hf ho hkz6 => ?_)
            · obtain ⟨z8, hz8, hf⟩ := gbind hf ho
              refine g_callV C dX11_sum_91 (m_X11_fine l X N _ _ _  (gLay.sub hL (by decide) (by decide)) _ z8.1 z8.2 hz8) gEin0 (cwV 1 C.2.2.2.2.1 gX11_sum_X11_fine rfl rfl rfl (by decide +kernel) ⟨Nat.le_of_ble_eq_true rfl, Nat.le_of_ble_eq_true rfl⟩) (L0 hL (by decide) (by decide)) (by decide) rfl rfl rfl (Nat.le_of_ble_eq_true rfl) ⟨Nat.le_of_ble_eq_true rfl, Nat.le_of_ble_eq_true rfl⟩ ?_
              obtain ⟨rfl, rfl⟩ := gs2 hf
              exact g_iret C dX11_sum_94 hr hlk
            · refine g_icmp_le (tgt := 80) C dX11_sum_73 (by decide) hf (fun hf => ?_) (fun hf => ?_)
              · refine g_aload_n C dX11_sum_80 rfl rfl ?_
                refine g_getR (i := 1) (j := 1) C dX11_sum_81 (L0 hL (by decide) (by decide)) c10 rfl (by decide) f64 (fun _ h9 => h9) (LR0_1 hL (by decide) (by decide)) ?_
                refine g_aload C dX11_sum_84 rfl ?_
                refine g_iload_n C dX11_sum_86 rfl rfl ?_
                refine g_iload_n C dX11_sum_87 rfl rfl ?_
                obtain ⟨z7, hz7, hf⟩ := gbind hf ho
                refine g_callV C dX11_sum_88 (m_X8_numberOf l X N _ _ _  (gLay.sub hL (by decide) (by decide)) _ _ _ z7.1 z7.2 hz7) gEin0 (cwV 3 C.2.2.2.2.1 gX11_sum_X8_numberOf rfl rfl rfl (by decide +kernel) ⟨Nat.le_of_ble_eq_true rfl, Nat.le_of_ble_eq_true rfl⟩) (L37 hL (by decide) (by decide)) (by decide) rfl rfl rfl (Nat.le_of_ble_eq_true rfl) ⟨Nat.le_of_ble_eq_true rfl, Nat.le_of_ble_eq_true rfl⟩ ?_
                have hx := hkz6 _ hf.symm
                refine g_sub ?_ hx
                exact trivial
              · refine g_iconst (v := 0) C dX11_sum_76 (by decide) ?_
                refine g_goto (tgt := 91) C dX11_sum_77 (by decide) ?_
                have hx := hkz6 _ hf.symm
                refine g_sub ?_ hx
                exact trivial
          · refine g_aload_n C dX11_sum_62 rfl rfl ?_
            refine g_iload C dX11_sum_63 rfl ?_
            obtain ⟨z9, hz9, hf⟩ := gbind hf ho
            refine g_callV C dX11_sum_65 (m_X11_fine l X N _ _ _  (gLay.sub hL (by decide) (by decide)) _ z9.1 z9.2 hz9) gEin0 (cwV 1 C.2.2.2.2.1 gX11_sum_X11_fine rfl rfl rfl (by decide +kernel) ⟨Nat.le_of_ble_eq_true rfl, Nat.le_of_ble_eq_true rfl⟩) (L0 hL (by decide) (by decide)) (by decide) rfl rfl rfl (Nat.le_of_ble_eq_true rfl) ⟨Nat.le_of_ble_eq_true rfl, Nat.le_of_ble_eq_true rfl⟩ ?_
            obtain ⟨rfl, rfl⟩ := gs2 hf
            exact g_iret C dX11_sum_68 hr hlk
      · refine g_ldc C k80 dX11_sum_23 ?_
        obtain ⟨rfl, rfl⟩ := gs2 hf
        exact g_iret C dX11_sum_25 hr hlk
set_option maxRecDepth 100000 in
set_option maxHeartbeats 8000000 in
theorem m_X11_order (l : Launch) (X : gX) (N : Nat) (I : gI) (R : gR) (S : gS) (hL : gLay 0 91 R S) (a0 : Int32) (a1 : Int32) (v : Int32) (J : gI) (hf : f_X11_order N I R S a0 a1 = some (v, J)) : gM l yX11_order wsX11_order { frames := 5, cells := 0, slots := 0, locals := 110 } X gE0 [.ref (X.1 + 0), .int a0, .int a1] I R S (some (.int v)) J R S 0 0 := by
  unfold f_X11_order at hf
  refine gM_of (cc := cX11_order) (own := RX11) (maxL := 4) (ret := (some .int)) (by decide) rfl rfl (Nat.le_of_ble_eq_true rfl) ?_
  intro p e s m args below meth c C hr hlk hnm hE
  have ho : (some (v, J)) ≠ none := fun h => by cases h
  have k80 := C.2.2.2.2.1 (.constant RX11 80 (-1000001)) (by decide +kernel)
  have f50 := C.2.2.2.2.1 (.fieldLink RX11 50 "TimesByPowers" "elements" "LTimesByPowers$Field;") (by decide +kernel)
  have c10 : gCl wsX11_order 10 RX11 TX11 8 := ⟨by decide, rfl, rfl, by decide +kernel⟩
  have f17 := C.2.2.2.2.1 (.fieldLink RX11 17 "TimesByPowers" "shelf" "[LTimesByPowers$World;") (by decide +kernel)
  have f71 := C.2.2.2.2.1 (.fieldLink RX11 71 "TimesByPowers" "action" "LTimesByPowers$Action;") (by decide +kernel)
  refine g_iload_n C dX11_order_0 rfl rfl ?_
  obtain ⟨z1, hz1, hf⟩ := gbind hf ho
  refine g_callS C dX11_order_1 (m_X11_isPlace l X N _ _ _  (gLay.sub hL (by decide) (by decide)) _ z1 hz1) gEin0 (va_cwS 1 C.2.2.2.2.1 gX11_order_X11_isPlace rfl rfl rfl (by decide +kernel) ⟨Nat.le_of_ble_eq_true rfl, Nat.le_of_ble_eq_true rfl⟩) rfl rfl (Nat.le_of_ble_eq_true rfl) ⟨Nat.le_of_ble_eq_true rfl, Nat.le_of_ble_eq_true rfl⟩ ?_
  refine g_if_eq (tgt := 18) C dX11_order_4 (by decide) hf (fun hf => ?_) (fun hf => ?_)
  · refine g_ldc C k80 dX11_order_18 ?_
    obtain ⟨rfl, rfl⟩ := gs2 hf
    exact g_iret C dX11_order_20 hr hlk
  · refine g_aload_n C dX11_order_7 rfl rfl ?_
    refine g_getR (i := 0) (j := 0) C dX11_order_8 (L0 hL (by decide) (by decide)) c10 rfl (by decide) f50 (fun _ h9 => h9) (LR0_0 hL (by decide) (by decide)) ?_
    refine g_iload_n C dX11_order_11 rfl rfl ?_
    obtain ⟨z2, hz2, hf⟩ := gbind hf ho
    refine g_callV C dX11_order_12 (m_X2_has l X N _ _ _  (gLay.sub hL (by decide) (by decide)) _ z2 hz2) gEin0 (cwV 1 C.2.2.2.2.1 gX11_order_X2_has rfl rfl rfl (by decide +kernel) ⟨Nat.le_of_ble_eq_true rfl, Nat.le_of_ble_eq_true rfl⟩) (L6 hL (by decide) (by decide)) (by decide) rfl rfl rfl (Nat.le_of_ble_eq_true rfl) ⟨Nat.le_of_ble_eq_true rfl, Nat.le_of_ble_eq_true rfl⟩ ?_
    refine g_if_ne (tgt := 21) C dX11_order_15 (by decide) hf (fun hf => ?_) (fun hf => ?_)
    · refine g_aload_n C dX11_order_21 rfl rfl ?_
      refine g_getR (i := 4) (j := 4) C dX11_order_22 (L0 hL (by decide) (by decide)) c10 rfl (by decide) f17 (fun _ h9 => h9) (LR0_4 hL (by decide) (by decide)) ?_
      refine g_iload_n C dX11_order_25 rfl rfl ?_
      refine g_aald 3 C dX11_order_26 (by decide) (L2 hL (by decide) (by decide)) rfl rfl ho hf (fun hf => ?_)
      refine g_split hf (fun hnw3 hf => ?_) (fun w3 hsw3 hf => ?_)
      · refine g_astore_nN C dX11_order_27 rfl (Nat.le_of_ble_eq_true rfl) rfl rfl ?_
        refine g_aload_nN C dX11_order_28 rfl rfl ?_
        refine g_ifnonnullN C dX11_order_29 ?_
        refine g_aload_n C dX11_order_32 rfl rfl ?_
        refine g_iconst (v := 1) C dX11_order_33 (by decide) ?_
        obtain ⟨z4, hz4, hf⟩ := gbind hf ho
        refine g_callV C dX11_order_34 (m_X11_found l X N _ _ _  (gLay.sub hL (by decide) (by decide)) _ z4.1 z4.2 hz4) gEin0 (cwV 1 C.2.2.2.2.1 gX11_order_X11_found rfl rfl rfl (by decide +kernel) ⟨Nat.le_of_ble_eq_true rfl, Nat.le_of_ble_eq_true rfl⟩) (L0 hL (by decide) (by decide)) (by decide) rfl rfl rfl (Nat.le_of_ble_eq_true rfl) ⟨Nat.le_of_ble_eq_true rfl, Nat.le_of_ble_eq_true rfl⟩ ?_
        refine g_goto (tgt := 53) C dX11_order_37 (by decide) ?_
        obtain ⟨rfl, rfl⟩ := gs2 hf
        exact g_iret C dX11_order_53 hr hlk
      · obtain ⟨hww3, hf⟩ := gcase hf ho
        refine g_astore_n C dX11_order_27 rfl (Nat.le_of_ble_eq_true rfl) rfl rfl ?_
        refine g_aload_n C dX11_order_28 rfl rfl ?_
        refine g_ifnonnull (tgt := 40) C dX11_order_29 (by decide) ?_
        refine g_aload_n C dX11_order_40 rfl rfl ?_
        refine g_aload_n C dX11_order_41 rfl rfl ?_
        refine g_getR (i := 2) (j := 2) C dX11_order_42 (L0 hL (by decide) (by decide)) c10 rfl (by decide) f71 (fun _ h9 => h9) (LR0_2 hL (by decide) (by decide)) ?_
        refine g_aload_n C dX11_order_45 rfl rfl ?_
        refine g_iload_n C dX11_order_46 rfl rfl ?_
        obtain ⟨z5, hz5, hf⟩ := gbind hf ho
        refine g_callV C dX11_order_47 (m_X0_orderOf l X N _ _ _  (gLay.sub hL (by decide) (by decide)) _ _ z5.1 z5.2 hz5) gEin0 (cwV 2 C.2.2.2.2.1 gX11_order_X0_orderOf rfl rfl rfl (by decide +kernel) ⟨Nat.le_of_ble_eq_true rfl, Nat.le_of_ble_eq_true rfl⟩) (L56 hL (by decide) (by decide)) (by decide) rfl rfl rfl (Nat.le_of_ble_eq_true rfl) ⟨Nat.le_of_ble_eq_true rfl, Nat.le_of_ble_eq_true rfl⟩ ?_
        obtain ⟨z6, hz6, hf⟩ := gbind hf ho
        refine g_callV C dX11_order_50 (m_X11_fine l X N _ _ _  (gLay.sub hL (by decide) (by decide)) _ z6.1 z6.2 hz6) gEin0 (cwV 1 C.2.2.2.2.1 gX11_order_X11_fine rfl rfl rfl (by decide +kernel) ⟨Nat.le_of_ble_eq_true rfl, Nat.le_of_ble_eq_true rfl⟩) (L0 hL (by decide) (by decide)) (by decide) rfl rfl rfl (Nat.le_of_ble_eq_true rfl) ⟨Nat.le_of_ble_eq_true rfl, Nat.le_of_ble_eq_true rfl⟩ ?_
        obtain ⟨rfl, rfl⟩ := gs2 hf
        exact g_iret C dX11_order_53 hr hlk
    · refine g_ldc C k80 dX11_order_18 ?_
      obtain ⟨rfl, rfl⟩ := gs2 hf
      exact g_iret C dX11_order_20 hr hlk
set_option maxRecDepth 100000 in
set_option maxHeartbeats 8000000 in
theorem m_X11_kernel (l : Launch) (X : gX) (N : Nat) (I : gI) (R : gR) (S : gS) (hL : gLay 0 91 R S) (a0 : Int32) (a1 : Int32) (a2 : Int32) (v : Int32) (J : gI) (hf : f_X11_kernel N I R S a0 a1 a2 = some (v, J)) : gM l yX11_kernel wsX11_kernel { frames := 4, cells := 0, slots := 0, locals := 99 } X gE0 [.ref (X.1 + 0), .int a0, .int a1, .int a2] I R S (some (.int v)) J R S 0 0 := by
  unfold f_X11_kernel at hf
  refine gM_of (cc := cX11_kernel) (own := RX11) (maxL := 6) (ret := (some .int)) (by decide) rfl rfl (Nat.le_of_ble_eq_true rfl) ?_
  intro p e s m args below meth c C hr hlk hnm hE
  have ho : (some (v, J)) ≠ none := fun h => by cases h
  have k80 := C.2.2.2.2.1 (.constant RX11 80 (-1000001)) (by decide +kernel)
  have f50 := C.2.2.2.2.1 (.fieldLink RX11 50 "TimesByPowers" "elements" "LTimesByPowers$Field;") (by decide +kernel)
  have c10 : gCl wsX11_kernel 10 RX11 TX11 8 := ⟨by decide, rfl, rfl, by decide +kernel⟩
  have f17 := C.2.2.2.2.1 (.fieldLink RX11 17 "TimesByPowers" "shelf" "[LTimesByPowers$World;") (by decide +kernel)
  have f71 := C.2.2.2.2.1 (.fieldLink RX11 71 "TimesByPowers" "action" "LTimesByPowers$Action;") (by decide +kernel)
  have k132 := C.2.2.2.2.1 (.constant RX11 132 (-1000000)) (by decide +kernel)
  refine g_iload_n C dX11_kernel_0 rfl rfl ?_
  obtain ⟨z1, hz1, hf⟩ := gbind hf ho
  refine g_callS C dX11_kernel_1 (m_X11_isPlace l X N _ _ _  (gLay.sub hL (by decide) (by decide)) _ z1 hz1) gEin0 (va_cwS 1 C.2.2.2.2.1 gX11_kernel_X11_isPlace rfl rfl rfl (by decide +kernel) ⟨Nat.le_of_ble_eq_true rfl, Nat.le_of_ble_eq_true rfl⟩) rfl rfl (Nat.le_of_ble_eq_true rfl) ⟨Nat.le_of_ble_eq_true rfl, Nat.le_of_ble_eq_true rfl⟩ ?_
  refine g_if_eq (tgt := 18) C dX11_kernel_4 (by decide) hf (fun hf => ?_) (fun hf => ?_)
  · refine g_ldc C k80 dX11_kernel_18 ?_
    obtain ⟨rfl, rfl⟩ := gs2 hf
    exact g_iret C dX11_kernel_20 hr hlk
  · refine g_aload_n C dX11_kernel_7 rfl rfl ?_
    refine g_getR (i := 0) (j := 0) C dX11_kernel_8 (L0 hL (by decide) (by decide)) c10 rfl (by decide) f50 (fun _ h9 => h9) (LR0_0 hL (by decide) (by decide)) ?_
    refine g_iload_n C dX11_kernel_11 rfl rfl ?_
    obtain ⟨z2, hz2, hf⟩ := gbind hf ho
    refine g_callV C dX11_kernel_12 (m_X2_hasPolynomial l X N _ _ _  (gLay.sub hL (by decide) (by decide)) _ z2 hz2) gEin0 (cwV 1 C.2.2.2.2.1 gX11_kernel_X2_hasPolynomial rfl rfl rfl (by decide +kernel) ⟨Nat.le_of_ble_eq_true rfl, Nat.le_of_ble_eq_true rfl⟩) (L6 hL (by decide) (by decide)) (by decide) rfl rfl rfl (Nat.le_of_ble_eq_true rfl) ⟨Nat.le_of_ble_eq_true rfl, Nat.le_of_ble_eq_true rfl⟩ ?_
    refine g_if_ne (tgt := 21) C dX11_kernel_15 (by decide) hf (fun hf => ?_) (fun hf => ?_)
    · refine g_aload_n C dX11_kernel_21 rfl rfl ?_
      refine g_getR (i := 4) (j := 4) C dX11_kernel_22 (L0 hL (by decide) (by decide)) c10 rfl (by decide) f17 (fun _ h9 => h9) (LR0_4 hL (by decide) (by decide)) ?_
      refine g_iload_n C dX11_kernel_25 rfl rfl ?_
      refine g_aald 3 C dX11_kernel_26 (by decide) (L2 hL (by decide) (by decide)) rfl rfl ho hf (fun hf => ?_)
      refine g_split hf (fun hnw3 hf => ?_) (fun w3 hsw3 hf => ?_)
      · refine g_astoreN C dX11_kernel_27 (Nat.le_of_ble_eq_true rfl) rfl rfl ?_
        refine g_aloadN C dX11_kernel_29 rfl ?_
        refine g_ifnonnullN C dX11_kernel_31 ?_
        refine g_aload_n C dX11_kernel_34 rfl rfl ?_
        refine g_iconst (v := 1) C dX11_kernel_35 (by decide) ?_
        obtain ⟨z4, hz4, hf⟩ := gbind hf ho
        refine g_callV C dX11_kernel_36 (m_X11_found l X N _ _ _  (gLay.sub hL (by decide) (by decide)) _ z4.1 z4.2 hz4) gEin0 (cwV 1 C.2.2.2.2.1 gX11_kernel_X11_found rfl rfl rfl (by decide +kernel) ⟨Nat.le_of_ble_eq_true rfl, Nat.le_of_ble_eq_true rfl⟩) (L0 hL (by decide) (by decide)) (by decide) rfl rfl rfl (Nat.le_of_ble_eq_true rfl) ⟨Nat.le_of_ble_eq_true rfl, Nat.le_of_ble_eq_true rfl⟩ ?_
        obtain ⟨rfl, rfl⟩ := gs2 hf
        exact g_iret C dX11_kernel_39 hr hlk
      · obtain ⟨hww3, hf⟩ := gcase hf ho
        refine g_astore C dX11_kernel_27 (Nat.le_of_ble_eq_true rfl) rfl rfl ?_
        refine g_aload C dX11_kernel_29 rfl ?_
        refine g_ifnonnull (tgt := 40) C dX11_kernel_31 (by decide) ?_
        refine g_aload_n C dX11_kernel_40 rfl rfl ?_
        refine g_getR (i := 2) (j := 2) C dX11_kernel_41 (L0 hL (by decide) (by decide)) c10 rfl (by decide) f71 (fun _ h9 => h9) (LR0_2 hL (by decide) (by decide)) ?_
        refine g_aload C dX11_kernel_44 rfl ?_
        refine g_iload_n C dX11_kernel_46 rfl rfl ?_
        obtain ⟨z5, hz5, hf⟩ := gbind hf ho
        refine g_callV C dX11_kernel_47 (m_X0_kernelSize l X N _ _ _  (gLay.sub hL (by decide) (by decide)) _ _ z5.1 z5.2 hz5) gEin0 (cwV 2 C.2.2.2.2.1 gX11_kernel_X0_kernelSize rfl rfl rfl (by decide +kernel) ⟨Nat.le_of_ble_eq_true rfl, Nat.le_of_ble_eq_true rfl⟩) (L56 hL (by decide) (by decide)) (by decide) rfl rfl rfl (Nat.le_of_ble_eq_true rfl) ⟨Nat.le_of_ble_eq_true rfl, Nat.le_of_ble_eq_true rfl⟩ ?_
        refine g_istore C dX11_kernel_50 (Nat.le_of_ble_eq_true rfl) rfl rfl ?_
        refine g_iload_n C dX11_kernel_52 rfl rfl ?_
        refine g_ldc C k132 dX11_kernel_53 ?_
        refine g_icmp_ne (tgt := 65) C dX11_kernel_55 (by decide) hf (fun hf => ?_) (fun hf => ?_)
        · refine g_aload_n C dX11_kernel_65 rfl rfl ?_
          refine g_iload_n C dX11_kernel_66 rfl rfl ?_
          refine g_join (fun z6 => []) (fun z6 => [.int z6.1, .ref (X.1 + 0)]) (fun z6 => z6.2) 89 hf ho (fun z6 hf => ?_) (fun o1 hf ho hkz6 => ?_)
          · obtain ⟨z8, hz8, hf⟩ := gbind hf ho
            refine g_callV C dX11_kernel_89 (m_X11_fine l X N _ _ _  (gLay.sub hL (by decide) (by decide)) _ z8.1 z8.2 hz8) gEin0 (cwV 1 C.2.2.2.2.1 gX11_kernel_X11_fine rfl rfl rfl (by decide +kernel) ⟨Nat.le_of_ble_eq_true rfl, Nat.le_of_ble_eq_true rfl⟩) (L0 hL (by decide) (by decide)) (by decide) rfl rfl rfl (Nat.le_of_ble_eq_true rfl) ⟨Nat.le_of_ble_eq_true rfl, Nat.le_of_ble_eq_true rfl⟩ ?_
            obtain ⟨rfl, rfl⟩ := gs2 hf
            exact g_iret C dX11_kernel_92 hr hlk
          · refine g_if_lt (tgt := 76) C dX11_kernel_67 (by decide) hf (fun hf => ?_) (fun hf => ?_)
            · refine g_ldc C k132 dX11_kernel_76 ?_
              refine g_goto (tgt := 89) C dX11_kernel_78 (by decide) ?_
              have hx := hkz6 _ hf.symm
              refine g_sub ?_ hx
              exact trivial
            · refine g_iload_n C dX11_kernel_70 rfl rfl ?_
              refine g_iload C dX11_kernel_71 rfl ?_
              refine g_icmp_lt (tgt := 81) C dX11_kernel_73 (by decide) hf (fun hf => ?_) (fun hf => ?_)
              · refine g_aload_n C dX11_kernel_81 rfl rfl ?_
                refine g_getR (i := 2) (j := 2) C dX11_kernel_82 (L0 hL (by decide) (by decide)) c10 rfl (by decide) f71 (fun _ h9 => h9) (LR0_2 hL (by decide) (by decide)) ?_
                refine g_iload_n C dX11_kernel_85 rfl rfl ?_
                obtain ⟨z7, hz7, hf⟩ := gbind hf ho
                refine g_callV C dX11_kernel_86 (m_X0_kernelItem l X N _ _ _  (gLay.sub hL (by decide) (by decide)) _ z7.1 z7.2 hz7) gEin0 (cwV 1 C.2.2.2.2.1 gX11_kernel_X0_kernelItem rfl rfl rfl (by decide +kernel) ⟨Nat.le_of_ble_eq_true rfl, Nat.le_of_ble_eq_true rfl⟩) (L56 hL (by decide) (by decide)) (by decide) rfl rfl rfl (Nat.le_of_ble_eq_true rfl) ⟨Nat.le_of_ble_eq_true rfl, Nat.le_of_ble_eq_true rfl⟩ ?_
                have hx := hkz6 _ hf.symm
                refine g_sub ?_ hx
                exact trivial
              · refine g_ldc C k132 dX11_kernel_76 ?_
                refine g_goto (tgt := 89) C dX11_kernel_78 (by decide) ?_
                have hx := hkz6 _ hf.symm
                refine g_sub ?_ hx
                exact trivial
        · refine g_aload_n C dX11_kernel_58 rfl rfl ?_
          refine g_iload C dX11_kernel_59 rfl ?_
          obtain ⟨z9, hz9, hf⟩ := gbind hf ho
          refine g_callV C dX11_kernel_61 (m_X11_fine l X N _ _ _  (gLay.sub hL (by decide) (by decide)) _ z9.1 z9.2 hz9) gEin0 (cwV 1 C.2.2.2.2.1 gX11_kernel_X11_fine rfl rfl rfl (by decide +kernel) ⟨Nat.le_of_ble_eq_true rfl, Nat.le_of_ble_eq_true rfl⟩) (L0 hL (by decide) (by decide)) (by decide) rfl rfl rfl (Nat.le_of_ble_eq_true rfl) ⟨Nat.le_of_ble_eq_true rfl, Nat.le_of_ble_eq_true rfl⟩ ?_
          obtain ⟨rfl, rfl⟩ := gs2 hf
          exact g_iret C dX11_kernel_64 hr hlk
    · refine g_ldc C k80 dX11_kernel_18 ?_
      obtain ⟨rfl, rfl⟩ := gs2 hf
      exact g_iret C dX11_kernel_20 hr hlk
set_option maxRecDepth 100000 in
set_option maxHeartbeats 8000000 in
theorem m_X11_back (l : Launch) (X : gX) (N : Nat) (I : gI) (R : gR) (S : gS) (hL : gLay 0 91 R S) (a0 : Int32) (a1 : Int32) (a2 : Int32) (a3 : Int32) (a4 : Int32) (v : Int32) (J : gI) (hf : f_X11_back N I R S a0 a1 a2 a3 a4 = some (v, J)) : gM l yX11_back wsX11_back { frames := 6, cells := 0, slots := 0, locals := 151 } X gE0 [.ref (X.1 + 0), .int a0, .int a1, .int a2, .int a3, .int a4] I R S (some (.int v)) J R S 0 0 := by
  unfold f_X11_back at hf
  refine gM_of (cc := cX11_back) (own := RX11) (maxL := 10) (ret := (some .int)) (by decide) rfl rfl (Nat.le_of_ble_eq_true rfl) ?_
  intro p e s m args below meth c C hr hlk hnm hE
  have ho : (some (v, J)) ≠ none := fun h => by cases h
  have k80 := C.2.2.2.2.1 (.constant RX11 80 (-1000001)) (by decide +kernel)
  have f17 := C.2.2.2.2.1 (.fieldLink RX11 17 "TimesByPowers" "shelf" "[LTimesByPowers$World;") (by decide +kernel)
  have c10 : gCl wsX11_back 10 RX11 TX11 8 := ⟨by decide, rfl, rfl, by decide +kernel⟩
  have f64 := C.2.2.2.2.1 (.fieldLink RX11 64 "TimesByPowers" "sums" "LTimesByPowers$Sums;") (by decide +kernel)
  have f28 := C.2.2.2.2.1 (.fieldLink RX11 28 "TimesByPowers" "taken" "[I") (by decide +kernel)
  have f165 := C.2.2.2.2.1 (.fieldLink RX11 165 "TimesByPowers$Sums" "quotient" "[I") (by decide +kernel)
  have c8 : gCl wsX11_back 8 RX8 TX8 10 := ⟨by decide, rfl, rfl, by decide +kernel⟩
  have k132 := C.2.2.2.2.1 (.constant RX11 132 (-1000000)) (by decide +kernel)
  refine g_iload_n C dX11_back_0 rfl rfl ?_
  obtain ⟨z1, hz1, hf⟩ := gbind hf ho
  refine g_callS C dX11_back_1 (m_X11_isPlace l X N _ _ _  (gLay.sub hL (by decide) (by decide)) _ z1 hz1) gEin0 (va_cwS 1 C.2.2.2.2.1 gX11_back_X11_isPlace rfl rfl rfl (by decide +kernel) ⟨Nat.le_of_ble_eq_true rfl, Nat.le_of_ble_eq_true rfl⟩) rfl rfl (Nat.le_of_ble_eq_true rfl) ⟨Nat.le_of_ble_eq_true rfl, Nat.le_of_ble_eq_true rfl⟩ ?_
  refine g_if_eq (tgt := 33) C dX11_back_4 (by decide) hf (fun hf => ?_) (fun hf => ?_)
  · refine g_ldc C k80 dX11_back_33 ?_
    obtain ⟨rfl, rfl⟩ := gs2 hf
    exact g_iret C dX11_back_35 hr hlk
  · refine g_iload_n C dX11_back_7 rfl rfl ?_
    obtain ⟨z2, hz2, hf⟩ := gbind hf ho
    refine g_callS C dX11_back_8 (m_X11_isRow l X N _ _ _  (gLay.sub hL (by decide) (by decide)) _ z2 hz2) gEin0 (va_cwS 1 C.2.2.2.2.1 gX11_back_X11_isRow rfl rfl rfl (by decide +kernel) ⟨Nat.le_of_ble_eq_true rfl, Nat.le_of_ble_eq_true rfl⟩) rfl rfl (Nat.le_of_ble_eq_true rfl) ⟨Nat.le_of_ble_eq_true rfl, Nat.le_of_ble_eq_true rfl⟩ ?_
    refine g_if_eq (tgt := 33) C dX11_back_11 (by decide) hf (fun hf => ?_) (fun hf => ?_)
    · refine g_ldc C k80 dX11_back_33 ?_
      obtain ⟨rfl, rfl⟩ := gs2 hf
      exact g_iret C dX11_back_35 hr hlk
    · refine g_iload C dX11_back_14 rfl ?_
      refine g_iconst (v := 1) C dX11_back_16 (by decide) ?_
      refine g_icmp_lt (tgt := 33) C dX11_back_17 (by decide) hf (fun hf => ?_) (fun hf => ?_)
      · refine g_ldc C k80 dX11_back_33 ?_
        obtain ⟨rfl, rfl⟩ := gs2 hf
        exact g_iret C dX11_back_35 hr hlk
      · refine g_iload C dX11_back_20 rfl ?_
        refine g_iconst (v := 4) C dX11_back_22 (by decide) ?_
        refine g_icmp_gt (tgt := 33) C dX11_back_23 (by decide) hf (fun hf => ?_) (fun hf => ?_)
        · refine g_ldc C k80 dX11_back_33 ?_
          obtain ⟨rfl, rfl⟩ := gs2 hf
          exact g_iret C dX11_back_35 hr hlk
        · refine g_iload C dX11_back_26 rfl ?_
          refine g_bipush (v := -2) C dX11_back_28 (by decide) ?_
          refine g_icmp_ge (tgt := 36) C dX11_back_30 (by decide) hf (fun hf => ?_) (fun hf => ?_)
          · refine g_aload_n C dX11_back_36 rfl rfl ?_
            refine g_getR (i := 4) (j := 4) C dX11_back_37 (L0 hL (by decide) (by decide)) c10 rfl (by decide) f17 (fun _ h9 => h9) (LR0_4 hL (by decide) (by decide)) ?_
            refine g_iload_n C dX11_back_40 rfl rfl ?_
            refine g_aald 3 C dX11_back_41 (by decide) (L2 hL (by decide) (by decide)) rfl rfl ho hf (fun hf => ?_)
            refine g_split hf (fun hnw3 hf => ?_) (fun w3 hsw3 hf => ?_)
            · refine g_astoreN C dX11_back_42 (Nat.le_of_ble_eq_true rfl) rfl rfl ?_
              refine g_aload_n C dX11_back_44 rfl rfl ?_
              refine g_aloadN C dX11_back_45 rfl ?_
              refine g_iload_n C dX11_back_47 rfl rfl ?_
              refine g_iload_n C dX11_back_48 rfl rfl ?_
              refine g_iload C dX11_back_49 rfl ?_
              obtain ⟨z4, hz4, hf⟩ := gbind hf ho
              refine g_callV C dX11_back_51 (m_X11_takeMap l X N _ _ _  (gLay.sub hL (by decide) (by decide)) _ _ _ _ z4.1 z4.2 hz4) gEin0 (cwV 4 C.2.2.2.2.1 gX11_back_X11_takeMap rfl rfl rfl (by decide +kernel) ⟨Nat.le_of_ble_eq_true rfl, Nat.le_of_ble_eq_true rfl⟩) (L0 hL (by decide) (by decide)) (by decide) rfl rfl rfl (Nat.le_of_ble_eq_true rfl) ⟨Nat.le_of_ble_eq_true rfl, Nat.le_of_ble_eq_true rfl⟩ ?_
              refine g_istore C dX11_back_54 (Nat.le_of_ble_eq_true rfl) rfl rfl ?_
              refine g_iload C dX11_back_56 rfl ?_
              refine g_if_eq (tgt := 64) C dX11_back_58 (by decide) hf (fun hf => ?_) (fun hf => ?_)
              · refine g_aload_n C dX11_back_64 rfl rfl ?_
                refine g_getR (i := 1) (j := 1) C dX11_back_65 (L0 hL (by decide) (by decide)) c10 rfl (by decide) f64 (fun _ h9 => h9) (LR0_1 hL (by decide) (by decide)) ?_
                refine g_aloadN C dX11_back_68 rfl ?_
                refine g_aload_n C dX11_back_70 rfl rfl ?_
                refine g_getR (i := 6) (j := 6) C dX11_back_71 (L0 hL (by decide) (by decide)) c10 rfl (by decide) f28 (fun _ h9 => h9) (LR0_6 hL (by decide) (by decide)) ?_
                refine g_iload C dX11_back_74 rfl ?_
                exact absurd hf.symm ho
              · refine g_iload C dX11_back_61 rfl ?_
                obtain ⟨rfl, rfl⟩ := gs2 hf
                exact g_iret C dX11_back_63 hr hlk
            · obtain ⟨hww3, hf⟩ := gcase hf ho
              refine g_astore C dX11_back_42 (Nat.le_of_ble_eq_true rfl) rfl rfl ?_
              refine g_aload_n C dX11_back_44 rfl rfl ?_
              refine g_aload C dX11_back_45 rfl ?_
              refine g_iload_n C dX11_back_47 rfl rfl ?_
              refine g_iload_n C dX11_back_48 rfl rfl ?_
              refine g_iload C dX11_back_49 rfl ?_
              obtain ⟨z6, hz6, hf⟩ := gbind hf ho
              refine g_callV C dX11_back_51 (m_X11_takeMap l X N _ _ _  (gLay.sub hL (by decide) (by decide)) _ _ _ _ z6.1 z6.2 hz6) gEin0 (cwV 4 C.2.2.2.2.1 gX11_back_X11_takeMap rfl rfl rfl (by decide +kernel) ⟨Nat.le_of_ble_eq_true rfl, Nat.le_of_ble_eq_true rfl⟩) (L0 hL (by decide) (by decide)) (by decide) rfl rfl rfl (Nat.le_of_ble_eq_true rfl) ⟨Nat.le_of_ble_eq_true rfl, Nat.le_of_ble_eq_true rfl⟩ ?_
              refine g_istore C dX11_back_54 (Nat.le_of_ble_eq_true rfl) rfl rfl ?_
              refine g_iload C dX11_back_56 rfl ?_
              refine g_if_eq (tgt := 64) C dX11_back_58 (by decide) hf (fun hf => ?_) (fun hf => ?_)
              · refine g_aload_n C dX11_back_64 rfl rfl ?_
                refine g_getR (i := 1) (j := 1) C dX11_back_65 (L0 hL (by decide) (by decide)) c10 rfl (by decide) f64 (fun _ h9 => h9) (LR0_1 hL (by decide) (by decide)) ?_
                refine g_aload C dX11_back_68 rfl ?_
                refine g_aload_n C dX11_back_70 rfl rfl ?_
                refine g_getR (i := 6) (j := 6) C dX11_back_71 (L0 hL (by decide) (by decide)) c10 rfl (by decide) f28 (fun _ h9 => h9) (LR0_6 hL (by decide) (by decide)) ?_
                refine g_iload C dX11_back_74 rfl ?_
                obtain ⟨z7, hz7, hf⟩ := gbind hf ho
                refine g_callV C dX11_back_76 (m_X8_wayBack l X N _ _ _  (gLay.sub hL (by decide) (by decide)) _ _ _ z7.1 z7.2 hz7) gEin0 (cwV 3 C.2.2.2.2.1 gX11_back_X8_wayBack rfl rfl rfl (by decide +kernel) ⟨Nat.le_of_ble_eq_true rfl, Nat.le_of_ble_eq_true rfl⟩) (L37 hL (by decide) (by decide)) (by decide) rfl rfl rfl (Nat.le_of_ble_eq_true rfl) ⟨Nat.le_of_ble_eq_true rfl, Nat.le_of_ble_eq_true rfl⟩ ?_
                refine g_istore C dX11_back_79 (Nat.le_of_ble_eq_true rfl) rfl rfl ?_
                refine g_iload C dX11_back_81 rfl ?_
                refine g_if_ne (tgt := 93) C dX11_back_83 (by decide) hf (fun hf => ?_) (fun hf => ?_)
                · refine g_iload C dX11_back_93 rfl ?_
                  refine g_bipush (v := -2) C dX11_back_95 (by decide) ?_
                  refine g_icmp_ne (tgt := 107) C dX11_back_97 (by decide) hf (fun hf => ?_) (fun hf => ?_)
                  · refine g_aload_n C dX11_back_107 rfl rfl ?_
                    refine g_getR (i := 1) (j := 1) C dX11_back_108 (L0 hL (by decide) (by decide)) c10 rfl (by decide) f64 (fun _ h9 => h9) (LR0_1 hL (by decide) (by decide)) ?_
                    refine g_aload C dX11_back_111 rfl ?_
                    refine g_iload C dX11_back_113 rfl ?_
                    obtain ⟨z8, hz8, hf⟩ := gbind hf ho
                    refine g_callV C dX11_back_115 (m_X8_lengthOf l X N _ _ _  (gLay.sub hL (by decide) (by decide)) _ _ z8 hz8) gEin0 (cwV 2 C.2.2.2.2.1 gX11_back_X8_lengthOf rfl rfl rfl (by decide +kernel) ⟨Nat.le_of_ble_eq_true rfl, Nat.le_of_ble_eq_true rfl⟩) (L37 hL (by decide) (by decide)) (by decide) rfl rfl rfl (Nat.le_of_ble_eq_true rfl) ⟨Nat.le_of_ble_eq_true rfl, Nat.le_of_ble_eq_true rfl⟩ ?_
                    refine g_iload C dX11_back_118 rfl ?_
                    refine g_isub C dX11_back_120 ?_
                    refine g_istore C dX11_back_121 (Nat.le_of_ble_eq_true rfl) rfl rfl ?_
                    refine g_iload C dX11_back_123 rfl ?_
                    refine g_iconst (v := -1) C dX11_back_125 (by decide) ?_
                    refine g_icmp_ne (tgt := 136) C dX11_back_126 (by decide) hf (fun hf => ?_) (fun hf => ?_)
                    · refine g_aload_n C dX11_back_136 rfl rfl ?_
                      refine g_iload C dX11_back_137 rfl ?_
                      refine g_iload C dX11_back_139 rfl ?_
                      refine g_join (fun z9 => []) (fun z9 => [.int z9, .ref (X.1 + 0)]) (fun z9 => z7.2) 158 hf ho (fun z9 hf => ?_) (fun o1 hf ho hkz9 => ?_)
                      · obtain ⟨z10, hz10, hf⟩ := gbind hf ho
                        refine g_callV C dX11_back_158 (m_X11_fine l X N _ _ _  (gLay.sub hL (by decide) (by decide)) _ z10.1 z10.2 hz10) gEin0 (cwV 1 C.2.2.2.2.1 gX11_back_X11_fine rfl rfl rfl (by decide +kernel) ⟨Nat.le_of_ble_eq_true rfl, Nat.le_of_ble_eq_true rfl⟩) (L0 hL (by decide) (by decide)) (by decide) rfl rfl rfl (Nat.le_of_ble_eq_true rfl) ⟨Nat.le_of_ble_eq_true rfl, Nat.le_of_ble_eq_true rfl⟩ ?_
                        obtain ⟨rfl, rfl⟩ := gs2 hf
                        exact g_iret C dX11_back_161 hr hlk
                      · refine g_icmp_le (tgt := 148) C dX11_back_141 (by decide) hf (fun hf => ?_) (fun hf => ?_)
                        · refine g_aload_n C dX11_back_148 rfl rfl ?_
                          refine g_getR (i := 1) (j := 1) C dX11_back_149 (L0 hL (by decide) (by decide)) c10 rfl (by decide) f64 (fun _ h9 => h9) (LR0_1 hL (by decide) (by decide)) ?_
                          refine g_getR (i := 9) (j := 9) C dX11_back_152 (L37 hL (by decide) (by decide)) c8 rfl (by decide) f165 (fun _ h9 => h9) (LR37_9 hL (by decide) (by decide)) ?_
                          refine g_iload C dX11_back_155 rfl ?_
                          refine g_iald C dX11_back_157 (L55 hL (by decide) (by decide)) ho hf (fun hf => ?_)
                          have hx := hkz9 _ hf.symm
                          refine g_sub ?_ hx
                          exact trivial
                        · refine g_iconst (v := 0) C dX11_back_144 (by decide) ?_
                          refine g_goto (tgt := 158) C dX11_back_145 (by decide) ?_
                          have hx := hkz9 _ hf.symm
                          refine g_sub ?_ hx
                          exact trivial
                    · refine g_aload_n C dX11_back_129 rfl rfl ?_
                      refine g_iload C dX11_back_130 rfl ?_
                      obtain ⟨z11, hz11, hf⟩ := gbind hf ho
                      refine g_callV C dX11_back_132 (m_X11_fine l X N _ _ _  (gLay.sub hL (by decide) (by decide)) _ z11.1 z11.2 hz11) gEin0 (cwV 1 C.2.2.2.2.1 gX11_back_X11_fine rfl rfl rfl (by decide +kernel) ⟨Nat.le_of_ble_eq_true rfl, Nat.le_of_ble_eq_true rfl⟩) (L0 hL (by decide) (by decide)) (by decide) rfl rfl rfl (Nat.le_of_ble_eq_true rfl) ⟨Nat.le_of_ble_eq_true rfl, Nat.le_of_ble_eq_true rfl⟩ ?_
                      obtain ⟨rfl, rfl⟩ := gs2 hf
                      exact g_iret C dX11_back_135 hr hlk
                  · refine g_aload_n C dX11_back_100 rfl rfl ?_
                    refine g_iload C dX11_back_101 rfl ?_
                    obtain ⟨z12, hz12, hf⟩ := gbind hf ho
                    refine g_callV C dX11_back_103 (m_X11_fine l X N _ _ _  (gLay.sub hL (by decide) (by decide)) _ z12.1 z12.2 hz12) gEin0 (cwV 1 C.2.2.2.2.1 gX11_back_X11_fine rfl rfl rfl (by decide +kernel) ⟨Nat.le_of_ble_eq_true rfl, Nat.le_of_ble_eq_true rfl⟩) (L0 hL (by decide) (by decide)) (by decide) rfl rfl rfl (Nat.le_of_ble_eq_true rfl) ⟨Nat.le_of_ble_eq_true rfl, Nat.le_of_ble_eq_true rfl⟩ ?_
                    obtain ⟨rfl, rfl⟩ := gs2 hf
                    exact g_iret C dX11_back_106 hr hlk
                · refine g_aload_n C dX11_back_86 rfl rfl ?_
                  refine g_ldc C k132 dX11_back_87 ?_
                  obtain ⟨z13, hz13, hf⟩ := gbind hf ho
                  refine g_callV C dX11_back_89 (m_X11_fine l X N _ _ _  (gLay.sub hL (by decide) (by decide)) _ z13.1 z13.2 hz13) gEin0 (cwV 1 C.2.2.2.2.1 gX11_back_X11_fine rfl rfl rfl (by decide +kernel) ⟨Nat.le_of_ble_eq_true rfl, Nat.le_of_ble_eq_true rfl⟩) (L0 hL (by decide) (by decide)) (by decide) rfl rfl rfl (Nat.le_of_ble_eq_true rfl) ⟨Nat.le_of_ble_eq_true rfl, Nat.le_of_ble_eq_true rfl⟩ ?_
                  obtain ⟨rfl, rfl⟩ := gs2 hf
                  exact g_iret C dX11_back_92 hr hlk
              · refine g_iload C dX11_back_61 rfl ?_
                obtain ⟨rfl, rfl⟩ := gs2 hf
                exact g_iret C dX11_back_63 hr hlk
          · refine g_ldc C k80 dX11_back_33 ?_
            obtain ⟨rfl, rfl⟩ := gs2 hf
            exact g_iret C dX11_back_35 hr hlk

