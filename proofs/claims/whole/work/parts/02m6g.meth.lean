set_option maxRecDepth 100000 in
set_option maxHeartbeats 8000000 in
theorem m_X11_alike (l : Launch) (X : gX) (N : Nat) (I : gI) (R : gR) (S : gS) (hL : gLay 0 91 R S) (a0 : Int32) (a1 : Int32) (v : Int32) (J : gI) (hf : f_X11_alike N I R S a0 a1 = some (v, J)) : gM l yX11_alike wsX11_alike { frames := 4, cells := 0, slots := 0, locals := 100 } X gE0 [.ref (X.1 + 0), .int a0, .int a1] I R S (some (.int v)) J R S 0 0 := by
  unfold f_X11_alike at hf
  refine gM_of (cc := cX11_alike) (own := RX11) (maxL := 5) (ret := (some .int)) (by decide) rfl rfl (Nat.le_of_ble_eq_true rfl) ?_
  intro p e s m args below meth c C hr hlk hnm hE
  have ho : (some (v, J)) ≠ none := fun h => by cases h
  have k80 := C.2.2.2.2.1 (.constant RX11 80 (-1000001)) (by decide +kernel)
  have f17 := C.2.2.2.2.1 (.fieldLink RX11 17 "TimesByPowers" "shelf" "[LTimesByPowers$World;") (by decide +kernel)
  have c10 : gCl wsX11_alike 10 RX11 TX11 8 := ⟨by decide, rfl, rfl, by decide +kernel⟩
  have f64 := C.2.2.2.2.1 (.fieldLink RX11 64 "TimesByPowers" "sums" "LTimesByPowers$Sums;") (by decide +kernel)
  refine g_iload_n C dX11_alike_0 rfl rfl ?_
  obtain ⟨z1, hz1, hf⟩ := gbind hf ho
  refine g_callS C dX11_alike_1 (m_X11_isPlace l X N _ _ _  (gLay.sub hL (by decide) (by decide)) _ z1 hz1) gEin0 (va_cwS 1 C.2.2.2.2.1 gX11_alike_X11_isPlace rfl rfl rfl (by decide +kernel) ⟨Nat.le_of_ble_eq_true rfl, Nat.le_of_ble_eq_true rfl⟩) rfl rfl (Nat.le_of_ble_eq_true rfl) ⟨Nat.le_of_ble_eq_true rfl, Nat.le_of_ble_eq_true rfl⟩ ?_
  refine g_if_eq (tgt := 14) C dX11_alike_4 (by decide) hf (fun hf => ?_) (fun hf => ?_)
  · refine g_ldc C k80 dX11_alike_14 ?_
    obtain ⟨rfl, rfl⟩ := gs2 hf
    exact g_iret C dX11_alike_16 hr hlk
  · refine g_iload_n C dX11_alike_7 rfl rfl ?_
    obtain ⟨z2, hz2, hf⟩ := gbind hf ho
    refine g_callS C dX11_alike_8 (m_X11_isPlace l X N _ _ _  (gLay.sub hL (by decide) (by decide)) _ z2 hz2) gEin0 (va_cwS 1 C.2.2.2.2.1 gX11_alike_X11_isPlace rfl rfl rfl (by decide +kernel) ⟨Nat.le_of_ble_eq_true rfl, Nat.le_of_ble_eq_true rfl⟩) rfl rfl (Nat.le_of_ble_eq_true rfl) ⟨Nat.le_of_ble_eq_true rfl, Nat.le_of_ble_eq_true rfl⟩ ?_
    refine g_if_ne (tgt := 17) C dX11_alike_11 (by decide) hf (fun hf => ?_) (fun hf => ?_)
    · refine g_aload_n C dX11_alike_17 rfl rfl ?_
      refine g_getR (i := 4) (j := 4) C dX11_alike_18 (L0 hL (by decide) (by decide)) c10 rfl (by decide) f17 (fun _ h9 => h9) (LR0_4 hL (by decide) (by decide)) ?_
      refine g_iload_n C dX11_alike_21 rfl rfl ?_
      refine g_aald 3 C dX11_alike_22 (by decide) (L2 hL (by decide) (by decide)) rfl rfl ho hf (fun hf => ?_)
      refine g_split hf (fun hnw3 hf => ?_) (fun w3 hsw3 hf => ?_)
      · refine g_astore_nN C dX11_alike_23 rfl (Nat.le_of_ble_eq_true rfl) rfl rfl ?_
        refine g_aload_n C dX11_alike_24 rfl rfl ?_
        refine g_getR (i := 4) (j := 4) C dX11_alike_25 (L0 hL (by decide) (by decide)) c10 rfl (by decide) f17 (fun _ h9 => h9) (LR0_4 hL (by decide) (by decide)) ?_
        refine g_iload_n C dX11_alike_28 rfl rfl ?_
        refine g_aald 3 C dX11_alike_29 (by decide) (L2 hL (by decide) (by decide)) rfl rfl ho hf (fun hf => ?_)
        refine g_split hf (fun hnw4 hf => ?_) (fun w4 hsw4 hf => ?_)
        · refine g_astoreN C dX11_alike_30 (Nat.le_of_ble_eq_true rfl) rfl rfl ?_
          refine g_aload_nN C dX11_alike_32 rfl rfl ?_
          refine g_ifnullN (tgt := 41) C dX11_alike_33 (by decide) ?_
          refine g_aload_n C dX11_alike_41 rfl rfl ?_
          refine g_iconst (v := 1) C dX11_alike_42 (by decide) ?_
          obtain ⟨z5, hz5, hf⟩ := gbind hf ho
          refine g_callV C dX11_alike_43 (m_X11_found l X N _ _ _  (gLay.sub hL (by decide) (by decide)) _ z5.1 z5.2 hz5) gEin0 (cwV 1 C.2.2.2.2.1 gX11_alike_X11_found rfl rfl rfl (by decide +kernel) ⟨Nat.le_of_ble_eq_true rfl, Nat.le_of_ble_eq_true rfl⟩) (L0 hL (by decide) (by decide)) (by decide) rfl rfl rfl (Nat.le_of_ble_eq_true rfl) ⟨Nat.le_of_ble_eq_true rfl, Nat.le_of_ble_eq_true rfl⟩ ?_
          obtain ⟨rfl, rfl⟩ := gs2 hf
          exact g_iret C dX11_alike_46 hr hlk
        · obtain ⟨hww4, hf⟩ := gcase hf ho
          refine g_astore C dX11_alike_30 (Nat.le_of_ble_eq_true rfl) rfl rfl ?_
          refine g_aload_nN C dX11_alike_32 rfl rfl ?_
          refine g_ifnullN (tgt := 41) C dX11_alike_33 (by decide) ?_
          refine g_aload_n C dX11_alike_41 rfl rfl ?_
          refine g_iconst (v := 1) C dX11_alike_42 (by decide) ?_
          obtain ⟨z6, hz6, hf⟩ := gbind hf ho
          refine g_callV C dX11_alike_43 (m_X11_found l X N _ _ _  (gLay.sub hL (by decide) (by decide)) _ z6.1 z6.2 hz6) gEin0 (cwV 1 C.2.2.2.2.1 gX11_alike_X11_found rfl rfl rfl (by decide +kernel) ⟨Nat.le_of_ble_eq_true rfl, Nat.le_of_ble_eq_true rfl⟩) (L0 hL (by decide) (by decide)) (by decide) rfl rfl rfl (Nat.le_of_ble_eq_true rfl) ⟨Nat.le_of_ble_eq_true rfl, Nat.le_of_ble_eq_true rfl⟩ ?_
          obtain ⟨rfl, rfl⟩ := gs2 hf
          exact g_iret C dX11_alike_46 hr hlk
      · obtain ⟨hww3, hf⟩ := gcase hf ho
        refine g_astore_n C dX11_alike_23 rfl (Nat.le_of_ble_eq_true rfl) rfl rfl ?_
        refine g_aload_n C dX11_alike_24 rfl rfl ?_
        refine g_getR (i := 4) (j := 4) C dX11_alike_25 (L0 hL (by decide) (by decide)) c10 rfl (by decide) f17 (fun _ h9 => h9) (LR0_4 hL (by decide) (by decide)) ?_
        refine g_iload_n C dX11_alike_28 rfl rfl ?_
        refine g_aald 3 C dX11_alike_29 (by decide) (L2 hL (by decide) (by decide)) rfl rfl ho hf (fun hf => ?_)
        refine g_split hf (fun hnw7 hf => ?_) (fun w7 hsw7 hf => ?_)
        · refine g_astoreN C dX11_alike_30 (Nat.le_of_ble_eq_true rfl) rfl rfl ?_
          refine g_aload_n C dX11_alike_32 rfl rfl ?_
          refine g_ifnull C dX11_alike_33 ?_
          refine g_aloadN C dX11_alike_36 rfl ?_
          refine g_ifnonnullN C dX11_alike_38 ?_
          refine g_aload_n C dX11_alike_41 rfl rfl ?_
          refine g_iconst (v := 1) C dX11_alike_42 (by decide) ?_
          obtain ⟨z8, hz8, hf⟩ := gbind hf ho
          refine g_callV C dX11_alike_43 (m_X11_found l X N _ _ _  (gLay.sub hL (by decide) (by decide)) _ z8.1 z8.2 hz8) gEin0 (cwV 1 C.2.2.2.2.1 gX11_alike_X11_found rfl rfl rfl (by decide +kernel) ⟨Nat.le_of_ble_eq_true rfl, Nat.le_of_ble_eq_true rfl⟩) (L0 hL (by decide) (by decide)) (by decide) rfl rfl rfl (Nat.le_of_ble_eq_true rfl) ⟨Nat.le_of_ble_eq_true rfl, Nat.le_of_ble_eq_true rfl⟩ ?_
          obtain ⟨rfl, rfl⟩ := gs2 hf
          exact g_iret C dX11_alike_46 hr hlk
        · obtain ⟨hww7, hf⟩ := gcase hf ho
          refine g_astore C dX11_alike_30 (Nat.le_of_ble_eq_true rfl) rfl rfl ?_
          refine g_aload_n C dX11_alike_32 rfl rfl ?_
          refine g_ifnull C dX11_alike_33 ?_
          refine g_aload C dX11_alike_36 rfl ?_
          refine g_ifnonnull (tgt := 47) C dX11_alike_38 (by decide) ?_
          refine g_aload_n C dX11_alike_47 rfl rfl ?_
          refine g_aload_n C dX11_alike_48 rfl rfl ?_
          refine g_getR (i := 1) (j := 1) C dX11_alike_49 (L0 hL (by decide) (by decide)) c10 rfl (by decide) f64 (fun _ h9 => h9) (LR0_1 hL (by decide) (by decide)) ?_
          refine g_aload_n C dX11_alike_52 rfl rfl ?_
          refine g_aload C dX11_alike_53 rfl ?_
          obtain ⟨z9, hz9, hf⟩ := gbind hf ho
          refine g_callV C dX11_alike_55 (m_X8_turnsFromTo l X N _ _ _  (gLay.sub hL (by decide) (by decide)) _ _ z9.1 z9.2 hz9) gEin0 (cwV 2 C.2.2.2.2.1 gX11_alike_X8_turnsFromTo rfl rfl rfl (by decide +kernel) ⟨Nat.le_of_ble_eq_true rfl, Nat.le_of_ble_eq_true rfl⟩) (L37 hL (by decide) (by decide)) (by decide) rfl rfl rfl (Nat.le_of_ble_eq_true rfl) ⟨Nat.le_of_ble_eq_true rfl, Nat.le_of_ble_eq_true rfl⟩ ?_
          refine g_join (fun z10 => []) (fun z10 => [.int z10, .ref (X.1 + 0)]) (fun z10 => z9.2) 66 hf ho (fun z10 hf => ?_) (fun o1 hf ho hkz10 => ?_)
          · obtain ⟨z11, hz11, hf⟩ := gbind hf ho
            refine g_callV C dX11_alike_66 (m_X11_fine l X N _ _ _  (gLay.sub hL (by decide) (by decide)) _ z11.1 z11.2 hz11) gEin0 (cwV 1 C.2.2.2.2.1 gX11_alike_X11_fine rfl rfl rfl (by decide +kernel) ⟨Nat.le_of_ble_eq_true rfl, Nat.le_of_ble_eq_true rfl⟩) (L0 hL (by decide) (by decide)) (by decide) rfl rfl rfl (Nat.le_of_ble_eq_true rfl) ⟨Nat.le_of_ble_eq_true rfl, Nat.le_of_ble_eq_true rfl⟩ ?_
            obtain ⟨rfl, rfl⟩ := gs2 hf
            exact g_iret C dX11_alike_69 hr hlk
          · refine g_if_le (tgt := 65) C dX11_alike_58 (by decide) hf (fun hf => ?_) (fun hf => ?_)
            · refine g_iconst (v := 0) C dX11_alike_65 (by decide) ?_
              have hx := hkz10 _ hf.symm
              refine g_sub ?_ hx
              exact trivial
            · refine g_iconst (v := 1) C dX11_alike_61 (by decide) ?_
              refine g_goto (tgt := 66) C dX11_alike_62 (by decide) ?_
              have hx := hkz10 _ hf.symm
              refine g_sub ?_ hx
              exact trivial
    · refine g_ldc C k80 dX11_alike_14 ?_
      obtain ⟨rfl, rfl⟩ := gs2 hf
      exact g_iret C dX11_alike_16 hr hlk
set_option maxRecDepth 100000 in
set_option maxHeartbeats 8000000 in
theorem m_X11_stays (l : Launch) (X : gX) (N : Nat) (I : gI) (R : gR) (S : gS) (hL : gLay 0 91 R S) (a0 : Int32) (v : Int32) (J : gI) (hf : f_X11_stays N I R S a0 = some (v, J)) : gM l yX11_stays wsX11_stays { frames := 4, cells := 0, slots := 0, locals := 100 } X gE0 [.ref (X.1 + 0), .int a0] I R S (some (.int v)) J R S 0 0 := by
  unfold f_X11_stays at hf
  refine gM_of (cc := cX11_stays) (own := RX11) (maxL := 3) (ret := (some .int)) (by decide) rfl rfl (Nat.le_of_ble_eq_true rfl) ?_
  intro p e s m args below meth c C hr hlk hnm hE
  have ho : (some (v, J)) ≠ none := fun h => by cases h
  have f17 := C.2.2.2.2.1 (.fieldLink RX11 17 "TimesByPowers" "shelf" "[LTimesByPowers$World;") (by decide +kernel)
  have c10 : gCl wsX11_stays 10 RX11 TX11 8 := ⟨by decide, rfl, rfl, by decide +kernel⟩
  have f64 := C.2.2.2.2.1 (.fieldLink RX11 64 "TimesByPowers" "sums" "LTimesByPowers$Sums;") (by decide +kernel)
  have k80 := C.2.2.2.2.1 (.constant RX11 80 (-1000001)) (by decide +kernel)
  refine g_iload_n C dX11_stays_0 rfl rfl ?_
  obtain ⟨z1, hz1, hf⟩ := gbind hf ho
  refine g_callS C dX11_stays_1 (m_X11_isPlace l X N _ _ _  (gLay.sub hL (by decide) (by decide)) _ z1 hz1) gEin0 (va_cwS 1 C.2.2.2.2.1 gX11_stays_X11_isPlace rfl rfl rfl (by decide +kernel) ⟨Nat.le_of_ble_eq_true rfl, Nat.le_of_ble_eq_true rfl⟩) rfl rfl (Nat.le_of_ble_eq_true rfl) ⟨Nat.le_of_ble_eq_true rfl, Nat.le_of_ble_eq_true rfl⟩ ?_
  refine g_if_ne (tgt := 10) C dX11_stays_4 (by decide) hf (fun hf => ?_) (fun hf => ?_)
  · refine g_aload_n C dX11_stays_10 rfl rfl ?_
    refine g_getR (i := 4) (j := 4) C dX11_stays_11 (L0 hL (by decide) (by decide)) c10 rfl (by decide) f17 (fun _ h9 => h9) (LR0_4 hL (by decide) (by decide)) ?_
    refine g_iload_n C dX11_stays_14 rfl rfl ?_
    refine g_aald 3 C dX11_stays_15 (by decide) (L2 hL (by decide) (by decide)) rfl rfl ho hf (fun hf => ?_)
    refine g_split hf (fun hnw2 hf => ?_) (fun w2 hsw2 hf => ?_)
    · refine g_astore_nN C dX11_stays_16 rfl (Nat.le_of_ble_eq_true rfl) rfl rfl ?_
      refine g_aload_nN C dX11_stays_17 rfl rfl ?_
      refine g_ifnonnullN C dX11_stays_18 ?_
      refine g_aload_n C dX11_stays_21 rfl rfl ?_
      refine g_iconst (v := 1) C dX11_stays_22 (by decide) ?_
      obtain ⟨z3, hz3, hf⟩ := gbind hf ho
      refine g_callV C dX11_stays_23 (m_X11_found l X N _ _ _  (gLay.sub hL (by decide) (by decide)) _ z3.1 z3.2 hz3) gEin0 (cwV 1 C.2.2.2.2.1 gX11_stays_X11_found rfl rfl rfl (by decide +kernel) ⟨Nat.le_of_ble_eq_true rfl, Nat.le_of_ble_eq_true rfl⟩) (L0 hL (by decide) (by decide)) (by decide) rfl rfl rfl (Nat.le_of_ble_eq_true rfl) ⟨Nat.le_of_ble_eq_true rfl, Nat.le_of_ble_eq_true rfl⟩ ?_
      refine g_goto (tgt := 42) C dX11_stays_26 (by decide) ?_
      obtain ⟨rfl, rfl⟩ := gs2 hf
      exact g_iret C dX11_stays_42 hr hlk
    · obtain ⟨hww2, hf⟩ := gcase hf ho
      refine g_astore_n C dX11_stays_16 rfl (Nat.le_of_ble_eq_true rfl) rfl rfl ?_
      refine g_aload_n C dX11_stays_17 rfl rfl ?_
      refine g_ifnonnull (tgt := 29) C dX11_stays_18 (by decide) ?_
      refine g_aload_n C dX11_stays_29 rfl rfl ?_
      refine g_aload_n C dX11_stays_30 rfl rfl ?_
      refine g_getR (i := 1) (j := 1) C dX11_stays_31 (L0 hL (by decide) (by decide)) c10 rfl (by decide) f64 (fun _ h9 => h9) (LR0_1 hL (by decide) (by decide)) ?_
      refine g_aload_n C dX11_stays_34 rfl rfl ?_
      refine g_aload_n C dX11_stays_35 rfl rfl ?_
      obtain ⟨z4, hz4, hf⟩ := gbind hf ho
      refine g_callV C dX11_stays_36 (m_X8_turnsFromTo l X N _ _ _  (gLay.sub hL (by decide) (by decide)) _ _ z4.1 z4.2 hz4) gEin0 (cwV 2 C.2.2.2.2.1 gX11_stays_X8_turnsFromTo rfl rfl rfl (by decide +kernel) ⟨Nat.le_of_ble_eq_true rfl, Nat.le_of_ble_eq_true rfl⟩) (L37 hL (by decide) (by decide)) (by decide) rfl rfl rfl (Nat.le_of_ble_eq_true rfl) ⟨Nat.le_of_ble_eq_true rfl, Nat.le_of_ble_eq_true rfl⟩ ?_
      obtain ⟨z5, hz5, hf⟩ := gbind hf ho
      refine g_callV C dX11_stays_39 (m_X11_fine l X N _ _ _  (gLay.sub hL (by decide) (by decide)) _ z5.1 z5.2 hz5) gEin0 (cwV 1 C.2.2.2.2.1 gX11_stays_X11_fine rfl rfl rfl (by decide +kernel) ⟨Nat.le_of_ble_eq_true rfl, Nat.le_of_ble_eq_true rfl⟩) (L0 hL (by decide) (by decide)) (by decide) rfl rfl rfl (Nat.le_of_ble_eq_true rfl) ⟨Nat.le_of_ble_eq_true rfl, Nat.le_of_ble_eq_true rfl⟩ ?_
      obtain ⟨rfl, rfl⟩ := gs2 hf
      exact g_iret C dX11_stays_42 hr hlk
  · refine g_ldc C k80 dX11_stays_7 ?_
    obtain ⟨rfl, rfl⟩ := gs2 hf
    exact g_iret C dX11_stays_9 hr hlk
set_option maxRecDepth 100000 in
set_option maxHeartbeats 8000000 in
theorem m_X11_kind (l : Launch) (X : gX) (N : Nat) (I : gI) (R : gR) (S : gS) (hL : gLay 0 91 R S) (a0 : Int32) (v : Int32) (J : gI) (hf : f_X11_kind N I R S a0 = some (v, J)) : gM l yX11_kind wsX11_kind { frames := 1, cells := 0, slots := 0, locals := 21 } X gEN [.ref (X.1 + 0), .int a0] I R S (some (.int v)) J R S 0 0 := by
  unfold f_X11_kind at hf
  refine gM_of (cc := cX11_kind) (own := RX11) (maxL := 3) (ret := (some .int)) (by decide) rfl rfl (Nat.le_of_ble_eq_true rfl) ?_
  intro p e s m args below meth c C hr hlk hnm hE
  have ho : (some (v, J)) ≠ none := fun h => by cases h
  have f17 := C.2.2.2.2.1 (.fieldLink RX11 17 "TimesByPowers" "shelf" "[LTimesByPowers$World;") (by decide +kernel)
  have c10 : gCl wsX11_kind 10 RX11 TX11 8 := ⟨by decide, rfl, rfl, by decide +kernel⟩
  have k80 := C.2.2.2.2.1 (.constant RX11 80 (-1000001)) (by decide +kernel)
  refine g_iload_n C dX11_kind_0 rfl rfl ?_
  obtain ⟨z1, hz1, hf⟩ := gbind hf ho
  refine g_callS C dX11_kind_1 (m_X11_isPlace l X N _ _ _  (gLay.sub hL (by decide) (by decide)) _ z1 hz1) gEin0 (va_cwS 1 C.2.2.2.2.1 gX11_kind_X11_isPlace rfl rfl rfl (by decide +kernel) ⟨Nat.le_of_ble_eq_true rfl, Nat.le_of_ble_eq_true rfl⟩) rfl rfl (Nat.le_of_ble_eq_true rfl) ⟨Nat.le_of_ble_eq_true rfl, Nat.le_of_ble_eq_true rfl⟩ ?_
  refine g_if_ne (tgt := 10) C dX11_kind_4 (by decide) hf (fun hf => ?_) (fun hf => ?_)
  · refine g_aload_n C dX11_kind_10 rfl rfl ?_
    refine g_getR (i := 4) (j := 4) C dX11_kind_11 (L0 hL (by decide) (by decide)) c10 rfl (by decide) f17 (fun _ h9 => h9) (LR0_4 hL (by decide) (by decide)) ?_
    refine g_iload_n C dX11_kind_14 rfl rfl ?_
    refine g_aald 3 C dX11_kind_15 (by decide) (L2 hL (by decide) (by decide)) rfl rfl ho hf (fun hf => ?_)
    refine g_split hf (fun hnw2 hf => ?_) (fun w2 hsw2 hf => ?_)
    · refine g_astore_nN C dX11_kind_16 rfl (Nat.le_of_ble_eq_true rfl) rfl rfl ?_
      refine g_aload_nN C dX11_kind_17 rfl rfl ?_
      refine g_ifnonnullN C dX11_kind_18 ?_
      refine g_aload_n C dX11_kind_21 rfl rfl ?_
      refine g_iconst (v := 1) C dX11_kind_22 (by decide) ?_
      obtain ⟨z3, hz3, hf⟩ := gbind hf ho
      refine g_callV C dX11_kind_23 (m_X11_found l X N _ _ _  (gLay.sub hL (by decide) (by decide)) _ z3.1 z3.2 hz3) gEin0 (cwV 1 C.2.2.2.2.1 gX11_kind_X11_found rfl rfl rfl (by decide +kernel) ⟨Nat.le_of_ble_eq_true rfl, Nat.le_of_ble_eq_true rfl⟩) (L0 hL (by decide) (by decide)) (by decide) rfl rfl rfl (Nat.le_of_ble_eq_true rfl) ⟨Nat.le_of_ble_eq_true rfl, Nat.le_of_ble_eq_true rfl⟩ ?_
      refine g_goto (tgt := 37) C dX11_kind_26 (by decide) ?_
      obtain ⟨rfl, rfl⟩ := gs2 hf
      exact g_iret C dX11_kind_37 hr hlk
    · obtain ⟨hww2, hf⟩ := gcase hf ho
      refine g_astore_n C dX11_kind_16 rfl (Nat.le_of_ble_eq_true rfl) rfl rfl ?_
      refine g_aload_n C dX11_kind_17 rfl rfl ?_
      refine g_ifnonnull (tgt := 29) C dX11_kind_18 (by decide) ?_
      refine g_aload_n C dX11_kind_29 rfl rfl ?_
      refine g_aload_n C dX11_kind_30 rfl rfl ?_
      rcases gKb_k (gW_kb hww2) with hk4 | hk4 | hk4 | hk4
      · rw [if_pos (gK_of hk4)] at hf
        obtain ⟨z5, hz5, hf⟩ := gbind hf ho
        refine g_callU (k := 1) C dX11_kind_31 (m_X1_kindTold l X N _ _ _   _ z5 hz5) gEin0 (va_cwA 0 C.2.2.2.2.1 gX11_kind_X1_kindTold_u213X1 rfl rfl rfl hE.1 (by decide +kernel) ⟨Nat.le_of_ble_eq_true rfl, Nat.le_of_ble_eq_true rfl⟩) hk4 (by decide) rfl rfl rfl (Nat.le_of_ble_eq_true rfl) ⟨Nat.le_of_ble_eq_true rfl, Nat.le_of_ble_eq_true rfl⟩ ?_
        obtain ⟨z6, hz6, hf⟩ := gbind hf ho
        refine g_callV C dX11_kind_34 (m_X11_fine l X N _ _ _  (gLay.sub hL (by decide) (by decide)) _ z6.1 z6.2 hz6) gEin0 (cwV 1 C.2.2.2.2.1 gX11_kind_X11_fine rfl rfl rfl (by decide +kernel) ⟨Nat.le_of_ble_eq_true rfl, Nat.le_of_ble_eq_true rfl⟩) (L0 hL (by decide) (by decide)) (by decide) rfl rfl rfl (Nat.le_of_ble_eq_true rfl) ⟨Nat.le_of_ble_eq_true rfl, Nat.le_of_ble_eq_true rfl⟩ ?_
        obtain ⟨rfl, rfl⟩ := gs2 hf
        exact g_iret C dX11_kind_37 hr hlk
      · rw [if_neg (by rw [gK_of hk4]; decide), if_pos (gK_of hk4)] at hf
        obtain ⟨z7, hz7, hf⟩ := gbind hf ho
        refine g_callU (k := 3) C dX11_kind_31 (m_X3_kindTold l X N _ _ _   _ z7 hz7) gEin0 (va_cwA 0 C.2.2.2.2.1 gX11_kind_X3_kindTold_u213X3 rfl rfl rfl hE.1 (by decide +kernel) ⟨Nat.le_of_ble_eq_true rfl, Nat.le_of_ble_eq_true rfl⟩) hk4 (by decide) rfl rfl rfl (Nat.le_of_ble_eq_true rfl) ⟨Nat.le_of_ble_eq_true rfl, Nat.le_of_ble_eq_true rfl⟩ ?_
        obtain ⟨z8, hz8, hf⟩ := gbind hf ho
        refine g_callV C dX11_kind_34 (m_X11_fine l X N _ _ _  (gLay.sub hL (by decide) (by decide)) _ z8.1 z8.2 hz8) gEin0 (cwV 1 C.2.2.2.2.1 gX11_kind_X11_fine rfl rfl rfl (by decide +kernel) ⟨Nat.le_of_ble_eq_true rfl, Nat.le_of_ble_eq_true rfl⟩) (L0 hL (by decide) (by decide)) (by decide) rfl rfl rfl (Nat.le_of_ble_eq_true rfl) ⟨Nat.le_of_ble_eq_true rfl, Nat.le_of_ble_eq_true rfl⟩ ?_
        obtain ⟨rfl, rfl⟩ := gs2 hf
        exact g_iret C dX11_kind_37 hr hlk
      · rw [if_neg (by rw [gK_of hk4]; decide), if_neg (by rw [gK_of hk4]; decide), if_pos (gK_of hk4)] at hf
        obtain ⟨z9, hz9, hf⟩ := gbind hf ho
        refine g_callU (k := 4) C dX11_kind_31 (m_X4_kindTold l X N _ _ _   _ z9 hz9) gEin0 (va_cwA 0 C.2.2.2.2.1 gX11_kind_X4_kindTold_u213X4 rfl rfl rfl hE.1 (by decide +kernel) ⟨Nat.le_of_ble_eq_true rfl, Nat.le_of_ble_eq_true rfl⟩) hk4 (by decide) rfl rfl rfl (Nat.le_of_ble_eq_true rfl) ⟨Nat.le_of_ble_eq_true rfl, Nat.le_of_ble_eq_true rfl⟩ ?_
        obtain ⟨z10, hz10, hf⟩ := gbind hf ho
        refine g_callV C dX11_kind_34 (m_X11_fine l X N _ _ _  (gLay.sub hL (by decide) (by decide)) _ z10.1 z10.2 hz10) gEin0 (cwV 1 C.2.2.2.2.1 gX11_kind_X11_fine rfl rfl rfl (by decide +kernel) ⟨Nat.le_of_ble_eq_true rfl, Nat.le_of_ble_eq_true rfl⟩) (L0 hL (by decide) (by decide)) (by decide) rfl rfl rfl (Nat.le_of_ble_eq_true rfl) ⟨Nat.le_of_ble_eq_true rfl, Nat.le_of_ble_eq_true rfl⟩ ?_
        obtain ⟨rfl, rfl⟩ := gs2 hf
        exact g_iret C dX11_kind_37 hr hlk
      · rw [if_neg (by rw [gK_of hk4]; decide), if_neg (by rw [gK_of hk4]; decide), if_neg (by rw [gK_of hk4]; decide)] at hf
        obtain ⟨z11, hz11, hf⟩ := gbind hf ho
        refine g_callU (k := 7) C dX11_kind_31 (m_X7_kindTold l X N _ _ _   _ z11 hz11) gEin0 (va_cwA 0 C.2.2.2.2.1 gX11_kind_X7_kindTold_u213X7 rfl rfl rfl hE.1 (by decide +kernel) ⟨Nat.le_of_ble_eq_true rfl, Nat.le_of_ble_eq_true rfl⟩) hk4 (by decide) rfl rfl rfl (Nat.le_of_ble_eq_true rfl) ⟨Nat.le_of_ble_eq_true rfl, Nat.le_of_ble_eq_true rfl⟩ ?_
        obtain ⟨z12, hz12, hf⟩ := gbind hf ho
        refine g_callV C dX11_kind_34 (m_X11_fine l X N _ _ _  (gLay.sub hL (by decide) (by decide)) _ z12.1 z12.2 hz12) gEin0 (cwV 1 C.2.2.2.2.1 gX11_kind_X11_fine rfl rfl rfl (by decide +kernel) ⟨Nat.le_of_ble_eq_true rfl, Nat.le_of_ble_eq_true rfl⟩) (L0 hL (by decide) (by decide)) (by decide) rfl rfl rfl (Nat.le_of_ble_eq_true rfl) ⟨Nat.le_of_ble_eq_true rfl, Nat.le_of_ble_eq_true rfl⟩ ?_
        obtain ⟨rfl, rfl⟩ := gs2 hf
        exact g_iret C dX11_kind_37 hr hlk
  · refine g_ldc C k80 dX11_kind_7 ?_
    obtain ⟨rfl, rfl⟩ := gs2 hf
    exact g_iret C dX11_kind_9 hr hlk
set_option maxRecDepth 100000 in
set_option maxHeartbeats 8000000 in
theorem m_X11_isKind (l : Launch) (X : gX) (N : Nat) (I : gI) (R : gR) (S : gS) (hL : gLay 0 91 R S) (a0 : Int32) (v : Int32) (hf : f_X11_isKind N I R S a0 = some v) : gM l yX11_isKind wsX11_isKind { frames := 0, cells := 0, slots := 0, locals := 0 } X gE0 [.int a0] I R S (some (.int v)) I R S 0 0 := by
  unfold f_X11_isKind at hf
  refine gM_of (cc := cX11_isKind) (own := RX11) (maxL := 1) (ret := (some .boolean)) (by decide) rfl rfl (Nat.le_of_ble_eq_true rfl) ?_
  intro p e s m args below meth c C hr hlk hnm hE
  have ho : (some v) ≠ none := fun h => by cases h
  refine g_iload_n C dX11_isKind_0 rfl rfl ?_
  refine g_if_lt (tgt := 13) C dX11_isKind_1 (by decide) hf (fun hf => ?_) (fun hf => ?_)
  · refine g_iconst (v := 0) C dX11_isKind_13 (by decide) ?_
    obtain rfl := gs1 hf
    exact g_zret C dX11_isKind_14 hr hlk (by decide)
  · refine g_iload_n C dX11_isKind_4 rfl rfl ?_
    refine g_iconst (v := 5) C dX11_isKind_5 (by decide) ?_
    refine g_icmp_ge (tgt := 13) C dX11_isKind_6 (by decide) hf (fun hf => ?_) (fun hf => ?_)
    · refine g_iconst (v := 0) C dX11_isKind_13 (by decide) ?_
      obtain rfl := gs1 hf
      exact g_zret C dX11_isKind_14 hr hlk (by decide)
    · refine g_iconst (v := 1) C dX11_isKind_9 (by decide) ?_
      refine g_goto (tgt := 14) C dX11_isKind_10 (by decide) ?_
      obtain rfl := gs1 hf
      exact g_zret C dX11_isKind_14 hr hlk (by decide)
set_option maxRecDepth 100000 in
set_option maxHeartbeats 8000000 in
theorem m_X11_isOf (l : Launch) (X : gX) (N : Nat) (I : gI) (R : gR) (S : gS) (hL : gLay 0 91 R S) (a0 : Option Nat) (a1 : Int32) (v : Int32) (hf : f_X11_isOf N I R S a0 a1 = some v) : gM l yX11_isOf wsX11_isOf { frames := 0, cells := 0, slots := 0, locals := 0 } X gEN [gv X.1 a0, .int a1] I R S (some (.int v)) I R S 0 0 := by
  unfold f_X11_isOf at hf
  cases a0 with
  | none =>
    dsimp only at hf
    refine gM_of (cc := cX11_isOf) (own := RX11) (maxL := 2) (ret := (some .boolean)) (by decide) rfl rfl (Nat.le_of_ble_eq_true rfl) ?_
    intro p e s m args below meth c C hr hlk hnm hE
    have ho : (some v) ≠ none := fun h => by cases h
    have cl249 := C.2.2.2.2.1 (.classLink RX11 249 RX3) (by decide +kernel)
    have cl174 := C.2.2.2.2.1 (.classLink RX11 174 RX4) (by decide +kernel)
    have cl251 := C.2.2.2.2.1 (.classLink RX11 251 RX7) (by decide +kernel)
    have cl253 := C.2.2.2.2.1 (.classLink RX11 253 RX1) (by decide +kernel)
    refine g_iload_n C dX11_isOf_0 rfl rfl ?_
    by_cases ht1_0 : a1 = (0 : Int32)
    · rw [if_pos ht1_0] at hf
      refine g_tabC (v := (0 : Int32)) (tgt := 36) C dX11_isOf_1 ht1_0 (by decide) (by decide) rfl (by decide) ?_
      refine g_aload_nN C dX11_isOf_36 rfl rfl ?_
      refine g_ifnullN (tgt := 44) C dX11_isOf_37 (by decide) ?_
      refine g_iconst (v := 0) C dX11_isOf_44 (by decide) ?_
      obtain rfl := gs1 hf
      exact g_zret C dX11_isOf_45 hr hlk (by decide)
    · rw [if_neg ht1_0] at hf
      by_cases ht1_1 : a1 = (1 : Int32)
      · rw [if_pos ht1_1] at hf
        refine g_tabC (v := (1 : Int32)) (tgt := 46) C dX11_isOf_1 ht1_1 (by decide) (by decide) rfl (by decide) ?_
        refine g_aload_nN C dX11_isOf_46 rfl rfl ?_
        refine g_instN C dX11_isOf_47 ?_
        obtain rfl := gs1 hf
        exact g_zret C dX11_isOf_50 hr hlk (by decide)
      · rw [if_neg ht1_1] at hf
        by_cases ht1_2 : a1 = (2 : Int32)
        · rw [if_pos ht1_2] at hf
          refine g_tabC (v := (2 : Int32)) (tgt := 51) C dX11_isOf_1 ht1_2 (by decide) (by decide) rfl (by decide) ?_
          refine g_aload_nN C dX11_isOf_51 rfl rfl ?_
          refine g_instN C dX11_isOf_52 ?_
          obtain rfl := gs1 hf
          exact g_zret C dX11_isOf_55 hr hlk (by decide)
        · rw [if_neg ht1_2] at hf
          by_cases ht1_3 : a1 = (3 : Int32)
          · rw [if_pos ht1_3] at hf
            refine g_tabC (v := (3 : Int32)) (tgt := 56) C dX11_isOf_1 ht1_3 (by decide) (by decide) rfl (by decide) ?_
            refine g_aload_nN C dX11_isOf_56 rfl rfl ?_
            refine g_instN C dX11_isOf_57 ?_
            obtain rfl := gs1 hf
            exact g_zret C dX11_isOf_60 hr hlk (by decide)
          · rw [if_neg ht1_3] at hf
            by_cases ht1_4 : a1 = (4 : Int32)
            · rw [if_pos ht1_4] at hf
              refine g_tabC (v := (4 : Int32)) (tgt := 61) C dX11_isOf_1 ht1_4 (by decide) (by decide) rfl (by decide) ?_
              refine g_aload_nN C dX11_isOf_61 rfl rfl ?_
              refine g_instN C dX11_isOf_62 ?_
              obtain rfl := gs1 hf
              exact g_zret C dX11_isOf_65 hr hlk (by decide)
            · rw [if_neg ht1_4] at hf
              refine g_tabD (cnt := 5) (tgt := 66) C dX11_isOf_1 (fun k hk => by have hq : k = 0 ∨ k = 1 ∨ k = 2 ∨ k = 3 ∨ k = 4 := (by omega); rcases hq with rfl | rfl | rfl | rfl | rfl <;> assumption) (by decide) (by decide) ?_
              refine g_iconst (v := 0) C dX11_isOf_66 (by decide) ?_
              obtain rfl := gs1 hf
              exact g_zret C dX11_isOf_67 hr hlk (by decide)
  | some wa0 =>
    dsimp only at hf
    refine gM_of (cc := cX11_isOf) (own := RX11) (maxL := 2) (ret := (some .boolean)) (by decide) rfl rfl (Nat.le_of_ble_eq_true rfl) ?_
    intro p e s m args below meth c C hr hlk hnm hE
    have ho : (some v) ≠ none := fun h => by cases h
    have cl249 := C.2.2.2.2.1 (.classLink RX11 249 RX3) (by decide +kernel)
    have cl174 := C.2.2.2.2.1 (.classLink RX11 174 RX4) (by decide +kernel)
    have cl251 := C.2.2.2.2.1 (.classLink RX11 251 RX7) (by decide +kernel)
    have cl253 := C.2.2.2.2.1 (.classLink RX11 253 RX1) (by decide +kernel)
    obtain ⟨hwwa0, hf⟩ := gcase hf ho
    refine g_iload_n C dX11_isOf_0 rfl rfl ?_
    by_cases ht2_0 : a1 = (0 : Int32)
    · rw [if_pos ht2_0] at hf
      refine g_tabC (v := (0 : Int32)) (tgt := 36) C dX11_isOf_1 ht2_0 (by decide) (by decide) rfl (by decide) ?_
      refine g_aload_n C dX11_isOf_36 rfl rfl ?_
      refine g_ifnull C dX11_isOf_37 ?_
      refine g_iconst (v := 1) C dX11_isOf_40 (by decide) ?_
      refine g_goto (tgt := 45) C dX11_isOf_41 (by decide) ?_
      obtain rfl := gs1 hf
      exact g_zret C dX11_isOf_45 hr hlk (by decide)
    · rw [if_neg ht2_0] at hf
      by_cases ht2_1 : a1 = (1 : Int32)
      · rw [if_pos ht2_1] at hf
        refine g_tabC (v := (1 : Int32)) (tgt := 46) C dX11_isOf_1 ht2_1 (by decide) (by decide) rfl (by decide) ?_
        refine g_aload_n C dX11_isOf_46 rfl rfl ?_
        rcases gKb_k (gW_kb hwwa0) with hk3 | hk3 | hk3 | hk3
        · rw [if_pos (gK_of hk3)] at hf
          refine g_instNo (k := 1) C dX11_isOf_47 cl249 hk3 (by decide) rfl hE.2.2.2.1.1 ?_
          obtain rfl := gs1 hf
          exact g_zret C dX11_isOf_50 hr hlk (by decide)
        · rw [if_neg (by rw [gK_of hk3]; decide), if_pos (gK_of hk3)] at hf
          refine g_instS (k := 3) C dX11_isOf_47 cl249 hk3 (by decide) rfl ?_
          obtain rfl := gs1 hf
          exact g_zret C dX11_isOf_50 hr hlk (by decide)
        · rw [if_neg (by rw [gK_of hk3]; decide), if_neg (by rw [gK_of hk3]; decide), if_pos (gK_of hk3)] at hf
          refine g_instNo (k := 4) C dX11_isOf_47 cl249 hk3 (by decide) rfl hE.2.2.2.2.2.1.2.1 ?_
          obtain rfl := gs1 hf
          exact g_zret C dX11_isOf_50 hr hlk (by decide)
        · rw [if_neg (by rw [gK_of hk3]; decide), if_neg (by rw [gK_of hk3]; decide), if_neg (by rw [gK_of hk3]; decide)] at hf
          refine g_instNo (k := 7) C dX11_isOf_47 cl249 hk3 (by decide) rfl hE.2.2.2.2.2.2.2 ?_
          obtain rfl := gs1 hf
          exact g_zret C dX11_isOf_50 hr hlk (by decide)
      · rw [if_neg ht2_1] at hf
        by_cases ht2_2 : a1 = (2 : Int32)
        · rw [if_pos ht2_2] at hf
          refine g_tabC (v := (2 : Int32)) (tgt := 51) C dX11_isOf_1 ht2_2 (by decide) (by decide) rfl (by decide) ?_
          refine g_aload_n C dX11_isOf_51 rfl rfl ?_
          rcases gKb_k (gW_kb hwwa0) with hk4 | hk4 | hk4 | hk4
          · rw [if_pos (gK_of hk4)] at hf
            refine g_instNo (k := 1) C dX11_isOf_52 cl174 hk4 (by decide) rfl hE.2.2.2.1.2.1 ?_
            obtain rfl := gs1 hf
            exact g_zret C dX11_isOf_55 hr hlk (by decide)
          · rw [if_neg (by rw [gK_of hk4]; decide), if_pos (gK_of hk4)] at hf
            refine g_instNo (k := 3) C dX11_isOf_52 cl174 hk4 (by decide) rfl hE.2.2.2.2.1.2.1 ?_
            obtain rfl := gs1 hf
            exact g_zret C dX11_isOf_55 hr hlk (by decide)
          · rw [if_neg (by rw [gK_of hk4]; decide), if_neg (by rw [gK_of hk4]; decide), if_pos (gK_of hk4)] at hf
            refine g_instS (k := 4) C dX11_isOf_52 cl174 hk4 (by decide) rfl ?_
            obtain rfl := gs1 hf
            exact g_zret C dX11_isOf_55 hr hlk (by decide)
          · rw [if_neg (by rw [gK_of hk4]; decide), if_neg (by rw [gK_of hk4]; decide), if_neg (by rw [gK_of hk4]; decide)] at hf
            refine g_instY (k := 7) C dX11_isOf_52 cl174 hk4 (by decide) rfl hE.2.1 ?_
            obtain rfl := gs1 hf
            exact g_zret C dX11_isOf_55 hr hlk (by decide)
        · rw [if_neg ht2_2] at hf
          by_cases ht2_3 : a1 = (3 : Int32)
          · rw [if_pos ht2_3] at hf
            refine g_tabC (v := (3 : Int32)) (tgt := 56) C dX11_isOf_1 ht2_3 (by decide) (by decide) rfl (by decide) ?_
            refine g_aload_n C dX11_isOf_56 rfl rfl ?_
            rcases gKb_k (gW_kb hwwa0) with hk5 | hk5 | hk5 | hk5
            · rw [if_pos (gK_of hk5)] at hf
              refine g_instNo (k := 1) C dX11_isOf_57 cl251 hk5 (by decide) rfl hE.2.2.2.1.2.2 ?_
              obtain rfl := gs1 hf
              exact g_zret C dX11_isOf_60 hr hlk (by decide)
            · rw [if_neg (by rw [gK_of hk5]; decide), if_pos (gK_of hk5)] at hf
              refine g_instNo (k := 3) C dX11_isOf_57 cl251 hk5 (by decide) rfl hE.2.2.2.2.1.2.2 ?_
              obtain rfl := gs1 hf
              exact g_zret C dX11_isOf_60 hr hlk (by decide)
            · rw [if_neg (by rw [gK_of hk5]; decide), if_neg (by rw [gK_of hk5]; decide), if_pos (gK_of hk5)] at hf
              refine g_instNo (k := 4) C dX11_isOf_57 cl251 hk5 (by decide) rfl hE.2.2.2.2.2.1.2.2 ?_
              obtain rfl := gs1 hf
              exact g_zret C dX11_isOf_60 hr hlk (by decide)
            · rw [if_neg (by rw [gK_of hk5]; decide), if_neg (by rw [gK_of hk5]; decide), if_neg (by rw [gK_of hk5]; decide)] at hf
              refine g_instS (k := 7) C dX11_isOf_57 cl251 hk5 (by decide) rfl ?_
              obtain rfl := gs1 hf
              exact g_zret C dX11_isOf_60 hr hlk (by decide)
          · rw [if_neg ht2_3] at hf
            by_cases ht2_4 : a1 = (4 : Int32)
            · rw [if_pos ht2_4] at hf
              refine g_tabC (v := (4 : Int32)) (tgt := 61) C dX11_isOf_1 ht2_4 (by decide) (by decide) rfl (by decide) ?_
              refine g_aload_n C dX11_isOf_61 rfl rfl ?_
              rcases gKb_k (gW_kb hwwa0) with hk6 | hk6 | hk6 | hk6
              · rw [if_pos (gK_of hk6)] at hf
                refine g_instS (k := 1) C dX11_isOf_62 cl253 hk6 (by decide) rfl ?_
                obtain rfl := gs1 hf
                exact g_zret C dX11_isOf_65 hr hlk (by decide)
              · rw [if_neg (by rw [gK_of hk6]; decide), if_pos (gK_of hk6)] at hf
                refine g_instNo (k := 3) C dX11_isOf_62 cl253 hk6 (by decide) rfl hE.2.2.2.2.1.1 ?_
                obtain rfl := gs1 hf
                exact g_zret C dX11_isOf_65 hr hlk (by decide)
              · rw [if_neg (by rw [gK_of hk6]; decide), if_neg (by rw [gK_of hk6]; decide), if_pos (gK_of hk6)] at hf
                refine g_instNo (k := 4) C dX11_isOf_62 cl253 hk6 (by decide) rfl hE.2.2.2.2.2.1.1 ?_
                obtain rfl := gs1 hf
                exact g_zret C dX11_isOf_65 hr hlk (by decide)
              · rw [if_neg (by rw [gK_of hk6]; decide), if_neg (by rw [gK_of hk6]; decide), if_neg (by rw [gK_of hk6]; decide)] at hf
                refine g_instNo (k := 7) C dX11_isOf_62 cl253 hk6 (by decide) rfl hE.2.2.2.2.2.2.1 ?_
                obtain rfl := gs1 hf
                exact g_zret C dX11_isOf_65 hr hlk (by decide)
            · rw [if_neg ht2_4] at hf
              refine g_tabD (cnt := 5) (tgt := 66) C dX11_isOf_1 (fun k hk => by have hq : k = 0 ∨ k = 1 ∨ k = 2 ∨ k = 3 ∨ k = 4 := (by omega); rcases hq with rfl | rfl | rfl | rfl | rfl <;> assumption) (by decide) (by decide) ?_
              refine g_iconst (v := 0) C dX11_isOf_66 (by decide) ?_
              obtain rfl := gs1 hf
              exact g_zret C dX11_isOf_67 hr hlk (by decide)
set_option maxRecDepth 100000 in
set_option maxHeartbeats 8000000 in
theorem m_X11_is (l : Launch) (X : gX) (N : Nat) (I : gI) (R : gR) (S : gS) (hL : gLay 0 91 R S) (a0 : Int32) (a1 : Int32) (v : Int32) (hf : f_X11_is N I R S a0 a1 = some v) : gM l yX11_is wsX11_is { frames := 1, cells := 0, slots := 0, locals := 21 } X gEN [.ref (X.1 + 0), .int a0, .int a1] I R S (some (.int v)) I R S 0 0 := by
  unfold f_X11_is at hf
  refine gM_of (cc := cX11_is) (own := RX11) (maxL := 3) (ret := (some .int)) (by decide) rfl rfl (Nat.le_of_ble_eq_true rfl) ?_
  intro p e s m args below meth c C hr hlk hnm hE
  have ho : (some v) ≠ none := fun h => by cases h
  have k80 := C.2.2.2.2.1 (.constant RX11 80 (-1000001)) (by decide +kernel)
  have f17 := C.2.2.2.2.1 (.fieldLink RX11 17 "TimesByPowers" "shelf" "[LTimesByPowers$World;") (by decide +kernel)
  have c10 : gCl wsX11_is 10 RX11 TX11 8 := ⟨by decide, rfl, rfl, by decide +kernel⟩
  refine g_iload_n C dX11_is_0 rfl rfl ?_
  obtain ⟨z1, hz1, hf⟩ := gbind hf ho
  refine g_callS C dX11_is_1 (m_X11_isPlace l X N _ _ _  (gLay.sub hL (by decide) (by decide)) _ z1 hz1) gEin0 (va_cwS 1 C.2.2.2.2.1 gX11_is_X11_isPlace rfl rfl rfl (by decide +kernel) ⟨Nat.le_of_ble_eq_true rfl, Nat.le_of_ble_eq_true rfl⟩) rfl rfl (Nat.le_of_ble_eq_true rfl) ⟨Nat.le_of_ble_eq_true rfl, Nat.le_of_ble_eq_true rfl⟩ ?_
  refine g_if_eq (tgt := 14) C dX11_is_4 (by decide) hf (fun hf => ?_) (fun hf => ?_)
  · refine g_ldc C k80 dX11_is_14 ?_
    obtain rfl := gs1 hf
    exact g_iret C dX11_is_16 hr hlk
  · refine g_iload_n C dX11_is_7 rfl rfl ?_
    obtain ⟨z2, hz2, hf⟩ := gbind hf ho
    refine g_callS C dX11_is_8 (m_X11_isKind l X N _ _ _  (gLay.sub hL (by decide) (by decide)) _ z2 hz2) gEin0 (va_cwS 1 C.2.2.2.2.1 gX11_is_X11_isKind rfl rfl rfl (by decide +kernel) ⟨Nat.le_of_ble_eq_true rfl, Nat.le_of_ble_eq_true rfl⟩) rfl rfl (Nat.le_of_ble_eq_true rfl) ⟨Nat.le_of_ble_eq_true rfl, Nat.le_of_ble_eq_true rfl⟩ ?_
    refine g_if_ne (tgt := 17) C dX11_is_11 (by decide) hf (fun hf => ?_) (fun hf => ?_)
    · refine g_aload_n C dX11_is_17 rfl rfl ?_
      refine g_getR (i := 4) (j := 4) C dX11_is_18 (L0 hL (by decide) (by decide)) c10 rfl (by decide) f17 (fun _ h9 => h9) (LR0_4 hL (by decide) (by decide)) ?_
      refine g_iload_n C dX11_is_21 rfl rfl ?_
      refine g_aald 3 C dX11_is_22 (by decide) (L2 hL (by decide) (by decide)) rfl rfl ho hf (fun hf => ?_)
      refine g_iload_n C dX11_is_23 rfl rfl ?_
      obtain ⟨z3, hz3, hf⟩ := gbind hf ho
      refine g_callS C dX11_is_24 (m_X11_isOf l X N _ _ _  (gLay.sub hL (by decide) (by decide)) _ _ z3 hz3) (gEN_in hE) (va_cwS 2 C.2.2.2.2.1 gX11_is_X11_isOf rfl rfl rfl (by decide +kernel) ⟨Nat.le_of_ble_eq_true rfl, Nat.le_of_ble_eq_true rfl⟩) rfl rfl (Nat.le_of_ble_eq_true rfl) ⟨Nat.le_of_ble_eq_true rfl, Nat.le_of_ble_eq_true rfl⟩ ?_
      refine g_if_eq (tgt := 34) C dX11_is_27 (by decide) hf (fun hf => ?_) (fun hf => ?_)
      · refine g_iconst (v := 0) C dX11_is_34 (by decide) ?_
        obtain rfl := gs1 hf
        exact g_iret C dX11_is_35 hr hlk
      · refine g_iconst (v := 1) C dX11_is_30 (by decide) ?_
        refine g_goto (tgt := 35) C dX11_is_31 (by decide) ?_
        obtain rfl := gs1 hf
        exact g_iret C dX11_is_35 hr hlk
    · refine g_ldc C k80 dX11_is_14 ?_
      obtain rfl := gs1 hf
      exact g_iret C dX11_is_16 hr hlk
set_option maxRecDepth 100000 in
set_option maxHeartbeats 8000000 in
theorem m_X11_as (l : Launch) (X : gX) (N : Nat) (I : gI) (R : gR) (S : gS) (hL : gLay 0 91 R S) (a0 : Int32) (a1 : Int32) (v : Int32) (J : gI) (hf : f_X11_as N I R S a0 a1 = some (v, J)) : gM l yX11_as wsX11_as { frames := 1, cells := 0, slots := 0, locals := 21 } X gEN [.ref (X.1 + 0), .int a0, .int a1] I R S (some (.int v)) J R S 0 0 := by
  unfold f_X11_as at hf
  refine gM_of (cc := cX11_as) (own := RX11) (maxL := 4) (ret := (some .int)) (by decide) rfl rfl (Nat.le_of_ble_eq_true rfl) ?_
  intro p e s m args below meth c C hr hlk hnm hE
  have ho : (some (v, J)) ≠ none := fun h => by cases h
  have k80 := C.2.2.2.2.1 (.constant RX11 80 (-1000001)) (by decide +kernel)
  have f17 := C.2.2.2.2.1 (.fieldLink RX11 17 "TimesByPowers" "shelf" "[LTimesByPowers$World;") (by decide +kernel)
  have c10 : gCl wsX11_as 10 RX11 TX11 8 := ⟨by decide, rfl, rfl, by decide +kernel⟩
  have f154 := C.2.2.2.2.1 (.fieldLink RX11 154 "TimesByPowers$World" "\x72" "I") (by decide +kernel)
  have cw : gWc wsX11_as := ⟨⟨by decide, rfl, rfl, by decide +kernel⟩, ⟨by decide, rfl, rfl, by decide +kernel⟩, ⟨by decide, rfl, rfl, by decide +kernel⟩, ⟨by decide, rfl, rfl, by decide +kernel⟩⟩
  refine g_iload_n C dX11_as_0 rfl rfl ?_
  obtain ⟨z1, hz1, hf⟩ := gbind hf ho
  refine g_callS C dX11_as_1 (m_X11_isPlace l X N _ _ _  (gLay.sub hL (by decide) (by decide)) _ z1 hz1) gEin0 (va_cwS 1 C.2.2.2.2.1 gX11_as_X11_isPlace rfl rfl rfl (by decide +kernel) ⟨Nat.le_of_ble_eq_true rfl, Nat.le_of_ble_eq_true rfl⟩) rfl rfl (Nat.le_of_ble_eq_true rfl) ⟨Nat.le_of_ble_eq_true rfl, Nat.le_of_ble_eq_true rfl⟩ ?_
  refine g_if_eq (tgt := 14) C dX11_as_4 (by decide) hf (fun hf => ?_) (fun hf => ?_)
  · refine g_ldc C k80 dX11_as_14 ?_
    obtain ⟨rfl, rfl⟩ := gs2 hf
    exact g_iret C dX11_as_16 hr hlk
  · refine g_iload_n C dX11_as_7 rfl rfl ?_
    obtain ⟨z2, hz2, hf⟩ := gbind hf ho
    refine g_callS C dX11_as_8 (m_X11_isKind l X N _ _ _  (gLay.sub hL (by decide) (by decide)) _ z2 hz2) gEin0 (va_cwS 1 C.2.2.2.2.1 gX11_as_X11_isKind rfl rfl rfl (by decide +kernel) ⟨Nat.le_of_ble_eq_true rfl, Nat.le_of_ble_eq_true rfl⟩) rfl rfl (Nat.le_of_ble_eq_true rfl) ⟨Nat.le_of_ble_eq_true rfl, Nat.le_of_ble_eq_true rfl⟩ ?_
    refine g_if_ne (tgt := 17) C dX11_as_11 (by decide) hf (fun hf => ?_) (fun hf => ?_)
    · refine g_aload_n C dX11_as_17 rfl rfl ?_
      refine g_getR (i := 4) (j := 4) C dX11_as_18 (L0 hL (by decide) (by decide)) c10 rfl (by decide) f17 (fun _ h9 => h9) (LR0_4 hL (by decide) (by decide)) ?_
      refine g_iload_n C dX11_as_21 rfl rfl ?_
      refine g_aald 3 C dX11_as_22 (by decide) (L2 hL (by decide) (by decide)) rfl rfl ho hf (fun hf => ?_)
      refine g_split hf (fun hnw3 hf => ?_) (fun w3 hsw3 hf => ?_)
      · refine g_astore_nN C dX11_as_23 rfl (Nat.le_of_ble_eq_true rfl) rfl rfl ?_
        refine g_aload_nN C dX11_as_24 rfl rfl ?_
        refine g_ifnonnullN C dX11_as_25 ?_
        refine g_aload_n C dX11_as_28 rfl rfl ?_
        refine g_iconst (v := 1) C dX11_as_29 (by decide) ?_
        obtain ⟨z4, hz4, hf⟩ := gbind hf ho
        refine g_callV C dX11_as_30 (m_X11_found l X N _ _ _  (gLay.sub hL (by decide) (by decide)) _ z4.1 z4.2 hz4) gEin0 (cwV 1 C.2.2.2.2.1 gX11_as_X11_found rfl rfl rfl (by decide +kernel) ⟨Nat.le_of_ble_eq_true rfl, Nat.le_of_ble_eq_true rfl⟩) (L0 hL (by decide) (by decide)) (by decide) rfl rfl rfl (Nat.le_of_ble_eq_true rfl) ⟨Nat.le_of_ble_eq_true rfl, Nat.le_of_ble_eq_true rfl⟩ ?_
        obtain ⟨rfl, rfl⟩ := gs2 hf
        exact g_iret C dX11_as_33 hr hlk
      · obtain ⟨hww3, hf⟩ := gcase hf ho
        refine g_astore_n C dX11_as_23 rfl (Nat.le_of_ble_eq_true rfl) rfl rfl ?_
        refine g_aload_n C dX11_as_24 rfl rfl ?_
        refine g_ifnonnull (tgt := 34) C dX11_as_25 (by decide) ?_
        refine g_aload_n C dX11_as_34 rfl rfl ?_
        refine g_iload_n C dX11_as_35 rfl rfl ?_
        obtain ⟨z5, hz5, hf⟩ := gbind hf ho
        refine g_callS C dX11_as_36 (m_X11_isOf l X N _ _ _  (gLay.sub hL (by decide) (by decide)) _ _ z5 hz5) (gEN_in hE) (va_cwS 2 C.2.2.2.2.1 gX11_as_X11_isOf rfl rfl rfl (by decide +kernel) ⟨Nat.le_of_ble_eq_true rfl, Nat.le_of_ble_eq_true rfl⟩) rfl rfl (Nat.le_of_ble_eq_true rfl) ⟨Nat.le_of_ble_eq_true rfl, Nat.le_of_ble_eq_true rfl⟩ ?_
        refine g_if_eq (tgt := 53) C dX11_as_39 (by decide) hf (fun hf => ?_) (fun hf => ?_)
        · refine g_aload_n C dX11_as_53 rfl rfl ?_
          refine g_iconst (v := 3) C dX11_as_54 (by decide) ?_
          obtain ⟨z6, hz6, hf⟩ := gbind hf ho
          refine g_callV C dX11_as_55 (m_X11_found l X N _ _ _  (gLay.sub hL (by decide) (by decide)) _ z6.1 z6.2 hz6) gEin0 (cwV 1 C.2.2.2.2.1 gX11_as_X11_found rfl rfl rfl (by decide +kernel) ⟨Nat.le_of_ble_eq_true rfl, Nat.le_of_ble_eq_true rfl⟩) (L0 hL (by decide) (by decide)) (by decide) rfl rfl rfl (Nat.le_of_ble_eq_true rfl) ⟨Nat.le_of_ble_eq_true rfl, Nat.le_of_ble_eq_true rfl⟩ ?_
          obtain ⟨rfl, rfl⟩ := gs2 hf
          exact g_iret C dX11_as_58 hr hlk
        · refine g_aload_n C dX11_as_42 rfl rfl ?_
          refine g_aload_n C dX11_as_43 rfl rfl ?_
          refine g_getWI 1 C dX11_as_44 hww3 cw ⟨rfl, rfl, rfl, rfl⟩ f154 ⟨rfl, rfl, rfl, rfl⟩ ?_
          obtain ⟨z7, hz7, hf⟩ := gbind hf ho
          refine g_callV C dX11_as_47 (m_X11_fine l X N _ _ _  (gLay.sub hL (by decide) (by decide)) _ z7.1 z7.2 hz7) gEin0 (cwV 1 C.2.2.2.2.1 gX11_as_X11_fine rfl rfl rfl (by decide +kernel) ⟨Nat.le_of_ble_eq_true rfl, Nat.le_of_ble_eq_true rfl⟩) (L0 hL (by decide) (by decide)) (by decide) rfl rfl rfl (Nat.le_of_ble_eq_true rfl) ⟨Nat.le_of_ble_eq_true rfl, Nat.le_of_ble_eq_true rfl⟩ ?_
          refine g_goto (tgt := 58) C dX11_as_50 (by decide) ?_
          obtain ⟨rfl, rfl⟩ := gs2 hf
          exact g_iret C dX11_as_58 hr hlk
    · refine g_ldc C k80 dX11_as_14 ?_
      obtain ⟨rfl, rfl⟩ := gs2 hf
      exact g_iret C dX11_as_16 hr hlk
set_option maxRecDepth 100000 in
set_option maxHeartbeats 8000000 in
theorem m_X11_ask (l : Launch) (X : gX) (N : Nat) (I : gI) (R : gR) (S : gS) (hL : gLay 0 91 R S) (a0 : Int32) (a1 : Int32) (v : Int32) (J : gI) (hf : f_X11_ask N I R S a0 a1 = some (v, J)) : gM l yX11_ask wsX11_ask { frames := 4, cells := 0, slots := 0, locals := 84 } X gE0 [.ref (X.1 + 0), .int a0, .int a1] I R S (some (.int v)) J R S 0 0 := by
  unfold f_X11_ask at hf
  refine gM_of (cc := cX11_ask) (own := RX11) (maxL := 4) (ret := (some .int)) (by decide) rfl rfl (Nat.le_of_ble_eq_true rfl) ?_
  intro p e s m args below meth c C hr hlk hnm hE
  have ho : (some (v, J)) ≠ none := fun h => by cases h
  have k80 := C.2.2.2.2.1 (.constant RX11 80 (-1000001)) (by decide +kernel)
  have f24 := C.2.2.2.2.1 (.fieldLink RX11 24 "TimesByPowers" "steps" "LTimesByPowers$Trace;") (by decide +kernel)
  have c10 : gCl wsX11_ask 10 RX11 TX11 8 := ⟨by decide, rfl, rfl, by decide +kernel⟩
  have f17 := C.2.2.2.2.1 (.fieldLink RX11 17 "TimesByPowers" "shelf" "[LTimesByPowers$World;") (by decide +kernel)
  refine g_iload_n C dX11_ask_0 rfl rfl ?_
  obtain ⟨z1, hz1, hf⟩ := gbind hf ho
  refine g_callS C dX11_ask_1 (m_X11_isPlace l X N _ _ _  (gLay.sub hL (by decide) (by decide)) _ z1 hz1) gEin0 (va_cwS 1 C.2.2.2.2.1 gX11_ask_X11_isPlace rfl rfl rfl (by decide +kernel) ⟨Nat.le_of_ble_eq_true rfl, Nat.le_of_ble_eq_true rfl⟩) rfl rfl (Nat.le_of_ble_eq_true rfl) ⟨Nat.le_of_ble_eq_true rfl, Nat.le_of_ble_eq_true rfl⟩ ?_
  refine g_if_eq (tgt := 16) C dX11_ask_4 (by decide) hf (fun hf => ?_) (fun hf => ?_)
  · refine g_ldc C k80 dX11_ask_16 ?_
    obtain ⟨rfl, rfl⟩ := gs2 hf
    exact g_iret C dX11_ask_18 hr hlk
  · refine g_iload_n C dX11_ask_7 rfl rfl ?_
    refine g_if_lt (tgt := 16) C dX11_ask_8 (by decide) hf (fun hf => ?_) (fun hf => ?_)
    · refine g_ldc C k80 dX11_ask_16 ?_
      obtain ⟨rfl, rfl⟩ := gs2 hf
      exact g_iret C dX11_ask_18 hr hlk
    · refine g_iload_n C dX11_ask_11 rfl rfl ?_
      refine g_iconst (v := 1) C dX11_ask_12 (by decide) ?_
      refine g_icmp_le (tgt := 19) C dX11_ask_13 (by decide) hf (fun hf => ?_) (fun hf => ?_)
      · refine g_aload_n C dX11_ask_19 rfl rfl ?_
        refine g_getR (i := 5) (j := 5) C dX11_ask_20 (L0 hL (by decide) (by decide)) c10 rfl (by decide) f24 (fun _ h9 => h9) (LR0_5 hL (by decide) (by decide)) ?_
        obtain ⟨z2, hz2, hf⟩ := gbind hf ho
        refine g_callV C dX11_ask_23 (m_X9_empty l X N _ _ _  (gLay.sub hL (by decide) (by decide))  z2 hz2) gEin0 (cwV 0 C.2.2.2.2.1 gX11_ask_X9_empty rfl rfl rfl (by decide +kernel) ⟨Nat.le_of_ble_eq_true rfl, Nat.le_of_ble_eq_true rfl⟩) (L3 hL (by decide) (by decide)) (by decide) rfl rfl rfl (Nat.le_of_ble_eq_true rfl) ⟨Nat.le_of_ble_eq_true rfl, Nat.le_of_ble_eq_true rfl⟩ ?_
        refine g_aload_n C dX11_ask_26 rfl rfl ?_
        refine g_getR (i := 4) (j := 4) C dX11_ask_27 (L0 hL (by decide) (by decide)) c10 rfl (by decide) f17 (fun _ h9 => h9) (LR0_4 hL (by decide) (by decide)) ?_
        refine g_iload_n C dX11_ask_30 rfl rfl ?_
        refine g_aald 3 C dX11_ask_31 (by decide) (L2 hL (by decide) (by decide)) rfl rfl ho hf (fun hf => ?_)
        refine g_split hf (fun hnw3 hf => ?_) (fun w3 hsw3 hf => ?_)
        · refine g_astore_nN C dX11_ask_32 rfl (Nat.le_of_ble_eq_true rfl) rfl rfl ?_
          refine g_aload_nN C dX11_ask_33 rfl rfl ?_
          refine g_ifnonnullN C dX11_ask_34 ?_
          refine g_aload_n C dX11_ask_37 rfl rfl ?_
          refine g_iconst (v := 1) C dX11_ask_38 (by decide) ?_
          obtain ⟨z4, hz4, hf⟩ := gbind hf ho
          refine g_callV C dX11_ask_39 (m_X11_found l X N _ _ _  (gLay.sub hL (by decide) (by decide)) _ z4.1 z4.2 hz4) gEin0 (cwV 1 C.2.2.2.2.1 gX11_ask_X11_found rfl rfl rfl (by decide +kernel) ⟨Nat.le_of_ble_eq_true rfl, Nat.le_of_ble_eq_true rfl⟩) (L0 hL (by decide) (by decide)) (by decide) rfl rfl rfl (Nat.le_of_ble_eq_true rfl) ⟨Nat.le_of_ble_eq_true rfl, Nat.le_of_ble_eq_true rfl⟩ ?_
          obtain ⟨rfl, rfl⟩ := gs2 hf
          exact g_iret C dX11_ask_42 hr hlk
        · obtain ⟨hww3, hf⟩ := gcase hf ho
          refine g_astore_n C dX11_ask_32 rfl (Nat.le_of_ble_eq_true rfl) rfl rfl ?_
          refine g_aload_n C dX11_ask_33 rfl rfl ?_
          refine g_ifnonnull (tgt := 43) C dX11_ask_34 (by decide) ?_
          refine g_aload_n C dX11_ask_43 rfl rfl ?_
          refine g_iload_n C dX11_ask_44 rfl rfl ?_
          refine g_join (fun z5 => []) (fun z5 => [.int z5.1, .ref (X.1 + 0)]) (fun z5 => z5.2) 67 hf ho (fun z5 hf => ?_) (fun o1 hf ho hkz5 => ?_)
          · obtain ⟨z16, hz16, hf⟩ := gbind hf ho
            refine g_callV C dX11_ask_67 (m_X11_fine l X N _ _ _  (gLay.sub hL (by decide) (by decide)) _ z16.1 z16.2 hz16) gEin0 (cwV 1 C.2.2.2.2.1 gX11_ask_X11_fine rfl rfl rfl (by decide +kernel) ⟨Nat.le_of_ble_eq_true rfl, Nat.le_of_ble_eq_true rfl⟩) (L0 hL (by decide) (by decide)) (by decide) rfl rfl rfl (Nat.le_of_ble_eq_true rfl) ⟨Nat.le_of_ble_eq_true rfl, Nat.le_of_ble_eq_true rfl⟩ ?_
            obtain ⟨rfl, rfl⟩ := gs2 hf
            exact g_iret C dX11_ask_70 hr hlk
          · refine g_if_ne (tgt := 59) C dX11_ask_45 (by decide) hf (fun hf => ?_) (fun hf => ?_)
            · refine g_aload_n C dX11_ask_59 rfl rfl ?_
              refine g_aload_n C dX11_ask_60 rfl rfl ?_
              refine g_getR (i := 5) (j := 5) C dX11_ask_61 (L0 hL (by decide) (by decide)) c10 rfl (by decide) f24 (fun _ h9 => h9) (LR0_5 hL (by decide) (by decide)) ?_
              rcases gKb_k (gW_kb hww3) with hk6 | hk6 | hk6 | hk6
              · rw [if_pos (gK_of hk6)] at hf
                obtain ⟨z7, hz7, hf⟩ := gbind hf ho
                refine g_callU (k := 1) C dX11_ask_64 (m_X10_signAsked l X N _ _ _  (gLay.sub hL (by decide) (by decide)) _ z7.1 z7.2 hz7) gEin0 (va_cwU 1 C.2.2.2.2.1 gX11_ask_X10_signAsked_u230X1 rfl rfl rfl rfl (by decide +kernel) ⟨Nat.le_of_ble_eq_true rfl, Nat.le_of_ble_eq_true rfl⟩) hk6 (by decide) rfl rfl rfl (Nat.le_of_ble_eq_true rfl) ⟨Nat.le_of_ble_eq_true rfl, Nat.le_of_ble_eq_true rfl⟩ ?_
                have hx := hkz5 _ hf.symm
                refine g_sub ?_ hx
                exact trivial
              · rw [if_neg (by rw [gK_of hk6]; decide), if_pos (gK_of hk6)] at hf
                obtain ⟨z8, hz8, hf⟩ := gbind hf ho
                refine g_callU (k := 3) C dX11_ask_64 (m_X3_signAsked l X N _ _ _  (gLay.sub hL (by decide) (by decide)) _ z8.1 z8.2 hz8) gEin0 (va_cwO 1 C.2.2.2.2.1 gX11_ask_X3_signAsked_u230X3 rfl rfl rfl (b0 := cX10_signAsked) (m0 := 2) (r0 := (some .int)) (by decide +kernel) (by decide +kernel) ⟨Nat.le_of_ble_eq_true rfl, Nat.le_of_ble_eq_true rfl⟩) hk6 (by decide) rfl rfl rfl (Nat.le_of_ble_eq_true rfl) ⟨Nat.le_of_ble_eq_true rfl, Nat.le_of_ble_eq_true rfl⟩ ?_
                have hx := hkz5 _ hf.symm
                refine g_sub ?_ hx
                exact trivial
              · rw [if_neg (by rw [gK_of hk6]; decide), if_neg (by rw [gK_of hk6]; decide), if_pos (gK_of hk6)] at hf
                obtain ⟨z9, hz9, hf⟩ := gbind hf ho
                refine g_callU (k := 4) C dX11_ask_64 (m_X4_signAsked l X N _ _ _  (gLay.sub hL (by decide) (by decide)) _ z9.1 z9.2 hz9) gEin0 (va_cwO 1 C.2.2.2.2.1 gX11_ask_X4_signAsked_u230X4 rfl rfl rfl (b0 := cX10_signAsked) (m0 := 2) (r0 := (some .int)) (by decide +kernel) (by decide +kernel) ⟨Nat.le_of_ble_eq_true rfl, Nat.le_of_ble_eq_true rfl⟩) hk6 (by decide) rfl rfl rfl (Nat.le_of_ble_eq_true rfl) ⟨Nat.le_of_ble_eq_true rfl, Nat.le_of_ble_eq_true rfl⟩ ?_
                have hx := hkz5 _ hf.symm
                refine g_sub ?_ hx
                exact trivial
              · rw [if_neg (by rw [gK_of hk6]; decide), if_neg (by rw [gK_of hk6]; decide), if_neg (by rw [gK_of hk6]; decide)] at hf
                obtain ⟨z10, hz10, hf⟩ := gbind hf ho
                refine g_callU (k := 7) C dX11_ask_64 (m_X7_signAsked l X N _ _ _  (gLay.sub hL (by decide) (by decide)) _ z10.1 z10.2 hz10) gEin0 (va_cwO 1 C.2.2.2.2.1 gX11_ask_X7_signAsked_u230X7 rfl rfl rfl (b0 := cX10_signAsked) (m0 := 2) (r0 := (some .int)) (by decide +kernel) (by decide +kernel) ⟨Nat.le_of_ble_eq_true rfl, Nat.le_of_ble_eq_true rfl⟩) hk6 (by decide) rfl rfl rfl (Nat.le_of_ble_eq_true rfl) ⟨Nat.le_of_ble_eq_true rfl, Nat.le_of_ble_eq_true rfl⟩ ?_
                have hx := hkz5 _ hf.symm
                refine g_sub ?_ hx
                exact trivial
            · refine g_aload_n C dX11_ask_48 rfl rfl ?_
              refine g_aload_n C dX11_ask_49 rfl rfl ?_
              refine g_getR (i := 5) (j := 5) C dX11_ask_50 (L0 hL (by decide) (by decide)) c10 rfl (by decide) f24 (fun _ h9 => h9) (LR0_5 hL (by decide) (by decide)) ?_
              rcases gKb_k (gW_kb hww3) with hk11 | hk11 | hk11 | hk11
              · rw [if_pos (gK_of hk11)] at hf
                obtain ⟨z12, hz12, hf⟩ := gbind hf ho
                refine g_callU (k := 1) C dX11_ask_53 (m_X1_sizeAsked l X N _ _ _  (gLay.sub hL (by decide) (by decide)) _ z12.1 z12.2 hz12) gEin0 (va_cwO 1 C.2.2.2.2.1 gX11_ask_X1_sizeAsked_u226X1 rfl rfl rfl (b0 := cX10_sizeAsked) (m0 := 2) (r0 := (some .int)) (by decide +kernel) (by decide +kernel) ⟨Nat.le_of_ble_eq_true rfl, Nat.le_of_ble_eq_true rfl⟩) hk11 (by decide) rfl rfl rfl (Nat.le_of_ble_eq_true rfl) ⟨Nat.le_of_ble_eq_true rfl, Nat.le_of_ble_eq_true rfl⟩ ?_
                refine g_goto (tgt := 67) C dX11_ask_56 (by decide) ?_
                have hx := hkz5 _ hf.symm
                refine g_sub ?_ hx
                exact trivial
              · rw [if_neg (by rw [gK_of hk11]; decide), if_pos (gK_of hk11)] at hf
                obtain ⟨z13, hz13, hf⟩ := gbind hf ho
                refine g_callU (k := 3) C dX11_ask_53 (m_X10_sizeAsked l X N _ _ _  (gLay.sub hL (by decide) (by decide)) _ z13.1 z13.2 hz13) gEin0 (va_cwU 1 C.2.2.2.2.1 gX11_ask_X10_sizeAsked_u226X3 rfl rfl rfl rfl (by decide +kernel) ⟨Nat.le_of_ble_eq_true rfl, Nat.le_of_ble_eq_true rfl⟩) hk11 (by decide) rfl rfl rfl (Nat.le_of_ble_eq_true rfl) ⟨Nat.le_of_ble_eq_true rfl, Nat.le_of_ble_eq_true rfl⟩ ?_
                refine g_goto (tgt := 67) C dX11_ask_56 (by decide) ?_
                have hx := hkz5 _ hf.symm
                refine g_sub ?_ hx
                exact trivial
              · rw [if_neg (by rw [gK_of hk11]; decide), if_neg (by rw [gK_of hk11]; decide), if_pos (gK_of hk11)] at hf
                obtain ⟨z14, hz14, hf⟩ := gbind hf ho
                refine g_callU (k := 4) C dX11_ask_53 (m_X4_sizeAsked l X N _ _ _  (gLay.sub hL (by decide) (by decide)) _ z14.1 z14.2 hz14) gEin0 (va_cwO 1 C.2.2.2.2.1 gX11_ask_X4_sizeAsked_u226X4 rfl rfl rfl (b0 := cX10_sizeAsked) (m0 := 2) (r0 := (some .int)) (by decide +kernel) (by decide +kernel) ⟨Nat.le_of_ble_eq_true rfl, Nat.le_of_ble_eq_true rfl⟩) hk11 (by decide) rfl rfl rfl (Nat.le_of_ble_eq_true rfl) ⟨Nat.le_of_ble_eq_true rfl, Nat.le_of_ble_eq_true rfl⟩ ?_
                refine g_goto (tgt := 67) C dX11_ask_56 (by decide) ?_
                have hx := hkz5 _ hf.symm
                refine g_sub ?_ hx
                exact trivial
              · rw [if_neg (by rw [gK_of hk11]; decide), if_neg (by rw [gK_of hk11]; decide), if_neg (by rw [gK_of hk11]; decide)] at hf
                obtain ⟨z15, hz15, hf⟩ := gbind hf ho
                refine g_callU (k := 7) C dX11_ask_53 (m_X7_sizeAsked l X N _ _ _  (gLay.sub hL (by decide) (by decide)) _ z15.1 z15.2 hz15) gEin0 (va_cwO 1 C.2.2.2.2.1 gX11_ask_X7_sizeAsked_u226X7 rfl rfl rfl (b0 := cX10_sizeAsked) (m0 := 2) (r0 := (some .int)) (by decide +kernel) (by decide +kernel) ⟨Nat.le_of_ble_eq_true rfl, Nat.le_of_ble_eq_true rfl⟩) hk11 (by decide) rfl rfl rfl (Nat.le_of_ble_eq_true rfl) ⟨Nat.le_of_ble_eq_true rfl, Nat.le_of_ble_eq_true rfl⟩ ?_
                refine g_goto (tgt := 67) C dX11_ask_56 (by decide) ?_
                have hx := hkz5 _ hf.symm
                refine g_sub ?_ hx
                exact trivial
      · refine g_ldc C k80 dX11_ask_16 ?_
        obtain ⟨rfl, rfl⟩ := gs2 hf
        exact g_iret C dX11_ask_18 hr hlk
set_option maxRecDepth 100000 in
set_option maxHeartbeats 8000000 in
theorem m_X11_trace (l : Launch) (X : gX) (N : Nat) (I : gI) (R : gR) (S : gS) (hL : gLay 0 91 R S) (a0 : Int32) (v : Int32) (hf : f_X11_trace N I R S a0 = some v) : gM l yX11_trace wsX11_trace { frames := 1, cells := 0, slots := 0, locals := 21 } X gE0 [.ref (X.1 + 0), .int a0] I R S (some (.int v)) I R S 0 0 := by
  unfold f_X11_trace at hf
  refine gM_of (cc := cX11_trace) (own := RX11) (maxL := 2) (ret := (some .int)) (by decide) rfl rfl (Nat.le_of_ble_eq_true rfl) ?_
  intro p e s m args below meth c C hr hlk hnm hE
  have ho : (some v) ≠ none := fun h => by cases h
  have f24 := C.2.2.2.2.1 (.fieldLink RX11 24 "TimesByPowers" "steps" "LTimesByPowers$Trace;") (by decide +kernel)
  have c10 : gCl wsX11_trace 10 RX11 TX11 8 := ⟨by decide, rfl, rfl, by decide +kernel⟩
  have k132 := C.2.2.2.2.1 (.constant RX11 132 (-1000000)) (by decide +kernel)
  have f234 := C.2.2.2.2.1 (.fieldLink RX11 234 "TimesByPowers$Trace" "numbers" "[I") (by decide +kernel)
  have c9 : gCl wsX11_trace 9 RX9 TX9 2 := ⟨by decide, rfl, rfl, by decide +kernel⟩
  refine g_aload_n C dX11_trace_0 rfl rfl ?_
  refine g_getR (i := 5) (j := 5) C dX11_trace_1 (L0 hL (by decide) (by decide)) c10 rfl (by decide) f24 (fun _ h9 => h9) (LR0_5 hL (by decide) (by decide)) ?_
  refine g_iload_n C dX11_trace_4 rfl rfl ?_
  obtain ⟨z1, hz1, hf⟩ := gbind hf ho
  refine g_callV C dX11_trace_5 (m_X9_has l X N _ _ _  (gLay.sub hL (by decide) (by decide)) _ z1 hz1) gEin0 (cwV 1 C.2.2.2.2.1 gX11_trace_X9_has rfl rfl rfl (by decide +kernel) ⟨Nat.le_of_ble_eq_true rfl, Nat.le_of_ble_eq_true rfl⟩) (L3 hL (by decide) (by decide)) (by decide) rfl rfl rfl (Nat.le_of_ble_eq_true rfl) ⟨Nat.le_of_ble_eq_true rfl, Nat.le_of_ble_eq_true rfl⟩ ?_
  refine g_if_eq (tgt := 23) C dX11_trace_8 (by decide) hf (fun hf => ?_) (fun hf => ?_)
  · refine g_ldc C k132 dX11_trace_23 ?_
    obtain rfl := gs1 hf
    exact g_iret C dX11_trace_25 hr hlk
  · refine g_aload_n C dX11_trace_11 rfl rfl ?_
    refine g_getR (i := 5) (j := 5) C dX11_trace_12 (L0 hL (by decide) (by decide)) c10 rfl (by decide) f24 (fun _ h9 => h9) (LR0_5 hL (by decide) (by decide)) ?_
    refine g_getR (i := 0) (j := 0) C dX11_trace_15 (L3 hL (by decide) (by decide)) c9 rfl (by decide) f234 (fun _ h9 => h9) (LR3_0 hL (by decide) (by decide)) ?_
    refine g_iload_n C dX11_trace_18 rfl rfl ?_
    refine g_iald C dX11_trace_19 (L4 hL (by decide) (by decide)) ho hf (fun hf => ?_)
    refine g_goto (tgt := 25) C dX11_trace_20 (by decide) ?_
    obtain rfl := gs1 hf
    exact g_iret C dX11_trace_25 hr hlk
set_option maxRecDepth 100000 in
set_option maxHeartbeats 8000000 in
theorem m_X11_rowsThere (l : Launch) (X : gX) (N : Nat) (I : gI) (R : gR) (S : gS) (hL : gLay 0 91 R S)  (v : Int32) (hf : f_X11_rowsThere N I R S  = some v) : gM l yX11_rowsThere wsX11_rowsThere { frames := 1, cells := 0, slots := 0, locals := 20 } X gE0 [.ref (X.1 + 0)] I R S (some (.int v)) I R S 0 0 := by
  unfold f_X11_rowsThere at hf
  refine gM_of (cc := cX11_rowsThere) (own := RX11) (maxL := 3) (ret := (some .int)) (by decide) rfl rfl (Nat.le_of_ble_eq_true rfl) ?_
  intro p e s m args below meth c C hr hlk hnm hE
  have ho : (some v) ≠ none := fun h => by cases h
  have f11 := C.2.2.2.2.1 (.fieldLink RX11 11 "TimesByPowers" "rows" "[LTimesByPowers$Row;") (by decide +kernel)
  have c10 : gCl wsX11_rowsThere 10 RX11 TX11 8 := ⟨by decide, rfl, rfl, by decide +kernel⟩
  refine g_iconst (v := 0) C dX11_rowsThere_0 (by decide) ?_
  refine g_istore_n C dX11_rowsThere_1 rfl (Nat.le_of_ble_eq_true rfl) rfl rfl ?_
  refine g_iconst (v := 0) C dX11_rowsThere_2 (by decide) ?_
  refine g_istore_n C dX11_rowsThere_3 rfl (Nat.le_of_ble_eq_true rfl) rfl rfl ?_
  refine g_loop (fun z1 => [(0, .ref (X.1 + 0)), (1, .int z1.1), (2, .int z1.2)]) (fun z1 => I) (fun r2 => [(1, .int r2)]) (fun r2 => I) 36 hf ho (And.intro rfl (And.intro rfl (And.intro rfl trivial))) rfl (fun r2 hf => ?_) (fun z1 o1 hf ho hkz1 hez1 => ?_)
  · refine g_iload_n C dX11_rowsThere_36 rfl rfl ?_
    obtain rfl := gs1 hf
    exact g_iret C dX11_rowsThere_37 hr hlk
  · refine g_iload_n C dX11_rowsThere_4 rfl rfl ?_
    refine g_bipush (v := 8) C dX11_rowsThere_5 (by decide) ?_
    refine g_icmp_ge (tgt := 36) C dX11_rowsThere_7 (by decide) hf (fun hf => ?_) (fun hf => ?_)
    · have hx := hez1 _ hf.symm
      refine g_sub ?_ hx
      exact (And.intro rfl trivial)
    · refine g_iload_n C dX11_rowsThere_10 rfl rfl ?_
      refine g_aload_n C dX11_rowsThere_11 rfl rfl ?_
      refine g_getR (i := 3) (j := 3) C dX11_rowsThere_12 (L0 hL (by decide) (by decide)) c10 rfl (by decide) f11 (fun _ h9 => h9) (LR0_3 hL (by decide) (by decide)) ?_
      refine g_iload_n C dX11_rowsThere_15 rfl rfl ?_
      refine g_aaldG 2 (fun j => 75 + 2 * j) C dX11_rowsThere_16 (by decide) (L1 hL (by decide) (by decide)) rfl rfl (fun j hj => LG1 hL (by decide) (by decide) hj) ho hf (fun hj3 hf => ?_)
      obtain ⟨z4, hz4, hf⟩ := gbind hf ho
      refine g_callV C dX11_rowsThere_17 (m_X5_isMissing l X N _ _ _   _ (LH1 hL (by decide) (by decide) hj3) z4 hz4) gEin0 (cwV 0 C.2.2.2.2.1 gX11_rowsThere_X5_isMissing rfl rfl rfl (by decide +kernel) ⟨Nat.le_of_ble_eq_true rfl, Nat.le_of_ble_eq_true rfl⟩) ((LH1 hL (by decide) (by decide) hj3)).1 (by decide) rfl rfl rfl (Nat.le_of_ble_eq_true rfl) ⟨Nat.le_of_ble_eq_true rfl, Nat.le_of_ble_eq_true rfl⟩ ?_
      refine g_if_eq (tgt := 27) C dX11_rowsThere_20 (by decide) hf (fun hf => ?_) (fun hf => ?_)
      · refine g_iconst (v := 1) C dX11_rowsThere_27 (by decide) ?_
        refine g_iadd C dX11_rowsThere_28 ?_
        refine g_istore_n C dX11_rowsThere_29 rfl (Nat.le_of_ble_eq_true rfl) rfl rfl ?_
        refine g_iinc (d := 1) C dX11_rowsThere_30 rfl (by decide) rfl (Nat.le_of_ble_eq_true rfl) rfl rfl ?_
        refine g_goto (tgt := 4) C dX11_rowsThere_33 (by decide) ?_
        have hx := hkz1 _ hf.symm
        refine g_sub ?_ hx
        exact (And.intro rfl (And.intro rfl (And.intro rfl trivial)))
      · refine g_iconst (v := 0) C dX11_rowsThere_23 (by decide) ?_
        refine g_goto (tgt := 28) C dX11_rowsThere_24 (by decide) ?_
        refine g_iadd C dX11_rowsThere_28 ?_
        refine g_istore_n C dX11_rowsThere_29 rfl (Nat.le_of_ble_eq_true rfl) rfl rfl ?_
        refine g_iinc (d := 1) C dX11_rowsThere_30 rfl (by decide) rfl (Nat.le_of_ble_eq_true rfl) rfl rfl ?_
        refine g_goto (tgt := 4) C dX11_rowsThere_33 (by decide) ?_
        have hx := hkz1 _ hf.symm
        refine g_sub ?_ hx
        exact (And.intro rfl (And.intro rfl (And.intro rfl trivial)))
set_option maxRecDepth 100000 in
set_option maxHeartbeats 8000000 in
theorem m_X11_worldsOf (l : Launch) (X : gX) (N : Nat) (I : gI) (R : gR) (S : gS) (hL : gLay 0 91 R S) (a0 : Int32) (v : Int32) (hf : f_X11_worldsOf N I R S a0 = some v) : gM l yX11_worldsOf wsX11_worldsOf { frames := 1, cells := 0, slots := 0, locals := 21 } X gEN [.ref (X.1 + 0), .int a0] I R S (some (.int v)) I R S 0 0 := by
  unfold f_X11_worldsOf at hf
  refine gM_of (cc := cX11_worldsOf) (own := RX11) (maxL := 4) (ret := (some .int)) (by decide) rfl rfl (Nat.le_of_ble_eq_true rfl) ?_
  intro p e s m args below meth c C hr hlk hnm hE
  have ho : (some v) ≠ none := fun h => by cases h
  have f17 := C.2.2.2.2.1 (.fieldLink RX11 17 "TimesByPowers" "shelf" "[LTimesByPowers$World;") (by decide +kernel)
  have c10 : gCl wsX11_worldsOf 10 RX11 TX11 8 := ⟨by decide, rfl, rfl, by decide +kernel⟩
  refine g_iconst (v := 0) C dX11_worldsOf_0 (by decide) ?_
  refine g_istore_n C dX11_worldsOf_1 rfl (Nat.le_of_ble_eq_true rfl) rfl rfl ?_
  refine g_iconst (v := 0) C dX11_worldsOf_2 (by decide) ?_
  refine g_istore_n C dX11_worldsOf_3 rfl (Nat.le_of_ble_eq_true rfl) rfl rfl ?_
  refine g_loop (fun z1 => [(0, .ref (X.1 + 0)), (1, .int a0), (2, .int z1.1), (3, .int z1.2)]) (fun z1 => I) (fun r2 => [(2, .int r2)]) (fun r2 => I) 37 hf ho (And.intro rfl (And.intro rfl (And.intro rfl (And.intro rfl trivial)))) rfl (fun r2 hf => ?_) (fun z1 o1 hf ho hkz1 hez1 => ?_)
  · refine g_iload_n C dX11_worldsOf_37 rfl rfl ?_
    obtain rfl := gs1 hf
    exact g_iret C dX11_worldsOf_38 hr hlk
  · refine g_iload_n C dX11_worldsOf_4 rfl rfl ?_
    refine g_bipush (v := 10) C dX11_worldsOf_5 (by decide) ?_
    refine g_icmp_ge (tgt := 37) C dX11_worldsOf_7 (by decide) hf (fun hf => ?_) (fun hf => ?_)
    · have hx := hez1 _ hf.symm
      refine g_sub ?_ hx
      exact (And.intro rfl trivial)
    · refine g_iload_n C dX11_worldsOf_10 rfl rfl ?_
      refine g_aload_n C dX11_worldsOf_11 rfl rfl ?_
      refine g_getR (i := 4) (j := 4) C dX11_worldsOf_12 (L0 hL (by decide) (by decide)) c10 rfl (by decide) f17 (fun _ h9 => h9) (LR0_4 hL (by decide) (by decide)) ?_
      refine g_iload_n C dX11_worldsOf_15 rfl rfl ?_
      refine g_aald 3 C dX11_worldsOf_16 (by decide) (L2 hL (by decide) (by decide)) rfl rfl ho hf (fun hf => ?_)
      refine g_iload_n C dX11_worldsOf_17 rfl rfl ?_
      obtain ⟨z3, hz3, hf⟩ := gbind hf ho
      refine g_callS C dX11_worldsOf_18 (m_X11_isOf l X N _ _ _  (gLay.sub hL (by decide) (by decide)) _ _ z3 hz3) (gEN_in hE) (va_cwS 2 C.2.2.2.2.1 gX11_worldsOf_X11_isOf rfl rfl rfl (by decide +kernel) ⟨Nat.le_of_ble_eq_true rfl, Nat.le_of_ble_eq_true rfl⟩) rfl rfl (Nat.le_of_ble_eq_true rfl) ⟨Nat.le_of_ble_eq_true rfl, Nat.le_of_ble_eq_true rfl⟩ ?_
      refine g_if_eq (tgt := 28) C dX11_worldsOf_21 (by decide) hf (fun hf => ?_) (fun hf => ?_)
      · refine g_iconst (v := 0) C dX11_worldsOf_28 (by decide) ?_
        refine g_iadd C dX11_worldsOf_29 ?_
        refine g_istore_n C dX11_worldsOf_30 rfl (Nat.le_of_ble_eq_true rfl) rfl rfl ?_
        refine g_iinc (d := 1) C dX11_worldsOf_31 rfl (by decide) rfl (Nat.le_of_ble_eq_true rfl) rfl rfl ?_
        refine g_goto (tgt := 4) C dX11_worldsOf_34 (by decide) ?_
        have hx := hkz1 _ hf.symm
        refine g_sub ?_ hx
        exact (And.intro rfl (And.intro rfl (And.intro rfl (And.intro rfl trivial))))
      · refine g_iconst (v := 1) C dX11_worldsOf_24 (by decide) ?_
        refine g_goto (tgt := 29) C dX11_worldsOf_25 (by decide) ?_
        refine g_iadd C dX11_worldsOf_29 ?_
        refine g_istore_n C dX11_worldsOf_30 rfl (Nat.le_of_ble_eq_true rfl) rfl rfl ?_
        refine g_iinc (d := 1) C dX11_worldsOf_31 rfl (by decide) rfl (Nat.le_of_ble_eq_true rfl) rfl rfl ?_
        refine g_goto (tgt := 4) C dX11_worldsOf_34 (by decide) ?_
        have hx := hkz1 _ hf.symm
        refine g_sub ?_ hx
        exact (And.intro rfl (And.intro rfl (And.intro rfl (And.intro rfl trivial))))
set_option maxRecDepth 100000 in
set_option maxHeartbeats 8000000 in
theorem m_X11_count (l : Launch) (X : gX) (N : Nat) (I : gI) (R : gR) (S : gS) (hL : gLay 0 91 R S) (a0 : Int32) (v : Int32) (hf : f_X11_count N I R S a0 = some v) : gM l yX11_count wsX11_count { frames := 2, cells := 0, slots := 0, locals := 44 } X gEN [.ref (X.1 + 0), .int a0] I R S (some (.int v)) I R S 0 0 := by
  unfold f_X11_count at hf
  refine gM_of (cc := cX11_count) (own := RX11) (maxL := 2) (ret := (some .int)) (by decide) rfl rfl (Nat.le_of_ble_eq_true rfl) ?_
  intro p e s m args below meth c C hr hlk hnm hE
  have ho : (some v) ≠ none := fun h => by cases h
  have f50 := C.2.2.2.2.1 (.fieldLink RX11 50 "TimesByPowers" "elements" "LTimesByPowers$Field;") (by decide +kernel)
  have c10 : gCl wsX11_count 10 RX11 TX11 8 := ⟨by decide, rfl, rfl, by decide +kernel⟩
  have f243 := C.2.2.2.2.1 (.fieldLink RX11 243 "TimesByPowers$Field" "size" "I") (by decide +kernel)
  have c2 : gCl wsX11_count 2 RX2 TX2 8 := ⟨by decide, rfl, rfl, by decide +kernel⟩
  have f246 := C.2.2.2.2.1 (.fieldLink RX11 246 "TimesByPowers$Field" "modulus" "I") (by decide +kernel)
  have k80 := C.2.2.2.2.1 (.constant RX11 80 (-1000001)) (by decide +kernel)
  refine g_iload_n C dX11_count_0 rfl rfl ?_
  by_cases ht1_0 : a0 = (0 : Int32)
  · rw [if_pos ht1_0] at hf
    refine g_tabC (v := (0 : Int32)) (tgt := 48) C dX11_count_1 ht1_0 (by decide) (by decide) rfl (by decide) ?_
    refine g_aload_n C dX11_count_48 rfl rfl ?_
    obtain ⟨z2, hz2, hf⟩ := gbind hf ho
    refine g_callV C dX11_count_49 (m_X11_rowsThere l X N _ _ _  (gLay.sub hL (by decide) (by decide))  z2 hz2) gEin0 (cwV 0 C.2.2.2.2.1 gX11_count_X11_rowsThere rfl rfl rfl (by decide +kernel) ⟨Nat.le_of_ble_eq_true rfl, Nat.le_of_ble_eq_true rfl⟩) (L0 hL (by decide) (by decide)) (by decide) rfl rfl rfl (Nat.le_of_ble_eq_true rfl) ⟨Nat.le_of_ble_eq_true rfl, Nat.le_of_ble_eq_true rfl⟩ ?_
    obtain rfl := gs1 hf
    exact g_iret C dX11_count_52 hr hlk
  · rw [if_neg ht1_0] at hf
    by_cases ht1_1 : a0 = (1 : Int32)
    · rw [if_pos ht1_1] at hf
      refine g_tabC (v := (1 : Int32)) (tgt := 53) C dX11_count_1 ht1_1 (by decide) (by decide) rfl (by decide) ?_
      refine g_aload_n C dX11_count_53 rfl rfl ?_
      refine g_iconst (v := 0) C dX11_count_54 (by decide) ?_
      obtain ⟨z3, hz3, hf⟩ := gbind hf ho
      refine g_callV C dX11_count_55 (m_X11_worldsOf l X N _ _ _  (gLay.sub hL (by decide) (by decide)) _ z3 hz3) (gEN_in hE) (cwV 1 C.2.2.2.2.1 gX11_count_X11_worldsOf rfl rfl rfl (by decide +kernel) ⟨Nat.le_of_ble_eq_true rfl, Nat.le_of_ble_eq_true rfl⟩) (L0 hL (by decide) (by decide)) (by decide) rfl rfl rfl (Nat.le_of_ble_eq_true rfl) ⟨Nat.le_of_ble_eq_true rfl, Nat.le_of_ble_eq_true rfl⟩ ?_
      obtain rfl := gs1 hf
      exact g_iret C dX11_count_58 hr hlk
    · rw [if_neg ht1_1] at hf
      by_cases ht1_2 : a0 = (2 : Int32)
      · rw [if_pos ht1_2] at hf
        refine g_tabC (v := (2 : Int32)) (tgt := 59) C dX11_count_1 ht1_2 (by decide) (by decide) rfl (by decide) ?_
        refine g_aload_n C dX11_count_59 rfl rfl ?_
        refine g_iconst (v := 1) C dX11_count_60 (by decide) ?_
        obtain ⟨z4, hz4, hf⟩ := gbind hf ho
        refine g_callV C dX11_count_61 (m_X11_worldsOf l X N _ _ _  (gLay.sub hL (by decide) (by decide)) _ z4 hz4) (gEN_in hE) (cwV 1 C.2.2.2.2.1 gX11_count_X11_worldsOf rfl rfl rfl (by decide +kernel) ⟨Nat.le_of_ble_eq_true rfl, Nat.le_of_ble_eq_true rfl⟩) (L0 hL (by decide) (by decide)) (by decide) rfl rfl rfl (Nat.le_of_ble_eq_true rfl) ⟨Nat.le_of_ble_eq_true rfl, Nat.le_of_ble_eq_true rfl⟩ ?_
        obtain rfl := gs1 hf
        exact g_iret C dX11_count_64 hr hlk
      · rw [if_neg ht1_2] at hf
        by_cases ht1_3 : a0 = (3 : Int32)
        · rw [if_pos ht1_3] at hf
          refine g_tabC (v := (3 : Int32)) (tgt := 65) C dX11_count_1 ht1_3 (by decide) (by decide) rfl (by decide) ?_
          refine g_aload_n C dX11_count_65 rfl rfl ?_
          refine g_iconst (v := 2) C dX11_count_66 (by decide) ?_
          obtain ⟨z5, hz5, hf⟩ := gbind hf ho
          refine g_callV C dX11_count_67 (m_X11_worldsOf l X N _ _ _  (gLay.sub hL (by decide) (by decide)) _ z5 hz5) (gEN_in hE) (cwV 1 C.2.2.2.2.1 gX11_count_X11_worldsOf rfl rfl rfl (by decide +kernel) ⟨Nat.le_of_ble_eq_true rfl, Nat.le_of_ble_eq_true rfl⟩) (L0 hL (by decide) (by decide)) (by decide) rfl rfl rfl (Nat.le_of_ble_eq_true rfl) ⟨Nat.le_of_ble_eq_true rfl, Nat.le_of_ble_eq_true rfl⟩ ?_
          obtain rfl := gs1 hf
          exact g_iret C dX11_count_70 hr hlk
        · rw [if_neg ht1_3] at hf
          by_cases ht1_4 : a0 = (4 : Int32)
          · rw [if_pos ht1_4] at hf
            refine g_tabC (v := (4 : Int32)) (tgt := 71) C dX11_count_1 ht1_4 (by decide) (by decide) rfl (by decide) ?_
            refine g_aload_n C dX11_count_71 rfl rfl ?_
            refine g_iconst (v := 3) C dX11_count_72 (by decide) ?_
            obtain ⟨z6, hz6, hf⟩ := gbind hf ho
            refine g_callV C dX11_count_73 (m_X11_worldsOf l X N _ _ _  (gLay.sub hL (by decide) (by decide)) _ z6 hz6) (gEN_in hE) (cwV 1 C.2.2.2.2.1 gX11_count_X11_worldsOf rfl rfl rfl (by decide +kernel) ⟨Nat.le_of_ble_eq_true rfl, Nat.le_of_ble_eq_true rfl⟩) (L0 hL (by decide) (by decide)) (by decide) rfl rfl rfl (Nat.le_of_ble_eq_true rfl) ⟨Nat.le_of_ble_eq_true rfl, Nat.le_of_ble_eq_true rfl⟩ ?_
            obtain rfl := gs1 hf
            exact g_iret C dX11_count_76 hr hlk
          · rw [if_neg ht1_4] at hf
            by_cases ht1_5 : a0 = (5 : Int32)
            · rw [if_pos ht1_5] at hf
              refine g_tabC (v := (5 : Int32)) (tgt := 77) C dX11_count_1 ht1_5 (by decide) (by decide) rfl (by decide) ?_
              refine g_aload_n C dX11_count_77 rfl rfl ?_
              refine g_iconst (v := 4) C dX11_count_78 (by decide) ?_
              obtain ⟨z7, hz7, hf⟩ := gbind hf ho
              refine g_callV C dX11_count_79 (m_X11_worldsOf l X N _ _ _  (gLay.sub hL (by decide) (by decide)) _ z7 hz7) (gEN_in hE) (cwV 1 C.2.2.2.2.1 gX11_count_X11_worldsOf rfl rfl rfl (by decide +kernel) ⟨Nat.le_of_ble_eq_true rfl, Nat.le_of_ble_eq_true rfl⟩) (L0 hL (by decide) (by decide)) (by decide) rfl rfl rfl (Nat.le_of_ble_eq_true rfl) ⟨Nat.le_of_ble_eq_true rfl, Nat.le_of_ble_eq_true rfl⟩ ?_
              obtain rfl := gs1 hf
              exact g_iret C dX11_count_82 hr hlk
            · rw [if_neg ht1_5] at hf
              by_cases ht1_6 : a0 = (6 : Int32)
              · rw [if_pos ht1_6] at hf
                refine g_tabC (v := (6 : Int32)) (tgt := 83) C dX11_count_1 ht1_6 (by decide) (by decide) rfl (by decide) ?_
                refine g_aload_n C dX11_count_83 rfl rfl ?_
                refine g_getR (i := 0) (j := 0) C dX11_count_84 (L0 hL (by decide) (by decide)) c10 rfl (by decide) f50 (fun _ h9 => h9) (LR0_0 hL (by decide) (by decide)) ?_
                refine g_getI (i := 2) (j := 2) C dX11_count_87 (L6 hL (by decide) (by decide)) c2 rfl f243 (fun _ h9 => h9) ?_
                obtain rfl := gs1 hf
                exact g_iret C dX11_count_90 hr hlk
              · rw [if_neg ht1_6] at hf
                by_cases ht1_7 : a0 = (7 : Int32)
                · rw [if_pos ht1_7] at hf
                  refine g_tabC (v := (7 : Int32)) (tgt := 91) C dX11_count_1 ht1_7 (by decide) (by decide) rfl (by decide) ?_
                  refine g_aload_n C dX11_count_91 rfl rfl ?_
                  refine g_getR (i := 0) (j := 0) C dX11_count_92 (L0 hL (by decide) (by decide)) c10 rfl (by decide) f50 (fun _ h9 => h9) (LR0_0 hL (by decide) (by decide)) ?_
                  refine g_getI (i := 3) (j := 3) C dX11_count_95 (L6 hL (by decide) (by decide)) c2 rfl f246 (fun _ h9 => h9) ?_
                  obtain rfl := gs1 hf
                  exact g_iret C dX11_count_98 hr hlk
                · rw [if_neg ht1_7] at hf
                  refine g_tabD (cnt := 8) (tgt := 99) C dX11_count_1 (fun k hk => by have hq : k = 0 ∨ k = 1 ∨ k = 2 ∨ k = 3 ∨ k = 4 ∨ k = 5 ∨ k = 6 ∨ k = 7 := (by omega); rcases hq with rfl | rfl | rfl | rfl | rfl | rfl | rfl | rfl <;> assumption) (by decide) (by decide) ?_
                  refine g_ldc C k80 dX11_count_99 ?_
                  obtain rfl := gs1 hf
                  exact g_iret C dX11_count_101 hr hlk
set_option maxRecDepth 100000 in
set_option maxHeartbeats 8000000 in
theorem m_X11_status (l : Launch) (X : gX) (N : Nat) (I : gI) (R : gR) (S : gS) (hL : gLay 0 91 R S)  (v : Int32) (hf : f_X11_status N I R S  = some v) : gM l yX11_status wsX11_status { frames := 0, cells := 0, slots := 0, locals := 0 } X gE0 [.ref (X.1 + 0)] I R S (some (.int v)) I R S 0 0 := by
  unfold f_X11_status at hf
  refine gM_of (cc := cX11_status) (own := RX11) (maxL := 1) (ret := (some .int)) (by decide) rfl rfl (Nat.le_of_ble_eq_true rfl) ?_
  intro p e s m args below meth c C hr hlk hnm hE
  have ho : (some v) ≠ none := fun h => by cases h
  have f32 := C.2.2.2.2.1 (.fieldLink RX11 32 "TimesByPowers" "latest" "I") (by decide +kernel)
  have c10 : gCl wsX11_status 10 RX11 TX11 8 := ⟨by decide, rfl, rfl, by decide +kernel⟩
  refine g_aload_n C dX11_status_0 rfl rfl ?_
  refine g_getI (i := 7) (j := 7) C dX11_status_1 (L0 hL (by decide) (by decide)) c10 rfl f32 (fun _ h9 => h9) ?_
  obtain rfl := gs1 hf
  exact g_iret C dX11_status_4 hr hlk
set_option maxRecDepth 100000 in
set_option maxHeartbeats 8000000 in
theorem m_X12_in (l : Launch) (X : gX) (N : Nat) (I : gI) (R : gR) (S : gS) (hL : gLay 91 114 R S) (a0 : Int64) (a1 : Int64) (a2 : Int64) (v : Int32) (hf : f_X12_in N I R S a0 a1 a2 = some v) : gM l yX12_in wsX12_in { frames := 0, cells := 0, slots := 0, locals := 0 } X gE0 [.long a0, .long a1, .long a2] I R S (some (.int v)) I R S 0 0 := by
  unfold f_X12_in at hf
  refine gM_of (cc := cX12_in) (own := RX12) (maxL := 6) (ret := (some .boolean)) (by decide) rfl rfl (Nat.le_of_ble_eq_true rfl) ?_
  intro p e s m args below meth c C hr hlk hnm hE
  have ho : (some v) ≠ none := fun h => by cases h
  refine g_lload_n C dX12_in_0 rfl rfl ?_
  refine g_lload_n C dX12_in_1 rfl rfl ?_
  refine g_lcmp C dX12_in_2 ?_
  refine g_if_lt (tgt := 17) C dX12_in_3 (by decide) hf (fun hf => ?_) (fun hf => ?_)
  · refine g_iconst (v := 0) C dX12_in_17 (by decide) ?_
    obtain rfl := gs1 hf
    exact g_zret C dX12_in_18 hr hlk (by decide)
  · refine g_lload_n C dX12_in_6 rfl rfl ?_
    refine g_lload C dX12_in_7 rfl ?_
    refine g_lcmp C dX12_in_9 ?_
    refine g_if_gt (tgt := 17) C dX12_in_10 (by decide) hf (fun hf => ?_) (fun hf => ?_)
    · refine g_iconst (v := 0) C dX12_in_17 (by decide) ?_
      obtain rfl := gs1 hf
      exact g_zret C dX12_in_18 hr hlk (by decide)
    · refine g_iconst (v := 1) C dX12_in_13 (by decide) ?_
      refine g_goto (tgt := 18) C dX12_in_14 (by decide) ?_
      obtain rfl := gs1 hf
      exact g_zret C dX12_in_18 hr hlk (by decide)
set_option maxRecDepth 100000 in
set_option maxHeartbeats 8000000 in
theorem m_X12_found (l : Launch) (X : gX) (N : Nat) (I : gI) (R : gR) (S : gS) (hL : gLay 91 114 R S) (a0 : Int32) (v : Int32) (J : gI) (hf : f_X12_found N I R S a0 = some (v, J)) : gM l yX12_found wsX12_found { frames := 0, cells := 0, slots := 0, locals := 0 } X gE0 [.ref (X.1 + 91), .int a0] I R S (some (.int v)) J R S 0 0 := by
  unfold f_X12_found at hf
  refine gM_of (cc := cX12_found) (own := RX12) (maxL := 2) (ret := (some .int)) (by decide) rfl rfl (Nat.le_of_ble_eq_true rfl) ?_
  intro p e s m args below meth c C hr hlk hnm hE
  have ho : (some (v, J)) ≠ none := fun h => by cases h
  have f7 := C.2.2.2.2.1 (.fieldLink RX12 7 "TimesByPowersModel" "status" "I") (by decide +kernel)
  have c11 : gCl wsX12_found 11 RX12 TX12 29 := ⟨by decide, rfl, rfl, by decide +kernel⟩
  have k10 := C.2.2.2.2.1 (.constant RX12 10 (-1000010)) (by decide +kernel)
  refine g_aload_n C dX12_found_0 rfl rfl ?_
  refine g_iload_n C dX12_found_1 rfl rfl ?_
  refine g_putI (i := 1) (j := 1) C dX12_found_2 (L91 hL (by decide) (by decide)) c11 gy11 rfl f7 (fun _ h9 => h9) (Or.inl rfl) rfl ?_
  refine g_ldc C k10 dX12_found_5 ?_
  refine g_iload_n C dX12_found_7 rfl rfl ?_
  refine g_isub C dX12_found_8 ?_
  obtain ⟨rfl, rfl⟩ := gs2 hf
  exact g_iret C dX12_found_9 hr hlk
set_option maxRecDepth 100000 in
set_option maxHeartbeats 8000000 in
theorem m_X12_figures (l : Launch) (X : gX) (N : Nat) (I : gI) (R : gR) (S : gS) (hL : gLay 91 114 R S) (a0 : Int32) (a1 : Nat) (v : Int32) (J : gI) (hf : f_X12_figures N I R S a0 a1 = some (v, J)) : gM l yX12_figures wsX12_figures { frames := 0, cells := 0, slots := 0, locals := 0 } X gE0 [.ref (X.1 + 91), .int a0, .ref (X.1 + a1)] I R S (some (.int v)) J R S 0 0 := by
  unfold f_X12_figures at hf
  refine gM_of (cc := cX12_figures) (own := RX12) (maxL := 6) (ret := (some .int)) (by decide) rfl rfl (Nat.le_of_ble_eq_true rfl) ?_
  intro p e s m args below meth c C hr hlk hnm hE
  have ho : (some (v, J)) ≠ none := fun h => by cases h
  have f11 := C.2.2.2.2.1 (.fieldLink RX12 11 "TimesByPowersModel" "p" "I") (by decide +kernel)
  have c11 : gCl wsX12_figures 11 RX12 TX12 29 := ⟨by decide, rfl, rfl, by decide +kernel⟩
  refine g_iload_n C dX12_figures_0 rfl rfl ?_
  refine g_istore_n C dX12_figures_1 rfl (Nat.le_of_ble_eq_true rfl) rfl rfl ?_
  refine g_iconst (v := -1) C dX12_figures_2 (by decide) ?_
  refine g_istore C dX12_figures_3 (Nat.le_of_ble_eq_true rfl) rfl rfl ?_
  refine g_iconst (v := 0) C dX12_figures_5 (by decide) ?_
  refine g_istore C dX12_figures_6 (Nat.le_of_ble_eq_true rfl) rfl rfl ?_
  refine g_loop (fun z1 => [(0, .ref (X.1 + 91)), (2, .ref (X.1 + a1)), (3, .int z1.1), (4, .int z1.2.1), (5, .int z1.2.2.1)]) (fun z1 => z1.2.2.2) (fun r2 => [(4, .int r2.1)]) (fun r2 => r2.2) 54 hf ho (And.intro rfl (And.intro rfl (And.intro rfl (And.intro rfl (And.intro rfl trivial))))) rfl (fun r2 hf => ?_) (fun z1 o1 hf ho hkz1 hez1 => ?_)
  · refine g_iload C dX12_figures_54 rfl ?_
    obtain ⟨rfl, rfl⟩ := gs2 hf
    exact g_iret C dX12_figures_56 hr hlk
  · refine g_iload C dX12_figures_8 rfl ?_
    refine g_bipush (v := 16) C dX12_figures_10 (by decide) ?_
    refine g_icmp_ge (tgt := 54) C dX12_figures_12 (by decide) hf (fun hf => ?_) (fun hf => ?_)
    · have hx := hez1 _ hf.symm
      refine g_sub ?_ hx
      exact (And.intro rfl trivial)
    · refine g_aload_n C dX12_figures_15 rfl rfl ?_
      refine g_iload C dX12_figures_16 rfl ?_
      refine g_iload_n C dX12_figures_18 rfl rfl ?_
      refine g_aload_n C dX12_figures_19 rfl rfl ?_
      refine g_getI (i := 2) (j := 2) C dX12_figures_20 (L91 hL (by decide) (by decide)) c11 rfl f11 (fun _ h9 => h9) ?_
      refine g_irem C dX12_figures_23 ho hf (fun hf => ?_)
      refine g_iastD C dX12_figures_24 ho hf (fun hf => ?_)
      refine g_iload_n C dX12_figures_25 rfl rfl ?_
      refine g_aload_n C dX12_figures_26 rfl rfl ?_
      refine g_getI (i := 2) (j := 2) C dX12_figures_27 (L91 hL (by decide) (by decide)) c11 rfl f11 (fun _ h9 => h9) ?_
      refine g_idiv C dX12_figures_30 ho hf (fun hf => ?_)
      refine g_istore_n C dX12_figures_31 rfl (Nat.le_of_ble_eq_true rfl) rfl rfl ?_
      refine g_aload_n C dX12_figures_32 rfl rfl ?_
      refine g_iload C dX12_figures_33 rfl ?_
      refine g_ialdD C dX12_figures_35 ho hf (fun hf => ?_)
      refine g_if_eq (tgt := 44) C dX12_figures_36 (by decide) hf (fun hf => ?_) (fun hf => ?_)
      · refine g_iload C dX12_figures_44 rfl ?_
        refine g_istore C dX12_figures_46 (Nat.le_of_ble_eq_true rfl) rfl rfl ?_
        refine g_iinc (d := 1) C dX12_figures_48 rfl (by decide) rfl (Nat.le_of_ble_eq_true rfl) rfl rfl ?_
        refine g_goto (tgt := 8) C dX12_figures_51 (by decide) ?_
        have hx := hkz1 _ hf.symm
        refine g_sub ?_ hx
        exact (And.intro rfl (And.intro rfl (And.intro rfl (And.intro rfl (And.intro rfl trivial)))))
      · refine g_iload C dX12_figures_39 rfl ?_
        refine g_goto (tgt := 46) C dX12_figures_41 (by decide) ?_
        refine g_istore C dX12_figures_46 (Nat.le_of_ble_eq_true rfl) rfl rfl ?_
        refine g_iinc (d := 1) C dX12_figures_48 rfl (by decide) rfl (Nat.le_of_ble_eq_true rfl) rfl rfl ?_
        refine g_goto (tgt := 8) C dX12_figures_51 (by decide) ?_
        have hx := hkz1 _ hf.symm
        refine g_sub ?_ hx
        exact (And.intro rfl (And.intro rfl (And.intro rfl (And.intro rfl (And.intro rfl trivial)))))
set_option maxRecDepth 100000 in
set_option maxHeartbeats 8000000 in
theorem m_X12_power (l : Launch) (X : gX) (N : Nat) (I : gI) (R : gR) (S : gS) (hL : gLay 91 114 R S) (a0 : Int32) (a1 : Int32) (v : Int32) (hf : f_X12_power N I R S a0 a1 = some v) : gM l yX12_power wsX12_power { frames := 0, cells := 0, slots := 0, locals := 0 } X gE0 [.int a0, .int a1] I R S (some (.int v)) I R S 0 0 := by
  unfold f_X12_power at hf
  refine gM_of (cc := cX12_power) (own := RX12) (maxL := 4) (ret := (some .int)) (by decide) rfl rfl (Nat.le_of_ble_eq_true rfl) ?_
  intro p e s m args below meth c C hr hlk hnm hE
  have ho : (some v) ≠ none := fun h => by cases h
  refine g_iconst (v := 1) C dX12_power_0 (by decide) ?_
  refine g_istore_n C dX12_power_1 rfl (Nat.le_of_ble_eq_true rfl) rfl rfl ?_
  refine g_iconst (v := 0) C dX12_power_2 (by decide) ?_
  refine g_istore_n C dX12_power_3 rfl (Nat.le_of_ble_eq_true rfl) rfl rfl ?_
  refine g_loop (fun z1 => [(0, .int a0), (1, .int a1), (2, .int z1.1), (3, .int z1.2)]) (fun z1 => I) (fun r2 => [(2, .int r2)]) (fun r2 => I) 19 hf ho (And.intro rfl (And.intro rfl (And.intro rfl (And.intro rfl trivial)))) rfl (fun r2 hf => ?_) (fun z1 o1 hf ho hkz1 hez1 => ?_)
  · refine g_iload_n C dX12_power_19 rfl rfl ?_
    obtain rfl := gs1 hf
    exact g_iret C dX12_power_20 hr hlk
  · refine g_iload_n C dX12_power_4 rfl rfl ?_
    refine g_iload_n C dX12_power_5 rfl rfl ?_
    refine g_icmp_ge (tgt := 19) C dX12_power_6 (by decide) hf (fun hf => ?_) (fun hf => ?_)
    · have hx := hez1 _ hf.symm
      refine g_sub ?_ hx
      exact (And.intro rfl trivial)
    · refine g_iload_n C dX12_power_9 rfl rfl ?_
      refine g_iload_n C dX12_power_10 rfl rfl ?_
      refine g_imul C dX12_power_11 ?_
      refine g_istore_n C dX12_power_12 rfl (Nat.le_of_ble_eq_true rfl) rfl rfl ?_
      refine g_iinc (d := 1) C dX12_power_13 rfl (by decide) rfl (Nat.le_of_ble_eq_true rfl) rfl rfl ?_
      refine g_goto (tgt := 4) C dX12_power_16 (by decide) ?_
      have hx := hkz1 _ hf.symm
      refine g_sub ?_ hx
      exact (And.intro rfl (And.intro rfl (And.intro rfl (And.intro rfl trivial))))
set_option maxRecDepth 100000 in
set_option maxHeartbeats 8000000 in
theorem m_X12_codeOf (l : Launch) (X : gX) (N : Nat) (I : gI) (R : gR) (S : gS) (hL : gLay 91 114 R S) (a0 : Nat) (a1 : Int32) (v : Int32) (hf : f_X12_codeOf N I R S a0 a1 = some v) : gM l yX12_codeOf wsX12_codeOf { frames := 0, cells := 0, slots := 0, locals := 0 } X gE0 [.ref (X.1 + 91), .ref (X.1 + a0), .int a1] I R S (some (.int v)) I R S 0 0 := by
  unfold f_X12_codeOf at hf
  refine gM_of (cc := cX12_codeOf) (own := RX12) (maxL := 5) (ret := (some .int)) (by decide) rfl rfl (Nat.le_of_ble_eq_true rfl) ?_
  intro p e s m args below meth c C hr hlk hnm hE
  have ho : (some v) ≠ none := fun h => by cases h
  have f11 := C.2.2.2.2.1 (.fieldLink RX12 11 "TimesByPowersModel" "p" "I") (by decide +kernel)
  have c11 : gCl wsX12_codeOf 11 RX12 TX12 29 := ⟨by decide, rfl, rfl, by decide +kernel⟩
  refine g_iconst (v := 0) C dX12_codeOf_0 (by decide) ?_
  refine g_istore_n C dX12_codeOf_1 rfl (Nat.le_of_ble_eq_true rfl) rfl rfl ?_
  refine g_iload_n C dX12_codeOf_2 rfl rfl ?_
  refine g_iconst (v := 1) C dX12_codeOf_3 (by decide) ?_
  refine g_isub C dX12_codeOf_4 ?_
  refine g_istore C dX12_codeOf_5 (Nat.le_of_ble_eq_true rfl) rfl rfl ?_
  refine g_loop (fun z1 => [(0, .ref (X.1 + 91)), (1, .ref (X.1 + a0)), (3, .int z1.1), (4, .int z1.2)]) (fun z1 => I) (fun r2 => [(3, .int r2)]) (fun r2 => I) 30 hf ho (And.intro rfl (And.intro rfl (And.intro rfl (And.intro rfl trivial)))) rfl (fun r2 hf => ?_) (fun z1 o1 hf ho hkz1 hez1 => ?_)
  · refine g_iload_n C dX12_codeOf_30 rfl rfl ?_
    obtain rfl := gs1 hf
    exact g_iret C dX12_codeOf_31 hr hlk
  · refine g_iload C dX12_codeOf_7 rfl ?_
    refine g_if_lt (tgt := 30) C dX12_codeOf_9 (by decide) hf (fun hf => ?_) (fun hf => ?_)
    · have hx := hez1 _ hf.symm
      refine g_sub ?_ hx
      exact (And.intro rfl trivial)
    · refine g_iload_n C dX12_codeOf_12 rfl rfl ?_
      refine g_aload_n C dX12_codeOf_13 rfl rfl ?_
      refine g_getI (i := 2) (j := 2) C dX12_codeOf_14 (L91 hL (by decide) (by decide)) c11 rfl f11 (fun _ h9 => h9) ?_
      refine g_imul C dX12_codeOf_17 ?_
      refine g_aload_n C dX12_codeOf_18 rfl rfl ?_
      refine g_iload C dX12_codeOf_19 rfl ?_
      refine g_ialdD C dX12_codeOf_21 ho hf (fun hf => ?_)
      refine g_iadd C dX12_codeOf_22 ?_
      refine g_istore_n C dX12_codeOf_23 rfl (Nat.le_of_ble_eq_true rfl) rfl rfl ?_
      refine g_iinc (d := -1) C dX12_codeOf_24 rfl (by decide) rfl (Nat.le_of_ble_eq_true rfl) rfl rfl ?_
      refine g_goto (tgt := 7) C dX12_codeOf_27 (by decide) ?_
      have hx := hkz1 _ hf.symm
      refine g_sub ?_ hx
      exact (And.intro rfl (And.intro rfl (And.intro rfl (And.intro rfl trivial))))
set_option maxRecDepth 100000 in
set_option maxHeartbeats 8000000 in
theorem m_X12_restBy (l : Launch) (X : gX) (N : Nat) (I : gI) (R : gR) (S : gS) (hL : gLay 91 114 R S) (a0 : Nat) (a1 : Int32) (a2 : Nat) (a3 : Int32) (J : gI) (hf : f_X12_restBy N I R S a0 a1 a2 a3 = some J) : gM l yX12_restBy wsX12_restBy { frames := 0, cells := 0, slots := 0, locals := 0 } X gE0 [.ref (X.1 + 91), .ref (X.1 + a0), .int a1, .ref (X.1 + a2), .int a3] I R S none J R S 0 0 := by
  unfold f_X12_restBy at hf
  refine gM_of (cc := cX12_restBy) (own := RX12) (maxL := 8) (ret := none) (by decide) rfl rfl (Nat.le_of_ble_eq_true rfl) ?_
  intro p e s m args below meth c C hr hlk hnm hE
  have ho : (some J) ≠ none := fun h => by cases h
  have f11 := C.2.2.2.2.1 (.fieldLink RX12 11 "TimesByPowersModel" "p" "I") (by decide +kernel)
  have c11 : gCl wsX12_restBy 11 RX12 TX12 29 := ⟨by decide, rfl, rfl, by decide +kernel⟩
  refine g_iload_n C dX12_restBy_0 rfl rfl ?_
  refine g_istore C dX12_restBy_1 (Nat.le_of_ble_eq_true rfl) rfl rfl ?_
  refine g_loop (fun z1 => [(0, .ref (X.1 + 91)), (1, .ref (X.1 + a0)), (3, .ref (X.1 + a2)), (4, .int a3), (5, .int z1.1)]) (fun z1 => z1.2) (fun r2 => []) (fun r2 => r2) 76 hf ho (And.intro rfl (And.intro rfl (And.intro rfl (And.intro rfl (And.intro rfl trivial))))) rfl (fun r2 hf => ?_) (fun z1 o1 hf ho hkz1 hez1 => ?_)
  · obtain rfl := gs1 hf
    exact g_vret C dX12_restBy_76 hr hlk
  · refine g_iload C dX12_restBy_3 rfl ?_
    refine g_iload C dX12_restBy_5 rfl ?_
    refine g_icmp_lt (tgt := 76) C dX12_restBy_7 (by decide) hf (fun hf => ?_) (fun hf => ?_)
    · have hx := hez1 _ hf.symm
      refine g_sub ?_ hx
      exact trivial
    · refine g_aload_n C dX12_restBy_10 rfl rfl ?_
      refine g_iload C dX12_restBy_11 rfl ?_
      refine g_ialdD C dX12_restBy_13 ho hf (fun hf => ?_)
      refine g_istore C dX12_restBy_14 (Nat.le_of_ble_eq_true rfl) rfl rfl ?_
      refine g_iconst (v := 0) C dX12_restBy_16 (by decide) ?_
      refine g_istore C dX12_restBy_17 (Nat.le_of_ble_eq_true rfl) rfl rfl ?_
      refine g_loop (fun z3 => [(0, .ref (X.1 + 91)), (1, .ref (X.1 + a0)), (3, .ref (X.1 + a2)), (4, .int a3), (5, .int z1.1), (6, .int (z1.2 a0 z1.1.toNatClampNeg)), (7, .int z3.1)]) (fun z3 => z3.2) (fun r4 => [(0, .ref (X.1 + 91)), (1, .ref (X.1 + a0)), (3, .ref (X.1 + a2)), (4, .int a3), (5, .int z1.1)]) (fun r4 => r4) 70 hf ho (And.intro rfl (And.intro rfl (And.intro rfl (And.intro rfl (And.intro rfl (And.intro rfl (And.intro rfl trivial))))))) rfl (fun r4 hf => ?_) (fun z3 o1 hf ho hkz3 hez3 => ?_)
      · refine g_iinc (d := -1) C dX12_restBy_70 rfl (by decide) rfl (Nat.le_of_ble_eq_true rfl) rfl rfl ?_
        refine g_goto (tgt := 3) C dX12_restBy_73 (by decide) ?_
        have hx := hkz1 _ hf.symm
        refine g_sub ?_ hx
        exact (And.intro rfl (And.intro rfl (And.intro rfl (And.intro rfl (And.intro rfl trivial)))))
      · refine g_iload C dX12_restBy_19 rfl ?_
        refine g_iload C dX12_restBy_21 rfl ?_
        refine g_icmp_gt (tgt := 70) C dX12_restBy_23 (by decide) hf (fun hf => ?_) (fun hf => ?_)
        · have hx := hez3 _ hf.symm
          refine g_sub ?_ hx
          exact (And.intro rfl (And.intro rfl (And.intro rfl (And.intro rfl (And.intro rfl trivial)))))
        · refine g_aload_n C dX12_restBy_26 rfl rfl ?_
          refine g_iload C dX12_restBy_27 rfl ?_
          refine g_iload C dX12_restBy_29 rfl ?_
          refine g_isub C dX12_restBy_31 ?_
          refine g_iload C dX12_restBy_32 rfl ?_
          refine g_iadd C dX12_restBy_34 ?_
          refine g_aload_n C dX12_restBy_35 rfl rfl ?_
          refine g_iload C dX12_restBy_36 rfl ?_
          refine g_iload C dX12_restBy_38 rfl ?_
          refine g_isub C dX12_restBy_40 ?_
          refine g_iload C dX12_restBy_41 rfl ?_
          refine g_iadd C dX12_restBy_43 ?_
          refine g_ialdD C dX12_restBy_44 ho hf (fun hf => ?_)
          refine g_aload_n C dX12_restBy_45 rfl rfl ?_
          refine g_getI (i := 2) (j := 2) C dX12_restBy_46 (L91 hL (by decide) (by decide)) c11 rfl f11 (fun _ h9 => h9) ?_
          refine g_iload C dX12_restBy_49 rfl ?_
          refine g_isub C dX12_restBy_51 ?_
          refine g_aload_n C dX12_restBy_52 rfl rfl ?_
          refine g_iload C dX12_restBy_53 rfl ?_
          refine g_ialdD C dX12_restBy_55 ho hf (fun hf => ?_)
          refine g_imul C dX12_restBy_56 ?_
          refine g_iadd C dX12_restBy_57 ?_
          refine g_aload_n C dX12_restBy_58 rfl rfl ?_
          refine g_getI (i := 2) (j := 2) C dX12_restBy_59 (L91 hL (by decide) (by decide)) c11 rfl f11 (fun _ h9 => h9) ?_
          refine g_irem C dX12_restBy_62 ho hf (fun hf => ?_)
          refine g_iastD C dX12_restBy_63 ho hf (fun hf => ?_)
          refine g_iinc (d := 1) C dX12_restBy_64 rfl (by decide) rfl (Nat.le_of_ble_eq_true rfl) rfl rfl ?_
          refine g_goto (tgt := 19) C dX12_restBy_67 (by decide) ?_
          have hx := hkz3 _ hf.symm
          refine g_sub ?_ hx
          exact (And.intro rfl (And.intro rfl (And.intro rfl (And.intro rfl (And.intro rfl (And.intro rfl (And.intro rfl trivial)))))))
set_option maxRecDepth 100000 in
set_option maxHeartbeats 8000000 in
theorem m_X12_isPrime (l : Launch) (X : gX) (N : Nat) (I : gI) (R : gR) (S : gS) (hL : gLay 91 114 R S) (a0 : Int32) (a1 : Int32) (v : Int32) (J : gI) (hf : f_X12_isPrime N I R S a0 a1 = some (v, J)) : gM l yX12_isPrime wsX12_isPrime { frames := 1, cells := 0, slots := 0, locals := 27 } X gE0 [.ref (X.1 + 91), .int a0, .int a1] I R S (some (.int v)) J R S 0 0 := by
  unfold f_X12_isPrime at hf
  refine gM_of (cc := cX12_isPrime) (own := RX12) (maxL := 8) (ret := (some .boolean)) (by decide) rfl rfl (Nat.le_of_ble_eq_true rfl) ?_
  intro p e s m args below meth c C hr hlk hnm hE
  have ho : (some (v, J)) ≠ none := fun h => by cases h
  have f11 := C.2.2.2.2.1 (.fieldLink RX12 11 "TimesByPowersModel" "p" "I") (by decide +kernel)
  have c11 : gCl wsX12_isPrime 11 RX12 TX12 29 := ⟨by decide, rfl, rfl, by decide +kernel⟩
  have f18 := C.2.2.2.2.1 (.fieldLink RX12 18 "TimesByPowersModel" "by" "[I") (by decide +kernel)
  have f26 := C.2.2.2.2.1 (.fieldLink RX12 26 "TimesByPowersModel" "one" "[I") (by decide +kernel)
  refine g_aload_n C dX12_isPrime_0 rfl rfl ?_
  refine g_getI (i := 2) (j := 2) C dX12_isPrime_1 (L91 hL (by decide) (by decide)) c11 rfl f11 (fun _ h9 => h9) ?_
  refine g_istore_n C dX12_isPrime_4 rfl (Nat.le_of_ble_eq_true rfl) rfl rfl ?_
  refine g_loopR (fun z1 => [(0, .ref (X.1 + 91)), (1, .int a0), (2, .int a1), (3, .int z1.1)]) (fun z1 => z1.2) (fun r2 => []) (fun r2 => r2) 130 hf ho (And.intro rfl (And.intro rfl (And.intro rfl (And.intro rfl trivial)))) rfl (fun r2 hf => ?_) (fun z1 o1 hf ho hkz1 hez1 hrz1 => ?_)
  · refine g_iconst (v := 1) C dX12_isPrime_130 (by decide) ?_
    obtain ⟨rfl, rfl⟩ := gs2 hf
    exact g_zret C dX12_isPrime_131 hr hlk (by decide)
  · refine g_iload_n C dX12_isPrime_5 rfl rfl ?_
    refine g_aload_n C dX12_isPrime_6 rfl rfl ?_
    refine g_getI (i := 2) (j := 2) C dX12_isPrime_7 (L91 hL (by decide) (by decide)) c11 rfl f11 (fun _ h9 => h9) ?_
    refine g_iload_n C dX12_isPrime_10 rfl rfl ?_
    refine g_iconst (v := 2) C dX12_isPrime_11 (by decide) ?_
    refine g_idiv C dX12_isPrime_12 ho hf (fun hf => ?_)
    refine g_iconst (v := 1) C dX12_isPrime_13 (by decide) ?_
    refine g_iadd C dX12_isPrime_14 ?_
    obtain ⟨z3, hz3, hf⟩ := gbind hf ho
    refine g_callS C dX12_isPrime_15 (m_X12_power l X N _ _ _  (gLay.sub hL (by decide) (by decide)) _ _ z3 hz3) gEin0 (va_cwS 2 C.2.2.2.2.1 gX12_isPrime_X12_power rfl rfl rfl (by decide +kernel) ⟨Nat.le_of_ble_eq_true rfl, Nat.le_of_ble_eq_true rfl⟩) rfl rfl (Nat.le_of_ble_eq_true rfl) ⟨Nat.le_of_ble_eq_true rfl, Nat.le_of_ble_eq_true rfl⟩ ?_
    refine g_icmp_ge (tgt := 130) C dX12_isPrime_18 (by decide) hf (fun hf => ?_) (fun hf => ?_)
    · have hx := hez1 _ hf.symm
      refine g_sub ?_ hx
      exact trivial
    · refine g_aload_n C dX12_isPrime_21 rfl rfl ?_
      refine g_iload_n C dX12_isPrime_22 rfl rfl ?_
      refine g_aload_n C dX12_isPrime_23 rfl rfl ?_
      refine g_getR (i := 8) (j := 8) C dX12_isPrime_24 (L91 hL (by decide) (by decide)) c11 rfl (by decide) f18 (fun _ h9 => h9) (LR91_8 hL (by decide) (by decide)) ?_
      obtain ⟨z4, hz4, hf⟩ := gbind hf ho
      refine g_callV C dX12_isPrime_27 (m_X12_figures l X N _ _ _  (gLay.sub hL (by decide) (by decide)) _ _ z4.1 z4.2 hz4) gEin0 (cwV 2 C.2.2.2.2.1 gX12_isPrime_X12_figures rfl rfl rfl (by decide +kernel) ⟨Nat.le_of_ble_eq_true rfl, Nat.le_of_ble_eq_true rfl⟩) (L91 hL (by decide) (by decide)) (by decide) rfl rfl rfl (Nat.le_of_ble_eq_true rfl) ⟨Nat.le_of_ble_eq_true rfl, Nat.le_of_ble_eq_true rfl⟩ ?_
      refine g_istore C dX12_isPrime_30 (Nat.le_of_ble_eq_true rfl) rfl rfl ?_
      refine g_aload_n C dX12_isPrime_32 rfl rfl ?_
      refine g_iload_n C dX12_isPrime_33 rfl rfl ?_
      refine g_aload_n C dX12_isPrime_34 rfl rfl ?_
      refine g_getR (i := 6) (j := 6) C dX12_isPrime_35 (L91 hL (by decide) (by decide)) c11 rfl (by decide) f26 (fun _ h9 => h9) (LR91_6 hL (by decide) (by decide)) ?_
      obtain ⟨z5, hz5, hf⟩ := gbind hf ho
      refine g_callV C dX12_isPrime_38 (m_X12_figures l X N _ _ _  (gLay.sub hL (by decide) (by decide)) _ _ z5.1 z5.2 hz5) gEin0 (cwV 2 C.2.2.2.2.1 gX12_isPrime_X12_figures rfl rfl rfl (by decide +kernel) ⟨Nat.le_of_ble_eq_true rfl, Nat.le_of_ble_eq_true rfl⟩) (L91 hL (by decide) (by decide)) (by decide) rfl rfl rfl (Nat.le_of_ble_eq_true rfl) ⟨Nat.le_of_ble_eq_true rfl, Nat.le_of_ble_eq_true rfl⟩ ?_
      refine g_istore C dX12_isPrime_41 (Nat.le_of_ble_eq_true rfl) rfl rfl ?_
      refine g_iload C dX12_isPrime_43 rfl ?_
      refine g_iconst (v := 1) C dX12_isPrime_45 (by decide) ?_
      refine g_icmp_lt (tgt := 124) C dX12_isPrime_46 (by decide) hf (fun hf => ?_) (fun hf => ?_)
      · refine g_iinc (d := 1) C dX12_isPrime_124 rfl (by decide) rfl (Nat.le_of_ble_eq_true rfl) rfl rfl ?_
        refine g_goto (tgt := 5) C dX12_isPrime_127 (by decide) ?_
        have hx := hkz1 _ hf.symm
        refine g_sub ?_ hx
        exact (And.intro rfl (And.intro rfl (And.intro rfl (And.intro rfl trivial))))
      · refine g_aload_n C dX12_isPrime_49 rfl rfl ?_
        refine g_getR (i := 8) (j := 8) C dX12_isPrime_50 (L91 hL (by decide) (by decide)) c11 rfl (by decide) f18 (fun _ h9 => h9) (LR91_8 hL (by decide) (by decide)) ?_
        refine g_iload C dX12_isPrime_53 rfl ?_
        refine g_iald C dX12_isPrime_55 (L94 hL (by decide) (by decide)) ho hf (fun hf => ?_)
        refine g_iconst (v := 1) C dX12_isPrime_56 (by decide) ?_
        refine g_icmp_ne (tgt := 124) C dX12_isPrime_57 (by decide) hf (fun hf => ?_) (fun hf => ?_)
        · refine g_iinc (d := 1) C dX12_isPrime_124 rfl (by decide) rfl (Nat.le_of_ble_eq_true rfl) rfl rfl ?_
          refine g_goto (tgt := 5) C dX12_isPrime_127 (by decide) ?_
          have hx := hkz1 _ hf.symm
          refine g_sub ?_ hx
          exact (And.intro rfl (And.intro rfl (And.intro rfl (And.intro rfl trivial))))
        · refine g_aload_n C dX12_isPrime_60 rfl rfl ?_
          refine g_aload_n C dX12_isPrime_61 rfl rfl ?_
          refine g_getR (i := 6) (j := 6) C dX12_isPrime_62 (L91 hL (by decide) (by decide)) c11 rfl (by decide) f26 (fun _ h9 => h9) (LR91_6 hL (by decide) (by decide)) ?_
          refine g_iload C dX12_isPrime_65 rfl ?_
          refine g_aload_n C dX12_isPrime_67 rfl rfl ?_
          refine g_getR (i := 8) (j := 8) C dX12_isPrime_68 (L91 hL (by decide) (by decide)) c11 rfl (by decide) f18 (fun _ h9 => h9) (LR91_8 hL (by decide) (by decide)) ?_
          refine g_iload C dX12_isPrime_71 rfl ?_
          obtain ⟨z6, hz6, hf⟩ := gbind hf ho
          refine g_callV C dX12_isPrime_73 (m_X12_restBy l X N _ _ _  (gLay.sub hL (by decide) (by decide)) _ _ _ _ z6 hz6) gEin0 (cwV 4 C.2.2.2.2.1 gX12_isPrime_X12_restBy rfl rfl rfl (by decide +kernel) ⟨Nat.le_of_ble_eq_true rfl, Nat.le_of_ble_eq_true rfl⟩) (L91 hL (by decide) (by decide)) (by decide) rfl rfl rfl (Nat.le_of_ble_eq_true rfl) ⟨Nat.le_of_ble_eq_true rfl, Nat.le_of_ble_eq_true rfl⟩ ?_
          refine g_iconst (v := 1) C dX12_isPrime_76 (by decide) ?_
          refine g_istore C dX12_isPrime_77 (Nat.le_of_ble_eq_true rfl) rfl rfl ?_
          refine g_iconst (v := 0) C dX12_isPrime_79 (by decide) ?_
          refine g_istore C dX12_isPrime_80 (Nat.le_of_ble_eq_true rfl) rfl rfl ?_
          refine g_loop (fun z7 => [(0, .ref (X.1 + 91)), (1, .int a0), (2, .int a1), (3, .int z1.1), (4, .int z4.1), (6, .int z7.1), (7, .int z7.2)]) (fun z7 => z6) (fun r8 => [(0, .ref (X.1 + 91)), (1, .int a0), (2, .int a1), (3, .int z1.1), (6, .int r8)]) (fun r8 => z6) 117 hf ho (And.intro rfl (And.intro rfl (And.intro rfl (And.intro rfl (And.intro rfl (And.intro rfl (And.intro rfl trivial))))))) rfl (fun r8 hf => ?_) (fun z7 o1 hf ho hkz7 hez7 => ?_)
          · refine g_iload C dX12_isPrime_117 rfl ?_
            refine g_if_eq (tgt := 124) C dX12_isPrime_119 (by decide) hf (fun hf => ?_) (fun hf => ?_)
            · refine g_iinc (d := 1) C dX12_isPrime_124 rfl (by decide) rfl (Nat.le_of_ble_eq_true rfl) rfl rfl ?_
              refine g_goto (tgt := 5) C dX12_isPrime_127 (by decide) ?_
              have hx := hkz1 _ hf.symm
              refine g_sub ?_ hx
              exact (And.intro rfl (And.intro rfl (And.intro rfl (And.intro rfl trivial))))
            · refine g_iconst (v := 0) C dX12_isPrime_122 (by decide) ?_
              replace hf := hrz1 _ hf.symm
              dsimp only [Sum.elim_inr] at hf
              obtain ⟨rfl, rfl⟩ := gs2 hf
              exact g_zret C dX12_isPrime_123 hr hlk (by decide)
          · refine g_iload C dX12_isPrime_82 rfl ?_
            refine g_iload C dX12_isPrime_84 rfl ?_
            refine g_icmp_ge (tgt := 117) C dX12_isPrime_86 (by decide) hf (fun hf => ?_) (fun hf => ?_)
            · have hx := hez7 _ hf.symm
              refine g_sub ?_ hx
              exact (And.intro rfl (And.intro rfl (And.intro rfl (And.intro rfl (And.intro rfl trivial)))))
            · refine g_iload C dX12_isPrime_89 rfl ?_
              refine g_if_eq (tgt := 108) C dX12_isPrime_91 (by decide) hf (fun hf => ?_) (fun hf => ?_)
              · refine g_iconst (v := 0) C dX12_isPrime_108 (by decide) ?_
                refine g_istore C dX12_isPrime_109 (Nat.le_of_ble_eq_true rfl) rfl rfl ?_
                refine g_iinc (d := 1) C dX12_isPrime_111 rfl (by decide) rfl (Nat.le_of_ble_eq_true rfl) rfl rfl ?_
                refine g_goto (tgt := 82) C dX12_isPrime_114 (by decide) ?_
                have hx := hkz7 _ hf.symm
                refine g_sub ?_ hx
                exact (And.intro rfl (And.intro rfl (And.intro rfl (And.intro rfl (And.intro rfl (And.intro rfl (And.intro rfl trivial)))))))
              · refine g_aload_n C dX12_isPrime_94 rfl rfl ?_
                refine g_getR (i := 6) (j := 6) C dX12_isPrime_95 (L91 hL (by decide) (by decide)) c11 rfl (by decide) f26 (fun _ h9 => h9) (LR91_6 hL (by decide) (by decide)) ?_
                refine g_iload C dX12_isPrime_98 rfl ?_
                refine g_iald C dX12_isPrime_100 (L92 hL (by decide) (by decide)) ho hf (fun hf => ?_)
                refine g_if_ne (tgt := 108) C dX12_isPrime_101 (by decide) hf (fun hf => ?_) (fun hf => ?_)
                · refine g_iconst (v := 0) C dX12_isPrime_108 (by decide) ?_
                  refine g_istore C dX12_isPrime_109 (Nat.le_of_ble_eq_true rfl) rfl rfl ?_
                  refine g_iinc (d := 1) C dX12_isPrime_111 rfl (by decide) rfl (Nat.le_of_ble_eq_true rfl) rfl rfl ?_
                  refine g_goto (tgt := 82) C dX12_isPrime_114 (by decide) ?_
                  have hx := hkz7 _ hf.symm
                  refine g_sub ?_ hx
                  exact (And.intro rfl (And.intro rfl (And.intro rfl (And.intro rfl (And.intro rfl (And.intro rfl (And.intro rfl trivial)))))))
                · refine g_iconst (v := 1) C dX12_isPrime_104 (by decide) ?_
                  refine g_goto (tgt := 109) C dX12_isPrime_105 (by decide) ?_
                  refine g_istore C dX12_isPrime_109 (Nat.le_of_ble_eq_true rfl) rfl rfl ?_
                  refine g_iinc (d := 1) C dX12_isPrime_111 rfl (by decide) rfl (Nat.le_of_ble_eq_true rfl) rfl rfl ?_
                  refine g_goto (tgt := 82) C dX12_isPrime_114 (by decide) ?_
                  have hx := hkz7 _ hf.symm
                  refine g_sub ?_ hx
                  exact (And.intro rfl (And.intro rfl (And.intro rfl (And.intro rfl (And.intro rfl (And.intro rfl (And.intro rfl trivial)))))))

