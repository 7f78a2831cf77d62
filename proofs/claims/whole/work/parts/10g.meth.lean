def f_X11_is (N : Nat) (I : gI) (R : gR) (S : gS) (a0 : Int32) (a1 : Int32) : Option (Int32) :=
  ((f_X11_isPlace N I R S a0).bind (fun z1 => (if z1 = 0 then some (-1000001 : Int32) else ((f_X11_isKind N I R S a1).bind (fun z2 => (if z2 = 0 then some (-1000001 : Int32) else if a0 < 0 ∨ 10 ≤ a0.toNatClampNeg then none else ((f_X11_isOf N I R S (R 2 a0.toNatClampNeg) a1).bind (fun z3 => (if z3 = 0 then some (0 : Int32) else some (1 : Int32))))))))))
set_option maxRecDepth 100000 in
set_option maxHeartbeats 8000000 in
theorem m_X11_is (l : Launch) (X : gX) (N : Nat) (I : gI) (R : gR) (S : gS) (hL : gLay 0 91 R S) (a0 : Int32) (a1 : Int32) (v : Int32) (hf : f_X11_is N I R S a0 a1 = some v) : gM l yX11_is wsX11_is { frames := 1, cells := 0, slots := 0, locals := 21 } X gEN [.ref (X.1 + 0), .int a0, .int a1] I R S (some (.int v)) I R S 0 0 := by
  unfold f_X11_is at hf
  refine gM_of (cc := cX11_is) (own := RX11) (maxL := 3) (ret := (some .int)) (by decide) rfl rfl (Nat.le_of_ble_eq_true rfl) ?_
  intro p e s m args below meth c C hr hlk hnm hE
  have ho : (some v) ≠ none := fun h => by cases h
  have k80 := C.2.2.2.2.1 (.constant RX11 80 (-1000001)) (by decide +kernel)
  have f17 := C.2.2.2.2.1 (.fieldLink RX11 17 "TimesByPowers" "shelf" "[LTimesByPowers$World;") (by decide +kernel)
  have c10 : gCl wsX11_is 10 RX11 TX11 8 := ⟨by decide, rfl, rfl, by decide +kernel⟩
  refine g_iload_n C dX11_is_0 rfl rfl ?_
  obtain ⟨z1, hz1, hf⟩ := gbind hf ho
  refine g_callS C dX11_is_1 (m_X11_isPlace l X N _ _ _  (gLay.sub hL (by decide) (by decide)) _ z1 hz1) gEin0 (va_cwS 1 C.2.2.2.2.1 gX11_is_X11_isPlace rfl rfl rfl (by decide +kernel) ⟨Nat.le_of_ble_eq_true rfl, Nat.le_of_ble_eq_true rfl⟩) rfl rfl (Nat.le_of_ble_eq_true rfl) ⟨Nat.le_of_ble_eq_true rfl, Nat.le_of_ble_eq_true rfl⟩ ?_
  refine g_if_eq (tgt := 14) C dX11_is_4 (by decide) hf (fun hf => ?_) (fun hf => ?_)
  · refine g_ldc C k80 dX11_is_14 ?_
    cases hf
    exact g_iret C dX11_is_16 hr hlk
  · refine g_iload_n C dX11_is_7 rfl rfl ?_
    obtain ⟨z2, hz2, hf⟩ := gbind hf ho
    refine g_callS C dX11_is_8 (m_X11_isKind l X N _ _ _  (gLay.sub hL (by decide) (by decide)) _ z2 hz2) gEin0 (va_cwS 1 C.2.2.2.2.1 gX11_is_X11_isKind rfl rfl rfl (by decide +kernel) ⟨Nat.le_of_ble_eq_true rfl, Nat.le_of_ble_eq_true rfl⟩) rfl rfl (Nat.le_of_ble_eq_true rfl) ⟨Nat.le_of_ble_eq_true rfl, Nat.le_of_ble_eq_true rfl⟩ ?_
    refine g_if_ne (tgt := 17) C dX11_is_11 (by decide) hf (fun hf => ?_) (fun hf => ?_)
    · refine g_aload_n C dX11_is_17 rfl rfl ?_
      refine g_getR (i := 4) (j := 4) C dX11_is_18 (L0 hL (by decide) (by decide)) c10 rfl (by decide) f17 (fun _ h9 => h9) (LR0_4 hL (by decide) (by decide)) ?_
      refine g_iload_n C dX11_is_21 rfl rfl ?_
      refine g_aald 3 C dX11_is_22 (by decide) (L2 hL (by decide) (by decide)) rfl rfl ho hf (fun hf => ?_)
      refine g_iload_n C dX11_is_23 rfl rfl ?_
      obtain ⟨z3, hz3, hf⟩ := gbind hf ho
      refine g_callS C dX11_is_24 (m_X11_isOf l X N _ _ _  (gLay.sub hL (by decide) (by decide)) _ _ z3 hz3) (gEN_in hE) (va_cwS 2 C.2.2.2.2.1 gX11_is_X11_isOf rfl rfl rfl (by decide +kernel) ⟨Nat.le_of_ble_eq_true rfl, Nat.le_of_ble_eq_true rfl⟩) rfl rfl (Nat.le_of_ble_eq_true rfl) ⟨Nat.le_of_ble_eq_true rfl, Nat.le_of_ble_eq_true rfl⟩ ?_
      refine g_if_eq (tgt := 34) C dX11_is_27 (by decide) hf (fun hf => ?_) (fun hf => ?_)
      · refine g_iconst (v := 0) C dX11_is_34 (by decide) ?_
        cases hf
        exact g_iret C dX11_is_35 hr hlk
      · refine g_iconst (v := 1) C dX11_is_30 (by decide) ?_
        refine g_goto (tgt := 35) C dX11_is_31 (by decide) ?_
        cases hf
        exact g_iret C dX11_is_35 hr hlk
    · refine g_ldc C k80 dX11_is_14 ?_
      cases hf
      exact g_iret C dX11_is_16 hr hlk
def f_X11_as (N : Nat) (I : gI) (R : gR) (S : gS) (a0 : Int32) (a1 : Int32) : Option (Int32 × gI) :=
  ((f_X11_isPlace N I R S a0).bind (fun z1 => (if z1 = 0 then some ((-1000001 : Int32), I) else ((f_X11_isKind N I R S a1).bind (fun z2 => (if z2 = 0 then some ((-1000001 : Int32), I) else if a0 < 0 ∨ 10 ≤ a0.toNatClampNeg then none else (match R 2 a0.toNatClampNeg with | none => ((f_X11_found N I R S (1 : Int32)).bind (fun z4 => some (z4.1, z4.2))) | some w3 => if gWb R S w3 = true then ((f_X11_isOf N I R S (some w3) a1).bind (fun z5 => (if z5 = 0 then ((f_X11_found N I R S (3 : Int32)).bind (fun z6 => some (z6.1, z6.2))) else ((f_X11_fine N I R S (I w3 1)).bind (fun z7 => some (z7.1, z7.2)))))) else none)))))))
set_option maxRecDepth 100000 in
set_option maxHeartbeats 8000000 in
theorem m_X11_as (l : Launch) (X : gX) (N : Nat) (I : gI) (R : gR) (S : gS) (hL : gLay 0 91 R S) (a0 : Int32) (a1 : Int32) (v : Int32) (J : gI) (hf : f_X11_as N I R S a0 a1 = some (v, J)) : gM l yX11_as wsX11_as { frames := 1, cells := 0, slots := 0, locals := 21 } X gEN [.ref (X.1 + 0), .int a0, .int a1] I R S (some (.int v)) J R S 0 0 := by
  unfold f_X11_as at hf
  refine gM_of (cc := cX11_as) (own := RX11) (maxL := 4) (ret := (some .int)) (by decide) rfl rfl (Nat.le_of_ble_eq_true rfl) ?_
  intro p e s m args below meth c C hr hlk hnm hE
  have ho : (some (v, J)) ≠ none := fun h => by cases h
  have k80 := C.2.2.2.2.1 (.constant RX11 80 (-1000001)) (by decide +kernel)
  have f17 := C.2.2.2.2.1 (.fieldLink RX11 17 "TimesByPowers" "shelf" "[LTimesByPowers$World;") (by decide +kernel)
  have c10 : gCl wsX11_as 10 RX11 TX11 8 := ⟨by decide, rfl, rfl, by decide +kernel⟩
  have f154 := C.2.2.2.2.1 (.fieldLink RX11 154 "TimesByPowers$World" "\x72" "I") (by decide +kernel)
  have cw : gWc wsX11_as := ⟨⟨by decide, rfl, rfl, by decide +kernel⟩, ⟨by decide, rfl, rfl, by decide +kernel⟩, ⟨by decide, rfl, rfl, by decide +kernel⟩, ⟨by decide, rfl, rfl, by decide +kernel⟩⟩
  refine g_iload_n C dX11_as_0 rfl rfl ?_
  obtain ⟨z1, hz1, hf⟩ := gbind hf ho
  refine g_callS C dX11_as_1 (m_X11_isPlace l X N _ _ _  (gLay.sub hL (by decide) (by decide)) _ z1 hz1) gEin0 (va_cwS 1 C.2.2.2.2.1 gX11_as_X11_isPlace rfl rfl rfl (by decide +kernel) ⟨Nat.le_of_ble_eq_true rfl, Nat.le_of_ble_eq_true rfl⟩) rfl rfl (Nat.le_of_ble_eq_true rfl) ⟨Nat.le_of_ble_eq_true rfl, Nat.le_of_ble_eq_true rfl⟩ ?_
  refine g_if_eq (tgt := 14) C dX11_as_4 (by decide) hf (fun hf => ?_) (fun hf => ?_)
  · refine g_ldc C k80 dX11_as_14 ?_
    cases hf
    exact g_iret C dX11_as_16 hr hlk
  · refine g_iload_n C dX11_as_7 rfl rfl ?_
    obtain ⟨z2, hz2, hf⟩ := gbind hf ho
    refine g_callS C dX11_as_8 (m_X11_isKind l X N _ _ _  (gLay.sub hL (by decide) (by decide)) _ z2 hz2) gEin0 (va_cwS 1 C.2.2.2.2.1 gX11_as_X11_isKind rfl rfl rfl (by decide +kernel) ⟨Nat.le_of_ble_eq_true rfl, Nat.le_of_ble_eq_true rfl⟩) rfl rfl (Nat.le_of_ble_eq_true rfl) ⟨Nat.le_of_ble_eq_true rfl, Nat.le_of_ble_eq_true rfl⟩ ?_
    refine g_if_ne (tgt := 17) C dX11_as_11 (by decide) hf (fun hf => ?_) (fun hf => ?_)
    · refine g_aload_n C dX11_as_17 rfl rfl ?_
      refine g_getR (i := 4) (j := 4) C dX11_as_18 (L0 hL (by decide) (by decide)) c10 rfl (by decide) f17 (fun _ h9 => h9) (LR0_4 hL (by decide) (by decide)) ?_
      refine g_iload_n C dX11_as_21 rfl rfl ?_
      refine g_aald 3 C dX11_as_22 (by decide) (L2 hL (by decide) (by decide)) rfl rfl ho hf (fun hf => ?_)
      refine g_split hf (fun hnw3 hf => ?_) (fun w3 hsw3 hf => ?_)
      · refine g_astore_nN C dX11_as_23 rfl (Nat.le_of_ble_eq_true rfl) rfl rfl ?_
        refine g_aload_nN C dX11_as_24 rfl rfl ?_
        refine g_ifnonnullN C dX11_as_25 ?_
        refine g_aload_n C dX11_as_28 rfl rfl ?_
        refine g_iconst (v := 1) C dX11_as_29 (by decide) ?_
        obtain ⟨z4, hz4, hf⟩ := gbind hf ho
        refine g_callV C dX11_as_30 (m_X11_found l X N _ _ _  (gLay.sub hL (by decide) (by decide)) _ z4.1 z4.2 hz4) gEin0 (cwV 1 C.2.2.2.2.1 gX11_as_X11_found rfl rfl rfl (by decide +kernel) ⟨Nat.le_of_ble_eq_true rfl, Nat.le_of_ble_eq_true rfl⟩) (L0 hL (by decide) (by decide)) (by decide) rfl rfl rfl (Nat.le_of_ble_eq_true rfl) ⟨Nat.le_of_ble_eq_true rfl, Nat.le_of_ble_eq_true rfl⟩ ?_
        cases hf
        exact g_iret C dX11_as_33 hr hlk
      · obtain ⟨hww3, hf⟩ := gcase hf ho
        refine g_astore_n C dX11_as_23 rfl (Nat.le_of_ble_eq_true rfl) rfl rfl ?_
        refine g_aload_n C dX11_as_24 rfl rfl ?_
        refine g_ifnonnull (tgt := 34) C dX11_as_25 (by decide) ?_
        refine g_aload_n C dX11_as_34 rfl rfl ?_
        refine g_iload_n C dX11_as_35 rfl rfl ?_
        obtain ⟨z5, hz5, hf⟩ := gbind hf ho
        refine g_callS C dX11_as_36 (m_X11_isOf l X N _ _ _  (gLay.sub hL (by decide) (by decide)) _ _ z5 hz5) (gEN_in hE) (va_cwS 2 C.2.2.2.2.1 gX11_as_X11_isOf rfl rfl rfl (by decide +kernel) ⟨Nat.le_of_ble_eq_true rfl, Nat.le_of_ble_eq_true rfl⟩) rfl rfl (Nat.le_of_ble_eq_true rfl) ⟨Nat.le_of_ble_eq_true rfl, Nat.le_of_ble_eq_true rfl⟩ ?_
        refine g_if_eq (tgt := 53) C dX11_as_39 (by decide) hf (fun hf => ?_) (fun hf => ?_)
        · refine g_aload_n C dX11_as_53 rfl rfl ?_
          refine g_iconst (v := 3) C dX11_as_54 (by decide) ?_
          obtain ⟨z6, hz6, hf⟩ := gbind hf ho
          refine g_callV C dX11_as_55 (m_X11_found l X N _ _ _  (gLay.sub hL (by decide) (by decide)) _ z6.1 z6.2 hz6) gEin0 (cwV 1 C.2.2.2.2.1 gX11_as_X11_found rfl rfl rfl (by decide +kernel) ⟨Nat.le_of_ble_eq_true rfl, Nat.le_of_ble_eq_true rfl⟩) (L0 hL (by decide) (by decide)) (by decide) rfl rfl rfl (Nat.le_of_ble_eq_true rfl) ⟨Nat.le_of_ble_eq_true rfl, Nat.le_of_ble_eq_true rfl⟩ ?_
          cases hf
          exact g_iret C dX11_as_58 hr hlk
        · refine g_aload_n C dX11_as_42 rfl rfl ?_
          refine g_aload_n C dX11_as_43 rfl rfl ?_
          refine g_getWI 1 C dX11_as_44 hww3 cw ⟨rfl, rfl, rfl, rfl⟩ f154 ⟨rfl, rfl, rfl, rfl⟩ ?_
          obtain ⟨z7, hz7, hf⟩ := gbind hf ho
          refine g_callV C dX11_as_47 (m_X11_fine l X N _ _ _  (gLay.sub hL (by decide) (by decide)) _ z7.1 z7.2 hz7) gEin0 (cwV 1 C.2.2.2.2.1 gX11_as_X11_fine rfl rfl rfl (by decide +kernel) ⟨Nat.le_of_ble_eq_true rfl, Nat.le_of_ble_eq_true rfl⟩) (L0 hL (by decide) (by decide)) (by decide) rfl rfl rfl (Nat.le_of_ble_eq_true rfl) ⟨Nat.le_of_ble_eq_true rfl, Nat.le_of_ble_eq_true rfl⟩ ?_
          refine g_goto (tgt := 58) C dX11_as_50 (by decide) ?_
          cases hf
          exact g_iret C dX11_as_58 hr hlk
    · refine g_ldc C k80 dX11_as_14 ?_
      cases hf
      exact g_iret C dX11_as_16 hr hlk
def f_X11_ask (N : Nat) (I : gI) (R : gR) (S : gS) (a0 : Int32) (a1 : Int32) : Option (Int32 × gI) :=
  ((f_X11_isPlace N I R S a0).bind (fun z1 => (if z1 = 0 then some ((-1000001 : Int32), I) else (if a1 < 0 then some ((-1000001 : Int32), I) else (if a1 ≤ (1 : Int32) then ((f_X9_empty N I R S).bind (fun z2 => if a0 < 0 ∨ 10 ≤ a0.toNatClampNeg then none else (match R 2 a0.toNatClampNeg with | none => ((f_X11_found N z2 R S (1 : Int32)).bind (fun z4 => some (z4.1, z4.2))) | some w3 => if gWb R S w3 = true then (((if a1 = 0 then (if gK S w3 = 1 then ((f_X1_sizeAsked N z2 R S w3).bind (fun z12 => some (z12.1, z12.2))) else if gK S w3 = 3 then ((f_X10_sizeAsked N z2 R S w3).bind (fun z13 => some (z13.1, z13.2))) else if gK S w3 = 4 then ((f_X4_sizeAsked N z2 R S w3).bind (fun z14 => some (z14.1, z14.2))) else ((f_X7_sizeAsked N z2 R S w3).bind (fun z15 => some (z15.1, z15.2)))) else (if gK S w3 = 1 then ((f_X10_signAsked N z2 R S w3).bind (fun z7 => some (z7.1, z7.2))) else if gK S w3 = 3 then ((f_X3_signAsked N z2 R S w3).bind (fun z8 => some (z8.1, z8.2))) else if gK S w3 = 4 then ((f_X4_signAsked N z2 R S w3).bind (fun z9 => some (z9.1, z9.2))) else ((f_X7_signAsked N z2 R S w3).bind (fun z10 => some (z10.1, z10.2))))) : Option (Int32 × gI)).bind (fun z5 => ((f_X11_fine N z5.2 R S z5.1).bind (fun z16 => some (z16.1, z16.2))))) else none))) else some ((-1000001 : Int32), I))))))
set_option maxRecDepth 100000 in
set_option maxHeartbeats 8000000 in
theorem m_X11_ask (l : Launch) (X : gX) (N : Nat) (I : gI) (R : gR) (S : gS) (hL : gLay 0 91 R S) (a0 : Int32) (a1 : Int32) (v : Int32) (J : gI) (hf : f_X11_ask N I R S a0 a1 = some (v, J)) : gM l yX11_ask wsX11_ask { frames := 4, cells := 0, slots := 0, locals := 84 } X gE0 [.ref (X.1 + 0), .int a0, .int a1] I R S (some (.int v)) J R S 0 0 := by
  unfold f_X11_ask at hf
  refine gM_of (cc := cX11_ask) (own := RX11) (maxL := 4) (ret := (some .int)) (by decide) rfl rfl (Nat.le_of_ble_eq_true rfl) ?_
  intro p e s m args below meth c C hr hlk hnm hE
  have ho : (some (v, J)) ≠ none := fun h => by cases h
  have k80 := C.2.2.2.2.1 (.constant RX11 80 (-1000001)) (by decide +kernel)
  have f24 := C.2.2.2.2.1 (.fieldLink RX11 24 "TimesByPowers" "steps" "LTimesByPowers$Trace;") (by decide +kernel)
  have c10 : gCl wsX11_ask 10 RX11 TX11 8 := ⟨by decide, rfl, rfl, by decide +kernel⟩
  have f17 := C.2.2.2.2.1 (.fieldLink RX11 17 "TimesByPowers" "shelf" "[LTimesByPowers$World;") (by decide +kernel)
  refine g_iload_n C dX11_ask_0 rfl rfl ?_
  obtain ⟨z1, hz1, hf⟩ := gbind hf ho
  refine g_callS C dX11_ask_1 (m_X11_isPlace l X N _ _ _  (gLay.sub hL (by decide) (by decide)) _ z1 hz1) gEin0 (va_cwS 1 C.2.2.2.2.1 gX11_ask_X11_isPlace rfl rfl rfl (by decide +kernel) ⟨Nat.le_of_ble_eq_true rfl, Nat.le_of_ble_eq_true rfl⟩) rfl rfl (Nat.le_of_ble_eq_true rfl) ⟨Nat.le_of_ble_eq_true rfl, Nat.le_of_ble_eq_true rfl⟩ ?_
  refine g_if_eq (tgt := 16) C dX11_ask_4 (by decide) hf (fun hf => ?_) (fun hf => ?_)
  · refine g_ldc C k80 dX11_ask_16 ?_
    cases hf
    exact g_iret C dX11_ask_18 hr hlk
  · refine g_iload_n C dX11_ask_7 rfl rfl ?_
    refine g_if_lt (tgt := 16) C dX11_ask_8 (by decide) hf (fun hf => ?_) (fun hf => ?_)
    · refine g_ldc C k80 dX11_ask_16 ?_
      cases hf
      exact g_iret C dX11_ask_18 hr hlk
    · refine g_iload_n C dX11_ask_11 rfl rfl ?_
      refine g_iconst (v := 1) C dX11_ask_12 (by decide) ?_
      refine g_icmp_le (tgt := 19) C dX11_ask_13 (by decide) hf (fun hf => ?_) (fun hf => ?_)
      · refine g_aload_n C dX11_ask_19 rfl rfl ?_
        refine g_getR (i := 5) (j := 5) C dX11_ask_20 (L0 hL (by decide) (by decide)) c10 rfl (by decide) f24 (fun _ h9 => h9) (LR0_5 hL (by decide) (by decide)) ?_
        obtain ⟨z2, hz2, hf⟩ := gbind hf ho
        refine g_callV C dX11_ask_23 (m_X9_empty l X N _ _ _  (gLay.sub hL (by decide) (by decide))  z2 hz2) gEin0 (cwV 0 C.2.2.2.2.1 gX11_ask_X9_empty rfl rfl rfl (by decide +kernel) ⟨Nat.le_of_ble_eq_true rfl, Nat.le_of_ble_eq_true rfl⟩) (L3 hL (by decide) (by decide)) (by decide) rfl rfl rfl (Nat.le_of_ble_eq_true rfl) ⟨Nat.le_of_ble_eq_true rfl, Nat.le_of_ble_eq_true rfl⟩ ?_
        refine g_aload_n C dX11_ask_26 rfl rfl ?_
        refine g_getR (i := 4) (j := 4) C dX11_ask_27 (L0 hL (by decide) (by decide)) c10 rfl (by decide) f17 (fun _ h9 => h9) (LR0_4 hL (by decide) (by decide)) ?_
        refine g_iload_n C dX11_ask_30 rfl rfl ?_
        refine g_aald 3 C dX11_ask_31 (by decide) (L2 hL (by decide) (by decide)) rfl rfl ho hf (fun hf => ?_)
        refine g_split hf (fun hnw3 hf => ?_) (fun w3 hsw3 hf => ?_)
        · refine g_astore_nN C dX11_ask_32 rfl (Nat.le_of_ble_eq_true rfl) rfl rfl ?_
          refine g_aload_nN C dX11_ask_33 rfl rfl ?_
          refine g_ifnonnullN C dX11_ask_34 ?_
          refine g_aload_n C dX11_ask_37 rfl rfl ?_
          refine g_iconst (v := 1) C dX11_ask_38 (by decide) ?_
          obtain ⟨z4, hz4, hf⟩ := gbind hf ho
          refine g_callV C dX11_ask_39 (m_X11_found l X N _ _ _  (gLay.sub hL (by decide) (by decide)) _ z4.1 z4.2 hz4) gEin0 (cwV 1 C.2.2.2.2.1 gX11_ask_X11_found rfl rfl rfl (by decide +kernel) ⟨Nat.le_of_ble_eq_true rfl, Nat.le_of_ble_eq_true rfl⟩) (L0 hL (by decide) (by decide)) (by decide) rfl rfl rfl (Nat.le_of_ble_eq_true rfl) ⟨Nat.le_of_ble_eq_true rfl, Nat.le_of_ble_eq_true rfl⟩ ?_
          cases hf
          exact g_iret C dX11_ask_42 hr hlk
        · obtain ⟨hww3, hf⟩ := gcase hf ho
          refine g_astore_n C dX11_ask_32 rfl (Nat.le_of_ble_eq_true rfl) rfl rfl ?_
          refine g_aload_n C dX11_ask_33 rfl rfl ?_
          refine g_ifnonnull (tgt := 43) C dX11_ask_34 (by decide) ?_
          refine g_aload_n C dX11_ask_43 rfl rfl ?_
          refine g_iload_n C dX11_ask_44 rfl rfl ?_
          refine g_join (fun z5 => []) (fun z5 => [.int z5.1, .ref (X.1 + 0)]) (fun z5 => z5.2) 67 hf ho (fun z5 hf => ?_) (fun o1 hf ho hkz5 => ?_)
          · obtain ⟨z16, hz16, hf⟩ := gbind hf ho
            refine g_callV C dX11_ask_67 (m_X11_fine l X N _ _ _  (gLay.sub hL (by decide) (by decide)) _ z16.1 z16.2 hz16) gEin0 (cwV 1 C.2.2.2.2.1 gX11_ask_X11_fine rfl rfl rfl (by decide +kernel) ⟨Nat.le_of_ble_eq_true rfl, Nat.le_of_ble_eq_true rfl⟩) (L0 hL (by decide) (by decide)) (by decide) rfl rfl rfl (Nat.le_of_ble_eq_true rfl) ⟨Nat.le_of_ble_eq_true rfl, Nat.le_of_ble_eq_true rfl⟩ ?_
            cases hf
            exact g_iret C dX11_ask_70 hr hlk
          · refine g_if_ne (tgt := 59) C dX11_ask_45 (by decide) hf (fun hf => ?_) (fun hf => ?_)
            · refine g_aload_n C dX11_ask_59 rfl rfl ?_
              refine g_aload_n C dX11_ask_60 rfl rfl ?_
              refine g_getR (i := 5) (j := 5) C dX11_ask_61 (L0 hL (by decide) (by decide)) c10 rfl (by decide) f24 (fun _ h9 => h9) (LR0_5 hL (by decide) (by decide)) ?_
              rcases gKb_k (gW_kb hww3) with hk6 | hk6 | hk6 | hk6
              · rw [if_pos (gK_of hk6)] at hf
                obtain ⟨z7, hz7, hf⟩ := gbind hf ho
                refine g_callU (k := 1) C dX11_ask_64 (m_X10_signAsked l X N _ _ _  (gLay.sub hL (by decide) (by decide)) _ z7.1 z7.2 hz7) gEin0 (va_cwU 1 C.2.2.2.2.1 gX11_ask_X10_signAsked_u230X1 rfl rfl rfl rfl (by decide +kernel) ⟨Nat.le_of_ble_eq_true rfl, Nat.le_of_ble_eq_true rfl⟩) hk6 (by decide) rfl rfl rfl (Nat.le_of_ble_eq_true rfl) ⟨Nat.le_of_ble_eq_true rfl, Nat.le_of_ble_eq_true rfl⟩ ?_
                exact g_sub ⟨trivial⟩ (hkz5 _ hf.symm)
              · rw [if_neg (by rw [gK_of hk6]; decide), if_pos (gK_of hk6)] at hf
                obtain ⟨z8, hz8, hf⟩ := gbind hf ho
                refine g_callU (k := 3) C dX11_ask_64 (m_X3_signAsked l X N _ _ _  (gLay.sub hL (by decide) (by decide)) _ z8.1 z8.2 hz8) gEin0 (va_cwO 1 C.2.2.2.2.1 gX11_ask_X3_signAsked_u230X3 rfl rfl rfl (b0 := cX10_signAsked) (m0 := 2) (r0 := (some .int)) (by decide +kernel) (by decide +kernel) ⟨Nat.le_of_ble_eq_true rfl, Nat.le_of_ble_eq_true rfl⟩) hk6 (by decide) rfl rfl rfl (Nat.le_of_ble_eq_true rfl) ⟨Nat.le_of_ble_eq_true rfl, Nat.le_of_ble_eq_true rfl⟩ ?_
                exact g_sub ⟨trivial⟩ (hkz5 _ hf.symm)
              · rw [if_neg (by rw [gK_of hk6]; decide), if_neg (by rw [gK_of hk6]; decide), if_pos (gK_of hk6)] at hf
                obtain ⟨z9, hz9, hf⟩ := gbind hf ho
                refine g_callU (k := 4) C dX11_ask_64 (m_X4_signAsked l X N _ _ _  (gLay.sub hL (by decide) (by decide)) _ z9.1 z9.2 hz9) gEin0 (va_cwO 1 C.2.2.2.2.1 gX11_ask_X4_signAsked_u230X4 rfl rfl rfl (b0 := cX10_signAsked) (m0 := 2) (r0 := (some .int)) (by decide +kernel) (by decide +kernel) ⟨Nat.le_of_ble_eq_true rfl, Nat.le_of_ble_eq_true rfl⟩) hk6 (by decide) rfl rfl rfl (Nat.le_of_ble_eq_true rfl) ⟨Nat.le_of_ble_eq_true rfl, Nat.le_of_ble_eq_true rfl⟩ ?_
                exact g_sub ⟨trivial⟩ (hkz5 _ hf.symm)
              · rw [if_neg (by rw [gK_of hk6]; decide), if_neg (by rw [gK_of hk6]; decide), if_neg (by rw [gK_of hk6]; decide)] at hf
                obtain ⟨z10, hz10, hf⟩ := gbind hf ho
                refine g_callU (k := 7) C dX11_ask_64 (m_X7_signAsked l X N _ _ _  (gLay.sub hL (by decide) (by decide)) _ z10.1 z10.2 hz10) gEin0 (va_cwO 1 C.2.2.2.2.1 gX11_ask_X7_signAsked_u230X7 rfl rfl rfl (b0 := cX10_signAsked) (m0 := 2) (r0 := (some .int)) (by decide +kernel) (by decide +kernel) ⟨Nat.le_of_ble_eq_true rfl, Nat.le_of_ble_eq_true rfl⟩) hk6 (by decide) rfl rfl rfl (Nat.le_of_ble_eq_true rfl) ⟨Nat.le_of_ble_eq_true rfl, Nat.le_of_ble_eq_true rfl⟩ ?_
                exact g_sub ⟨trivial⟩ (hkz5 _ hf.symm)
            · refine g_aload_n C dX11_ask_48 rfl rfl ?_
              refine g_aload_n C dX11_ask_49 rfl rfl ?_
              refine g_getR (i := 5) (j := 5) C dX11_ask_50 (L0 hL (by decide) (by decide)) c10 rfl (by decide) f24 (fun _ h9 => h9) (LR0_5 hL (by decide) (by decide)) ?_
              rcases gKb_k (gW_kb hww3) with hk11 | hk11 | hk11 | hk11
              · rw [if_pos (gK_of hk11)] at hf
                obtain ⟨z12, hz12, hf⟩ := gbind hf ho
                refine g_callU (k := 1) C dX11_ask_53 (m_X1_sizeAsked l X N _ _ _  (gLay.sub hL (by decide) (by decide)) _ z12.1 z12.2 hz12) gEin0 (va_cwO 1 C.2.2.2.2.1 gX11_ask_X1_sizeAsked_u226X1 rfl rfl rfl (b0 := cX10_sizeAsked) (m0 := 2) (r0 := (some .int)) (by decide +kernel) (by decide +kernel) ⟨Nat.le_of_ble_eq_true rfl, Nat.le_of_ble_eq_true rfl⟩) hk11 (by decide) rfl rfl rfl (Nat.le_of_ble_eq_true rfl) ⟨Nat.le_of_ble_eq_true rfl, Nat.le_of_ble_eq_true rfl⟩ ?_
                refine g_goto (tgt := 67) C dX11_ask_56 (by decide) ?_
                exact g_sub ⟨trivial⟩ (hkz5 _ hf.symm)
              · rw [if_neg (by rw [gK_of hk11]; decide), if_pos (gK_of hk11)] at hf
                obtain ⟨z13, hz13, hf⟩ := gbind hf ho
                refine g_callU (k := 3) C dX11_ask_53 (m_X10_sizeAsked l X N _ _ _  (gLay.sub hL (by decide) (by decide)) _ z13.1 z13.2 hz13) gEin0 (va_cwU 1 C.2.2.2.2.1 gX11_ask_X10_sizeAsked_u226X3 rfl rfl rfl rfl (by decide +kernel) ⟨Nat.le_of_ble_eq_true rfl, Nat.le_of_ble_eq_true rfl⟩) hk11 (by decide) rfl rfl rfl (Nat.le_of_ble_eq_true rfl) ⟨Nat.le_of_ble_eq_true rfl, Nat.le_of_ble_eq_true rfl⟩ ?_
                refine g_goto (tgt := 67) C dX11_ask_56 (by decide) ?_
                exact g_sub ⟨trivial⟩ (hkz5 _ hf.symm)
              · rw [if_neg (by rw [gK_of hk11]; decide), if_neg (by rw [gK_of hk11]; decide), if_pos (gK_of hk11)] at hf
                obtain ⟨z14, hz14, hf⟩ := gbind hf ho
                refine g_callU (k := 4) C dX11_ask_53 (m_X4_sizeAsked l X N _ _ _  (gLay.sub hL (by decide) (by decide)) _ z14.1 z14.2 hz14) gEin0 (va_cwO 1 C.2.2.2.2.1 gX11_ask_X4_sizeAsked_u226X4 rfl rfl rfl (b0 := cX10_sizeAsked) (m0 := 2) (r0 := (some .int)) (by decide +kernel) (by decide +kernel) ⟨Nat.le_of_ble_eq_true rfl, Nat.le_of_ble_eq_true rfl⟩) hk11 (by decide) rfl rfl rfl (Nat.le_of_ble_eq_true rfl) ⟨Nat.le_of_ble_eq_true rfl, Nat.le_of_ble_eq_true rfl⟩ ?_
                refine g_goto (tgt := 67) C dX11_ask_56 (by decide) ?_
                exact g_sub ⟨trivial⟩ (hkz5 _ hf.symm)
              · rw [if_neg (by rw [gK_of hk11]; decide), if_neg (by rw [gK_of hk11]; decide), if_neg (by rw [gK_of hk11]; decide)] at hf
                obtain ⟨z15, hz15, hf⟩ := gbind hf ho
                refine g_callU (k := 7) C dX11_ask_53 (m_X7_sizeAsked l X N _ _ _  (gLay.sub hL (by decide) (by decide)) _ z15.1 z15.2 hz15) gEin0 (va_cwO 1 C.2.2.2.2.1 gX11_ask_X7_sizeAsked_u226X7 rfl rfl rfl (b0 := cX10_sizeAsked) (m0 := 2) (r0 := (some .int)) (by decide +kernel) (by decide +kernel) ⟨Nat.le_of_ble_eq_true rfl, Nat.le_of_ble_eq_true rfl⟩) hk11 (by decide) rfl rfl rfl (Nat.le_of_ble_eq_true rfl) ⟨Nat.le_of_ble_eq_true rfl, Nat.le_of_ble_eq_true rfl⟩ ?_
                refine g_goto (tgt := 67) C dX11_ask_56 (by decide) ?_
                exact g_sub ⟨trivial⟩ (hkz5 _ hf.symm)
      · refine g_ldc C k80 dX11_ask_16 ?_
        cases hf
        exact g_iret C dX11_ask_18 hr hlk
def f_X11_trace (N : Nat) (I : gI) (R : gR) (S : gS) (a0 : Int32) : Option (Int32) :=
  ((f_X9_has N I R S a0).bind (fun z1 => (if z1 = 0 then some (-1000000 : Int32) else if a0 < 0 ∨ 16 ≤ a0.toNatClampNeg then none else some (I 4 a0.toNatClampNeg))))
set_option maxRecDepth 100000 in
set_option maxHeartbeats 8000000 in
theorem m_X11_trace (l : Launch) (X : gX) (N : Nat) (I : gI) (R : gR) (S : gS) (hL : gLay 0 91 R S) (a0 : Int32) (v : Int32) (hf : f_X11_trace N I R S a0 = some v) : gM l yX11_trace wsX11_trace { frames := 1, cells := 0, slots := 0, locals := 21 } X gE0 [.ref (X.1 + 0), .int a0] I R S (some (.int v)) I R S 0 0 := by
  unfold f_X11_trace at hf
  refine gM_of (cc := cX11_trace) (own := RX11) (maxL := 2) (ret := (some .int)) (by decide) rfl rfl (Nat.le_of_ble_eq_true rfl) ?_
  intro p e s m args below meth c C hr hlk hnm hE
  have ho : (some v) ≠ none := fun h => by cases h
  have f24 := C.2.2.2.2.1 (.fieldLink RX11 24 "TimesByPowers" "steps" "LTimesByPowers$Trace;") (by decide +kernel)
  have c10 : gCl wsX11_trace 10 RX11 TX11 8 := ⟨by decide, rfl, rfl, by decide +kernel⟩
  have k132 := C.2.2.2.2.1 (.constant RX11 132 (-1000000)) (by decide +kernel)
  have f234 := C.2.2.2.2.1 (.fieldLink RX11 234 "TimesByPowers$Trace" "numbers" "[I") (by decide +kernel)
  have c9 : gCl wsX11_trace 9 RX9 TX9 2 := ⟨by decide, rfl, rfl, by decide +kernel⟩
  refine g_aload_n C dX11_trace_0 rfl rfl ?_
  refine g_getR (i := 5) (j := 5) C dX11_trace_1 (L0 hL (by decide) (by decide)) c10 rfl (by decide) f24 (fun _ h9 => h9) (LR0_5 hL (by decide) (by decide)) ?_
  refine g_iload_n C dX11_trace_4 rfl rfl ?_
  obtain ⟨z1, hz1, hf⟩ := gbind hf ho
  refine g_callV C dX11_trace_5 (m_X9_has l X N _ _ _  (gLay.sub hL (by decide) (by decide)) _ z1 hz1) gEin0 (cwV 1 C.2.2.2.2.1 gX11_trace_X9_has rfl rfl rfl (by decide +kernel) ⟨Nat.le_of_ble_eq_true rfl, Nat.le_of_ble_eq_true rfl⟩) (L3 hL (by decide) (by decide)) (by decide) rfl rfl rfl (Nat.le_of_ble_eq_true rfl) ⟨Nat.le_of_ble_eq_true rfl, Nat.le_of_ble_eq_true rfl⟩ ?_
  refine g_if_eq (tgt := 23) C dX11_trace_8 (by decide) hf (fun hf => ?_) (fun hf => ?_)
  · refine g_ldc C k132 dX11_trace_23 ?_
    cases hf
    exact g_iret C dX11_trace_25 hr hlk
  · refine g_aload_n C dX11_trace_11 rfl rfl ?_
    refine g_getR (i := 5) (j := 5) C dX11_trace_12 (L0 hL (by decide) (by decide)) c10 rfl (by decide) f24 (fun _ h9 => h9) (LR0_5 hL (by decide) (by decide)) ?_
    refine g_getR (i := 0) (j := 0) C dX11_trace_15 (L3 hL (by decide) (by decide)) c9 rfl (by decide) f234 (fun _ h9 => h9) (LR3_0 hL (by decide) (by decide)) ?_
    refine g_iload_n C dX11_trace_18 rfl rfl ?_
    refine g_iald C dX11_trace_19 (L4 hL (by decide) (by decide)) ho hf (fun hf => ?_)
    refine g_goto (tgt := 25) C dX11_trace_20 (by decide) ?_
    cases hf
    exact g_iret C dX11_trace_25 hr hlk
def f_X11_rowsThere (N : Nat) (I : gI) (R : gR) (S : gS)  : Option (Int32) :=
  ((iter (σ := Int32 × Int32) (ρ := Int32) (fun z1 => (if (8 : Int32) ≤ z1.2 then some (.inr z1.1) else if z1.2 < 0 ∨ 8 ≤ z1.2.toNatClampNeg then none else ((f_X5_isMissing N I R S (75 + 2 * z1.2.toNatClampNeg)).bind (fun z4 => (if z4 = 0 then some (.inl (z1.1 + (1 : Int32), z1.2 + 1)) else some (.inl (z1.1 + (0 : Int32), z1.2 + 1))))))) N ((0 : Int32), (0 : Int32))).bind (fun r2 => some r2))
set_option maxRecDepth 100000 in
set_option maxHeartbeats 8000000 in
theorem m_X11_rowsThere (l : Launch) (X : gX) (N : Nat) (I : gI) (R : gR) (S : gS) (hL : gLay 0 91 R S)  (v : Int32) (hf : f_X11_rowsThere N I R S  = some v) : gM l yX11_rowsThere wsX11_rowsThere { frames := 1, cells := 0, slots := 0, locals := 20 } X gE0 [.ref (X.1 + 0)] I R S (some (.int v)) I R S 0 0 := by
  unfold f_X11_rowsThere at hf
  refine gM_of (cc := cX11_rowsThere) (own := RX11) (maxL := 3) (ret := (some .int)) (by decide) rfl rfl (Nat.le_of_ble_eq_true rfl) ?_
  intro p e s m args below meth c C hr hlk hnm hE
  have ho : (some v) ≠ none := fun h => by cases h
  have f11 := C.2.2.2.2.1 (.fieldLink RX11 11 "TimesByPowers" "rows" "[LTimesByPowers$Row;") (by decide +kernel)
  have c10 : gCl wsX11_rowsThere 10 RX11 TX11 8 := ⟨by decide, rfl, rfl, by decide +kernel⟩
  refine g_iconst (v := 0) C dX11_rowsThere_0 (by decide) ?_
  refine g_istore_n C dX11_rowsThere_1 rfl (Nat.le_of_ble_eq_true rfl) rfl rfl ?_
  refine g_iconst (v := 0) C dX11_rowsThere_2 (by decide) ?_
  refine g_istore_n C dX11_rowsThere_3 rfl (Nat.le_of_ble_eq_true rfl) rfl rfl ?_
  refine g_loop (fun z1 => [(0, .ref (X.1 + 0)), (1, .int z1.1), (2, .int z1.2)]) (fun z1 => I) (fun r2 => [(1, .int r2)]) (fun r2 => I) 36 hf ho ⟨rfl, rfl, rfl, trivial⟩ rfl (fun r2 hf => ?_) (fun z1 o1 hf ho hkz1 hez1 => ?_)
  · refine g_iload_n C dX11_rowsThere_36 rfl rfl ?_
    cases hf
    exact g_iret C dX11_rowsThere_37 hr hlk
  · refine g_iload_n C dX11_rowsThere_4 rfl rfl ?_
    refine g_bipush (v := 8) C dX11_rowsThere_5 (by decide) ?_
    refine g_icmp_ge (tgt := 36) C dX11_rowsThere_7 (by decide) hf (fun hf => ?_) (fun hf => ?_)
    · exact g_sub ⟨rfl, trivial⟩ (hez1 _ hf.symm)
    · refine g_iload_n C dX11_rowsThere_10 rfl rfl ?_
      refine g_aload_n C dX11_rowsThere_11 rfl rfl ?_
      refine g_getR (i := 3) (j := 3) C dX11_rowsThere_12 (L0 hL (by decide) (by decide)) c10 rfl (by decide) f11 (fun _ h9 => h9) (LR0_3 hL (by decide) (by decide)) ?_
      refine g_iload_n C dX11_rowsThere_15 rfl rfl ?_
      refine g_aaldG 2 (fun j => 75 + 2 * j) C dX11_rowsThere_16 (by decide) (L1 hL (by decide) (by decide)) rfl rfl (fun j hj => LG1 hL (by decide) (by decide) hj) ho hf (fun hj3 hf => ?_)
      obtain ⟨z4, hz4, hf⟩ := gbind hf ho
      refine g_callV C dX11_rowsThere_17 (m_X5_isMissing l X N _ _ _  (LH1 hL (by decide) (by decide) hj3) _ z4 hz4) gEin0 (cwV 0 C.2.2.2.2.1 gX11_rowsThere_X5_isMissing rfl rfl rfl (by decide +kernel) ⟨Nat.le_of_ble_eq_true rfl, Nat.le_of_ble_eq_true rfl⟩) ((LH1 hL (by decide) (by decide) hj3)).1 (by decide) rfl rfl rfl (Nat.le_of_ble_eq_true rfl) ⟨Nat.le_of_ble_eq_true rfl, Nat.le_of_ble_eq_true rfl⟩ ?_
      refine g_if_eq (tgt := 27) C dX11_rowsThere_20 (by decide) hf (fun hf => ?_) (fun hf => ?_)
      · refine g_iconst (v := 1) C dX11_rowsThere_27 (by decide) ?_
        refine g_iadd C dX11_rowsThere_28 ?_
        refine g_istore_n C dX11_rowsThere_29 rfl (Nat.le_of_ble_eq_true rfl) rfl rfl ?_
        refine g_iinc (d := 1) C dX11_rowsThere_30 rfl (by decide) rfl (Nat.le_of_ble_eq_true rfl) rfl rfl ?_
        refine g_goto (tgt := 4) C dX11_rowsThere_33 (by decide) ?_
        exact g_sub ⟨rfl, rfl, rfl, trivial⟩ (hkz1 _ hf.symm)
      · refine g_iconst (v := 0) C dX11_rowsThere_23 (by decide) ?_
        refine g_goto (tgt := 28) C dX11_rowsThere_24 (by decide) ?_
        refine g_iadd C dX11_rowsThere_28 ?_
        refine g_istore_n C dX11_rowsThere_29 rfl (Nat.le_of_ble_eq_true rfl) rfl rfl ?_
        refine g_iinc (d := 1) C dX11_rowsThere_30 rfl (by decide) rfl (Nat.le_of_ble_eq_true rfl) rfl rfl ?_
        refine g_goto (tgt := 4) C dX11_rowsThere_33 (by decide) ?_
        exact g_sub ⟨rfl, rfl, rfl, trivial⟩ (hkz1 _ hf.symm)
def f_X11_worldsOf (N : Nat) (I : gI) (R : gR) (S : gS) (a0 : Int32) : Option (Int32) :=
  ((iter (σ := Int32 × Int32) (ρ := Int32) (fun z1 => (if (10 : Int32) ≤ z1.2 then some (.inr z1.1) else if z1.2 < 0 ∨ 10 ≤ z1.2.toNatClampNeg then none else ((f_X11_isOf N I R S (R 2 z1.2.toNatClampNeg) a0).bind (fun z3 => (if z3 = 0 then some (.inl (z1.1 + (0 : Int32), z1.2 + 1)) else some (.inl (z1.1 + (1 : Int32), z1.2 + 1))))))) N ((0 : Int32), (0 : Int32))).bind (fun r2 => some r2))
set_option maxRecDepth 100000 in
set_option maxHeartbeats 8000000 in
theorem m_X11_worldsOf (l : Launch) (X : gX) (N : Nat) (I : gI) (R : gR) (S : gS) (hL : gLay 0 91 R S) (a0 : Int32) (v : Int32) (hf : f_X11_worldsOf N I R S a0 = some v) : gM l yX11_worldsOf wsX11_worldsOf { frames := 1, cells := 0, slots := 0, locals := 21 } X gEN [.ref (X.1 + 0), .int a0] I R S (some (.int v)) I R S 0 0 := by
  unfold f_X11_worldsOf at hf
  refine gM_of (cc := cX11_worldsOf) (own := RX11) (maxL := 4) (ret := (some .int)) (by decide) rfl rfl (Nat.le_of_ble_eq_true rfl) ?_
  intro p e s m args below meth c C hr hlk hnm hE
  have ho : (some v) ≠ none := fun h => by cases h
  have f17 := C.2.2.2.2.1 (.fieldLink RX11 17 "TimesByPowers" "shelf" "[LTimesByPowers$World;") (by decide +kernel)
  have c10 : gCl wsX11_worldsOf 10 RX11 TX11 8 := ⟨by decide, rfl, rfl, by decide +kernel⟩
  refine g_iconst (v := 0) C dX11_worldsOf_0 (by decide) ?_
  refine g_istore_n C dX11_worldsOf_1 rfl (Nat.le_of_ble_eq_true rfl) rfl rfl ?_
  refine g_iconst (v := 0) C dX11_worldsOf_2 (by decide) ?_
  refine g_istore_n C dX11_worldsOf_3 rfl (Nat.le_of_ble_eq_true rfl) rfl rfl ?_
  refine g_loop (fun z1 => [(0, .ref (X.1 + 0)), (1, .int a0), (2, .int z1.1), (3, .int z1.2)]) (fun z1 => I) (fun r2 => [(2, .int r2)]) (fun r2 => I) 37 hf ho ⟨rfl, rfl, rfl, rfl, trivial⟩ rfl (fun r2 hf => ?_) (fun z1 o1 hf ho hkz1 hez1 => ?_)
  · refine g_iload_n C dX11_worldsOf_37 rfl rfl ?_
    cases hf
    exact g_iret C dX11_worldsOf_38 hr hlk
  · refine g_iload_n C dX11_worldsOf_4 rfl rfl ?_
    refine g_bipush (v := 10) C dX11_worldsOf_5 (by decide) ?_
    refine g_icmp_ge (tgt := 37) C dX11_worldsOf_7 (by decide) hf (fun hf => ?_) (fun hf => ?_)
    · exact g_sub ⟨rfl, trivial⟩ (hez1 _ hf.symm)
    · refine g_iload_n C dX11_worldsOf_10 rfl rfl ?_
      refine g_aload_n C dX11_worldsOf_11 rfl rfl ?_
      refine g_getR (i := 4) (j := 4) C dX11_worldsOf_12 (L0 hL (by decide) (by decide)) c10 rfl (by decide) f17 (fun _ h9 => h9) (LR0_4 hL (by decide) (by decide)) ?_
      refine g_iload_n C dX11_worldsOf_15 rfl rfl ?_
      refine g_aald 3 C dX11_worldsOf_16 (by decide) (L2 hL (by decide) (by decide)) rfl rfl ho hf (fun hf => ?_)
      refine g_iload_n C dX11_worldsOf_17 rfl rfl ?_
      obtain ⟨z3, hz3, hf⟩ := gbind hf ho
      refine g_callS C dX11_worldsOf_18 (m_X11_isOf l X N _ _ _  (gLay.sub hL (by decide) (by decide)) _ _ z3 hz3) (gEN_in hE) (va_cwS 2 C.2.2.2.2.1 gX11_worldsOf_X11_isOf rfl rfl rfl (by decide +kernel) ⟨Nat.le_of_ble_eq_true rfl, Nat.le_of_ble_eq_true rfl⟩) rfl rfl (Nat.le_of_ble_eq_true rfl) ⟨Nat.le_of_ble_eq_true rfl, Nat.le_of_ble_eq_true rfl⟩ ?_
      refine g_if_eq (tgt := 28) C dX11_worldsOf_21 (by decide) hf (fun hf => ?_) (fun hf => ?_)
      · refine g_iconst (v := 0) C dX11_worldsOf_28 (by decide) ?_
        refine g_iadd C dX11_worldsOf_29 ?_
        refine g_istore_n C dX11_worldsOf_30 rfl (Nat.le_of_ble_eq_true rfl) rfl rfl ?_
        refine g_iinc (d := 1) C dX11_worldsOf_31 rfl (by decide) rfl (Nat.le_of_ble_eq_true rfl) rfl rfl ?_
        refine g_goto (tgt := 4) C dX11_worldsOf_34 (by decide) ?_
        exact g_sub ⟨rfl, rfl, rfl, rfl, trivial⟩ (hkz1 _ hf.symm)
      · refine g_iconst (v := 1) C dX11_worldsOf_24 (by decide) ?_
        refine g_goto (tgt := 29) C dX11_worldsOf_25 (by decide) ?_
        refine g_iadd C dX11_worldsOf_29 ?_
        refine g_istore_n C dX11_worldsOf_30 rfl (Nat.le_of_ble_eq_true rfl) rfl rfl ?_
        refine g_iinc (d := 1) C dX11_worldsOf_31 rfl (by decide) rfl (Nat.le_of_ble_eq_true rfl) rfl rfl ?_
        refine g_goto (tgt := 4) C dX11_worldsOf_34 (by decide) ?_
        exact g_sub ⟨rfl, rfl, rfl, rfl, trivial⟩ (hkz1 _ hf.symm)
def f_X11_count (N : Nat) (I : gI) (R : gR) (S : gS) (a0 : Int32) : Option (Int32) :=
  (if a0 = (0 : Int32) then ((f_X11_rowsThere N I R S).bind (fun z2 => some z2)) else (if a0 = (1 : Int32) then ((f_X11_worldsOf N I R S (0 : Int32)).bind (fun z3 => some z3)) else (if a0 = (2 : Int32) then ((f_X11_worldsOf N I R S (1 : Int32)).bind (fun z4 => some z4)) else (if a0 = (3 : Int32) then ((f_X11_worldsOf N I R S (2 : Int32)).bind (fun z5 => some z5)) else (if a0 = (4 : Int32) then ((f_X11_worldsOf N I R S (3 : Int32)).bind (fun z6 => some z6)) else (if a0 = (5 : Int32) then ((f_X11_worldsOf N I R S (4 : Int32)).bind (fun z7 => some z7)) else (if a0 = (6 : Int32) then some (I 6 2) else (if a0 = (7 : Int32) then some (I 6 3) else some (-1000001 : Int32)))))))))
set_option maxRecDepth 100000 in
set_option maxHeartbeats 8000000 in
theorem m_X11_count (l : Launch) (X : gX) (N : Nat) (I : gI) (R : gR) (S : gS) (hL : gLay 0 91 R S) (a0 : Int32) (v : Int32) (hf : f_X11_count N I R S a0 = some v) : gM l yX11_count wsX11_count { frames := 2, cells := 0, slots := 0, locals := 44 } X gEN [.ref (X.1 + 0), .int a0] I R S (some (.int v)) I R S 0 0 := by
  unfold f_X11_count at hf
  refine gM_of (cc := cX11_count) (own := RX11) (maxL := 2) (ret := (some .int)) (by decide) rfl rfl (Nat.le_of_ble_eq_true rfl) ?_
  intro p e s m args below meth c C hr hlk hnm hE
  have ho : (some v) ≠ none := fun h => by cases h
  have f50 := C.2.2.2.2.1 (.fieldLink RX11 50 "TimesByPowers" "elements" "LTimesByPowers$Field;") (by decide +kernel)
  have c10 : gCl wsX11_count 10 RX11 TX11 8 := ⟨by decide, rfl, rfl, by decide +kernel⟩
  have f243 := C.2.2.2.2.1 (.fieldLink RX11 243 "TimesByPowers$Field" "size" "I") (by decide +kernel)
  have c2 : gCl wsX11_count 2 RX2 TX2 8 := ⟨by decide, rfl, rfl, by decide +kernel⟩
  have f246 := C.2.2.2.2.1 (.fieldLink RX11 246 "TimesByPowers$Field" "modulus" "I") (by decide +kernel)
  have k80 := C.2.2.2.2.1 (.constant RX11 80 (-1000001)) (by decide +kernel)
  refine g_iload_n C dX11_count_0 rfl rfl ?_
  by_cases ht1_0 : a0 = (0 : Int32)
  · rw [if_pos ht1_0] at hf
    refine g_tabC (v := (0 : Int32)) (tgt := 48) C dX11_count_1 ht1_0 (by decide) (by decide) rfl (by decide) ?_
    refine g_aload_n C dX11_count_48 rfl rfl ?_
    obtain ⟨z2, hz2, hf⟩ := gbind hf ho
    refine g_callV C dX11_count_49 (m_X11_rowsThere l X N _ _ _  (gLay.sub hL (by decide) (by decide))  z2 hz2) gEin0 (cwV 0 C.2.2.2.2.1 gX11_count_X11_rowsThere rfl rfl rfl (by decide +kernel) ⟨Nat.le_of_ble_eq_true rfl, Nat.le_of_ble_eq_true rfl⟩) (L0 hL (by decide) (by decide)) (by decide) rfl rfl rfl (Nat.le_of_ble_eq_true rfl) ⟨Nat.le_of_ble_eq_true rfl, Nat.le_of_ble_eq_true rfl⟩ ?_
    cases hf
    exact g_iret C dX11_count_52 hr hlk
  · rw [if_neg ht1_0] at hf
    by_cases ht1_1 : a0 = (1 : Int32)
    · rw [if_pos ht1_1] at hf
      refine g_tabC (v := (1 : Int32)) (tgt := 53) C dX11_count_1 ht1_1 (by decide) (by decide) rfl (by decide) ?_
      refine g_aload_n C dX11_count_53 rfl rfl ?_
      refine g_iconst (v := 0) C dX11_count_54 (by decide) ?_
      obtain ⟨z3, hz3, hf⟩ := gbind hf ho
      refine g_callV C dX11_count_55 (m_X11_worldsOf l X N _ _ _  (gLay.sub hL (by decide) (by decide)) _ z3 hz3) (gEN_in hE) (cwV 1 C.2.2.2.2.1 gX11_count_X11_worldsOf rfl rfl rfl (by decide +kernel) ⟨Nat.le_of_ble_eq_true rfl, Nat.le_of_ble_eq_true rfl⟩) (L0 hL (by decide) (by decide)) (by decide) rfl rfl rfl (Nat.le_of_ble_eq_true rfl) ⟨Nat.le_of_ble_eq_true rfl, Nat.le_of_ble_eq_true rfl⟩ ?_
      cases hf
      exact g_iret C dX11_count_58 hr hlk
    · rw [if_neg ht1_1] at hf
      by_cases ht1_2 : a0 = (2 : Int32)
      · rw [if_pos ht1_2] at hf
        refine g_tabC (v := (2 : Int32)) (tgt := 59) C dX11_count_1 ht1_2 (by decide) (by decide) rfl (by decide) ?_
        refine g_aload_n C dX11_count_59 rfl rfl ?_
        refine g_iconst (v := 1) C dX11_count_60 (by decide) ?_
        obtain ⟨z4, hz4, hf⟩ := gbind hf ho
        refine g_callV C dX11_count_61 (m_X11_worldsOf l X N _ _ _  (gLay.sub hL (by decide) (by decide)) _ z4 hz4) (gEN_in hE) (cwV 1 C.2.2.2.2.1 gX11_count_X11_worldsOf rfl rfl rfl (by decide +kernel) ⟨Nat.le_of_ble_eq_true rfl, Nat.le_of_ble_eq_true rfl⟩) (L0 hL (by decide) (by decide)) (by decide) rfl rfl rfl (Nat.le_of_ble_eq_true rfl) ⟨Nat.le_of_ble_eq_true rfl, Nat.le_of_ble_eq_true rfl⟩ ?_
        cases hf
        exact g_iret C dX11_count_64 hr hlk
      · rw [if_neg ht1_2] at hf
        by_cases ht1_3 : a0 = (3 : Int32)
        · rw [if_pos ht1_3] at hf
          refine g_tabC (v := (3 : Int32)) (tgt := 65) C dX11_count_1 ht1_3 (by decide) (by decide) rfl (by decide) ?_
          refine g_aload_n C dX11_count_65 rfl rfl ?_
          refine g_iconst (v := 2) C dX11_count_66 (by decide) ?_
          obtain ⟨z5, hz5, hf⟩ := gbind hf ho
          refine g_callV C dX11_count_67 (m_X11_worldsOf l X N _ _ _  (gLay.sub hL (by decide) (by decide)) _ z5 hz5) (gEN_in hE) (cwV 1 C.2.2.2.2.1 gX11_count_X11_worldsOf rfl rfl rfl (by decide +kernel) ⟨Nat.le_of_ble_eq_true rfl, Nat.le_of_ble_eq_true rfl⟩) (L0 hL (by decide) (by decide)) (by decide) rfl rfl rfl (Nat.le_of_ble_eq_true rfl) ⟨Nat.le_of_ble_eq_true rfl, Nat.le_of_ble_eq_true rfl⟩ ?_
          cases hf
          exact g_iret C dX11_count_70 hr hlk
        · rw [if_neg ht1_3] at hf
          by_cases ht1_4 : a0 = (4 : Int32)
          · rw [if_pos ht1_4] at hf
            refine g_tabC (v := (4 : Int32)) (tgt := 71) C dX11_count_1 ht1_4 (by decide) (by decide) rfl (by decide) ?_
            refine g_aload_n C dX11_count_71 rfl rfl ?_
            refine g_iconst (v := 3) C dX11_count_72 (by decide) ?_
            obtain ⟨z6, hz6, hf⟩ := gbind hf ho
            refine g_callV C dX11_count_73 (m_X11_worldsOf l X N _ _ _  (gLay.sub hL (by decide) (by decide)) _ z6 hz6) (gEN_in hE) (cwV 1 C.2.2.2.2.1 gX11_count_X11_worldsOf rfl rfl rfl (by decide +kernel) ⟨Nat.le_of_ble_eq_true rfl, Nat.le_of_ble_eq_true rfl⟩) (L0 hL (by decide) (by decide)) (by decide) rfl rfl rfl (Nat.le_of_ble_eq_true rfl) ⟨Nat.le_of_ble_eq_true rfl, Nat.le_of_ble_eq_true rfl⟩ ?_
            cases hf
            exact g_iret C dX11_count_76 hr hlk
          · rw [if_neg ht1_4] at hf
            by_cases ht1_5 : a0 = (5 : Int32)
            · rw [if_pos ht1_5] at hf
              refine g_tabC (v := (5 : Int32)) (tgt := 77) C dX11_count_1 ht1_5 (by decide) (by decide) rfl (by decide) ?_
              refine g_aload_n C dX11_count_77 rfl rfl ?_
              refine g_iconst (v := 4) C dX11_count_78 (by decide) ?_
              obtain ⟨z7, hz7, hf⟩ := gbind hf ho
              refine g_callV C dX11_count_79 (m_X11_worldsOf l X N _ _ _  (gLay.sub hL (by decide) (by decide)) _ z7 hz7) (gEN_in hE) (cwV 1 C.2.2.2.2.1 gX11_count_X11_worldsOf rfl rfl rfl (by decide +kernel) ⟨Nat.le_of_ble_eq_true rfl, Nat.le_of_ble_eq_true rfl⟩) (L0 hL (by decide) (by decide)) (by decide) rfl rfl rfl (Nat.le_of_ble_eq_true rfl) ⟨Nat.le_of_ble_eq_true rfl, Nat.le_of_ble_eq_true rfl⟩ ?_
              cases hf
              exact g_iret C dX11_count_82 hr hlk
            · rw [if_neg ht1_5] at hf
              by_cases ht1_6 : a0 = (6 : Int32)
              · rw [if_pos ht1_6] at hf
                refine g_tabC (v := (6 : Int32)) (tgt := 83) C dX11_count_1 ht1_6 (by decide) (by decide) rfl (by decide) ?_
                refine g_aload_n C dX11_count_83 rfl rfl ?_
                refine g_getR (i := 0) (j := 0) C dX11_count_84 (L0 hL (by decide) (by decide)) c10 rfl (by decide) f50 (fun _ h9 => h9) (LR0_0 hL (by decide) (by decide)) ?_
                refine g_getI (i := 2) (j := 2) C dX11_count_87 (L6 hL (by decide) (by decide)) c2 rfl f243 (fun _ h9 => h9) ?_
                cases hf
                exact g_iret C dX11_count_90 hr hlk
              · rw [if_neg ht1_6] at hf
                by_cases ht1_7 : a0 = (7 : Int32)
                · rw [if_pos ht1_7] at hf
                  refine g_tabC (v := (7 : Int32)) (tgt := 91) C dX11_count_1 ht1_7 (by decide) (by decide) rfl (by decide) ?_
                  refine g_aload_n C dX11_count_91 rfl rfl ?_
                  refine g_getR (i := 0) (j := 0) C dX11_count_92 (L0 hL (by decide) (by decide)) c10 rfl (by decide) f50 (fun _ h9 => h9) (LR0_0 hL (by decide) (by decide)) ?_
                  refine g_getI (i := 3) (j := 3) C dX11_count_95 (L6 hL (by decide) (by decide)) c2 rfl f246 (fun _ h9 => h9) ?_
                  cases hf
                  exact g_iret C dX11_count_98 hr hlk
                · rw [if_neg ht1_7] at hf
                  refine g_tabD (cnt := 8) (tgt := 99) C dX11_count_1 (fun k hk => by have hq : k = 0 ∨ k = 1 ∨ k = 2 ∨ k = 3 ∨ k = 4 ∨ k = 5 ∨ k = 6 ∨ k = 7 := (by omega); rcases hq with rfl | rfl | rfl | rfl | rfl | rfl | rfl | rfl <;> assumption) (by decide) (by decide) ?_
                  refine g_ldc C k80 dX11_count_99 ?_
                  cases hf
                  exact g_iret C dX11_count_101 hr hlk
def f_X11_status (N : Nat) (I : gI) (R : gR) (S : gS)  : Option (Int32) :=
  some (I 0 7)
set_option maxRecDepth 100000 in
set_option maxHeartbeats 8000000 in
theorem m_X11_status (l : Launch) (X : gX) (N : Nat) (I : gI) (R : gR) (S : gS) (hL : gLay 0 91 R S)  (v : Int32) (hf : f_X11_status N I R S  = some v) : gM l yX11_status wsX11_status { frames := 0, cells := 0, slots := 0, locals := 0 } X gE0 [.ref (X.1 + 0)] I R S (some (.int v)) I R S 0 0 := by
  unfold f_X11_status at hf
  refine gM_of (cc := cX11_status) (own := RX11) (maxL := 1) (ret := (some .int)) (by decide) rfl rfl (Nat.le_of_ble_eq_true rfl) ?_
  intro p e s m args below meth c C hr hlk hnm hE
  have ho : (some v) ≠ none := fun h => by cases h
  have f32 := C.2.2.2.2.1 (.fieldLink RX11 32 "TimesByPowers" "latest" "I") (by decide +kernel)
  have c10 : gCl wsX11_status 10 RX11 TX11 8 := ⟨by decide, rfl, rfl, by decide +kernel⟩
  refine g_aload_n C dX11_status_0 rfl rfl ?_
  refine g_getI (i := 7) (j := 7) C dX11_status_1 (L0 hL (by decide) (by decide)) c10 rfl f32 (fun _ h9 => h9) ?_
  cases hf
  exact g_iret C dX11_status_4 hr hlk
def f_X12_in (N : Nat) (I : gI) (R : gR) (S : gS) (a0 : Int64) (a1 : Int64) (a2 : Int64) : Option (Int32) :=
  (if (lg_cmp a0 a1) < 0 then some (0 : Int32) else (if 0 < (lg_cmp a0 a2) then some (0 : Int32) else some (1 : Int32)))
set_option maxRecDepth 100000 in
set_option maxHeartbeats 8000000 in
theorem m_X12_in (l : Launch) (X : gX) (N : Nat) (I : gI) (R : gR) (S : gS) (hL : gLay 91 114 R S) (a0 : Int64) (a1 : Int64) (a2 : Int64) (v : Int32) (hf : f_X12_in N I R S a0 a1 a2 = some v) : gM l yX12_in wsX12_in { frames := 0, cells := 0, slots := 0, locals := 0 } X gE0 [.long a0, .long a1, .long a2] I R S (some (.int v)) I R S 0 0 := by
  unfold f_X12_in at hf
  refine gM_of (cc := cX12_in) (own := RX12) (maxL := 6) (ret := (some .boolean)) (by decide) rfl rfl (Nat.le_of_ble_eq_true rfl) ?_
  intro p e s m args below meth c C hr hlk hnm hE
  have ho : (some v) ≠ none := fun h => by cases h
  refine g_lload_n C dX12_in_0 rfl rfl ?_
  refine g_lload_n C dX12_in_1 rfl rfl ?_
  refine g_lcmp C dX12_in_2 ?_
  refine g_if_lt (tgt := 17) C dX12_in_3 (by decide) hf (fun hf => ?_) (fun hf => ?_)
  · refine g_iconst (v := 0) C dX12_in_17 (by decide) ?_
    cases hf
    exact g_zret C dX12_in_18 hr hlk (by decide)
  · refine g_lload_n C dX12_in_6 rfl rfl ?_
    refine g_lload C dX12_in_7 rfl ?_
    refine g_lcmp C dX12_in_9 ?_
    refine g_if_gt (tgt := 17) C dX12_in_10 (by decide) hf (fun hf => ?_) (fun hf => ?_)
    · refine g_iconst (v := 0) C dX12_in_17 (by decide) ?_
      cases hf
      exact g_zret C dX12_in_18 hr hlk (by decide)
    · refine g_iconst (v := 1) C dX12_in_13 (by decide) ?_
      refine g_goto (tgt := 18) C dX12_in_14 (by decide) ?_
      cases hf
      exact g_zret C dX12_in_18 hr hlk (by decide)
def f_X12_found (N : Nat) (I : gI) (R : gR) (S : gS) (a0 : Int32) : Option (Int32 × gI) :=
  some ((-1000010 : Int32) - a0, gU I 91 1 a0)
set_option maxRecDepth 100000 in
set_option maxHeartbeats 8000000 in
theorem m_X12_found (l : Launch) (X : gX) (N : Nat) (I : gI) (R : gR) (S : gS) (hL : gLay 91 114 R S) (a0 : Int32) (v : Int32) (J : gI) (hf : f_X12_found N I R S a0 = some (v, J)) : gM l yX12_found wsX12_found { frames := 0, cells := 0, slots := 0, locals := 0 } X gE0 [.ref (X.1 + 91), .int a0] I R S (some (.int v)) J R S 0 0 := by
  unfold f_X12_found at hf
  refine gM_of (cc := cX12_found) (own := RX12) (maxL := 2) (ret := (some .int)) (by decide) rfl rfl (Nat.le_of_ble_eq_true rfl) ?_
  intro p e s m args below meth c C hr hlk hnm hE
  have ho : (some (v, J)) ≠ none := fun h => by cases h
  have f7 := C.2.2.2.2.1 (.fieldLink RX12 7 "TimesByPowersModel" "status" "I") (by decide +kernel)
  have c11 : gCl wsX12_found 11 RX12 TX12 29 := ⟨by decide, rfl, rfl, by decide +kernel⟩
  have k10 := C.2.2.2.2.1 (.constant RX12 10 (-1000010)) (by decide +kernel)
  refine g_aload_n C dX12_found_0 rfl rfl ?_
  refine g_iload_n C dX12_found_1 rfl rfl ?_
  refine g_putI (i := 1) (j := 1) C dX12_found_2 (L91 hL (by decide) (by decide)) c11 gy11 rfl f7 (fun _ h9 => h9) (Or.inl rfl) rfl ?_
  refine g_ldc C k10 dX12_found_5 ?_
  refine g_iload_n C dX12_found_7 rfl rfl ?_
  refine g_isub C dX12_found_8 ?_
  cases hf
  exact g_iret C dX12_found_9 hr hlk
def f_X12_figures (N : Nat) (I : gI) (R : gR) (S : gS) (a0 : Int32) (a1 : Nat) : Option (Int32 × gI) :=
  ((iter (σ := Int32 × Int32 × Int32 × gI) (ρ := Int32 × gI) (fun z1 => (if (16 : Int32) ≤ z1.2.2.1 then some (.inr (z1.2.1, z1.2.2.2)) else if (z1.2.2.2 91 2) = 0 then none else if z1.2.2.1 < 0 ∨ gLn S a1 ≤ z1.2.2.1.toNatClampNeg then none else if ((gU z1.2.2.2 a1 z1.2.2.1.toNatClampNeg (z1.1 - z1.1 / (z1.2.2.2 91 2) * (z1.2.2.2 91 2))) 91 2) = 0 then none else if z1.2.2.1 < 0 ∨ gLn S a1 ≤ z1.2.2.1.toNatClampNeg then none else (if ((gU z1.2.2.2 a1 z1.2.2.1.toNatClampNeg (z1.1 - z1.1 / (z1.2.2.2 91 2) * (z1.2.2.2 91 2))) a1 z1.2.2.1.toNatClampNeg) = 0 then some (.inl (z1.1 / ((gU z1.2.2.2 a1 z1.2.2.1.toNatClampNeg (z1.1 - z1.1 / (z1.2.2.2 91 2) * (z1.2.2.2 91 2))) 91 2), z1.2.1, z1.2.2.1 + 1, gU z1.2.2.2 a1 z1.2.2.1.toNatClampNeg (z1.1 - z1.1 / (z1.2.2.2 91 2) * (z1.2.2.2 91 2)))) else some (.inl (z1.1 / ((gU z1.2.2.2 a1 z1.2.2.1.toNatClampNeg (z1.1 - z1.1 / (z1.2.2.2 91 2) * (z1.2.2.2 91 2))) 91 2), z1.2.2.1, z1.2.2.1 + 1, gU z1.2.2.2 a1 z1.2.2.1.toNatClampNeg (z1.1 - z1.1 / (z1.2.2.2 91 2) * (z1.2.2.2 91 2))))))) N (a0, (-1 : Int32), (0 : Int32), I)).bind (fun r2 => some (r2.1, r2.2)))
set_option maxRecDepth 100000 in
set_option maxHeartbeats 8000000 in
theorem m_X12_figures (l : Launch) (X : gX) (N : Nat) (I : gI) (R : gR) (S : gS) (hL : gLay 91 114 R S) (a0 : Int32) (a1 : Nat) (v : Int32) (J : gI) (hf : f_X12_figures N I R S a0 a1 = some (v, J)) : gM l yX12_figures wsX12_figures { frames := 0, cells := 0, slots := 0, locals := 0 } X gE0 [.ref (X.1 + 91), .int a0, .ref (X.1 + a1)] I R S (some (.int v)) J R S 0 0 := by
  unfold f_X12_figures at hf
  refine gM_of (cc := cX12_figures) (own := RX12) (maxL := 6) (ret := (some .int)) (by decide) rfl rfl (Nat.le_of_ble_eq_true rfl) ?_
  intro p e s m args below meth c C hr hlk hnm hE
  have ho : (some (v, J)) ≠ none := fun h => by cases h
  have f11 := C.2.2.2.2.1 (.fieldLink RX12 11 "TimesByPowersModel" "p" "I") (by decide +kernel)
  have c11 : gCl wsX12_figures 11 RX12 TX12 29 := ⟨by decide, rfl, rfl, by decide +kernel⟩
  refine g_iload_n C dX12_figures_0 rfl rfl ?_
  refine g_istore_n C dX12_figures_1 rfl (Nat.le_of_ble_eq_true rfl) rfl rfl ?_
  refine g_iconst (v := -1) C dX12_figures_2 (by decide) ?_
  refine g_istore C dX12_figures_3 (Nat.le_of_ble_eq_true rfl) rfl rfl ?_
  refine g_iconst (v := 0) C dX12_figures_5 (by decide) ?_
  refine g_istore C dX12_figures_6 (Nat.le_of_ble_eq_true rfl) rfl rfl ?_
  refine g_loop (fun z1 => [(0, .ref (X.1 + 91)), (2, .ref (X.1 + a1)), (3, .int z1.1), (4, .int z1.2.1), (5, .int z1.2.2.1)]) (fun z1 => z1.2.2.2) (fun r2 => [(4, .int r2.1)]) (fun r2 => r2.2) 54 hf ho ⟨rfl, rfl, rfl, rfl, rfl, trivial⟩ rfl (fun r2 hf => ?_) (fun z1 o1 hf ho hkz1 hez1 => ?_)
  · refine g_iload C dX12_figures_54 rfl ?_
    cases hf
    exact g_iret C dX12_figures_56 hr hlk
  · refine g_iload C dX12_figures_8 rfl ?_
    refine g_bipush (v := 16) C dX12_figures_10 (by decide) ?_
    refine g_icmp_ge (tgt := 54) C dX12_figures_12 (by decide) hf (fun hf => ?_) (fun hf => ?_)
    · exact g_sub ⟨rfl, trivial⟩ (hez1 _ hf.symm)
    · refine g_aload_n C dX12_figures_15 rfl rfl ?_
      refine g_iload C dX12_figures_16 rfl ?_
      refine g_iload_n C dX12_figures_18 rfl rfl ?_
      refine g_aload_n C dX12_figures_19 rfl rfl ?_
      refine g_getI (i := 2) (j := 2) C dX12_figures_20 (L91 hL (by decide) (by decide)) c11 rfl f11 (fun _ h9 => h9) ?_
      refine g_irem C dX12_figures_23 ho hf (fun hf => ?_)
      refine g_iastD C dX12_figures_24 ho hf (fun hf => ?_)
      refine g_iload_n C dX12_figures_25 rfl rfl ?_
      refine g_aload_n C dX12_figures_26 rfl rfl ?_
      refine g_getI (i := 2) (j := 2) C dX12_figures_27 (L91 hL (by decide) (by decide)) c11 rfl f11 (fun _ h9 => h9) ?_
      refine g_idiv C dX12_figures_30 ho hf (fun hf => ?_)
      refine g_istore_n C dX12_figures_31 rfl (Nat.le_of_ble_eq_true rfl) rfl rfl ?_
      refine g_aload_n C dX12_figures_32 rfl rfl ?_
      refine g_iload C dX12_figures_33 rfl ?_
      refine g_ialdD C dX12_figures_35 ho hf (fun hf => ?_)
      refine g_if_eq (tgt := 44) C dX12_figures_36 (by decide) hf (fun hf => ?_) (fun hf => ?_)
      · refine g_iload C dX12_figures_44 rfl ?_
        refine g_istore C dX12_figures_46 (Nat.le_of_ble_eq_true rfl) rfl rfl ?_
        refine g_iinc (d := 1) C dX12_figures_48 rfl (by decide) rfl (Nat.le_of_ble_eq_true rfl) rfl rfl ?_
        refine g_goto (tgt := 8) C dX12_figures_51 (by decide) ?_
        exact g_sub ⟨rfl, rfl, rfl, rfl, rfl, trivial⟩ (hkz1 _ hf.symm)
      · refine g_iload C dX12_figures_39 rfl ?_
        refine g_goto (tgt := 46) C dX12_figures_41 (by decide) ?_
        refine g_istore C dX12_figures_46 (Nat.le_of_ble_eq_true rfl) rfl rfl ?_
        refine g_iinc (d := 1) C dX12_figures_48 rfl (by decide) rfl (Nat.le_of_ble_eq_true rfl) rfl rfl ?_
        refine g_goto (tgt := 8) C dX12_figures_51 (by decide) ?_
        exact g_sub ⟨rfl, rfl, rfl, rfl, rfl, trivial⟩ (hkz1 _ hf.symm)
def f_X12_power (N : Nat) (I : gI) (R : gR) (S : gS) (a0 : Int32) (a1 : Int32) : Option (Int32) :=
  ((iter (σ := Int32 × Int32) (ρ := Int32) (fun z1 => (if a1 ≤ z1.2 then some (.inr z1.1) else some (.inl (z1.1 * a0, z1.2 + 1)))) N ((1 : Int32), (0 : Int32))).bind (fun r2 => some r2))
set_option maxRecDepth 100000 in
set_option maxHeartbeats 8000000 in
theorem m_X12_power (l : Launch) (X : gX) (N : Nat) (I : gI) (R : gR) (S : gS) (hL : gLay 91 114 R S) (a0 : Int32) (a1 : Int32) (v : Int32) (hf : f_X12_power N I R S a0 a1 = some v) : gM l yX12_power wsX12_power { frames := 0, cells := 0, slots := 0, locals := 0 } X gE0 [.int a0, .int a1] I R S (some (.int v)) I R S 0 0 := by
  unfold f_X12_power at hf
  refine gM_of (cc := cX12_power) (own := RX12) (maxL := 4) (ret := (some .int)) (by decide) rfl rfl (Nat.le_of_ble_eq_true rfl) ?_
  intro p e s m args below meth c C hr hlk hnm hE
  have ho : (some v) ≠ none := fun h => by cases h
  refine g_iconst (v := 1) C dX12_power_0 (by decide) ?_
  refine g_istore_n C dX12_power_1 rfl (Nat.le_of_ble_eq_true rfl) rfl rfl ?_
  refine g_iconst (v := 0) C dX12_power_2 (by decide) ?_
  refine g_istore_n C dX12_power_3 rfl (Nat.le_of_ble_eq_true rfl) rfl rfl ?_
  refine g_loop (fun z1 => [(0, .int a0), (1, .int a1), (2, .int z1.1), (3, .int z1.2)]) (fun z1 => I) (fun r2 => [(2, .int r2)]) (fun r2 => I) 19 hf ho ⟨rfl, rfl, rfl, rfl, trivial⟩ rfl (fun r2 hf => ?_) (fun z1 o1 hf ho hkz1 hez1 => ?_)
  · refine g_iload_n C dX12_power_19 rfl rfl ?_
    cases hf
    exact g_iret C dX12_power_20 hr hlk
  · refine g_iload_n C dX12_power_4 rfl rfl ?_
    refine g_iload_n C dX12_power_5 rfl rfl ?_
    refine g_icmp_ge (tgt := 19) C dX12_power_6 (by decide) hf (fun hf => ?_) (fun hf => ?_)
    · exact g_sub ⟨rfl, trivial⟩ (hez1 _ hf.symm)
    · refine g_iload_n C dX12_power_9 rfl rfl ?_
      refine g_iload_n C dX12_power_10 rfl rfl ?_
      refine g_imul C dX12_power_11 ?_
      refine g_istore_n C dX12_power_12 rfl (Nat.le_of_ble_eq_true rfl) rfl rfl ?_
      refine g_iinc (d := 1) C dX12_power_13 rfl (by decide) rfl (Nat.le_of_ble_eq_true rfl) rfl rfl ?_
      refine g_goto (tgt := 4) C dX12_power_16 (by decide) ?_
      exact g_sub ⟨rfl, rfl, rfl, rfl, trivial⟩ (hkz1 _ hf.symm)
def f_X12_codeOf (N : Nat) (I : gI) (R : gR) (S : gS) (a0 : Nat) (a1 : Int32) : Option (Int32) :=
  ((iter (σ := Int32 × Int32) (ρ := Int32) (fun z1 => (if z1.2 < 0 then some (.inr z1.1) else if z1.2 < 0 ∨ gLn S a0 ≤ z1.2.toNatClampNeg then none else some (.inl ((z1.1 * (I 91 2)) + (I a0 z1.2.toNatClampNeg), z1.2 + (-1))))) N ((0 : Int32), a1 - (1 : Int32))).bind (fun r2 => some r2))
set_option maxRecDepth 100000 in
set_option maxHeartbeats 8000000 in
theorem m_X12_codeOf (l : Launch) (X : gX) (N : Nat) (I : gI) (R : gR) (S : gS) (hL : gLay 91 114 R S) (a0 : Nat) (a1 : Int32) (v : Int32) (hf : f_X12_codeOf N I R S a0 a1 = some v) : gM l yX12_codeOf wsX12_codeOf { frames := 0, cells := 0, slots := 0, locals := 0 } X gE0 [.ref (X.1 + 91), .ref (X.1 + a0), .int a1] I R S (some (.int v)) I R S 0 0 := by
  unfold f_X12_codeOf at hf
  refine gM_of (cc := cX12_codeOf) (own := RX12) (maxL := 5) (ret := (some .int)) (by decide) rfl rfl (Nat.le_of_ble_eq_true rfl) ?_
  intro p e s m args below meth c C hr hlk hnm hE
  have ho : (some v) ≠ none := fun h => by cases h
  have f11 := C.2.2.2.2.1 (.fieldLink RX12 11 "TimesByPowersModel" "p" "I") (by decide +kernel)
  have c11 : gCl wsX12_codeOf 11 RX12 TX12 29 := ⟨by decide, rfl, rfl, by decide +kernel⟩
  refine g_iconst (v := 0) C dX12_codeOf_0 (by decide) ?_
  refine g_istore_n C dX12_codeOf_1 rfl (Nat.le_of_ble_eq_true rfl) rfl rfl ?_
  refine g_iload_n C dX12_codeOf_2 rfl rfl ?_
  refine g_iconst (v := 1) C dX12_codeOf_3 (by decide) ?_
  refine g_isub C dX12_codeOf_4 ?_
  refine g_istore C dX12_codeOf_5 (Nat.le_of_ble_eq_true rfl) rfl rfl ?_
  refine g_loop (fun z1 => [(0, .ref (X.1 + 91)), (1, .ref (X.1 + a0)), (3, .int z1.1), (4, .int z1.2)]) (fun z1 => I) (fun r2 => [(3, .int r2)]) (fun r2 => I) 30 hf ho ⟨rfl, rfl, rfl, rfl, trivial⟩ rfl (fun r2 hf => ?_) (fun z1 o1 hf ho hkz1 hez1 => ?_)
  · refine g_iload_n C dX12_codeOf_30 rfl rfl ?_
    cases hf
    exact g_iret C dX12_codeOf_31 hr hlk
  · refine g_iload C dX12_codeOf_7 rfl ?_
    refine g_if_lt (tgt := 30) C dX12_codeOf_9 (by decide) hf (fun hf => ?_) (fun hf => ?_)
    · exact g_sub ⟨rfl, trivial⟩ (hez1 _ hf.symm)
    · refine g_iload_n C dX12_codeOf_12 rfl rfl ?_
      refine g_aload_n C dX12_codeOf_13 rfl rfl ?_
      refine g_getI (i := 2) (j := 2) C dX12_codeOf_14 (L91 hL (by decide) (by decide)) c11 rfl f11 (fun _ h9 => h9) ?_
      refine g_imul C dX12_codeOf_17 ?_
      refine g_aload_n C dX12_codeOf_18 rfl rfl ?_
      refine g_iload C dX12_codeOf_19 rfl ?_
      refine g_ialdD C dX12_codeOf_21 ho hf (fun hf => ?_)
      refine g_iadd C dX12_codeOf_22 ?_
      refine g_istore_n C dX12_codeOf_23 rfl (Nat.le_of_ble_eq_true rfl) rfl rfl ?_
      refine g_iinc (d := -1) C dX12_codeOf_24 rfl (by decide) rfl (Nat.le_of_ble_eq_true rfl) rfl rfl ?_
      refine g_goto (tgt := 7) C dX12_codeOf_27 (by decide) ?_
      exact g_sub ⟨rfl, rfl, rfl, rfl, trivial⟩ (hkz1 _ hf.symm)
def f_X12_restBy (N : Nat) (I : gI) (R : gR) (S : gS) (a0 : Nat) (a1 : Int32) (a2 : Nat) (a3 : Int32) : Option (gI) :=
  ((iter (σ := Int32 × gI) (ρ := gI) (fun z1 => (if z1.1 < a3 then some (.inr z1.2) else if z1.1 < 0 ∨ gLn S a0 ≤ z1.1.toNatClampNeg then none else ((iter (σ := Int32 × gI) (ρ := gI) (fun z3 => (if a3 < z3.1 then some (.inr z3.2) else if ((z1.1 - a3) + z3.1) < 0 ∨ gLn S a0 ≤ ((z1.1 - a3) + z3.1).toNatClampNeg then none else if z3.1 < 0 ∨ gLn S a2 ≤ z3.1.toNatClampNeg then none else if (z3.2 91 2) = 0 then none else if ((z1.1 - a3) + z3.1) < 0 ∨ gLn S a0 ≤ ((z1.1 - a3) + z3.1).toNatClampNeg then none else some (.inl (z3.1 + 1, gU z3.2 a0 ((z1.1 - a3) + z3.1).toNatClampNeg (((z3.2 a0 ((z1.1 - a3) + z3.1).toNatClampNeg) + (((z3.2 91 2) - (z1.2 a0 z1.1.toNatClampNeg)) * (z3.2 a2 z3.1.toNatClampNeg))) - ((z3.2 a0 ((z1.1 - a3) + z3.1).toNatClampNeg) + (((z3.2 91 2) - (z1.2 a0 z1.1.toNatClampNeg)) * (z3.2 a2 z3.1.toNatClampNeg))) / (z3.2 91 2) * (z3.2 91 2)))))) N ((0 : Int32), z1.2)).bind (fun r4 => some (.inl (z1.1 + (-1), r4)))))) N (a1, I)).bind (fun r2 => some r2))
set_option maxRecDepth 100000 in
set_option maxHeartbeats 8000000 in
theorem m_X12_restBy (l : Launch) (X : gX) (N : Nat) (I : gI) (R : gR) (S : gS) (hL : gLay 91 114 R S) (a0 : Nat) (a1 : Int32) (a2 : Nat) (a3 : Int32) (J : gI) (hf : f_X12_restBy N I R S a0 a1 a2 a3 = some J) : gM l yX12_restBy wsX12_restBy { frames := 0, cells := 0, slots := 0, locals := 0 } X gE0 [.ref (X.1 + 91), .ref (X.1 + a0), .int a1, .ref (X.1 + a2), .int a3] I R S none J R S 0 0 := by
  unfold f_X12_restBy at hf
  refine gM_of (cc := cX12_restBy) (own := RX12) (maxL := 8) (ret := none) (by decide) rfl rfl (Nat.le_of_ble_eq_true rfl) ?_
  intro p e s m args below meth c C hr hlk hnm hE
  have ho : (some J) ≠ none := fun h => by cases h
  have f11 := C.2.2.2.2.1 (.fieldLink RX12 11 "TimesByPowersModel" "p" "I") (by decide +kernel)
  have c11 : gCl wsX12_restBy 11 RX12 TX12 29 := ⟨by decide, rfl, rfl, by decide +kernel⟩
  refine g_iload_n C dX12_restBy_0 rfl rfl ?_
  refine g_istore C dX12_restBy_1 (Nat.le_of_ble_eq_true rfl) rfl rfl ?_
  refine g_loop (fun z1 => [(0, .ref (X.1 + 91)), (1, .ref (X.1 + a0)), (3, .ref (X.1 + a2)), (4, .int a3), (5, .int z1.1)]) (fun z1 => z1.2) (fun r2 => []) (fun r2 => r2) 76 hf ho ⟨rfl, rfl, rfl, rfl, rfl, trivial⟩ rfl (fun r2 hf => ?_) (fun z1 o1 hf ho hkz1 hez1 => ?_)
  · cases hf
    exact g_vret C dX12_restBy_76 hr hlk
  · refine g_iload C dX12_restBy_3 rfl ?_
    refine g_iload C dX12_restBy_5 rfl ?_
    refine g_icmp_lt (tgt := 76) C dX12_restBy_7 (by decide) hf (fun hf => ?_) (fun hf => ?_)
    · exact g_sub ⟨trivial⟩ (hez1 _ hf.symm)
    · refine g_aload_n C dX12_restBy_10 rfl rfl ?_
      refine g_iload C dX12_restBy_11 rfl ?_
      refine g_ialdD C dX12_restBy_13 ho hf (fun hf => ?_)
      refine g_istore C dX12_restBy_14 (Nat.le_of_ble_eq_true rfl) rfl rfl ?_
      refine g_iconst (v := 0) C dX12_restBy_16 (by decide) ?_
      refine g_istore C dX12_restBy_17 (Nat.le_of_ble_eq_true rfl) rfl rfl ?_
      refine g_loop (fun z3 => [(0, .ref (X.1 + 91)), (1, .ref (X.1 + a0)), (3, .ref (X.1 + a2)), (4, .int a3), (5, .int z1.1), (6, .int (z1.2 a0 z1.1.toNatClampNeg)), (7, .int z3.1)]) (fun z3 => z3.2) (fun r4 => [(0, .ref (X.1 + 91)), (1, .ref (X.1 + a0)), (3, .ref (X.1 + a2)), (4, .int a3), (5, .int z1.1)]) (fun r4 => r4) 70 hf ho ⟨rfl, rfl, rfl, rfl, rfl, rfl, rfl, trivial⟩ rfl (fun r4 hf => ?_) (fun z3 o1 hf ho hkz3 hez3 => ?_)
      · refine g_iinc (d := -1) C dX12_restBy_70 rfl (by decide) rfl (Nat.le_of_ble_eq_true rfl) rfl rfl ?_
        refine g_goto (tgt := 3) C dX12_restBy_73 (by decide) ?_
        exact g_sub ⟨rfl, rfl, rfl, rfl, rfl, trivial⟩ (hkz1 _ hf.symm)
      · refine g_iload C dX12_restBy_19 rfl ?_
        refine g_iload C dX12_restBy_21 rfl ?_
        refine g_icmp_gt (tgt := 70) C dX12_restBy_23 (by decide) hf (fun hf => ?_) (fun hf => ?_)
        · exact g_sub ⟨rfl, rfl, rfl, rfl, rfl, trivial⟩ (hez3 _ hf.symm)
        · refine g_aload_n C dX12_restBy_26 rfl rfl ?_
          refine g_iload C dX12_restBy_27 rfl ?_
          refine g_iload C dX12_restBy_29 rfl ?_
          refine g_isub C dX12_restBy_31 ?_
          refine g_iload C dX12_restBy_32 rfl ?_
          refine g_iadd C dX12_restBy_34 ?_
          refine g_aload_n C dX12_restBy_35 rfl rfl ?_
          refine g_iload C dX12_restBy_36 rfl ?_
          refine g_iload C dX12_restBy_38 rfl ?_
          refine g_isub C dX12_restBy_40 ?_
          refine g_iload C dX12_restBy_41 rfl ?_
          refine g_iadd C dX12_restBy_43 ?_
          refine g_ialdD C dX12_restBy_44 ho hf (fun hf => ?_)
          refine g_aload_n C dX12_restBy_45 rfl rfl ?_
          refine g_getI (i := 2) (j := 2) C dX12_restBy_46 (L91 hL (by decide) (by decide)) c11 rfl f11 (fun _ h9 => h9) ?_
          refine g_iload C dX12_restBy_49 rfl ?_
          refine g_isub C dX12_restBy_51 ?_
          refine g_aload_n C dX12_restBy_52 rfl rfl ?_
          refine g_iload C dX12_restBy_53 rfl ?_
          refine g_ialdD C dX12_restBy_55 ho hf (fun hf => ?_)
          refine g_imul C dX12_restBy_56 ?_
          refine g_iadd C dX12_restBy_57 ?_
          refine g_aload_n C dX12_restBy_58 rfl rfl ?_
          refine g_getI (i := 2) (j := 2) C dX12_restBy_59 (L91 hL (by decide) (by decide)) c11 rfl f11 (fun _ h9 => h9) ?_
          refine g_irem C dX12_restBy_62 ho hf (fun hf => ?_)
          refine g_iastD C dX12_restBy_63 ho hf (fun hf => ?_)
          refine g_iinc (d := 1) C dX12_restBy_64 rfl (by decide) rfl (Nat.le_of_ble_eq_true rfl) rfl rfl ?_
          refine g_goto (tgt := 19) C dX12_restBy_67 (by decide) ?_
          exact g_sub ⟨rfl, rfl, rfl, rfl, rfl, rfl, rfl, trivial⟩ (hkz3 _ hf.symm)
def f_X12_isPrime (N : Nat) (I : gI) (R : gR) (S : gS) (a0 : Int32) (a1 : Int32) : Option (Int32 × gI) :=
  ((iter (σ := Int32 × gI) (ρ := (gI) ⊕ (Int32 × gI)) (fun z1 => if (2 : Int32) = 0 then none else ((f_X12_power N z1.2 R S (z1.2 91 2) ((a1 / (2 : Int32)) + (1 : Int32))).bind (fun z3 => (if z3 ≤ z1.1 then some (.inr (.inl z1.2)) else ((f_X12_figures N z1.2 R S z1.1 94).bind (fun z4 => ((f_X12_figures N z4.2 R S a0 92).bind (fun z5 => (if z4.1 < (1 : Int32) then some (.inl (z1.1 + 1, z5.2)) else if z4.1 < 0 ∨ 16 ≤ z4.1.toNatClampNeg then none else (if (z5.2 94 z4.1.toNatClampNeg) = (1 : Int32) then ((f_X12_restBy N z5.2 R S 92 z5.1 94 z4.1).bind (fun z6 => ((iter (σ := Int32 × Int32) (ρ := Int32) (fun z7 => (if z4.1 ≤ z7.2 then some (.inr z7.1) else (if z7.1 = 0 then some (.inl ((0 : Int32), z7.2 + 1)) else if z7.2 < 0 ∨ 16 ≤ z7.2.toNatClampNeg then none else (if (z6 92 z7.2.toNatClampNeg) = 0 then some (.inl ((1 : Int32), z7.2 + 1)) else some (.inl ((0 : Int32), z7.2 + 1)))))) N ((1 : Int32), (0 : Int32))).bind (fun r8 => (if r8 = 0 then some (.inl (z1.1 + 1, z6)) else some (.inr (.inr ((0 : Int32), z6)))))))) else some (.inl (z1.1 + 1, z5.2)))))))))))) N (I 91 2, I)).bind (fun y10 => Sum.elim (fun r2 => some ((1 : Int32), r2)) (fun x9 => some x9) y10))
set_option maxRecDepth 100000 in
set_option maxHeartbeats 8000000 in
theorem m_X12_isPrime (l : Launch) (X : gX) (N : Nat) (I : gI) (R : gR) (S : gS) (hL : gLay 91 114 R S) (a0 : Int32) (a1 : Int32) (v : Int32) (J : gI) (hf : f_X12_isPrime N I R S a0 a1 = some (v, J)) : gM l yX12_isPrime wsX12_isPrime { frames := 1, cells := 0, slots := 0, locals := 27 } X gE0 [.ref (X.1 + 91), .int a0, .int a1] I R S (some (.int v)) J R S 0 0 := by
  unfold f_X12_isPrime at hf
  refine gM_of (cc := cX12_isPrime) (own := RX12) (maxL := 8) (ret := (some .boolean)) (by decide) rfl rfl (Nat.le_of_ble_eq_true rfl) ?_
  intro p e s m args below meth c C hr hlk hnm hE
  have ho : (some (v, J)) ≠ none := fun h => by cases h
  have f11 := C.2.2.2.2.1 (.fieldLink RX12 11 "TimesByPowersModel" "p" "I") (by decide +kernel)
  have c11 : gCl wsX12_isPrime 11 RX12 TX12 29 := ⟨by decide, rfl, rfl, by decide +kernel⟩
  have f18 := C.2.2.2.2.1 (.fieldLink RX12 18 "TimesByPowersModel" "by" "[I") (by decide +kernel)
  have f26 := C.2.2.2.2.1 (.fieldLink RX12 26 "TimesByPowersModel" "one" "[I") (by decide +kernel)
  refine g_aload_n C dX12_isPrime_0 rfl rfl ?_
  refine g_getI (i := 2) (j := 2) C dX12_isPrime_1 (L91 hL (by decide) (by decide)) c11 rfl f11 (fun _ h9 => h9) ?_
  refine g_istore_n C dX12_isPrime_4 rfl (Nat.le_of_ble_eq_true rfl) rfl rfl ?_
  refine g_loopR (fun z1 => [(0, .ref (X.1 + 91)), (1, .int a0), (2, .int a1), (3, .int z1.1)]) (fun z1 => z1.2) (fun r2 => []) (fun r2 => r2) 130 hf ho ⟨rfl, rfl, rfl, rfl, trivial⟩ rfl (fun r2 hf => ?_) (fun z1 o1 hf ho hkz1 hez1 hrz1 => ?_)
  · refine g_iconst (v := 1) C dX12_isPrime_130 (by decide) ?_
    cases hf
    exact g_zret C dX12_isPrime_131 hr hlk (by decide)
  · refine g_iload_n C dX12_isPrime_5 rfl rfl ?_
    refine g_aload_n C dX12_isPrime_6 rfl rfl ?_
    refine g_getI (i := 2) (j := 2) C dX12_isPrime_7 (L91 hL (by decide) (by decide)) c11 rfl f11 (fun _ h9 => h9) ?_
    refine g_iload_n C dX12_isPrime_10 rfl rfl ?_
    refine g_iconst (v := 2) C dX12_isPrime_11 (by decide) ?_
    refine g_idiv C dX12_isPrime_12 ho hf (fun hf => ?_)
    refine g_iconst (v := 1) C dX12_isPrime_13 (by decide) ?_
    refine g_iadd C dX12_isPrime_14 ?_
    obtain ⟨z3, hz3, hf⟩ := gbind hf ho
    refine g_callS C dX12_isPrime_15 (m_X12_power l X N _ _ _  (gLay.sub hL (by decide) (by decide)) _ _ z3 hz3) gEin0 (va_cwS 2 C.2.2.2.2.1 gX12_isPrime_X12_power rfl rfl rfl (by decide +kernel) ⟨Nat.le_of_ble_eq_true rfl, Nat.le_of_ble_eq_true rfl⟩) rfl rfl (Nat.le_of_ble_eq_true rfl) ⟨Nat.le_of_ble_eq_true rfl, Nat.le_of_ble_eq_true rfl⟩ ?_
    refine g_icmp_ge (tgt := 130) C dX12_isPrime_18 (by decide) hf (fun hf => ?_) (fun hf => ?_)
    · exact g_sub ⟨trivial⟩ (hez1 _ hf.symm)
    · refine g_aload_n C dX12_isPrime_21 rfl rfl ?_
      refine g_iload_n C dX12_isPrime_22 rfl rfl ?_
      refine g_aload_n C dX12_isPrime_23 rfl rfl ?_
      refine g_getR (i := 8) (j := 8) C dX12_isPrime_24 (L91 hL (by decide) (by decide)) c11 rfl (by decide) f18 (fun _ h9 => h9) (LR91_8 hL (by decide) (by decide)) ?_
      obtain ⟨z4, hz4, hf⟩ := gbind hf ho
      refine g_callV C dX12_isPrime_27 (m_X12_figures l X N _ _ _  (gLay.sub hL (by decide) (by decide)) _ _ z4.1 z4.2 hz4) gEin0 (cwV 2 C.2.2.2.2.1 gX12_isPrime_X12_figures rfl rfl rfl (by decide +kernel) ⟨Nat.le_of_ble_eq_true rfl, Nat.le_of_ble_eq_true rfl⟩) (L91 hL (by decide) (by decide)) (by decide) rfl rfl rfl (Nat.le_of_ble_eq_true rfl) ⟨Nat.le_of_ble_eq_true rfl, Nat.le_of_ble_eq_true rfl⟩ ?_
      refine g_istore C dX12_isPrime_30 (Nat.le_of_ble_eq_true rfl) rfl rfl ?_
      refine g_aload_n C dX12_isPrime_32 rfl rfl ?_
      refine g_iload_n C dX12_isPrime_33 rfl rfl ?_
      refine g_aload_n C dX12_isPrime_34 rfl rfl ?_
      refine g_getR (i := 6) (j := 6) C dX12_isPrime_35 (L91 hL (by decide) (by decide)) c11 rfl (by decide) f26 (fun _ h9 => h9) (LR91_6 hL (by decide) (by decide)) ?_
      obtain ⟨z5, hz5, hf⟩ := gbind hf ho
      refine g_callV C dX12_isPrime_38 (m_X12_figures l X N _ _ _  (gLay.sub hL (by decide) (by decide)) _ _ z5.1 z5.2 hz5) gEin0 (cwV 2 C.2.2.2.2.1 gX12_isPrime_X12_figures rfl rfl rfl (by decide +kernel) ⟨Nat.le_of_ble_eq_true rfl, Nat.le_of_ble_eq_true rfl⟩) (L91 hL (by decide) (by decide)) (by decide) rfl rfl rfl (Nat.le_of_ble_eq_true rfl) ⟨Nat.le_of_ble_eq_true rfl, Nat.le_of_ble_eq_true rfl⟩ ?_
      refine g_istore C dX12_isPrime_41 (Nat.le_of_ble_eq_true rfl) rfl rfl ?_
      refine g_iload C dX12_isPrime_43 rfl ?_
      refine g_iconst (v := 1) C dX12_isPrime_45 (by decide) ?_
      refine g_icmp_lt (tgt := 124) C dX12_isPrime_46 (by decide) hf (fun hf => ?_) (fun hf => ?_)
      · refine g_iinc (d := 1) C dX12_isPrime_124 rfl (by decide) rfl (Nat.le_of_ble_eq_true rfl) rfl rfl ?_
        refine g_goto (tgt := 5) C dX12_isPrime_127 (by decide) ?_
        exact g_sub ⟨rfl, rfl, rfl, rfl, trivial⟩ (hkz1 _ hf.symm)
      · refine g_aload_n C dX12_isPrime_49 rfl rfl ?_
        refine g_getR (i := 8) (j := 8) C dX12_isPrime_50 (L91 hL (by decide) (by decide)) c11 rfl (by decide) f18 (fun _ h9 => h9) (LR91_8 hL (by decide) (by decide)) ?_
        refine g_iload C dX12_isPrime_53 rfl ?_
        refine g_iald C dX12_isPrime_55 (L94 hL (by decide) (by decide)) ho hf (fun hf => ?_)
        refine g_iconst (v := 1) C dX12_isPrime_56 (by decide) ?_
        refine g_icmp_ne (tgt := 124) C dX12_isPrime_57 (by decide) hf (fun hf => ?_) (fun hf => ?_)
        · refine g_iinc (d := 1) C dX12_isPrime_124 rfl (by decide) rfl (Nat.le_of_ble_eq_true rfl) rfl rfl ?_
          refine g_goto (tgt := 5) C dX12_isPrime_127 (by decide) ?_
          exact g_sub ⟨rfl, rfl, rfl, rfl, trivial⟩ (hkz1 _ hf.symm)
        · refine g_aload_n C dX12_isPrime_60 rfl rfl ?_
          refine g_aload_n C dX12_isPrime_61 rfl rfl ?_
          refine g_getR (i := 6) (j := 6) C dX12_isPrime_62 (L91 hL (by decide) (by decide)) c11 rfl (by decide) f26 (fun _ h9 => h9) (LR91_6 hL (by decide) (by decide)) ?_
          refine g_iload C dX12_isPrime_65 rfl ?_
          refine g_aload_n C dX12_isPrime_67 rfl rfl ?_
          refine g_getR (i := 8) (j := 8) C dX12_isPrime_68 (L91 hL (by decide) (by decide)) c11 rfl (by decide) f18 (fun _ h9 => h9) (LR91_8 hL (by decide) (by decide)) ?_
          refine g_iload C dX12_isPrime_71 rfl ?_
          obtain ⟨z6, hz6, hf⟩ := gbind hf ho
          refine g_callV C dX12_isPrime_73 (m_X12_restBy l X N _ _ _  (gLay.sub hL (by decide) (by decide)) _ _ _ _ z6 hz6) gEin0 (cwV 4 C.2.2.2.2.1 gX12_isPrime_X12_restBy rfl rfl rfl (by decide +kernel) ⟨Nat.le_of_ble_eq_true rfl, Nat.le_of_ble_eq_true rfl⟩) (L91 hL (by decide) (by decide)) (by decide) rfl rfl rfl (Nat.le_of_ble_eq_true rfl) ⟨Nat.le_of_ble_eq_true rfl, Nat.le_of_ble_eq_true rfl⟩ ?_
          refine g_iconst (v := 1) C dX12_isPrime_76 (by decide) ?_
          refine g_istore C dX12_isPrime_77 (Nat.le_of_ble_eq_true rfl) rfl rfl ?_
          refine g_iconst (v := 0) C dX12_isPrime_79 (by decide) ?_
          refine g_istore C dX12_isPrime_80 (Nat.le_of_ble_eq_true rfl) rfl rfl ?_
          refine g_loop (fun z7 => [(0, .ref (X.1 + 91)), (1, .int a0), (2, .int a1), (3, .int z1.1), (4, .int z4.1), (6, .int z7.1), (7, .int z7.2)]) (fun z7 => z6) (fun r8 => [(0, .ref (X.1 + 91)), (1, .int a0), (2, .int a1), (3, .int z1.1), (6, .int r8)]) (fun r8 => z6) 117 hf ho ⟨rfl, rfl, rfl, rfl, rfl, rfl, rfl, trivial⟩ rfl (fun r8 hf => ?_) (fun z7 o1 hf ho hkz7 hez7 => ?_)
          · refine g_iload C dX12_isPrime_117 rfl ?_
            refine g_if_eq (tgt := 124) C dX12_isPrime_119 (by decide) hf (fun hf => ?_) (fun hf => ?_)
            · refine g_iinc (d := 1) C dX12_isPrime_124 rfl (by decide) rfl (Nat.le_of_ble_eq_true rfl) rfl rfl ?_
              refine g_goto (tgt := 5) C dX12_isPrime_127 (by decide) ?_
              exact g_sub ⟨rfl, rfl, rfl, rfl, trivial⟩ (hkz1 _ hf.symm)
            · refine g_iconst (v := 0) C dX12_isPrime_122 (by decide) ?_
              replace hf := hrz1 _ hf.symm
              dsimp only [Sum.elim_inr] at hf
              cases hf
              exact g_zret C dX12_isPrime_123 hr hlk (by decide)
          · refine g_iload C dX12_isPrime_82 rfl ?_
            refine g_iload C dX12_isPrime_84 rfl ?_
            refine g_icmp_ge (tgt := 117) C dX12_isPrime_86 (by decide) hf (fun hf => ?_) (fun hf => ?_)
            · exact g_sub ⟨rfl, rfl, rfl, rfl, rfl, trivial⟩ (hez7 _ hf.symm)
            · refine g_iload C dX12_isPrime_89 rfl ?_
              refine g_if_eq (tgt := 108) C dX12_isPrime_91 (by decide) hf (fun hf => ?_) (fun hf => ?_)
              · refine g_iconst (v := 0) C dX12_isPrime_108 (by decide) ?_
                refine g_istore C dX12_isPrime_109 (Nat.le_of_ble_eq_true rfl) rfl rfl ?_
                refine g_iinc (d := 1) C dX12_isPrime_111 rfl (by decide) rfl (Nat.le_of_ble_eq_true rfl) rfl rfl ?_
                refine g_goto (tgt := 82) C dX12_isPrime_114 (by decide) ?_
                exact g_sub ⟨rfl, rfl, rfl, rfl, rfl, rfl, rfl, trivial⟩ (hkz7 _ hf.symm)
              · refine g_aload_n C dX12_isPrime_94 rfl rfl ?_
                refine g_getR (i := 6) (j := 6) C dX12_isPrime_95 (L91 hL (by decide) (by decide)) c11 rfl (by decide) f26 (fun _ h9 => h9) (LR91_6 hL (by decide) (by decide)) ?_
                refine g_iload C dX12_isPrime_98 rfl ?_
                refine g_iald C dX12_isPrime_100 (L92 hL (by decide) (by decide)) ho hf (fun hf => ?_)
                refine g_if_ne (tgt := 108) C dX12_isPrime_101 (by decide) hf (fun hf => ?_) (fun hf => ?_)
                · refine g_iconst (v := 0) C dX12_isPrime_108 (by decide) ?_
                  refine g_istore C dX12_isPrime_109 (Nat.le_of_ble_eq_true rfl) rfl rfl ?_
                  refine g_iinc (d := 1) C dX12_isPrime_111 rfl (by decide) rfl (Nat.le_of_ble_eq_true rfl) rfl rfl ?_
                  refine g_goto (tgt := 82) C dX12_isPrime_114 (by decide) ?_
                  exact g_sub ⟨rfl, rfl, rfl, rfl, rfl, rfl, rfl, trivial⟩ (hkz7 _ hf.symm)
                · refine g_iconst (v := 1) C dX12_isPrime_104 (by decide) ?_
                  refine g_goto (tgt := 109) C dX12_isPrime_105 (by decide) ?_
                  refine g_istore C dX12_isPrime_109 (Nat.le_of_ble_eq_true rfl) rfl rfl ?_
                  refine g_iinc (d := 1) C dX12_isPrime_111 rfl (by decide) rfl (Nat.le_of_ble_eq_true rfl) rfl rfl ?_
                  refine g_goto (tgt := 82) C dX12_isPrime_114 (by decide) ?_
                  exact g_sub ⟨rfl, rfl, rfl, rfl, rfl, rfl, rfl, trivial⟩ (hkz7 _ hf.symm)
def f_X12_slow (N : Nat) (I : gI) (R : gR) (S : gS) (a0 : Int32) (a1 : Int32) : Option (Int32 × gI) :=
  ((f_X12_figures N I R S a0 92).bind (fun z1 => ((f_X12_figures N z1.2 R S a1 93).bind (fun z2 => ((iter (σ := Int32 × gI) (ρ := gI) (fun z3 => (if (16 : Int32) ≤ z3.1 then some (.inr z3.2) else if z3.1 < 0 ∨ 16 ≤ z3.1.toNatClampNeg then none else some (.inl (z3.1 + 1, gU z3.2 95 z3.1.toNatClampNeg (0 : Int32))))) N ((0 : Int32), z2.2)).bind (fun r4 => ((iter (σ := Int32 × gI) (ρ := gI) (fun z5 => (if z1.1 < z5.1 then some (.inr z5.2) else ((iter (σ := Int32 × gI) (ρ := gI) (fun z7 => (if z2.1 < z7.1 then some (.inr z7.2) else if (z5.1 + z7.1) < 0 ∨ 16 ≤ (z5.1 + z7.1).toNatClampNeg then none else if z5.1 < 0 ∨ 16 ≤ z5.1.toNatClampNeg then none else if z7.1 < 0 ∨ 16 ≤ z7.1.toNatClampNeg then none else if (z7.2 91 2) = 0 then none else if (z5.1 + z7.1) < 0 ∨ 16 ≤ (z5.1 + z7.1).toNatClampNeg then none else some (.inl (z7.1 + 1, gU z7.2 95 (z5.1 + z7.1).toNatClampNeg (((z7.2 95 (z5.1 + z7.1).toNatClampNeg) + ((z7.2 92 z5.1.toNatClampNeg) * (z7.2 93 z7.1.toNatClampNeg))) - ((z7.2 95 (z5.1 + z7.1).toNatClampNeg) + ((z7.2 92 z5.1.toNatClampNeg) * (z7.2 93 z7.1.toNatClampNeg))) / (z7.2 91 2) * (z7.2 91 2)))))) N ((0 : Int32), z5.2)).bind (fun r8 => some (.inl (z5.1 + 1, r8)))))) N ((0 : Int32), r4)).bind (fun r6 => ((f_X12_figures N r6 R S (r6 91 5) 94).bind (fun z9 => ((f_X12_restBy N z9.2 R S 95 (15 : Int32) 94 z9.1).bind (fun z10 => ((f_X12_codeOf N z10 R S 95 (z10 91 3)).bind (fun z11 => some (z11, z10)))))))))))))))
set_option maxRecDepth 100000 in
set_option maxHeartbeats 8000000 in
theorem m_X12_slow (l : Launch) (X : gX) (N : Nat) (I : gI) (R : gR) (S : gS) (hL : gLay 91 114 R S) (a0 : Int32) (a1 : Int32) (v : Int32) (J : gI) (hf : f_X12_slow N I R S a0 a1 = some (v, J)) : gM l yX12_slow wsX12_slow { frames := 1, cells := 0, slots := 0, locals := 27 } X gE0 [.ref (X.1 + 91), .int a0, .int a1] I R S (some (.int v)) J R S 0 0 := by
  unfold f_X12_slow at hf
  refine gM_of (cc := cX12_slow) (own := RX12) (maxL := 7) (ret := (some .int)) (by decide) rfl rfl (Nat.le_of_ble_eq_true rfl) ?_
  intro p e s m args below meth c C hr hlk hnm hE
  have ho : (some (v, J)) ≠ none := fun h => by cases h
  have f26 := C.2.2.2.2.1 (.fieldLink RX12 26 "TimesByPowersModel" "one" "[I") (by decide +kernel)
  have c11 : gCl wsX12_slow 11 RX12 TX12 29 := ⟨by decide, rfl, rfl, by decide +kernel⟩
  have f33 := C.2.2.2.2.1 (.fieldLink RX12 33 "TimesByPowersModel" "two" "[I") (by decide +kernel)
  have f36 := C.2.2.2.2.1 (.fieldLink RX12 36 "TimesByPowersModel" "product" "[I") (by decide +kernel)
  have f11 := C.2.2.2.2.1 (.fieldLink RX12 11 "TimesByPowersModel" "p" "I") (by decide +kernel)
  have f39 := C.2.2.2.2.1 (.fieldLink RX12 39 "TimesByPowersModel" "modulus" "I") (by decide +kernel)
  have f18 := C.2.2.2.2.1 (.fieldLink RX12 18 "TimesByPowersModel" "by" "[I") (by decide +kernel)
  have f42 := C.2.2.2.2.1 (.fieldLink RX12 42 "TimesByPowersModel" "n" "I") (by decide +kernel)
  refine g_aload_n C dX12_slow_0 rfl rfl ?_
  refine g_iload_n C dX12_slow_1 rfl rfl ?_
  refine g_aload_n C dX12_slow_2 rfl rfl ?_
  refine g_getR (i := 6) (j := 6) C dX12_slow_3 (L91 hL (by decide) (by decide)) c11 rfl (by decide) f26 (fun _ h9 => h9) (LR91_6 hL (by decide) (by decide)) ?_
  obtain ⟨z1, hz1, hf⟩ := gbind hf ho
  refine g_callV C dX12_slow_6 (m_X12_figures l X N _ _ _  (gLay.sub hL (by decide) (by decide)) _ _ z1.1 z1.2 hz1) gEin0 (cwV 2 C.2.2.2.2.1 gX12_slow_X12_figures rfl rfl rfl (by decide +kernel) ⟨Nat.le_of_ble_eq_true rfl, Nat.le_of_ble_eq_true rfl⟩) (L91 hL (by decide) (by decide)) (by decide) rfl rfl rfl (Nat.le_of_ble_eq_true rfl) ⟨Nat.le_of_ble_eq_true rfl, Nat.le_of_ble_eq_true rfl⟩ ?_
  refine g_istore_n C dX12_slow_9 rfl (Nat.le_of_ble_eq_true rfl) rfl rfl ?_
  refine g_aload_n C dX12_slow_10 rfl rfl ?_
  refine g_iload_n C dX12_slow_11 rfl rfl ?_
  refine g_aload_n C dX12_slow_12 rfl rfl ?_
  refine g_getR (i := 7) (j := 7) C dX12_slow_13 (L91 hL (by decide) (by decide)) c11 rfl (by decide) f33 (fun _ h9 => h9) (LR91_7 hL (by decide) (by decide)) ?_
  obtain ⟨z2, hz2, hf⟩ := gbind hf ho
  refine g_callV C dX12_slow_16 (m_X12_figures l X N _ _ _  (gLay.sub hL (by decide) (by decide)) _ _ z2.1 z2.2 hz2) gEin0 (cwV 2 C.2.2.2.2.1 gX12_slow_X12_figures rfl rfl rfl (by decide +kernel) ⟨Nat.le_of_ble_eq_true rfl, Nat.le_of_ble_eq_true rfl⟩) (L91 hL (by decide) (by decide)) (by decide) rfl rfl rfl (Nat.le_of_ble_eq_true rfl) ⟨Nat.le_of_ble_eq_true rfl, Nat.le_of_ble_eq_true rfl⟩ ?_
  refine g_istore C dX12_slow_19 (Nat.le_of_ble_eq_true rfl) rfl rfl ?_
  refine g_iconst (v := 0) C dX12_slow_21 (by decide) ?_
  refine g_istore C dX12_slow_22 (Nat.le_of_ble_eq_true rfl) rfl rfl ?_
  refine g_loop (fun z3 => [(0, .ref (X.1 + 91)), (3, .int z1.1), (4, .int z2.1), (5, .int z3.1)]) (fun z3 => z3.2) (fun r4 => [(0, .ref (X.1 + 91)), (3, .int z1.1), (4, .int z2.1)]) (fun r4 => r4) 45 hf ho ⟨rfl, rfl, rfl, rfl, trivial⟩ rfl (fun r4 hf => ?_) (fun z3 o1 hf ho hkz3 hez3 => ?_)
  · refine g_iconst (v := 0) C dX12_slow_45 (by decide) ?_
    refine g_istore C dX12_slow_46 (Nat.le_of_ble_eq_true rfl) rfl rfl ?_
    refine g_loop (fun z5 => [(0, .ref (X.1 + 91)), (3, .int z1.1), (4, .int z2.1), (5, .int z5.1)]) (fun z5 => z5.2) (fun r6 => [(0, .ref (X.1 + 91))]) (fun r6 => r6) 117 hf ho ⟨rfl, rfl, rfl, rfl, trivial⟩ rfl (fun r6 hf => ?_) (fun z5 o1 hf ho hkz5 hez5 => ?_)
    · refine g_aload_n C dX12_slow_117 rfl rfl ?_
      refine g_aload_n C dX12_slow_118 rfl rfl ?_
      refine g_getI (i := 5) (j := 5) C dX12_slow_119 (L91 hL (by decide) (by decide)) c11 rfl f39 (fun _ h9 => h9) ?_
      refine g_aload_n C dX12_slow_122 rfl rfl ?_
      refine g_getR (i := 8) (j := 8) C dX12_slow_123 (L91 hL (by decide) (by decide)) c11 rfl (by decide) f18 (fun _ h9 => h9) (LR91_8 hL (by decide) (by decide)) ?_
      obtain ⟨z9, hz9, hf⟩ := gbind hf ho
      refine g_callV C dX12_slow_126 (m_X12_figures l X N _ _ _  (gLay.sub hL (by decide) (by decide)) _ _ z9.1 z9.2 hz9) gEin0 (cwV 2 C.2.2.2.2.1 gX12_slow_X12_figures rfl rfl rfl (by decide +kernel) ⟨Nat.le_of_ble_eq_true rfl, Nat.le_of_ble_eq_true rfl⟩) (L91 hL (by decide) (by decide)) (by decide) rfl rfl rfl (Nat.le_of_ble_eq_true rfl) ⟨Nat.le_of_ble_eq_true rfl, Nat.le_of_ble_eq_true rfl⟩ ?_
      refine g_istore C dX12_slow_129 (Nat.le_of_ble_eq_true rfl) rfl rfl ?_
      refine g_aload_n C dX12_slow_131 rfl rfl ?_
      refine g_aload_n C dX12_slow_132 rfl rfl ?_
      refine g_getR (i := 9) (j := 9) C dX12_slow_133 (L91 hL (by decide) (by decide)) c11 rfl (by decide) f36 (fun _ h9 => h9) (LR91_9 hL (by decide) (by decide)) ?_
      refine g_bipush (v := 15) C dX12_slow_136 (by decide) ?_
      refine g_aload_n C dX12_slow_138 rfl rfl ?_
      refine g_getR (i := 8) (j := 8) C dX12_slow_139 (L91 hL (by decide) (by decide)) c11 rfl (by decide) f18 (fun _ h9 => h9) (LR91_8 hL (by decide) (by decide)) ?_
      refine g_iload C dX12_slow_142 rfl ?_
      obtain ⟨z10, hz10, hf⟩ := gbind hf ho
      refine g_callV C dX12_slow_144 (m_X12_restBy l X N _ _ _  (gLay.sub hL (by decide) (by decide)) _ _ _ _ z10 hz10) gEin0 (cwV 4 C.2.2.2.2.1 gX12_slow_X12_restBy rfl rfl rfl (by decide +kernel) ⟨Nat.le_of_ble_eq_true rfl, Nat.le_of_ble_eq_true rfl⟩) (L91 hL (by decide) (by decide)) (by decide) rfl rfl rfl (Nat.le_of_ble_eq_true rfl) ⟨Nat.le_of_ble_eq_true rfl, Nat.le_of_ble_eq_true rfl⟩ ?_
      refine g_aload_n C dX12_slow_147 rfl rfl ?_
      refine g_aload_n C dX12_slow_148 rfl rfl ?_
      refine g_getR (i := 9) (j := 9) C dX12_slow_149 (L91 hL (by decide) (by decide)) c11 rfl (by decide) f36 (fun _ h9 => h9) (LR91_9 hL (by decide) (by decide)) ?_
      refine g_aload_n C dX12_slow_152 rfl rfl ?_
      refine g_getI (i := 3) (j := 3) C dX12_slow_153 (L91 hL (by decide) (by decide)) c11 rfl f42 (fun _ h9 => h9) ?_
      obtain ⟨z11, hz11, hf⟩ := gbind hf ho
      refine g_callV C dX12_slow_156 (m_X12_codeOf l X N _ _ _  (gLay.sub hL (by decide) (by decide)) _ _ z11 hz11) gEin0 (cwV 2 C.2.2.2.2.1 gX12_slow_X12_codeOf rfl rfl rfl (by decide +kernel) ⟨Nat.le_of_ble_eq_true rfl, Nat.le_of_ble_eq_true rfl⟩) (L91 hL (by decide) (by decide)) (by decide) rfl rfl rfl (Nat.le_of_ble_eq_true rfl) ⟨Nat.le_of_ble_eq_true rfl, Nat.le_of_ble_eq_true rfl⟩ ?_
      cases hf
      exact g_iret C dX12_slow_159 hr hlk
    · refine g_iload C dX12_slow_48 rfl ?_
      refine g_iload_n C dX12_slow_50 rfl rfl ?_
      refine g_icmp_gt (tgt := 117) C dX12_slow_51 (by decide) hf (fun hf => ?_) (fun hf => ?_)
      · exact g_sub ⟨rfl, trivial⟩ (hez5 _ hf.symm)
      · refine g_iconst (v := 0) C dX12_slow_54 (by decide) ?_
        refine g_istore C dX12_slow_55 (Nat.le_of_ble_eq_true rfl) rfl rfl ?_
        refine g_loop (fun z7 => [(0, .ref (X.1 + 91)), (3, .int z1.1), (4, .int z2.1), (5, .int z5.1), (6, .int z7.1)]) (fun z7 => z7.2) (fun r8 => [(0, .ref (X.1 + 91)), (3, .int z1.1), (4, .int z2.1), (5, .int z5.1)]) (fun r8 => r8) 111 hf ho ⟨rfl, rfl, rfl, rfl, rfl, trivial⟩ rfl (fun r8 hf => ?_) (fun z7 o1 hf ho hkz7 hez7 => ?_)
        · refine g_iinc (d := 1) C dX12_slow_111 rfl (by decide) rfl (Nat.le_of_ble_eq_true rfl) rfl rfl ?_
          refine g_goto (tgt := 48) C dX12_slow_114 (by decide) ?_
          exact g_sub ⟨rfl, rfl, rfl, rfl, trivial⟩ (hkz5 _ hf.symm)
        · refine g_iload C dX12_slow_57 rfl ?_
          refine g_iload C dX12_slow_59 rfl ?_
          refine g_icmp_gt (tgt := 111) C dX12_slow_61 (by decide) hf (fun hf => ?_) (fun hf => ?_)
          · exact g_sub ⟨rfl, rfl, rfl, rfl, trivial⟩ (hez7 _ hf.symm)
          · refine g_aload_n C dX12_slow_64 rfl rfl ?_
            refine g_getR (i := 9) (j := 9) C dX12_slow_65 (L91 hL (by decide) (by decide)) c11 rfl (by decide) f36 (fun _ h9 => h9) (LR91_9 hL (by decide) (by decide)) ?_
            refine g_iload C dX12_slow_68 rfl ?_
            refine g_iload C dX12_slow_70 rfl ?_
            refine g_iadd C dX12_slow_72 ?_
            refine g_aload_n C dX12_slow_73 rfl rfl ?_
            refine g_getR (i := 9) (j := 9) C dX12_slow_74 (L91 hL (by decide) (by decide)) c11 rfl (by decide) f36 (fun _ h9 => h9) (LR91_9 hL (by decide) (by decide)) ?_
            refine g_iload C dX12_slow_77 rfl ?_
            refine g_iload C dX12_slow_79 rfl ?_
            refine g_iadd C dX12_slow_81 ?_
            refine g_iald C dX12_slow_82 (L95 hL (by decide) (by decide)) ho hf (fun hf => ?_)
            refine g_aload_n C dX12_slow_83 rfl rfl ?_
            refine g_getR (i := 6) (j := 6) C dX12_slow_84 (L91 hL (by decide) (by decide)) c11 rfl (by decide) f26 (fun _ h9 => h9) (LR91_6 hL (by decide) (by decide)) ?_
            refine g_iload C dX12_slow_87 rfl ?_
            refine g_iald C dX12_slow_89 (L92 hL (by decide) (by decide)) ho hf (fun hf => ?_)
            refine g_aload_n C dX12_slow_90 rfl rfl ?_
            refine g_getR (i := 7) (j := 7) C dX12_slow_91 (L91 hL (by decide) (by decide)) c11 rfl (by decide) f33 (fun _ h9 => h9) (LR91_7 hL (by decide) (by decide)) ?_
            refine g_iload C dX12_slow_94 rfl ?_
            refine g_iald C dX12_slow_96 (L93 hL (by decide) (by decide)) ho hf (fun hf => ?_)
            refine g_imul C dX12_slow_97 ?_
            refine g_iadd C dX12_slow_98 ?_
            refine g_aload_n C dX12_slow_99 rfl rfl ?_
            refine g_getI (i := 2) (j := 2) C dX12_slow_100 (L91 hL (by decide) (by decide)) c11 rfl f11 (fun _ h9 => h9) ?_
            refine g_irem C dX12_slow_103 ho hf (fun hf => ?_)
            refine g_iast C dX12_slow_104 (L95 hL (by decide) (by decide)) ho hf (fun hf => ?_)
            refine g_iinc (d := 1) C dX12_slow_105 rfl (by decide) rfl (Nat.le_of_ble_eq_true rfl) rfl rfl ?_
            refine g_goto (tgt := 57) C dX12_slow_108 (by decide) ?_
            exact g_sub ⟨rfl, rfl, rfl, rfl, rfl, trivial⟩ (hkz7 _ hf.symm)
  · refine g_iload C dX12_slow_24 rfl ?_
    refine g_bipush (v := 16) C dX12_slow_26 (by decide) ?_
    refine g_icmp_ge (tgt := 45) C dX12_slow_28 (by decide) hf (fun hf => ?_) (fun hf => ?_)
    · exact g_sub ⟨rfl, rfl, rfl, trivial⟩ (hez3 _ hf.symm)
    · refine g_aload_n C dX12_slow_31 rfl rfl ?_
      refine g_getR (i := 9) (j := 9) C dX12_slow_32 (L91 hL (by decide) (by decide)) c11 rfl (by decide) f36 (fun _ h9 => h9) (LR91_9 hL (by decide) (by decide)) ?_
      refine g_iload C dX12_slow_35 rfl ?_
      refine g_iconst (v := 0) C dX12_slow_37 (by decide) ?_
      refine g_iast C dX12_slow_38 (L95 hL (by decide) (by decide)) ho hf (fun hf => ?_)
      refine g_iinc (d := 1) C dX12_slow_39 rfl (by decide) rfl (Nat.le_of_ble_eq_true rfl) rfl rfl ?_
      refine g_goto (tgt := 24) C dX12_slow_42 (by decide) ?_
      exact g_sub ⟨rfl, rfl, rfl, rfl, trivial⟩ (hkz3 _ hf.symm)
def f_X12_init (N : Nat) (I : gI) (R : gR) (S : gS) (a0 : Int32) (a1 : Int32) : Option (gI × gR × gS) :=
  if S.length = 92 then if (S ++ [(12, 16)])[91]? = some (11, 29) then if (S ++ [(12, 16)]).length = 93 then if ((S ++ [(12, 16)]) ++ [(12, 16)]).length = 94 then if (((S ++ [(12, 16)]) ++ [(12, 16)]) ++ [(12, 16)]).length = 95 then if ((((S ++ [(12, 16)]) ++ [(12, 16)]) ++ [(12, 16)]) ++ [(12, 16)]).length = 96 then if (((((S ++ [(12, 16)]) ++ [(12, 16)]) ++ [(12, 16)]) ++ [(12, 16)]) ++ [(12, 15625)]).length = 97 then if ((((((S ++ [(12, 16)]) ++ [(12, 16)]) ++ [(12, 16)]) ++ [(12, 16)]) ++ [(12, 15625)]) ++ [(12, 15625)]).length = 98 then if (0 : Int32) < 0 ∨ 8 ≤ (0 : Int32).toNatClampNeg then none else if (1 : Int32) < 0 ∨ 8 ≤ (1 : Int32).toNatClampNeg then none else if (2 : Int32) < 0 ∨ 8 ≤ (2 : Int32).toNatClampNeg then none else if (3 : Int32) < 0 ∨ 8 ≤ (3 : Int32).toNatClampNeg then none else if (4 : Int32) < 0 ∨ 8 ≤ (4 : Int32).toNatClampNeg then none else if (5 : Int32) < 0 ∨ 8 ≤ (5 : Int32).toNatClampNeg then none else if (6 : Int32) < 0 ∨ 8 ≤ (6 : Int32).toNatClampNeg then none else if (7 : Int32) < 0 ∨ 8 ≤ (7 : Int32).toNatClampNeg then none else if (((((((S ++ [(12, 16)]) ++ [(12, 16)]) ++ [(12, 16)]) ++ [(12, 16)]) ++ [(12, 15625)]) ++ [(12, 15625)]) ++ [(12, 8)]).length = 99 then if ((((((((S ++ [(12, 16)]) ++ [(12, 16)]) ++ [(12, 16)]) ++ [(12, 16)]) ++ [(12, 15625)]) ++ [(12, 15625)]) ++ [(12, 8)]) ++ [(12, 8)]).length = 100 then if (((((((((S ++ [(12, 16)]) ++ [(12, 16)]) ++ [(12, 16)]) ++ [(12, 16)]) ++ [(12, 15625)]) ++ [(12, 15625)]) ++ [(12, 8)]) ++ [(12, 8)]) ++ [(12, 192)]).length = 101 then if ((((((((((S ++ [(12, 16)]) ++ [(12, 16)]) ++ [(12, 16)]) ++ [(12, 16)]) ++ [(12, 15625)]) ++ [(12, 15625)]) ++ [(12, 8)]) ++ [(12, 8)]) ++ [(12, 192)]) ++ [(12, 10)]).length = 102 then if (((((((((((S ++ [(12, 16)]) ++ [(12, 16)]) ++ [(12, 16)]) ++ [(12, 16)]) ++ [(12, 15625)]) ++ [(12, 15625)]) ++ [(12, 8)]) ++ [(12, 8)]) ++ [(12, 192)]) ++ [(12, 10)]) ++ [(12, 40)]).length = 103 then if ((((((((((((S ++ [(12, 16)]) ++ [(12, 16)]) ++ [(12, 16)]) ++ [(12, 16)]) ++ [(12, 15625)]) ++ [(12, 15625)]) ++ [(12, 8)]) ++ [(12, 8)]) ++ [(12, 192)]) ++ [(12, 10)]) ++ [(12, 40)]) ++ [(12, 24)]).length = 104 then if (((((((((((((S ++ [(12, 16)]) ++ [(12, 16)]) ++ [(12, 16)]) ++ [(12, 16)]) ++ [(12, 15625)]) ++ [(12, 15625)]) ++ [(12, 8)]) ++ [(12, 8)]) ++ [(12, 192)]) ++ [(12, 10)]) ++ [(12, 40)]) ++ [(12, 24)]) ++ [(12, 24)]).length = 105 then if ((((((((((((((S ++ [(12, 16)]) ++ [(12, 16)]) ++ [(12, 16)]) ++ [(12, 16)]) ++ [(12, 15625)]) ++ [(12, 15625)]) ++ [(12, 8)]) ++ [(12, 8)]) ++ [(12, 192)]) ++ [(12, 10)]) ++ [(12, 40)]) ++ [(12, 24)]) ++ [(12, 24)]) ++ [(12, 24)]).length = 106 then if (((((((((((((((S ++ [(12, 16)]) ++ [(12, 16)]) ++ [(12, 16)]) ++ [(12, 16)]) ++ [(12, 15625)]) ++ [(12, 15625)]) ++ [(12, 8)]) ++ [(12, 8)]) ++ [(12, 192)]) ++ [(12, 10)]) ++ [(12, 40)]) ++ [(12, 24)]) ++ [(12, 24)]) ++ [(12, 24)]) ++ [(12, 8)]).length = 107 then if ((((((((((((((((S ++ [(12, 16)]) ++ [(12, 16)]) ++ [(12, 16)]) ++ [(12, 16)]) ++ [(12, 15625)]) ++ [(12, 15625)]) ++ [(12, 8)]) ++ [(12, 8)]) ++ [(12, 192)]) ++ [(12, 10)]) ++ [(12, 40)]) ++ [(12, 24)]) ++ [(12, 24)]) ++ [(12, 24)]) ++ [(12, 8)]) ++ [(12, 4)]).length = 108 then if (((((((((((((((((S ++ [(12, 16)]) ++ [(12, 16)]) ++ [(12, 16)]) ++ [(12, 16)]) ++ [(12, 15625)]) ++ [(12, 15625)]) ++ [(12, 8)]) ++ [(12, 8)]) ++ [(12, 192)]) ++ [(12, 10)]) ++ [(12, 40)]) ++ [(12, 24)]) ++ [(12, 24)]) ++ [(12, 24)]) ++ [(12, 8)]) ++ [(12, 4)]) ++ [(12, 5)]).length = 109 then if ((((((((((((((((((S ++ [(12, 16)]) ++ [(12, 16)]) ++ [(12, 16)]) ++ [(12, 16)]) ++ [(12, 15625)]) ++ [(12, 15625)]) ++ [(12, 8)]) ++ [(12, 8)]) ++ [(12, 192)]) ++ [(12, 10)]) ++ [(12, 40)]) ++ [(12, 24)]) ++ [(12, 24)]) ++ [(12, 24)]) ++ [(12, 8)]) ++ [(12, 4)]) ++ [(12, 5)]) ++ [(12, 42)]).length = 110 then if (((((((((((((((((((S ++ [(12, 16)]) ++ [(12, 16)]) ++ [(12, 16)]) ++ [(12, 16)]) ++ [(12, 15625)]) ++ [(12, 15625)]) ++ [(12, 8)]) ++ [(12, 8)]) ++ [(12, 192)]) ++ [(12, 10)]) ++ [(12, 40)]) ++ [(12, 24)]) ++ [(12, 24)]) ++ [(12, 24)]) ++ [(12, 8)]) ++ [(12, 4)]) ++ [(12, 5)]) ++ [(12, 42)]) ++ [(12, 448)]).length = 111 then if ((((((((((((((((((((S ++ [(12, 16)]) ++ [(12, 16)]) ++ [(12, 16)]) ++ [(12, 16)]) ++ [(12, 15625)]) ++ [(12, 15625)]) ++ [(12, 8)]) ++ [(12, 8)]) ++ [(12, 192)]) ++ [(12, 10)]) ++ [(12, 40)]) ++ [(12, 24)]) ++ [(12, 24)]) ++ [(12, 24)]) ++ [(12, 8)]) ++ [(12, 4)]) ++ [(12, 5)]) ++ [(12, 42)]) ++ [(12, 448)]) ++ [(12, 36)]).length = 112 then if (((((((((((((((((((((S ++ [(12, 16)]) ++ [(12, 16)]) ++ [(12, 16)]) ++ [(12, 16)]) ++ [(12, 15625)]) ++ [(12, 15625)]) ++ [(12, 8)]) ++ [(12, 8)]) ++ [(12, 192)]) ++ [(12, 10)]) ++ [(12, 40)]) ++ [(12, 24)]) ++ [(12, 24)]) ++ [(12, 24)]) ++ [(12, 8)]) ++ [(12, 4)]) ++ [(12, 5)]) ++ [(12, 42)]) ++ [(12, 448)]) ++ [(12, 36)]) ++ [(12, 20)]).length = 113 then (((if a0 = (3 : Int32) then some a0 else (if a0 = (5 : Int32) then some a0 else some (2 : Int32))) : Option (Int32)).bind (fun z24 => (((if (1 : Int32) ≤ a1 then (if a1 ≤ (6 : Int32) then some a1 else some (6 : Int32)) else some (1 : Int32)) : Option (Int32)).bind (fun z25 => if gLayb 91 114 (gU (gU (gU (gU (gU (gU (gU (gU (gU (gU (gU (gU (gU (gU (gU (gU (gU (gU (gU (gU (gU (gU R 91 6 (some 92)) 91 7 (some 93)) 91 8 (some 94)) 91 9 (some 95)) 91 10 (some 96)) 91 11 (some 97)) 91 12 (some 98)) 91 13 (some 99)) 91 14 (some 100)) 91 15 (some 101)) 91 16 (some 102)) 91 17 (some 103)) 91 18 (some 104)) 91 19 (some 105)) 91 20 (some 106)) 91 21 (some 107)) 91 22 (some 108)) 91 23 (some 109)) 91 24 (some 110)) 91 25 (some 111)) 91 26 (some 112)) 91 27 (some 113)) ((((((((((((((((((((((S ++ [(12, 16)]) ++ [(12, 16)]) ++ [(12, 16)]) ++ [(12, 16)]) ++ [(12, 15625)]) ++ [(12, 15625)]) ++ [(12, 8)]) ++ [(12, 8)]) ++ [(12, 192)]) ++ [(12, 10)]) ++ [(12, 40)]) ++ [(12, 24)]) ++ [(12, 24)]) ++ [(12, 24)]) ++ [(12, 8)]) ++ [(12, 4)]) ++ [(12, 5)]) ++ [(12, 42)]) ++ [(12, 448)]) ++ [(12, 36)]) ++ [(12, 20)]) ++ [(12, 16)]) = true then ((f_X12_power N (gU (gU (gZ (gZ (gZ (gZ (gZ (gZ (gZ (gZ (gZ (gZ (gZ (gZ (gZ (gZ (gZ (gU (gU (gU (gU (gU (gU (gU (gU (gZ (gZ (gZ (gZ (gZ (gZ (gZ I 92) 93) 94) 95) 96) 97) 98) 98 (0 : Int32).toNatClampNeg (-1 : Int32)) 98 (1 : Int32).toNatClampNeg (-1 : Int32)) 98 (2 : Int32).toNatClampNeg (-1 : Int32)) 98 (3 : Int32).toNatClampNeg (-1 : Int32)) 98 (4 : Int32).toNatClampNeg (-1 : Int32)) 98 (5 : Int32).toNatClampNeg (-1 : Int32)) 98 (6 : Int32).toNatClampNeg (-1 : Int32)) 98 (7 : Int32).toNatClampNeg (-1 : Int32)) 99) 100) 101) 102) 103) 104) 105) 106) 107) 108) 109) 110) 111) 112) 113) 91 2 z24) 91 3 z25) (gU (gU (gU (gU (gU (gU (gU (gU (gU (gU (gU (gU (gU (gU (gU (gU (gU (gU (gU (gU (gU (gU R 91 6 (some 92)) 91 7 (some 93)) 91 8 (some 94)) 91 9 (some 95)) 91 10 (some 96)) 91 11 (some 97)) 91 12 (some 98)) 91 13 (some 99)) 91 14 (some 100)) 91 15 (some 101)) 91 16 (some 102)) 91 17 (some 103)) 91 18 (some 104)) 91 19 (some 105)) 91 20 (some 106)) 91 21 (some 107)) 91 22 (some 108)) 91 23 (some 109)) 91 24 (some 110)) 91 25 (some 111)) 91 26 (some 112)) 91 27 (some 113)) ((((((((((((((((((((((S ++ [(12, 16)]) ++ [(12, 16)]) ++ [(12, 16)]) ++ [(12, 16)]) ++ [(12, 15625)]) ++ [(12, 15625)]) ++ [(12, 8)]) ++ [(12, 8)]) ++ [(12, 192)]) ++ [(12, 10)]) ++ [(12, 40)]) ++ [(12, 24)]) ++ [(12, 24)]) ++ [(12, 24)]) ++ [(12, 8)]) ++ [(12, 4)]) ++ [(12, 5)]) ++ [(12, 42)]) ++ [(12, 448)]) ++ [(12, 36)]) ++ [(12, 20)]) ++ [(12, 16)]) ((gU (gU (gZ (gZ (gZ (gZ (gZ (gZ (gZ (gZ (gZ (gZ (gZ (gZ (gZ (gZ (gZ (gU (gU (gU (gU (gU (gU (gU (gU (gZ (gZ (gZ (gZ (gZ (gZ (gZ I 92) 93) 94) 95) 96) 97) 98) 98 (0 : Int32).toNatClampNeg (-1 : Int32)) 98 (1 : Int32).toNatClampNeg (-1 : Int32)) 98 (2 : Int32).toNatClampNeg (-1 : Int32)) 98 (3 : Int32).toNatClampNeg (-1 : Int32)) 98 (4 : Int32).toNatClampNeg (-1 : Int32)) 98 (5 : Int32).toNatClampNeg (-1 : Int32)) 98 (6 : Int32).toNatClampNeg (-1 : Int32)) 98 (7 : Int32).toNatClampNeg (-1 : Int32)) 99) 100) 101) 102) 103) 104) 105) 106) 107) 108) 109) 110) 111) 112) 113) 91 2 z24) 91 3 z25) 91 2) ((gU (gU (gZ (gZ (gZ (gZ (gZ (gZ (gZ (gZ (gZ (gZ (gZ (gZ (gZ (gZ (gZ (gU (gU (gU (gU (gU (gU (gU (gU (gZ (gZ (gZ (gZ (gZ (gZ (gZ I 92) 93) 94) 95) 96) 97) 98) 98 (0 : Int32).toNatClampNeg (-1 : Int32)) 98 (1 : Int32).toNatClampNeg (-1 : Int32)) 98 (2 : Int32).toNatClampNeg (-1 : Int32)) 98 (3 : Int32).toNatClampNeg (-1 : Int32)) 98 (4 : Int32).toNatClampNeg (-1 : Int32)) 98 (5 : Int32).toNatClampNeg (-1 : Int32)) 98 (6 : Int32).toNatClampNeg (-1 : Int32)) 98 (7 : Int32).toNatClampNeg (-1 : Int32)) 99) 100) 101) 102) 103) 104) 105) 106) 107) 108) 109) 110) 111) 112) 113) 91 2 z24) 91 3 z25) 91 3)).bind (fun z26 => ((iter (σ := Int32 × gI) (ρ := Int32 × gI) (fun z28 => (if (z28.2 91 3) ≤ (1 : Int32) then some (.inr (z28.1, z28.2)) else ((f_X12_isPrime N z28.2 (gU (gU (gU (gU (gU (gU (gU (gU (gU (gU (gU (gU (gU (gU (gU (gU (gU (gU (gU (gU (gU (gU R 91 6 (some 92)) 91 7 (some 93)) 91 8 (some 94)) 91 9 (some 95)) 91 10 (some 96)) 91 11 (some 97)) 91 12 (some 98)) 91 13 (some 99)) 91 14 (some 100)) 91 15 (some 101)) 91 16 (some 102)) 91 17 (some 103)) 91 18 (some 104)) 91 19 (some 105)) 91 20 (some 106)) 91 21 (some 107)) 91 22 (some 108)) 91 23 (some 109)) 91 24 (some 110)) 91 25 (some 111)) 91 26 (some 112)) 91 27 (some 113)) ((((((((((((((((((((((S ++ [(12, 16)]) ++ [(12, 16)]) ++ [(12, 16)]) ++ [(12, 16)]) ++ [(12, 15625)]) ++ [(12, 15625)]) ++ [(12, 8)]) ++ [(12, 8)]) ++ [(12, 192)]) ++ [(12, 10)]) ++ [(12, 40)]) ++ [(12, 24)]) ++ [(12, 24)]) ++ [(12, 24)]) ++ [(12, 8)]) ++ [(12, 4)]) ++ [(12, 5)]) ++ [(12, 42)]) ++ [(12, 448)]) ++ [(12, 36)]) ++ [(12, 20)]) ++ [(12, 16)]) z28.1 (z28.2 91 3)).bind (fun z30 => (if z30.1 = 0 then some (.inl (z28.1 + 1, z30.2)) else some (.inr (z28.1, z30.2))))))) N ((gU (gU (gU (gZ (gZ (gZ (gZ (gZ (gZ (gZ (gZ (gZ (gZ (gZ (gZ (gZ (gZ (gZ (gU (gU (gU (gU (gU (gU (gU (gU (gZ (gZ (gZ (gZ (gZ (gZ (gZ I 92) 93) 94) 95) 96) 97) 98) 98 (0 : Int32).toNatClampNeg (-1 : Int32)) 98 (1 : Int32).toNatClampNeg (-1 : Int32)) 98 (2 : Int32).toNatClampNeg (-1 : Int32)) 98 (3 : Int32).toNatClampNeg (-1 : Int32)) 98 (4 : Int32).toNatClampNeg (-1 : Int32)) 98 (5 : Int32).toNatClampNeg (-1 : Int32)) 98 (6 : Int32).toNatClampNeg (-1 : Int32)) 98 (7 : Int32).toNatClampNeg (-1 : Int32)) 99) 100) 101) 102) 103) 104) 105) 106) 107) 108) 109) 110) 111) 112) 113) 91 2 z24) 91 3 z25) 91 4 z26) 91 4, gU (gU (gU (gZ (gZ (gZ (gZ (gZ (gZ (gZ (gZ (gZ (gZ (gZ (gZ (gZ (gZ (gZ (gU (gU (gU (gU (gU (gU (gU (gU (gZ (gZ (gZ (gZ (gZ (gZ (gZ I 92) 93) 94) 95) 96) 97) 98) 98 (0 : Int32).toNatClampNeg (-1 : Int32)) 98 (1 : Int32).toNatClampNeg (-1 : Int32)) 98 (2 : Int32).toNatClampNeg (-1 : Int32)) 98 (3 : Int32).toNatClampNeg (-1 : Int32)) 98 (4 : Int32).toNatClampNeg (-1 : Int32)) 98 (5 : Int32).toNatClampNeg (-1 : Int32)) 98 (6 : Int32).toNatClampNeg (-1 : Int32)) 98 (7 : Int32).toNatClampNeg (-1 : Int32)) 99) 100) 101) 102) 103) 104) 105) 106) 107) 108) 109) 110) 111) 112) 113) 91 2 z24) 91 3 z25) 91 4 z26)).bind (fun r29 => ((iter (σ := Int32 × Int32 × gI) (ρ := gI) (fun z31 => (if (z31.2.2 91 4) ≤ z31.2.1 then some (.inr z31.2.2) else (if z31.1 = 0 then ((iter (σ := Int32 × Int32 × Int32 × gI) (ρ := Int32 × gI) (fun z33 => (if z33.2.2.1 = 0 then some (.inr (z33.2.1, z33.2.2.2)) else if z33.2.1 < 0 ∨ 15625 ≤ z33.2.1.toNatClampNeg then none else if z33.1 < 0 ∨ 15625 ≤ z33.1.toNatClampNeg then none else ((f_X12_slow N (gU (gU z33.2.2.2 96 z33.2.1.toNatClampNeg z33.1) 97 z33.1.toNatClampNeg z33.2.1) (gU (gU (gU (gU (gU (gU (gU (gU (gU (gU (gU (gU (gU (gU (gU (gU (gU (gU (gU (gU (gU (gU R 91 6 (some 92)) 91 7 (some 93)) 91 8 (some 94)) 91 9 (some 95)) 91 10 (some 96)) 91 11 (some 97)) 91 12 (some 98)) 91 13 (some 99)) 91 14 (some 100)) 91 15 (some 101)) 91 16 (some 102)) 91 17 (some 103)) 91 18 (some 104)) 91 19 (some 105)) 91 20 (some 106)) 91 21 (some 107)) 91 22 (some 108)) 91 23 (some 109)) 91 24 (some 110)) 91 25 (some 111)) 91 26 (some 112)) 91 27 (some 113)) ((((((((((((((((((((((S ++ [(12, 16)]) ++ [(12, 16)]) ++ [(12, 16)]) ++ [(12, 16)]) ++ [(12, 15625)]) ++ [(12, 15625)]) ++ [(12, 8)]) ++ [(12, 8)]) ++ [(12, 192)]) ++ [(12, 10)]) ++ [(12, 40)]) ++ [(12, 24)]) ++ [(12, 24)]) ++ [(12, 24)]) ++ [(12, 8)]) ++ [(12, 4)]) ++ [(12, 5)]) ++ [(12, 42)]) ++ [(12, 448)]) ++ [(12, 36)]) ++ [(12, 20)]) ++ [(12, 16)]) z33.1 z31.2.1).bind (fun z35 => (if z35.1 = (1 : Int32) then some (.inl (z35.1, z33.2.1 + 1, (0 : Int32), z35.2)) else some (.inl (z35.1, z33.2.1 + 1, (1 : Int32), z35.2))))))) N ((1 : Int32), (0 : Int32), (1 : Int32), z31.2.2)).bind (fun r34 => (if r34.1 = ((r34.2 91 4) - (1 : Int32)) then some (.inl ((1 : Int32), z31.2.1 + 1, r34.2)) else some (.inl ((0 : Int32), z31.2.1 + 1, r34.2))))) else some (.inr z31.2.2)))) N ((0 : Int32), (1 : Int32), gU r29.2 91 5 r29.1)).bind (fun r32 => some (r32, gU (gU (gU (gU (gU (gU (gU (gU (gU (gU (gU (gU (gU (gU (gU (gU (gU (gU (gU (gU (gU (gU R 91 6 (some 92)) 91 7 (some 93)) 91 8 (some 94)) 91 9 (some 95)) 91 10 (some 96)) 91 11 (some 97)) 91 12 (some 98)) 91 13 (some 99)) 91 14 (some 100)) 91 15 (some 101)) 91 16 (some 102)) 91 17 (some 103)) 91 18 (some 104)) 91 19 (some 105)) 91 20 (some 106)) 91 21 (some 107)) 91 22 (some 108)) 91 23 (some 109)) 91 24 (some 110)) 91 25 (some 111)) 91 26 (some 112)) 91 27 (some 113), (((((((((((((((((((((S ++ [(12, 16)]) ++ [(12, 16)]) ++ [(12, 16)]) ++ [(12, 16)]) ++ [(12, 15625)]) ++ [(12, 15625)]) ++ [(12, 8)]) ++ [(12, 8)]) ++ [(12, 192)]) ++ [(12, 10)]) ++ [(12, 40)]) ++ [(12, 24)]) ++ [(12, 24)]) ++ [(12, 24)]) ++ [(12, 8)]) ++ [(12, 4)]) ++ [(12, 5)]) ++ [(12, 42)]) ++ [(12, 448)]) ++ [(12, 36)]) ++ [(12, 20)]) ++ [(12, 16)]))))))) else none)))) else none else none else none else none else none else none else none else none else none else none else none else none else none else none else none else none else none else none else none else none else none else none else none
set_option maxRecDepth 100000 in
set_option maxHeartbeats 8000000 in
theorem m_X12_init (l : Launch) (X : gX) (N : Nat) (I : gI) (R : gR) (S : gS) (a0 : Int32) (a1 : Int32) (J : gI) (P : gR) (T : gS) (hf : f_X12_init N I R S a0 a1 = some (J, P, T)) : gM l yX12_init wsX12_init { frames := 2, cells := 22, slots := 32223, locals := 54 } X gE0 [.ref (X.1 + 91), .int a0, .int a1] I R S none J P T 22 32223 := by
  unfold f_X12_init at hf
  refine gM_of (cc := cX12_init) (own := RX12) (maxL := 9) (ret := none) (by decide) rfl rfl (Nat.le_of_ble_eq_true rfl) ?_
  intro p e s m args below meth c C hr hlk hnm hE
  have ho : (some (J, P, T)) ≠ none := fun h => by cases h
  have m49 := C.2.2.2.2.1 (.methodLink RX12 49 objectInit) (by decide +kernel)
  have oi := C.2.2.2.2.1 (.instanceMethod objectInit) (by decide +kernel)
  have oc := C.2.2.2.2.1 (.code objectInit ⟨#[0xb1]⟩ 1 none) (by first | exact List.mem_cons_of_mem _ (List.mem_append_left _ (List.mem_of_getElem? (i := 2) rfl)) | decide +kernel)
  have ai := C.2.2.2.2.1 (.arrayClass .int) (by decide +kernel)
  have f26 := C.2.2.2.2.1 (.fieldLink RX12 26 "TimesByPowersModel" "one" "[I") (by decide +kernel)
  have c11 : gCl wsX12_init 11 RX12 TX12 29 := ⟨by decide, rfl, rfl, by decide +kernel⟩
  have f33 := C.2.2.2.2.1 (.fieldLink RX12 33 "TimesByPowersModel" "two" "[I") (by decide +kernel)
  have f18 := C.2.2.2.2.1 (.fieldLink RX12 18 "TimesByPowersModel" "by" "[I") (by decide +kernel)
  have f36 := C.2.2.2.2.1 (.fieldLink RX12 36 "TimesByPowersModel" "product" "[I") (by decide +kernel)
  have f55 := C.2.2.2.2.1 (.fieldLink RX12 55 "TimesByPowersModel" "raised" "[I") (by decide +kernel)
  have f58 := C.2.2.2.2.1 (.fieldLink RX12 58 "TimesByPowersModel" "log" "[I") (by decide +kernel)
  have f61 := C.2.2.2.2.1 (.fieldLink RX12 61 "TimesByPowersModel" "lane" "[I") (by decide +kernel)
  have f64 := C.2.2.2.2.1 (.fieldLink RX12 64 "TimesByPowersModel" "many" "[I") (by decide +kernel)
  have f67 := C.2.2.2.2.1 (.fieldLink RX12 67 "TimesByPowersModel" "item" "[I") (by decide +kernel)
  have f70 := C.2.2.2.2.1 (.fieldLink RX12 70 "TimesByPowersModel" "rank" "[I") (by decide +kernel)
  have f73 := C.2.2.2.2.1 (.fieldLink RX12 73 "TimesByPowersModel" "t" "[I") (by decide +kernel)
  have f76 := C.2.2.2.2.1 (.fieldLink RX12 76 "TimesByPowersModel" "made" "[I") (by decide +kernel)
  have f79 := C.2.2.2.2.1 (.fieldLink RX12 79 "TimesByPowersModel" "keep" "[I") (by decide +kernel)
  have f82 := C.2.2.2.2.1 (.fieldLink RX12 82 "TimesByPowersModel" "own" "[I") (by decide +kernel)
  have f85 := C.2.2.2.2.1 (.fieldLink RX12 85 "TimesByPowersModel" "poly" "[I") (by decide +kernel)
  have f88 := C.2.2.2.2.1 (.fieldLink RX12 88 "TimesByPowersModel" "fresh" "[I") (by decide +kernel)
  have f91 := C.2.2.2.2.1 (.fieldLink RX12 91 "TimesByPowersModel" "u" "[I") (by decide +kernel)
  have f94 := C.2.2.2.2.1 (.fieldLink RX12 94 "TimesByPowersModel" "way" "[I") (by decide +kernel)
  have f97 := C.2.2.2.2.1 (.fieldLink RX12 97 "TimesByPowersModel" "minors" "[I") (by decide +kernel)
  have f100 := C.2.2.2.2.1 (.fieldLink RX12 100 "TimesByPowersModel" "entry" "[I") (by decide +kernel)
  have f103 := C.2.2.2.2.1 (.fieldLink RX12 103 "TimesByPowersModel" "rests" "[I") (by decide +kernel)
  have f106 := C.2.2.2.2.1 (.fieldLink RX12 106 "TimesByPowersModel" "trace" "[I") (by decide +kernel)
  have f11 := C.2.2.2.2.1 (.fieldLink RX12 11 "TimesByPowersModel" "p" "I") (by decide +kernel)
  have f42 := C.2.2.2.2.1 (.fieldLink RX12 42 "TimesByPowersModel" "n" "I") (by decide +kernel)
  have f109 := C.2.2.2.2.1 (.fieldLink RX12 109 "TimesByPowersModel" "q" "I") (by decide +kernel)
  have f39 := C.2.2.2.2.1 (.fieldLink RX12 39 "TimesByPowersModel" "modulus" "I") (by decide +kernel)
  refine g_aload_n C dX12_init_0 rfl rfl ?_
  refine g_objInit C dX12_init_1 m49 oi oc (Nat.le_of_ble_eq_true rfl) (Nat.le_of_ble_eq_true rfl) ?_
  refine g_aload_n C dX12_init_4 rfl rfl ?_
  refine g_bipush (v := 16) C dX12_init_5 (by decide) ?_
  obtain ⟨hq1, hf⟩ := gcase hf ho
  refine g_newa (q := 92) C dX12_init_7 ai (by decide) (by decide) (by decide) ⟨Nat.le_of_ble_eq_true rfl, Nat.le_of_ble_eq_true rfl⟩ hq1 ?_
  obtain ⟨hs2, hf⟩ := gcase hf ho
  refine g_putR (i := 6) (j := 6) C dX12_init_9 hs2 c11 gy11 rfl (by decide) f26 (fun _ h9 => h9) (Or.inr ⟨rfl, hnm, rfl⟩) (fun _ => ⟨rfl, rfl⟩) ?_
  refine g_aload_n C dX12_init_12 rfl rfl ?_
  refine g_bipush (v := 16) C dX12_init_13 (by decide) ?_
  obtain ⟨hq3, hf⟩ := gcase hf ho
  refine g_newa (q := 93) C dX12_init_15 ai (by decide) (by decide) (by decide) ⟨Nat.le_of_ble_eq_true rfl, Nat.le_of_ble_eq_true rfl⟩ hq3 ?_
  refine g_putR (i := 7) (j := 7) C dX12_init_17 (gS_app hs2) c11 gy11 rfl (by decide) f33 (fun _ h9 => h9) (Or.inr ⟨rfl, hnm, rfl⟩) (fun _ => ⟨rfl, rfl⟩) ?_
  refine g_aload_n C dX12_init_20 rfl rfl ?_
  refine g_bipush (v := 16) C dX12_init_21 (by decide) ?_
  obtain ⟨hq4, hf⟩ := gcase hf ho
  refine g_newa (q := 94) C dX12_init_23 ai (by decide) (by decide) (by decide) ⟨Nat.le_of_ble_eq_true rfl, Nat.le_of_ble_eq_true rfl⟩ hq4 ?_
  refine g_putR (i := 8) (j := 8) C dX12_init_25 (gS_app (gS_app hs2)) c11 gy11 rfl (by decide) f18 (fun _ h9 => h9) (Or.inr ⟨rfl, hnm, rfl⟩) (fun _ => ⟨rfl, rfl⟩) ?_
  refine g_aload_n C dX12_init_28 rfl rfl ?_
  refine g_bipush (v := 16) C dX12_init_29 (by decide) ?_
  obtain ⟨hq5, hf⟩ := gcase hf ho
  refine g_newa (q := 95) C dX12_init_31 ai (by decide) (by decide) (by decide) ⟨Nat.le_of_ble_eq_true rfl, Nat.le_of_ble_eq_true rfl⟩ hq5 ?_
  refine g_putR (i := 9) (j := 9) C dX12_init_33 (gS_app (gS_app (gS_app hs2))) c11 gy11 rfl (by decide) f36 (fun _ h9 => h9) (Or.inr ⟨rfl, hnm, rfl⟩) (fun _ => ⟨rfl, rfl⟩) ?_
  refine g_aload_n C dX12_init_36 rfl rfl ?_
  refine g_sipush (v := 15625) C dX12_init_37 (by decide) ?_
  obtain ⟨hq6, hf⟩ := gcase hf ho
  refine g_newa (q := 96) C dX12_init_40 ai (by decide) (by decide) (by decide) ⟨Nat.le_of_ble_eq_true rfl, Nat.le_of_ble_eq_true rfl⟩ hq6 ?_
  refine g_putR (i := 10) (j := 10) C dX12_init_42 (gS_app (gS_app (gS_app (gS_app hs2)))) c11 gy11 rfl (by decide) f55 (fun _ h9 => h9) (Or.inr ⟨rfl, hnm, rfl⟩) (fun _ => ⟨rfl, rfl⟩) ?_
  refine g_aload_n C dX12_init_45 rfl rfl ?_
  refine g_sipush (v := 15625) C dX12_init_46 (by decide) ?_
  obtain ⟨hq7, hf⟩ := gcase hf ho
  refine g_newa (q := 97) C dX12_init_49 ai (by decide) (by decide) (by decide) ⟨Nat.le_of_ble_eq_true rfl, Nat.le_of_ble_eq_true rfl⟩ hq7 ?_
  refine g_putR (i := 11) (j := 11) C dX12_init_51 (gS_app (gS_app (gS_app (gS_app (gS_app hs2))))) c11 gy11 rfl (by decide) f58 (fun _ h9 => h9) (Or.inr ⟨rfl, hnm, rfl⟩) (fun _ => ⟨rfl, rfl⟩) ?_
  refine g_aload_n C dX12_init_54 rfl rfl ?_
  refine g_bipush (v := 8) C dX12_init_55 (by decide) ?_
  obtain ⟨hq8, hf⟩ := gcase hf ho
  refine g_newa (q := 98) C dX12_init_57 ai (by decide) (by decide) (by decide) ⟨Nat.le_of_ble_eq_true rfl, Nat.le_of_ble_eq_true rfl⟩ hq8 ?_
  refine g_dup C dX12_init_59 rfl ?_
  refine g_iconst (v := 0) C dX12_init_60 (by decide) ?_
  refine g_iconst (v := -1) C dX12_init_61 (by decide) ?_
  refine g_iast C dX12_init_62 (gS_last hq8) ho hf (fun hf => ?_)
  refine g_dup C dX12_init_63 rfl ?_
  refine g_iconst (v := 1) C dX12_init_64 (by decide) ?_
  refine g_iconst (v := -1) C dX12_init_65 (by decide) ?_
  refine g_iast C dX12_init_66 (gS_last hq8) ho hf (fun hf => ?_)
  refine g_dup C dX12_init_67 rfl ?_
  refine g_iconst (v := 2) C dX12_init_68 (by decide) ?_
  refine g_iconst (v := -1) C dX12_init_69 (by decide) ?_
  refine g_iast C dX12_init_70 (gS_last hq8) ho hf (fun hf => ?_)
  refine g_dup C dX12_init_71 rfl ?_
  refine g_iconst (v := 3) C dX12_init_72 (by decide) ?_
  refine g_iconst (v := -1) C dX12_init_73 (by decide) ?_
  refine g_iast C dX12_init_74 (gS_last hq8) ho hf (fun hf => ?_)
  refine g_dup C dX12_init_75 rfl ?_
  refine g_iconst (v := 4) C dX12_init_76 (by decide) ?_
  refine g_iconst (v := -1) C dX12_init_77 (by decide) ?_
  refine g_iast C dX12_init_78 (gS_last hq8) ho hf (fun hf => ?_)
  refine g_dup C dX12_init_79 rfl ?_
  refine g_iconst (v := 5) C dX12_init_80 (by decide) ?_
  refine g_iconst (v := -1) C dX12_init_81 (by decide) ?_
  refine g_iast C dX12_init_82 (gS_last hq8) ho hf (fun hf => ?_)
  refine g_dup C dX12_init_83 rfl ?_
  refine g_bipush (v := 6) C dX12_init_84 (by decide) ?_
  refine g_iconst (v := -1) C dX12_init_86 (by decide) ?_
  refine g_iast C dX12_init_87 (gS_last hq8) ho hf (fun hf => ?_)
  refine g_dup C dX12_init_88 rfl ?_
  refine g_bipush (v := 7) C dX12_init_89 (by decide) ?_
  refine g_iconst (v := -1) C dX12_init_91 (by decide) ?_
  refine g_iast C dX12_init_92 (gS_last hq8) ho hf (fun hf => ?_)
  refine g_putR (i := 12) (j := 12) C dX12_init_93 (gS_app (gS_app (gS_app (gS_app (gS_app (gS_app hs2)))))) c11 gy11 rfl (by decide) f61 (fun _ h9 => h9) (Or.inr ⟨rfl, hnm, rfl⟩) (fun _ => ⟨rfl, rfl⟩) ?_
  refine g_aload_n C dX12_init_96 rfl rfl ?_
  refine g_bipush (v := 8) C dX12_init_97 (by decide) ?_
  obtain ⟨hq9, hf⟩ := gcase hf ho
  refine g_newa (q := 99) C dX12_init_99 ai (by decide) (by decide) (by decide) ⟨Nat.le_of_ble_eq_true rfl, Nat.le_of_ble_eq_true rfl⟩ hq9 ?_
  refine g_putR (i := 13) (j := 13) C dX12_init_101 (gS_app (gS_app (gS_app (gS_app (gS_app (gS_app (gS_app hs2))))))) c11 gy11 rfl (by decide) f64 (fun _ h9 => h9) (Or.inr ⟨rfl, hnm, rfl⟩) (fun _ => ⟨rfl, rfl⟩) ?_
  refine g_aload_n C dX12_init_104 rfl rfl ?_
  refine g_sipush (v := 192) C dX12_init_105 (by decide) ?_
  obtain ⟨hq10, hf⟩ := gcase hf ho
  refine g_newa (q := 100) C dX12_init_108 ai (by decide) (by decide) (by decide) ⟨Nat.le_of_ble_eq_true rfl, Nat.le_of_ble_eq_true rfl⟩ hq10 ?_
  refine g_putR (i := 14) (j := 14) C dX12_init_110 (gS_app (gS_app (gS_app (gS_app (gS_app (gS_app (gS_app (gS_app hs2)))))))) c11 gy11 rfl (by decide) f67 (fun _ h9 => h9) (Or.inr ⟨rfl, hnm, rfl⟩) (fun _ => ⟨rfl, rfl⟩) ?_
  refine g_aload_n C dX12_init_113 rfl rfl ?_
  refine g_bipush (v := 10) C dX12_init_114 (by decide) ?_
  obtain ⟨hq11, hf⟩ := gcase hf ho
  refine g_newa (q := 101) C dX12_init_116 ai (by decide) (by decide) (by decide) ⟨Nat.le_of_ble_eq_true rfl, Nat.le_of_ble_eq_true rfl⟩ hq11 ?_
  refine g_putR (i := 15) (j := 15) C dX12_init_118 (gS_app (gS_app (gS_app (gS_app (gS_app (gS_app (gS_app (gS_app (gS_app hs2))))))))) c11 gy11 rfl (by decide) f70 (fun _ h9 => h9) (Or.inr ⟨rfl, hnm, rfl⟩) (fun _ => ⟨rfl, rfl⟩) ?_
  refine g_aload_n C dX12_init_121 rfl rfl ?_
  refine g_bipush (v := 40) C dX12_init_122 (by decide) ?_
  obtain ⟨hq12, hf⟩ := gcase hf ho
  refine g_newa (q := 102) C dX12_init_124 ai (by decide) (by decide) (by decide) ⟨Nat.le_of_ble_eq_true rfl, Nat.le_of_ble_eq_true rfl⟩ hq12 ?_
  refine g_putR (i := 16) (j := 16) C dX12_init_126 (gS_app (gS_app (gS_app (gS_app (gS_app (gS_app (gS_app (gS_app (gS_app (gS_app hs2)))))))))) c11 gy11 rfl (by decide) f73 (fun _ h9 => h9) (Or.inr ⟨rfl, hnm, rfl⟩) (fun _ => ⟨rfl, rfl⟩) ?_
  refine g_aload_n C dX12_init_129 rfl rfl ?_
  refine g_bipush (v := 24) C dX12_init_130 (by decide) ?_
  obtain ⟨hq13, hf⟩ := gcase hf ho
  refine g_newa (q := 103) C dX12_init_132 ai (by decide) (by decide) (by decide) ⟨Nat.le_of_ble_eq_true rfl, Nat.le_of_ble_eq_true rfl⟩ hq13 ?_
  refine g_putR (i := 17) (j := 17) C dX12_init_134 (gS_app (gS_app (gS_app (gS_app (gS_app (gS_app (gS_app (gS_app (gS_app (gS_app (gS_app hs2))))))))))) c11 gy11 rfl (by decide) f76 (fun _ h9 => h9) (Or.inr ⟨rfl, hnm, rfl⟩) (fun _ => ⟨rfl, rfl⟩) ?_
  refine g_aload_n C dX12_init_137 rfl rfl ?_
  refine g_bipush (v := 24) C dX12_init_138 (by decide) ?_
  obtain ⟨hq14, hf⟩ := gcase hf ho
  refine g_newa (q := 104) C dX12_init_140 ai (by decide) (by decide) (by decide) ⟨Nat.le_of_ble_eq_true rfl, Nat.le_of_ble_eq_true rfl⟩ hq14 ?_
  refine g_putR (i := 18) (j := 18) C dX12_init_142 (gS_app (gS_app (gS_app (gS_app (gS_app (gS_app (gS_app (gS_app (gS_app (gS_app (gS_app (gS_app hs2)))))))))))) c11 gy11 rfl (by decide) f79 (fun _ h9 => h9) (Or.inr ⟨rfl, hnm, rfl⟩) (fun _ => ⟨rfl, rfl⟩) ?_
  refine g_aload_n C dX12_init_145 rfl rfl ?_
  refine g_bipush (v := 24) C dX12_init_146 (by decide) ?_
  obtain ⟨hq15, hf⟩ := gcase hf ho
  refine g_newa (q := 105) C dX12_init_148 ai (by decide) (by decide) (by decide) ⟨Nat.le_of_ble_eq_true rfl, Nat.le_of_ble_eq_true rfl⟩ hq15 ?_
  refine g_putR (i := 19) (j := 19) C dX12_init_150 (gS_app (gS_app (gS_app (gS_app (gS_app (gS_app (gS_app (gS_app (gS_app (gS_app (gS_app (gS_app (gS_app hs2))))))))))))) c11 gy11 rfl (by decide) f82 (fun _ h9 => h9) (Or.inr ⟨rfl, hnm, rfl⟩) (fun _ => ⟨rfl, rfl⟩) ?_
  refine g_aload_n C dX12_init_153 rfl rfl ?_
  refine g_bipush (v := 8) C dX12_init_154 (by decide) ?_
  obtain ⟨hq16, hf⟩ := gcase hf ho
  refine g_newa (q := 106) C dX12_init_156 ai (by decide) (by decide) (by decide) ⟨Nat.le_of_ble_eq_true rfl, Nat.le_of_ble_eq_true rfl⟩ hq16 ?_
  refine g_putR (i := 20) (j := 20) C dX12_init_158 (gS_app (gS_app (gS_app (gS_app (gS_app (gS_app (gS_app (gS_app (gS_app (gS_app (gS_app (gS_app (gS_app (gS_app hs2)))))))))))))) c11 gy11 rfl (by decide) f85 (fun _ h9 => h9) (Or.inr ⟨rfl, hnm, rfl⟩) (fun _ => ⟨rfl, rfl⟩) ?_
  refine g_aload_n C dX12_init_161 rfl rfl ?_
  refine g_iconst (v := 4) C dX12_init_162 (by decide) ?_
  obtain ⟨hq17, hf⟩ := gcase hf ho
  refine g_newa (q := 107) C dX12_init_163 ai (by decide) (by decide) (by decide) ⟨Nat.le_of_ble_eq_true rfl, Nat.le_of_ble_eq_true rfl⟩ hq17 ?_
  refine g_putR (i := 21) (j := 21) C dX12_init_165 (gS_app (gS_app (gS_app (gS_app (gS_app (gS_app (gS_app (gS_app (gS_app (gS_app (gS_app (gS_app (gS_app (gS_app (gS_app hs2))))))))))))))) c11 gy11 rfl (by decide) f88 (fun _ h9 => h9) (Or.inr ⟨rfl, hnm, rfl⟩) (fun _ => ⟨rfl, rfl⟩) ?_
  refine g_aload_n C dX12_init_168 rfl rfl ?_
  refine g_iconst (v := 5) C dX12_init_169 (by decide) ?_
  obtain ⟨hq18, hf⟩ := gcase hf ho
  refine g_newa (q := 108) C dX12_init_170 ai (by decide) (by decide) (by decide) ⟨Nat.le_of_ble_eq_true rfl, Nat.le_of_ble_eq_true rfl⟩ hq18 ?_
  refine g_putR (i := 22) (j := 22) C dX12_init_172 (gS_app (gS_app (gS_app (gS_app (gS_app (gS_app (gS_app (gS_app (gS_app (gS_app (gS_app (gS_app (gS_app (gS_app (gS_app (gS_app hs2)))))))))))))))) c11 gy11 rfl (by decide) f91 (fun _ h9 => h9) (Or.inr ⟨rfl, hnm, rfl⟩) (fun _ => ⟨rfl, rfl⟩) ?_
  refine g_aload_n C dX12_init_175 rfl rfl ?_
  refine g_bipush (v := 42) C dX12_init_176 (by decide) ?_
  obtain ⟨hq19, hf⟩ := gcase hf ho
  refine g_newa (q := 109) C dX12_init_178 ai (by decide) (by decide) (by decide) ⟨Nat.le_of_ble_eq_true rfl, Nat.le_of_ble_eq_true rfl⟩ hq19 ?_
  refine g_putR (i := 23) (j := 23) C dX12_init_180 (gS_app (gS_app (gS_app (gS_app (gS_app (gS_app (gS_app (gS_app (gS_app (gS_app (gS_app (gS_app (gS_app (gS_app (gS_app (gS_app (gS_app hs2))))))))))))))))) c11 gy11 rfl (by decide) f94 (fun _ h9 => h9) (Or.inr ⟨rfl, hnm, rfl⟩) (fun _ => ⟨rfl, rfl⟩) ?_
  refine g_aload_n C dX12_init_183 rfl rfl ?_
  refine g_sipush (v := 448) C dX12_init_184 (by decide) ?_
  obtain ⟨hq20, hf⟩ := gcase hf ho
  refine g_newa (q := 110) C dX12_init_187 ai (by decide) (by decide) (by decide) ⟨Nat.le_of_ble_eq_true rfl, Nat.le_of_ble_eq_true rfl⟩ hq20 ?_
  refine g_putR (i := 24) (j := 24) C dX12_init_189 (gS_app (gS_app (gS_app (gS_app (gS_app (gS_app (gS_app (gS_app (gS_app (gS_app (gS_app (gS_app (gS_app (gS_app (gS_app (gS_app (gS_app (gS_app hs2)))))))))))))))))) c11 gy11 rfl (by decide) f97 (fun _ h9 => h9) (Or.inr ⟨rfl, hnm, rfl⟩) (fun _ => ⟨rfl, rfl⟩) ?_
  refine g_aload_n C dX12_init_192 rfl rfl ?_
  refine g_bipush (v := 36) C dX12_init_193 (by decide) ?_
  obtain ⟨hq21, hf⟩ := gcase hf ho
  refine g_newa (q := 111) C dX12_init_195 ai (by decide) (by decide) (by decide) ⟨Nat.le_of_ble_eq_true rfl, Nat.le_of_ble_eq_true rfl⟩ hq21 ?_
  refine g_putR (i := 25) (j := 25) C dX12_init_197 (gS_app (gS_app (gS_app (gS_app (gS_app (gS_app (gS_app (gS_app (gS_app (gS_app (gS_app (gS_app (gS_app (gS_app (gS_app (gS_app (gS_app (gS_app (gS_app hs2))))))))))))))))))) c11 gy11 rfl (by decide) f100 (fun _ h9 => h9) (Or.inr ⟨rfl, hnm, rfl⟩) (fun _ => ⟨rfl, rfl⟩) ?_
  refine g_aload_n C dX12_init_200 rfl rfl ?_
  refine g_bipush (v := 20) C dX12_init_201 (by decide) ?_
  obtain ⟨hq22, hf⟩ := gcase hf ho
  refine g_newa (q := 112) C dX12_init_203 ai (by decide) (by decide) (by decide) ⟨Nat.le_of_ble_eq_true rfl, Nat.le_of_ble_eq_true rfl⟩ hq22 ?_
  refine g_putR (i := 26) (j := 26) C dX12_init_205 (gS_app (gS_app (gS_app (gS_app (gS_app (gS_app (gS_app (gS_app (gS_app (gS_app (gS_app (gS_app (gS_app (gS_app (gS_app (gS_app (gS_app (gS_app (gS_app (gS_app hs2)))))))))))))))))))) c11 gy11 rfl (by decide) f103 (fun _ h9 => h9) (Or.inr ⟨rfl, hnm, rfl⟩) (fun _ => ⟨rfl, rfl⟩) ?_
  refine g_aload_n C dX12_init_208 rfl rfl ?_
  refine g_bipush (v := 16) C dX12_init_209 (by decide) ?_
  obtain ⟨hq23, hf⟩ := gcase hf ho
  refine g_newa (q := 113) C dX12_init_211 ai (by decide) (by decide) (by decide) ⟨Nat.le_of_ble_eq_true rfl, Nat.le_of_ble_eq_true rfl⟩ hq23 ?_
  refine g_putR (i := 27) (j := 27) C dX12_init_213 (gS_app (gS_app (gS_app (gS_app (gS_app (gS_app (gS_app (gS_app (gS_app (gS_app (gS_app (gS_app (gS_app (gS_app (gS_app (gS_app (gS_app (gS_app (gS_app (gS_app (gS_app hs2))))))))))))))))))))) c11 gy11 rfl (by decide) f106 (fun _ h9 => h9) (Or.inr ⟨rfl, hnm, rfl⟩) (fun _ => ⟨rfl, rfl⟩) ?_
  refine g_aload_n C dX12_init_216 rfl rfl ?_
  refine g_iload_n C dX12_init_217 rfl rfl ?_
  refine g_iconst (v := 3) C dX12_init_218 (by decide) ?_
  refine g_join (fun z24 => [(0, .ref (X.1 + 91)), (2, .int a1)]) (fun z24 => [.int z24, .ref (X.1 + 91)]) (fun z24 => gZ (gZ (gZ (gZ (gZ (gZ (gZ (gZ (gZ (gZ (gZ (gZ (gZ (gZ (gZ (gU (gU (gU (gU (gU (gU (gU (gU (gZ (gZ (gZ (gZ (gZ (gZ (gZ I 92) 93) 94) 95) 96) 97) 98) 98 (0 : Int32).toNatClampNeg (-1 : Int32)) 98 (1 : Int32).toNatClampNeg (-1 : Int32)) 98 (2 : Int32).toNatClampNeg (-1 : Int32)) 98 (3 : Int32).toNatClampNeg (-1 : Int32)) 98 (4 : Int32).toNatClampNeg (-1 : Int32)) 98 (5 : Int32).toNatClampNeg (-1 : Int32)) 98 (6 : Int32).toNatClampNeg (-1 : Int32)) 98 (7 : Int32).toNatClampNeg (-1 : Int32)) 99) 100) 101) 102) 103) 104) 105) 106) 107) 108) 109) 110) 111) 112) 113) 232 hf ho (fun z24 hf => ?_) (fun o1 hf ho hkz24 => ?_)
  · refine g_putI (i := 2) (j := 2) C dX12_init_232 (gS_app (gS_app (gS_app (gS_app (gS_app (gS_app (gS_app (gS_app (gS_app (gS_app (gS_app (gS_app (gS_app (gS_app (gS_app (gS_app (gS_app (gS_app (gS_app (gS_app (gS_app hs2))))))))))))))))))))) c11 gy11 rfl f11 (fun _ h9 => h9) (Or.inr ⟨rfl, hnm, rfl⟩) rfl ?_
    refine g_aload_n C dX12_init_235 rfl rfl ?_
    refine g_iload_n C dX12_init_236 rfl rfl ?_
    refine g_iconst (v := 1) C dX12_init_237 (by decide) ?_
    refine g_join (fun z25 => [(0, .ref (X.1 + 91))]) (fun z25 => [.int z25, .ref (X.1 + 91)]) (fun z25 => gU (gZ (gZ (gZ (gZ (gZ (gZ (gZ (gZ (gZ (gZ (gZ (gZ (gZ (gZ (gZ (gU (gU (gU (gU (gU (gU (gU (gU (gZ (gZ (gZ (gZ (gZ (gZ (gZ I 92) 93) 94) 95) 96) 97) 98) 98 (0 : Int32).toNatClampNeg (-1 : Int32)) 98 (1 : Int32).toNatClampNeg (-1 : Int32)) 98 (2 : Int32).toNatClampNeg (-1 : Int32)) 98 (3 : Int32).toNatClampNeg (-1 : Int32)) 98 (4 : Int32).toNatClampNeg (-1 : Int32)) 98 (5 : Int32).toNatClampNeg (-1 : Int32)) 98 (6 : Int32).toNatClampNeg (-1 : Int32)) 98 (7 : Int32).toNatClampNeg (-1 : Int32)) 99) 100) 101) 102) 103) 104) 105) 106) 107) 108) 109) 110) 111) 112) 113) 91 2 z24) 257 hf ho (fun z25 hf => ?_) (fun o1 hf ho hkz25 => ?_)
    · refine g_putI (i := 3) (j := 3) C dX12_init_257 (gS_app (gS_app (gS_app (gS_app (gS_app (gS_app (gS_app (gS_app (gS_app (gS_app (gS_app (gS_app (gS_app (gS_app (gS_app (gS_app (gS_app (gS_app (gS_app (gS_app (gS_app hs2))))))))))))))))))))) c11 gy11 rfl f42 (fun _ h9 => h9) (Or.inr ⟨rfl, hnm, rfl⟩) rfl ?_
      refine g_aload_n C dX12_init_260 rfl rfl ?_
      refine g_aload_n C dX12_init_261 rfl rfl ?_
      refine g_getI (i := 2) (j := 2) C dX12_init_262 (gS_app (gS_app (gS_app (gS_app (gS_app (gS_app (gS_app (gS_app (gS_app (gS_app (gS_app (gS_app (gS_app (gS_app (gS_app (gS_app (gS_app (gS_app (gS_app (gS_app (gS_app hs2))))))))))))))))))))) c11 rfl f11 (fun _ h9 => h9) ?_
      refine g_aload_n C dX12_init_265 rfl rfl ?_
      refine g_getI (i := 3) (j := 3) C dX12_init_266 (gS_app (gS_app (gS_app (gS_app (gS_app (gS_app (gS_app (gS_app (gS_app (gS_app (gS_app (gS_app (gS_app (gS_app (gS_app (gS_app (gS_app (gS_app (gS_app (gS_app (gS_app hs2))))))))))))))))))))) c11 rfl f42 (fun _ h9 => h9) ?_
      obtain ⟨hL27, hf⟩ := gcase hf ho
      have hL27 := gLayb_ok (by decide) hL27
      obtain ⟨z26, hz26, hf⟩ := gbind hf ho
      refine g_callS C dX12_init_269 (m_X12_power l X N _ _ _  (gLay.sub hL27 (by decide) (by decide)) _ _ z26 hz26) gEin0 (va_cwS 2 C.2.2.2.2.1 gX12_init_X12_power rfl rfl rfl (by decide +kernel) ⟨Nat.le_of_ble_eq_true rfl, Nat.le_of_ble_eq_true rfl⟩) rfl rfl (Nat.le_of_ble_eq_true rfl) ⟨Nat.le_of_ble_eq_true rfl, Nat.le_of_ble_eq_true rfl⟩ ?_
      refine g_putI (i := 4) (j := 4) C dX12_init_272 (gS_app (gS_app (gS_app (gS_app (gS_app (gS_app (gS_app (gS_app (gS_app (gS_app (gS_app (gS_app (gS_app (gS_app (gS_app (gS_app (gS_app (gS_app (gS_app (gS_app (gS_app hs2))))))))))))))))))))) c11 gy11 rfl f109 (fun _ h9 => h9) (Or.inr ⟨rfl, hnm, rfl⟩) rfl ?_
      refine g_aload_n C dX12_init_275 rfl rfl ?_
      refine g_getI (i := 4) (j := 4) C dX12_init_276 (gS_app (gS_app (gS_app (gS_app (gS_app (gS_app (gS_app (gS_app (gS_app (gS_app (gS_app (gS_app (gS_app (gS_app (gS_app (gS_app (gS_app (gS_app (gS_app (gS_app (gS_app hs2))))))))))))))))))))) c11 rfl f109 (fun _ h9 => h9) ?_
      refine g_istore_n C dX12_init_279 rfl (Nat.le_of_ble_eq_true rfl) rfl rfl ?_
      refine g_loop (fun z28 => [(0, .ref (X.1 + 91)), (3, .int z28.1)]) (fun z28 => z28.2) (fun r29 => [(0, .ref (X.1 + 91)), (3, .int r29.1)]) (fun r29 => r29.2) 306 hf ho ⟨rfl, rfl, trivial⟩ rfl (fun r29 hf => ?_) (fun z28 o1 hf ho hkz28 hez28 => ?_)
      · refine g_aload_n C dX12_init_306 rfl rfl ?_
        refine g_iload_n C dX12_init_307 rfl rfl ?_
        refine g_putI (i := 5) (j := 5) C dX12_init_308 (gS_app (gS_app (gS_app (gS_app (gS_app (gS_app (gS_app (gS_app (gS_app (gS_app (gS_app (gS_app (gS_app (gS_app (gS_app (gS_app (gS_app (gS_app (gS_app (gS_app (gS_app hs2))))))))))))))))))))) c11 gy11 rfl f39 (fun _ h9 => h9) (Or.inr ⟨rfl, hnm, rfl⟩) rfl ?_
        refine g_iconst (v := 0) C dX12_init_311 (by decide) ?_
        refine g_istore C dX12_init_312 (Nat.le_of_ble_eq_true rfl) rfl rfl ?_
        refine g_iconst (v := 1) C dX12_init_314 (by decide) ?_
        refine g_istore C dX12_init_315 (Nat.le_of_ble_eq_true rfl) rfl rfl ?_
        refine g_loop (fun z31 => [(0, .ref (X.1 + 91)), (4, .int z31.1), (5, .int z31.2.1)]) (fun z31 => z31.2.2) (fun r32 => []) (fun r32 => r32) 416 hf ho ⟨rfl, rfl, rfl, trivial⟩ rfl (fun r32 hf => ?_) (fun z31 o1 hf ho hkz31 hez31 => ?_)
        · cases hf
          refine g_widen (k := 22) (n := 32223) (Nat.le_of_ble_eq_true rfl) (Nat.le_of_ble_eq_true rfl) ?_
          exact g_vret C dX12_init_416 hr hlk
        · refine g_iload C dX12_init_317 rfl ?_
          refine g_aload_n C dX12_init_319 rfl rfl ?_
          refine g_getI (i := 4) (j := 4) C dX12_init_320 (gS_app (gS_app (gS_app (gS_app (gS_app (gS_app (gS_app (gS_app (gS_app (gS_app (gS_app (gS_app (gS_app (gS_app (gS_app (gS_app (gS_app (gS_app (gS_app (gS_app (gS_app hs2))))))))))))))))))))) c11 rfl f109 (fun _ h9 => h9) ?_
          refine g_icmp_ge (tgt := 416) C dX12_init_323 (by decide) hf (fun hf => ?_) (fun hf => ?_)
          · exact g_sub ⟨trivial⟩ (hez31 _ hf.symm)
          · refine g_iload C dX12_init_326 rfl ?_
            refine g_if_ne (tgt := 416) C dX12_init_328 (by decide) hf (fun hf => ?_) (fun hf => ?_)
            · exact g_sub ⟨trivial⟩ (hez31 _ hf.symm)
            · refine g_iconst (v := 1) C dX12_init_331 (by decide) ?_
              refine g_istore C dX12_init_332 (Nat.le_of_ble_eq_true rfl) rfl rfl ?_
              refine g_iconst (v := 0) C dX12_init_334 (by decide) ?_
              refine g_istore C dX12_init_335 (Nat.le_of_ble_eq_true rfl) rfl rfl ?_
              refine g_iconst (v := 1) C dX12_init_337 (by decide) ?_
              refine g_istore C dX12_init_338 (Nat.le_of_ble_eq_true rfl) rfl rfl ?_
              refine g_loop (fun z33 => [(0, .ref (X.1 + 91)), (5, .int z31.2.1), (6, .int z33.1), (7, .int z33.2.1), (8, .int z33.2.2.1)]) (fun z33 => z33.2.2.2) (fun r34 => [(0, .ref (X.1 + 91)), (5, .int z31.2.1), (7, .int r34.1)]) (fun r34 => r34.2) 392 hf ho ⟨rfl, rfl, rfl, rfl, rfl, trivial⟩ rfl (fun r34 hf => ?_) (fun z33 o1 hf ho hkz33 hez33 => ?_)
              · refine g_iload C dX12_init_392 rfl ?_
                refine g_aload_n C dX12_init_394 rfl rfl ?_
                refine g_getI (i := 4) (j := 4) C dX12_init_395 (gS_app (gS_app (gS_app (gS_app (gS_app (gS_app (gS_app (gS_app (gS_app (gS_app (gS_app (gS_app (gS_app (gS_app (gS_app (gS_app (gS_app (gS_app (gS_app (gS_app (gS_app hs2))))))))))))))))))))) c11 rfl f109 (fun _ h9 => h9) ?_
                refine g_iconst (v := 1) C dX12_init_398 (by decide) ?_
                refine g_isub C dX12_init_399 ?_
                refine g_icmp_ne (tgt := 407) C dX12_init_400 (by decide) hf (fun hf => ?_) (fun hf => ?_)
                · refine g_iconst (v := 0) C dX12_init_407 (by decide) ?_
                  refine g_istore C dX12_init_408 (Nat.le_of_ble_eq_true rfl) rfl rfl ?_
                  refine g_iinc (d := 1) C dX12_init_410 rfl (by decide) rfl (Nat.le_of_ble_eq_true rfl) rfl rfl ?_
                  refine g_goto (tgt := 317) C dX12_init_413 (by decide) ?_
                  exact g_sub ⟨rfl, rfl, rfl, trivial⟩ (hkz31 _ hf.symm)
                · refine g_iconst (v := 1) C dX12_init_403 (by decide) ?_
                  refine g_goto (tgt := 408) C dX12_init_404 (by decide) ?_
                  refine g_istore C dX12_init_408 (Nat.le_of_ble_eq_true rfl) rfl rfl ?_
                  refine g_iinc (d := 1) C dX12_init_410 rfl (by decide) rfl (Nat.le_of_ble_eq_true rfl) rfl rfl ?_
                  refine g_goto (tgt := 317) C dX12_init_413 (by decide) ?_
                  exact g_sub ⟨rfl, rfl, rfl, trivial⟩ (hkz31 _ hf.symm)
              · refine g_iload C dX12_init_340 rfl ?_
                refine g_if_eq (tgt := 392) C dX12_init_342 (by decide) hf (fun hf => ?_) (fun hf => ?_)
                · exact g_sub ⟨rfl, rfl, rfl, trivial⟩ (hez33 _ hf.symm)
                · refine g_aload_n C dX12_init_345 rfl rfl ?_
                  refine g_getR (i := 10) (j := 10) C dX12_init_346 (gS_app (gS_app (gS_app (gS_app (gS_app (gS_app (gS_app (gS_app (gS_app (gS_app (gS_app (gS_app (gS_app (gS_app (gS_app (gS_app (gS_app (gS_app (gS_app (gS_app (gS_app hs2))))))))))))))))))))) c11 rfl (by decide) f55 (fun _ h9 => h9) rfl ?_
                  refine g_iload C dX12_init_349 rfl ?_
                  refine g_iload C dX12_init_351 rfl ?_
                  refine g_iast C dX12_init_353 (gS_app (gS_app (gS_app (gS_app (gS_app (gS_app (gS_app (gS_app (gS_app (gS_app (gS_app (gS_app (gS_app (gS_app (gS_app (gS_app (gS_app (gS_last hq6)))))))))))))))))) ho hf (fun hf => ?_)
                  refine g_aload_n C dX12_init_354 rfl rfl ?_
                  refine g_getR (i := 11) (j := 11) C dX12_init_355 (gS_app (gS_app (gS_app (gS_app (gS_app (gS_app (gS_app (gS_app (gS_app (gS_app (gS_app (gS_app (gS_app (gS_app (gS_app (gS_app (gS_app (gS_app (gS_app (gS_app (gS_app hs2))))))))))))))))))))) c11 rfl (by decide) f58 (fun _ h9 => h9) rfl ?_
                  refine g_iload C dX12_init_358 rfl ?_
                  refine g_iload C dX12_init_360 rfl ?_
                  refine g_iast C dX12_init_362 (gS_app (gS_app (gS_app (gS_app (gS_app (gS_app (gS_app (gS_app (gS_app (gS_app (gS_app (gS_app (gS_app (gS_app (gS_app (gS_app (gS_last hq7))))))))))))))))) ho hf (fun hf => ?_)
                  refine g_iinc (d := 1) C dX12_init_363 rfl (by decide) rfl (Nat.le_of_ble_eq_true rfl) rfl rfl ?_
                  refine g_aload_n C dX12_init_366 rfl rfl ?_
                  refine g_iload C dX12_init_367 rfl ?_
                  refine g_iload C dX12_init_369 rfl ?_
                  obtain ⟨z35, hz35, hf⟩ := gbind hf ho
                  refine g_callV C dX12_init_371 (m_X12_slow l X N _ _ _  (gLay.sub hL27 (by decide) (by decide)) _ _ z35.1 z35.2 hz35) gEin0 (cwV 2 C.2.2.2.2.1 gX12_init_X12_slow rfl rfl rfl (by decide +kernel) ⟨Nat.le_of_ble_eq_true rfl, Nat.le_of_ble_eq_true rfl⟩) (gS_app (gS_app (gS_app (gS_app (gS_app (gS_app (gS_app (gS_app (gS_app (gS_app (gS_app (gS_app (gS_app (gS_app (gS_app (gS_app (gS_app (gS_app (gS_app (gS_app (gS_app hs2))))))))))))))))))))) (by decide) rfl rfl rfl (Nat.le_of_ble_eq_true rfl) ⟨Nat.le_of_ble_eq_true rfl, Nat.le_of_ble_eq_true rfl⟩ ?_
                  refine g_istore C dX12_init_374 (Nat.le_of_ble_eq_true rfl) rfl rfl ?_
                  refine g_iload C dX12_init_376 rfl ?_
                  refine g_iconst (v := 1) C dX12_init_378 (by decide) ?_
                  refine g_icmp_eq (tgt := 386) C dX12_init_379 (by decide) hf (fun hf => ?_) (fun hf => ?_)
                  · refine g_iconst (v := 0) C dX12_init_386 (by decide) ?_
                    refine g_istore C dX12_init_387 (Nat.le_of_ble_eq_true rfl) rfl rfl ?_
                    refine g_goto (tgt := 340) C dX12_init_389 (by decide) ?_
                    exact g_sub ⟨rfl, rfl, rfl, rfl, rfl, trivial⟩ (hkz33 _ hf.symm)
                  · refine g_iconst (v := 1) C dX12_init_382 (by decide) ?_
                    refine g_goto (tgt := 387) C dX12_init_383 (by decide) ?_
                    refine g_istore C dX12_init_387 (Nat.le_of_ble_eq_true rfl) rfl rfl ?_
                    refine g_goto (tgt := 340) C dX12_init_389 (by decide) ?_
                    exact g_sub ⟨rfl, rfl, rfl, rfl, rfl, trivial⟩ (hkz33 _ hf.symm)
      · refine g_aload_n C dX12_init_280 rfl rfl ?_
        refine g_getI (i := 3) (j := 3) C dX12_init_281 (gS_app (gS_app (gS_app (gS_app (gS_app (gS_app (gS_app (gS_app (gS_app (gS_app (gS_app (gS_app (gS_app (gS_app (gS_app (gS_app (gS_app (gS_app (gS_app (gS_app (gS_app hs2))))))))))))))))))))) c11 rfl f42 (fun _ h9 => h9) ?_
        refine g_iconst (v := 1) C dX12_init_284 (by decide) ?_
        refine g_icmp_le (tgt := 306) C dX12_init_285 (by decide) hf (fun hf => ?_) (fun hf => ?_)
        · exact g_sub ⟨rfl, rfl, trivial⟩ (hez28 _ hf.symm)
        · refine g_aload_n C dX12_init_288 rfl rfl ?_
          refine g_iload_n C dX12_init_289 rfl rfl ?_
          refine g_aload_n C dX12_init_290 rfl rfl ?_
          refine g_getI (i := 3) (j := 3) C dX12_init_291 (gS_app (gS_app (gS_app (gS_app (gS_app (gS_app (gS_app (gS_app (gS_app (gS_app (gS_app (gS_app (gS_app (gS_app (gS_app (gS_app (gS_app (gS_app (gS_app (gS_app (gS_app hs2))))))))))))))))))))) c11 rfl f42 (fun _ h9 => h9) ?_
          obtain ⟨z30, hz30, hf⟩ := gbind hf ho
          refine g_callV C dX12_init_294 (m_X12_isPrime l X N _ _ _  (gLay.sub hL27 (by decide) (by decide)) _ _ z30.1 z30.2 hz30) gEin0 (cwV 2 C.2.2.2.2.1 gX12_init_X12_isPrime rfl rfl rfl (by decide +kernel) ⟨Nat.le_of_ble_eq_true rfl, Nat.le_of_ble_eq_true rfl⟩) (gS_app (gS_app (gS_app (gS_app (gS_app (gS_app (gS_app (gS_app (gS_app (gS_app (gS_app (gS_app (gS_app (gS_app (gS_app (gS_app (gS_app (gS_app (gS_app (gS_app (gS_app hs2))))))))))))))))))))) (by decide) rfl rfl rfl (Nat.le_of_ble_eq_true rfl) ⟨Nat.le_of_ble_eq_true rfl, Nat.le_of_ble_eq_true rfl⟩ ?_
          refine g_if_ne (tgt := 306) C dX12_init_297 (by decide) hf (fun hf => ?_) (fun hf => ?_)
          · exact g_sub ⟨rfl, rfl, trivial⟩ (hez28 _ hf.symm)
          · refine g_iinc (d := 1) C dX12_init_300 rfl (by decide) rfl (Nat.le_of_ble_eq_true rfl) rfl rfl ?_
            refine g_goto (tgt := 280) C dX12_init_303 (by decide) ?_
            exact g_sub ⟨rfl, rfl, trivial⟩ (hkz28 _ hf.symm)
    · refine g_icmp_ge (tgt := 245) C dX12_init_238 (by decide) hf (fun hf => ?_) (fun hf => ?_)
      · refine g_iload_n C dX12_init_245 rfl rfl ?_
        refine g_bipush (v := 6) C dX12_init_246 (by decide) ?_
        refine g_icmp_le (tgt := 256) C dX12_init_248 (by decide) hf (fun hf => ?_) (fun hf => ?_)
        · refine g_iload_n C dX12_init_256 rfl rfl ?_
          exact g_sub ⟨rfl, trivial⟩ (hkz25 _ hf.symm)
        · refine g_bipush (v := 6) C dX12_init_251 (by decide) ?_
          refine g_goto (tgt := 257) C dX12_init_253 (by decide) ?_
          exact g_sub ⟨rfl, trivial⟩ (hkz25 _ hf.symm)
      · refine g_iconst (v := 1) C dX12_init_241 (by decide) ?_
        refine g_goto (tgt := 257) C dX12_init_242 (by decide) ?_
        exact g_sub ⟨rfl, trivial⟩ (hkz25 _ hf.symm)
  · refine g_icmp_eq (tgt := 227) C dX12_init_219 (by decide) hf (fun hf => ?_) (fun hf => ?_)
    · refine g_iload_n C dX12_init_227 rfl rfl ?_
      refine g_goto (tgt := 232) C dX12_init_228 (by decide) ?_
      exact g_sub ⟨rfl, rfl, trivial⟩ (hkz24 _ hf.symm)
    · refine g_iload_n C dX12_init_222 rfl rfl ?_
      refine g_iconst (v := 5) C dX12_init_223 (by decide) ?_
      refine g_icmp_ne (tgt := 231) C dX12_init_224 (by decide) hf (fun hf => ?_) (fun hf => ?_)
      · refine g_iconst (v := 2) C dX12_init_231 (by decide) ?_
        exact g_sub ⟨rfl, rfl, trivial⟩ (hkz24 _ hf.symm)
      · refine g_iload_n C dX12_init_227 rfl rfl ?_
        refine g_goto (tgt := 232) C dX12_init_228 (by decide) ?_
        exact g_sub ⟨rfl, rfl, trivial⟩ (hkz24 _ hf.symm)
