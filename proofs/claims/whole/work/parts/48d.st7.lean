/-! count, clear -/
section St7
def cn (b : Nat → Int32) : Nat → Int32
  | 0 => 0
  | w + 1 => cn b w + b w
theorem cnt_w {K : Type} [Lean.Grind.CommRing K] {p n : Nat} {X : K} {co : K → Nat} {k N : Nat} {I : gI} {R : gR} {S : gS} (hR : RO K p n X co) (h : IV p n X co k I R S) (hN : 16000 ≤ N) {o : Nat} (ho : o ≤ 4) : ∃ v J2, f_X11_worldsOf N I R S (nI o) = some v ∧ ((iter (σ := Int32 × Int32 × gI) (ρ := Int32 × gI) (fun z4 => (if (10 : Int32) ≤ z4.2.1 then some (.inr (z4.1, z4.2.2)) else if z4.2.1 < 0 ∨ 10 ≤ z4.2.1.toNatClampNeg then none else (if (z4.2.2 101 z4.2.1.toNatClampNeg) ≤ 0 then some (.inl (z4.1 + (0 : Int32), z4.2.1 + 1, z4.2.2)) else ((f_X12_kindOf N z4.2.2 R S z4.2.1).bind (fun z6 => ((f_X12_isOf N z6.2 R S z6.1 (nI (o + 1) - (1 : Int32))).bind (fun z7 => (if z7 = 0 then some (.inl (z4.1 + (0 : Int32), z4.2.1 + 1, z6.2)) else some (.inl (z4.1 + (1 : Int32), z4.2.1 + 1, z6.2)))))))))) N ((0 : Int32), (0 : Int32), gU I 91 0 (0 : Int32))).bind (fun r5 => some (r5.1, r5.2))) = some (v, J2) ∧ MS I J2 (I 0 7) := by
  obtain ⟨b1, b2, b3, b4, b5, b6, b7, b8, b9, b10⟩ := h
  have hb : ∀ w, ∃ b : Int32, w < 10 → f_X11_isOf N I R S (R 2 w) (nI o) = some b ∧ (b = 0 ∨ b = 1) ∧ ∀ J, Fs [95, 103, 104, 106] (gU I 91 0 (0 : Int32)) J → ∃ J2, Fs [95, 103, 104, 106] (gU I 91 0 (0 : Int32)) J2 ∧ ((J 101 w ≤ 0 ∧ b = 0 ∧ J2 = J) ∨ (¬ J 101 w ≤ 0 ∧ ∃ e, 1 ≤ e ∧ e ≤ 4 ∧ f_X12_kindOf N J R S (nI w) = some (nI e, J2) ∧ b = ib e o)) := by
    intro w
    by_cases w1 : w < 10
    · rcases b8 w w1 with ⟨e1, e2⟩ | ⟨q, r, t, d, c, f, e1, e2, e3⟩
      · refine ⟨0, fun _ => ⟨by rw [e1]; exact c_isOf0 ho, .inl rfl, fun J hJ => ⟨J, hJ, .inl ⟨?_, rfl, rfl⟩⟩⟩⟩
        rw [hJ 101 (by decide), gU_ne _ _ _ _ (by decide), e2]; decide
      · obtain ⟨f1, f2, f3, f4, f5, f6, f7, f8, f9, f10, f11, f12⟩ := e2
        refine ⟨ib (kd r (f / d)) o, fun _ => ⟨by rw [e1]; exact c_isOf f2.1 (KK_of f2.1 f11) ho, ib_01 _ _, fun J hJ => ?_⟩⟩
        have hW0 : MW co J w r t := MW_of e3 (by rw [hJ 101 (by decide), gU_cell _ _ _ (by decide)]) (by rw [hJ 102 (by decide), gU_cell _ _ _ (by decide)])
        obtain ⟨J2, m1, m2⟩ := m_kindOf (N := N) (R := R) hR (MH_fs (b0_MH b5) hJ (by decide) (by decide) (by decide)) w1 hW0 f3 f4 (lay6 b1 91 114 (by omega)) f9 f10 (by omega)
        exact ⟨J2, hJ.trans m2, .inr ⟨by rw [hW0.1]; exact nI_nle (by have := f3.1; omega) (by have := f3.2.1; omega), kd r (f / d), kd_r.1, kd_r.2, m1, rfl⟩⟩
    · exact ⟨0, fun z => absurd z w1⟩
  have hch : ∃ b : Nat → Int32, ∀ w, w < 10 → f_X11_isOf N I R S (R 2 w) (nI o) = some (b w) ∧ (b w = 0 ∨ b w = 1) ∧ ∀ J, Fs [95, 103, 104, 106] (gU I 91 0 (0 : Int32)) J → ∃ J2, Fs [95, 103, 104, 106] (gU I 91 0 (0 : Int32)) J2 ∧ ((J 101 w ≤ 0 ∧ b w = 0 ∧ J2 = J) ∨ (¬ J 101 w ≤ 0 ∧ ∃ e, 1 ≤ e ∧ e ≤ 4 ∧ f_X12_kindOf N J R S (nI w) = some (nI e, J2) ∧ b w = ib e o)) := ⟨fun w => Classical.choose (hb w), fun w hw => Classical.choose_spec (hb w) hw⟩
  obtain ⟨b, hb⟩ := hch
  have key : ∃ J2, ((iter (σ := Int32 × Int32 × gI) (ρ := Int32 × gI) (fun z4 => (if (10 : Int32) ≤ z4.2.1 then some (.inr (z4.1, z4.2.2)) else if z4.2.1 < 0 ∨ 10 ≤ z4.2.1.toNatClampNeg then none else (if (z4.2.2 101 z4.2.1.toNatClampNeg) ≤ 0 then some (.inl (z4.1 + (0 : Int32), z4.2.1 + 1, z4.2.2)) else ((f_X12_kindOf N z4.2.2 R S z4.2.1).bind (fun z6 => ((f_X12_isOf N z6.2 R S z6.1 (nI (o + 1) - (1 : Int32))).bind (fun z7 => (if z7 = 0 then some (.inl (z4.1 + (0 : Int32), z4.2.1 + 1, z6.2)) else some (.inl (z4.1 + (1 : Int32), z4.2.1 + 1, z6.2)))))))))) N ((0 : Int32), (0 : Int32), gU I 91 0 (0 : Int32))).bind (fun r5 => some (r5.1, r5.2))) = some (cn b 10, J2) ∧ Fs [95, 103, 104, 106] (gU I 91 0 (0 : Int32)) J2 := by
    refine iter_wpe2 (fun w s => ∃ J, s = (cn b w, nI w, J) ∧ Fs [95, 103, 104, 106] (gU I 91 0 (0 : Int32)) J) 10 ⟨_, rfl, Fs_refl _ _⟩ ?_ (by omega)
    rintro w _ hw ⟨J, rfl, hJ⟩
    rw [show (10 : Int32) = nI 10 from rfl]
    dsimp only
    by_cases h10 : w = 10
    · subst h10
      rw [gle_t (by omega) (by omega)]
      exact .inr ⟨_, rfl, J, rfl, hJ⟩
    · refine .inl ?_
      obtain ⟨_, hb01, hbJ⟩ := hb w (by omega)
      obtain ⟨J2, j1, j2⟩ := hbJ J hJ
      rw [gle_f (by omega) (by omega), nI_clamp (by omega), gin2 (by omega) (by omega), nI_1]
      rcases j2 with ⟨y1, y2, y3⟩ | ⟨y1, e, e1, e2, y2, y3⟩
      · rw [if_pos y1]
        refine ⟨_, rfl, by omega, J, ?_, hJ⟩
        rw [cn, y2]
      · rw [if_neg y1, y2, Option.bind_some, dn1 _ (by omega), Nat.add_sub_cancel, m_isOf ⟨e1, e2⟩ ho, Option.bind_some, ← y3]
        rcases hb01 with z | z
        · rw [z, if_pos rfl]
          exact ⟨_, rfl, by omega, J2, by rw [cn, z], j1⟩
        · rw [z, if_neg (by decide)]
          exact ⟨_, rfl, by omega, J2, by rw [cn, z], j1⟩
  obtain ⟨J2, k1, k2⟩ := key
  refine ⟨cn b 10, J2, ?_, k1, MS_b0 k2 (by decide) b9.symm⟩
  unfold f_X11_worldsOf
  refine iter_bind (fun w => (cn b w, nI w)) 10 (cn b 10) rfl ?_ ?_ (by omega) rfl
  · intro w hw
    obtain ⟨hb1, hb01, _⟩ := hb w hw
    rw [show (10 : Int32) = nI 10 from rfl]
    dsimp only
    rw [gle_f (by omega) (by omega), nI_clamp (by omega), gin2 (by omega) (by omega), hb1, Option.bind_some, nI_1]
    rcases hb01 with z | z
    · rw [z, if_pos rfl, cn, z]
    · rw [z, if_neg (by decide), cn, z]
  · rw [show (10 : Int32) = nI 10 from rfl]
    dsimp only
    rw [gle_t (by omega) (by omega)]
theorem st_count {K : Type} [Lean.Grind.CommRing K] {p n : Nat} {X : K} {co : K → Nat} {k N : Nat} {I : gI} {R : gR} {S : gS} (hR : RO K p n X co) (h : IV p n X co k I R S) (hk : k < 512) (hN : 16000 ≤ N) (x0 : Int32) : ∃ J P T, k_count N I R S x0 = some (J, P, T) ∧ IV p n X co (k + 1) J P T := by
  have hIV := h
  obtain ⟨b1, b2, b3, b4, b5, b6, b7, b8, b9, b10⟩ := h
  unfold k_count
  refine k_fin0 hR hIV ?_
  by_cases h0 : x0 = 0
  · subst h0
    have hb : ∀ s, ∃ b : Int32, s < 8 → f_X5_isMissing N I R S (75 + 2 * s) = some (1 - b) ∧ (b = 0 ∨ b = 1) ∧ (gU I 91 0 (0 : Int32) 98 s < 0 ↔ b = 0) := by
      intro s
      by_cases hs : s < 8
      · have e98 : gU I 91 0 (0 : Int32) 98 s = I 98 s := gU_ne _ _ _ _ (by decide)
        rcases (b7 s hs).1 with ⟨e1, e2⟩ | ⟨la, sz, l1, l2, l3, l4, l5, l6⟩
        · refine ⟨0, fun _ => ⟨?_, .inl rfl, ?_⟩⟩
          · unfold f_X5_isMissing; rw [e1, if_pos rfl]; rfl
          · rw [e98, e2]; exact ⟨fun _ => rfl, fun _ => by decide⟩
        · refine ⟨1, fun _ => ⟨?_, .inr rfl, ?_⟩⟩
          · unfold f_X5_isMissing; rw [l4, if_neg (fun z => by
              have := nI_pos (n := sz) (by omega)
              rw [z] at this
              exact this (by decide))]; rfl
          · rw [e98, l5]; exact ⟨fun z => absurd z (nI_pos (by omega)), fun z => absurd z (by decide)⟩
      · exact ⟨0, fun z => absurd z hs⟩
    have hch : ∃ b : Nat → Int32, ∀ s, s < 8 → f_X5_isMissing N I R S (75 + 2 * s) = some (1 - b s) ∧ (b s = 0 ∨ b s = 1) ∧ (gU I 91 0 (0 : Int32) 98 s < 0 ↔ b s = 0) := ⟨fun w => Classical.choose (hb w), fun w hw => Classical.choose_spec (hb w) hw⟩
    obtain ⟨b, hb⟩ := hch
    refine ⟨cn b 8, gU I 91 0 (0 : Int32), ?_, ?_, MS_bad b9.symm⟩
    · unfold f_X11_count f_X11_rowsThere
      rw [if_pos rfl]
      have e1 : (iter (σ := Int32 × Int32) (ρ := Int32) (fun z1 => (if (8 : Int32) ≤ z1.2 then some (.inr z1.1) else if z1.2 < 0 ∨ 8 ≤ z1.2.toNatClampNeg then none else ((f_X5_isMissing N I R S (75 + 2 * z1.2.toNatClampNeg)).bind (fun z4 => (if z4 = 0 then some (.inl (z1.1 + (1 : Int32), z1.2 + 1)) else some (.inl (z1.1 + (0 : Int32), z1.2 + 1))))))) N ((0 : Int32), (0 : Int32))) = some (cn b 8) := by
        refine iter_cnt (fun w => (cn b w, nI w)) 8 rfl ?_ ?_ (by omega)
        · intro s hs
          obtain ⟨hb1, hb01, _⟩ := hb s hs
          rw [show (8 : Int32) = nI 8 from rfl]
          dsimp only
          rw [gle_f (by omega) (by omega), nI_clamp (by omega), gin2 (by omega) (by omega), hb1, Option.bind_some, nI_1]
          rcases hb01 with z | z
          · rw [z, if_neg (by decide), cn, z]
          · rw [z, if_pos (by decide), cn, z]
        · rw [show (8 : Int32) = nI 8 from rfl]
          dsimp only
          rw [gle_t (by omega) (by omega)]
      rw [e1]; rfl
    · unfold f_X12_count
      rw [if_pos rfl]
      refine iter_bind (fun w => (cn b w, nI w)) 8 (cn b 8) rfl ?_ ?_ (by omega) rfl
      · intro s hs
        obtain ⟨_, hb01, hbi⟩ := hb s hs
        rw [show (8 : Int32) = nI 8 from rfl]
        dsimp only
        rw [gle_f (by omega) (by omega), nI_clamp (by omega), gin2 (by omega) (by omega), nI_1]
        rcases hb01 with z | z
        · rw [if_pos (hbi.mpr z), cn, z]
        · rw [if_neg (fun y => by
            have := hbi.mp y
            rw [z] at this
            exact absurd this (by decide)), cn, z]
      · rw [show (8 : Int32) = nI 8 from rfl]
        dsimp only
        rw [gle_t (by omega) (by omega)]
  by_cases h6 : x0 = 6
  · subst h6
    refine ⟨nI (p ^ n), gU I 91 0 (0 : Int32), ?_, ?_, MS_bad b9.symm⟩
    · rw [← b4.2.1]; rfl
    · have : gU I 91 0 (0 : Int32) 91 4 = nI (p ^ n) := by rw [gU_slot _ _ _ (by decide)]; exact b5.2.2.1
      rw [← this]; rfl
  by_cases h7 : x0 = 7
  · subst h7
    refine ⟨nI (mo p n), gU I 91 0 (0 : Int32), ?_, ?_, MS_bad b9.symm⟩
    · rw [← b4.2.2.1]; rfl
    · have : gU I 91 0 (0 : Int32) 91 5 = nI (mo p n) := by rw [gU_slot _ _ _ (by decide)]; exact b5.2.2.2.1
      rw [← this]; rfl
  by_cases h15 : ∃ o, o ≤ 4 ∧ x0 = nI (o + 1)
  · obtain ⟨o, o1, rfl⟩ := h15
    obtain ⟨v, J2, v1, v2, v3⟩ := cnt_w (N := N) hR hIV hN o1
    refine ⟨v, J2, ?_, ?_, v3⟩
    · rcases (show o = 0 ∨ o = 1 ∨ o = 2 ∨ o = 3 ∨ o = 4 by omega) with rfl | rfl | rfl | rfl | rfl <;> exact (congrArg (fun z => Option.bind z (fun z3 => some z3)) v1)
    · rcases (show o = 0 ∨ o = 1 ∨ o = 2 ∨ o = 3 ∨ o = 4 by omega) with rfl | rfl | rfl | rfl | rfl <;> exact v2
  · have hne : ∀ o, o ≤ 4 → x0 ≠ nI (o + 1) := fun o ho z => h15 ⟨o, ho, z⟩
    have n1 : x0 ≠ 1 := hne 0 (by omega)
    have n2 : x0 ≠ 2 := hne 1 (by omega)
    have n3 : x0 ≠ 3 := hne 2 (by omega)
    have n4 : x0 ≠ 4 := hne 3 (by omega)
    have n5 : x0 ≠ 5 := hne 4 (by omega)
    refine ⟨-1000001, gU I 91 0 (0 : Int32), ?_, ?_, MS_bad b9.symm⟩
    · unfold f_X11_count
      rw [if_neg h0, if_neg n1, if_neg n2, if_neg n3, if_neg n4, if_neg n5, if_neg h6, if_neg h7]
    · unfold f_X12_count
      rw [if_neg h0, if_neg n1, if_neg n2, if_neg n3, if_neg n4, if_neg n5, if_neg h6, if_neg h7]
end St7
