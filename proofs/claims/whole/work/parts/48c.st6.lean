/-! kind, is, as, trace, status, count, clear -/
section St6
theorem kk4 (r h : Nat) : (kcl r h = 3 ∧ kd r h = 1) ∨ (kcl r h = 1 ∧ kd r h = 4) ∨ (kcl r h = 7 ∧ kd r h = 3) ∨ (kcl r h = 4 ∧ kd r h = 2) := by
  unfold kcl kd
  by_cases h1 : r = 1
  · rw [if_pos h1, if_pos h1]; exact .inl ⟨rfl, rfl⟩
  · rw [if_neg h1, if_neg h1]
    by_cases h3 : r = 3
    · rw [if_pos h3, if_pos h3]; exact .inr (.inl ⟨rfl, rfl⟩)
    · rw [if_neg h3, if_neg h3]
      by_cases h2 : h = 2
      · rw [if_pos h2, if_pos h2]; exact .inr (.inr (.inl ⟨rfl, rfl⟩))
      · rw [if_neg h2, if_neg h2]; exact .inr (.inr (.inr ⟨rfl, rfl⟩))
/-- an object and its kind -/
def KK (S : gS) (a e : Nat) : Prop := (gK S a = 3 ∧ S[a]? = some (3, 4) ∧ e = 1) ∨ (gK S a = 1 ∧ S[a]? = some (1, 4) ∧ e = 4) ∨ (gK S a = 7 ∧ S[a]? = some (7, 5) ∧ e = 3) ∨ (gK S a = 4 ∧ S[a]? = some (4, 5) ∧ e = 2)
theorem KK_of {R : gR} {S : gS} {a r h : Nat} (hw : gWb R S a = true) (hk : gK S a = kcl r h) : KK S a (kd r h) := by
  rcases gWb_k hw with e | e | e | e
  · have := gK_of e
    rw [hk] at this
    rcases kk4 r h with ⟨x, y⟩ | ⟨x, y⟩ | ⟨x, y⟩ | ⟨x, y⟩
    · omega
    · exact .inr (.inl ⟨by rw [hk]; exact x, e, y⟩)
    · omega
    · omega
  · have := gK_of e
    rw [hk] at this
    rcases kk4 r h with ⟨x, y⟩ | ⟨x, y⟩ | ⟨x, y⟩ | ⟨x, y⟩
    · exact .inl ⟨by rw [hk]; exact x, e, y⟩
    · omega
    · omega
    · omega
  · have := gK_of e
    rw [hk] at this
    rcases kk4 r h with ⟨x, y⟩ | ⟨x, y⟩ | ⟨x, y⟩ | ⟨x, y⟩
    · omega
    · omega
    · omega
    · exact .inr (.inr (.inr ⟨by rw [hk]; exact x, e, y⟩))
  · have := gK_of e
    rw [hk] at this
    rcases kk4 r h with ⟨x, y⟩ | ⟨x, y⟩ | ⟨x, y⟩ | ⟨x, y⟩
    · omega
    · omega
    · exact .inr (.inr (.inl ⟨by rw [hk]; exact x, e, y⟩))
    · omega
/-- whether kind e is of kind o -/
def ib (e o : Nat) : Int32 := if o = 0 ∨ e = o ∨ (o = 2 ∧ e = 3) then 1 else 0
theorem c_isOf {N : Nat} {I : gI} {R : gR} {S : gS} {a e o : Nat} (hw : gWb R S a = true) (hk : KK S a e) (ho : o ≤ 4) : f_X11_isOf N I R S (some a) (nI o) = some (ib e o) := by
  unfold f_X11_isOf
  dsimp only
  rw [if_pos hw]
  rcases hk with ⟨x, _, rfl⟩ | ⟨x, _, rfl⟩ | ⟨x, _, rfl⟩ | ⟨x, _, rfl⟩ <;> rw [x] <;> rcases (show o = 0 ∨ o = 1 ∨ o = 2 ∨ o = 3 ∨ o = 4 by omega) with rfl | rfl | rfl | rfl | rfl <;> rfl
theorem c_isOf0 {N : Nat} {I : gI} {R : gR} {S : gS} {o : Nat} (ho : o ≤ 4) : f_X11_isOf N I R S none (nI o) = some 0 := by
  unfold f_X11_isOf
  rcases (show o = 0 ∨ o = 1 ∨ o = 2 ∨ o = 3 ∨ o = 4 by omega) with rfl | rfl | rfl | rfl | rfl <;> rfl
theorem m_isOf {N : Nat} {I : gI} {R : gR} {S : gS} {e o : Nat} (he : 1 ≤ e ∧ e ≤ 4) (ho : o ≤ 4) : f_X12_isOf N I R S (nI e) (nI o) = some (ib e o) := by
  unfold f_X12_isOf
  rcases (show e = 1 ∨ e = 2 ∨ e = 3 ∨ e = 4 by omega) with rfl | rfl | rfl | rfl <;> rcases (show o = 0 ∨ o = 1 ∨ o = 2 ∨ o = 3 ∨ o = 4 by omega) with rfl | rfl | rfl | rfl | rfl <;> rfl
theorem kd_r {r h : Nat} : 1 ≤ kd r h ∧ kd r h ≤ 4 := by
  rcases kk4 r h with ⟨_, y⟩ | ⟨_, y⟩ | ⟨_, y⟩ | ⟨_, y⟩ <;> omega
theorem isK2 {N : Nat} {R : gR} {S : gS} (x : Int32) : (∀ I J : gI, f_X11_isKind N I R S x = some 0 ∧ f_X12_in N J R S x.toInt64 (0 : Int64) (4 : Int64) = some 0) ∨ ∃ o, o ≤ 4 ∧ x = nI o ∧ ∀ I J : gI, f_X11_isKind N I R S x = some 1 ∧ f_X12_in N J R S x.toInt64 (0 : Int64) (4 : Int64) = some 1 := by
  rcases in2 (N := N) (R := R) (S := S) 4 (by omega) x with ⟨hx, hi⟩ | ⟨o, o1, rfl, hi⟩
  · refine .inl (fun I J => ⟨?_, hi J⟩)
    unfold f_X11_isKind
    rcases hx with hx | hx
    · rw [if_pos hx]
    · by_cases h0 : x < 0
      · rw [if_pos h0]
      · rw [if_neg h0, if_pos]
        rw [Int32.lt_iff_toInt_lt] at hx
        rw [Int32.le_iff_toInt_le]
        have e4 : (nI 4).toInt = 4 := rfl
        have e5 : (5 : Int32).toInt = 5 := rfl
        omega
  · refine .inr ⟨o, o1, rfl, fun I J => ⟨?_, hi J⟩⟩
    unfold f_X11_isKind
    rw [gn_f (by omega), show (5 : Int32) = nI 5 from rfl, gle_f (by omega) (by omega)]
theorem st_kind {K : Type} [Lean.Grind.CommRing K] {p n : Nat} {X : K} {co : K → Nat} {k N : Nat} {I : gI} {R : gR} {S : gS} (hR : RO K p n X co) (h : IV p n X co k I R S) (hk : k < 512) (hN : 16000 ≤ N) (x0 : Int32) : ∃ J P T, k_kind N I R S x0 = some (J, P, T) ∧ IV p n X co (k + 1) J P T := by
  have hIV := h
  obtain ⟨b1, b2, b3, b4, b5, b6, b7, b8, b9, b10⟩ := h
  unfold k_kind
  refine k_fin (m := fun J => f_X12_kind N J R S x0) hR hIV ?_
  rcases isP2 (N := N) (R := R) (S := S) x0 with hp | ⟨w, w1, rfl, hp⟩
  · refine hx_bad hIV ?_ ?_
    · unfold f_X11_kind; rw [(hp I I).1, Option.bind_some, if_pos rfl]
    · unfold f_X12_kind; rw [(hp I _).2, Option.bind_some, if_pos rfl]
  rcases b8 w w1 with ⟨e1, e2⟩ | ⟨q, r, t, d, c, f, e1, e2, e3⟩
  · refine hx_found hR hIV 1 ?_ ?_
    · unfold f_X11_kind; rw [(hp I I).1, Option.bind_some, if_neg (by decide), nI_clamp (by omega), gin2 (by omega) (by omega), e1]; rfl
    · unfold f_X12_kind; rw [(hp I _).2, Option.bind_some, if_neg (by decide), look_no w1 (by rw [gU_ne _ _ _ _ (by decide)]; exact e2), Option.bind_some, neg_found 1 (by decide)]
  · obtain ⟨f1, f2, f3, f4, f5, f6, f7, f8, f9, f10, f11, f12⟩ := e2
    have hKK := KK_of f2.1 f11
    obtain ⟨J1, hJ1⟩ : ∃ J1, J1 = gU I 0 7 (0 : Int32) := ⟨_, rfl⟩
    have hJ1n : ∀ x, 75 ≤ x → J1 x = I x := fun x hx => by rw [hJ1, gU_cell _ _ _ (by omega)]
    have hW0 := MW_of e3 (J := J1) (hJ1n 101 (by omega)) (hJ1n 102 (by omega))
    have hM1 := m0_MH (MH_of b5 (J := J1) (fun j _ _ => by rw [hJ1n 91 (by omega)]) (hJ1n 96 (by omega)) (hJ1n 97 (by omega)))
    obtain ⟨J2, m1, m2⟩ := m_kindOf (N := N) (R := R) hR hM1 w1 (m0_MW hW0) f3 f4 (lay6 b1 91 114 (by omega)) f9 f10 (by omega)
    refine ⟨nI (kd r (f / d)), J1, J2, 0, ?_, ?_, ?_, MS_m0 m2 (by decide)⟩
    · unfold f_X11_kind; rw [(hp I I).1, Option.bind_some, if_neg (by decide), nI_clamp (by omega), gin2 (by omega) (by omega), e1]
      dsimp only
      rw [if_pos f2.1]
      rcases hKK with ⟨y1, y2, y3⟩ | ⟨y1, y2, y3⟩ | ⟨y1, y2, y3⟩ | ⟨y1, y2, y3⟩
      · rw [y3, y1, if_neg (by decide), if_pos rfl, hJ1]
        unfold f_X3_kindTold
        rw [if_pos y2]; rfl
      · rw [y3, y1, if_pos rfl, hJ1]
        unfold f_X1_kindTold
        rw [if_pos y2]; rfl
      · rw [y3, y1, if_neg (by decide), if_neg (by decide), if_neg (by decide), hJ1]
        unfold f_X7_kindTold
        rw [if_pos y2]; rfl
      · rw [y3, y1, if_neg (by decide), if_neg (by decide), if_pos rfl, hJ1]
        unfold f_X4_kindTold
        rw [if_pos (.inl y2)]; rfl
    · rw [hJ1]
      exact CS_st hR (fun _ _ => rfl) b6 0
    · unfold f_X12_kind; rw [(hp I _).2, Option.bind_some, if_neg (by decide), look_yes w1 hW0 f3.1 f3.2.1, Option.bind_some, if_pos (show (0 : Int32) ≤ 0 by decide), m1, Option.bind_some]
theorem ib_01 (e o : Nat) : ib e o = 0 ∨ ib e o = 1 := by
  unfold ib
  split
  · exact .inr rfl
  · exact .inl rfl
theorem st_as {K : Type} [Lean.Grind.CommRing K] {p n : Nat} {X : K} {co : K → Nat} {k N : Nat} {I : gI} {R : gR} {S : gS} (hR : RO K p n X co) (h : IV p n X co k I R S) (hk : k < 512) (hN : 16000 ≤ N) (x0 x1 : Int32) : ∃ J P T, k_as N I R S x0 x1 = some (J, P, T) ∧ IV p n X co (k + 1) J P T := by
  have hIV := h
  obtain ⟨b1, b2, b3, b4, b5, b6, b7, b8, b9, b10⟩ := h
  unfold k_as
  refine k_fin (m := fun J => f_X12_as N J R S x0 x1) hR hIV ?_
  rcases isP2 (N := N) (R := R) (S := S) x0 with hp | ⟨w, w1, rfl, hp⟩
  · refine hx_bad hIV ?_ ?_
    · unfold f_X11_as; rw [(hp I I).1, Option.bind_some, if_pos rfl]
    · unfold f_X12_as; rw [(hp I _).2, Option.bind_some, if_pos rfl]
  rcases isK2 (N := N) (R := R) (S := S) x1 with ho | ⟨o, o1, rfl, ho⟩
  · refine hx_bad hIV ?_ ?_
    · unfold f_X11_as; rw [(hp I I).1, Option.bind_some, if_neg (by decide), (ho I I).1, Option.bind_some, if_pos rfl]
    · unfold f_X12_as; rw [(hp I _).2, Option.bind_some, if_neg (by decide), (ho I _).2, Option.bind_some, if_pos rfl]
  rcases b8 w w1 with ⟨e1, e2⟩ | ⟨q, r, t, d, c, f, e1, e2, e3⟩
  · refine hx_found hR hIV 1 ?_ ?_
    · unfold f_X11_as; rw [(hp I I).1, Option.bind_some, if_neg (by decide), (ho I I).1, Option.bind_some, if_neg (by decide), nI_clamp (by omega), gin2 (by omega) (by omega), e1]; rfl
    · unfold f_X12_as; rw [(hp I _).2, Option.bind_some, if_neg (by decide), (ho I _).2, Option.bind_some, if_neg (by decide), look_no w1 (by rw [gU_ne _ _ _ _ (by decide)]; exact e2), Option.bind_some, neg_found 1 (by decide)]
  · obtain ⟨f1, f2, f3, f4, f5, f6, f7, f8, f9, f10, f11, f12⟩ := e2
    have hKK := KK_of f2.1 f11
    have hgo : ∀ (J1 : gI), (∀ x, 75 ≤ x → J1 x = I x) → ∃ J2, Fs [95, 103, 104, 106] (m0 J1) J2 ∧ f_X12_as N J1 R S (nI w) (nI o) = (if ib (kd r (f / d)) o = 0 then some ((-1000010 : Int32) - 3, gU J2 91 1 3) else some (nI r, J2)) := fun J1 hJ1n => by
      have hW0 := MW_of e3 (J := J1) (hJ1n 101 (by omega)) (hJ1n 102 (by omega))
      have hM1 := m0_MH (MH_of b5 (J := J1) (fun j _ _ => by rw [hJ1n 91 (by omega)]) (hJ1n 96 (by omega)) (hJ1n 97 (by omega)))
      obtain ⟨J2, m1, m2⟩ := m_kindOf (N := N) (R := R) hR hM1 w1 (m0_MW hW0) f3 f4 (lay6 b1 91 114 (by omega)) f9 f10 (by omega)
      refine ⟨J2, m2, ?_⟩
      unfold f_X12_as; rw [(hp I _).2, Option.bind_some, if_neg (by decide), (ho I _).2, Option.bind_some, if_neg (by decide), look_yes w1 hW0 f3.1 f3.2.1, Option.bind_some, if_pos (show (0 : Int32) ≤ 0 by decide), m1, Option.bind_some, m_isOf kd_r o1, Option.bind_some]
      dsimp only
      rw [nI_clamp (by omega), gin2 (by omega) (by omega), m2 101 (by decide), (m0_MW hW0).1]; rfl
    have hc := c_isOf (N := N) (I := I) f2.1 hKK o1
    rcases ib_01 (kd r (f / d)) o with hib | hib
    · obtain ⟨J2, m1, m2⟩ := hgo (gU I 0 7 3) (fun x hx => gU_cell _ _ _ (by omega))
      rw [if_pos hib] at m2
      refine ⟨(-1000010 : Int32) - 3, gU I 0 7 3, gU J2 91 1 3, 3, ?_, CS_st hR (fun _ _ => rfl) b6 3, m2, ?_⟩
      · unfold f_X11_as; rw [(hp I I).1, Option.bind_some, if_neg (by decide), (ho I I).1, Option.bind_some, if_neg (by decide), nI_clamp (by omega), gin2 (by omega) (by omega), e1]
        dsimp only
        rw [if_pos f2.1, hc, Option.bind_some, if_pos hib]; rfl
      · obtain ⟨s1, s2, s3⟩ := MS_m0 m1 (by decide)
        exact ⟨fun a ha => by rw [gU_cell _ _ _ (by omega)]; exact s1 a ha, fun j hj => by rw [gU_slot _ _ _ (by omega)]; exact s2 j hj, gU_at _ _ _ _⟩
    · obtain ⟨J2, m1, m2⟩ := hgo (gU I 0 7 0) (fun x hx => gU_cell _ _ _ (by omega))
      rw [if_neg (by rw [hib]; decide)] at m2
      refine ⟨nI r, gU I 0 7 0, J2, 0, ?_, CS_st hR (fun _ _ => rfl) b6 0, m2, MS_m0 m1 (by decide)⟩
      unfold f_X11_as; rw [(hp I I).1, Option.bind_some, if_neg (by decide), (ho I I).1, Option.bind_some, if_neg (by decide), nI_clamp (by omega), gin2 (by omega) (by omega), e1]
      dsimp only
      rw [if_pos f2.1, hc, Option.bind_some, if_neg (by rw [hib]; decide), f2.2.2.2.2]; rfl
theorem b0_MH {K : Type} [Lean.Grind.CommRing K] {p n : Nat} {X : K} {co : K → Nat} {I : gI} (h : MH p n X co I) : MH p n X co (gU I 91 0 (0 : Int32)) := MH_of h (fun j hj _ => gU_slot _ _ _ (by omega)) (gU_cell _ _ _ (by decide)) (gU_cell _ _ _ (by decide))
theorem MS_b0 {I J : gI} {l : List Nat} {st : Int32} (h : Fs l (gU I 91 0 (0 : Int32)) J) (hl : ∀ a, a ∈ l → (92 ≤ a ∧ a ≤ 95) ∨ (103 ≤ a ∧ a ≤ 112)) (hst : I 91 1 = st) : MS I J st := by
  have hn : ∀ a, ¬ ((92 ≤ a ∧ a ≤ 95) ∨ (103 ≤ a ∧ a ≤ 112)) → J a = gU I 91 0 (0 : Int32) a := fun a ha => h a (fun z => ha (hl a z))
  exact ⟨fun a ha => by rw [hn a (by omega), gU_cell _ _ _ (by omega)], fun j hj => by rw [hn 91 (by omega), gU_slot _ _ _ (by omega)], by rw [hn 91 (by omega), gU_slot _ _ _ (by decide)]; exact hst⟩
theorem st_is {K : Type} [Lean.Grind.CommRing K] {p n : Nat} {X : K} {co : K → Nat} {k N : Nat} {I : gI} {R : gR} {S : gS} (hR : RO K p n X co) (h : IV p n X co k I R S) (hk : k < 512) (hN : 16000 ≤ N) (x0 x1 : Int32) : ∃ J P T, k_is N I R S x0 x1 = some (J, P, T) ∧ IV p n X co (k + 1) J P T := by
  have hIV := h
  obtain ⟨b1, b2, b3, b4, b5, b6, b7, b8, b9, b10⟩ := h
  unfold k_is
  refine k_fin0 hR hIV ?_
  rcases isP2 (N := N) (R := R) (S := S) x0 with hp | ⟨w, w1, rfl, hp⟩
  · refine ⟨-1000001, _, ?_, ?_, MS_bad b9.symm⟩
    · unfold f_X11_is; rw [(hp I I).1, Option.bind_some, if_pos rfl]
    · unfold f_X12_is; rw [(hp I _).2, Option.bind_some, if_pos rfl]
  rcases isK2 (N := N) (R := R) (S := S) x1 with ho | ⟨o, o1, rfl, ho⟩
  · refine ⟨-1000001, _, ?_, ?_, MS_bad b9.symm⟩
    · unfold f_X11_is; rw [(hp I I).1, Option.bind_some, if_neg (by decide), (ho I I).1, Option.bind_some, if_pos rfl]
    · unfold f_X12_is; rw [(hp I _).2, Option.bind_some, if_neg (by decide), (ho I _).2, Option.bind_some, if_pos rfl]
  rcases b8 w w1 with ⟨e1, e2⟩ | ⟨q, r, t, d, c, f, e1, e2, e3⟩
  · refine ⟨0, _, ?_, ?_, MS_bad b9.symm⟩
    · unfold f_X11_is; rw [(hp I I).1, Option.bind_some, if_neg (by decide), (ho I I).1, Option.bind_some, if_neg (by decide), nI_clamp (by omega), gin2 (by omega) (by omega), e1, c_isOf0 o1]; rfl
    · unfold f_X12_is; rw [(hp I _).2, Option.bind_some, if_neg (by decide), (ho I _).2, Option.bind_some, if_neg (by decide), nI_clamp (by omega), gin2 (by omega) (by omega), if_pos (by rw [gU_ne _ _ _ _ (by decide), e2]; decide)]
  · obtain ⟨f1, f2, f3, f4, f5, f6, f7, f8, f9, f10, f11, f12⟩ := e2
    have hKK := KK_of f2.1 f11
    have hW0 := MW_of e3 (J := gU I 91 0 (0 : Int32)) (gU_cell _ _ _ (by decide)) (gU_cell _ _ _ (by decide))
    obtain ⟨J2, m1, m2⟩ := m_kindOf (N := N) (R := R) hR (b0_MH b5) w1 hW0 f3 f4 (lay6 b1 91 114 (by omega)) f9 f10 (by omega)
    have hc := c_isOf (N := N) (I := I) f2.1 hKK o1
    refine ⟨ib (kd r (f / d)) o, J2, ?_, ?_, MS_b0 m2 (by decide) b9.symm⟩
    · unfold f_X11_is; rw [(hp I I).1, Option.bind_some, if_neg (by decide), (ho I I).1, Option.bind_some, if_neg (by decide), nI_clamp (by omega), gin2 (by omega) (by omega), e1, hc, Option.bind_some]
      rcases ib_01 (kd r (f / d)) o with hib | hib <;> rw [hib] <;> rfl
    · unfold f_X12_is; rw [(hp I _).2, Option.bind_some, if_neg (by decide), (ho I _).2, Option.bind_some, if_neg (by decide), m1, Option.bind_some, nI_clamp (by omega), gin2 (by omega) (by omega), if_neg (by rw [hW0.1]; exact nI_nle (by have := f3.1; omega) (by have := f3.2.1; omega)), m_isOf kd_r o1, Option.bind_some]
      rcases ib_01 (kd r (f / d)) o with hib | hib <;> rw [hib] <;> rfl
theorem st_status {K : Type} [Lean.Grind.CommRing K] {p n : Nat} {X : K} {co : K → Nat} {k N : Nat} {I : gI} {R : gR} {S : gS} (hR : RO K p n X co) (h : IV p n X co k I R S) : ∃ J P T, k_status N I R S = some (J, P, T) ∧ IV p n X co (k + 1) J P T := by
  unfold k_status
  refine k_fin0 hR h ⟨I 0 7, gU I 91 0 (0 : Int32), rfl, ?_, MS_bad h.2.2.2.2.2.2.2.2.1.symm⟩
  unfold f_X12_status
  rw [gU_slot _ _ _ (by decide), ← h.2.2.2.2.2.2.2.2.1]
theorem st_trace {K : Type} [Lean.Grind.CommRing K] {p n : Nat} {X : K} {co : K → Nat} {k N : Nat} {I : gI} {R : gR} {S : gS} (hR : RO K p n X co) (h : IV p n X co k I R S) (x0 : Int32) : ∃ J P T, k_trace N I R S x0 = some (J, P, T) ∧ IV p n X co (k + 1) J P T := by
  have hIV := h
  obtain ⟨b1, b2, b3, b4, b5, b6, b7, b8, b9, b10⟩ := h
  obtain ⟨L, l1, l2, l3, l4⟩ := b10
  unfold k_trace
  refine k_fin0 hR hIV ?_
  have e28 : gU I 91 0 (0 : Int32) 91 28 = nI L := by rw [gU_slot _ _ _ (by decide)]; exact l3
  by_cases hj : ∃ j, j < L ∧ x0 = nI j
  · obtain ⟨j, j1, rfl⟩ := hj
    refine ⟨I 4 j, _, ?_, ?_, MS_bad b9.symm⟩
    · unfold f_X11_trace f_X9_has
      rw [l2, gn_f (by omega), gle_f j1 (by omega), Option.bind_some, if_neg (by decide), nI_clamp (by omega), gin2 (by omega) (by omega)]
    · unfold f_X12_trace
      rw [e28, dn1 L (by omega), show (0 : Int64) = (0 : Int32).toInt64 from rfl, s_in, Option.bind_some, if_pos (c := (0 : Int32) ≤ nI j ∧ nI j ≤ nI (L - 1)) ⟨nI_pos' (by omega), nI_le (by omega) (by omega)⟩, if_neg (by decide), nI_clamp (by omega), gin2 (by omega) (by omega), gU_ne _ _ _ _ (by decide), l4 j j1]
  · refine ⟨-1000000, _, ?_, ?_, MS_bad b9.symm⟩
    · unfold f_X11_trace f_X9_has
      rw [l2]
      by_cases h0 : x0 < 0
      · rw [if_pos h0]; rfl
      · rw [if_neg h0, if_pos]
        · rfl
        · obtain ⟨j, j1, rfl⟩ := nI_of (x := x0) h0
          exact nI_le (Nat.le_of_not_lt (fun z => hj ⟨j, z, rfl⟩)) (by omega)
    · unfold f_X12_trace
      rw [e28, show (0 : Int64) = (0 : Int32).toInt64 from rfl, s_in, Option.bind_some, if_neg (c := (0 : Int32) ≤ x0 ∧ x0 ≤ nI L - 1) (fun z => by
        obtain ⟨j, j1, rfl⟩ := nI_of (x := x0) (fun y => by
          have z1 := z.1
          rw [Int32.le_iff_toInt_le] at z1
          rw [Int32.lt_iff_toInt_lt] at y
          omega)
        refine hj ⟨j, ?_, rfl⟩
        by_cases hL : L = 0
        · have z2 := z.2
          rw [hL, Int32.le_iff_toInt_le, nI_toInt (by omega)] at z2
          have : (nI 0 - 1 : Int32).toInt = -1 := by decide
          omega
        · have z2 := z.2
          rw [dn1 L (by omega)] at z2
          have := (nI_leI j1 (by omega)).mp z2
          omega), if_pos rfl]
end St6
