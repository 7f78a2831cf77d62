/-! the class: a new world -/
section NewW
theorem new_W {R : gR} {S : gS} {b : Nat} {x : Nat × Nat} (hx : x = (3, 4) ∨ x = (1, 4) ∨ x = (4, 5) ∨ x = (7, 5)) (hb : S[b]? = some (12, 4)) : gWb (gU (gZn R S.length) S.length 0 (some b)) (S ++ [x]) S.length = true ∧ gt (gU (gZn R S.length) S.length 0 (some b)) S.length = b ∧ (S ++ [x])[S.length]? = some x := by
  have h1 : (S ++ [x])[S.length]? = some x := gS_last rfl
  have h2 : gU (gZn R S.length) S.length 0 (some b) S.length 0 = some b := gU_at _ _ _ _
  have h3 : (S ++ [x])[b]? = some (12, 4) := gS_app hb
  refine ⟨?_, by unfold gt; rw [h2]; rfl, h1⟩
  unfold gWb
  rw [h1, h2]
  dsimp only
  rw [h3, Bool.and_eq_true]
  refine ⟨?_, rfl⟩
  rcases hx with rfl | rfl | rfl | rfl <;> rfl
theorem new_10 {N : Nat} {I : gI} {R : gR} {S : gS} {b : Nat} {x : Nat × Nat} (hx : x = (3, 4) ∨ x = (1, 4) ∨ x = (4, 5) ∨ x = (7, 5)) (v1 v2 v3 : Int32) : f_X10_init N I (gZn R S.length) (S ++ [x]) S.length b v1 v2 v3 = some (gU (gU (gU I S.length 1 v1) S.length 2 v2) S.length 3 v3, gU (gZn R S.length) S.length 0 (some b), S ++ [x]) := by
  unfold f_X10_init
  rw [if_pos]
  unfold gKb
  rw [gS_last rfl]
  rcases hx with rfl | rfl | rfl | rfl <;> rfl
theorem Lr_pos {K : Type} [Lean.Grind.CommRing K] {p n : Nat} {X : K} {co : K → Nat} (hR : RO K p n X co) {t0 : K} {d : Nat} {c : Nat → Nat} (h : Lr p n co (fun j _ => t0 ^ j) 1 d c) : 1 ≤ d := by
  apply Classical.byContradiction
  intro hn
  have h1 := h.2.1 0 (by omega)
  have h1 : t0 ^ d + sm d (fun j => nk (c j) * t0 ^ j) = 0 := h1
  rw [show d = 0 by omega, Lean.Grind.Semiring.pow_zero, sm_zero] at h1
  exact RO_ne hR (by grind)
theorem s_worldOf {K : Type} [Lean.Grind.CommRing K] {p n : Nat} {X : K} {co : K → Nat} {I : gI} {R : gR} {S : gS} {N b r : Nat} {t : Nat → K} (hR : RO K p n X co) (hlay : gLay 0 114 R S) (hS1 : 114 ≤ S.length) (hS2 : S.length < 10000) (hF : FH p n X co I) (hC : CST p n X co I R S) (hb1 : 114 ≤ b) (hSb : S[b]? = some (12, 4)) (ht : ∀ k, k < 4 → I b k = nI (co (t k))) (hV : WV r t) (hN : 60 ≤ N) :
    ∃ a J P T d c f, f_X8_worldOf N I R S b (nI r) = some (a, J, P, T) ∧ Ex R P S T ∧ T.length ≤ S.length + 2 ∧ WD p n co J P T a r t d c f ∧ CST p n X co J P T ∧ ∀ q, q < S.length → ¬ (17 ≤ q ∧ q ≤ 55) → J q = I q := by
  have hp := RO_p hR
  have hn6 := hR.2.2.1
  obtain ⟨c1, c2, c3, c4, c5, c6⟩ := hC
  have hbl : b < S.length := (List.getElem?_eq_some_iff.mp hSb).1
  have hS19 : S[19]? = some (12, 7) := hlay.1 19 (by omega) (by omega)
  obtain ⟨J0, d, c, o1, o2, o3, o4, o5⟩ := s_ownOf (N := N) (R := R) (S := S) hR hF c1 c2 hS19 (t 0) hN
  have hd1 := Lr_pos hR o4
  have hF0 := FH_fr hF hR o2 (by omega)
  have hLn := Ln_own (d := d) hp.1 o4.1
  have h31 := rel_31 (f := d) hp.2 (by omega) o4.1
  obtain ⟨f, f1, f2⟩ := Fst_ex hR hV hLn
  obtain ⟨cod, hcod⟩ : ∃ cod, cod = enc p d c + p ^ d := ⟨_, rfl⟩
  rw [← hcod] at o1 hLn h31 f2
  have hdeg := s_degreeOf (N := N) (R := R) (S := S) hF0.2.2.2.1 hp.1 hp.2 h31 hLn (by omega) (by omega)
  rw [dn1 _ (by omega), Nat.add_sub_cancel] at hdeg
  have z0 : (0 : Int32).toNatClampNeg = 0 := rfl
  have hJ0 : ∀ q, ¬ (17 ≤ q ∧ q ≤ 55) → J0 q = I q := fun q hq => o2 q (by omega)
  have hpre : ∀ y, (if nI r = (1 : Int32) then ((f_X3_init N (gZ J0 S.length) (gZn R S.length) (S ++ [(3, 4)]) S.length b (nI cod) (nI d)).bind (fun z11 => some (S.length, z11.1, z11.2.1, z11.2.2))) else (if nI r = (3 : Int32) then ((f_X1_init N (gZ J0 S.length) (gZn R S.length) (S ++ [(1, 4)]) S.length b (nI cod) (nI d)).bind (fun z10 => some (S.length, z10.1, z10.2.1, z10.2.2))) else ((f_X2_power N J0 R S (J0 b 1) ((J0 6 0) + (1 : Int32))).bind (fun z3 => ((f_X2_inverse N z3.2 R S (z3.2 b 2)).bind (fun z4 => ((f_X2_times N z4.2 R S z3.1 z4.1).bind (fun z5 => ((f_X4_init N (gZ z5.2 S.length) (gZn R S.length) (S ++ [(4, 5)]) S.length b (nI cod) (nI d) z5.1).bind (fun z6 => if gLayb 6 56 z6.2.1 z6.2.2 = true then ((f_X8_heightOf N z6.1 z6.2.1 z6.2.2 S.length).bind (fun z7 => (if z7.1 = (2 : Int32) then ((f_X7_init N (gZ z7.2 z6.2.2.length) (gZn z6.2.1 z6.2.2.length) (z6.2.2 ++ [(7, 5)]) z6.2.2.length S.length).bind (fun z9 => some (z6.2.2.length, z9.1, z9.2.1, z9.2.2))) else some (S.length, z7.2, z6.2.1, z6.2.2)))) else none)))))))))) = y → f_X8_worldOf N I R S b (nI r) = y := by
    intro y hy
    unfold f_X8_worldOf
    rw [gLn_of hSb, z0, if_neg (by decide), ht 0 (by omega), o1, Option.bind_some, hdeg, Option.bind_some]
    have z1 : (1 : Int32).toNatClampNeg = 1 := rfl
    have z2 : (2 : Int32).toNatClampNeg = 2 := rfl
    simp only [z1, z2]
    rw [if_neg (show ¬ ((1 : Int32) < 0 ∨ 4 ≤ 1) by decide)]
    have e2 : ¬ ((2 : Int32) < 0 ∨ 4 ≤ 2) := by decide
    simp only [e2, if_false]
    exact hy
  -- a new object x at the end, over a heap J that stands like I
  have hobj : ∀ (x : Nat × Nat) (J : gI), (x = (3, 4) ∨ x = (1, 4) ∨ x = (4, 5) ∨ x = (7, 5)) → (∀ q, q < S.length → ¬ (17 ≤ q ∧ q ≤ 36) → J q = I q) → J 17 1 = nI p → J S.length 1 = nI r → CW co J (gU (gZn R S.length) S.length 0 (some b)) (S ++ [x]) S.length r t ∧ CST p n X co J (gU (gZn R S.length) S.length 0 (some b)) (S ++ [x]) := by
    intro x J hx hJ h17 hJr
    obtain ⟨w1, w2, w3⟩ := new_W (R := R) hx hSb
    have hE : Ex R (gU (gZn R S.length) S.length 0 (some b)) S (S ++ [x]) := Ex_new x (some b)
    refine ⟨⟨w1, hS1, by rw [w2]; exact hb1, fun k hk => by rw [w2, hJ b hbl (by omega)]; exact ht k hk, hJr⟩, h17, by rw [hJ 37 (by omega) (by omega)]; exact c2, by rw [hJ 56 (by omega) (by omega)]; exact c3, by rw [hJ 56 (by omega) (by omega)]; exact c4, Pd_ex c5 hE (by rw [hJ 37 (by omega) (by omega)]) (by rw [hJ 37 (by omega) (by omega)]) (fun a h1 h2 => hJ a (by omega) (by omega)) (fun a h1 h2 => hJ a h2 (by omega)), Ad_ex c6 hn6 hE (by rw [hJ 56 (by omega) (by omega)]) (fun a h1 h2 => hJ a (by omega) (by omega)) (fun a h1 h2 => hJ a h2 (by omega))⟩
  obtain ⟨G, hG⟩ : ∃ G, G = gU (gU (gU (gZ J0 S.length) S.length 1 (nI r)) S.length 2 (nI cod)) S.length 3 (nI d) := ⟨_, rfl⟩
  have hGn : ∀ q, q ≠ S.length → G q = J0 q := fun q hq => by rw [hG, gU_cell _ _ _ hq, gU_cell _ _ _ hq, gU_cell _ _ _ hq, gZ_ne hq]
  have hG1 : G S.length 1 = nI r := by rw [hG, gU_slot _ _ _ (by decide), gU_slot _ _ _ (by decide), gU_at]
  have hG2 : G S.length 2 = nI cod := by rw [hG, gU_slot _ _ _ (by decide), gU_at]
  have hG3 : G S.length 3 = nI d := by rw [hG, gU_at]
  have hGI : ∀ q, q < S.length → ¬ (17 ≤ q ∧ q ≤ 36) → G q = I q := fun q hq h2 => by rw [hGn q (by omega), o2 q (by omega)]
  have hG17 : G 17 1 = nI p := by rw [hGn 17 (by omega)]; exact o5
  have h1r := hV.1
  have h3r := hV.2.1
  by_cases hr1 : r = 1
  · subst hr1
    obtain ⟨q1, q2⟩ := hobj (3, 4) G (.inl rfl) hGI hG17 hG1
    refine ⟨S.length, G, _, _, d, c, f, hpre _ ?_, Ex_new (3, 4) (some b), by simp, ⟨by simp, q1, hV, o4, hd1, o3, by rw [← hcod]; exact hG2, hG3, f1, by rw [← hcod]; exact f2, ?_, fun e => absurd e (by decide)⟩, q2, fun q hq h2 => hGI q hq (by omega)⟩
    · rw [if_pos (show nI 1 = (1 : Int32) from rfl)]
      unfold f_X3_init
      rw [if_pos (gS_last rfl), show (1 : Int32) = nI 1 from rfl, new_10 (.inl rfl), Option.bind_some, Option.bind_some, hG]
    · exact (gK_of (gS_last rfl)).trans rfl
  · by_cases hr3 : r = 3
    · subst hr3
      obtain ⟨q1, q2⟩ := hobj (1, 4) G (.inr (.inl rfl)) hGI hG17 hG1
      refine ⟨S.length, G, _, _, d, c, f, hpre _ ?_, Ex_new (1, 4) (some b), by simp, ⟨by simp, q1, hV, o4, hd1, o3, by rw [← hcod]; exact hG2, hG3, f1, by rw [← hcod]; exact f2, ?_, fun e => absurd e (by decide)⟩, q2, fun q hq h2 => hGI q hq (by omega)⟩
      · rw [if_neg (by decide), if_pos (show nI 3 = (3 : Int32) from rfl)]
        unfold f_X1_init
        rw [if_pos (gS_last rfl), show (3 : Int32) = nI 3 from rfl, new_10 (.inr (.inl rfl)), Option.bind_some, Option.bind_some, hG]
      · exact (gK_of (gS_last rfl)).trans rfl
    · have hr2 : r = 2 := by omega
      subst hr2
      obtain ⟨mk, hmk⟩ : ∃ mk, mk = t 1 ^ (p + 1) * t 2 ^ (p ^ n - 2) := ⟨_, rfl⟩
      obtain ⟨G4, hG4⟩ : ∃ G4, G4 = gU G S.length 4 (nI (co mk)) := ⟨_, rfl⟩
      have hG4n : ∀ q, q ≠ S.length → G4 q = G q := fun q hq => by rw [hG4, gU_cell _ _ _ hq]
      have hG4s : ∀ j, j ≠ 4 → G4 S.length j = G S.length j := fun j hj => by rw [hG4, gU_slot _ _ _ hj]
      have hG4I : ∀ q, q < S.length → ¬ (17 ≤ q ∧ q ≤ 36) → G4 q = I q := fun q hq h2 => by rw [hG4n q (by omega)]; exact hGI q hq h2
      have h17' : G4 17 1 = nI p := by rw [hG4n 17 (by omega)]; exact hG17
      obtain ⟨q1, q2⟩ := hobj (4, 5) G4 (.inr (.inr (.inl rfl))) hG4I h17' (by rw [hG4s 1 (by decide)]; exact hG1)
      have hE : Ex R (gU (gZn R S.length) S.length 0 (some b)) S (S ++ [(4, 5)]) := Ex_new (4, 5) (some b)
      obtain ⟨P, hP⟩ : ∃ P, P = gU (gZn R S.length) S.length 0 (some b) := ⟨_, rfl⟩
      obtain ⟨T, hT⟩ : ∃ T, T = S ++ [(4, 5)] := ⟨_, rfl⟩
      have hTl : T.length = S.length + 1 := by rw [hT]; simp
      have hT0 : T[S.length]? = some (4, 5) := by rw [hT]; exact gS_last rfl
      have hPb : P S.length 0 = some b := by rw [hP]; exact gU_at _ _ _ _
      rw [← hP, ← hT] at q1 q2 hE
      have hlay' := gLay_ex hlay hE hS1
      have hFG : FH p n X co G4 := FH_of hF hn6 (fun a h1 h2 => hG4I a (by omega) (by omega))
      obtain ⟨J7, g1, g2, g3, g4⟩ := s_heightOf (N := N) (a := cod) (d := d) (f := f) hR hFG q1 hV q2.2.2.2.2.1 (fun q h1 h2 => hlay'.1 q (by omega) (by omega)) (by omega) (by omega) (by rw [hG4s 2 (by decide)]; exact hG2) (by rw [hG4s 3 (by decide)]; exact hG3) h31 hd1 (by omega) hLn f1 f2 hN
      have hJ7 : ∀ q, ¬ (37 ≤ q ∧ q ≤ 46) → J7 q = G4 q := fun q hq => g2 q (by simp only [List.mem_cons, List.mem_nil_iff, or_false]; omega)
      have hC7 : CST p n X co J7 P T := by
        obtain ⟨k1, k2, k3, k4, k5, k6⟩ := q2
        exact ⟨by rw [hJ7 17 (by omega)]; exact k1, by rw [g3 2 (by decide) (by decide)]; exact k2, by rw [hJ7 56 (by omega)]; exact k3, by rw [hJ7 56 (by omega)]; exact k4, g4, Ad_of k6 hn6 (by rw [hJ7 56 (by omega)]) (fun a h1 h2 => hJ7 a (by omega)) (fun a ha => hJ7 a (by omega))⟩
      have hmark : (f_X2_power N J0 R S (J0 b 1) ((J0 6 0) + (1 : Int32))) = some (nI (co (t 1 ^ (p + 1))), J0) ∧ f_X2_inverse N J0 R S (J0 b 2) = some (nI (co (t 2 ^ (p ^ n - 2))), J0) ∧ f_X2_times N J0 R S (nI (co (t 1 ^ (p + 1)))) (nI (co (t 2 ^ (p ^ n - 2)))) = some (nI (co mk), J0) := by
        rw [hJ0 b (by omega), ht 1 (by omega), ht 2 (by omega), hF0.1.1.1, nI_1]
        exact ⟨s_power hR hF0.1 _ (by omega) (by omega), s_inverse hR hF0 _ (by omega), by rw [hmk]; exact s_times hR hF0.1 _ _ (by omega)⟩
      have h4i : f_X4_init N (gZ J0 S.length) (gZn R S.length) (S ++ [(4, 5)]) S.length b (nI cod) (nI d) (nI (co mk)) = some (G4, P, T) := by
        unfold f_X4_init
        rw [if_pos (.inl (gS_last rfl)), show (2 : Int32) = nI 2 from rfl, new_10 (.inr (.inr (.inl rfl))), Option.bind_some, if_pos rfl, hG4, hG, hP, hT]
      have hrun : ∀ y, (if nI (f / d) = (2 : Int32) then ((f_X7_init N (gZ J7 T.length) (gZn P T.length) (T ++ [(7, 5)]) T.length S.length).bind (fun z9 => some (T.length, z9.1, z9.2.1, z9.2.2))) else some (S.length, J7, P, T)) = y → f_X8_worldOf N I R S b (nI 2) = y := fun y hy => hpre _ (by
        rw [if_neg (by decide), if_neg (by decide), hmark.1, Option.bind_some]
        dsimp only
        rw [hmark.2.1, Option.bind_some]
        dsimp only
        rw [hmark.2.2, Option.bind_some]
        dsimp only
        rw [h4i, Option.bind_some]
        dsimp only
        rw [if_pos (gLayb_of (hlay'.sub (by omega) (by omega))), g1, Option.bind_some]
        exact hy)
      have hfd : f / d < 2147483648 := by
        have h2 : f / d ≤ f := Nat.div_le_self _ _
        have h3 : 2 * d ≤ 12 := by omega
        omega
      by_cases hh : f / d = 2
      · obtain ⟨E, hEq⟩ : ∃ E, E = gU (gU (gU (gU (gZ J7 T.length) T.length 1 (nI 2)) T.length 2 (nI cod)) T.length 3 (nI d)) T.length 4 (nI (co mk)) := ⟨_, rfl⟩
        have hEn : ∀ q, q ≠ T.length → E q = J7 q := fun q hq => by rw [hEq, gU_cell _ _ _ hq, gU_cell _ _ _ hq, gU_cell _ _ _ hq, gU_cell _ _ _ hq, gZ_ne hq]
        have hTb : T[b]? = some (12, 4) := by rw [hE.2.1 b hbl]; exact hSb
        obtain ⟨w1, w2, w3⟩ := new_W (R := P) (S := T) (.inr (.inr (.inr rfl)) : ((7, 5) : Nat × Nat) = (3, 4) ∨ ((7, 5) : Nat × Nat) = (1, 4) ∨ ((7, 5) : Nat × Nat) = (4, 5) ∨ ((7, 5) : Nat × Nat) = (7, 5)) hTb
        have hE2 : Ex P (gU (gZn P T.length) T.length 0 (some b)) T (T ++ [(7, 5)]) := Ex_new (7, 5) (some b)
        have hEz : Ex P (gZn P T.length) T (T ++ [(7, 5)]) := ⟨fun q hq => gZn_ne (by omega), hE2.2.1, hE2.2.2⟩
        obtain ⟨y1, y2, y3⟩ := gWb_ex hEz (show S.length < T.length by omega) q1.1
        have hgtb : gt P S.length = b := by unfold gt; rw [hPb]; rfl
        have e1 : E T.length 1 = nI 2 := by rw [hEq, gU_slot _ _ _ (by decide), gU_slot _ _ _ (by decide), gU_slot _ _ _ (by decide), gU_at]
        have e2 : E T.length 2 = nI cod := by rw [hEq, gU_slot _ _ _ (by decide), gU_slot _ _ _ (by decide), gU_at]
        have e3 : E T.length 3 = nI d := by rw [hEq, gU_slot _ _ _ (by decide), gU_at]
        have e4 : E T.length 4 = nI (co mk) := by rw [hEq, gU_at]
        have s7 : ∀ j, gZ J7 T.length S.length j = G4 S.length j := fun j => by rw [show gZ J7 T.length S.length = J7 S.length from gZ_ne (by omega), hJ7 _ (by omega)]
        refine ⟨T.length, E, gU (gZn P T.length) T.length 0 (some b), T ++ [(7, 5)], d, c, f, hrun _ ?_, hE.trans hE2, by simp; omega, ⟨by simp, ⟨w1, by omega, by rw [w2]; exact hb1, fun k hk => ?_, e1⟩, hV, o4, hd1, o3, by rw [← hcod]; exact e2, e3, f1, by rw [← hcod]; exact f2, ?_, fun _ => by rw [e4, hmk]⟩, ?_, fun q hq h2 => ?_⟩
        · rw [if_pos (by rw [hh]; rfl)]
          unfold f_X7_init
          rw [if_pos (gS_app hT0), if_pos w3, if_pos y1, y2, hgtb, s7, s7, s7, hG4s 2 (by decide), hG2, hG4s 3 (by decide), hG3]
          have e44 : G4 S.length 4 = nI (co mk) := by rw [hG4, gU_at]
          rw [e44]
          unfold f_X4_init
          rw [if_pos (.inr w3), show (2 : Int32) = nI 2 from rfl, new_10 (.inr (.inr (.inr rfl))), Option.bind_some, if_pos rfl, Option.bind_some, Option.bind_some, hEq]
        · rw [w2, hEn b (by omega), hJ7 b (by omega), hG4I b hbl (by omega)]; exact ht k hk
        · rw [gK_of w3, hh]; rfl
        · obtain ⟨k1, k2, k3, k4, k5, k6⟩ := hC7
          exact ⟨by rw [hEn 17 (by omega)]; exact k1, by rw [hEn 37 (by omega)]; exact k2, by rw [hEn 56 (by omega)]; exact k3, by rw [hEn 56 (by omega)]; exact k4, Pd_ex k5 hE2 (by rw [hEn 37 (by omega)]) (by rw [hEn 37 (by omega)]) (fun a h1 h2 => hEn a (by omega)) (fun a h1 h2 => hEn a (by omega)), Ad_ex k6 hn6 hE2 (by rw [hEn 56 (by omega)]) (fun a h1 h2 => hEn a (by omega)) (fun a h1 h2 => hEn a (by omega))⟩
        · rw [hEn q (by omega), hJ7 q (by omega), hG4I q hq (by omega)]
      · refine ⟨S.length, J7, P, T, d, c, f, hrun _ ?_, hE, by omega, ⟨by omega, CW_of q1 (fun a ha => hJ7 a (by omega)), hV, o4, hd1, o3, ?_, ?_, f1, by rw [← hcod]; exact f2, ?_, fun _ => ?_⟩, hC7, fun q hq h2 => by rw [hJ7 q (by omega), hG4I q hq (by omega)]⟩
        · exact if_neg (fun z => hh ((nI_eq (b := 2) hfd (by omega)).mp z))
        · rw [hJ7 _ (by omega), hG4s 2 (by decide), ← hcod]; exact hG2
        · rw [hJ7 _ (by omega), hG4s 3 (by decide)]; exact hG3
        · rw [gK_of hT0]
          unfold kcl
          rw [if_neg (by decide), if_neg (by decide), if_neg hh]
        · rw [hJ7 _ (by omega), hG4, gU_at, hmk]
end NewW
