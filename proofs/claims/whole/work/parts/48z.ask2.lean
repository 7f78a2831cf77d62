/-! ask -/
section StAsk
theorem gKb_of {S : gS} {a : Nat} {x : Nat × Nat} (h : S[a]? = some x) (hx : x = (3, 4) ∨ x = (1, 4) ∨ x = (4, 5) ∨ x = (7, 5)) : gKb S a = true := by
  unfold gKb
  rw [h]
  rcases hx with rfl | rfl | rfl | rfl <;> rfl
theorem st_ask {K : Type} [Lean.Grind.CommRing K] {p n : Nat} {X : K} {co : K → Nat} {k N : Nat} {I : gI} {R : gR} {S : gS} (hR : RO K p n X co) (h : IV p n X co k I R S) (hk : k < 512) (hN : 16000 ≤ N) (x0 x1 : Int32) : ∃ J P T, k_ask N I R S x0 x1 = some (J, P, T) ∧ IV p n X co (k + 1) J P T := by
  have hIV := h
  obtain ⟨b1, b2, b3, b4, b5, b6, b7, b8, b9, b10⟩ := h
  unfold k_ask
  refine k_gen (m := fun J => f_X12_ask N J R S x0 x1) hIV ?_
  rcases isP2 (N := N) (R := R) (S := S) x0 with hp | ⟨w, w1, rfl, hp⟩
  · refine gx_bad hR hIV ?_ ?_
    · unfold f_X11_ask; rw [(hp I I).1, Option.bind_some, if_pos rfl]
    · unfold f_X12_ask; rw [(hp I _).2, Option.bind_some, if_pos rfl]
  rcases in2 (N := N) (R := R) (S := S) 1 (by omega) x1 with ⟨i1, i2⟩ | ⟨j, j1, rfl, hj⟩
  · refine gx_bad hR hIV ?_ ?_
    · unfold f_X11_ask; rw [(hp I I).1, Option.bind_some, if_neg (by decide)]
      by_cases z : x1 < 0
      · rw [if_pos z]
      · rw [if_neg z, if_neg (fun y => by
          have i1 := i1.resolve_left z
          have e9 : (nI 1).toInt = 1 := rfl
          have e9' : (1 : Int32).toInt = 1 := rfl
          rw [Int32.lt_iff_toInt_lt] at i1
          rw [Int32.le_iff_toInt_le] at y
          omega)]
    · unfold f_X12_ask; rw [(hp I _).2, Option.bind_some, if_neg (by decide), show f_X12_in N (gU I 91 0 (0 : Int32)) R S x1.toInt64 (0 : Int64) (1 : Int64) = some 0 from i2 _, Option.bind_some, if_pos rfl]
  have h9 : nI j ≤ (1 : Int32) := nI_le (b := 1) j1 (by omega)
  have hin : ∀ J : gI, f_X12_in N J R S (nI j).toInt64 (0 : Int64) (1 : Int64) = some 1 := fun J => hj J
  obtain ⟨I0, hI0⟩ : ∃ I0, I0 = gU I 3 1 (0 : Int32) := ⟨_, rfl⟩
  have hI0n : ∀ q, q ≠ 3 → I0 q = I q := fun q hq => by rw [hI0, gU_cell _ _ _ hq]
  rcases b8 w w1 with ⟨e1, e2⟩ | ⟨a, r, t, d, c, f, e1, e2, e3⟩
  · obtain ⟨J1, hJ1⟩ : ∃ J1, J1 = gU I0 0 7 (1 : Int32) := ⟨_, rfl⟩
    obtain ⟨J2, hJ2⟩ : ∃ J2, J2 = gU (gU (gU (gU J1 91 0 (0 : Int32)) 91 28 (0 : Int32)) 91 1 (0 : Int32)) 91 1 (1 : Int32) := ⟨_, rfl⟩
    have q1 : ∀ q, q ≠ 91 → J2 q = J1 q := fun q hq => by rw [hJ2, gU_cell _ _ _ hq, gU_cell _ _ _ hq, gU_cell _ _ _ hq, gU_cell _ _ _ hq]
    have q2 : ∀ q, q ≠ 0 → J1 q = I0 q := fun q hq => by rw [hJ1, gU_cell _ _ _ hq]
    refine ⟨(-1000010 : Int32) - 1, J1, J2, ?_, ?_, step_ask hR hIV (fun q hq => by rw [q1 q (by omega), q2 q (by omega), hI0n q (by omega)]) (fun o h1 h2 => by rw [hJ2, gU_slot _ _ _ (by omega), gU_slot _ _ _ (by omega), gU_slot _ _ _ h2, gU_slot _ _ _ (by omega), q2 91 (by decide), hI0n 91 (by decide)]) (by rw [q1 0 (by decide), hJ1, gU_at, hJ2, gU_at]) ⟨0, by omega, by rw [q1 3 (by decide), q2 3 (by decide), hI0, gU_at]; rfl, by rw [hJ2, gU_slot _ _ _ (by decide), gU_slot _ _ _ (by decide), gU_at]; rfl, fun i hi => absurd hi (by omega)⟩⟩
    · unfold f_X11_ask f_X9_empty; rw [(hp I I).1, Option.bind_some, if_neg (by decide), if_neg (nI_pos (by omega)), if_pos h9, Option.bind_some, nI_clamp (n := w) (by omega), gin2 (by omega) (by omega), e1, hJ1, hI0]; rfl
    · unfold f_X12_ask f_X12_look
      rw [(hp I _).2, Option.bind_some, if_neg (by decide), hin, Option.bind_some, if_neg (by decide), nI_clamp (n := w) (by omega), gin2 (by omega) (by omega), if_pos (by rw [gU_ne _ _ _ _ (by decide), gU_ne _ _ _ _ (by decide), gU_ne _ _ _ _ (by decide), q2 101 (by decide), hI0n 101 (by decide)]; exact e2), hJ2]; rfl
  have hVr := e2.2.2.1
  have h1r := hVr.1
  have h3r := hVr.2.1
  have hW := e2.2.1
  have ha := hW.2.1
  have hga := hW.2.2.1
  have hlayM : ∀ q, 91 ≤ q → q < 114 → S[q]? = layS[q]? := fun q h1 h2 => b1.1 q (by omega) (by omega)
  have hT0 : ∀ g : Nat → Int32, TC g I0 I0 0 := fun g => ⟨by rw [hI0, gU_at]; rfl, fun i hi => absurd hi (by omega), fun _ _ _ => rfl⟩
  have hr1 : I0 a 1 = nI r := by rw [hI0n a (by omega)]; exact hW.2.2.2.2
  have ht0 : I0 (gt R a) 0 = nI (co (t 0)) := by rw [hI0n _ (by omega)]; exact hW.2.2.2.1 0 (by omega)
  have h4 : I0 a 4 = I a 4 := by rw [hI0n a (by omega)]
  have h3 : I0 a 3 = nI d := by rw [hI0n a (by omega)]; exact e2.2.2.2.2.2.2.2.1
  have hKK := KK_of hW.1 e2.2.2.2.2.2.2.2.2.2.2.1
  obtain ⟨e, he⟩ : ∃ e, e = kd r (f / d) := ⟨_, rfl⟩
  rw [← he] at hKK
  have hrun : ∀ (g : Nat → Int32) (L : Nat) (v : Int32) (Jc : gI), L ≤ 16 → TC g I0 Jc L →
      ((if nI j = 0 then (if gK S a = 1 then ((f_X1_sizeAsked N I0 R S a).bind (fun z12 => some (z12.1, z12.2))) else if gK S a = 3 then ((f_X10_sizeAsked N I0 R S a).bind (fun z13 => some (z13.1, z13.2))) else if gK S a = 4 then ((f_X4_sizeAsked N I0 R S a).bind (fun z14 => some (z14.1, z14.2))) else ((f_X7_sizeAsked N I0 R S a).bind (fun z15 => some (z15.1, z15.2)))) else (if gK S a = 1 then ((f_X10_signAsked N I0 R S a).bind (fun z7 => some (z7.1, z7.2))) else if gK S a = 3 then ((f_X3_signAsked N I0 R S a).bind (fun z8 => some (z8.1, z8.2))) else if gK S a = 4 then ((f_X4_signAsked N I0 R S a).bind (fun z9 => some (z9.1, z9.2))) else ((f_X7_signAsked N I0 R S a).bind (fun z10 => some (z10.1, z10.2))))) : Option (Int32 × gI)) = some (v, Jc) →
      (∀ J' : gI, MH p n X co J' → MW co J' w r t → TM g J' J' 0 → ∃ J2, (if nI j = 0 then f_X12_sized N J' R S (nI w) (nI e) else f_X12_signed N J' R S (nI w) (nI e)) = some (v, J2) ∧ TM g J' J2 L) →
      ∃ v J1 J2, f_X11_ask N I R S (nI w) (nI j) = some (v, J1) ∧ f_X12_ask N J1 R S (nI w) (nI j) = some (v, J2) ∧ IV p n X co (k + 1) J2 R S := by
    intro g L v Jc hL hT hc hm
    obtain ⟨J1, hJ1⟩ : ∃ J1, J1 = gU Jc 0 7 (0 : Int32) := ⟨_, rfl⟩
    have q2 : ∀ q, q ≠ 0 → J1 q = Jc q := fun q hq => by rw [hJ1, gU_cell _ _ _ hq]
    have qI : ∀ q, q ≠ 0 → q ≠ 3 → q ≠ 4 → J1 q = I q := fun q u1 u2 u3 => by rw [q2 q u1, hT.2.2 q u2 u3, hI0n q u2]
    obtain ⟨H, hH⟩ : ∃ H, H = gU (gU (gU J1 91 0 (0 : Int32)) 91 28 (0 : Int32)) 91 1 (0 : Int32) := ⟨_, rfl⟩
    have hHn : ∀ q, q ≠ 91 → H q = J1 q := fun q hq => by rw [hH, gU_cell _ _ _ hq, gU_cell _ _ _ hq, gU_cell _ _ _ hq]
    have hH91 : ∀ o, 2 ≤ o → o ≠ 28 → H 91 o = J1 91 o := fun o u1 u2 => by rw [hH, gU_slot _ _ _ (by omega), gU_slot _ _ _ u2, gU_slot _ _ _ (by omega)]
    have hMH : MH p n X co H := MH_of b5 (fun o u1 u2 => by rw [hH91 o u1 (by omega), qI 91 (by decide) (by decide) (by decide)]) (by rw [hHn 96 (by decide), qI 96 (by decide) (by decide) (by decide)]) (by rw [hHn 97 (by decide), qI 97 (by decide) (by decide) (by decide)])
    have hMW : MW co H w r t := MW_of e3 (by rw [hHn 101 (by decide), qI 101 (by decide) (by decide) (by decide)]) (by rw [hHn 102 (by decide), qI 102 (by decide) (by decide) (by decide)])
    obtain ⟨J', k1, k2⟩ := m_kindOf (N := N) (R := R) (S := S) hR hMH w1 hMW hVr e2.2.2.2.1 hlayM e2.2.2.2.2.2.2.2.2.1 e2.2.2.2.2.2.2.2.2.2.1 (by omega)
    rw [← he] at k1
    have hJ' : ∀ q, ¬ (q = 95 ∨ q = 103 ∨ q = 104 ∨ q = 106) → J' q = H q := fun q hq => k2 q (by simp only [List.mem_cons, List.mem_nil_iff, or_false]; omega)
    obtain ⟨J2, m1, m2⟩ := hm J' (MH_of hMH (fun o _ _ => by rw [hJ' 91 (by omega)]) (hJ' 96 (by omega)) (hJ' 97 (by omega))) (MW_of hMW (hJ' 101 (by omega)) (hJ' 102 (by omega))) ⟨by rw [hJ' 91 (by omega), hH, gU_slot _ _ _ (by decide), gU_at]; rfl, fun i hi => absurd hi (by omega), fun _ _ _ => rfl, fun _ _ => rfl⟩
    have q5 : ∀ q, ¬ (q = 91 ∨ q = 95 ∨ q = 103 ∨ q = 104 ∨ q = 106 ∨ q = 113) → J2 q = J1 q := fun q hq => by rw [m2.2.2.1 q (by omega) (by omega), hJ' q (by omega), hHn q (by omega)]
    refine ⟨v, J1, J2, ?_, ?_, step_ask hR hIV (fun q hq => by rw [q5 q (by omega), qI q (by omega) (by omega) (by omega)]) (fun o u1 u2 => by rw [m2.2.2.2 o u2, hJ' 91 (by omega), hH91 o u1 u2, qI 91 (by decide) (by decide) (by decide)]) (by rw [q5 0 (by omega), hJ1, gU_at, m2.2.2.2 1 (by decide), hJ' 91 (by omega), hH, gU_at]) ⟨L, hL, by rw [q5 3 (by omega), q2 3 (by decide)]; exact hT.1, m2.1, fun i hi => by rw [q5 4 (by omega), q2 4 (by decide), hT.2.1 i hi, m2.2.1 i hi]⟩⟩
    · unfold f_X11_ask f_X9_empty; rw [(hp I I).1, Option.bind_some, if_neg (by decide), if_neg (nI_pos (by omega)), if_pos h9, Option.bind_some, ← hI0, nI_clamp (n := w) (by omega), gin2 (by omega) (by omega), e1]
      dsimp only
      rw [if_pos hW.1, hc, hJ1]; rfl
    · have hr0 : ¬ H 101 w = 0 := fun z => by
        have er : (nI r).toInt = ((r : Nat) : Int) := nI_toInt (by omega)
        have e0 : (0 : Int32).toInt = 0 := rfl
        rw [hMW.1] at z
        rw [z] at er; omega
      unfold f_X12_ask f_X12_look
      rw [(hp I _).2, Option.bind_some, if_neg (by decide), hin, Option.bind_some, if_neg (by decide), nI_clamp (n := w) (by omega), gin2 (by omega) (by omega), ← hH, if_neg hr0, Option.bind_some, if_pos (show (0 : Int32) ≤ 0 by decide)]
      dsimp only
      rw [k1, Option.bind_some]
      dsimp only
      by_cases z : nI j = 0
      · rw [if_pos z] at m1
        rw [if_pos z, m1]; rfl
      · rw [if_neg z] at m1
        rw [if_neg z, Option.bind_some, m1]; rfl
  have hj01 : j = 0 ∨ j = 1 := by omega
  have hadd : ∀ x : Int32, x + 0 = x := fun x => Int32.add_zero x
  have hX4s : ∀ (g : Nat → Int32) (Jx : gI) (L : Nat), TC g I0 Jx L → L + 1 < 16 → g L = 11 → g (L + 1) = 10 → (S[a]? = some (4, 5) ∨ S[a]? = some (7, 5)) → gKb S a = true → ∃ J2, f_X4_sizeAsked N Jx R S a = some (nI r + 10, J2) ∧ TC g I0 J2 (L + 2) := by
    intro g Jx L hT hL g0 g1 hs hb
    obtain ⟨Ja, k1, k2⟩ := TC_leave (N := N) (R := R) (S := S) hT (by omega)
    obtain ⟨Jb, k3, k4⟩ := a10_size (N := N) (R := R) k2 (by omega) g1 hb ha hr1
    rw [g0] at k1
    refine ⟨Jb, ?_, k4⟩
    unfold f_X4_sizeAsked
    rw [if_pos hs, k1, Option.bind_some, k3, Option.bind_some]
  have hX4g : ∀ (g : Nat → Int32) (Jx : gI) (L : Nat), TC g I0 Jx L → L + 1 < 16 → g L = 21 → g (L + 1) = 20 → (S[a]? = some (4, 5) ∨ S[a]? = some (7, 5)) → gKb S a = true → ∃ J2, f_X4_signAsked N Jx R S a = some (nI (co (t 0)) + I a 4, J2) ∧ TC g I0 J2 (L + 2) := by
    intro g Jx L hT hL g0 g1 hs hb
    obtain ⟨Ja, k1, k2⟩ := TC_leave (N := N) (R := R) (S := S) hT (by omega)
    obtain ⟨Jb, k3, k4⟩ := a10_sign (N := N) (R := R) k2 (by omega) g1 hb hW.1 hga ht0
    rw [g0] at k1
    refine ⟨Jb, ?_, k4⟩
    unfold f_X4_signAsked
    rw [if_pos hs, k1, Option.bind_some, k3, Option.bind_some]
    dsimp only
    rw [k4.2.2 a (by omega) (by omega), h4]
  rcases hKK with ⟨y1, y2, rfl⟩ | ⟨y1, y2, rfl⟩ | ⟨y1, y2, rfl⟩ | ⟨y1, y2, rfl⟩
  · have hb := gKb_of y2 (.inl rfl)
    rcases hj01 with rfl | rfl
    · obtain ⟨Jc, k1, k2⟩ := a10_size (N := N) (R := R) (hT0 (fun _ => 10)) (by omega) rfl hb ha hr1
      refine hrun _ 1 (nI r) Jc (by omega) k2 ?_ (fun J' hM hMw hT => ?_)
      · rw [if_pos (show nI 0 = (0 : Int32) from rfl), if_neg (by rw [y1]; decide), if_pos y1, k1]; rfl
      · rw [if_pos (show nI 0 = (0 : Int32) from rfl), ← hadd (nI r)]
        exact m_sized1 hT (by omega) w1 hMw rfl
    · obtain ⟨g, g0, g1, g2⟩ : ∃ g : Nat → Int32, g 0 = 23 ∧ g 1 = 20 ∧ g 2 = 10 := ⟨fun i => if i = 0 then 23 else if i = 1 then 20 else 10, rfl, rfl, rfl⟩
      obtain ⟨Ja, k1, k2⟩ := TC_leave (N := N) (R := R) (S := S) (hT0 g) (by omega)
      obtain ⟨Jb, k3, k4⟩ := a10_sign (N := N) (R := R) k2 (by omega) g1 hb hW.1 hga ht0
      obtain ⟨Jc, k5, k6⟩ := a10_size (N := N) (R := R) k4 (by omega) g2 hb ha hr1
      rw [g0] at k1
      refine hrun g 3 (nI (co (t 0)) + nI r) Jc (by omega) k6 ?_ (fun J' hM hMw hT => ?_)
      · rw [if_neg (show ¬ nI 1 = (0 : Int32) by decide), if_neg (by rw [y1]; decide), if_pos y1]
        unfold f_X3_signAsked
        rw [if_pos y2, k1, Option.bind_some, k3, Option.bind_some, k5]; rfl
      · rw [if_neg (show ¬ nI 1 = (0 : Int32) by decide), ← hadd (nI r)]
        exact m_signed1 hT (by omega) w1 hMw g0 g1 g2
  · have hb := gKb_of y2 (.inr (.inl rfl))
    rcases hj01 with rfl | rfl
    · obtain ⟨g, g0, g1, g2⟩ : ∃ g : Nat → Int32, g 0 = 13 ∧ g 1 = 10 ∧ g 2 = 20 := ⟨fun i => if i = 0 then 13 else if i = 1 then 10 else 20, rfl, rfl, rfl⟩
      obtain ⟨Ja, k1, k2⟩ := TC_leave (N := N) (R := R) (S := S) (hT0 g) (by omega)
      obtain ⟨Jb, k3, k4⟩ := a10_size (N := N) (R := R) k2 (by omega) g1 hb ha hr1
      obtain ⟨Jc, k5, k6⟩ := a10_sign (N := N) (R := R) k4 (by omega) g2 hb hW.1 hga ht0
      rw [g0] at k1
      refine hrun g 3 (nI r + nI (co (t 0))) Jc (by omega) k6 ?_ (fun J' hM hMw hT => ?_)
      · rw [if_pos (show nI 0 = (0 : Int32) from rfl), if_pos y1]
        unfold f_X1_sizeAsked
        rw [if_pos y2, k1, Option.bind_some, k3, Option.bind_some, k5]; rfl
      · rw [if_pos (show nI 0 = (0 : Int32) from rfl)]
        exact m_sized4 hT (by omega) w1 hMw g0 g1 g2
    · obtain ⟨Jc, k1, k2⟩ := a10_sign (N := N) (R := R) (hT0 (fun _ => 20)) (by omega) rfl hb hW.1 hga ht0
      refine hrun _ 1 (nI (co (t 0))) Jc (by omega) k2 ?_ (fun J' hM hMw hT => ?_)
      · rw [if_neg (show ¬ nI 1 = (0 : Int32) by decide), if_pos y1, k1]; rfl
      · have := m_signed4 (N := N) (R := R) (S := S) hT (by omega) w1 hMw rfl
        rw [hadd, hadd] at this
        rw [if_neg (show ¬ nI 1 = (0 : Int32) by decide)]; exact this
  · have hb := gKb_of y2 (.inr (.inr (.inr rfl)))
    have hr2 : r = 2 := by
      unfold kd at he
      by_cases u1 : r = 1
      · rw [if_pos u1] at he; omega
      · by_cases u3 : r = 3
        · rw [if_neg u1, if_pos u3] at he; omega
        · omega
    have hmk := e2.2.2.2.2.2.2.2.2.2.2.2 hr2
    have ht2 : t 2 ≠ 0 := by have := hVr.2.2.1; rw [hr2] at this; exact this
    rcases hj01 with rfl | rfl
    · obtain ⟨g, g0, g1, g2⟩ : ∃ g : Nat → Int32, g 0 = 12 ∧ g 1 = 11 ∧ g 2 = 10 := ⟨fun i => if i = 0 then 12 else if i = 1 then 11 else 10, rfl, rfl, rfl⟩
      obtain ⟨Ja, k1, k2⟩ := TC_leave (N := N) (R := R) (S := S) (hT0 g) (by omega)
      obtain ⟨Jc, k5, k6⟩ := hX4s g Ja 1 k2 (by omega) g1 g2 (.inr y2) hb
      rw [g0] at k1
      refine hrun g 3 ((nI r + 10) * 2) Jc (by omega) k6 ?_ (fun J' hM hMw hT => ?_)
      · rw [if_pos (show nI 0 = (0 : Int32) from rfl), if_neg (by rw [y1]; decide), if_neg (by rw [y1]; decide), if_neg (by rw [y1]; decide)]
        unfold f_X7_sizeAsked
        rw [if_pos y2, k1, Option.bind_some, k5]; rfl
      · rw [if_pos (show nI 0 = (0 : Int32) from rfl)]
        exact m_sized3 hT (by omega) w1 hMw g0 g1 g2
    · obtain ⟨g, g0, g1, g2⟩ : ∃ g : Nat → Int32, g 0 = 22 ∧ g 1 = 21 ∧ g 2 = 20 := ⟨fun i => if i = 0 then 22 else if i = 1 then 21 else 20, rfl, rfl, rfl⟩
      obtain ⟨Ja, k1, k2⟩ := TC_leave (N := N) (R := R) (S := S) (hT0 g) (by omega)
      obtain ⟨Jc, k5, k6⟩ := hX4g g Ja 1 k2 (by omega) g1 g2 (.inr y2) hb
      rw [g0] at k1
      refine hrun g 3 (nI (co (t 0)) + nI (co (t 1 ^ (p + 1) * t 2 ^ (p ^ n - 2))) + nI d) Jc (by omega) k6 ?_ (fun J' hM hMw hT => ?_)
      · rw [if_neg (show ¬ nI 1 = (0 : Int32) by decide), if_neg (by rw [y1]; decide), if_neg (by rw [y1]; decide), if_neg (by rw [y1]; decide)]
        unfold f_X7_signAsked
        rw [if_pos y2, k1, Option.bind_some, k5, Option.bind_some]
        dsimp only
        rw [k6.2.2 a (by omega) (by omega), h3, hmk]; rfl
      · rw [if_neg (show ¬ nI 1 = (0 : Int32) by decide)]
        exact m_signed3 hR hM hT (by omega) w1 hMw ht2 e2.2.2.2.1 (hlayM 106 (by omega) (by omega)) (by omega) g0 g1 g2
  · have hb := gKb_of y2 (.inr (.inr (.inl rfl)))
    have hr2 : r = 2 := by
      unfold kd at he
      by_cases u1 : r = 1
      · rw [if_pos u1] at he; omega
      · by_cases u3 : r = 3
        · rw [if_neg u1, if_pos u3] at he; omega
        · omega
    have hmk := e2.2.2.2.2.2.2.2.2.2.2.2 hr2
    have ht2 : t 2 ≠ 0 := by have := hVr.2.2.1; rw [hr2] at this; exact this
    rcases hj01 with rfl | rfl
    · obtain ⟨g, g0, g1⟩ : ∃ g : Nat → Int32, g 0 = 11 ∧ g 1 = 10 := ⟨fun i => if i = 0 then 11 else 10, rfl, rfl⟩
      obtain ⟨Jc, k5, k6⟩ := hX4s g I0 0 (hT0 g) (by omega) g0 g1 (.inl y2) hb
      refine hrun g 2 (nI r + 10) Jc (by omega) k6 ?_ (fun J' hM hMw hT => ?_)
      · rw [if_pos (show nI 0 = (0 : Int32) from rfl), if_neg (by rw [y1]; decide), if_neg (by rw [y1]; decide), if_pos y1, k5]; rfl
      · rw [if_pos (show nI 0 = (0 : Int32) from rfl)]
        exact m_sized2 hT (by omega) w1 hMw g0 g1
    · obtain ⟨g, g0, g1⟩ : ∃ g : Nat → Int32, g 0 = 21 ∧ g 1 = 20 := ⟨fun i => if i = 0 then 21 else 20, rfl, rfl⟩
      obtain ⟨Jc, k5, k6⟩ := hX4g g I0 0 (hT0 g) (by omega) g0 g1 (.inl y2) hb
      refine hrun g 2 (nI (co (t 0)) + nI (co (t 1 ^ (p + 1) * t 2 ^ (p ^ n - 2)))) Jc (by omega) k6 ?_ (fun J' hM hMw hT => ?_)
      · rw [if_neg (show ¬ nI 1 = (0 : Int32) by decide), if_neg (by rw [y1]; decide), if_neg (by rw [y1]; decide), if_pos y1, k5, hmk]; rfl
      · have := m_signed2 (N := N) (R := R) (S := S) hR hM hT (by omega) w1 hMw ht2 g0 g1
        rw [hadd] at this
        rw [if_neg (show ¬ nI 1 = (0 : Int32) by decide)]; exact this
end StAsk
