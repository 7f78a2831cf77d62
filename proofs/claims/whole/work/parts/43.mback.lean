/-! BACK: the model -/
section MBack
theorem m_flagB {K : Type} [Lean.Grind.CommRing K] {p n : Nat} {X : K} {co : K → Nat} {J : gI} {R : gR} {S : gS} {N l i x : Nat} {Y : Nat → Nat → K} (hR : RO K p n X co) (hMJ : MH p n X co J) (hl : l ≤ 4) (hi : i ≤ 4) (h92 : ∀ e, e < 16 → J 92 e = nI (dig p x e)) (hrs : ∀ e m, e < 5 → m < l → J 112 (4 * e + m) = nI (co (Y e m))) (hN : 60 ≤ N) :
    ∃ y, (iter (σ := Int32 × Int32) (ρ := Int32) (fun z15 => (if nI l ≤ z15.2 then some (.inr z15.1) else (if z15.1 = 0 then some (.inr z15.1) else if (((4 : Int32) * nI i) + z15.2) < 0 ∨ 20 ≤ (((4 : Int32) * nI i) + z15.2).toNatClampNeg then none else ((iter (σ := Int32 × Int32) (ρ := Int32) (fun z17 => (if nI i ≤ z17.2 then some (.inr z17.1) else if z17.2 < 0 ∨ 16 ≤ z17.2.toNatClampNeg then none else if (((4 : Int32) * z17.2) + z15.2) < 0 ∨ 20 ≤ (((4 : Int32) * z17.2) + z15.2).toNatClampNeg then none else ((f_X12_times N J R S (J 92 z17.2.toNatClampNeg) (J 112 (((4 : Int32) * z17.2) + z15.2).toNatClampNeg)).bind (fun z19 => ((f_X12_add N J R S z17.1 z19).bind (fun z20 => some (.inl (z20, z17.2 + 1)))))))) N (J 112 (((4 : Int32) * nI i) + z15.2).toNatClampNeg, (0 : Int32))).bind (fun r18 => (if r18 = 0 then some (.inl ((1 : Int32), z15.2 + 1)) else some (.inl ((0 : Int32), z15.2 + 1)))))))) N ((1 : Int32), (0 : Int32))) = some y ∧ ((y = 1 ∧ ∀ m, m < l → Y i m + sm i (fun j => nk (dig p x j) * Y j m) = 0) ∨ (y = 0 ∧ ¬ ∀ m, m < l → Y i m + sm i (fun j => nk (dig p x j) * Y j m) = 0)) := by
  have hp := RO_p hR
  refine iter_wp (fun o s => (s = (1, nI o) ∧ ∀ m, m < o → Y i m + sm i (fun j => nk (dig p x j) * Y j m) = 0) ∨ (s = (0, nI o) ∧ ¬ ∀ m, m < l → Y i m + sm i (fun j => nk (dig p x j) * Y j m) = 0)) _ l (.inl ⟨by rw [nI_0], fun m hm => by omega⟩) ?_ (by omega)
  rintro o _ ho (⟨rfl, h⟩ | ⟨rfl, h⟩)
  · dsimp only
    by_cases hol : o = l
    · subst hol
      exact .inr ⟨1, if_pos (nI_le (Nat.le_refl _) (by omega)), .inl ⟨rfl, h⟩⟩
    · refine .inl ?_
      rw [gle_f (by omega) (by omega), if_neg (by decide), show (4 : Int32) = nI 4 from rfl, pk_mul, nI_add, nI_clamp (by omega), gin2 (by omega) (by omega), hrs i o (by omega) (by omega)]
      have e1 : (iter (σ := Int32 × Int32) (ρ := Int32) (fun z17 => (if nI i ≤ z17.2 then some (.inr z17.1) else if z17.2 < 0 ∨ 16 ≤ z17.2.toNatClampNeg then none else if ((nI 4 * z17.2) + nI o) < 0 ∨ 20 ≤ ((nI 4 * z17.2) + nI o).toNatClampNeg then none else ((f_X12_times N J R S (J 92 z17.2.toNatClampNeg) (J 112 ((nI 4 * z17.2) + nI o).toNatClampNeg)).bind (fun z19 => ((f_X12_add N J R S z17.1 z19).bind (fun z20 => some (.inl (z20, z17.2 + 1)))))))) N (nI (co (Y i o)), (0 : Int32))) = some (nI (co (Y i o + sm i (fun j => nk (dig p x j) * Y j o)))) := by
        refine iter_cnt (fun e => (nI (co (Y i o + sm e (fun j => nk (dig p x j) * Y j o))), nI e)) i ?_ ?_ ?_ (by omega)
        · rw [nI_0, sm_zero, show Y i o + 0 = Y i o by grind]
        · intro e he
          have hd := RO_nk hR (c := dig p x e) (dig_lt (by omega) _ _)
          simp (disch := omega) only [gle_f, pk_mul, nI_add, nI_clamp, gin2, h92, hrs]
          rw [← hd, m_times hR hMJ, Option.bind_some, m_add hR hMJ.1 _ _ (by omega), Option.bind_some, nI_1, sm_succ]
          congr 5; grind
        · simp (disch := omega) only [gle_t]
      rw [e1, Option.bind_some, nI_1]
      by_cases hz : Y i o + sm i (fun j => nk (dig p x j) * Y j o) = 0
      · refine ⟨_, if_pos ((co0_iff hR _).mpr hz), by omega, .inl ⟨rfl, fun m hm => ?_⟩⟩
        by_cases e : m = o
        · rw [e]; exact hz
        · exact h m (by omega)
      · exact ⟨_, if_neg (fun z => hz ((co0_iff hR _).mp z)), by omega, .inr ⟨rfl, fun z => hz (z o (by omega))⟩⟩
  · refine .inr ⟨0, ?_, .inr ⟨rfl, h⟩⟩
    dsimp only
    split
    · rfl
    · rfl
def lK : List Nat := [92, 95, 103, 104, 105, 112]
/-- what back answers, when it has found one -/
def ansB {K : Type} [Lean.Grind.CommRing K] (co : K → Nat) (code : Nat) (q : Nat → K) (L : Nat) (a4 : Int32) : Int32 := if a4 = -2 then nI code else if a4 = -1 then nI L - 1 else if a4 ≤ 23 then nI (co (q a4.toNatClampNeg)) else 0
theorem m_back {K : Type} [Lean.Grind.CommRing K] {p n : Nat} {X : K} {co : K → Nat} {I H : gI} {R : gR} {S : gS} {N w r l : Nat} {t u : Nat → K} {Y : Nat → Nat → K} {a1 a2 a4 : Int32} (hR : RO K p n X co) (h4 : (-2 : Int32) ≤ a4) (h2 : f_X12_lookMap N (gU I 91 0 (0 : Int32)) R S (nI w) a1 a2 (nI l) = some (0, H)) (hM : MH p n X co H) (hw : w < 10) (hW : MW co H w r t) (hV : WV r t) (hS : ∀ q, 91 ≤ q → q < 114 → S[q]? = layS[q]?) (h108 : ∀ k, k < 5 → H 108 k = nI (co (u k))) (hl1 : 1 ≤ l) (hl : l ≤ 4) (hul : u l ≠ 0) (hu0 : ∀ k, l < k → u k = 0) (hY : ∀ k, k ≤ 4 → ∃ q, Dv p l 24 u (tp p t k) q (Y k)) (hN : 16000 ≤ N) :
    (∀ k c q rm L, 1 ≤ k → k ≤ 4 → Lr p n co Y l k c → Dv p l 24 u (ac p t (enc p k c + p ^ k) (k + 1)) q rm → L ≤ 24 → (∀ i, L ≤ i → i < 24 → q i = 0) → (0 < L → q (L - 1) ≠ 0) → ∃ J, f_X12_back N I R S (nI w) a1 a2 (nI l) a4 = some (ansB co (enc p k c + p ^ k) q L a4, J) ∧ Fs lK (gU H 91 1 (0 : Int32)) J) ∧ (KI (Wv p n co Y) (l * n) 5 → ∃ J, f_X12_back N I R S (nI w) a1 a2 (nI l) a4 = some (-1000000, J) ∧ Fs lK (gU H 91 1 (0 : Int32)) J) := by
  have hp := RO_p hR
  obtain ⟨H1, hH1⟩ : ∃ H1, H1 = gU H 91 1 (0 : Int32) := ⟨_, rfl⟩
  rw [← hH1]
  have hM1 : MH p n X co H1 := MH_of hM (fun j hj _ => by rw [hH1, gU_slot _ _ _ (by omega)]) (by rw [hH1, gU_cell _ _ _ (by decide)]) (by rw [hH1, gU_cell _ _ _ (by decide)])
  have hne : ∀ a, a ≠ 91 → H1 a = H a := fun a ha => by rw [hH1, gU_cell _ _ _ ha]
  have hW1 : MW co H1 w r t := MW_of hW (hne _ (by decide)) (hne _ (by decide))
  have h81 : ∀ k, k < 5 → H1 108 k = nI (co (u k)) := fun k hk => by rw [hne _ (by decide)]; exact h108 k hk
  have hS95 : S[95]? = some (12, 16) := hS 95 (by omega) (by omega)
  have hS92 : S[92]? = some (12, 16) := hS 92 (by omega) (by omega)
  have hS105 : S[105]? = some (12, 24) := hS 105 (by omega) (by omega)
  -- act and divide
  have hAD : ∀ (J : gI) (a D : Nat), Fs lK H1 J → a < 2147483648 → Ln p a (D + 1) → D ≤ 6 → ∃ J1 J2, f_X12_act N J R S (nI w) (nI a) = some J1 ∧ f_X12_divide N J1 R S (nI l) = some J2 ∧ Fs [95, 103, 104, 105] J J2 ∧ ∃ q rm, (∀ k, k < 24 → J2 105 k = nI (co (q k))) ∧ (∀ k, k < 24 → J2 103 k = nI (co (rm k))) ∧ Dv p l (24 - l) u (ac p t a (D + 1)) q rm := by
    intro J a D hJ ha hD hD6
    have hMJ := MH_fs hM1 hJ (by decide) (by decide) (by decide)
    have hWJ : MW co J w r t := MW_of hW1 (hJ 101 (by decide)) (hJ 102 (by decide))
    obtain ⟨J1, b1, b2, b3⟩ := m_act (N := N) (R := R) (S := S) hR hMJ hw hWJ hV hS95 ha hD (by omega) (by omega)
    have hM2 := MH_fs hMJ b2 (by decide) (by decide) (by decide)
    have hrd : r * D ≤ 18 := Nat.mul_le_mul hV.2.1 hD6
    have hac := (ac_deg hR hV.2.2.2 hV.2.2.1 (by have := hV.1; omega) hD).1
    obtain ⟨J2, c1, c2, q, rm, c3, c4, c5⟩ := m_divide (N := N) (R := R) (S := S) (u := u) (s := ac p t a (D + 1)) hR hM2 hl1 hl hul hu0 (fun k hk => by rw [b2 108 (by decide), hJ 108 (by decide)]; exact h81 k hk) b3 (fun k hk => hac k (by omega)) (by omega)
    exact ⟨J1, J2, b1, c1, (b2.mono (by decide)).trans (c2.mono (by decide)), q, rm, c3, c4, c5⟩
  -- the rests
  have hrests : ∃ J0, (iter (σ := Int32 × gI) (ρ := gI) (fun z2 => (if (5 : Int32) ≤ z2.1 then some (.inr z2.2) else ((f_X12_power N z2.2 R S (z2.2 91 2) z2.1).bind (fun z4 => ((f_X12_act N z2.2 R S (nI w) z4).bind (fun z5 => ((f_X12_divide N z5 R S (nI l)).bind (fun z6 => ((iter (σ := Int32 × gI) (ρ := gI) (fun z7 => (if (4 : Int32) ≤ z7.1 then some (.inr z7.2) else (if nI l ≤ z7.1 then if (((4 : Int32) * z2.1) + z7.1) < 0 ∨ 20 ≤ (((4 : Int32) * z2.1) + z7.1).toNatClampNeg then none else some (.inl (z7.1 + 1, gU z7.2 112 (((4 : Int32) * z2.1) + z7.1).toNatClampNeg (0 : Int32))) else if z7.1 < 0 ∨ 24 ≤ z7.1.toNatClampNeg then none else if (((4 : Int32) * z2.1) + z7.1) < 0 ∨ 20 ≤ (((4 : Int32) * z2.1) + z7.1).toNatClampNeg then none else some (.inl (z7.1 + 1, gU z7.2 112 (((4 : Int32) * z2.1) + z7.1).toNatClampNeg (z7.2 103 z7.1.toNatClampNeg)))))) N ((0 : Int32), z6)).bind (fun r8 => some (.inl (z2.1 + 1, r8)))))))))))) N ((0 : Int32), H1)) = some J0 ∧ Fs lK H1 J0 ∧ ∀ e m, e < 5 → m < l → J0 112 (4 * e + m) = nI (co (Y e m)) := by
    refine iter_wp (fun i s => ∃ J, s = (nI i, J) ∧ Fs lK H1 J ∧ ∀ e m, e < i → m < l → J 112 (4 * e + m) = nI (co (Y e m))) _ 5 ⟨H1, by rw [nI_0], Fs_refl _ _, fun e m he => by omega⟩ ?_ (by omega)
    rintro i _ hi ⟨J, rfl, q1, q2⟩
    dsimp only
    rw [show (5 : Int32) = nI 5 from rfl]
    by_cases he : i = 5
    · subst he
      rw [gle_t (by omega) (by omega)]
      exact .inr ⟨J, rfl, q1, q2⟩
    · refine .inl ?_
      have hMJ := MH_fs hM1 q1 (by decide) (by decide) (by decide)
      have hpk := pow_le7 (i := i) hp.2 (by omega)
      obtain ⟨J1, J2, b1, b2, b3, q, rm, b4, b5, b6⟩ := hAD J (p ^ i) i q1 (by omega) (Ln_pow hp.1 i) (by omega)
      rw [ac_pow hp.1] at b6
      obtain ⟨q', hq'⟩ := hY i (by omega)
      have hrm := (Dv_uniq hR hul hu0 b6 hq').2
      subst hrm
      rw [gle_f (by omega) (by omega), hMJ.1, m_power (by omega) (by omega), Option.bind_some, b1, Option.bind_some, b2, Option.bind_some]
      have e1 : ∃ J3, (iter (σ := Int32 × gI) (ρ := gI) (fun z7 => (if (4 : Int32) ≤ z7.1 then some (.inr z7.2) else (if nI l ≤ z7.1 then if (((4 : Int32) * nI i) + z7.1) < 0 ∨ 20 ≤ (((4 : Int32) * nI i) + z7.1).toNatClampNeg then none else some (.inl (z7.1 + 1, gU z7.2 112 (((4 : Int32) * nI i) + z7.1).toNatClampNeg (0 : Int32))) else if z7.1 < 0 ∨ 24 ≤ z7.1.toNatClampNeg then none else if (((4 : Int32) * nI i) + z7.1) < 0 ∨ 20 ≤ (((4 : Int32) * nI i) + z7.1).toNatClampNeg then none else some (.inl (z7.1 + 1, gU z7.2 112 (((4 : Int32) * nI i) + z7.1).toNatClampNeg (z7.2 103 z7.1.toNatClampNeg)))))) N ((0 : Int32), J2)) = some J3 ∧ (∀ a, a ≠ 112 → J3 a = J2 a) ∧ (∀ m, m < l → J3 112 (4 * i + m) = nI (co (Y i m))) ∧ ∀ x, x < 4 * i → J3 112 x = J2 112 x := by
        refine iter_wp (fun m s => ∃ J3, s = (nI m, J3) ∧ (∀ a, a ≠ 112 → J3 a = J2 a) ∧ (∀ m', m' < m → m' < l → J3 112 (4 * i + m') = nI (co (Y i m'))) ∧ ∀ x, x < 4 * i → J3 112 x = J2 112 x) _ 4 ⟨J2, by rw [nI_0], fun _ _ => rfl, fun m hm => by omega, fun _ _ => rfl⟩ ?_ (by omega)
        rintro m _ hm ⟨J3, rfl, g1, g2, g3⟩
        dsimp only
        rw [show (4 : Int32) = nI 4 from rfl]
        by_cases hm4 : m = 4
        · subst hm4
          rw [gle_t (by omega) (by omega)]
          exact .inr ⟨J3, rfl, g1, fun m' hm' => g2 m' (by omega) hm', g3⟩
        · refine .inl ?_
          rw [gle_f (by omega) (by omega), pk_mul, nI_add, nI_clamp (by omega), nI_clamp (by omega), gin2 (by omega) (by omega), gin2 (by omega) (by omega), gin2 (by omega) (by omega), nI_1]
          by_cases hml : l ≤ m
          · rw [gle_t hml (by omega)]
            exact ⟨_, rfl, by omega, _, rfl, fun a ha => by rw [gU_cell _ _ _ ha]; exact g1 a ha, fun m' h1 h2 => by rw [gU_slot _ _ _ (by omega)]; exact g2 m' (by omega) h2, fun x hx => by rw [gU_slot _ _ _ (by omega)]; exact g3 x hx⟩
          · rw [gle_f (by omega) (by omega), g1 103 (by decide), b5 m (by omega)]
            refine ⟨_, rfl, by omega, _, rfl, fun a ha => by rw [gU_cell _ _ _ ha]; exact g1 a ha, fun m' h1 h2 => ?_, fun x hx => by rw [gU_slot _ _ _ (by omega)]; exact g3 x hx⟩
            by_cases e : m' = m
            · rw [e, gU_at]
            · rw [gU_slot _ _ _ (by omega)]; exact g2 m' (by omega) h2
      obtain ⟨J3, g0, g1, g2, g3⟩ := e1
      rw [g0, Option.bind_some, nI_1]
      refine ⟨_, rfl, by omega, J3, rfl, q1.trans (Fs.trans (J := J2) (b3.mono (by decide)) (fun a ha => g1 a (fun e => ha (by rw [e]; decide)))), fun e m he' hm => ?_⟩
      by_cases e2 : e = i
      · rw [e2]; exact g2 m hm
      · rw [g3 _ (by omega), b3 112 (by decide)]; exact q2 e m (by omega) hm
  obtain ⟨J0, r0, r1, r2⟩ := hrests
  -- one degree
  have hdeg : ∀ (J : gI) (i : Nat), Fs lK H1 J → (∀ a, a ≠ 92 → J a = J0 a) → 1 ≤ i → i ≤ 4 → ∀ (x : Nat), x < p ^ i → ∃ J2, f_X12_figures N J R S (nI x) 92 = some J2 ∧ Fs lK H1 J2.2 ∧ (∀ a, a ≠ 92 → J2.2 a = J0 a) ∧ ∀ e, e < 16 → J2.2 92 e = nI (dig p x e) := by
    intro J i hJ hJ0 hi1 hi4 x hx
    have hpk := pow_le7 (i := i) hp.2 (by omega)
    obtain ⟨D, hD1, hD2⟩ := Ln_some (p := p) (a := x) (M := i) hx
    refine ⟨_, m_figures hp.1 hp.2 (MH_fs hM1 hJ (by decide) (by decide) (by decide)).1 (by decide) hS92 (by omega) hD2 (by omega) (by omega), hJ.trans (Fs_Aw (by decide)), fun a ha => ?_, fun e he => by dsimp only; rw [Aw_at he]⟩
    dsimp only
    rw [Aw_row ha]; exact hJ0 a ha
  -- the end of a good search
  have hfin : ∀ (J : gI) (k c q rm L), 1 ≤ k → k ≤ 4 → Lr p n co Y l k c → Dv p l 24 u (ac p t (enc p k c + p ^ k) (k + 1)) q rm → L ≤ 24 → (∀ i, L ≤ i → i < 24 → q i = 0) → (0 < L → q (L - 1) ≠ 0) → Fs lK H1 J → ∃ J2, ((f_X12_act N J R S (nI w) (nI (p ^ k) + nI (enc p k c))).bind (fun z21 => ((f_X12_divide N z21 R S (nI l)).bind (fun z22 => (if a4 = (-2 : Int32) then some (Sum.inr (α := Int32 × gI) (Sum.inr (α := gI) (nI (p ^ k) + nI (enc p k c), z22))) else (if a4 = (-1 : Int32) then ((f_X12_lengthOf N z22 R S 105).bind (fun z23 => some (.inr (.inr (z23, z22))))) else (if a4 ≤ (23 : Int32) then if a4 < 0 ∨ 24 ≤ a4.toNatClampNeg then none else some (.inr (.inr (z22 105 a4.toNatClampNeg, z22))) else some (.inr (.inr ((0 : Int32), z22)))))))))) = some (.inr (.inr (ansB co (enc p k c + p ^ k) q L a4, J2))) ∧ Fs lK H1 J2 := by
    intro J k c q rm L hk1 hk4 hL hD hL24 hq0 hqL hJ
    obtain ⟨J1, J2, b1, b2, b3, q', rm', b4, b5, b6⟩ := hAD J (enc p k c + p ^ k) k hJ (rel_31 hp.2 (by omega) hL.1) (Ln_own hp.1 hL.1) (by omega)
    have hqq := (Dv_uniq hR hul hu0 hD b6).1
    subst hqq
    refine ⟨J2, ?_, hJ.trans (b3.mono (by decide))⟩
    rw [nI_add, Nat.add_comm (p ^ k), b1, Option.bind_some, b2, Option.bind_some]
    unfold ansB
    by_cases e1 : a4 = -2
    · rw [if_pos e1, if_pos e1]
    · rw [if_neg e1, if_neg e1]
      by_cases e2 : a4 = -1
      · rw [if_pos e2, if_pos e2, m_lengthOf hR hS105 b4 hL24 hq0 hqL (by omega), Option.bind_some]
      · rw [if_neg e2, if_neg e2]
        by_cases e3 : a4 ≤ 23
        · rw [if_pos e3, if_pos e3]
          have hnn : ¬ a4 < 0 := fun z => by
            rw [Int32.le_iff_toInt_le] at h4
            rw [Int32.lt_iff_toInt_lt] at z
            have a1 : a4.toInt ≠ -2 := fun e => e1 (Int32.toInt_inj.mp (by rw [e]; rfl))
            have a2 : a4.toInt ≠ -1 := fun e => e2 (Int32.toInt_inj.mp (by rw [e]; rfl))
            have a3 : (-2 : Int32).toInt = -2 := rfl
            have a5 : (0 : Int32).toInt = 0 := rfl
            omega
          obtain ⟨j, j1, j2⟩ := nI_of2 (x := a4) (M := 23) (n := 23) rfl hnn e3
          rw [j2, nI_clamp (by omega), gin2 (by omega) (by omega), b4 j (by omega)]
        · rw [if_neg e3, if_neg e3]
  have hrun : ∀ v, (∃ J, ((iter (σ := Int32 × gI) (ρ := (gI) ⊕ (Int32 × gI)) (fun z9 => (if (5 : Int32) ≤ z9.1 then some (.inr (.inl z9.2)) else ((f_X12_power N z9.2 R S (z9.2 91 2) z9.1).bind (fun z11 => ((iter (σ := Int32 × gI) (ρ := (gI) ⊕ (Int32 × gI)) (fun z12 => (if z11 ≤ z12.1 then some (.inr (.inl z12.2)) else ((f_X12_figures N z12.2 R S z12.1 92).bind (fun z14 => ((iter (σ := Int32 × Int32) (ρ := Int32) (fun z15 => (if nI l ≤ z15.2 then some (.inr z15.1) else (if z15.1 = 0 then some (.inr z15.1) else if (((4 : Int32) * z9.1) + z15.2) < 0 ∨ 20 ≤ (((4 : Int32) * z9.1) + z15.2).toNatClampNeg then none else ((iter (σ := Int32 × Int32) (ρ := Int32) (fun z17 => (if z9.1 ≤ z17.2 then some (.inr z17.1) else if z17.2 < 0 ∨ 16 ≤ z17.2.toNatClampNeg then none else if (((4 : Int32) * z17.2) + z15.2) < 0 ∨ 20 ≤ (((4 : Int32) * z17.2) + z15.2).toNatClampNeg then none else ((f_X12_times N z14.2 R S (z14.2 92 z17.2.toNatClampNeg) (z14.2 112 (((4 : Int32) * z17.2) + z15.2).toNatClampNeg)).bind (fun z19 => ((f_X12_add N z14.2 R S z17.1 z19).bind (fun z20 => some (.inl (z20, z17.2 + 1)))))))) N (z14.2 112 (((4 : Int32) * z9.1) + z15.2).toNatClampNeg, (0 : Int32))).bind (fun r18 => (if r18 = 0 then some (.inl ((1 : Int32), z15.2 + 1)) else some (.inl ((0 : Int32), z15.2 + 1)))))))) N ((1 : Int32), (0 : Int32))).bind (fun r16 => (if r16 = 0 then some (.inl (z12.1 + 1, z14.2)) else ((f_X12_act N z14.2 R S (nI w) (z11 + z12.1)).bind (fun z21 => ((f_X12_divide N z21 R S (nI l)).bind (fun z22 => (if a4 = (-2 : Int32) then some (.inr (.inr (z11 + z12.1, z22))) else (if a4 = (-1 : Int32) then ((f_X12_lengthOf N z22 R S 105).bind (fun z23 => some (.inr (.inr (z23, z22))))) else (if a4 ≤ (23 : Int32) then if a4 < 0 ∨ 24 ≤ a4.toNatClampNeg then none else some (.inr (.inr (z22 105 a4.toNatClampNeg, z22))) else some (.inr (.inr ((0 : Int32), z22))))))))))))))))) N ((0 : Int32), z9.2)).bind (fun y25 => Sum.elim (fun r13 => some (.inl (z9.1 + 1, r13))) (fun x24 => some (.inr (.inr x24))) y25)))))) N ((1 : Int32), J0)).bind (fun y27 => Sum.elim (fun r10 => some ((-1000000 : Int32), r10)) (fun x26 => some x26) y27)) = some (v, J) ∧ Fs lK H1 J) → ∃ J, f_X12_back N I R S (nI w) a1 a2 (nI l) a4 = some (v, J) ∧ Fs lK H1 J := by
    rintro v ⟨J, hy, hJ⟩
    refine ⟨J, ?_, hJ⟩
    unfold f_X12_back
    rw [if_pos h4, h2, Option.bind_some, if_pos (show (0 : Int32) ≤ 0 by decide), ← hH1, r0, Option.bind_some]
    exact hy
  have hnone : ∀ (J : gI) (i : Nat), Fs lK H1 J → (∀ a, a ≠ 92 → J a = J0 a) → 1 ≤ i → i ≤ 4 → (∀ x, x < p ^ i → ¬ ∀ m, m < l → Y i m + sm i (fun j => nk (dig p x j) * Y j m) = 0) → ∃ y, (iter (σ := Int32 × gI) (ρ := (gI) ⊕ (Int32 × gI)) (fun z12 => (if nI (p ^ i) ≤ z12.1 then some (.inr (.inl z12.2)) else ((f_X12_figures N z12.2 R S z12.1 92).bind (fun z14 => ((iter (σ := Int32 × Int32) (ρ := Int32) (fun z15 => (if nI l ≤ z15.2 then some (.inr z15.1) else (if z15.1 = 0 then some (.inr z15.1) else if (((4 : Int32) * nI i) + z15.2) < 0 ∨ 20 ≤ (((4 : Int32) * nI i) + z15.2).toNatClampNeg then none else ((iter (σ := Int32 × Int32) (ρ := Int32) (fun z17 => (if nI i ≤ z17.2 then some (.inr z17.1) else if z17.2 < 0 ∨ 16 ≤ z17.2.toNatClampNeg then none else if (((4 : Int32) * z17.2) + z15.2) < 0 ∨ 20 ≤ (((4 : Int32) * z17.2) + z15.2).toNatClampNeg then none else ((f_X12_times N z14.2 R S (z14.2 92 z17.2.toNatClampNeg) (z14.2 112 (((4 : Int32) * z17.2) + z15.2).toNatClampNeg)).bind (fun z19 => ((f_X12_add N z14.2 R S z17.1 z19).bind (fun z20 => some (.inl (z20, z17.2 + 1)))))))) N (z14.2 112 (((4 : Int32) * nI i) + z15.2).toNatClampNeg, (0 : Int32))).bind (fun r18 => (if r18 = 0 then some (.inl ((1 : Int32), z15.2 + 1)) else some (.inl ((0 : Int32), z15.2 + 1)))))))) N ((1 : Int32), (0 : Int32))).bind (fun r16 => (if r16 = 0 then some (.inl (z12.1 + 1, z14.2)) else ((f_X12_act N z14.2 R S (nI w) (nI (p ^ i) + z12.1)).bind (fun z21 => ((f_X12_divide N z21 R S (nI l)).bind (fun z22 => (if a4 = (-2 : Int32) then some (.inr (.inr (nI (p ^ i) + z12.1, z22))) else (if a4 = (-1 : Int32) then ((f_X12_lengthOf N z22 R S 105).bind (fun z23 => some (.inr (.inr (z23, z22))))) else (if a4 ≤ (23 : Int32) then if a4 < 0 ∨ 24 ≤ a4.toNatClampNeg then none else some (.inr (.inr (z22 105 a4.toNatClampNeg, z22))) else some (.inr (.inr ((0 : Int32), z22))))))))))))))))) N ((0 : Int32), J)) = some y ∧ ∃ J2, y = .inl J2 ∧ Fs lK H1 J2 ∧ ∀ a, a ≠ 92 → J2 a = J0 a := by
    intro J i hJ hJ0 hi1 hi4 hno
    have hpk := pow_le7 (i := i) hp.2 (by omega)
    have hpk6 : p ^ i ≤ 625 := Nat.le_trans (Nat.pow_le_pow_left hp.2 i) (Nat.le_trans (Nat.pow_le_pow_right (by omega) hi4) (by decide))
    refine iter_wp (fun x z => ∃ J, z = (nI x, J) ∧ x ≤ p ^ i ∧ Fs lK H1 J ∧ ∀ a, a ≠ 92 → J a = J0 a) _ (p ^ i) ⟨J, by rw [nI_0], by omega, hJ, hJ0⟩ ?_ (by omega)
    rintro x _ hx ⟨J1, rfl, hxp, hJ1, hJ10⟩
    dsimp only
    by_cases he : x = p ^ i
    · rw [gle_t (by omega) (by omega)]
      exact .inr ⟨_, rfl, J1, rfl, hJ1, hJ10⟩
    · refine .inl ?_
      obtain ⟨J2, b1, b2, b3, b4⟩ := hdeg J1 i hJ1 hJ10 hi1 hi4 x (by omega)
      obtain ⟨y, y1, y2⟩ := m_flagB (N := N) (R := R) (S := S) (i := i) (x := x) hR (MH_fs hM1 b2 (by decide) (by decide) (by decide)) hl hi4 b4 (fun e m he hm => by rw [b3 112 (by decide)]; exact r2 e m he hm) (by omega)
      rw [gle_f (by omega) (by omega), b1, Option.bind_some, y1, Option.bind_some]
      rcases y2 with ⟨rfl, h⟩ | ⟨rfl, h⟩
      · exact absurd h (hno x (by omega))
      · rw [if_pos rfl, nI_1]
        exact ⟨_, rfl, by omega, J2.2, rfl, by omega, b2, b3⟩
  have hhit : ∀ (J : gI) (i c q rm L), Fs lK H1 J → (∀ a, a ≠ 92 → J a = J0 a) → 1 ≤ i → i ≤ 4 → Lr p n co Y l i c → Dv p l 24 u (ac p t (enc p i c + p ^ i) (i + 1)) q rm → L ≤ 24 → (∀ j, L ≤ j → j < 24 → q j = 0) → (0 < L → q (L - 1) ≠ 0) → ∃ y, (iter (σ := Int32 × gI) (ρ := (gI) ⊕ (Int32 × gI)) (fun z12 => (if nI (p ^ i) ≤ z12.1 then some (.inr (.inl z12.2)) else ((f_X12_figures N z12.2 R S z12.1 92).bind (fun z14 => ((iter (σ := Int32 × Int32) (ρ := Int32) (fun z15 => (if nI l ≤ z15.2 then some (.inr z15.1) else (if z15.1 = 0 then some (.inr z15.1) else if (((4 : Int32) * nI i) + z15.2) < 0 ∨ 20 ≤ (((4 : Int32) * nI i) + z15.2).toNatClampNeg then none else ((iter (σ := Int32 × Int32) (ρ := Int32) (fun z17 => (if nI i ≤ z17.2 then some (.inr z17.1) else if z17.2 < 0 ∨ 16 ≤ z17.2.toNatClampNeg then none else if (((4 : Int32) * z17.2) + z15.2) < 0 ∨ 20 ≤ (((4 : Int32) * z17.2) + z15.2).toNatClampNeg then none else ((f_X12_times N z14.2 R S (z14.2 92 z17.2.toNatClampNeg) (z14.2 112 (((4 : Int32) * z17.2) + z15.2).toNatClampNeg)).bind (fun z19 => ((f_X12_add N z14.2 R S z17.1 z19).bind (fun z20 => some (.inl (z20, z17.2 + 1)))))))) N (z14.2 112 (((4 : Int32) * nI i) + z15.2).toNatClampNeg, (0 : Int32))).bind (fun r18 => (if r18 = 0 then some (.inl ((1 : Int32), z15.2 + 1)) else some (.inl ((0 : Int32), z15.2 + 1)))))))) N ((1 : Int32), (0 : Int32))).bind (fun r16 => (if r16 = 0 then some (.inl (z12.1 + 1, z14.2)) else ((f_X12_act N z14.2 R S (nI w) (nI (p ^ i) + z12.1)).bind (fun z21 => ((f_X12_divide N z21 R S (nI l)).bind (fun z22 => (if a4 = (-2 : Int32) then some (.inr (.inr (nI (p ^ i) + z12.1, z22))) else (if a4 = (-1 : Int32) then ((f_X12_lengthOf N z22 R S 105).bind (fun z23 => some (.inr (.inr (z23, z22))))) else (if a4 ≤ (23 : Int32) then if a4 < 0 ∨ 24 ≤ a4.toNatClampNeg then none else some (.inr (.inr (z22 105 a4.toNatClampNeg, z22))) else some (.inr (.inr ((0 : Int32), z22))))))))))))))))) N ((0 : Int32), J)) = some y ∧ ∃ J2, y = .inr (ansB co (enc p i c + p ^ i) q L a4, J2) ∧ Fs lK H1 J2 := by
    intro J i c q rm L hJ hJ0 hi1 hi4 hL hD hL24 hq0 hqL
    have hpk6 : p ^ i ≤ 625 := Nat.le_trans (Nat.pow_le_pow_left hp.2 i) (Nat.le_trans (Nat.pow_le_pow_right (by omega) hi4) (by decide))
    have hck := enc_lt (p := p) (n := i) (f := c) (fun j _ => hL.1 j)
    refine iter_wp (fun x z => ∃ J, z = (nI x, J) ∧ x ≤ enc p i c ∧ Fs lK H1 J ∧ ∀ a, a ≠ 92 → J a = J0 a) _ (enc p i c) ⟨J, by rw [nI_0], by omega, hJ, hJ0⟩ ?_ (by omega)
    rintro x _ hx ⟨J1, rfl, hxp, hJ1, hJ10⟩
    dsimp only
    obtain ⟨J2, b1, b2, b3, b4⟩ := hdeg J1 i hJ1 hJ10 hi1 hi4 x (by omega)
    obtain ⟨y, y1, y2⟩ := m_flagB (N := N) (R := R) (S := S) (i := i) (x := x) hR (MH_fs hM1 b2 (by decide) (by decide) (by decide)) hl hi4 b4 (fun e m he hm => by rw [b3 112 (by decide)]; exact r2 e m he hm) (by omega)
    rw [gle_f (by omega) (by omega), b1, Option.bind_some, y1, Option.bind_some]
    rcases y2 with ⟨rfl, h⟩ | ⟨rfl, h⟩
    · have h2 := Lr_uniq hR hL (fun j _ => dig_lt (by omega) x j) h
      have h3 : enc p i c = x := by
        rw [← enc_congr h2]; exact enc_dig (by omega)
      obtain ⟨J3, f1, f2⟩ := hfin J2.2 i c q rm L hi1 hi4 hL hD hL24 hq0 hqL b2
      rw [h3] at f1
      rw [if_neg (by decide), f1]
      exact .inr ⟨_, rfl, J3, by rw [h3], f2⟩
    · rw [if_pos rfl, nI_1]
      refine .inl ⟨_, rfl, ?_, J2.2, rfl, ?_, b2, b3⟩
      all_goals
        have hne2 : x ≠ enc p i c := fun e => h (fun m hm => by
          rw [← hL.2.1 m hm]
          congr 1
          refine sm_congr (fun j hj => ?_)
          rw [e, dig_enc (fun o _ => hL.1 o) hj])
        omega
  constructor
  · intro k c q rm L hk1 hk4 hL hD hL24 hq0 hqL
    refine hrun _ (iter_wpe2 (fun i s => ∃ J, s = (nI (i + 1), J) ∧ i + 1 ≤ k ∧ Fs lK H1 J ∧ ∀ a, a ≠ 92 → J a = J0 a) 4 ⟨J0, rfl, by omega, r1, fun _ _ => rfl⟩ ?_ (show 4 < N by omega))
    · rintro i _ hi ⟨J, rfl, hik, hJ, hJ0⟩
      have hMJ := MH_fs hM1 hJ (by decide) (by decide) (by decide)
      rw [show (5 : Int32) = nI 5 from rfl]
      dsimp only
      rw [gle_f (by omega) (by omega), hMJ.1, m_power (by omega) (by omega), Option.bind_some]
      by_cases he : i + 1 = k
      · subst he
        obtain ⟨y, y1, J2, y2, y3⟩ := hhit J (i + 1) c q rm L hJ hJ0 (by omega) hk4 hL hD hL24 hq0 hqL
        rw [y1, Option.bind_some, y2]
        exact .inr ⟨_, rfl, J2, rfl, y3⟩
      · obtain ⟨y, y1, J2, y2, y3, y4⟩ := hnone J (i + 1) hJ hJ0 (by omega) (by omega) (fun x hx => Lr_min (c := c) hR hL.2.2 (by omega) _)
        rw [y1, Option.bind_some, y2]
        exact .inl ⟨_, rfl, by omega, J2, by rw [nI_1], by omega, y3, y4⟩
  · intro hKI
    refine hrun _ (iter_wpe2 (fun i s => ∃ J, s = (nI (i + 1), J) ∧ i + 1 ≤ 5 ∧ Fs lK H1 J ∧ ∀ a, a ≠ 92 → J a = J0 a) 4 ⟨J0, rfl, by omega, r1, fun _ _ => rfl⟩ ?_ (show 4 < N by omega))
    · rintro i _ hi ⟨J, rfl, hik, hJ, hJ0⟩
      have hMJ := MH_fs hM1 hJ (by decide) (by decide) (by decide)
      rw [show (5 : Int32) = nI 5 from rfl]
      dsimp only
      by_cases he : i + 1 = 5
      · rw [gle_t (by omega) (by omega)]
        exact .inr ⟨_, rfl, J, rfl, hJ⟩
      · rw [gle_f (by omega) (by omega), hMJ.1, m_power (by omega) (by omega), Option.bind_some]
        obtain ⟨y, y1, J2, y2, y3, y4⟩ := hnone J (i + 1) hJ hJ0 (by omega) (by omega) (fun x hx => Lr_min (c := fun _ => 0) hR hKI (by omega) _)
        rw [y1, Option.bind_some, y2]
        exact .inl ⟨_, rfl, by omega, J2, by rw [nI_1], by omega, y3, y4⟩
end MBack
