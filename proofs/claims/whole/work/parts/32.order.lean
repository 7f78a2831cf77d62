/-! the class: the relation that closes a point; ORDER -/
section Order
/-- only cells with P may differ -/
def Fp (P : Nat → Prop) (I J : gI) : Prop := ∀ a, ¬ P a → J a = I a
theorem Fp_refl (P : Nat → Prop) (I : gI) : Fp P I I := fun _ _ => rfl
theorem Fp.trans {P : Nat → Prop} {I J L : gI} (h1 : Fp P I J) (h2 : Fp P J L) : Fp P I L := fun a h => (h2 a h).trans (h1 a h)
theorem Fp.mono {P Q : Nat → Prop} {I J : gI} (h : Fp P I J) (hm : ∀ a, P a → Q a) : Fp Q I J := fun a ha => h a (fun z => ha (hm a z))
theorem Fp_Fs {P : Nat → Prop} {l : List Nat} {I J : gI} (h : Fs l I J) (hm : ∀ a, a ∈ l → P a) : Fp P I J := fun a ha => h a (fun z => ha (hm a z))
theorem Fp_Fr {P : Nat → Prop} {lo hi : Nat} {I J : gI} (h : Fr lo hi I J) (hm : ∀ a, lo ≤ a → a ≤ hi → P a) : Fp P I J := fun a ha => h a (by
  apply Classical.byContradiction
  intro z
  exact ha (hm a (by omega) (by omega)))
theorem Fp_Aw {P : Nat → Prop} {I : gI} {q L : Nat} {f : Nat → Int32} (h : P q) : Fp P I (Aw I q L f) := fun a ha => Aw_row (fun e => ha (e ▸ h))
theorem Fp_Wd {P : Nat → Prop} {I : gI} {q s L : Nat} {f : Nat → Int32} (h : P q) : Fp P I (Wd I q s L f) := fun a ha => Wd_row (fun e => ha (e ▸ h))
theorem Fp_gU {P : Nat → Prop} {I : gI} {q k : Nat} {v : Int32} (h : P q) : Fp P I (gU I q k v) := fun a ha => gU_cell I k v (fun e => ha (e ▸ h))
/-- SPAN's cells, point and next -/
def pS (a : Nat) : Prop := (17 ≤ a ∧ a ≤ 36) ∨ a = 71 ∨ a = 73
theorem s_relOf {K : Type} [Lean.Grind.CommRing K] {p n : Nat} {X : K} {co : K → Nat} {I : gI} {R : gR} {S : gS} {N r m0 : Nat} {t : Nat → K} {Z : (Nat → K) → Prop} (hR : RO K p n X co) (hF : FH p n X co I) (hIm : Im p n X co t r I) (hp2 : I 56 2 = nI p) (hn : I 56 3 = nI n) (hS : ∀ q, 6 ≤ q → q < 75 → S[q]? = layS[q]?) (hZ : Zc (1 * n) Z) (z : K) (hz : ∀ j, j < n → I 71 j = nI (dig p (co z) j)) (hI : SPI p (1 * n) m0 0 Z (Wv p n co (fun j _ => itT p (r + 1) t j z)) (fun _ => False) I) (hN : 60 ≤ N) :
    ∃ J k c, f_X0_relationOfPoint N I R S = some (nI (enc p k c + p ^ k), J) ∧ Fp pS I J ∧ m0 + k ≤ n ∧ (∀ j, c j < p) ∧ Z (fun i => Wv p n co (fun j _ => itT p (r + 1) t j z) k i + sm k (fun j => nk (c j) * Wv p n co (fun j _ => itT p (r + 1) t j z) j i)) ∧ KI (Wv p n co (fun j _ => itT p (r + 1) t j z)) (1 * n) k ∧ ∃ Rl, SPI p (1 * n) (m0 + k) (k + 1) Z (Wv p n co (fun j _ => itT p (r + 1) t j z)) Rl J := by
  have hp := RO_p hR
  have hn1 := hR.2.1
  have hn6 := hR.2.2.1
  have hS71 : S[71]? = some (12, 6) := hS 71 (by omega) (by omega)
  have hS73 : S[73]? = some (12, 6) := hS 73 (by omega) (by omega)
  have hS19 : S[19]? = some (12, 7) := hS 19 (by omega) (by omega)
  unfold f_X0_relationOfPoint
  have key : ∃ y, ((iter (σ := Int32 × Int32 × gI) (ρ := Int32 × gI) (fun z1 => (if (z1.2.2 56 3) < z1.2.1 then some (.inr (z1.1, z1.2.2)) else (if z1.1 = 0 then ((f_X6_putNumbers N z1.2.2 R S (0 : Int32) 71).bind (fun z3 => ((f_X6_feed N z3 R S).bind (fun z4 => ((f_X0_step N z4.2 R S 71).bind (fun z5 => some (.inl (z4.1, z1.2.1 + 1, z5)))))))) else some (.inr (z1.1, z1.2.2))))) N ((0 : Int32), (0 : Int32), I)).bind (fun r2 => some (r2.1, r2.2))) = some y ∧ ∃ J k c, y = (nI (enc p k c + p ^ k), J) ∧ Fp pS I J ∧ m0 + k ≤ n ∧ (∀ j, c j < p) ∧ Z (fun i => Wv p n co (fun j _ => itT p (r + 1) t j z) k i + sm k (fun j => nk (c j) * Wv p n co (fun j _ => itT p (r + 1) t j z) j i)) ∧ KI (Wv p n co (fun j _ => itT p (r + 1) t j z)) (1 * n) k ∧ ∃ Rl, SPI p (1 * n) (m0 + k) (k + 1) Z (Wv p n co (fun j _ => itT p (r + 1) t j z)) Rl J := by
    refine iter_wpe (fun i s => (∃ J, s = (0, nI i, J) ∧ Fp pS I J ∧ (∀ j, j < n → J 71 j = nI (dig p (co (itT p (r + 1) t i z)) j)) ∧ SPI p (1 * n) (m0 + i) i Z (Wv p n co (fun j _ => itT p (r + 1) t j z)) (fun _ => False) J) ∨ (∃ J k c x, s = (nI (enc p k c + p ^ k), x, J) ∧ Fp pS I J ∧ m0 + k ≤ n ∧ (∀ j, c j < p) ∧ Z (fun i => Wv p n co (fun j _ => itT p (r + 1) t j z) k i + sm k (fun j => nk (c j) * Wv p n co (fun j _ => itT p (r + 1) t j z) j i)) ∧ KI (Wv p n co (fun j _ => itT p (r + 1) t j z)) (1 * n) k ∧ ∃ Rl, SPI p (1 * n) (m0 + k) (k + 1) Z (Wv p n co (fun j _ => itT p (r + 1) t j z)) Rl J)) (n + 1) (.inl ⟨I, by rw [nI_0], Fp_refl _ _, hz, hI⟩) ?_ (by omega)
    rintro i _ hi (⟨J, rfl, hJ, hz1, hIJ⟩ | ⟨J, k, c, x, rfl, h1, h2, h3, h4, h5, h6⟩)
    · have hmw := SPI_mw hIJ
      have hw := SPI_w hIJ
      have hFJ : FH p n X co J := FH_of hF hn6 (fun a h1 h2 => hJ a (by unfold pS; omega))
      have e2 : J 56 2 = nI p := by rw [hJ 56 (by unfold pS; omega)]; exact hp2
      have e3 : J 56 3 = nI n := by rw [hJ 56 (by unfold pS; omega)]; exact hn
      refine .inl ?_
      dsimp only
      simp only [e3]
      rw [glt_f (show i ≤ n by omega) (by omega), if_pos trivial]
      have hpn := s_putNumbers (N := N) (R := R) (S := S) (s := 0) (q := 71) hn6 hFJ.1.1.2.1 hw.2.1 hw.2.2.1 (by omega) (by decide) (by rw [gLn_of hS71]; omega) (by rw [gLn_of hS71]; omega) (by omega)
      rw [nI_0] at hpn
      rw [hpn, Option.bind_some]
      obtain ⟨J2, q1, q2⟩ := feed_ok (N := N) (R := R) (S := S) (v := fun l => dig p (co ((fun j _ => itT p (r + 1) t j z) i (l / n))) (l % n)) hR hZ (SPI_of hIJ (J := Wd J 18 0 n (J 71)) (fun a ha => Wd_row (by omega))) (fun l hl => by rw [Wd_ne _ (by decide)]; exact hFJ.2.2.2.1 l hl) (by omega) (fun l hl => by
        have h1 := Wd_at (I := J) (q := 18) (s := 0) (n := n) (j := l) (F := J 71) (by omega)
        rw [Nat.zero_add] at h1
        rw [h1, Nat.mod_eq_of_lt (by omega)]
        exact hz1 l (by omega)) (fun l => dig_lt (by omega) _ _) (fun l hl => rfl) hS19 (by omega)
      have hJ2 : Fp pS I J2 := hJ.trans ((Fp_Wd (by unfold pS; omega)).trans (Fp_Fr q1 (fun a h1 h2 => by unfold pS; omega)))
      have hst : ∃ J3, f_X0_step N J2 R S 71 = some J3 ∧ Fs [73, 71] J2 J3 ∧ ∀ j, j < n → J3 71 j = nI (dig p (co (itT p (r + 1) t (i + 1) z)) j) := s_step hR (Im_of hIm hn6 (fun a h1 h2 => hJ2 a (by unfold pS; omega))) (by rw [hJ2 56 (by unfold pS; omega)]; exact hp2) (by rw [hJ2 56 (by unfold pS; omega)]; exact hn) hS73 (by decide) (by decide) hS71 (itT p (r + 1) t i z) (fun j hj => by rw [q1 71 (by omega), Wd_ne _ (by decide)]; exact hz1 j hj) hN
      obtain ⟨J3, w1, w2, w3⟩ := hst
      have hJ3 : Fp pS I J3 := hJ2.trans (Fp_Fs w2 (fun a ha => by
        simp only [List.mem_cons, List.mem_nil_iff, or_false] at ha
        unfold pS; omega))
      have hsp : ∀ a, a = 17 ∨ (21 ≤ a ∧ a ≤ 27) ∨ (29 ≤ a ∧ a ≤ 36) → J3 a = J2 a := fun a ha => w2 a (by
        simp only [List.mem_cons, List.mem_nil_iff, or_false]
        omega)
      rcases q2 with ⟨mx, m1, m2, m3, m4, m5, m6, m7⟩ | ⟨m6, m7⟩
      · rw [m6, Option.bind_some, w1, Option.bind_some]
        exact ⟨_, rfl, by omega, .inr ⟨J3, i, mx, _, by rw [enc_top m1], hJ3, by omega, m2, m5, SPI_KI hIJ, _, SPI_of m7 hsp⟩⟩
      · rw [m6, Option.bind_some, w1, Option.bind_some]
        have := SPI_mw m7
        refine ⟨_, rfl, by omega, .inl ⟨J3, by rw [nI_1], hJ3, w3, ?_⟩⟩
        rw [← Nat.add_assoc]
        exact SPI_rl (SPI_of m7 hsp) (fun j => ⟨fun z => z.2, fun z => z.elim⟩)
    · refine .inr ⟨(nI (enc p k c + p ^ k), J), ?_, _, rfl, J, k, c, rfl, h1, h2, h3, h4, h5, h6⟩
      dsimp only
      split
      · rfl
      · rw [g0_f (by have := Nat.pow_pos (n := k) (show 0 < p by omega); omega) (rel_31 hp.2 (by omega) h3)]
  obtain ⟨y, k1, J, k, c, k2, k3⟩ := key
  exact ⟨J, k, c, by rw [← k2]; exact k1, k3⟩
/-- the cells of SPAN and of Action -/
def pA (a : Nat) : Prop := (17 ≤ a ∧ a ≤ 36) ∨ (56 ≤ a ∧ a ≤ 74)
theorem s_orderOf {K : Type} [Lean.Grind.CommRing K] {p n : Nat} {X : K} {co : K → Nat} {I : gI} {R : gR} {S : gS} {N w r : Nat} {t : Nat → K} (hR : RO K p n X co) (hF : FH p n X co I) (hW : CW co I R S w r t) (hV : WV r t) (hA : Ad p n X co I R S) (h17 : I 17 1 = nI p) (hp2 : I 56 2 = nI p) (hn : I 56 3 = nI n) (hS : ∀ q, 6 ≤ q → q < 75 → S[q]? = layS[q]?) (hw : w < 100000) (hws : w < S.length) (z : K) (hN : 60 ≤ N) :
    ∃ J k c, f_X0_orderOf N I R S w (nI (co z)) = some (nI (enc p k c + p ^ k), J) ∧ Fp pA I J ∧ (∀ j, j ≠ 5 → J 56 j = I 56 j) ∧ J 17 1 = nI p ∧ Ad p n X co J R S ∧ k ≤ n ∧ Lr p n co (fun j _ => itT p (r + 1) t j z) 1 k c := by
  have hp := RO_p hR
  have hn1 := hR.2.1
  have hn6 := hR.2.2.1
  obtain ⟨J1, a1, a2, a3, a4, a5⟩ := s_actBy (N := N) hR hF hW hV hA hn hS hw hN
  have hJ1 : Fp pA I J1 := Fp_Fs a2 (fun a ha => by
    simp only [lA, List.mem_cons, List.mem_nil_iff, or_false] at ha
    unfold pA; omega)
  have hF1 : FH p n X co J1 := FH_of hF hn6 (fun a h1 h2 => hJ1 a (by unfold pA; omega))
  have hS71 : S[71]? = some (12, 6) := hS 71 (by omega) (by omega)
  have b1 := s_split (N := N) (R := R) (S := S) (q := 71) (e := co z) hF1.1.1.1 hF1.1.1.2.1 hp.1 hp.2 hn6 (by decide) (by rw [gLn_of hS71]; omega) (by rw [gLn_of hS71]; omega) (co_31 hR z) (by omega)
  obtain ⟨J2, c1, c2, c3⟩ := s_begin (K := K) (N := N) (R := R) (S := S) (I := Aw J1 71 n (fun j => nI (dig p (co z) j))) (Z := Z0 (1 * n)) (V := Wv p n co (fun j _ => itT p (r + 1) t j z)) (Rl := fun _ => False) (w := 1 * n) (show 0 < p by omega) (by rw [Aw_ne _ (by decide), a2 17 (by decide)]; exact h17) (by omega)
  rw [Nat.one_mul] at c1
  have e56 : J2 56 = J1 56 := by rw [c2 56 (by omega), Aw_row (by decide)]
  obtain ⟨J3, k, c, d1, d2, d3, d4, d5, d6, Rl, d7⟩ := s_relOf (N := N) (R := R) (S := S) hR (FH_of hF1 hn6 (fun a h1 h2 => by rw [c2 a (by omega), Aw_row (by omega)])) (Im_of a5 hn6 (fun a h1 h2 => by rw [c2 a (by omega), Aw_row (by omega)])) (by rw [e56, a3 _ (by decide)]; exact hp2) (by rw [e56, a3 _ (by decide)]; exact hn) hS (Z0_c _) z (fun j hj => by rw [c2 71 (by omega), Aw_at hj]) c3 hN
  have hfr : Fp pA I J3 := hJ1.trans ((Fp_Aw (by unfold pA; omega)).trans ((Fp_Fr c2 (fun a h1 h2 => by unfold pA; omega)).trans (d2.mono (fun a ha => by unfold pS at ha; unfold pA; omega))))
  have f56 : J3 56 = J1 56 := by rw [d2 56 (by unfold pS; omega)]; exact e56
  refine ⟨J3, k, c, ?_, hfr, fun j hj => by rw [f56]; exact a3 j hj, (SPI_w d7).1, Ad_mk hR (CW_of hW (fun a ha => hfr a (by unfold pA; omega))) hV (by rw [f56]; exact a4) (Im_of a5 hn6 (fun a h1 h2 => by rw [d2 a (by unfold pS; omega), c2 a (by omega), Aw_row (by omega)])) hws, by omega, d4, (Wv_rel hR).mp d5, d6⟩
  unfold f_X0_orderOf
  rw [if_pos hW.1, a1, Option.bind_some, b1, Option.bind_some]
  have e3 : Aw J1 71 n (fun j => nI (dig p (co z) j)) 56 3 = nI n := by rw [Aw_ne _ (by decide), a3 _ (by decide)]; exact hn
  rw [e3, c1, Option.bind_some, d1, Option.bind_some]
end Order
