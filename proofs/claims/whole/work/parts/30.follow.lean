/-! what a polynomial makes of an element: both sides -/
section Follow
/-- T, e times, of z -/
def itT {K : Type} [Lean.Grind.CommRing K] (p M : Nat) (t : Nat → K) : Nat → K → K
  | 0, z => z
  | e + 1, z => ev p M t (itT p M t e z)
def fa {K : Type} [Lean.Grind.CommRing K] (p M : Nat) (t : Nat → K) (a D : Nat) (z : K) : K := sm D (fun e => nk (dig p a e) * itT p M t e z)
theorem ev_tp {K : Type} [Lean.Grind.CommRing K] {p n : Nat} {X : K} {co : K → Nat} (hR : RO K p n X co) {t : Nat → K} {r : Nat} (ht : ∀ k, r < k → t k = 0) (hr : r ≤ 3) (z : K) {e : Nat} (he : e ≤ 6) : ev p 24 (tp p t e) z = itT p (r + 1) t e z := by
  induction e with
  | zero =>
    show ev p 24 d0 z = z
    unfold ev
    rw [sm_one (k := 0) (by omega) (fun i _ hi => by rw [d0_ne hi]; grind), d0_0, Nat.pow_zero, Lean.Grind.Semiring.pow_one]; grind
  | succ e ih =>
    have h1 := Nat.mul_le_mul hr (show e ≤ 5 by omega)
    rw [tp, ev_cmp hR (A := r + 1) (B := r * e + 1) (fun k hk => ht k (by omega)) (fun k hk => tp_deg hR ht e k (by omega)) (by omega), itT, ← ih (by omega), ev_ext (M := 24) (A := r * e + 1) z (by omega) (fun k hk => tp_deg hR ht e k (by omega))]
theorem ev_ac {K : Type} [Lean.Grind.CommRing K] {p n : Nat} {X : K} {co : K → Nat} (hR : RO K p n X co) {t : Nat → K} {r : Nat} (ht : ∀ k, r < k → t k = 0) (hr : r ≤ 3) (a : Nat) (z : K) {D : Nat} (hD : D ≤ 7) : ev p 24 (ac p t a D) z = fa p (r + 1) t a D z := by
  unfold fa ac ev
  have e1 : ∀ k, k < 24 → sm D (fun e => nk (dig p a e) * tp p t e k) * z ^ (p ^ k) = sm D (fun e => nk (dig p a e) * (tp p t e k * z ^ (p ^ k))) := fun k _ => by
    rw [← sm_mulR]
    exact sm_congr (fun e _ => by grind)
  rw [sm_congr e1, sm_comm]
  refine sm_congr (fun e he => ?_)
  rw [sm_mulL, ← ev_tp hR ht hr z (show e ≤ 6 by omega)]
  rfl
theorem dig_plus {K : Type} [Lean.Grind.CommRing K] {p n : Nat} {X : K} {co : K → Nat} (hR : RO K p n X co) (y z : K) (c : Nat) {j : Nat} (hj : j < n) : (dig p (co y) j + c * dig p (co z) j) % p = dig p (co (y + nk c * z)) j := by
  have hp := RO_p hR
  refine nk_inj hR (Nat.mod_lt _ (by omega)) (dig_lt (by omega) _ _) ?_
  rw [nk_mod (RO_z hR), nk_add, nk_mul]
  have := dk_add hR hj y (nk c * z)
  rw [dk_nk hR hj] at this
  exact this.symm
theorem s_follow {K : Type} [Lean.Grind.CommRing K] {p n : Nat} {X : K} {co : K → Nat} {I : gI} {R : gR} {S : gS} {N r a D : Nat} {t : Nat → K} (hR : RO K p n X co) (hF : FH p n X co I) (hIm : Im p n X co t r I) (hp2 : I 56 2 = nI p) (hn : I 56 3 = nI n) (hS71 : S[71]? = some (12, 6)) (hS73 : S[73]? = some (12, 6)) (ha : a < 2147483648) (hD : Ln p a D) (hD7 : D ≤ 7) (z : K) (hz : ∀ j, j < n → I 72 j = nI (dig p (co z) j)) (hN : 60 ≤ N) :
    ∃ J, f_X0_follow N I R S (nI a) = some J ∧ Fs [71, 73] I J ∧ ∀ j, j < n → J 71 j = nI (dig p (co (fa p (r + 1) t a D z)) j) := by
  have hp := RO_p hR
  have hn1 := hR.2.1
  have hn6 := hR.2.2.1
  unfold f_X0_follow
  rw [s_fill hS71 (by omega) (by omega), Option.bind_some, s_degreeOf (fun i hi => by rw [Aw_ne _ (by decide)]; exact hF.2.2.2.1 i hi) hp.1 hp.2 ha hD hD7 (by omega), Option.bind_some]
  refine iter_wpe (fun x s => ∃ J, s = (nI (D - x) - 1, J) ∧ Fs [71, 73] I J ∧ ∀ j, j < n → J 71 j = nI (dig p (co (sm x (fun e => nk (dig p a (D - x + e)) * itT p (r + 1) t e z))) j)) D ⟨_, rfl, Fs_Aw (by decide), fun j hj => ?_⟩ ?_ (by omega)
  · rw [Aw_at (by omega), sm_zero, RO_0 hR]
    have : dig p 0 j = 0 := by unfold dig; rw [Nat.zero_div, Nat.zero_mod]
    rw [this, nI_0]
  · rintro x _ hx ⟨J, rfl, c1, c2⟩
    dsimp only
    by_cases hxD : x = D
    · subst hxD
      refine .inr ⟨J, ?_, J, rfl, c1, ?_⟩
      · rw [Nat.sub_self]; exact dn0
      · rw [Nat.sub_self] at c2
        simp only [Nat.zero_add] at c2
        exact c2
    · refine .inl ?_
      have hIm1 : Im p n X co t r J := fun i j hi hj => by
        rw [c1 (58 + i) (by simp only [List.mem_cons, List.mem_nil_iff, or_false]; omega)]; exact hIm i j hi hj
      have q2 : J 56 2 = nI p := by rw [c1 56 (by decide)]; exact hp2
      have q3 : J 56 3 = nI n := by rw [c1 56 (by decide)]; exact hn
      obtain ⟨J2, d1, d2, d3⟩ := s_step (N := N) (R := R) (S := S) (q := 71) hR hIm1 q2 q3 hS73 (by decide) (by decide) hS71 _ c2 hN
      have hJ2 : Fs [71, 73] I J2 := c1.trans (d2.mono (by decide))
      rw [dn1 (D - x) (by omega), gn_f (by omega), d1, Option.bind_some, s_numberAt (p := p) (by rw [hJ2 6 (by decide)]; exact hF.1.1.1) (by rw [hJ2 7 (by decide)]; exact hF.2.2.2.1) hp.1 hp.2 (by omega) ha, Option.bind_some]
      have hdl := dig_lt (show 0 < p by omega) a (D - x - 1)
      refine ⟨(nI (D - (x + 1)) - 1, Aw J2 71 n (fun j => nI (dig p (co (ev p (r + 1) t (sm x (fun e => nk (dig p a (D - x + e)) * itT p (r + 1) t e z)) + nk (dig p a (D - x - 1)) * z)) j))), ?_, by omega, _, rfl, hJ2.trans (Fs_Aw (by decide)), ?_⟩
      · have k1 : ∀ (F : Nat → Int32) a j, a ≠ 71 → Aw J2 71 n F a j = J2 a j := fun F a j h => Aw_ne j h
        have e2 : J2 56 2 = nI p := by rw [hJ2 56 (by decide)]; exact hp2
        have e3 : J2 56 3 = nI n := by rw [hJ2 56 (by decide)]; exact hn
        have e72 : ∀ j, j < n → J2 72 j = nI (dig p (co z) j) := fun j hj => by rw [hJ2 72 (by decide)]; exact hz j hj
        generalize ev p (r + 1) t (sm x (fun e => nk (dig p a (D - x + e)) * itT p (r + 1) t e z)) = y at *
        generalize dig p a (D - x - 1) = c at *
        refine iter_bind (fun i => (nI i, Aw J2 71 n (fun j => if j < i then nI (dig p (co (y + nk c * z)) j) else nI (dig p (co y) j)))) n (Aw J2 71 n (fun j => nI (dig p (co (y + nk c * z)) j))) ?_ ?_ ?_ (by omega) ?_
        · rw [nI_0]
          congr 1
          exact (Aw_same (fun j hj => by rw [if_neg (by omega), d3 j hj])).symm
        · intro i hi
          have b1 := dig_lt (show 0 < p by omega) (co y) i
          have b2 := Nat.mul_le_mul (show c ≤ 4 by omega) (show dig p (co z) i ≤ 4 by have := dig_lt (show 0 < p by omega) (co z) i; omega)
          simp (disch := omega) only [k1, e2, e3, e72, gle_f, nI_clamp, gin2, gnz, Aw_at, nI_1]
          rw [if_neg (Nat.lt_irrefl i)]
          simp (disch := omega) only [pk_mul, nI_add, pk_div, pk_rem2, Aw_up]
          rw [dig_plus hR y z c hi]
          congr 4
          funext m
          by_cases e : m = i
          · rw [if_pos e, if_pos (by omega), e]
          · rw [if_neg e]
            by_cases e2 : m < i
            · rw [if_pos e2, if_pos (by omega)]
            · rw [if_neg e2, if_neg (by omega)]
        · simp (disch := omega) only [k1, e3, gle_t]
          congr 2
          exact Aw_congr (fun j hj => if_pos hj)
        · rw [dn2, show D - (x + 1) = D - x - 1 by omega]
      · intro j hj
        rw [Aw_at hj]
        congr 3
        rw [sm_first, ev_sm hR]
        have e1 : sm x (fun i => nk (dig p a (D - (x + 1) + (i + 1))) * itT p (r + 1) t (i + 1) z) = sm x (fun i => nk (dig p a (D - x + i)) * ev p (r + 1) t (itT p (r + 1) t i z)) := sm_congr (fun i hi => by
          rw [show D - (x + 1) + (i + 1) = D - x + i by omega]; rfl)
        rw [e1, show D - (x + 1) + 0 = D - x - 1 by omega]
        exact Lean.Grind.Semiring.add_comm _ _
theorem CW_r {K : Type} [Lean.Grind.CommRing K] {co : K → Nat} {I : gI} {R : gR} {S : gS} {w r r' : Nat} {t t' : Nat → K} (h : CW co I R S w r t) (h' : CW co I R S w r' t') (hV : WV r t) (hV' : WV r' t') : r = r' := by
  have h1 := h.2.2.2.2.symm.trans h'.2.2.2.2
  exact (nI_eq (by have := hV.2.1; omega) (by have := hV'.2.1; omega)).mp h1
theorem Ad_mk {K : Type} [Lean.Grind.CommRing K] {p n : Nat} {X : K} {co : K → Nat} (hR : RO K p n X co) {I : gI} {R : gR} {S : gS} {w r : Nat} {t : Nat → K} (hW : CW co I R S w r t) (hV : WV r t) (hd : gdec (I 56 5) = some w) (hI : Im p n X co t r I) (hw : w < S.length) : Ad p n X co I R S := by
  intro w' hw'
  rw [hd] at hw'
  cases hw'
  refine ⟨hw, hW.1, fun r' t' hW' hV' => ?_⟩
  rw [← CW_uniq hR hW hW' hV hV', ← CW_r hW hW' hV hV']; exact hI
theorem Im_of {K : Type} [Lean.Grind.CommRing K] {p n : Nat} {X : K} {co : K → Nat} {t : Nat → K} {r : Nat} {I J : gI} (h : Im p n X co t r I) (hn6 : n ≤ 6) (hJ : ∀ a, 58 ≤ a → a ≤ 63 → J a = I a) : Im p n X co t r J := fun i j hi hj => by
  rw [hJ (58 + i) (by omega) (by omega)]; exact h i j hi hj
theorem Ad_of {K : Type} [Lean.Grind.CommRing K] {p n : Nat} {X : K} {co : K → Nat} {I J : gI} {R : gR} {S : gS} (h : Ad p n X co I R S) (hn6 : n ≤ 6) (h1 : J 56 5 = I 56 5) (h3 : ∀ a, 58 ≤ a → a ≤ 63 → J a = I a) (h4 : ∀ a, 114 ≤ a → J a = I a) : Ad p n X co J R S := by
  intro w hw
  rw [h1] at hw
  obtain ⟨a1, a3, a2⟩ := h w hw
  exact ⟨a1, a3, fun r t hW hV => Im_of (a2 r t (CW_of hW (fun a ha => (h4 a ha).symm)) hV) hn6 h3⟩
def lB : List Nat := [56, 58, 59, 60, 61, 62, 63, 71, 72, 73]
theorem s_imageOf {K : Type} [Lean.Grind.CommRing K] {p n : Nat} {X : K} {co : K → Nat} {I : gI} {R : gR} {S : gS} {N w r a D : Nat} {t : Nat → K} (hR : RO K p n X co) (hF : FH p n X co I) (hW : CW co I R S w r t) (hV : WV r t) (hA : Ad p n X co I R S) (hp2 : I 56 2 = nI p) (hn : I 56 3 = nI n) (hS : ∀ q, 6 ≤ q → q < 75 → S[q]? = layS[q]?) (hw : w < 100000) (hws : w < S.length) (ha : a < 2147483648) (hD : Ln p a D) (hD7 : D ≤ 7) (z : K) (hN : 60 ≤ N) :
    ∃ J, f_X0_imageOf N I R S w (nI a) (nI (co z)) = some (nI (co (fa p (r + 1) t a D z)), J) ∧ Fs lB I J ∧ (∀ j, j ≠ 5 → J 56 j = I 56 j) ∧ Ad p n X co J R S := by
  have hp := RO_p hR
  have hn1 := hR.2.1
  have hn6 := hR.2.2.1
  obtain ⟨J1, a1, a2, a3, a4, a5⟩ := s_actBy (N := N) hR hF hW hV hA hn hS hw hN
  have hF1 : FH p n X co J1 := FH_of hF hn6 (fun a h1 h2 => a2 a (by
    intro z
    simp only [lA, List.mem_cons, List.mem_nil_iff, or_false] at z
    omega))
  have hS72 : S[72]? = some (12, 6) := hS 72 (by omega) (by omega)
  have hS71 : S[71]? = some (12, 6) := hS 71 (by omega) (by omega)
  have hS73 : S[73]? = some (12, 6) := hS 73 (by omega) (by omega)
  have b1 := s_split (N := N) (R := R) (S := S) (q := 72) (e := co z) hF1.1.1.1 hF1.1.1.2.1 hp.1 hp.2 hn6 (by decide) (by rw [gLn_of hS72]; omega) (by rw [gLn_of hS72]; omega) (co_31 hR z) (by omega)
  have hF2 : FH p n X co (Aw J1 72 n (fun j => nI (dig p (co z) j))) := FH_of hF1 hn6 (fun a h1 h2 => Aw_row (by omega))
  obtain ⟨J3, c1, c2, c3⟩ := s_follow (N := N) (R := R) (S := S) hR hF2 (Im_of a5 hn6 (fun a h1 h2 => Aw_row (by omega))) (by rw [Aw_ne _ (by decide), a3 _ (by decide)]; exact hp2) (by rw [Aw_ne _ (by decide), a3 _ (by decide)]; exact hn) hS71 hS73 ha hD hD7 z (fun j hj => Aw_at hj) hN
  have hfr : Fs lB I J3 := (a2.mono (by decide)).trans ((Fs_Aw (by decide)).trans (c2.mono (by decide)))
  have h56 : J3 56 = J1 56 := by rw [c2 56 (by decide), Aw_row (by decide)]
  refine ⟨J3, ?_, hfr, fun j hj => by rw [h56]; exact a3 j hj, Ad_mk hR (CW_fs hW hfr (by decide)) hV (by rw [h56]; exact a4) (Im_of a5 hn6 (fun a h1 h2 => by
    rw [c2 a (by simp only [List.mem_cons, List.mem_nil_iff, or_false]; omega), Aw_row (by omega)])) hws⟩
  unfold f_X0_imageOf
  rw [if_pos hW.1, a1, Option.bind_some, b1, Option.bind_some, c1, Option.bind_some, s_packed (p := p) (n := n) (d := dig p (co (fa p (r + 1) t a D z))) (by rw [hfr 6 (by decide)]; exact hF.1.1.1) (by rw [hfr 6 (by decide)]; exact hF.1.1.2.1) hn6 c3 (by rw [gLn_of hS71]; omega) (by rw [gLn_of hS71]; omega) (by omega), Option.bind_some, enc_dig (RO_lt hR _)]
end Follow
