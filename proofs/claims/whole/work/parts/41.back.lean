/-! BACK: the class -/
section Back
theorem Dv_ex {K : Type} [Lean.Grind.CommRing K] {p n : Nat} {X : K} {co : K → Nat} (hR : RO K p n X co) {l : Nat} {u : Nat → K} (hul : u l ≠ 0) (hu0 : ∀ k, l < k → u k = 0) (T : Nat) (s : Nat → K) (hs : ∀ k, T + l ≤ k → s k = 0) : ∃ q rm, Dv p l T u s q rm := by
  have hcz : ∀ k, cmp p (fun _ => (0 : K)) u k = 0 := fun k => sm_0 (fun i _ => by grind)
  have h : ∀ x, x ≤ T → ∃ q rm : Nat → K, (∀ k, s k = cmp p q u k + rm k) ∧ (∀ k, T - x + l ≤ k → rm k = 0) ∧ ∀ k, T ≤ k → q k = 0 := by
    intro x
    induction x with
    | zero => intro _; exact ⟨fun _ => 0, s, fun k => by rw [hcz]; grind, fun k hk => hs k (by omega), fun _ _ => rfl⟩
    | succ x ih =>
      intro hx
      obtain ⟨q, rm, a1, a2, a3⟩ := ih (by omega)
      have h1 := inv_ok hR (frk_ne hR hul (p ^ (T - x - 1)))
      obtain ⟨d1, d2⟩ := Dv_step hR (k := T - x - 1) (c := rm (T - x - 1 + l) * (u l ^ (p ^ (T - x - 1))) ^ (p ^ n - 2)) hu0 a1 (fun m hm => a2 m (by omega)) (by
        generalize (u l ^ (p ^ (T - x - 1))) ^ (p ^ n - 2) = e at *
        generalize u l ^ (p ^ (T - x - 1)) = f at *
        grind)
      exact ⟨_, _, d1, fun k hk => d2 k (by omega), fun k hk => by rw [if_neg (by omega)]; exact a3 k hk⟩
  obtain ⟨q, rm, a1, a2, a3⟩ := h T (Nat.le_refl T)
  exact ⟨q, rm, a1, fun k hk => a2 k (by omega), a3⟩
theorem Dv_sm {K : Type} [Lean.Grind.CommRing K] {p l m E : Nat} {u : Nat → K} {s q rm : Nat → Nat → K} (c : Nat → Nat) (h : ∀ e, e < m → Dv p l E u (s e) (q e) (rm e)) : Dv p l E u (fun k => sm m (fun e => nk (c e) * s e k)) (fun k => sm m (fun e => nk (c e) * q e k)) (fun k => sm m (fun e => nk (c e) * rm e k)) := by
  refine ⟨fun k => ?_, fun k hk => sm_0 (fun e he => by rw [(h e he).2.1 k hk]; grind), fun k hk => sm_0 (fun e he => by rw [(h e he).2.2 k hk]; grind)⟩
  rw [cmp_sm, ← sm_add]
  exact sm_congr (fun e he => by rw [(h e he).1 k]; grind)
theorem Dv_mono {K : Type} [Lean.Grind.CommRing K] {p l E E' : Nat} {u s q rm : Nat → K} (h : Dv p l E u s q rm) (hE : E ≤ E') : Dv p l E' u s q rm := ⟨h.1, h.2.1, fun k hk => h.2.2 k (by omega)⟩
/-- the cells of SPAN and of Sums -/
def pB (a : Nat) : Prop := 17 ≤ a ∧ a ≤ 55
def lP : List Nat := [37, 39, 40, 41, 42, 43, 44, 45, 46, 54, 55]
theorem s_divideSumOf {K : Type} [Lean.Grind.CommRing K] {p n : Nat} {X : K} {co : K → Nat} {I : gI} {R : gR} {S : gS} {N w r a D l : Nat} {t u : Nat → K} (hR : RO K p n X co) (hF : FH p n X co I) (hW : CW co I R S w r t) (hV : WV r t) (hP : Pd p co I R S) (h37 : I 37 2 = nI n) (hS : ∀ q, 6 ≤ q → q < 56 → S[q]? = layS[q]?) (hw : w < 100000) (hws : w < S.length) (ha : a < 2147483648) (hD : Ln p a (D + 1)) (hD7 : D ≤ 6) (hl : l ≤ 4) (hul : u l ≠ 0) (hu0 : ∀ k, l < k → u k = 0) (hrow : ∀ i, i < n → (∀ j, j ≤ l → I (48 + i) j = nI (co (u j ^ (p ^ i)))) ∧ I (48 + i) 5 = nI (co ((u l ^ (p ^ n - 2)) ^ (p ^ i)))) (hN : 60 ≤ N) :
    ∃ J, f_X8_divideSumOf N I R S w (nI a) (nI l) = some J ∧ Fs lP I J ∧ (∀ j, j ≠ 4 → j ≠ 5 → J 37 j = I 37 j) ∧ Pd p co J R S ∧ ∃ q rm, (∀ k, k < 19 → J 55 k = nI (co (q k))) ∧ (∀ k, k < 19 → J 54 k = nI (co (rm k))) ∧ Dv p l (r * D + 1 - l) u (ac p t a (D + 1)) q rm := by
  have hp := RO_p hR
  obtain ⟨J1, h, e1, e2, e3, e4, e5, e6⟩ := s_raisePowers (N := N) (D := D + 1) hR hF hW hV hP hS hw (by omega) hN
  have hF1 : FH p n X co J1 := FH_of hF hR.2.2.1 (fun a h1 h2 => e2 a (by
    simp only [List.mem_cons, List.mem_nil_iff, or_false]
    omega))
  have hrd : r * D ≤ 18 := Nat.mul_le_mul hV.2.1 hD7
  have hac := (ac_deg hR hV.2.2.2 hV.2.2.1 (by have := hV.1; omega) hD).1
  have hext : ac p t a (h + 1) = ac p t a (D + 1) := ac_ext (by omega) hD.1 (by omega)
  have hFA : ∀ (F : Nat → Int32), FH p n X co (Aw J1 54 19 F) := fun F => FH_of hF1 hR.2.2.1 (fun a h1 h2 => Aw_row (by omega))
  have hPA : ∀ (F : Nat → Int32), Pw p co t h (Aw J1 54 19 F) := fun F => ⟨e6.1, by rw [Aw_ne _ (by decide)]; exact e6.2.1, fun j k hj hk => by rw [Aw_ne _ (by have := e6.1; omega)]; exact e6.2.2 j k hj hk⟩
  obtain ⟨J3, d1, d2, q, rm, d3, d4, d5⟩ := s_divide (N := N) (R := R) (S := S) (la := r * D) (u := u) (s := ac p t a (D + 1)) (I := Aw J1 54 19 (fun k => if k < r * D + 1 then nI (co (ac p t a (D + 1) k)) else 0)) hR (hFA _) (by rw [Aw_ne _ (by decide), e3 2 (by decide) (by decide)]; exact h37) (hS 55 (by omega) (by omega)) hl hrd hul hu0 (fun i hi => by
    rw [Aw_row (by have := hR.2.2.1; omega), e2 (48 + i) (by simp only [List.mem_cons, List.mem_nil_iff, or_false]; omega)]
    exact hrow i hi) (fun k hk => by
    rw [Aw_at hk]
    by_cases hk2 : k < r * D + 1
    · rw [if_pos hk2]
    · rw [if_neg hk2, hac k (by omega), RO_0 hR, nI_0]) hac hN
  have hfr : Fs lP I J3 := (e2.mono (by decide)).trans ((Fs_Aw (by decide)).trans (d2.mono (by decide)))
  have f37 : J3 37 = J1 37 := by rw [d2 37 (by decide), Aw_row (by decide)]
  refine ⟨J3, ?_, hfr, fun j h4 h5 => by rw [f37]; exact e3 j h4 h5, Pd_mk (r := r) (t := t) (h := h) hR (CW_fs hW hfr (by decide)) hV (by rw [f37]; exact e4) ⟨e6.1, by rw [f37]; exact e6.2.1, fun j k hj hk => by
    have := e6.1
    rw [d2 (39 + j) (by simp only [List.mem_cons, List.mem_nil_iff, or_false]; omega), Aw_row (by omega)]; exact e6.2.2 j k hj hk⟩ hws, q, rm, d3, d4, d5⟩
  unfold f_X8_divideSumOf
  rw [if_pos hW.1, s_lengthOf hR hF hW ha hD (by omega) hV.2.1 hN, Option.bind_some, if_neg (by omega), Nat.add_sub_cancel, s_degreeOf hF.2.2.2.1 hp.1 hp.2 ha hD (by omega) (by omega), Option.bind_some, e1, Option.bind_some, s_fill (hS 54 (by omega) (by omega)) (by omega) (by omega), Option.bind_some]
  refine iter_bind (fun k => (nI k, Aw J1 54 19 (fun j => if j < k then nI (co (ac p t a (D + 1) j)) else 0))) (r * D + 1) (Aw J1 54 19 (fun k => if k < r * D + 1 then nI (co (ac p t a (D + 1) k)) else 0)) ?_ ?_ ?_ (by omega) ?_
  · rw [nI_0]
    congr 1
  · intro k hk
    dsimp only
    rw [glt_f (by omega) (by omega), s_mixed hR (hFA _) (hPA _) ha (by omega) hN, Option.bind_some, nI_clamp (by omega), gin2 (by omega) (by omega), hext, nI_1]
    dsimp only
    rw [Aw_up (by omega)]
    congr 4
    funext j
    by_cases e : j = k
    · rw [if_pos e, if_pos (by omega), e]
    · rw [if_neg e]
      by_cases e2 : j < k
      · rw [if_pos e2, if_pos (by omega)]
      · rw [if_neg e2, if_neg (by omega)]
  · dsimp only
    rw [glt_t (by omega) (by omega)]
  · rw [d1, Option.bind_some]
theorem Ln_pow {p : Nat} (hp : 2 ≤ p) (k : Nat) : Ln p (p ^ k) (k + 1) := ⟨Nat.pow_lt_pow_right (by omega) (by omega), fun _ => by rw [Nat.add_sub_cancel]; omega⟩
theorem ac_pow {K : Type} [Lean.Grind.CommRing K] {p : Nat} (hp : 2 ≤ p) (t : Nat → K) (k : Nat) : ac p t (p ^ k) (k + 1) = tp p t k := by
  funext m
  unfold ac
  rw [sm_one (k := k) (by omega) (fun i _ hi => by rw [dig_pow hp, if_neg hi, nk_0]; grind), dig_pow hp, if_pos rfl, nk_1]; grind
end Back
