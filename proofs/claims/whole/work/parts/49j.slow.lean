/-! the model is made: rests, and its slow product -/
section MSlow
def rst (p : Nat) (g : Nat → Nat) (d k : Nat) (f : Nat → Nat) : Nat → Nat := fun i => if k - d ≤ i ∧ i ≤ k then (f i + (p - f k) * g (i - (k - d))) % p else f i
def rsI (p : Nat) (g : Nat → Nat) (d D : Nat) (f : Nat → Nat) : Nat → Nat → Nat
  | 0 => f
  | m + 1 => rst p g d (D - m) (rsI p g d D f m)
theorem rsI_lt {p : Nat} {g : Nat → Nat} {d D : Nat} {f : Nat → Nat} (hp : 0 < p) (hf : ∀ i, f i < p) (m i : Nat) : rsI p g d D f m i < p := by
  induction m generalizing i with
  | zero => exact hf i
  | succ m ih =>
    show (if _ then _ else _) < p
    split
    · exact Nat.mod_lt _ hp
    · exact ih i
theorem m_restBy {p D d a0 a2 : Nat} {I : gI} {R : gR} {S : gS} {N : Nat} {f g : Nat → Nat} (hp : 2 ≤ p) (hp5 : p ≤ 5) (h02 : a2 ≠ a0) (h0 : 91 ≠ a0) (h2 : I 91 2 = nI p) (hS0 : S[a0]? = some (12, 16)) (hS2 : S[a2]? = some (12, 16)) (hf : ∀ i, i < 16 → I a0 i = nI (f i)) (hfp : ∀ i, f i < p) (hg : ∀ i, i < 16 → I a2 i = nI (g i)) (hgp : ∀ i, g i < p) (hd1 : 1 ≤ d) (hd : d ≤ D + 1) (hD : D ≤ 15) (hd15 : d ≤ 15) (hN : 40 ≤ N) :
    ∃ J, f_X12_restBy N I R S a0 (nI D) a2 (nI d) = some J ∧ Fs [a0] I J ∧ ∀ i, i < 16 → J a0 i = nI (rsI p g d D f (D + 1 - d) i) := by
  unfold f_X12_restBy
  rw [gLn_of hS0, gLn_of hS2]
  refine iter_wpe (fun m s => ∃ J, s = (nI (D - m), J) ∧ Fs [a0] I J ∧ ∀ i, i < 16 → J a0 i = nI (rsI p g d D f m i)) (D + 1 - d) ⟨I, by rw [Nat.sub_zero], Fs_refl _ _, hf⟩ ?_ (by omega)
  rintro m _ hm ⟨J, rfl, c1, c2⟩
  dsimp only
  by_cases hme : m = D + 1 - d
  · refine .inr ⟨J, glt_t (by omega) (by omega), J, rfl, c1, by rw [← hme]; exact c2⟩
  refine .inl ?_
  have hlt : ∀ i, rsI p g d D f m i < p := fun i => rsI_lt (by omega) hfp m i
  obtain ⟨k, hk⟩ : ∃ k, D - m = k := ⟨_, rfl⟩
  rw [hk, glt_f (show d ≤ k by omega) (by omega), nI_clamp (by omega), gin2 (by omega) (by omega), c2 k (by omega), pk_sub (by omega)]
  refine ex_inl (iter_wpe (fun j s => ∃ J', s = (nI j, J') ∧ Fs [a0] J J' ∧ ∀ i, i < 16 → J' a0 i = nI (if k - d ≤ i ∧ i < k - d + j then (rsI p g d D f m i + (p - rsI p g d D f m k) * g (i - (k - d))) % p else rsI p g d D f m i)) (d + 1) ⟨J, by rw [nI_0], Fs_refl _ _, fun i hi => by rw [if_neg (by omega)]; exact c2 i hi⟩ ?_ (by omega))
  rintro j _ hj ⟨J', rfl, e1, e2⟩
  dsimp only
  by_cases hjd : j = d + 1
  · subst hjd
    refine .inr ⟨J', glt_t (by omega) (by omega), _, rfl, _, rfl, by omega, J', ?_, c1.trans e1, fun i hi => ?_⟩
    · rw [dn2, dn1 _ (by omega)]
      congr 2
      omega
    · rw [e2 i hi]
      show _ = nI (rst p g d (D - m) (rsI p g d D f m) i)
      unfold rst
      rw [hk]
      congr 1
      by_cases q : k - d ≤ i ∧ i ≤ k
      · rw [if_pos q, if_pos (by omega)]
      · rw [if_neg q, if_neg (by omega)]
  refine .inl ?_
  have h91 : J' 91 2 = nI p := by
    rw [e1 91 (by simp only [List.mem_cons, List.mem_nil_iff, or_false]; exact h0), c1 91 (by simp only [List.mem_cons, List.mem_nil_iff, or_false]; exact h0)]; exact h2
  have hgj : J' a2 j = nI (g j) := by
    rw [e1 a2 (by simp only [List.mem_cons, List.mem_nil_iff, or_false]; exact h02), c1 a2 (by simp only [List.mem_cons, List.mem_nil_iff, or_false]; exact h02)]; exact hg j (by omega)
  have hv := e2 (k - d + j) (by omega)
  rw [if_neg (by omega)] at hv
  have hl1 := hlt (k - d + j)
  have hl2 := hlt k
  have hg1 := hgp j
  have hb : (p - rsI p g d D f m k) * g j ≤ 25 := Nat.le_trans (Nat.mul_le_mul (show _ ≤ 5 by omega) (show _ ≤ 5 by omega)) (by omega)
  rw [glt_f (by omega) (by omega), nI_add, nI_clamp (show k - d + j < _ by omega), gin2 (by omega) (by omega), nI_clamp (show j < _ by omega), gin2 (by omega) (by omega)]
  simp only [h91]
  rw [gnz (by omega) (by omega), gin2 (by omega) (by omega), hv, hgj, pk_sub (by omega), pk_mul, nI_add, pk_div (by omega) (by omega) (by omega), pk_mul, pk_rem2, nI_1]
  refine ⟨_, rfl, by omega, _, rfl, e1.trans (Fs_gU (by simp)), fun i hi => ?_⟩
  by_cases q : i = k - d + j
  · rw [q, gU_at, if_pos (by omega), Nat.add_sub_cancel_left]
  · rw [gU_slot _ _ _ q, e2 i hi]
    by_cases q2 : k - d ≤ i ∧ i < k - d + j
    · rw [if_pos q2, if_pos (by omega)]
    · rw [if_neg q2, if_neg (by omega)]
theorem rst_val {K : Type} [Lean.Grind.CommRing K] {p : Nat} (hz : nk (K := K) p = 0) (X : K) {g f : Nat → Nat} {d k : Nat} (hd : d ≤ k) (hk : k ≤ 15) : sm 16 (fun i => nk (rst p g d k f i) * X ^ i) = sm 16 (fun i => nk (f i) * X ^ i) + nk (p - f k) * X ^ (k - d) * sm (d + 1) (fun j => nk (g j) * X ^ j) := by
  rw [← sm_mulL, ← sm_win (m := 16) (a := k - d) (n := d + 1) (by omega) (fun j => nk (p - f k) * X ^ (k - d) * (nk (g j) * X ^ j)), ← sm_add]
  refine sm_congr (fun i hi => ?_)
  unfold rst
  by_cases q : k - d ≤ i ∧ i ≤ k
  · rw [if_pos q, if_pos (by omega), nk_mod hz, nk_add, nk_mul]
    have e : X ^ i = X ^ (k - d) * X ^ (i - (k - d)) := by rw [← Lean.Grind.Semiring.pow_add]; congr 1; omega
    rw [e]; grind
  · rw [if_neg q, if_neg (by omega)]; grind
theorem rsI_val {K : Type} [Lean.Grind.CommRing K] {p : Nat} (hz : nk (K := K) p = 0) (X : K) {g f : Nat → Nat} {d D : Nat} (hD : D ≤ 15) (hg : sm (d + 1) (fun j => nk (g j) * X ^ j) = 0) {m : Nat} (hm : m + d ≤ D + 1) : sm 16 (fun i => nk (rsI p g d D f m i) * X ^ i) = sm 16 (fun i => nk (f i) * X ^ i) := by
  induction m with
  | zero => rfl
  | succ m ih =>
    show sm 16 (fun i => nk (rst p g d (D - m) (rsI p g d D f m) i) * X ^ i) = _
    rw [rst_val hz X (by omega) (by omega), hg, ih (by omega)]; grind
theorem rsI_0 {p : Nat} {g f : Nat → Nat} {d D : Nat} (hp : 0 < p) (hf : ∀ i, f i < p) (hg : g d = 1) {m : Nat} (hm : m + d ≤ D + 1) (hd : 1 ≤ d) {i : Nat} (h1 : D - m < i) (h2 : i ≤ D) : rsI p g d D f m i = 0 := by
  induction m generalizing i with
  | zero => omega
  | succ m ih =>
    show rst p g d (D - m) (rsI p g d D f m) i = 0
    unfold rst
    by_cases e : i = D - m
    · subst e
      have := rsI_lt (g := g) (d := d) (D := D) hp hf m (D - m)
      rw [if_pos (by omega), show D - m - (D - m - d) = d by omega, hg, Nat.mul_one, show rsI p g d D f m (D - m) + (p - rsI p g d D f m (D - m)) = p by omega, Nat.mod_self]
    · rw [if_neg (by omega)]
      exact ih (by omega) (by omega) h2
theorem dlt {τ : Type} {A B : τ} {D i : Nat} (hD : D < 1000) (hi : i < 1000) : (if nI D - 1 < nI i then A else B) = if D ≤ i then A else B := by
  by_cases h0 : D = 0
  · subst h0
    refine (if_pos ?_).trans (if_pos (Nat.zero_le i)).symm
    rw [Int32.lt_iff_toInt_lt, nI_toInt (by omega)]
    have : (nI 0 - 1).toInt = -1 := by decide
    omega
  · rw [dn1 _ (by omega)]
    by_cases h : D ≤ i
    · rw [glt_t (by omega) (by omega), if_pos h]
    · rw [glt_f (by omega) (by omega), if_neg h]
def ckM : Bool := ([2, 3, 5] : List Nat).all (fun p => (List.range 7).all (fun n => decide (n = 0) || (decide (dig p (mo p n) n = 1) && decide (mo p n < p ^ (n + 1)) && decide (p ^ n ≤ mo p n))))
theorem ckM_ok : ckM = true := by decide +kernel
theorem mo_dig {p n : Nat} (hp : p = 2 ∨ p = 3 ∨ p = 5) (h1 : 1 ≤ n) (h6 : n ≤ 6) : dig p (mo p n) n = 1 ∧ mo p n < p ^ (n + 1) ∧ p ^ n ≤ mo p n := by
  have h := List.all_eq_true.mp (List.all_eq_true.mp ckM_ok p (by rcases hp with rfl | rfl | rfl <;> decide)) n (List.mem_range.mpr (by omega))
  simp only [Bool.and_eq_true, Bool.or_eq_true, decide_eq_true_eq] at h
  rcases h with h | ⟨⟨h2, h3⟩, h4⟩
  · omega
  · exact ⟨h2, h3, h4⟩
theorem mo_val {K : Type} [Lean.Grind.CommRing K] {p n : Nat} {X : K} {co : K → Nat} (hR : RO K p n X co) : sm (n + 1) (fun j => nk (dig p (mo p n) j) * X ^ j) = 0 := by
  have hp := RO_p hR
  rw [sm_succ, (mo_dig hR.1 hR.2.1 hR.2.2.1).1, nk_1, hR.2.2.2.2.1]
  have e : ∀ i, i < n → nk (fo p n i) * X ^ i = - (nk (dig p (mo p n) i) * X ^ i) := fun i _ => by
    unfold fo
    rw [nk_mod (RO_z hR), nk_fac (RO_z hR) (Nat.le_of_lt (dig_lt (by omega) _ _))]; grind
  rw [sm_congr e, sm_neg]; grind
theorem sm_put {K : Type} [Lean.Grind.CommRing K] {p : Nat} (hz : nk (K := K) p = 0) (X : K) {f : Nat → Nat} {t c : Nat} (ht : t < 16) : sm 16 (fun k => nk (if k = t then (f t + c) % p else f k) * X ^ k) = sm 16 (fun k => nk (f k) * X ^ k) + nk c * X ^ t := by
  have e : ∀ k, k < 16 → nk (if k = t then (f t + c) % p else f k) * X ^ k = nk (f k) * X ^ k + (if k = t then nk c * X ^ t else 0) := fun k _ => by
    by_cases q : k = t
    · rw [if_pos q, if_pos q, q, nk_mod hz, nk_add]; grind
    · rw [if_neg q, if_neg q]; grind
  rw [sm_congr e, sm_add, sm_one (f := fun k => if k = t then nk c * X ^ t else 0) ht (fun i _ hi => if_neg hi), if_pos rfl]
theorem el_Ln {K : Type} [Lean.Grind.CommRing K] {p n : Nat} {X : K} {a D : Nat} (hp : 0 < p) (hD : Ln p a D) (hDn : D ≤ n) : sm D (fun i => nk (dig p a i) * X ^ i) = el p n X a := (sm_ext hDn (fun i h1 _ => by rw [dig_ge hD.1 h1 hp, nk_0]; grind)).symm
theorem m_slow {K : Type} [Lean.Grind.CommRing K] {p n : Nat} {X : K} {co : K → Nat} {I : gI} {R : gR} {S : gS} {N : Nat} (hR : RO K p n X co) (h2 : I 91 2 = nI p) (h3 : I 91 3 = nI n) (h5 : I 91 5 = nI (mo p n)) (hS : ∀ q, 92 ≤ q → q ≤ 95 → S[q]? = some (12, 16)) (a b : K) (hN : 40 ≤ N) :
    ∃ y, f_X12_slow N I R S (nI (co a)) (nI (co b)) = some y ∧ ∃ J, y = (nI (co (a * b)), J) ∧ Fs [92, 93, 94, 95] I J := by
  have hp := RO_p hR
  have hn1 := hR.2.1
  have hn6 := hR.2.2.1
  obtain ⟨Da, a1, a2⟩ := Ln_some (p := p) (a := co a) (M := n) (RO_lt hR _)
  obtain ⟨Db, b1, b2⟩ := Ln_some (p := p) (a := co b) (M := n) (RO_lt hR _)
  obtain ⟨m1, m2, m3⟩ := mo_dig hR.1 hn1 hn6
  have hm31 : mo p n < 2147483648 := (gMod_ok hR.1 hn1 hn6).2
  unfold f_X12_slow
  rw [m_figures hp.1 hp.2 h2 (by decide) (hS 92 (by omega) (by omega)) (co_31 hR _) a2 (by omega) (by omega), Option.bind_some]
  dsimp only
  rw [m_figures hp.1 hp.2 (by rw [Aw_ne _ (by decide)]; exact h2) (by decide) (hS 93 (by omega) (by omega)) (co_31 hR _) b2 (by omega) (by omega), Option.bind_some]
  dsimp only
  obtain ⟨I1, hI1⟩ : ∃ I1, I1 = Aw (Aw I 92 16 (fun j => nI (dig p (co a) j))) 93 16 (fun j => nI (dig p (co b) j)) := ⟨_, rfl⟩
  have q92 : ∀ i, i < 16 → I1 92 i = nI (dig p (co a) i) := fun i hi => by rw [hI1, Aw_ne _ (by decide), Aw_at hi]
  have q93 : ∀ i, i < 16 → I1 93 i = nI (dig p (co b) i) := fun i hi => by rw [hI1, Aw_at hi]
  have hI1f : Fs [92, 93, 94, 95] I I1 := by rw [hI1]; exact (Fs_Aw (by decide)).trans (Fs_Aw (by decide))
  have q2 : I1 91 2 = nI p := by rw [hI1f 91 (by decide)]; exact h2
  have q3 : I1 91 3 = nI n := by rw [hI1f 91 (by decide)]; exact h3
  have q5 : I1 91 5 = nI (mo p n) := by rw [hI1f 91 (by decide)]; exact h5
  rw [← hI1]
  refine iter_bE (fun J => Fs [95] I1 J ∧ ∀ i, i < 16 → J 95 i = nI 0) ?_ ?_
  · refine iter_wp (fun i s => ∃ J, s = (nI i, J) ∧ Fs [95] I1 J ∧ ∀ l, l < i → J 95 l = nI 0) _ 16 ⟨I1, by rw [nI_0], Fs_refl _ _, fun l hl => by omega⟩ ?_ (by omega)
    rintro i _ hi ⟨J, rfl, d1, d2⟩
    dsimp only
    rw [show (16 : Int32) = nI 16 from rfl]
    by_cases h16 : i = 16
    · subst h16
      rw [gle_t (Nat.le_refl _) (by omega)]
      exact .inr ⟨J, rfl, d1, d2⟩
    · refine .inl ?_
      rw [gle_f (by omega) (by omega), nI_clamp (by omega), gin2 (by omega) (by omega), nI_1]
      refine ⟨_, rfl, by omega, _, rfl, d1.trans (Fs_gU (by decide)), fun l hl => ?_⟩
      by_cases e : l = i
      · rw [e, gU_at]; exact nI_0.symm
      · rw [gU_slot _ _ _ e]; exact d2 l (by omega)
  rintro J1 ⟨c1, c2⟩
  refine iter_bE (fun J => Fs [95] I1 J ∧ ∃ f : Nat → Nat, (∀ k, f k < p) ∧ (∀ k, k < 16 → J 95 k = nI (f k)) ∧ sm 16 (fun k => nk (f k) * X ^ k) = a * b) ?_ ?_
  · refine iter_wp (fun i s => ∃ J, s = (nI i, J) ∧ Fs [95] I1 J ∧ ∃ f : Nat → Nat, (∀ k, f k < p) ∧ (∀ k, k < 16 → J 95 k = nI (f k)) ∧ sm 16 (fun k => nk (f k) * X ^ k) = sm i (fun l => nk (dig p (co a) l) * X ^ l) * b) _ Da ⟨J1, by rw [nI_0], c1, fun _ => 0, fun _ => show 0 < p by omega, c2, by rw [sm_zero, sm_0 (fun k _ => by rw [nk_0]; grind)]; grind⟩ ?_ (by omega)
    rintro i _ hi ⟨J, rfl, d1, f, d2, d3, d4⟩
    dsimp only
    rw [dlt (by omega) (by omega)]
    by_cases hiD : i = Da
    · subst hiD
      rw [if_pos (Nat.le_refl _)]
      exact .inr ⟨J, rfl, d1, f, d2, d3, by rw [d4, el_Ln (by omega) a2 a1, RO_el hR]⟩
    refine .inl ?_
    rw [if_neg (by omega)]
    refine ex_inl (iter_wpe (fun j s => ∃ J', s = (nI j, J') ∧ Fs [95] I1 J' ∧ ∃ f : Nat → Nat, (∀ k, f k < p) ∧ (∀ k, k < 16 → J' 95 k = nI (f k)) ∧ sm 16 (fun k => nk (f k) * X ^ k) = sm i (fun l => nk (dig p (co a) l) * X ^ l) * b + nk (dig p (co a) i) * X ^ i * sm j (fun l => nk (dig p (co b) l) * X ^ l)) Db ⟨J, by rw [nI_0], d1, f, d2, d3, by rw [d4, sm_zero]; grind⟩ ?_ (by omega))
    rintro j _ hj ⟨J', rfl, e1, f', e2, e3, e4⟩
    dsimp only
    rw [dlt (by omega) (by omega)]
    by_cases hjD : j = Db
    · subst hjD
      rw [if_pos (Nat.le_refl _)]
      refine .inr ⟨J', rfl, _, rfl, _, rfl, by omega, J', by rw [nI_1], e1, f', e2, e3, ?_⟩
      rw [e4, el_Ln (by omega) b2 b1, RO_el hR, sm_succ]; grind
    refine .inl ?_
    have hda := dig_lt (show 0 < p by omega) (co a) i
    have hdb := dig_lt (show 0 < p by omega) (co b) j
    have hb : dig p (co a) i * dig p (co b) j ≤ 16 := Nat.le_trans (Nat.mul_le_mul (show _ ≤ 4 by omega) (show _ ≤ 4 by omega)) (by omega)
    have hf' := e2 (i + j)
    rw [if_neg (by omega), nI_add, nI_clamp (show i + j < _ by omega), gin2 (by omega) (by omega), nI_clamp (show i < _ by omega), gin2 (by omega) (by omega), nI_clamp (show j < _ by omega), gin2 (by omega) (by omega)]
    have h912 : J' 91 2 = nI p := by rw [e1 91 (by decide)]; exact q2
    simp only [h912]
    rw [gnz (by omega) (by omega), gin2 (by omega) (by omega), e3 _ (by omega), e1 92 (by decide), q92 i (by omega), e1 93 (by decide), q93 j (by omega), pk_mul, nI_add, pk_div (by omega) (by omega) (by omega), pk_mul, pk_rem2, nI_1]
    refine ⟨_, rfl, by omega, _, rfl, e1.trans (Fs_gU (by decide)), fun k => if k = i + j then (f' (i + j) + dig p (co a) i * dig p (co b) j) % p else f' k, fun k => ?_, fun k hk => ?_, ?_⟩
    · dsimp only
      split
      · exact Nat.mod_lt _ (by omega)
      · exact e2 k
    · by_cases e : k = i + j
      · rw [e, gU_at]; exact congrArg nI (if_pos rfl).symm
      · rw [gU_slot _ _ _ e, e3 k hk]; exact congrArg nI (if_neg e).symm
    · rw [sm_put (RO_z hR) X (by omega), e4, sm_succ, nk_mul, Lean.Grind.Semiring.pow_add]; grind
  rintro J2 ⟨d1, f, d2, d3, d4⟩
  have w2 : J2 91 2 = nI p := by rw [d1 91 (by decide)]; exact q2
  have w5 : J2 91 5 = nI (mo p n) := by rw [d1 91 (by decide)]; exact q5
  rw [w5, m_figures hp.1 hp.2 w2 (by decide) (hS 94 (by omega) (by omega)) hm31 (D := n + 1) ⟨m2, fun _ => m3⟩ (by omega) (by omega), Option.bind_some]
  dsimp only
  rw [dn1 _ (by omega), Nat.add_sub_cancel]
  obtain ⟨J4, g1, g2, g3⟩ := m_restBy (N := N) (R := R) (S := S) (I := Aw J2 94 16 (fun j => nI (dig p (mo p n) j))) (p := p) (D := 15) (d := n) (a0 := 95) (a2 := 94) (f := f) (g := dig p (mo p n)) hp.1 hp.2 (by decide) (by decide) (by rw [Aw_ne _ (by decide)]; exact w2) (hS 95 (by omega) (by omega)) (hS 94 (by omega) (by omega)) (fun i hi => by rw [Aw_ne _ (by decide)]; exact d3 i hi) d2 (fun i hi => Aw_at hi) (fun i => dig_lt (by omega) _ _) hn1 (by omega) (by omega) (by omega) hN
  rw [show (15 : Int32) = nI 15 from rfl, g1, Option.bind_some]
  have hJ4 : Fs [92, 93, 94, 95] I J4 := hI1f.trans ((d1.mono (by decide)).trans ((Fs_Aw (by decide)).trans (g2.mono (by decide))))
  rw [hJ4 91 (by decide), h3, m_codeOf (p := p) (by rw [hJ4 91 (by decide)]; exact h2) (hS 95 (by omega) (by omega)) (by omega) (by omega) (fun j hj => g3 j (by omega)) (by omega), Option.bind_some]
  refine ⟨_, rfl, J4, ?_, hJ4⟩
  have hval := rsI_val (p := p) (RO_z hR) X (f := f) (g := dig p (mo p n)) (d := n) (D := 15) (by omega) (mo_val hR) (m := 16 - n) (by omega)
  rw [d4] at hval
  rw [sm_ext (n := n) (by omega) (fun i h1 h2 => by rw [rsI_0 (by omega) d2 m1 (by omega) hn1 (by omega) (by omega), nk_0]; grind)] at hval
  have he : el p n X (enc p n (rsI p (dig p (mo p n)) n 15 f (16 - n))) = a * b := by
    rw [← hval]
    exact sm_congr (fun i hi => by rw [dig_enc (fun l _ => rsI_lt (by omega) d2 _ l) hi])
  congr 2
  rw [← he, RO_co hR (enc_lt (fun l _ => rsI_lt (by omega) d2 _ l))]
end MSlow
