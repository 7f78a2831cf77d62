/-! sets of up to six as bits; operators that anticommute; determinants -/
section Ext
def bt (s j : Nat) : Bool := s / 2 ^ j % 2 == 1
/-- whether an odd number of members stands above j (and below m) -/
def odm (s j : Nat) : Nat → Bool
  | 0 => false
  | m + 1 => xor (odm s j m) (decide (j < m) && bt s m)
def od (s j : Nat) : Bool := odm s j 6
def pcn (s : Nat) : Nat → Nat
  | 0 => 0
  | i + 1 => pcn s i + s / 2 ^ i % 2
def ckA : Bool := (List.range 64).all (fun s => (List.range 6).all (fun i => (List.range 6).all (fun j => (i == j) || (((bt s i && bt (s - 2 ^ i) j) == (bt s j && bt (s - 2 ^ j) i)) && (!(bt s i && bt (s - 2 ^ i) j) || (xor (od s i) (od (s - 2 ^ i) j) != xor (od s j) (od (s - 2 ^ j) i)))))))
def ckB : Bool := (List.range 64).all (fun s => (List.range 6).all (fun j => if bt s j then (!bt (s - 2 ^ j) j) && decide (2 ^ j ≤ s) && (od (s - 2 ^ j) j == od s j) && decide (pcn s 6 = pcn (s - 2 ^ j) 6 + 1) && (List.range 7).all (fun n => decide (j < n → s - 2 ^ j < 2 ^ n → s < 2 ^ n)) else decide (s + 2 ^ j < 64) && (List.range 6).all (fun l => bt (s + 2 ^ j) l == ((l == j) || bt s l))))
def ckC : Bool := (List.range 7).all (fun n => (List.range 64).all (fun s => decide (s < 2 ^ n → pcn s 6 = n → s = 2 ^ n - 1)) && (List.range 6).all (fun m => bt (2 ^ n - 1) m == decide (m < n)) && decide (pcn (2 ^ n - 1) 6 = n) && decide (2 ^ n - 1 < 64))
def ckD : Bool := (List.range 6).all (fun j => decide ((((List.range 64).filter (fun s => bt s j)).map (fun s => s - 2 ^ j)) = (((List.range 64).filter (fun s => !bt s j)).map (fun s => s))))
def ckE : Bool := (List.range 6).all (fun m => (!od (2 ^ (m + 1) - 1) m) && bt (2 ^ (m + 1) - 1) m && decide (2 ^ (m + 1) - 1 - 2 ^ m = 2 ^ m - 1) && decide (2 ^ (m + 1) - 1 < 64) && decide (2 ^ m ≤ 2 ^ (m + 1) - 1))
theorem ckA_ok : ckA = true := by decide +kernel
theorem ckB_ok : ckB = true := by decide +kernel
theorem ckC_ok : ckC = true := by decide +kernel
theorem ckD_ok : ckD = true := by decide +kernel
theorem ckE_ok : ckE = true := by decide +kernel
theorem bits_A {s i j : Nat} (hs : s < 64) (hi : i < 6) (hj : j < 6) (hne : i ≠ j) : (bt s i && bt (s - 2 ^ i) j) = (bt s j && bt (s - 2 ^ j) i) ∧ ((bt s i && bt (s - 2 ^ i) j) = true → xor (od s i) (od (s - 2 ^ i) j) ≠ xor (od s j) (od (s - 2 ^ j) i)) := by
  have h := List.all_eq_true.mp (List.all_eq_true.mp (List.all_eq_true.mp ckA_ok s (List.mem_range.mpr hs)) i (List.mem_range.mpr hi)) j (List.mem_range.mpr hj)
  simp only [Bool.or_eq_true, beq_iff_eq, Bool.and_eq_true, Bool.not_eq_true', bne_iff_ne] at h
  rcases h with h | ⟨h1, h2⟩
  · exact absurd h hne
  · refine ⟨h1, fun h3 => ?_⟩
    rcases h2 with h2 | h2
    · rw [h2] at h3; cases h3
    · exact h2
theorem bits_B {s j : Nat} (hs : s < 64) (hj : j < 6) (hb : bt s j = true) : bt (s - 2 ^ j) j = false ∧ 2 ^ j ≤ s ∧ od (s - 2 ^ j) j = od s j ∧ pcn s 6 = pcn (s - 2 ^ j) 6 + 1 ∧ ∀ n, n < 7 → j < n → s - 2 ^ j < 2 ^ n → s < 2 ^ n := by
  have h := List.all_eq_true.mp (List.all_eq_true.mp ckB_ok s (List.mem_range.mpr hs)) j (List.mem_range.mpr hj)
  rw [if_pos hb] at h
  simp only [Bool.and_eq_true, Bool.not_eq_true', decide_eq_true_eq, beq_iff_eq, List.all_eq_true, List.mem_range] at h
  obtain ⟨⟨⟨⟨h1, h2⟩, h3⟩, h4⟩, h5⟩ := h
  exact ⟨h1, h2, h3, h4, h5⟩
theorem bits_B' {s j : Nat} (hs : s < 64) (hj : j < 6) (hb : bt s j = false) : s + 2 ^ j < 64 ∧ ∀ l, l < 6 → bt (s + 2 ^ j) l = ((l == j) || bt s l) := by
  have h := List.all_eq_true.mp (List.all_eq_true.mp ckB_ok s (List.mem_range.mpr hs)) j (List.mem_range.mpr hj)
  rw [if_neg (by rw [hb]; decide)] at h
  simp only [Bool.and_eq_true, decide_eq_true_eq, beq_iff_eq, List.all_eq_true, List.mem_range] at h
  exact h
theorem bits_C {n : Nat} (hn : n ≤ 6) : (∀ s, s < 64 → s < 2 ^ n → pcn s 6 = n → s = 2 ^ n - 1) ∧ (∀ m, m < 6 → bt (2 ^ n - 1) m = decide (m < n)) ∧ pcn (2 ^ n - 1) 6 = n ∧ 2 ^ n - 1 < 64 := by
  have h := List.all_eq_true.mp ckC_ok n (List.mem_range.mpr (by omega))
  simp only [Bool.and_eq_true, decide_eq_true_eq, beq_iff_eq, List.all_eq_true, List.mem_range] at h
  obtain ⟨⟨⟨h1, h2⟩, h3⟩, h4⟩ := h
  exact ⟨h1, h2, h3, h4⟩
theorem bits_E {m : Nat} (hm : m < 6) : od (2 ^ (m + 1) - 1) m = false ∧ bt (2 ^ (m + 1) - 1) m = true ∧ 2 ^ (m + 1) - 1 - 2 ^ m = 2 ^ m - 1 ∧ 2 ^ (m + 1) - 1 < 64 := by
  have h := List.all_eq_true.mp ckE_ok m (List.mem_range.mpr hm)
  simp only [Bool.and_eq_true, Bool.not_eq_true', decide_eq_true_eq] at h
  obtain ⟨⟨⟨⟨h1, h2⟩, h3⟩, h4⟩, h5⟩ := h
  exact ⟨h1, h2, h3, h4⟩
def eo {L : Type} [Lean.Grind.CommRing L] (j : Nat) (c : Nat → L) (s : Nat) : L := if s < 64 ∧ bt s j = true then (if od s j = true then - c (s - 2 ^ j) else c (s - 2 ^ j)) else 0
theorem eo_no {L : Type} [Lean.Grind.CommRing L] {j s : Nat} {c : Nat → L} (h : ¬ (s < 64 ∧ bt s j = true)) : eo j c s = 0 := if_neg h
theorem eo_yes {L : Type} [Lean.Grind.CommRing L] {j s : Nat} {c : Nat → L} (hs : s < 64) (h : bt s j = true) : eo j c s = if od s j = true then - c (s - 2 ^ j) else c (s - 2 ^ j) := if_pos ⟨hs, h⟩
theorem eo_sq {L : Type} [Lean.Grind.CommRing L] {i s : Nat} {c : Nat → L} (hi : i < 6) : eo i (eo i c) s = 0 := by
  by_cases h : s < 64 ∧ bt s i = true
  · rw [eo_yes h.1 h.2]
    have h1 := (bits_B h.1 hi h.2).1
    rw [eo_no (fun z => by rw [h1] at z; cases z.2)]
    split <;> grind
  · exact eo_no h
theorem eo_anti {L : Type} [Lean.Grind.CommRing L] {i j s : Nat} {c : Nat → L} (hi : i < 6) (hj : j < 6) : eo i (eo j c) s = - eo j (eo i c) s := by
  by_cases hij : i = j
  · subst hij; rw [eo_sq hi]; grind
  by_cases hs : s < 64
  · obtain ⟨h1, h2⟩ := bits_A hs hi hj hij
    have e : s - 2 ^ j - 2 ^ i = s - 2 ^ i - 2 ^ j := Nat.sub_right_comm s (2 ^ j) (2 ^ i)
    have q1 : s - 2 ^ i < 64 := Nat.lt_of_le_of_lt (Nat.sub_le _ _) hs
    have q2 : s - 2 ^ j < 64 := Nat.lt_of_le_of_lt (Nat.sub_le _ _) hs
    unfold eo
    simp only [hs, q1, q2, true_and, e]
    generalize c (s - 2 ^ i - 2 ^ j) = x
    generalize bt s i = a1 at *
    generalize bt s j = a2 at *
    generalize bt (s - 2 ^ i) j = a3 at *
    generalize bt (s - 2 ^ j) i = a4 at *
    generalize od s i = o1 at *
    generalize od s j = o2 at *
    generalize od (s - 2 ^ i) j = o3 at *
    generalize od (s - 2 ^ j) i = o4 at *
    cases a1 <;> cases a2 <;> cases a3 <;> cases a4 <;> first | (exact absurd h1 (by decide)) | (cases o1 <;> cases o2 <;> cases o3 <;> cases o4 <;> first | (exact absurd rfl (h2 rfl)) | grind | (simp <;> grind) | simp)
  · rw [eo_no (fun z => hs z.1), eo_no (fun z => hs z.1)]; grind
theorem eo_sm {L : Type} [Lean.Grind.CommRing L] (m : Nat) (a : Nat → L) (g : Nat → Nat → L) (j s : Nat) : eo j (fun s => sm m (fun l => a l * g l s)) s = sm m (fun l => a l * eo j (g l) s) := by
  unfold eo
  by_cases h : s < 64 ∧ bt s j = true
  · simp only [if_pos h]
    by_cases ho : od s j = true
    · simp only [if_pos ho]
      rw [← sm_neg]
      exact sm_congr (fun l _ => by grind)
    · simp only [if_neg ho]
  · simp only [if_neg h]
    exact (sm_0 (fun l _ => by grind)).symm
theorem eo_mul {L : Type} [Lean.Grind.CommRing L] (g : L) (c : Nat → L) (j s : Nat) : eo j (fun s => g * c s) s = g * eo j c s := by
  unfold eo
  by_cases h : s < 64 ∧ bt s j = true
  · simp only [if_pos h]
    by_cases ho : od s j = true
    · simp only [if_pos ho]; grind
    · simp only [if_neg ho]
  · simp only [if_neg h]; grind
def wd {L : Type} [Lean.Grind.CommRing L] (n : Nat) (v : Nat → L) (c : Nat → L) (s : Nat) : L := sm n (fun j => v j * eo j c s)
theorem wd_wd {L : Type} [Lean.Grind.CommRing L] (n : Nat) (u v c : Nat → L) (s : Nat) : wd n u (wd n v c) s = sm n (fun i => sm n (fun j => u i * v j * eo i (eo j c) s)) := by
  unfold wd
  refine sm_congr (fun i _ => ?_)
  show u i * eo i (fun s => sm n (fun j => v j * eo j c s)) s = _
  rw [eo_sm, ← sm_mulL]
  exact sm_congr (fun j _ => by grind)
theorem wd_anti {L : Type} [Lean.Grind.CommRing L] {n : Nat} (hn : n ≤ 6) (u v c : Nat → L) (s : Nat) : wd n u (wd n v c) s = - wd n v (wd n u c) s := by
  rw [wd_wd, wd_wd, sm_comm, ← sm_neg]
  refine sm_congr (fun j hj => ?_)
  rw [← sm_neg]
  refine sm_congr (fun i hi => ?_)
  rw [eo_anti (i := i) (j := j) (by omega) (by omega)]; grind
theorem sm_alt {L : Type} [Lean.Grind.CommRing L] (n : Nat) (F : Nat → Nat → L) (h0 : ∀ i, i < n → F i i = 0) (h1 : ∀ i j, i < n → j < n → F i j = - F j i) : sm n (fun i => sm n (fun j => F i j)) = 0 := by
  induction n with
  | zero => rfl
  | succ n ih =>
    have e : ∀ i, i < n + 1 → sm (n + 1) (fun j => F i j) = sm n (fun j => F i j) + F i n := fun i _ => rfl
    rw [sm_congr e, sm_succ, sm_add, ih (fun i hi => h0 i (by omega)) (fun i j hi hj => h1 i j (by omega) (by omega)), h0 n (by omega)]
    have e2 : sm n (fun j => F n j) = - sm n (fun j => F j n) := by
      rw [← sm_neg]; exact sm_congr (fun j hj => h1 n j (by omega) (by omega))
    rw [e2]; grind
theorem wd_sq {L : Type} [Lean.Grind.CommRing L] {n : Nat} (hn : n ≤ 6) (u c : Nat → L) (s : Nat) : wd n u (wd n u c) s = 0 := by
  rw [wd_wd]
  refine sm_alt n (fun i j => u i * u j * eo i (eo j c) s) (fun i hi => ?_) (fun i j hi hj => ?_)
  · show u i * u i * eo i (eo i c) s = 0
    rw [eo_sq (by omega)]; grind
  · show u i * u j * eo i (eo j c) s = - (u j * u i * eo j (eo i c) s)
    rw [eo_anti (i := i) (j := j) (by omega) (by omega)]; grind
theorem wd_congr {L : Type} [Lean.Grind.CommRing L] {n : Nat} {u v : Nat → L} (h : ∀ j, j < n → u j = v j) (c : Nat → L) (s : Nat) : wd n u c s = wd n v c s := sm_congr (fun j hj => by rw [h j hj])
theorem wd_add {L : Type} [Lean.Grind.CommRing L] (n : Nat) (u v c : Nat → L) (s : Nat) : wd n (fun j => u j + v j) c s = wd n u c s + wd n v c s := by
  unfold wd
  rw [← sm_add]
  exact sm_congr (fun j _ => by grind)
theorem wd_sub {L : Type} [Lean.Grind.CommRing L] (n : Nat) (u v c : Nat → L) (s : Nat) : wd n (fun j => u j - v j) c s = wd n u c s - wd n v c s := by
  unfold wd
  rw [← sm_sub]
  exact sm_congr (fun j _ => by grind)
theorem wd_mul {L : Type} [Lean.Grind.CommRing L] (n : Nat) (a : L) (u c : Nat → L) (s : Nat) : wd n (fun j => a * u j) c s = a * wd n u c s := by
  unfold wd
  rw [← sm_mulL]
  exact sm_congr (fun j _ => by grind)
theorem wd_sm {L : Type} [Lean.Grind.CommRing L] (n m : Nat) (a : Nat → L) (v : Nat → Nat → L) (c : Nat → L) (s : Nat) : wd n (fun j => sm m (fun l => a l * v l j)) c s = sm m (fun l => a l * wd n (v l) c s) := by
  induction m with
  | zero =>
    show sm n (fun j => (0 : L) * eo j c s) = 0
    exact sm_0 (fun j _ => by grind)
  | succ m ih =>
    show wd n (fun j => sm m (fun l => a l * v l j) + a m * v m j) c s = sm m (fun l => a l * wd n (v l) c s) + a m * wd n (v m) c s
    rw [wd_add, ih, wd_mul]
theorem wd_c {L : Type} [Lean.Grind.CommRing L] (n : Nat) (v : Nat → L) (g : L) (c : Nat → L) (s : Nat) : wd n v (fun s => g * c s) s = g * wd n v c s := by
  unfold wd
  rw [← sm_mulL]
  exact sm_congr (fun j _ => by rw [eo_mul]; grind)
theorem wd_c0 {L : Type} [Lean.Grind.CommRing L] (n : Nat) (v : Nat → L) {c : Nat → L} (h : ∀ s, c s = 0) (s : Nat) : wd n v c s = 0 := by
  have e : c = fun s => (0 : L) * c s := by funext s; rw [h s]; grind
  rw [e, wd_c]; grind
theorem wd_csm {L : Type} [Lean.Grind.CommRing L] (n m : Nat) (v a : Nat → L) (g : Nat → Nat → L) (s : Nat) : wd n v (fun s => sm m (fun l => a l * g l s)) s = sm m (fun l => a l * wd n v (g l) s) := by
  unfold wd
  have e : ∀ j, j < n → v j * eo j (fun s => sm m (fun l => a l * g l s)) s = sm m (fun l => a l * (v j * eo j (g l) s)) := fun j _ => by
    rw [eo_sm, ← sm_mulL]
    exact sm_congr (fun l _ => by grind)
  rw [sm_congr e, sm_comm]
  exact sm_congr (fun l _ => by rw [sm_mulL])
/-- one vector behind another -/
def wp {L : Type} [Lean.Grind.CommRing L] (n : Nat) (b : Nat → Nat → L) : Nat → Nat → L
  | 0 => fun s => if s = 0 then 1 else 0
  | m + 1 => wd n (b m) (wp n b m)
theorem kill_up {L : Type} [Lean.Grind.CommRing L] {n : Nat} (hn : n ≤ 6) {u c : Nat → L} (h : ∀ s, wd n u c s = 0) (v : Nat → L) (s : Nat) : wd n u (wd n v c) s = 0 := by
  rw [wd_anti hn, wd_c0 n v h]; grind
theorem wp_kill {L : Type} [Lean.Grind.CommRing L] {n : Nat} (hn : n ≤ 6) (b : Nat → Nat → L) {l m : Nat} (hl : l < m) (s : Nat) : wd n (b l) (wp n b m) s = 0 := by
  induction m generalizing s with
  | zero => omega
  | succ m ih =>
    show wd n (b l) (wd n (b m) (wp n b m)) s = 0
    by_cases e : l = m
    · subst e; exact wd_sq hn _ _ _
    · exact kill_up hn (fun s => ih (by omega) s) _ _
theorem wp_congr {L : Type} [Lean.Grind.CommRing L] {n m : Nat} {b b' : Nat → Nat → L} (h : ∀ i j, i < m → j < n → b i j = b' i j) : wp n b m = wp n b' m := by
  induction m with
  | zero => rfl
  | succ m ih =>
    show wd n (b m) (wp n b m) = wd n (b' m) (wp n b' m)
    rw [ih (fun i j hi hj => h i j (by omega) hj)]
    funext s
    exact wd_congr (fun j hj => h m j (by omega) hj) _ _
/-- a block: its vectors lead to one another, the last one back, modulo those ahead -/
theorem blk {L : Type} [Lean.Grind.CommRing L] {n k s : Nat} (hn : n ≤ 6) {F B : Nat → Nat → L} {tau g : L} {c d : Nat → L} (h1 : ∀ j, j + 1 < k → ∀ i, i < n → F (s + j) i = tau * B (s + j) i - B (s + j + 1) i) (h2 : 0 < k → ∀ i, i < n → F (s + (k - 1)) i = tau * B (s + (k - 1)) i + sm k (fun j => c j * B (s + j) i) - sm s (fun l => d l * B l i)) (hI : ∀ x, wp n F s x = g * wp n B s x) (x : Nat) : wp n F (s + k) x = g * (tau ^ k + sm k (fun j => c j * tau ^ j)) * wp n B (s + k) x := by
  cases k with
  | zero => rw [Nat.add_zero, hI, sm_zero, Lean.Grind.Semiring.pow_zero]; grind
  | succ k =>
    have hIf : wp n F s = fun x => g * wp n B s x := funext hI
    have qA : ∀ l, l < s → ∀ j x, wd n (B l) (wp n F (s + j)) x = 0 := by
      intro l hl j
      induction j with
      | zero => intro x; rw [Nat.add_zero, hIf, wd_c, wp_kill hn B hl]; grind
      | succ j ih => intro x; exact kill_up hn ih _ x
    have qC : ∀ m, m ≤ k → ∀ j, j ≤ m → ∀ x, wd n (B (s + j)) (wp n F (s + m)) x = tau ^ j * wd n (B s) (wp n F (s + m)) x := by
      intro m hm j
      induction j with
      | zero => intro _ x; rw [Nat.add_zero, Lean.Grind.Semiring.pow_zero]; grind
      | succ j ih =>
        intro hj x
        rw [wd_congr (u := B (s + (j + 1))) (v := fun i => tau * B (s + j) i - F (s + j) i) (fun i hi => by rw [h1 j (by omega) i hi, Nat.add_assoc]; grind), wd_sub n (fun i => tau * B (s + j) i) (F (s + j)), wd_mul, ih (by omega) x, wp_kill hn F (show s + j < s + m by omega), Lean.Grind.Semiring.pow_succ]; grind
    have qD : ∀ j, j ≤ k → ∀ x, wd n (B s) (wp n F (s + j)) x = g * wp n B (s + j + 1) x := by
      intro j
      induction j with
      | zero => intro _ x; rw [Nat.add_zero, hIf, wd_c]; rfl
      | succ j ih =>
        intro hj x
        have e1 : wd n (B s) (wp n F (s + j)) = fun x => g * wp n B (s + j + 1) x := funext (ih (by omega))
        show wd n (B s) (wd n (F (s + j)) (wp n F (s + j))) x = g * wd n (B (s + (j + 1))) (wp n B (s + (j + 1))) x
        rw [wd_anti hn, e1, wd_c, wd_congr (u := F (s + j)) (v := fun i => tau * B (s + j) i - B (s + j + 1) i) (fun i hi => h1 j (by omega) i hi), wd_sub n (fun i => tau * B (s + j) i) (B (s + j + 1)), wd_mul, wp_kill hn B (show s + j < s + j + 1 by omega), Nat.add_assoc]; grind
    show wd n (F (s + k)) (wp n F (s + k)) x = g * (tau ^ (k + 1) + sm (k + 1) (fun j => c j * tau ^ j)) * wp n B (s + k + 1) x
    have e0 := h2 (by omega)
    rw [Nat.add_sub_cancel] at e0
    rw [wd_congr e0, wd_sub n (fun i => tau * B (s + k) i + sm (k + 1) (fun j => c j * B (s + j) i)), wd_add n (fun i => tau * B (s + k) i), wd_mul, wd_sm n (k + 1) c (fun j => B (s + j)), wd_sm n s d B, sm_0 (n := s) (fun l hl => by rw [qA l hl k]; grind), qC k (Nat.le_refl k) k (Nat.le_refl k)]
    have e1 : ∀ j, j < k + 1 → c j * wd n (B (s + j)) (wp n F (s + k)) x = c j * tau ^ j * wd n (B s) (wp n F (s + k)) x := fun j hj => by
      rw [qC k (Nat.le_refl k) j (by omega)]; grind
    rw [sm_congr e1, sm_mulR, qD k (Nat.le_refl k), Lean.Grind.Semiring.pow_succ]; grind
end Ext
