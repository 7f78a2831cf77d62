/-! determinants: of vectors that are sums of others -/
section Det
def ls {L : Type} [Lean.Grind.CommRing L] (G : Nat → L) : List Nat → L
  | [] => 0
  | a :: l => G a + ls G l
theorem ls_app {L : Type} [Lean.Grind.CommRing L] (G : Nat → L) (l m : List Nat) : ls G (l ++ m) = ls G l + ls G m := by
  induction l with
  | nil => show ls G m = 0 + ls G m; grind
  | cons a l ih => show G a + ls G (l ++ m) = G a + ls G l + ls G m; rw [ih]; grind
theorem sm_ls {L : Type} [Lean.Grind.CommRing L] (n : Nat) (P : Nat → Bool) (f : Nat → Nat) (G : Nat → L) : sm n (fun s => if P s = true then G (f s) else 0) = ls G (((List.range n).filter P).map f) := by
  induction n with
  | zero => rfl
  | succ n ih =>
    rw [sm_succ, ih, List.range_succ, List.filter_append, List.map_append, ls_app]
    congr 1
    by_cases h : P n = true
    · rw [if_pos h, List.filter_cons, if_pos h]
      show G (f n) = G (f n) + 0
      grind
    · rw [if_neg h, List.filter_cons, if_neg h]
      rfl
theorem sm_ri {L : Type} [Lean.Grind.CommRing L] {j : Nat} (hj : j < 6) (G : Nat → L) : sm 64 (fun s => if bt s j = true then G (s - 2 ^ j) else 0) = sm 64 (fun s => if bt s j = true then 0 else G s) := by
  have h := List.all_eq_true.mp ckD_ok j (List.mem_range.mpr hj)
  rw [decide_eq_true_eq] at h
  rw [sm_ls 64 (fun s => bt s j) (fun s => s - 2 ^ j) G, h, ← sm_ls 64 (fun s => !bt s j) (fun s => s) G]
  refine sm_congr (fun s _ => ?_)
  cases bt s j <;> rfl
def qq {L : Type} [Lean.Grind.CommRing L] (n : Nat) (ps : Nat → Nat → L) (s : Nat) : Nat → Nat → L
  | 0 => fun x => if x = 0 then 1 else 0
  | m + 1 => if bt s m = true then wd n (ps m) (qq n ps s m) else qq n ps s m
theorem qq_congr {L : Type} [Lean.Grind.CommRing L] {n : Nat} {ps : Nat → Nat → L} {s s' m : Nat} (h : ∀ l, l < m → bt s l = bt s' l) : qq n ps s m = qq n ps s' m := by
  induction m with
  | zero => rfl
  | succ m ih => rw [qq, qq, ih (fun l hl => h l (by omega)), h m (by omega)]
theorem odm_0 {s j m : Nat} (h : m ≤ j + 1) : odm s j m = false := by
  induction m with
  | zero => rfl
  | succ m ih =>
    rw [odm, ih (by omega), decide_eq_false (show ¬ j < m by omega)]; rfl
theorem wd_qq {L : Type} [Lean.Grind.CommRing L] {n : Nat} (hn : n ≤ 6) (ps : Nat → Nat → L) {s j m : Nat} (hs : s < 64) (hj : j < m) (hm : m ≤ 6) (x : Nat) : wd n (ps j) (qq n ps s m) x = if bt s j = true then 0 else (if odm s j m = true then - qq n ps (s + 2 ^ j) m x else qq n ps (s + 2 ^ j) m x) := by
  induction m generalizing x with
  | zero => omega
  | succ m ih =>
    by_cases e : j = m
    · subst e
      rw [qq]
      by_cases hb : bt s j = true
      · rw [if_pos hb, if_pos hb]; exact wd_sq hn _ _ _
      · have hb' : bt s j = false := by simpa using hb
        obtain ⟨k1, k2⟩ := bits_B' hs (show j < 6 by omega) hb'
        rw [if_neg hb, if_neg hb, odm_0 (Nat.le_refl _), if_neg (by decide), qq, if_pos (by rw [k2 j (by omega)]; simp)]
        rw [qq_congr (s := s + 2 ^ j) (s' := s) (fun l hl => by rw [k2 l (by omega), show (l == j) = false from by simp; omega]; rfl)]
    · have ih := ih (by omega) (by omega)
      by_cases hb : bt s j = true
      · rw [if_pos hb]
        have z0 : ∀ x, wd n (ps j) (qq n ps s m) x = 0 := fun x => by rw [ih x, if_pos hb]
        rw [qq]
        split
        · exact kill_up hn z0 _ _
        · exact z0 x
      · have hb' : bt s j = false := by simpa using hb
        obtain ⟨k1, k2⟩ := bits_B' hs (show j < 6 by omega) hb'
        have k3 : bt (s + 2 ^ j) m = bt s m := by
          rw [k2 m (by omega), show (m == j) = false from by simp; omega]; rfl
        rw [if_neg hb, odm, qq, qq, k3, decide_eq_true (show j < m by omega)]
        by_cases hbm : bt s m = true
        · rw [if_pos hbm, if_pos hbm, wd_anti hn, hbm]
          cases ho : odm s j m with
          | true =>
            have e2 : wd n (ps j) (qq n ps s m) = fun x => (-1 : L) * qq n ps (s + 2 ^ j) m x := funext fun x => by
              rw [ih x, if_neg hb, ho, if_pos rfl]; grind
            rw [e2, wd_c]
            simp only [Bool.and_self, Bool.xor_self, Bool.false_eq_true, if_false]
            grind
          | false =>
            have e2 : wd n (ps j) (qq n ps s m) = qq n ps (s + 2 ^ j) m := funext fun x => by
              rw [ih x, if_neg hb, ho, if_neg (by decide)]
            rw [e2]
            simp only [Bool.and_self, Bool.false_xor, if_true]
        · have hbm' : bt s m = false := by simpa using hbm
          rw [if_neg hbm, if_neg hbm, hbm', ih x, if_neg hb]
          simp only [Bool.and_false, Bool.xor_false]
def phi {L : Type} [Lean.Grind.CommRing L] (n : Nat) (ps : Nat → Nat → L) (c : Nat → L) (x : Nat) : L := sm 64 (fun s => c s * qq n ps s 6 x)
theorem phi_eo {L : Type} [Lean.Grind.CommRing L] {n : Nat} (hn : n ≤ 6) (ps : Nat → Nat → L) {j : Nat} (hj : j < 6) (c : Nat → L) (x : Nat) : phi n ps (eo j c) x = wd n (ps j) (phi n ps c) x := by
  show _ = wd n (ps j) (fun x => sm 64 (fun s => c s * qq n ps s 6 x)) x
  rw [wd_csm n 64 (ps j) c (fun s => qq n ps s 6)]
  have e1 : ∀ s, s < 64 → c s * wd n (ps j) (qq n ps s 6) x = if bt s j = true then 0 else (fun s => c s * (if od s j = true then - qq n ps (s + 2 ^ j) 6 x else qq n ps (s + 2 ^ j) 6 x)) s := fun s hs => by
    rw [wd_qq hn ps hs hj (Nat.le_refl 6)]
    show c s * (if bt s j = true then 0 else (if od s j = true then _ else _)) = _
    split
    · grind
    · rfl
  rw [sm_congr e1, ← sm_ri hj]
  refine sm_congr (fun s hs => ?_)
  by_cases hb : bt s j = true
  · obtain ⟨k1, k2, k3, _⟩ := bits_B hs hj hb
    rw [if_pos hb, eo_yes hs hb]
    show _ = c (s - 2 ^ j) * (if od (s - 2 ^ j) j = true then - qq n ps (s - 2 ^ j + 2 ^ j) 6 x else qq n ps (s - 2 ^ j + 2 ^ j) 6 x)
    rw [k3, Nat.sub_add_cancel k2]
    split <;> grind
  · rw [if_neg hb, eo_no (fun z => hb z.2)]; grind
theorem phi_wd {L : Type} [Lean.Grind.CommRing L] {n : Nat} (hn : n ≤ 6) (ps : Nat → Nat → L) (v c : Nat → L) (x : Nat) : phi n ps (wd n v c) x = wd n (fun l => sm n (fun j => v j * ps j l)) (phi n ps c) x := by
  rw [wd_sm]
  have e : ∀ s, s < 64 → wd n v c s * qq n ps s 6 x = sm n (fun j => v j * (eo j c s * qq n ps s 6 x)) := fun s _ => by
    unfold wd
    rw [← sm_mulR]
    exact sm_congr (fun j _ => by grind)
  show sm 64 (fun s => wd n v c s * qq n ps s 6 x) = _
  rw [sm_congr e, sm_comm]
  refine sm_congr (fun j hj => ?_)
  rw [sm_mulL, ← phi_eo hn ps (show j < 6 by omega)]
  rfl
theorem bt_0 (l : Nat) : bt 0 l = false := by
  unfold bt; rw [Nat.zero_div]; rfl
theorem phi_wp {L : Type} [Lean.Grind.CommRing L] {n : Nat} (hn : n ≤ 6) (ps v : Nat → Nat → L) (m : Nat) : phi n ps (wp n v m) = wp n (fun i l => sm n (fun j => v i j * ps j l)) m := by
  induction m with
  | zero =>
    funext x
    show sm 64 (fun s => (if s = 0 then 1 else 0) * qq n ps s 6 x) = if x = 0 then 1 else 0
    rw [sm_one (k := 0) (by omega) (fun i _ hi => by rw [if_neg hi]; grind), if_pos rfl]
    have q : ∀ m, qq n ps 0 m = fun x => if x = 0 then 1 else 0 := by
      intro m
      induction m with
      | zero => rfl
      | succ m ih => rw [qq, bt_0, if_neg (by decide), ih]
    rw [q]; grind
  | succ m ih =>
    funext x
    show phi n ps (wd n (v m) (wp n v m)) x = wd n (fun l => sm n (fun j => v m j * ps j l)) (wp n _ m) x
    rw [phi_wd hn, ih]
theorem wp_sup {L : Type} [Lean.Grind.CommRing L] {n : Nat} (hn : n ≤ 6) (v : Nat → Nat → L) (m s : Nat) (h : ¬ (s < 2 ^ n ∧ pcn s 6 = m)) : wp n v m s = 0 := by
  induction m generalizing s with
  | zero =>
    show (if s = 0 then 1 else 0) = (0 : L)
    rw [if_neg]
    intro e
    subst e
    exact h ⟨Nat.pow_pos (by omega), by decide⟩
  | succ m ih =>
    refine sm_0 (fun j hj => ?_)
    by_cases hb : s < 64 ∧ bt s j = true
    · obtain ⟨k1, k2, k3, k4, k5⟩ := bits_B hb.1 (show j < 6 by omega) hb.2
      rw [eo_yes hb.1 hb.2, ih (s - 2 ^ j) (fun z => h ⟨k5 n (by omega) hj z.1, by omega⟩)]
      split <;> grind
    · rw [eo_no hb]; grind
theorem qq_full {L : Type} [Lean.Grind.CommRing L] {n : Nat} (hn : n ≤ 6) (ps : Nat → Nat → L) (m : Nat) (hm : m ≤ 6) : qq n ps (2 ^ n - 1) m = wp n ps (if m ≤ n then m else n) := by
  induction m with
  | zero => rw [if_pos (by omega)]; rfl
  | succ m ih =>
    rw [qq, (bits_C hn).2.1 m (by omega), ih (by omega)]
    by_cases h : m < n
    · rw [if_pos (decide_eq_true h), if_pos (by omega), if_pos (by omega)]; rfl
    · rw [if_neg (by simpa using h), if_neg (show ¬ m + 1 ≤ n by omega)]
      by_cases h2 : m ≤ n
      · rw [if_pos h2, show m = n by omega]
      · rw [if_neg h2]
theorem wp_mult {L : Type} [Lean.Grind.CommRing L] {n : Nat} (hn : n ≤ 6) (ps v : Nat → Nat → L) (x : Nat) : wp n (fun i l => sm n (fun j => v i j * ps j l)) n x = wp n v n (2 ^ n - 1) * wp n ps n x := by
  have hC := bits_C hn
  rw [← phi_wp hn ps v n]
  show sm 64 (fun s => wp n v n s * qq n ps s 6 x) = _
  rw [sm_one (k := 2 ^ n - 1) hC.2.2.2 (fun s hs hne => by
    rw [wp_sup hn v n s (fun z => hne (hC.1 s hs z.1 z.2))]; grind), qq_full hn ps 6 (Nat.le_refl 6)]
  by_cases h : 6 ≤ n
  · rw [if_pos h, show (6 : Nat) = n by omega]
  · rw [if_neg h]
theorem wp_e {L : Type} [Lean.Grind.CommRing L] {n : Nat} (hn : n ≤ 6) (m s : Nat) (hm : m ≤ n) : wp n (fun i l => if l = i then (1 : L) else 0) m s = if s = 2 ^ m - 1 then 1 else 0 := by
  induction m generalizing s with
  | zero => rfl
  | succ m ih =>
    show sm n (fun j => (if j = m then (1 : L) else 0) * eo j (wp n (fun i l => if l = i then (1 : L) else 0) m) s) = _
    rw [sm_one (k := m) (by omega) (fun j _ hj => by rw [if_neg hj]; grind), if_pos rfl]
    obtain ⟨k1, k2, k3, k4⟩ := bits_E (show m < 6 by omega)
    by_cases e : s = 2 ^ (m + 1) - 1
    · subst e
      rw [eo_yes k4 k2, k1, if_neg (by decide), k3, ih _ (by omega), if_pos rfl, if_pos rfl]; grind
    · rw [if_neg e]
      by_cases hb : s < 64 ∧ bt s m = true
      · obtain ⟨q1, q2, q3, q4, q5⟩ := bits_B hb.1 (show m < 6 by omega) hb.2
        have hp := Nat.pow_pos (n := m) (show 0 < 2 by omega)
        rw [eo_yes hb.1 hb.2, ih _ (by omega), if_neg (show ¬ s - 2 ^ m = 2 ^ m - 1 from fun z => by rw [Nat.pow_succ] at e; omega)]
        split <;> grind
      · rw [eo_no hb]; grind
/-- the determinant of tau less a matrix, by vectors that span all, and what it makes of them -/
theorem det_ok {L : Type} [Lean.Grind.CommRing L] {n m : Nat} (hn : n ≤ 6) (hm : m ≤ n) (ph b v : Nat → Nat → L) (g : L) (h10 : (1 : L) ≠ 0) (hb : ∀ x, wp n (fun i l => sm n (fun j => b i j * ph j l)) m x = g * wp n b m x) (he : ∀ i l, i < n → l < n → (if l = i then (1 : L) else 0) = sm m (fun a => v i a * b a l)) : m = n ∧ wp n ph n (2 ^ n - 1) = g := by
  have h1 := wp_mult hn (fun a l => if a < m then b a l else 0) v (2 ^ n - 1)
  have e1 : wp n (fun i l => sm n (fun j => v i j * (if j < m then b j l else 0))) n = wp n (fun i l => if l = i then (1 : L) else 0) n := wp_congr (fun i l hi hl => by
    rw [he i l hi hl, sm_ext hm (fun a h1 _ => by rw [if_neg (by omega)]; grind)]
    exact sm_congr (fun a ha => by rw [if_pos ha]))
  rw [e1, wp_e hn n _ (Nat.le_refl n), if_pos rfl] at h1
  have hmn : m = n := by
    apply Classical.byContradiction
    intro hne
    obtain ⟨k, rfl⟩ : ∃ k, n = k + 1 := ⟨n - 1, by omega⟩
    have e2 : wp (k + 1) (fun a l => if a < m then b a l else 0) (k + 1) (2 ^ (k + 1) - 1) = 0 := by
      show wd (k + 1) (fun l => if k < m then b k l else 0) _ _ = 0
      exact sm_0 (fun j _ => by dsimp only; rw [if_neg (by omega)]; grind)
    rw [e2] at h1
    exact h10 (by grind)
  subst hmn
  refine ⟨rfl, ?_⟩
  have e3 : wp m (fun a l => if a < m then b a l else 0) m = wp m b m := wp_congr (fun i l hi hl => if_pos hi)
  rw [e3] at h1
  have h2 := wp_mult hn ph b (2 ^ m - 1)
  rw [hb] at h2
  generalize wp m b m (2 ^ m - 1) = x at *
  generalize wp m v m (2 ^ m - 1) = y at *
  generalize wp m ph m (2 ^ m - 1) = z at *
  have h3 : y * (g * x) = y * (x * z) := by rw [h2]
  grind
end Det
