abbrev gI : Type := Nat → Nat → Int32
abbrev gR : Type := Nat → Nat → Option Nat
abbrev gS : Type := List (Nat × Nat)
section GBase
variable {I : gI} {R : gR} {S : gS}
def gU {α : Type} (I : Nat → Nat → α) (q k : Nat) (v : α) : Nat → Nat → α := fun a j => if a = q ∧ j = k then v else I a j
theorem gU_at {α : Type} (I : Nat → Nat → α) (q k : Nat) (v : α) : gU I q k v q k = v := if_pos ⟨rfl, rfl⟩
theorem gU_cell {α : Type} (I : Nat → Nat → α) {q a : Nat} (k : Nat) (v : α) (h : a ≠ q) : gU I q k v a = I a := by
  funext j
  exact if_neg fun x => h x.1
theorem gU_slot {α : Type} (I : Nat → Nat → α) (q : Nat) {k j : Nat} (v : α) (h : j ≠ k) : gU I q k v q j = I q j := if_neg fun x => h x.2
theorem gU_row (I : gI) (q k : Nat) (v : Int32) : gU I q k v q = upd (I q) k v := by
  funext j
  by_cases h : j = k
  · subst h; simp [gU, upd]
  · simp [gU, upd, h]
theorem gU_rowR (R : gR) (q k : Nat) (v : Option Nat) : gU R q k v q = va_up (R q) k v := by
  funext j
  by_cases h : j = k
  · subst h; simp [gU, va_up]
  · simp [gU, va_up, h]
/-- two references that come and go are kept among the ints: 0 is none, k + 1 is cell k (slots from 1000 on) -/
def gdec (x : Int32) : Option Nat := if x = 0 then none else some (x.toNatClampNeg - 1)
def genc (w : Nat) : Int32 := nI (w + 1)
theorem gdec_enc {w : Nat} (h : w + 1 < 2 ^ 31) : gdec (genc w) = some w := by
  unfold gdec genc
  rw [if_neg (nI_ne0 (by omega) h), nI_clamp h]
  rfl
/-- a loop: b gives the next state, or the end's -/
def iter {σ ρ : Type} (b : σ → Option (σ ⊕ ρ)) : Nat → σ → Option ρ
  | 0, _ => none
  | n + 1, s => match b s with
    | none => none
    | some (.inl s') => iter b n s'
    | some (.inr r) => some r
theorem iter_go {σ ρ : Type} {b : σ → Option (σ ⊕ ρ)} {s s' : σ} {n : Nat} (h : b s = some (.inl s')) : iter b (n + 1) s = iter b n s' := by
  show (match b s with | none => none | some (.inl s') => iter b n s' | some (.inr r) => some r) = _
  rw [h]
theorem iter_end {σ ρ : Type} {b : σ → Option (σ ⊕ ρ)} {s : σ} {r : ρ} {n : Nat} (h : b s = some (.inr r)) : iter b (n + 1) s = some r := by
  show (match b s with | none => none | some (.inl s') => iter b n s' | some (.inr r) => some r) = _
  rw [h]
/-- a loop that counts: the states are st 0, st 1, .., st k, and then it ends -/
theorem iter_count {σ ρ : Type} {b : σ → Option (σ ⊕ ρ)} (f : Nat → σ) {r : ρ} (k : Nat) (hs : ∀ i, i < k → b (f i) = some (.inl (f (i + 1)))) (he : b (f k) = some (.inr r)) {N : Nat} (hN : k < N) : iter b N (f 0) = some r := by
  have : ∀ j i N, i + j = k → j < N → iter b N (f i) = some r := by
    intro j
    induction j with
    | zero =>
      intro i N hi hN
      obtain ⟨n, rfl⟩ : ∃ n, N = n + 1 := ⟨N - 1, by omega⟩
      rw [show i = k by omega]
      exact iter_end he
    | succ j ih =>
      intro i N hi hN
      obtain ⟨n, rfl⟩ : ∃ n, N = n + 1 := ⟨N - 1, by omega⟩
      rw [iter_go (hs i (by omega))]
      exact ih (i + 1) n (by omega) (by omega)
  exact this k 0 N (by omega) hN
/-- a row of ints that is known by its address alone: how long it is (0: no row of ints) -/
def gLn (S : gS) (q : Nat) : Nat := match S[q]? with
  | some (12, n) => n
  | _ => 0
def gAr (S : gS) (q : Nat) : Bool := match S[q]? with
  | some (12, _) => true
  | _ => false
theorem gLn_at {q : Nat} (h : 0 < gLn S q) : S[q]? = some (12, gLn S q) := by
  unfold gLn at h ⊢
  split at h
  · rename_i n hq
    rw [hq]
  · omega
theorem gAr_at {q : Nat} (h : gAr S q = true) : S[q]? = some (12, gLn S q) := by
  unfold gAr at h
  unfold gLn
  split at h
  · rename_i n hq
    rw [hq]
  · cases h
/-- a world: an object of one of the four kinds, its row of four numbers -/
def gWb (R : gR) (S : gS) (w : Nat) : Bool := (match S[w]? with
  | some x => x == (1, 4) || x == (3, 4) || x == (4, 5) || x == (7, 5)
  | none => false) && (match R w 0 with
  | some b => S[b]? == some (12, 4)
  | none => false)
def gt (R : gR) (w : Nat) : Nat := (R w 0).getD 0
/-- the kind of a cell -/
def gK (S : gS) (w : Nat) : Nat := match S[w]? with
  | some x => x.1
  | none => 99
theorem gWb_t {w : Nat} (h : gWb R S w = true) : R w 0 = some (gt R w) ∧ S[gt R w]? = some (12, 4) := by
  unfold gWb at h
  rw [Bool.and_eq_true] at h
  unfold gt
  cases hr : R w 0 with
  | none => rw [hr] at h; cases h.2
  | some b =>
    rw [hr] at h
    exact ⟨rfl, by simpa using h.2⟩
theorem gWb_k {w : Nat} (h : gWb R S w = true) : S[w]? = some (1, 4) ∨ S[w]? = some (3, 4) ∨ S[w]? = some (4, 5) ∨ S[w]? = some (7, 5) := by
  unfold gWb at h
  rw [Bool.and_eq_true] at h
  cases hr : S[w]? with
  | none => rw [hr] at h; cases h.1
  | some x =>
    rw [hr] at h
    have h1 := h.1
    simp only [Bool.or_eq_true, beq_iff_eq] at h1
    rcases h1 with ((h1 | h1) | h1) | h1 <;> subst h1 <;> simp
/-- System.arraycopy of ints -/
def gCopy (I : gI) (a b sp dp n : Nat) : gI := fun q j => if q = b then va_cpy (I a) (I b) sp dp n j else I q j
theorem gCopy_row (a b sp dp n : Nat) : gCopy I a b sp dp n b = va_cpy (I a) (I b) sp dp n := by
  funext j; exact if_pos rfl
theorem gCopy_cell {q : Nat} (a b sp dp n : Nat) (h : q ≠ b) : gCopy I a b sp dp n q = I q := by
  funext j; exact if_neg h
/-- a new cell holds nothing -/
def gZ (I : gI) (q : Nat) : gI := fun a j => if a = q then 0 else I a j
def gZn (R : gR) (q : Nat) : gR := fun a j => if a = q then none else R a j
theorem gZ_at (q : Nat) : gZ I q q = fun _ => 0 := by funext j; exact if_pos rfl
theorem gZ_ne {q a : Nat} (h : a ≠ q) : gZ I q a = I a := by funext j; exact if_neg h
theorem gZn_at (q : Nat) : gZn R q q = fun _ => none := by funext j; exact if_pos rfl
theorem gZn_ne {q a : Nat} (h : a ≠ q) : gZn R q a = R a := by funext j; exact if_neg h
/-- the cells from q on, n + 1 of them, hold nothing -/
def gZs (I : gI) (q n : Nat) : gI := fun a j => if q ≤ a ∧ a ≤ q + n then 0 else I a j
/-- the cell q is a row of n references to the n cells behind it -/
def gZg (R : gR) (q n : Nat) : gR := fun a j => if a = q then (if j < n then some (q + 1 + j) else none) else R a j
/-- a cell is of one of the four kinds of worlds -/
def gKb (S : gS) (w : Nat) : Bool := match S[w]? with
  | some x => x == (1, 4) || x == (3, 4) || x == (4, 5) || x == (7, 5)
  | none => false
theorem gKb_k {w : Nat} (h : gKb S w = true) : S[w]? = some (1, 4) ∨ S[w]? = some (3, 4) ∨ S[w]? = some (4, 5) ∨ S[w]? = some (7, 5) := by
  unfold gKb at h
  cases hr : S[w]? with
  | none => rw [hr] at h; cases h
  | some x =>
    rw [hr] at h
    have h1 := h
    simp only [Bool.or_eq_true, beq_iff_eq] at h1
    rcases h1 with ((h1 | h1) | h1) | h1 <;> subst h1 <;> simp
theorem gK_of {w k n : Nat} (h : S[w]? = some (k, n)) : gK S w = k := by
  unfold gK; rw [h]
theorem gW_kb {w : Nat} (h : gWb R S w = true) : gKb S w = true := by
  unfold gWb at h
  rw [Bool.and_eq_true] at h
  exact h.1
/-- the shapes of the cells that stand once both are made -/
def layS : List (Nat × Nat) := [(10, 8), (14, 8), (15, 10), (9, 2), (12, 16), (12, 5), (2, 8), (12, 8), (12, 6), (13, 6), (12, 6), (12, 6), (12, 6), (12, 6), (12, 6), (12, 6), (12, 12), (6, 10), (12, 36), (12, 7), (13, 7), (12, 36), (12, 36), (12, 36), (12, 36), (12, 36), (12, 36), (12, 36), (13, 7), (12, 7), (12, 7), (12, 7), (12, 7), (12, 7), (12, 7), (12, 7), (12, 7), (8, 10), (13, 7), (12, 19), (12, 19), (12, 19), (12, 19), (12, 19), (12, 19), (12, 19), (12, 19), (13, 6), (12, 6), (12, 6), (12, 6), (12, 6), (12, 6), (12, 6), (12, 19), (12, 19), (0, 12), (13, 6), (12, 6), (12, 6), (12, 6), (12, 6), (12, 6), (12, 6), (13, 6), (12, 6), (12, 6), (12, 6), (12, 6), (12, 6), (12, 6), (12, 6), (12, 6), (12, 6), (12, 6), (5, 3), (12, 24), (5, 3), (12, 24), (5, 3), (12, 24), (5, 3), (12, 24), (5, 3), (12, 24), (5, 3), (12, 24), (5, 3), (12, 24), (5, 3), (12, 24), (11, 29), (12, 16), (12, 16), (12, 16), (12, 16), (12, 15625), (12, 15625), (12, 8), (12, 8), (12, 192), (12, 10), (12, 40), (12, 24), (12, 24), (12, 24), (12, 8), (12, 4), (12, 5), (12, 42), (12, 448), (12, 36), (12, 20), (12, 16)]
/-- the references among them that never change: cell, slot, cell -/
def layR : List (Nat × Nat × Nat) := [(0, 0, 6), (0, 1, 37), (0, 2, 56), (0, 3, 1), (0, 4, 2), (0, 5, 3), (0, 6, 5), (1, 0, 75), (1, 1, 77), (1, 2, 79), (1, 3, 81), (1, 4, 83), (1, 5, 85), (1, 6, 87), (1, 7, 89), (3, 0, 4), (6, 4, 7), (6, 5, 8), (6, 6, 9), (6, 7, 16), (9, 0, 10), (9, 1, 11), (9, 2, 12), (9, 3, 13), (9, 4, 14), (9, 5, 15), (17, 0, 6), (17, 2, 18), (17, 3, 19), (17, 4, 20), (17, 5, 28), (17, 6, 36), (20, 0, 21), (20, 1, 22), (20, 2, 23), (20, 3, 24), (20, 4, 25), (20, 5, 26), (20, 6, 27), (28, 0, 29), (28, 1, 30), (28, 2, 31), (28, 3, 32), (28, 4, 33), (28, 5, 34), (28, 6, 35), (37, 0, 6), (37, 1, 17), (37, 3, 38), (37, 6, 46), (37, 7, 47), (37, 8, 54), (37, 9, 55), (38, 0, 39), (38, 1, 40), (38, 2, 41), (38, 3, 42), (38, 4, 43), (38, 5, 44), (38, 6, 45), (47, 0, 48), (47, 1, 49), (47, 2, 50), (47, 3, 51), (47, 4, 52), (47, 5, 53), (56, 0, 6), (56, 1, 17), (56, 4, 57), (56, 6, 64), (56, 7, 71), (56, 8, 72), (56, 9, 73), (56, 10, 74), (57, 0, 58), (57, 1, 59), (57, 2, 60), (57, 3, 61), (57, 4, 62), (57, 5, 63), (64, 0, 65), (64, 1, 66), (64, 2, 67), (64, 3, 68), (64, 4, 69), (64, 5, 70), (75, 0, 76), (77, 0, 78), (79, 0, 80), (81, 0, 82), (83, 0, 84), (85, 0, 86), (87, 0, 88), (89, 0, 90), (91, 6, 92), (91, 7, 93), (91, 8, 94), (91, 9, 95), (91, 10, 96), (91, 11, 97), (91, 12, 98), (91, 13, 99), (91, 14, 100), (91, 15, 101), (91, 16, 102), (91, 17, 103), (91, 18, 104), (91, 19, 105), (91, 20, 106), (91, 21, 107), (91, 22, 108), (91, 23, 109), (91, 24, 110), (91, 25, 111), (91, 26, 112), (91, 27, 113)]
def gLay (a b : Nat) (R : gR) (S : gS) : Prop := (∀ q, a ≤ q → q < b → S[q]? = layS[q]?) ∧ ∀ x ∈ layR, a ≤ x.1 → x.1 < b → R x.1 x.2.1 = some x.2.2
theorem gLay.sub {a b a1 b1 : Nat} {R : gR} {S : gS} (h : gLay a b R S) (h1 : a ≤ a1) (h2 : b1 ≤ b) : gLay a1 b1 R S := ⟨fun q x y => h.1 q (Nat.le_trans h1 x) (Nat.lt_of_lt_of_le y h2), fun z hz x y => h.2 z hz (Nat.le_trans h1 x) (Nat.lt_of_lt_of_le y h2)⟩
theorem gLay.app {a b : Nat} {R : gR} {S T : gS} (h : gLay a b R S) (hb : b ≤ 114) : gLay a b R (S ++ T) := ⟨fun q x y => by
  have e := h.1 q x y
  have hl : q < layS.length := Nat.lt_of_lt_of_le y (Nat.le_trans hb (by decide))
  have hs : q < S.length := by
    rw [List.getElem?_eq_getElem hl] at e
    exact (List.getElem?_eq_some_iff.mp e).1
  rw [List.getElem?_append_left hs]; exact e, h.2⟩
theorem gLay.up {a b q k : Nat} {v : Option Nat} {R : gR} {S : gS} (h : gLay a b R S) (hk : layR.all (fun x => !(x.1 == q && x.2.1 == k)) = true) : gLay a b (gU R q k v) S := ⟨h.1, fun x hx h1 h2 => by
  have := List.all_eq_true.mp hk x hx
  have hn : ¬ (x.1 = q ∧ x.2.1 = k) := fun e => by simp [e.1, e.2] at this
  show (if x.1 = q ∧ x.2.1 = k then v else R x.1 x.2.1) = _
  rw [if_neg hn]; exact h.2 x hx h1 h2⟩
def gLayb (a b : Nat) (R : gR) (S : gS) : Bool := (List.range b).all (fun q => decide (q < a) || S[q]? == layS[q]?) && layR.all (fun x => decide (x.1 < a) || decide (b ≤ x.1) || R x.1 x.2.1 == some x.2.2)
theorem gLayb_ok {a b : Nat} (hb : b ≤ 114) (h : gLayb a b R S = true) : gLay a b R S := by
  unfold gLayb at h
  rw [Bool.and_eq_true] at h
  refine ⟨fun q h1 h2 => ?_, fun x hx h1 h2 => ?_⟩
  · have := List.all_eq_true.mp h.1 q (List.mem_range.mpr h2)
    simp only [Bool.or_eq_true, decide_eq_true_eq, beq_iff_eq] at this
    rcases this with z | z
    · omega
    · exact z
  · have := List.all_eq_true.mp h.2 x hx
    simp only [Bool.or_eq_true, decide_eq_true_eq, beq_iff_eq] at this
    rcases this with (z | z) | z
    · omega
    · omega
    · exact z
/-- the numbers that stand in the class's row of moduli -/
def gMod (j : Nat) : Int32 := ([2, 7, 11, 19, 37, 67, 3, 10, 34, 86, 250, 734, 5, 27, 131, 627, 3146, 15632] : List Int32).getD j 0
theorem gS_app {q : Nat} {x : Nat × Nat} {T : gS} (h : S[q]? = some x) : (S ++ T)[q]? = some x := by
  rw [List.getElem?_append_left (List.getElem?_eq_some_iff.mp h).1]; exact h
theorem gS_last {q : Nat} {x : Nat × Nat} (h : S.length = q) : (S ++ [x])[q]? = some x := by
  subst h; rw [List.getElem?_append_right (Nat.le_refl _), Nat.sub_self]; rfl
theorem gS_lastG {q : Nat} {x : Nat × Nat} {T : gS} (h : S.length = q) : (S ++ (x :: T))[q]? = some x := by
  subst h; rw [List.getElem?_append_right (Nat.le_refl _), Nat.sub_self]; rfl
end GBase
