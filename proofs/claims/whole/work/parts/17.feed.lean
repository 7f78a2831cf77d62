/-! SPAN: keep and feed -/
section FeedH
theorem Aw_cm {I : gI} {q L a k : Nat} {F : Nat → Int32} {v : Int32} (h : a ≠ q) : gU (Aw I q L F) a k v = Aw (gU I a k v) q L F := by
  funext b j
  unfold gU Aw
  dsimp only
  by_cases e : b = a ∧ j = k
  · rw [if_pos e, if_neg (fun z => h (e.1.symm.trans z.1)), if_pos e]
  · rw [if_neg e, if_neg e]
theorem Aw_2 {I : gI} {q r L M : Nat} {A B F G : Nat → Int32} (h : q ≠ r) : Aw (Aw (Aw (Aw I q L A) r M B) q L F) r M G = Aw (Aw I q L F) r M G := by
  funext b j
  unfold Aw
  by_cases e : b = r ∧ j < M
  · rw [if_pos e, if_pos e]
  · rw [if_neg e, if_neg e]
    by_cases e2 : b = q ∧ j < L
    · simp only [if_pos e2, if_neg e]
    · simp only [if_neg e2, if_neg e]
theorem s_keep {p w m f at_ : Nat} {kv km : Nat → Nat → Nat} {ld V M : Nat → Nat} {I : gI} {R : gR} {S : gS} {N : Nat} (hp : p = 2 ∨ p = 3 ∨ p = 5) (hH : SPH p w m f kv km ld I) (hw : w ≤ 36) (hm : m < 7) (hv : ∀ i, i < w → I 18 i = nI (V i)) (hvp : ∀ i, V i < p) (hx : ∀ j, j < 7 → I 19 j = nI (M j)) (hxp : ∀ j, M j < p) (ha : at_ < w) (hV : V at_ ≠ 0) (hN : 50 ≤ N) :
    ∃ J x, f_X6_keep N I R S (nI at_) = some J ∧ Fr 17 36 I J ∧ x < p ∧ x * V at_ % p = 1 ∧ SPH p w (m + 1) f (fun k i => if k = m then V i * x % p else kv k i) (fun k j => if k = m then M j * x % p else km k j) (fun k => if k = m then at_ else ld k) J := by
  obtain ⟨h1, h2, h3, h4, h5, h6, h7⟩ := hH
  have hp5 : 2 ≤ p ∧ p ≤ 5 := by omega
  obtain ⟨x, x1, x2, x3⟩ := s_inverseNumber (N := N) (R := R) (S := S) hp h1 (Nat.pos_of_ne_zero hV) (hvp at_) (by omega)
  have hb : ∀ a, a < p → a * x < 2147483648 := fun a ha => by
    have := Nat.mul_le_mul (show a ≤ 5 by omega) (show x ≤ 5 by omega)
    omega
  refine ⟨gU (gU (Aw (Aw I (21 + m) w (fun i => nI (V i * x % p))) (29 + m) 7 (fun j => nI (M j * x % p))) 36 m (nI at_)) 17 8 (nI (m + 1)), x, ?_, ?_, x1, x2, ?_⟩
  · unfold f_X6_keep
    have k1 : ∀ (F : Nat → Int32) a j, a ≠ 21 + m → Aw I (21 + m) w F a j = I a j := fun F a j h => Aw_ne j h
    rw [h3, show (7 : Int32) = nI 7 from rfl, glt_t hm (by omega), nI_clamp (by omega), gin2 (by omega) (by omega), hv at_ ha, x3]
    refine iter_bind (fun i => (nI i, Aw I (21 + m) w (fun j => if j < i then nI (V j * x % p) else I (21 + m) j))) w (Aw I (21 + m) w (fun i => nI (V i * x % p))) ?_ ?_ ?_ (by omega) ?_
    · rw [nI_0]
      congr 1
      refine (Aw_same (fun j hj => ?_)).symm
      rw [if_neg (by omega)]
    · intro i hi
      have hbb := hb (V i) (hvp i)
      simp (disch := omega) only [k1, h2, h3, h1, hv, gle_f, gin2, gnz, nI_clamp, pk_mul, pk_div, pk_rem2, Aw_up, nI_1]
      congr 4
      funext j
      by_cases e : j = i
      · rw [if_pos e, if_pos (by omega), e]
      · rw [if_neg e]
        by_cases e2 : j < i
        · rw [if_pos e2, if_pos (by omega)]
        · rw [if_neg e2, if_neg (by omega)]
    · simp (disch := omega) only [k1, h2, gle_t]
      congr 2
      refine Aw_congr (fun j hj => ?_)
      rw [if_pos hj]
    · generalize (fun i => nI (V i * x % p)) = A
      have k2 : ∀ (F : Nat → Int32) a j, a ≠ 29 + m → a ≠ 21 + m → Aw (Aw I (21 + m) w A) (29 + m) 7 F a j = I a j := fun F a j h h' => by rw [Aw_ne j h, Aw_ne j h']
      refine iter_bind (fun i => (nI i, Aw (Aw I (21 + m) w A) (29 + m) 7 (fun j => if j < i then nI (M j * x % p) else I (29 + m) j))) 7 (Aw (Aw I (21 + m) w A) (29 + m) 7 (fun j => nI (M j * x % p))) ?_ ?_ ?_ (by omega) ?_
      · rw [nI_0]
        congr 1
        refine (Aw_same (fun j hj => ?_)).symm
        rw [if_neg (by omega), Aw_ne _ (by omega)]
      · intro i hi
        have hbb := hb (M i) (hxp i)
        simp (disch := omega) only [k2, h3, h1, hx, gle_f, gin2, gnz, nI_clamp, pk_mul, pk_div, pk_rem2, Aw_up, nI_1]
        congr 4
        funext j
        by_cases e : j = i
        · rw [if_pos e, if_pos (by omega), e]
        · rw [if_neg e]
          by_cases e2 : j < i
          · rw [if_pos e2, if_pos (by omega)]
          · rw [if_neg e2, if_neg (by omega)]
      · simp (disch := omega) only [gle_t]
        congr 2
        refine Aw_congr (fun j hj => ?_)
        rw [if_pos hj]
      · show (if _ then _ else _) = _
        simp (disch := omega) only [k2, h3, gin2, nI_clamp, gU_ne]
        rw [show (1 : Int32) = nI 1 from rfl, nI_add]
  · intro a ha
    rw [gU_cell _ _ _ (by omega), gU_cell _ _ _ (by omega), Aw_row (by omega), Aw_row (by omega)]
  · have q1 : ∀ j, j ≠ 8 → gU (gU (Aw (Aw I (21 + m) w (fun i => nI (V i * x % p))) (29 + m) 7 (fun j => nI (M j * x % p))) 36 m (nI at_)) 17 8 (nI (m + 1)) 17 j = I 17 j := fun j hj => by
      rw [gU_slot _ _ _ hj, gU_ne _ _ _ _ (by omega), Aw_ne _ (by omega), Aw_ne _ (by omega)]
    refine ⟨by rw [q1 _ (by decide)]; exact h1, by rw [q1 _ (by decide)]; exact h2, gU_at _ _ _ _, by rw [q1 _ (by decide)]; exact h4, ?_, ?_, ?_⟩
    · intro k i hk hi
      rw [gU_ne _ _ _ _ (by omega), gU_ne _ _ _ _ (by omega), Aw_ne _ (by omega)]
      by_cases e : k = m
      · subst e
        rw [Aw_at hi]; exact congrArg nI (if_pos rfl).symm
      · rw [Aw_ne _ (by omega)]; exact (h5 k i (by omega) hi).trans (congrArg nI (if_neg e).symm)
    · intro k i hk hi
      rw [gU_ne _ _ _ _ (by omega), gU_ne _ _ _ _ (by omega)]
      by_cases e : k = m
      · subst e
        rw [Aw_at hi]; exact congrArg nI (if_pos rfl).symm
      · rw [Aw_ne _ (by omega), Aw_ne _ (by omega)]; exact (h6 k i (by omega) hi).trans (congrArg nI (if_neg e).symm)
    · intro k hk
      rw [gU_ne _ _ _ _ (by omega)]
      by_cases e : k = m
      · subst e
        rw [gU_at]; exact congrArg nI (if_pos rfl).symm
      · rw [gU_slot _ _ _ e, Aw_ne _ (by omega), Aw_ne _ (by omega)]; exact (h7 k (by omega)).trans (congrArg nI (if_neg e).symm)
/-- what is left of a vector, and its mix, when the first k that were kept are taken away -/
def tk (p : Nat) (ld : Nat → Nat) (kv km : Nat → Nat → Nat) (v mx : Nat → Nat) : Nat → (Nat → Nat) × (Nat → Nat)
  | 0 => (v, mx)
  | k + 1 => (fun i => ((tk p ld kv km v mx k).1 i + (p - (tk p ld kv km v mx k).1 (ld k)) * kv k i) % p, fun j => ((tk p ld kv km v mx k).2 j + (p - (tk p ld kv km v mx k).1 (ld k)) * km k j) % p)
theorem tk_lt {p : Nat} {ld v mx : Nat → Nat} {kv km : Nat → Nat → Nat} (hp : 0 < p) (hv : ∀ i, v i < p) (hm : ∀ j, mx j < p) (k : Nat) : (∀ i, (tk p ld kv km v mx k).1 i < p) ∧ ∀ j, (tk p ld kv km v mx k).2 j < p := by
  cases k with
  | zero => exact ⟨hv, hm⟩
  | succ k => exact ⟨fun i => Nat.mod_lt _ hp, fun j => Nat.mod_lt _ hp⟩
theorem SPN_f {p w m f : Nat} {kv km : Nat → Nat → Nat} {ld : Nat → Nat} (h : SPN p w m f kv km ld) (hf : f < 7) : SPN p w m (f + 1) kv km ld := by
  obtain ⟨s1, s2, s3, s4, s5, s6, s7⟩ := h
  exact ⟨s1, s2.imp (fun z => by omega) id, by omega, s4, s5, s6, fun k j hj => s7 k j (by omega)⟩
theorem s_feed {p w m f : Nat} {kv km : Nat → Nat → Nat} {ld v : Nat → Nat} {I : gI} {R : gR} {S : gS} {N : Nat} (hp : p = 2 ∨ p = 3 ∨ p = 5) (hH : SPH p w m f kv km ld I) (hS : SPN p w m f kv km ld) (hpl : ∀ i, i < 8 → I 7 i = nI (p ^ i)) (hf : f < 7) (hv : ∀ i, i < w → I 18 i = nI (v i)) (hvp : ∀ i, v i < p) (hSl : S[19]? = some (12, 7)) (hN : 50 ≤ N) :
    ∃ J, Fr 17 36 I J ∧ (((∀ i, i < w → (tk p ld kv km v (fun j => if j = f then 1 else 0) m).1 i = 0) ∧ f_X6_feed N I R S = some (nI (enc p (f + 1) (tk p ld kv km v (fun j => if j = f then 1 else 0) m).2), J) ∧ SPH p w m (f + 1) kv km ld J) ∨ (∃ at_ x, at_ < w ∧ x < p ∧ x * (tk p ld kv km v (fun j => if j = f then 1 else 0) m).1 at_ % p = 1 ∧ (∀ i, i < at_ → (tk p ld kv km v (fun j => if j = f then 1 else 0) m).1 i = 0) ∧ f_X6_feed N I R S = some (0, J) ∧ SPH p w (m + 1) (f + 1) (fun k i => if k = m then (tk p ld kv km v (fun j => if j = f then 1 else 0) m).1 i * x % p else kv k i) (fun k j => if k = m then (tk p ld kv km v (fun j => if j = f then 1 else 0) m).2 j * x % p else km k j) (fun k => if k = m then at_ else ld k) J)) := by
  have hp5 : 2 ≤ p ∧ p ≤ 5 := by omega
  have hS1 := SPN_f hS hf
  have smw := SPN_mw hS
  obtain ⟨h1, h2, h3, h4, h5, h6, h7⟩ := hH
  obtain ⟨s1, s2, s3, s4, s5, s6, s7⟩ := hS
  have hlt : ∀ k, (∀ i, (tk p ld kv km v (fun j => if j = f then 1 else 0) k).1 i < p) ∧ ∀ j, (tk p ld kv km v (fun j => if j = f then 1 else 0) k).2 j < p := fun k => tk_lt (by omega) hvp (fun j => by split <;> omega) k
  have htk : ∀ k, tk p ld kv km v (fun j => if j = f then 1 else 0) (k + 1) = (fun i => ((tk p ld kv km v (fun j => if j = f then 1 else 0) k).1 i + (p - (tk p ld kv km v (fun j => if j = f then 1 else 0) k).1 (ld k)) * kv k i) % p, fun j => ((tk p ld kv km v (fun j => if j = f then 1 else 0) k).2 j + (p - (tk p ld kv km v (fun j => if j = f then 1 else 0) k).1 (ld k)) * km k j) % p) := fun k => rfl
  have h00 : tk p ld kv km v (fun j => if j = f then 1 else 0) 0 = (v, fun j => if j = f then 1 else 0) := rfl
  generalize hT : tk p ld kv km v (fun j => if j = f then 1 else 0) = T at *
  have hB : ∃ B, B = gU I 17 9 (nI (f + 1)) := ⟨_, rfl⟩
  obtain ⟨B, hB⟩ := hB
  have B17 : ∀ j, j ≠ 9 → B 17 j = I 17 j := fun j hj => by rw [hB, gU_slot _ _ _ hj]
  have B9 : B 17 9 = nI (f + 1) := by rw [hB, gU_at]
  have Bne : ∀ a, a ≠ 17 → B a = I a := fun a ha => by rw [hB, gU_cell _ _ _ ha]
  have hHk : ∀ k, SPH p w m (f + 1) kv km ld (Aw (Aw B 18 w (fun i => nI ((T k).1 i))) 19 7 (fun j => nI ((T k).2 j))) := fun k => by
    refine SPH_of (I := B) ⟨by rw [B17 _ (by decide)]; exact h1, by rw [B17 _ (by decide)]; exact h2, by rw [B17 _ (by decide)]; exact h3, B9, ?_, ?_, ?_⟩ (by omega) (fun a ha => by rw [Aw_row (by omega), Aw_row (by omega)])
    · intro k i hk hi; rw [Bne _ (by omega)]; exact h5 k i hk hi
    · intro k i hk hi; rw [Bne _ (by omega)]; exact h6 k i hk hi
    · intro k hk; rw [Bne _ (by omega)]; exact h7 k hk
  have hvk : ∀ k i, i < w → Aw (Aw B 18 w (fun i => nI ((T k).1 i))) 19 7 (fun j => nI ((T k).2 j)) 18 i = nI ((T k).1 i) := fun k i hi => by rw [Aw_ne _ (by decide), Aw_at hi]
  have hxk : ∀ k j, j < 7 → Aw (Aw B 18 w (fun i => nI ((T k).1 i))) 19 7 (fun j => nI ((T k).2 j)) 19 j = nI ((T k).2 j) := fun k i hi => by rw [Aw_at hi]
  have hfr : Fr 17 36 I (Aw (Aw B 18 w (fun i => nI ((T m).1 i))) 19 7 (fun j => nI ((T m).2 j))) := fun a ha => by
    rw [Aw_row (by omega), Aw_row (by omega), Bne _ (by omega)]
  obtain ⟨at_, a1, a2, a3, a4⟩ := s_firstNumber (N := N) (R := R) (S := S) (hHk m).2.1 s1 (hvk m) (fun i => by have := (hlt m).1 i; omega) hN
  have hrun : ∀ (y : Option (Int32 × gI)), (if nI at_ = nI w then ((f_X6_mixCode N (Aw (Aw B 18 w (fun i => nI ((T m).1 i))) 19 7 (fun j => nI ((T m).2 j))) R S).bind (fun z7 => some (z7, (Aw (Aw B 18 w (fun i => nI ((T m).1 i))) 19 7 (fun j => nI ((T m).2 j)))))) else ((f_X6_keep N (Aw (Aw B 18 w (fun i => nI ((T m).1 i))) 19 7 (fun j => nI ((T m).2 j))) R S (nI at_)).bind (fun z6 => some ((0 : Int32), z6)))) = y → f_X6_feed N I R S = y := by
    intro y hy
    unfold f_X6_feed
    rw [h4, show (7 : Int32) = nI 7 from rfl, glt_t hf (by omega), s_fill hSl (by omega) (by omega)]
    show (if _ then _ else _) = _
    simp (disch := omega) only [Aw_ne, h4, nI_clamp, gin2, gU_ne]
    rw [show (1 : Int32) = nI 1 from rfl, nI_add, Aw_up hf, Aw_cm (by decide), ← hB]
    refine iter_bind (fun k => (nI k, Aw (Aw B 18 w (fun i => nI ((T k).1 i))) 19 7 (fun j => nI ((T k).2 j)))) m (Aw (Aw B 18 w (fun i => nI ((T m).1 i))) 19 7 (fun j => nI ((T m).2 j))) ?_ ?_ ?_ (by omega) ?_
    · rw [h00, nI_0]
      have e1 : Aw B 18 w (fun i => nI (v i)) = B := Aw_same (fun i hi => by rw [Bne _ (by decide), hv i hi])
      show _ = (0, Aw (Aw B 18 w (fun i => nI (v i))) 19 7 (fun j => nI (if j = f then 1 else 0)))
      rw [e1]
      congr 2
      funext j
      split
      · rfl
      · exact nI_0.symm
    · intro k hk
      dsimp only
      simp only [(hHk k).2.2.1]
      rw [gle_f hk (by omega), s_takeAway (hHk k) hS1 hp5.1 hp5.2 (hvk k) (hlt k).1 (hxk k) (hlt k).2 hk hN, Aw_2 (by decide)]
      show some (Sum.inl (nI k + nI 1, _)) = _
      rw [nI_add, htk k]
    · dsimp only
      simp only [(hHk m).2.2.1]
      rw [gle_t (Nat.le_refl m) (by omega)]
    · show (f_X6_firstNumber N _ R S).bind _ = _
      rw [a2]
      show (if nI at_ = _ then _ else _) = _
      rw [(hHk m).2.1]
      exact hy
  by_cases e : at_ = w
  · refine ⟨_, hfr, .inl ⟨fun i hi => a3 i (by omega), hrun _ ?_, hHk m⟩⟩
    rw [geq_t e, s_mixCode (hHk m).2.2.2.1 (by omega) (hxk m) (fun i hi => by rw [Aw_ne _ (by decide), Aw_ne _ (by decide), Bne _ (by decide)]; exact hpl i hi) (by omega)]
    rfl
  · have hm7 : m < 7 := by omega
    obtain ⟨J, x, j1, j2, j3, j4, j5⟩ := s_keep (N := N) (R := R) (S := S) hp (hHk m) s1 hm7 (hvk m) (hlt m).1 (hxk m) (hlt m).2 (show at_ < w by omega) (a4 (by omega)) hN
    refine ⟨J, hfr.trans j2, .inr ⟨at_, x, by omega, j3, j4, a3, hrun _ ?_, j5⟩⟩
    rw [geq_f e (by omega) (by omega), j1]
    rfl
end FeedH
