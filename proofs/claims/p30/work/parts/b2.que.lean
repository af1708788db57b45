/-! p30: a word that leaves a queue is finished; when silence comes -/
theorem sm_add (f : Nat → Int32) (y : Int32) : ∀ d k x, sm f d k (x + y) = sm f d k x + y
  | 0, _, _ => rfl
  | d + 1, k, x => by
    show sm f d (k + 1) (x + y + f k) = sm f d (k + 1) (x + f k) + y
    rw [Int32.add_assoc, Int32.add_comm y, ← Int32.add_assoc]
    exact sm_add f y d (k + 1) (x + f k)
theorem sm_at {f f' : Nat → Int32} {i : Nat} (y : Int32) (ho : ∀ j, j ≠ i → f' j = f j) (hi : f' i = f i + y) : ∀ d k x, k ≤ i → i < k + d → sm f' d k x = sm f d k x + y
  | 0, k, x, h1, h2 => absurd h2 (by omega)
  | d + 1, k, x, h1, h2 => by
    show sm f' d (k + 1) (x + f' k) = sm f d (k + 1) (x + f k) + y
    by_cases e : k = i
    · subst e
      rw [hi, ← Int32.add_assoc, sm_add]
      congr 1
      have key : ∀ d q x, k + 1 ≤ q → sm f' d q x = sm f d q x := by
        intro d
        induction d with
        | zero => intros; rfl
        | succ d ih =>
          intro q x hq
          show sm f' d (q + 1) (x + f' q) = sm f d (q + 1) (x + f q)
          rw [ho q (by omega)]
          exact ih (q + 1) _ (by omega)
      exact key d (k + 1) _ (Nat.le_refl _)
    · rw [ho k e]
      exact sm_at y ho hi d (k + 1) (x + f k) (by omega) (by omega)
theorem fS_5 (g : NW) (k : Nat) : fS g 5 k = if g 1 k 0 = 1 then g 1 k 3 else 0 := by
  unfold fS
  rw [if_neg (show ¬ (5 : Int32) = 1 by decide), if_neg (show ¬ (5 : Int32) = 4 by decide)]
theorem qs_of {g g' : NW} (e : ∀ k, k < 5 → g' 1 k 0 = g 1 k 0 ∧ g' 1 k 3 = g 1 k 3) : qs g' = qs g :=
  sm_congr (N := 5) (fun k hk => by rw [fS_5, fS_5, (e k hk).1, (e k hk).2]) 5 0 0 (by omega)
theorem finG_70 (g : NW) (k : Nat) : finG g k 7 0 0 = g 7 0 0 + 1 := by
  unfold finG
  rw [up3_eq]
theorem cancel1 (x y : Int32) : x + -1 + (y + 1) = x + y := by
  rw [Int32.add_assoc, ← Int32.add_assoc (-1) y 1, Int32.add_comm (-1) y, Int32.add_assoc y, show (-1 : Int32) + 1 = 0 by decide, Int32.add_zero]
theorem qs_fin {g : NW} {k : Nat} (hk : k < 5) (hp : g 1 k 0 = 1) : qs (finG g k) + finG g k 7 0 0 = qs g + g 7 0 0 := by
  have h : qs (finG g k) = qs g + -1 := by
    refine sm_at (i := k) (-1) (fun j hj => ?_) ?_ 5 0 0 (Nat.zero_le _) (by omega)
    · rw [fS_5, fS_5, finG_o _ _ (fun e => hj e.2) (by decide), finG_o _ _ (fun e => hj e.2) (by decide)]
    · rw [fS_5, fS_5, finG_s _ _ (by decide) (by decide) (by decide), finG_3, if_pos hp, if_pos hp, Int32.sub_eq_add_neg]
  rw [h, finG_70]
  exact cancel1 _ _
theorem qs_mov1 {g : NW} {k : Nat} (f : Nat → Int32) (hk : k < 5) : qs (mov1 f g k) + mov1 f g k 7 0 0 = qs g + g 7 0 0 := by
  unfold mov1
  split
  next hs =>
    split
    · have e : ∀ j, j ≠ 4 → j ≠ 7 → ∀ i, dstG g k 1 i j = g 1 i j := fun j h4 h7 i => by
        unfold dstG
        rw [up3_c (by decide)]
        by_cases hi : i = k
        · subst hi; rw [up3_f h7, up3_f h4]
        · rw [up3_i hi, up3_i hi]
      have e7 : dstG g k 7 0 0 = g 7 0 0 := by
        unfold dstG
        rw [up3_f (by decide), up3_c (by decide), up3_c (by decide)]
      rw [qs_of (g := g) (fun i _ => ⟨e 0 (by decide) (by decide) i, e 3 (by decide) (by decide) i⟩), e7]
    · have u : ∀ (G : NW) (j : Nat) (v : Int32), j ≠ 0 → j ≠ 3 → (∀ i, up3 G 1 k j v 1 i 0 = G 1 i 0 ∧ up3 G 1 k j v 1 i 3 = G 1 i 3) ∧ up3 G 1 k j v 7 0 0 = G 7 0 0 := fun G j v h0 h3 => by
        refine ⟨fun i => ?_, up3_c (by decide)⟩
        by_cases hi : i = k
        · subst hi; exact ⟨up3_f (Ne.symm h0), up3_f (Ne.symm h3)⟩
        · exact ⟨up3_i hi, up3_i hi⟩
      have uq : ∀ (G : NW) (j : Nat) (v : Int32), j ≠ 0 → j ≠ 3 → qs (up3 G 1 k j v) + up3 G 1 k j v 7 0 0 = qs G + G 7 0 0 := fun G j v h0 h3 => by
        rw [qs_of (g := G) (fun i _ => (u G j v h0 h3).1 i), (u G j v h0 h3).2]
      unfold advG
      split
      · split
        · rw [uq _ _ _ (by decide) (by decide), uq _ _ _ (by decide) (by decide)]
        · rw [qs_fin hk (by rw [up3_f (by decide), up3_f (by decide)]; exact hs.1), uq _ _ _ (by decide) (by decide), uq _ _ _ (by decide) (by decide)]
      · rw [uq _ _ _ (by decide) (by decide)]
  · rfl
theorem qs_movN {g : NW} (f : Nat → Int32) : ∀ n, n ≤ 5 → qs (movN f g n) + movN f g n 7 0 0 = qs g + g 7 0 0
  | 0, _ => rfl
  | n + 1, hn => (qs_mov1 f (by omega)).trans (qs_movN f n (by omega))
theorem telG_7o (g : NW) (a : Nat) (w : Int32) {j : Nat} (h2 : j ≠ 2) (h3 : j ≠ 3) : telG g a w 7 0 j = g 7 0 j := by
  unfold telG
  split
  · rw [up3_c (by decide), up3_f h3]
  · rw [up3_c (by decide)]
    unfold actG
    rw [up3_c (by decide), lmpN_o _ _ _ _ _ (by decide), up3_c (by decide), up3_f h2]
theorem takN_70 (f : Nat → Int32) (g : NW) : ∀ n, takN f g n 7 0 0 = g 7 0 0
  | 0 => rfl
  | n + 1 => by
    rw [show takN f g (n + 1) = tak1 f (takN f g n) n from rfl, ← takN_70 f g n]
    generalize takN f g n = G
    unfold tak1
    split
    · rw [up3_c (by decide), up3_c (by decide)]
    · split
      · rw [lisG_7, up3_f (by decide), up3_c (by decide), up3_c (by decide)]
      · split
        · rw [lisG_7, telG_7o _ _ _ (by decide) (by decide), up3_c (by decide), up3_c (by decide)]
        · rw [up3_c (by decide), up3_c (by decide)]
theorem qs_beat (g : NW) : qs (beatG g) + beatG g 7 0 0 = qs g + g 7 0 0 := by
  have h := qs_movN (g := bgn g) (hear (bgn g)) 5 (by omega)
  have hb : qs (bgn g) = qs g := qs_of fun k _ => ⟨bgn_f _ (by decide) (by decide) (by decide) (by decide), bgn_f _ (by decide) (by decide) (by decide) (by decide)⟩
  rw [hb, bgn_c g (by decide)] at h
  rw [← h]
  unfold beatG
  generalize hear (bgn g) = f
  generalize movN f (bgn g) 5 = G
  rw [up3_c (by decide), takN_70, qs_of (g := G) fun k _ => ⟨by rw [up3_c (by decide), takN_o f G (by decide) (by decide) (by decide)], by rw [up3_c (by decide), takN_o f G (by decide) (by decide) (by decide)]⟩]
/-! silence -/
theorem silV_hit : ∀ (d k j : Nat) (g : NW), (∀ i, i < j → ¬ qs (itb i g) = 0) → qs (itb j g) = 0 → j < d → silV g d k = nI (k + j)
  | 0, _, _, _, _, _, h => absurd h (by omega)
  | d + 1, k, 0, g, _, h0, _ => if_pos h0
  | d + 1, k, j + 1, g, hn, h0, hd => by
    have e : silV g (d + 1) k = silV (beatG g) d (k + 1) := if_neg (hn 0 (by omega))
    rw [e, silV_hit d (k + 1) j (beatG g) (fun i hi => hn (i + 1) (by omega)) h0 (by omega)]
    congr 1
    omega
theorem silV_miss : ∀ (d k m : Nat) (g : NW), (∀ i, i ≤ m → ¬ qs (itb i g) = 0) → silV g d k = -5 ∨ ∃ j, m < j ∧ j < d ∧ silV g d k = nI (k + j)
  | 0, _, _, _, _ => Or.inl rfl
  | d + 1, k, m, g, hn => by
    have e : silV g (d + 1) k = silV (beatG g) d (k + 1) := if_neg (hn 0 (by omega))
    rw [e]
    rcases m with _ | m
    · by_cases h1 : qs (beatG g) = 0
      · rcases d with _ | d
        · exact Or.inl rfl
        · exact Or.inr ⟨1, by omega, by omega, if_pos h1⟩
      · rcases silV_miss d (k + 1) 0 (beatG g) (fun i hi => by
          have e0 : i = 0 := Nat.le_zero.mp hi
          subst e0
          exact h1) with h | ⟨j, h1, h2, h3⟩
        · exact Or.inl h
        · exact Or.inr ⟨j + 1, by omega, by omega, by rw [h3]; congr 1; omega⟩
    · rcases silV_miss d (k + 1) m (beatG g) (fun i hi => hn (i + 1) (by omega)) with h | ⟨j, h1, h2, h3⟩
      · exact Or.inl h
      · exact Or.inr ⟨j + 1, by omega, by omega, by rw [h3]; congr 1; omega⟩
