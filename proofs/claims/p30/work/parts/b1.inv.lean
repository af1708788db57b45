/-! p30: what holds besides Inv: pauses, copies, levels, receivers that listen, words that were told before now -/
def JS (g : NW) (i : Nat) : Prop := g 1 i 0 = 1 → (∃ u, u ≤ 3 + 2 * i ∧ g 1 i 7 = nI u) ∧ (g 1 i 4 = 1 → g 1 i 7 = 0 ∧ ∃ c, c ≤ 2 ∧ g 1 i 5 = nI c)
def JL (g : NW) (i : Nat) : Prop := g 3 i 0 = 1 → (∃ v, v ≤ 9 ∧ g 3 i 4 = nI v) ∧ ∃ w, w < 6 ∧ g 3 i 1 = nI w
def JR (T : Nat) (g : NW) (i : Nat) : Prop := (g 4 i 0 = 0 → ¬ g 4 i 1 = 14) ∧ (¬ g 4 i 4 = 0 → ∃ t, t < T ∧ g 4 i 5 = nI t)
def JC (g : NW) : Prop := ∃ s, 1 ≤ s ∧ s ≤ 3 ∧ g 6 0 3 = nI s
def JT (T : Nat) (g : NW) : Prop := g 0 0 0 = nI T ∧ JC g ∧ (∀ i, i < 5 → JS g i) ∧ (∀ i, i < 8 → JL g i) ∧ ∀ i, i < 6 → JR T g i
theorem JS.of {g g' : NW} {i : Nat} (h : JS g i) (e : ∀ j, j < 14 → g' 1 i j = g 1 i j) : JS g' i := by
  unfold JS at h ⊢
  rw [e 0 (by decide), e 7 (by decide), e 4 (by decide), e 5 (by decide)]
  exact h
theorem JL.of {g g' : NW} {i : Nat} (h : JL g i) (e : ∀ j, j < 6 → g' 3 i j = g 3 i j) : JL g' i := by
  unfold JL at h ⊢
  rw [e 0 (by decide), e 4 (by decide), e 1 (by decide)]
  exact h
theorem JR.of {T : Nat} {g g' : NW} {i : Nat} (h : JR T g i) (e : ∀ j, j < 7 → g' 4 i j = g 4 i j) : JR T g' i := by
  unfold JR at h ⊢
  rw [e 0 (by decide), e 1 (by decide), e 4 (by decide), e 5 (by decide)]
  exact h
theorem JR.mono {T T' : Nat} {g : NW} {i : Nat} (h : JR T g i) (hT : T ≤ T') : JR T' g i := ⟨h.1, fun h4 => by
  obtain ⟨t, ht, e⟩ := h.2 h4
  exact ⟨t, by omega, e⟩⟩
theorem JT.same {T : Nat} {g g' : NW} (h : JT T g) (hs : Same g' g) : JT T g' := by
  obtain ⟨h0, ⟨s, hs1, hs3, he⟩, h1, h3, h4⟩ := h
  exact ⟨(hs 0 0 0 ok0).trans h0, ⟨s, hs1, hs3, (hs 6 0 3 (ok6 (by decide))).trans he⟩, fun i hi => (h1 i hi).of fun j hj => hs 1 i j (ok1 hi hj), fun i hi => (h3 i hi).of fun j hj => hs 3 i j (ok3 hi hj), fun i hi => (h4 i hi).of fun j hj => hs 4 i j (ok4 hi hj)⟩
/-! beginning -/
theorem JS_bgn {g : NW} {i : Nat} (hi : i < 5) (h : JS g i) : JS (bgn g) i := by
  intro hp
  rw [bgn_f _ (by decide) (by decide) (by decide) (by decide)] at hp
  obtain ⟨⟨u, hu, e⟩, hs⟩ := h hp
  have e7 : bgn g 1 i 7 = if rest g i ∧ 0 < g 1 i 7 then g 1 i 7 - 1 else g 1 i 7 := by
    rw [bgn_k g hi, if_neg (fun e => absurd e.2 (by decide)), if_neg (fun e => e.2.elim (by decide) (by decide))]
    simp only [true_and]
  have e4 : bgn g 1 i 4 = if beg g i then 1 else g 1 i 4 := by
    rw [bgn_k g hi]
    by_cases hb : beg g i
    · rw [if_pos ⟨hb, rfl⟩, if_pos hb]
    · rw [if_neg (fun e => hb e.1), if_neg (fun e => hb e.1), if_neg (fun e => absurd e.1 (by decide)), if_neg hb]
  have e5 : bgn g 1 i 5 = if beg g i then 0 else g 1 i 5 := by
    rw [bgn_k g hi]
    by_cases hb : beg g i
    · rw [if_neg (fun e => absurd e.2 (by decide)), if_pos ⟨hb, Or.inl rfl⟩, if_pos hb]
    · rw [if_neg (fun e => hb e.1), if_neg (fun e => hb e.1), if_neg (fun e => absurd e.1 (by decide)), if_neg hb]
  refine ⟨?_, fun h4 => ?_⟩
  · rw [e7]
    split
    next hc =>
      rw [e] at hc ⊢
      exact ⟨u - 1, by omega, nI_dec (Int32.not_le.mpr hc.2)⟩
    next => exact ⟨u, hu, e⟩
  · rw [e4] at h4
    rw [e7, e5]
    by_cases hb : beg g i
    · rw [if_pos hb, if_neg (fun c => by rw [hb.2.2.1] at c; exact absurd c.2 (by decide))]
      exact ⟨hb.2.2.1, 0, by omega, rfl⟩
    · rw [if_neg hb] at h4 ⊢
      obtain ⟨a, b⟩ := hs h4
      rw [if_neg (fun c => by rw [a] at c; exact absurd c.2 (by decide))]
      exact ⟨a, b⟩
/-! going on -/
theorem finG_4 (g : NW) (k : Nat) : finG g k 1 k 4 = 0 := by
  unfold finG
  rw [up3_c (by decide), up3_f (by decide)]
  simp [finL, up3]
theorem finG_s (g : NW) (k : Nat) {j : Nat} (h3 : j ≠ 3) (h4 : j ≠ 4) (h8 : j < 8) : finG g k 1 k j = g 1 k j := by
  unfold finG
  rw [up3_c (by decide), up3_f h3]
  have : ¬ 8 ≤ j := by omega
  simp [finL, up3, h4, this]
theorem finG_3 (g : NW) (k : Nat) : finG g k 1 k 3 = g 1 k 3 - 1 := by
  unfold finG
  rw [up3_c (by decide), up3_eq]
theorem JS_mov1 {g : NW} {k : Nat} (f : Nat → Int32) (hC : JC g) (h : JS g k) : JS (mov1 f g k) k := by
  unfold mov1
  split
  next hk =>
    split
    · intro hp
      unfold dstG
      rw [up3_c (by decide), up3_eq, up3_c (by decide), up3_f (by decide), up3_eq]
      refine ⟨⟨3 + 2 * k, by omega, ?_⟩, fun e => absurd e (by decide)⟩
      rw [show (2 : Int32) * nI k = nI (2 * k) from nI_mul 2 k, show (3 : Int32) = nI 3 from rfl, nI_add]
    · unfold advG
      split
      · split
        next hc =>
          intro hp
          rw [up3_f (by decide), up3_f (by decide)] at hp
          obtain ⟨⟨u, hu, e⟩, hs⟩ := h hp
          obtain ⟨s, h1, h3, es⟩ := hC
          obtain ⟨a, c, hc2, ec⟩ := hs hk.2
          rw [up3_f (by decide), up3_f (by decide), up3_f (by decide), up3_f (by decide), up3_eq]
          refine ⟨⟨u, hu, e⟩, fun _ => ⟨a, c + 1, ?_, by rw [ec, ← nI_succ]⟩⟩
          rw [ec, es, ← nI_succ] at hc
          rcases Nat.lt_or_ge (c + 1) s with hlt | hge
          · omega
          · exact absurd hc (nI_nlt hge (by omega))
        next =>
          intro hp
          rw [finG_s _ _ (by decide) (by decide) (by decide), up3_f (by decide), up3_f (by decide)] at hp
          rw [finG_s _ _ (by decide) (by decide) (by decide), up3_f (by decide), up3_f (by decide), finG_4]
          exact ⟨(h hp).1, fun e => absurd e (by decide)⟩
      · intro hp
        rw [up3_f (by decide)] at hp
        rw [up3_f (by decide), up3_f (by decide), up3_f (by decide)]
        exact h hp
  · exact h
theorem JC_movN {g : NW} (f : Nat → Int32) (h : JC g) (n : Nat) : JC (movN f g n) := by
  obtain ⟨s, h1, h3, e⟩ := h
  exact ⟨s, h1, h3, (movN_c f g (by decide) (by decide) n 0 3).trans e⟩
theorem JS_movN {g : NW} (f : Nat → Int32) (hC : JC g) (h : ∀ i, i < 5 → JS g i) : ∀ n, n ≤ 5 → ∀ i, i < 5 → JS (movN f g n) i
  | 0, _ => h
  | n + 1, hn => fun i hi => by
    have ih := JS_movN f hC h n (by omega)
    show JS (mov1 f (movN f g n) n) i
    by_cases e : i = n
    · subst e
      exact JS_mov1 f (JC_movN f hC _) (ih _ hi)
    · exact (ih i hi).of fun j _ => mov1_o _ _ _ (fun x => e x.2) (by decide)
/-! hearing: lamps -/
theorem lmp1_o (g : NW) (a l c f : Int32) (k : Nat) {i : Nat} (h : i ≠ k) (j : Nat) : lmp1 g a l c f k 3 i j = g 3 i j := by
  unfold lmp1
  split
  · split
    · split
      · exact up3_i h
      · split
        · exact up3_i h
        · rfl
    · exact up3_i h
  · rfl
theorem JL_lmp1 {g : NW} (a l c f : Int32) {k : Nat} (h : JL g k) : JL (lmp1 g a l c f k) k := by
  unfold lmp1
  split
  next hk =>
    obtain ⟨⟨v, hv, e⟩, hw⟩ := h hk.1
    split
    · split
      · intro _
        rw [up3_eq, up3_f (by decide)]
        exact ⟨⟨0, by omega, rfl⟩, hw⟩
      · split
        · intro _
          rw [up3_eq, up3_f (by decide), e]
          refine ⟨?_, hw⟩
          unfold lvl
          split
          · exact ⟨9, by omega, rfl⟩
          · split
            · exact ⟨0, by omega, rfl⟩
            · split
              · exact ⟨9, by omega, rfl⟩
              next h9 =>
                refine ⟨v + 1, ?_, (nI_succ v).symm⟩
                rcases Nat.lt_or_ge v 9 with hl | hl
                · omega
                · exact absurd (show (9 : Int32) ≤ nI v from nI_le (a := 9) hl (by omega)) h9
        · exact h
    · intro hp
      rw [up3_f (by decide), up3_f (by decide)]
      exact ⟨⟨v, hv, e⟩, hw⟩
  · exact h
theorem JL_lmpN {g : NW} (a l c f : Int32) (h : ∀ i, i < 8 → JL g i) : ∀ n, n ≤ 8 → ∀ i, i < 8 → JL (lmpN g a l c f n) i
  | 0, _ => h
  | n + 1, hn => fun i hi => by
    have ih := JL_lmpN a l c f h n (by omega)
    show JL (lmp1 (lmpN g a l c f n) a l c f n) i
    by_cases e : i = n
    · subst e
      exact JL_lmp1 a l c f (ih _ hi)
    · exact (ih i hi).of fun j _ => lmp1_o _ _ _ _ _ _ e j
theorem JL_tel {g : NW} {a : Nat} (w : Int32) (h : ∀ i, i < 8 → JL g i) (i : Nat) (hi : i < 8) : JL (telG g a w) i := by
  unfold telG
  split
  · exact (h i hi).of fun j _ => by rw [up3_c (by decide), up3_c (by decide)]
  · have h2 : ∀ i, i < 8 → JL (up3 (up3 g 7 0 2 (g 7 0 2 + 1)) 4 a 4 (w + 1)) i := fun i hi => (h i hi).of fun j _ => by rw [up3_c (by decide), up3_c (by decide)]
    unfold actG
    exact (JL_lmpN _ _ _ _ h2 8 (by omega) i hi).of fun j _ => by rw [up3_c (by decide), up3_c (by decide)]
/-! hearing: receivers -/
theorem telG_45 (g : NW) (a : Nat) (w : Int32) : telG g a w 4 a 5 = g 0 0 0 := by
  unfold telG
  split
  · rw [up3_eq]
  · rw [up3_eq]
theorem telG_44 (g : NW) (a : Nat) (w : Int32) {j : Nat} (h4 : j ≠ 4) (h5 : j ≠ 5) (h6 : j ≠ 6) : telG g a w 4 a j = g 4 a j := by
  unfold telG
  split
  · rw [up3_f h5, up3_c (by decide)]
  · rw [up3_f h5]
    unfold actG
    rw [up3_f h6, lmpN_o _ _ _ _ _ (by decide), up3_f h4, up3_c (by decide)]
theorem takN_o (h : Nat → Int32) (g : NW) {c : Nat} (h3 : c ≠ 3) (h4 : c ≠ 4) (h7 : c ≠ 7) (i j : Nat) : ∀ n, takN h g n c i j = g c i j
  | 0 => rfl
  | n + 1 => by
    rw [show takN h g (n + 1) = tak1 h (takN h g n) n from rfl, ← takN_o h g h3 h4 h7 i j n]
    generalize takN h g n = G
    unfold tak1
    split
    · rw [up3_c h4, up3_c h4]
    · split
      · rw [lisG_o _ (fun e => h4 e.1), up3_c h7, up3_c h4, up3_c h4]
      · split
        · rw [lisG_o _ (fun e => h4 e.1), telG_o _ _ _ h3 h4 h7, up3_c h4, up3_c h4]
        · rw [up3_c h4, up3_c h4]
theorem JLR_tak1 {T : Nat} {g : NW} (f : Nat → Int32) {a : Nat} (h0 : g 0 0 0 = nI T) (hL : ∀ i, i < 8 → JL g i) (hR : ∀ i, i < 6 → JR (T + 1) g i) : (∀ i, i < 8 → JL (tak1 f g a) i) ∧ ∀ i, i < 6 → JR (T + 1) (tak1 f g a) i := by
  have hL2 : ∀ i, i < 8 → JL (up3 (up3 g 4 a 2 (g 4 a 2 + 1)) 4 a 3 (2 * g 4 a 3 + f a)) i := fun i hi => (hL i hi).of fun j _ => by rw [up3_c (by decide), up3_c (by decide)]
  unfold tak1
  split
  · refine ⟨fun i hi => (hL i hi).of fun j _ => by rw [up3_c (by decide), up3_c (by decide)], fun i hi => ?_⟩
    by_cases e : i = a
    · subst e
      unfold JR
      rw [up3_eq, up3_f (by decide), up3_eq, up3_f (by decide), up3_f (by decide), up3_f (by decide), up3_f (by decide)]
      refine ⟨fun h => ?_, (hR i hi).2⟩
      split at h
      · exact absurd h (by decide)
      next hn => exact hn
    · exact (hR i hi).of fun j _ => by rw [up3_i e, up3_i e]
  · split
    · refine ⟨fun i hi => (hL i hi).of fun j _ => by rw [lisG_3, up3_c (by decide), up3_c (by decide), up3_c (by decide)], fun i hi => ?_⟩
      by_cases e : i = a
      · subst e
        unfold JR
        rw [(lisG_4 _ i).1, (lisG_4 _ i).2.1, (lisG_4 _ i).2.2.2.2 4 (by decide), (lisG_4 _ i).2.2.2.2 5 (by decide), up3_c (by decide), up3_f (by decide), up3_f (by decide), up3_c (by decide), up3_f (by decide), up3_f (by decide)]
        exact ⟨fun _ => by decide, (hR i hi).2⟩
      · exact (hR i hi).of fun j _ => by rw [lisG_o _ (fun z => e z.2), up3_c (by decide), up3_i e, up3_i e]
    · split
      · refine ⟨fun i hi => (JL_tel _ hL2 i hi).of fun j _ => by rw [lisG_3], fun i hi => ?_⟩
        by_cases e : i = a
        · subst e
          unfold JR
          rw [(lisG_4 _ i).1, (lisG_4 _ i).2.1, (lisG_4 _ i).2.2.2.2 4 (by decide), (lisG_4 _ i).2.2.2.2 5 (by decide), telG_45, up3_c (by decide), up3_c (by decide)]
          exact ⟨fun _ => by decide, fun _ => ⟨T, by omega, h0⟩⟩
        · exact (hR i hi).of fun j _ => by rw [lisG_o _ (fun z => e z.2), telG_4o _ _ _ (fun z => e z.1), up3_i e, up3_i e]
      · refine ⟨hL2, fun i hi => ?_⟩
        by_cases e : i = a
        · subst e
          unfold JR
          rw [up3_f (by decide), up3_f (by decide), up3_f (by decide), up3_f (by decide), up3_f (by decide), up3_f (by decide), up3_f (by decide), up3_f (by decide)]
          exact hR i hi
        · exact (hR i hi).of fun j _ => by rw [up3_i e, up3_i e]
theorem JLR_takN {T : Nat} {g : NW} (f : Nat → Int32) (h0 : g 0 0 0 = nI T) (hL : ∀ i, i < 8 → JL g i) (hR : ∀ i, i < 6 → JR (T + 1) g i) : ∀ n, (∀ i, i < 8 → JL (takN f g n) i) ∧ ∀ i, i < 6 → JR (T + 1) (takN f g n) i
  | 0 => ⟨hL, hR⟩
  | n + 1 => by
    obtain ⟨a, b⟩ := JLR_takN f h0 hL hR n
    exact JLR_tak1 f ((takN_o f g (by decide) (by decide) (by decide) 0 0 n).trans h0) a b
theorem JT_beat {T : Nat} {g : NW} (h : JT T g) : JT (T + 1) (beatG g) := by
  obtain ⟨h0, hC, hS, hL, hR⟩ := h
  have a0 : bgn g 0 0 0 = nI T := (bgn_c g (by decide)).trans h0
  have aC : JC (bgn g) := by
    obtain ⟨s, h1, h3, e⟩ := hC
    exact ⟨s, h1, h3, (bgn_c g (by decide)).trans e⟩
  have aS : ∀ i, i < 5 → JS (bgn g) i := fun i hi => JS_bgn hi (hS i hi)
  have b0 : movN (hear (bgn g)) (bgn g) 5 0 0 0 = nI T := (movN_c _ _ (by decide) (by decide) 5 0 0).trans a0
  have bC := JC_movN (hear (bgn g)) aC 5
  have bS := JS_movN (hear (bgn g)) aC aS 5 (by omega)
  have bL : ∀ i, i < 8 → JL (movN (hear (bgn g)) (bgn g) 5) i := fun i hi => (hL i hi).of fun j _ => (movN_c _ _ (by decide) (by decide) 5 i j).trans (bgn_c g (by decide))
  have bR : ∀ i, i < 6 → JR (T + 1) (movN (hear (bgn g)) (bgn g) 5) i := fun i hi => ((hR i hi).of fun j _ => (movN_c _ _ (by decide) (by decide) 5 i j).trans (bgn_c g (by decide))).mono (Nat.le_succ T)
  unfold beatG
  generalize hear (bgn g) = f at *
  generalize movN f (bgn g) 5 = G at *
  obtain ⟨cL, cR⟩ := JLR_takN f b0 bL bR 6
  have t := fun (c i j : Nat) (h3 : c ≠ 3) (h4 : c ≠ 4) (h7 : c ≠ 7) => takN_o f G h3 h4 h7 i j 6
  refine ⟨?_, ?_, fun i hi => (bS i hi).of fun j _ => ?_, fun i hi => (cL i hi).of fun j _ => up3_c (by decide), fun i hi => (cR i hi).of fun j _ => up3_c (by decide)⟩
  · rw [up3_eq, t 0 0 0 (by decide) (by decide) (by decide), b0, ← nI_succ]
  · obtain ⟨s, h1, h3, e⟩ := bC
    exact ⟨s, h1, h3, by rw [up3_c (by decide), t 6 0 3 (by decide) (by decide) (by decide)]; exact e⟩
  · rw [up3_c (by decide), t 1 i j (by decide) (by decide) (by decide)]
theorem JT_itb : ∀ (d : Nat) {T : Nat} {g : NW}, JT T g → JT (T + d) (itb d g)
  | 0, _, _, h => h
  | d + 1, T, g, h => by
    have := JT_itb d (JT_beat h)
    rw [show T + (d + 1) = T + 1 + d by omega]
    exact this
