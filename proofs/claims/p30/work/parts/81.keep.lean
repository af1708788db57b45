/-! LEVEL 2: beginning and going on keep the relation, and what always holds -/
theorem InvS.of {g g' : NW} {i : Nat} (h : InvS g i) (e : ∀ j, g' 1 i j = g 1 i j) : InvS g' i := by
  unfold InvS
  simp only [e]
  exact h
theorem Inv.of1 {g g' : NW} (h : Inv g) (e : ∀ c i j, c ≠ 1 → c ≠ 7 → g' c i j = g c i j) (hs : ∀ i, i < 5 → InvS g' i) : Inv g' := by
  refine ⟨hs, fun i hi => ?_, fun i hi => ?_, fun i hi => ?_⟩
  · have := h.2.1 i hi
    unfold InvM at this ⊢
    simp only [e 2 i _ (by decide) (by decide)]
    exact this
  · have := h.2.2.1 i hi
    unfold InvL at this ⊢
    simp only [e 3 i _ (by decide) (by decide)]
    exact this
  · have := h.2.2.2 i hi
    unfold InvR at this ⊢
    simp only [e 4 i _ (by decide) (by decide)]
    exact this
theorem beg_iff {g w : NW} (h : Rel g w) (hI : Inv g) {k : Nat} (hk : k < 5) : beg w k ↔ beg g k := by
  have hb := h.1
  have c1 := fun j hj => hb.c1 k (j := j) hj
  by_cases hp : g 1 k 0 = 1
  · obtain ⟨-, -, hP⟩ := hI.1 k hk
    obtain ⟨⟨v, hv, hwv⟩, -⟩ := hP hp
    have hc : (g 1 k 1).toNatClampNeg = v := by rw [hwv]; exact nI_clamp (by omega)
    have hR := h.2 v hv
    unfold beg rest quiet
    rw [c1 0 (by decide), c1 1 (by decide), c1 3 (by decide), c1 4 (by decide), c1 7 (by decide), hc, hR.1, hR.2.1]
  · constructor
    · intro e; exact absurd ((c1 0 (by decide)).symm.trans e.1.1) hp
    · intro e; exact absurd e.1.1 hp
theorem rest_iff {g w : NW} (h : Base g w) (k : Nat) : rest w k ↔ rest g k := by
  unfold rest
  rw [h.c1 k (by decide), h.c1 k (by decide)]
theorem bgn_5 (g : NW) {i : Nat} (h : ¬ i < 5) (j : Nat) : bgn g 1 i j = g 1 i j := by simp [bgn, bgnQ, bgnP, h]
theorem Rel_bgn {g w : NW} (h : Rel g w) (hI : Inv g) : Rel (bgn g) (bgn w) := by
  have hb := h.1
  refine ⟨⟨fun i j => ?_, fun i j => ?_, fun i j => ?_, fun i j => ?_, fun i j hj => ?_, fun i j hj hl => ?_, fun i j hj => ?_⟩, fun i hi => (h.2 i hi).of4 (fun j => bgn_c g (by decide)) (fun j => bgn_c w (by decide))⟩
  · rw [bgn_c _ (by decide), bgn_c _ (by decide)]; exact hb.c0 _ _
  · rw [bgn_c _ (by decide), bgn_c _ (by decide)]; exact hb.c6 _ _
  · rw [bgn_c _ (by decide), bgn_c _ (by decide)]; exact hb.c7 _ _
  · rw [bgn_c _ (by decide), bgn_c _ (by decide)]; exact hb.c3 _ _
  · by_cases hi : i < 5
    · rw [bgn_k w hi, bgn_k g hi]
      simp only [beg_iff h hI hi, rest_iff hb i, hb.c1 i (by decide : 7 < 8), hb.c1 i hj]
    · rw [bgn_5 _ hi, bgn_5 _ hi]; exact hb.c1 i hj
  · rw [bgn_f _ (by decide) (by decide) (by decide) (by decide)] at hl
    rw [bgn_f _ (by omega) (by omega) (by omega) (by omega), bgn_f _ (by omega) (by omega) (by omega) (by omega)]
    exact hb.cq i hj hl
  · rw [bgn_c _ (by decide)] at hj
    rw [bgn_c _ (by decide), bgn_c _ (by decide)]
    exact hb.c2 i hj
theorem nI_dec {u : Nat} (h : ¬ nI u ≤ 0) : nI u - 1 = nI (u - 1) := by
  obtain ⟨v, rfl⟩ : ∃ v, u = v + 1 := ⟨u - 1, by
    rcases Nat.eq_zero_or_pos u with h0 | h0
    · subst h0; exact absurd (by decide) h
    · omega⟩
  rw [nI_pred]; rfl
theorem Inv_bgn {g : NW} (hI : Inv g) : Inv (bgn g) := by
  refine hI.of1 (fun c i j h1 _ => bgn_c g h1) (fun i hi => ?_)
  obtain ⟨h0, h4, hP⟩ := hI.1 i hi
  have f : ∀ j, j ≠ 4 → j ≠ 5 → j ≠ 6 → j ≠ 7 → bgn g 1 i j = g 1 i j := fun j a b c d => bgn_f g a b c d
  have e4 : bgn g 1 i 4 = if beg g i then 1 else g 1 i 4 := by
    rw [bgn_k g hi]
    by_cases hb : beg g i
    · rw [if_pos ⟨hb, rfl⟩, if_pos hb]
    · rw [if_neg (fun e => hb e.1), if_neg (fun e => hb e.1), if_neg (fun e => absurd e.1 (by decide)), if_neg hb]
  have e6 : bgn g 1 i 6 = if beg g i then 0 else g 1 i 6 := by
    rw [bgn_k g hi]
    by_cases hb : beg g i
    · rw [if_neg (fun e => absurd e.2 (by decide)), if_pos ⟨hb, Or.inr rfl⟩, if_pos hb]
    · rw [if_neg (fun e => hb e.1), if_neg (fun e => hb e.1), if_neg (fun e => absurd e.1 (by decide)), if_neg hb]
  have e7 : bgn g 1 i 7 = if rest g i ∧ 0 < g 1 i 7 then g 1 i 7 - 1 else g 1 i 7 := by
    rw [bgn_k g hi, if_neg (fun e => absurd e.2 (by decide)), if_neg (fun e => e.2.elim (by decide) (by decide))]
    simp only [true_and]
  refine ⟨by rw [f 0 (by decide) (by decide) (by decide) (by decide)]; exact h0, ?_, fun hp => ?_⟩
  · rw [e4]
    split
    · exact Or.inr rfl
    · exact h4
  · rw [f 0 (by decide) (by decide) (by decide) (by decide)] at hp
    obtain ⟨hw, ⟨q, hq6, hq, hs, hx⟩, ⟨p, hp16, hpp⟩, ⟨u, hu, huu⟩⟩ := hP hp
    refine ⟨by rw [f 1 (by decide) (by decide) (by decide) (by decide)]; exact hw, ⟨q, hq6, by rw [f 3 (by decide) (by decide) (by decide) (by decide)]; exact hq, fun h => ?_, fun j hj => ?_⟩, ?_, ?_⟩
    · rw [e4] at h
      split at h
      next hb =>
        have h3 := hb.2.1
        rw [hq] at h3
        rcases Nat.eq_zero_or_pos q with h5 | h5
        · subst h5; exact absurd h3 (by decide)
        · omega
      next => exact hs h
    · rw [f (8 + j) (by omega) (by omega) (by omega) (by omega)]; exact hx j hj
    · rw [e6]
      split
      · exact ⟨0, by omega, rfl⟩
      · exact ⟨p, hp16, hpp⟩
    · rw [e7]
      split
      next h =>
        rw [huu] at h ⊢
        exact ⟨u - 1, by omega, nI_dec (Int32.not_le.mpr h.2)⟩
      next => exact ⟨u, hu, huu⟩
theorem isD_iff {g w : NW} (hb : Base g w) {h : Nat → Int32} {k : Nat} (hI : InvS g k) (hs : spk g k) : isD w h k ↔ isD g h k := by
  unfold isD
  rw [hb.c1 k (by decide : 6 < 8), hb.bit hI hs, hb.c1 k (by decide : 1 < 8)]
theorem Base_fin {g w : NW} (hb : Base g w) {k q : Nat} (hq : g 1 k 3 = nI q) (h1 : 1 ≤ q) (h6 : q ≤ 6) : Base (finG g k) (finG w k) := by
  have hq' : w 1 k 3 = nI q := by rw [hb.c1 k (by decide)]; exact hq
  have ed : (nI q : Int32) - 1 = nI (q - 1) := by
    obtain ⟨v, rfl⟩ : ∃ v, q = v + 1 := ⟨q - 1, by omega⟩
    rw [nI_pred]; rfl
  have hc : ∀ c i j, c ≠ 1 → c ≠ 7 → finG g k c i j = g c i j ∧ finG w k c i j = w c i j := fun c i j a b => ⟨finG_o g k (fun e => a e.1) b, finG_o w k (fun e => a e.1) b⟩
  have h7 : ∀ (G : NW) i j, finG G k 7 i j = up3 G 7 0 0 (G 7 0 0 + 1) 7 i j := by
    intro G i j
    show up3 (up3 (finL (up3 G 1 k 4 0) k 5) 1 k 3 (G 1 k 3 - 1)) 7 0 0 (G 7 0 0 + 1) 7 i j = _
    have ex : up3 (finL (up3 G 1 k 4 0) k 5) 1 k 3 (G 1 k 3 - 1) 7 i j = G 7 i j := by
      rw [up3_c (by decide), finL_o _ _ _ (by omega), up3_c (by decide)]
    generalize up3 (finL (up3 G 1 k 4 0) k 5) 1 k 3 (G 1 k 3 - 1) = X at ex ⊢
    simp only [up3, ex]
  have h1k : ∀ (G : NW) j, G 1 k 3 = nI q → j < 8 → finG G k 1 k j = if j = 3 then nI (q - 1) else if j = 4 then 0 else G 1 k j := by
    intro G j hG hj
    unfold finG
    rw [up3_c (by decide)]
    by_cases e3 : j = 3
    · subst e3
      rw [up3_eq, if_pos rfl, hG, ed]
    · rw [up3_f e3, if_neg e3]
      simp only [finL]
      rw [if_neg (by omega)]
      by_cases e4 : j = 4
      · subst e4; rw [up3_eq, if_pos rfl]
      · rw [up3_f e4, if_neg e4]
  have hqk : ∀ (G : NW) j, j < 5 → finG G k 1 k (8 + j) = G 1 k (8 + (j + 1)) := by
    intro G j hj
    unfold finG
    rw [up3_c (by decide), up3_f (by omega)]
    simp only [finL]
    rw [if_pos ⟨trivial, trivial, by omega, by omega⟩, up3_f (by omega)]
    rfl
  have hok : ∀ (G : NW) i j, i ≠ k → finG G k 1 i j = G 1 i j := fun G i j hi => finG_o G k (fun e => hi e.2) (by decide)
  refine ⟨fun i j => ?_, fun i j => ?_, fun i j => ?_, fun i j => ?_, fun i j hj => ?_, fun i j hj hl => ?_, fun i j hj => ?_⟩
  · rw [(hc 0 i j (by decide) (by decide)).1, (hc 0 i j (by decide) (by decide)).2]; exact hb.c0 _ _
  · rw [(hc 6 i j (by decide) (by decide)).1, (hc 6 i j (by decide) (by decide)).2]; exact hb.c6 _ _
  · rw [h7, h7]
    simp only [up3, hb.c7]
  · rw [(hc 3 i j (by decide) (by decide)).1, (hc 3 i j (by decide) (by decide)).2]; exact hb.c3 _ _
  · by_cases hi : i = k
    · subst hi
      rw [h1k w j hq' hj, h1k g j hq hj, hb.c1 i hj]
    · rw [hok _ _ _ hi, hok _ _ _ hi]; exact hb.c1 i hj
  · by_cases hi : i = k
    · subst hi
      rw [h1k g 3 hq (by decide), if_pos rfl] at hl
      have hjq : j < q - 1 := (nI_ltI (by omega) (by omega)).mp hl
      rw [hqk w j (by omega), hqk g j (by omega)]
      exact hb.cq i (j := j + 1) (by omega) (by rw [hq]; exact nI_lt (by omega) (by omega))
    · rw [hok _ _ _ hi] at hl
      rw [hok _ _ _ hi, hok _ _ _ hi]; exact hb.cq i hj hl
  · rw [(hc 2 i 0 (by decide) (by decide)).1] at hj
    rw [(hc 2 i j (by decide) (by decide)).1, (hc 2 i j (by decide) (by decide)).2]; exact hb.c2 _ hj
theorem Base_mov1 {g w : NW} (hb : Base g w) (h : Nat → Int32) {k : Nat} (hI : InvS g k) : Base (mov1 h g k) (mov1 h w k) := by
  show Base (if spk g k then (if isD g h k then dstG g k else advG g k) else g) (if spk w k then (if isD w h k then dstG w k else advG w k) else w)
  by_cases hs : spk g k
  · rw [if_pos hs, if_pos ((hb.spks k).mpr hs)]
    by_cases hd : isD g h k
    · rw [if_pos hd, if_pos ((isD_iff hb hI hs).mpr hd)]
      unfold dstG
      rw [hb.c7]
      exact ((hb.up _ (Or.inr (by decide)) (Or.inl (by decide))).up _ (Or.inr (by decide)) (Or.inl (by decide))).up _ (Or.inl (by decide)) (Or.inl (by decide))
    · rw [if_neg hd, if_neg (fun e => hd ((isD_iff hb hI hs).mp e))]
      unfold advG
      rw [hb.c1 k (by decide : 6 < 8), hb.c1 k (by decide : 5 < 8), hb.c6]
      have u := ((hb.up (i := k) 0 (c := 1) (j := 6) (Or.inr (by decide)) (Or.inl (by decide))).up (c := 1) (i := k) (j := 5) (g 1 k 5 + 1) (Or.inr (by decide)) (Or.inl (by decide)))
      split
      · split
        · exact u
        · obtain ⟨-, -, hP⟩ := hI
          obtain ⟨-, ⟨q, hq6, hq, h1, -⟩, -⟩ := hP hs.1
          exact Base_fin u (q := q) (by rw [up3_f (by decide), up3_f (by decide)]; exact hq) (h1 hs.2) hq6
      · exact hb.up _ (Or.inr (by decide)) (Or.inl (by decide))
  · rw [if_neg hs, if_neg (fun e => hs ((hb.spks k).mp e))]
    exact hb
theorem InvS_mov1 {g : NW} {h : Nat → Int32} {k : Nat} (hk : k < 5) (hI : InvS g k) : InvS (mov1 h g k) k := by
  obtain ⟨h0, h4, hP⟩ := id hI
  show InvS (if spk g k then (if isD g h k then dstG g k else advG g k) else g) k
  split
  next hs =>
    obtain ⟨hw, ⟨q, hq6, hq, hsq, hx⟩, ⟨p, hp16, hp⟩, ⟨u, hu, huu⟩⟩ := hP hs.1
    split
    · have f : ∀ j, j ≠ 4 → j ≠ 7 → dstG g k 1 k j = g 1 k j := fun j a b => by
        unfold dstG
        rw [up3_c (by decide), up3_f b, up3_f a]
      have e4 : dstG g k 1 k 4 = 0 := by
        unfold dstG
        rw [up3_c (by decide), up3_f (by decide), up3_eq]
      have e7 : dstG g k 1 k 7 = nI (3 + 2 * k) := by
        unfold dstG
        rw [up3_c (by decide), up3_eq]
        show nI 3 + nI 2 * nI k = _
        rw [nI_mul, nI_add]
      refine ⟨by rw [f 0 (by decide) (by decide)]; exact h0, Or.inl e4, fun _ => ⟨by rw [f 1 (by decide) (by decide)]; exact hw, ⟨q, hq6, by rw [f 3 (by decide) (by decide)]; exact hq, fun h => ?_, fun j hj => by rw [f (8 + j) (by omega) (by omega)]; exact hx j hj⟩, ⟨p, hp16, by rw [f 6 (by decide) (by decide)]; exact hp⟩, ⟨3 + 2 * k, by omega, e7⟩⟩⟩
      rw [e4] at h
      exact absurd h (by decide)
    · unfold advG
      have hp1 : g 1 k 6 + 1 = nI (p + 1) := by rw [hp, nI_succ]
      split
      · split
        · have f : ∀ j, j ≠ 5 → j ≠ 6 → up3 (up3 g 1 k 6 0) 1 k 5 (g 1 k 5 + 1) 1 k j = g 1 k j := fun j a b => by rw [up3_f a, up3_f b]
          exact ⟨by rw [f 0 (by decide) (by decide)]; exact h0, by rw [f 4 (by decide) (by decide)]; exact h4, fun _ => ⟨by rw [f 1 (by decide) (by decide)]; exact hw, ⟨q, hq6, by rw [f 3 (by decide) (by decide)]; exact hq, fun h => by rw [f 4 (by decide) (by decide)] at h; exact hsq h, fun j hj => by rw [f (8 + j) (by omega) (by omega)]; exact hx j hj⟩, ⟨0, by omega, by rw [up3_f (by decide), up3_eq]; rfl⟩, ⟨u, hu, by rw [f 7 (by decide) (by decide)]; exact huu⟩⟩⟩
        · generalize hG : up3 (up3 g 1 k 6 0) 1 k 5 (g 1 k 5 + 1) = G
          have f : ∀ j, j ≠ 5 → j ≠ 6 → G 1 k j = g 1 k j := fun j a b => by rw [← hG, up3_f a, up3_f b]
          have e6 : G 1 k 6 = nI 0 := by rw [← hG, up3_f (by decide), up3_eq]; rfl
          have h1 := hsq hs.2
          have ed : (nI q : Int32) - 1 = nI (q - 1) := by
            obtain ⟨v, rfl⟩ : ∃ v, q = v + 1 := ⟨q - 1, by omega⟩
            rw [nI_pred]; rfl
          have fo : ∀ j, j < 8 → j ≠ 3 → j ≠ 4 → finG G k 1 k j = G 1 k j := by
            intro j hj a b
            unfold finG
            rw [up3_c (by decide), up3_f a]
            simp only [finL]
            rw [if_neg (by omega), up3_f b]
          have f3 : finG G k 1 k 3 = nI (q - 1) := by
            unfold finG
            rw [up3_c (by decide), up3_eq, f 3 (by decide) (by decide), hq, ed]
          have f4 : finG G k 1 k 4 = 0 := by
            unfold finG
            rw [up3_c (by decide), up3_f (by decide)]
            simp only [finL]
            rw [if_neg (by omega), up3_eq]
          have fq : ∀ j, j < 5 → finG G k 1 k (8 + j) = G 1 k (8 + (j + 1)) := by
            intro j hj
            unfold finG
            rw [up3_c (by decide), up3_f (by omega)]
            simp only [finL]
            rw [if_pos ⟨trivial, trivial, by omega, by omega⟩, up3_f (by omega)]
            rfl
          refine ⟨by rw [fo 0 (by decide) (by decide) (by decide), f 0 (by decide) (by decide)]; exact h0, Or.inl f4, fun _ => ⟨by rw [fo 1 (by decide) (by decide) (by decide), f 1 (by decide) (by decide)]; exact hw, ⟨q - 1, by omega, f3, fun h => by rw [f4] at h; exact absurd h (by decide), fun j hj => ?_⟩, ⟨0, by omega, by rw [fo 6 (by decide) (by decide) (by decide)]; exact e6⟩, ⟨u, hu, by rw [fo 7 (by decide) (by decide) (by decide), f 7 (by decide) (by decide)]; exact huu⟩⟩⟩
          rw [fq j (by omega), f (8 + (j + 1)) (by omega) (by omega)]
          exact hx (j + 1) (by omega)
      next h17 =>
        have hp15 : p + 1 ≤ 16 := by
          rcases Nat.lt_or_ge p 16 with h3 | h3
          · omega
          · exact absurd (by rw [hp1, show p = 16 by omega]; rfl) h17
        have f : ∀ j, j ≠ 6 → up3 g 1 k 6 (g 1 k 6 + 1) 1 k j = g 1 k j := fun j b => by rw [up3_f b]
        exact ⟨by rw [f 0 (by decide)]; exact h0, by rw [f 4 (by decide)]; exact h4, fun _ => ⟨by rw [f 1 (by decide)]; exact hw, ⟨q, hq6, by rw [f 3 (by decide)]; exact hq, fun h => by rw [f 4 (by decide)] at h; exact hsq h, fun j hj => by rw [f (8 + j) (by omega)]; exact hx j hj⟩, ⟨p + 1, hp15, by rw [up3_eq]; exact hp1⟩, ⟨u, hu, by rw [f 7 (by decide)]; exact huu⟩⟩⟩
  next => exact hI
theorem Inv_movN {g : NW} (hI : Inv g) (h : Nat → Int32) : ∀ n, n ≤ 5 → Inv (movN h g n) := by
  intro n
  induction n with
  | zero => intro _; exact hI
  | succ n ih =>
    intro hn
    have hv := ih (by omega)
    refine hv.of1 (fun c i j h1 h7 => mov1_o h _ n (fun e => h1 e.1) h7) (fun i hi => ?_)
    by_cases hin : i = n
    · subst hin; exact InvS_mov1 hi (hv.1 i hi)
    · exact (hv.1 i hi).of (fun j => mov1_o h _ n (fun e => hin e.2) (by decide))
theorem Base_movN {g w : NW} (hb : Base g w) (hI : Inv g) (h : Nat → Int32) : ∀ n, n ≤ 5 → Base (movN h g n) (movN h w n) := by
  intro n
  induction n with
  | zero => intro _; exact hb
  | succ n ih => intro hn; exact Base_mov1 (ih (by omega)) h ((Inv_movN hI h n (by omega)).1 n (by omega))

