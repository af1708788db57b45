/-! LEVEL 2: A BEAT, on both sides -/
theorem and1 (x : Int32) : x &&& 1 = 0 ∨ x &&& 1 = 1 := by
  rcases Bool.eq_false_or_eq_true (x.toBitVec.getLsbD 0) with h | h
  · right
    apply Int32.toBitVec_inj.mp
    show x.toBitVec &&& 1#32 = 1#32
    rw [BitVec.and_one_eq_setWidth_ofBool_getLsbD, h]
    rfl
  · left
    apply Int32.toBitVec_inj.mp
    show x.toBitVec &&& 1#32 = 0#32
    rw [BitVec.and_one_eq_setWidth_ofBool_getLsbD, h]
    rfl
theorem wrd_lt (b : Int32) : ∀ k, ∃ u, u < 2 ^ k ∧ wrd b k = nI u := by
  intro k
  induction k with
  | zero => exact ⟨0, by decide, rfl⟩
  | succ k ih =>
    obtain ⟨u, hu, e⟩ := ih
    have e2 : (2 : Int32) * nI u = nI (2 * u) := nI_mul 2 u
    rcases and1 (b >>> ((9 - 2 * nI k) &&& 31)) with h | h
    · refine ⟨2 * u, by rw [Nat.pow_succ]; omega, ?_⟩
      show 2 * wrd b k + ((b >>> ((9 - 2 * nI k) &&& 31)) &&& 1) = _
      rw [e, h, e2]
      simp
    · refine ⟨2 * u + 1, by rw [Nat.pow_succ]; omega, ?_⟩
      show 2 * wrd b k + ((b >>> ((9 - 2 * nI k) &&& 31)) &&& 1) = _
      rw [e, h, e2, ← nI_succ]
theorem Inv.of34 {g g' : NW} (h : Inv g) (e1 : ∀ i j, g' 1 i j = g 1 i j) (e2 : ∀ i j, g' 2 i j = g 2 i j) (hL : ∀ i, i < 8 → InvL g' i) (hR : ∀ i, i < 6 → InvR g' i) : Inv g' := by
  refine ⟨fun i hi => (h.1 i hi).of (e1 i), fun i hi => ?_, hL, hR⟩
  have := h.2.1 i hi
  unfold InvM at this ⊢
  simp only [e2]
  exact this
theorem InvL.of {g g' : NW} {i : Nat} (h : InvL g i) (e : ∀ j, g' 3 i j = g 3 i j) : InvL g' i := by
  unfold InvL at h ⊢
  rw [e, e]
  exact h
theorem InvR.of {g g' : NW} {i : Nat} (h : InvR g i) (e : ∀ j, g' 4 i j = g 4 i j) : InvR g' i := by
  unfold InvR at h ⊢
  rw [e, e, e]
  exact h
theorem Inv_tak1 {g : NW} (hI : Inv g) {h : Nat → Int32} (hb : ∀ j, b01 (h j)) {a : Nat} (ha : a < 6) : Inv (tak1 h g a) := by
  obtain ⟨i0, ⟨f, hf, hf1⟩, ⟨o, ho, ho1⟩⟩ := hI.2.2.2 a ha
  obtain ⟨b, hb2, hhb⟩ : ∃ b : Nat, b < 2 ∧ h a = nI b := by
    rcases hb a with e | e
    · exact ⟨0, by decide, e⟩
    · exact ⟨1, by decide, e⟩
  have four : ∀ {G : NW}, (∀ c i j, c ≠ 4 → c ≠ 7 → G c i j = g c i j) → (∀ i j, i ≠ a → G 4 i j = g 4 i j) → InvR G a → Inv G := by
    intro G h1 h2 h3
    refine hI.of34 (fun i j => h1 1 i j (by decide) (by decide)) (fun i j => h1 2 i j (by decide) (by decide)) (fun i hi => (hI.2.2.1 i hi).of (fun j => h1 3 i j (by decide) (by decide))) (fun i hi => ?_)
    by_cases e : i = a
    · rw [e]; exact h3
    · exact (hI.2.2.2 i hi).of (fun j => h2 i j e)
  unfold tak1
  split
  · obtain ⟨l1, q, l2⟩ := lst_ok ⟨f, hf⟩ ⟨b, hb2⟩
    refine four (fun c i j h4 _ => by rw [up3_c h4, up3_c h4]) (fun i j hi => by rw [up3_i hi, up3_i hi]) ⟨?_, ⟨q.val, q.isLt, ?_⟩, ⟨o, ho, ?_⟩⟩
    · rw [up3_eq]
      split
      · exact Or.inr rfl
      · exact Or.inl rfl
    · rw [up3_f (by decide), up3_eq, hf1, hhb]; exact l2
    · rw [up3_f (by decide), up3_f (by decide)]; exact ho1
  · split
    · refine four (fun c i j h4 h7 => by rw [lisG_o _ (fun e => h4 e.1), up3_c h7, up3_c h4, up3_c h4]) (fun i j hi => by rw [lisG_o _ (fun e => hi e.2), up3_c (by decide), up3_i hi, up3_i hi]) ⟨Or.inl (lisG_4 _ a).1, ⟨0, by decide, (lisG_4 _ a).2.1⟩, ⟨o, ho, ?_⟩⟩
      rw [(lisG_4 _ a).2.2.2.2 6 (by decide), up3_c (by decide), up3_f (by decide), up3_f (by decide)]; exact ho1
    · split
      · obtain ⟨u, hu, eu⟩ := wrd_lt (2 * g 4 a 3 + h a) 5
        rw [eu]
        have hL1 : ∀ i, i < 8 → InvL (up3 (up3 g 4 a 2 (g 4 a 2 + 1)) 4 a 3 (2 * g 4 a 3 + h a)) i := fun i hi => (hI.2.2.1 i hi).of (fun j => by rw [up3_c (by decide), up3_c (by decide)])
        have o6 : up3 (up3 g 4 a 2 (g 4 a 2 + 1)) 4 a 3 (2 * g 4 a 3 + h a) 4 a 6 = nI o := by rw [up3_f (by decide), up3_f (by decide)]; exact ho1
        refine hI.of34 (fun i j => by rw [lisG_o _ (by omega), telG_o _ _ _ (by decide) (by decide) (by decide), up3_c (by decide), up3_c (by decide)]) (fun i j => by rw [lisG_o _ (by omega), telG_o _ _ _ (by decide) (by decide) (by decide), up3_c (by decide), up3_c (by decide)]) (fun i hi => (telG_L a (nI u) hL1 i hi).of (fun j => lisG_o _ (by omega))) (fun i hi => ?_)
        by_cases e : i = a
        · subst e
          obtain ⟨q, hq, hq2⟩ := telG_6 (a := i) (show u < 32 from hu) o6 ho
          exact ⟨Or.inl (lisG_4 _ i).1, ⟨0, by decide, (lisG_4 _ i).2.1⟩, ⟨q, hq, by rw [(lisG_4 _ i).2.2.2.2 6 (by decide)]; exact hq2⟩⟩
        · exact (hI.2.2.2 i hi).of (fun j => by rw [lisG_o _ (fun z => e z.2), telG_4o _ _ _ (fun z => e z.1), up3_i e, up3_i e])
      · refine four (fun c i j h4 _ => by rw [up3_c h4, up3_c h4]) (fun i j hi => by rw [up3_i hi, up3_i hi]) ⟨?_, ⟨f, hf, ?_⟩, ⟨o, ho, ?_⟩⟩
        · rw [up3_f (by decide), up3_f (by decide)]; exact i0
        · rw [up3_f (by decide), up3_f (by decide)]; exact hf1
        · rw [up3_f (by decide), up3_f (by decide)]; exact ho1
theorem Inv_takN {g : NW} (hI : Inv g) {h : Nat → Int32} (hb : ∀ j, b01 (h j)) : ∀ n, n ≤ 6 → Inv (takN h g n) := by
  intro n
  induction n with
  | zero => intro _; exact hI
  | succ n ih => intro hn; exact Inv_tak1 (ih (by omega)) hb (by omega)
theorem Inv_up0 {g : NW} (hI : Inv g) (v : Int32) : Inv (up3 g 0 0 0 v) :=
  hI.of34 (fun i j => up3_c (by decide)) (fun i j => up3_c (by decide)) (fun i hi => (hI.2.2.1 i hi).of (fun j => up3_c (by decide))) (fun i hi => (hI.2.2.2 i hi).of (fun j => up3_c (by decide)))
theorem Inv_beat {g : NW} (hI : Inv g) : Inv (beatG g) := Inv_up0 (Inv_takN (Inv_movN (Inv_bgn hI) _ 5 (by omega)) (hear_01 _) 6 (by omega)) _
theorem Inv_wire {g : NW} (hI : Inv g) : ∀ k, k < 5 → g 1 k 0 = 1 → ∃ v, v < 6 ∧ g 1 k 1 = nI v := fun k hk hp => ((hI.1 k hk).2.2 hp).1
theorem Inv_per {g : NW} (hI : Inv g) : ∀ k, k < 4 → g 2 k 0 = 1 → ¬ g 2 k 3 = 0 := fun k hk hp => by
  obtain ⟨-, p, h2, h20, e⟩ := (hI.2.1 k hk).2.2 hp
  rw [e]
  exact nI_ne0 (by omega) (by omega)
section CLS8
variable {σ : SG} {n : Nat}
theorem c_takeL {h : Nat → Int32} (hb : ∀ j, b01 (h j)) {g0 : NW} : ∀ (d k : Nat), k + d = 6 → ∀ (N : Nat), d < N → ∀ (g w : NW) (v : Int32), Rel g w → Inv g → (∀ j, j < 6 → w 8 0 j = h j) → g = takN h g0 k →
    ∃ (w' : NW) (e : Int32), m_X3_takeBits_L4 N (some n) v (nI k) (ovr σ n w) = some (v + e, ovr σ n w') ∧ Rel (takN h g0 6) w' ∧ (∀ j, j < 6 → w' 8 0 j = h j) ∧ takN h g0 6 7 0 2 = g 7 0 2 + e := by
  intro d
  induction d with
  | zero =>
    intro k hk N hN g w v hR hI hh hg
    obtain ⟨N, rfl⟩ : ∃ m, N = m + 1 := ⟨N - 1, by omega⟩
    rw [show m_X3_takeBits_L4 (N + 1) = m_X3_takeBits_B4 (m_X3_takeBits_L4 N) from rfl]
    unfold m_X3_takeBits_B4
    simp only [gR_net_3, Option.bind_some, len_4]
    obtain rfl : k = 6 := by omega
    rw [if_pos (show (6 : Int32) ≤ nI 6 from nI_le (a := 6) (by omega) (by omega))]
    exact ⟨w, 0, by simp, by rw [← hg]; exact hR, hh, by rw [← hg]; simp⟩
  | succ d ih =>
    intro k hk N hN g w v hR hI hh hg
    obtain ⟨N, rfl⟩ : ∃ m, N = m + 1 := ⟨N - 1, by omega⟩
    rw [show m_X3_takeBits_L4 (N + 1) = m_X3_takeBits_B4 (m_X3_takeBits_L4 N) from rfl]
    have hk6 : k < 6 := by omega
    obtain ⟨w1, e1, h1, h2, h3, h4⟩ := c_take1 (σ := σ) (n := n) (h := h) hk6 hR hI hb (hh k hk6) (m_X3_takeBits_L4 N) v
    obtain ⟨w2, e2, h5, h6, h7, h8⟩ := ih (k + 1) (by omega) N (by omega) (tak1 h g k) w1 (v + e1) h2 (Inv_tak1 hI hb hk6) (fun j hj => by rw [h3]; exact hh j hj) (by rw [hg]; rfl)
    refine ⟨w2, e1 + e2, ?_, h6, h7, ?_⟩
    · rw [h1, h5, Int32.add_assoc]
    · rw [h8, h4, Int32.add_assoc]
theorem Rel.up0 {g w : NW} (h : Rel g w) (v : Int32) : Rel (up3 g 0 0 0 v) (up3 w 0 0 0 v) :=
  ⟨h.1.up v (Or.inl (by decide)) (Or.inl (by decide)), fun i hi => (h.2 i hi).of4 (fun j => up3_c (by decide)) (fun j => up3_c (by decide))⟩
theorem Rel.w8 {g w : NW} (h : Rel g w) (x : Nat → Int32) : Rel g (w8 w x) := ⟨h.1.hw8 x, fun i hi => (h.2 i hi).of4 (fun _ => rfl) (fun j => w8_o _ _ (by decide))⟩
theorem Inv_w {g w : NW} (hR : Rel g w) (hI : Inv g) : (∀ i, i < 5 → InvS w i) ∧ (∀ i, i < 4 → InvM w i) ∧ ∀ i, i < 6 → b01 (w 4 i 0) := by
  have hB := hR.1
  refine ⟨fun i hi => ?_, fun i hi => ?_, fun i hi => by rw [(hR.2 i hi).1]; exact (hI.2.2.2 i hi).1⟩
  · obtain ⟨h0, h4, hP⟩ := hI.1 i hi
    refine ⟨by rw [hB.c1 i (by decide)]; exact h0, by rw [hB.c1 i (by decide)]; exact h4, fun hp => ?_⟩
    rw [hB.c1 i (by decide)] at hp
    obtain ⟨hw, ⟨q, hq6, hq, hs, hx⟩, hpl, hpa⟩ := hP hp
    refine ⟨by rw [hB.c1 i (by decide)]; exact hw, ⟨q, hq6, by rw [hB.c1 i (by decide)]; exact hq, fun h => hs (by rw [← hB.c1 i (by decide)]; exact h), fun j hj => ?_⟩, by rw [hB.c1 i (by decide)]; exact hpl, by rw [hB.c1 i (by decide)]; exact hpa⟩
    rw [hB.cq i (by omega) (by rw [hq]; exact nI_lt hj (by omega))]
    exact hx j hj
  · obtain ⟨h0, h4, hP⟩ := hI.2.1 i hi
    refine ⟨by rw [hB.c2 i (Or.inl (by decide))]; exact h0, by rw [hB.c2 i (Or.inl (by decide))]; exact h4, fun hp => ?_⟩
    rw [hB.c2 i (Or.inl (by decide))] at hp
    rw [hB.c2 i (Or.inl (by decide)), hB.c2 i (Or.inr hp)]
    exact hP hp
theorem mov1_72 (h : Nat → Int32) (g : NW) (k : Nat) : mov1 h g k 7 0 2 = g 7 0 2 := by
  have fin : ∀ G : NW, finG G k 7 0 2 = G 7 0 2 := by
    intro G
    unfold finG
    rw [up3_f (by decide), up3_c (by decide), finL_o _ _ _ (by omega), up3_c (by decide)]
  unfold mov1 dstG advG
  split
  · split
    · rw [up3_f (by decide), up3_c (by decide), up3_c (by decide)]
    · split
      · split
        · rw [up3_c (by decide), up3_c (by decide)]
        · rw [fin, up3_c (by decide), up3_c (by decide)]
      · rw [up3_c (by decide)]
  · rfl
theorem movN_72 (h : Nat → Int32) (g : NW) : ∀ k, movN h g k 7 0 2 = g 7 0 2 := by
  intro k
  induction k with
  | zero => rfl
  | succ k ih => rw [show movN h g (k + 1) = mov1 h (movN h g k) k from rfl, mov1_72]; exact ih
/-- A BEAT of a Net keeps the relation to a beat of the reference; its answer is how many words are new -/
theorem c_beat {g w : NW} (hR : Rel g w) (hI : Inv g) : ∃ (w' : NW) (e : Int32), m_X3_beat (some n) (ovr σ n w) = some (e, ovr σ n w') ∧ Rel (beatG g) w' ∧ beatG g 7 0 2 = g 7 0 2 + e := by
  have hR1 := Rel_bgn hR hI
  have hI1 := Inv_bgn hI
  obtain ⟨s0, -, r0⟩ := Inv_w hR hI
  obtain ⟨s1, m1, -⟩ := Inv_w hR1 hI1
  have eH : hear (bgn w) = hear (bgn g) := hear_eq hR1.1 hI1
  have hR2 : Rel (movN (hear (bgn g)) (bgn g) 5) (movN (hear (bgn g)) (w8 (bgn w) (hear (bgn g))) 5) :=
    ⟨Base_movN (hR1.1.hw8 _) hI1 _ 5 (by omega), fun i hi => (hR1.2 i hi).of4 (fun j => movN_c _ _ (by decide) (by decide) _ _ _) (fun j => by rw [movN_c _ _ (by decide) (by decide), w8_o _ _ (by decide)])⟩
  have hI2 : Inv (movN (hear (bgn g)) (bgn g) 5) := Inv_movN hI1 _ 5 (by omega)
  obtain ⟨w', e, h1, h2, h3, h4⟩ := c_takeL (σ := σ) (n := n) (h := hear (bgn g)) (hear_01 _) (g0 := movN (hear (bgn g)) (bgn g) 5) 6 0 rfl 1000 (by decide) _ _ 0 hR2 hI2 (fun j hj => by rw [movN_c _ _ (by decide) (by decide), w8_h _ _ hj]) rfl
  refine ⟨up3 w' 0 0 0 (takN (hear (bgn g)) (movN (hear (bgn g)) (bgn g) 5) 6 0 0 0 + 1), e, ?_, h2.up0 _, ?_⟩
  · unfold m_X3_beat
    simp only [ob_net, Option.bind_some, c_begin s0 r0, bnd_some, c_carry m1 s1, eH]
    rw [c_move (h := hear (bgn g)) (fun i hi => (s1 i hi).of (fun j => w8_o _ _ (by decide))) (fun j hj => w8_h _ _ hj) (fun j _ => hear_01 _ j)]
    simp only [bnd_some, ob_net, Option.bind_some]
    unfold m_X3_takeBits
    rw [← nI0] at h1
    rw [h1]
    simp only [bnd_some, gI_net_6, pI_net_6, Option.bind_some, h2.1.c0]
    simp
  · unfold beatG
    rw [up3_c (by decide), h4, movN_72, bgn_c _ (by decide)]
end CLS8

