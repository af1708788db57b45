/-! LEVEL 2: the class's senders begin; what is carried -/
theorem bgn_k (w : NW) {k : Nat} (hk : k < 5) (j : Nat) : bgn w 1 k j = if beg w k ∧ j = 4 then 1 else if beg w k ∧ (j = 5 ∨ j = 6) then 0 else if j = 7 ∧ rest w k ∧ 0 < w 1 k 7 then w 1 k 7 - 1 else w 1 k j := by
  unfold bgn bgnQ bgnP
  simp only [hk, true_and]
theorem bgnW_k (w : NW) (k j : Nat) : bgnW w k 1 k j = w 1 k j := by simp [bgnW]
theorem bgnW_c (w : NW) (k : Nat) {c i j : Nat} (h : c ≠ 1) : bgnW w k c i j = w c i j := by simp [bgnW, h]
theorem bgnW_n (w : NW) (k : Nat) (h : ∀ j, bgn w 1 k j = w 1 k j) : bgnW w k = bgnW w (k + 1) := by
  rw [← bgnW_up]
  funext c i j
  by_cases e : c = 1 ∧ i = k
  · rw [if_pos e]
    obtain ⟨rfl, rfl⟩ := e
    rw [bgnW_k, h]
  · rw [if_neg e]
theorem bgnW_p (w : NW) {k : Nat} (hk : k < 5) (hr : rest w k) (hp : 0 < w 1 k 7) : up3 (bgnW w k) 1 k 7 (w 1 k 7 - 1) = bgnW w (k + 1) := by
  rw [← bgnW_up]
  have nb : ¬ beg w k := fun h => by
    have := h.2.2.1
    rw [this] at hp
    exact absurd hp (by decide)
  funext c i j
  by_cases e : c = 1 ∧ i = k
  · rw [if_pos e]
    obtain ⟨rfl, rfl⟩ := e
    rw [bgn_k w hk, if_neg (fun h => nb h.1), if_neg (fun h => nb h.1)]
    by_cases h7 : j = 7
    · subst h7
      rw [up3_eq, if_pos ⟨rfl, hr, hp⟩]
    · rw [up3_f h7, if_neg (fun h => h7 h.1), bgnW_k]
  · rw [if_neg e, up3_o e]
theorem bgnW_b (w : NW) {k : Nat} (hk : k < 5) (hb : beg w k) : up3 (up3 (up3 (bgnW w k) 1 k 4 1) 1 k 5 0) 1 k 6 0 = bgnW w (k + 1) := by
  rw [← bgnW_up]
  funext c i j
  by_cases e : c = 1 ∧ i = k
  · rw [if_pos e]
    obtain ⟨rfl, rfl⟩ := e
    rw [bgn_k w hk]
    by_cases h6 : j = 6
    · subst h6
      rw [up3_eq, if_neg (fun h => absurd h.2 (by decide)), if_pos ⟨hb, Or.inr rfl⟩]
    · rw [up3_f h6]
      by_cases h5 : j = 5
      · subst h5
        rw [up3_eq, if_neg (fun h => absurd h.2 (by decide)), if_pos ⟨hb, Or.inl rfl⟩]
      · rw [up3_f h5]
        by_cases h4 : j = 4
        · subst h4
          rw [up3_eq, if_pos ⟨hb, rfl⟩]
        · rw [up3_f h4, if_neg (fun h => h4 h.2), if_neg (fun h => h.2.elim h5 h6), if_neg, bgnW_k]
          rintro ⟨-, -, h⟩
          rw [hb.2.2.1] at h
          exact absurd h (by decide)
  · rw [if_neg e, up3_o e, up3_o e, up3_o e]
section CLS2
variable {σ : SG} {n : Nat} {w : NW}
theorem c_begin1 {k : Nat} (hk : k < 5) (q : Int32) : m_X6_beginOrWait (some (sndA n k)) q (ovr σ n w) = some ((), ovr σ n (if w 1 k 4 = 0 then (if w 1 k 7 ≤ 0 then (if w 1 k 3 ≤ 0 then w else if q = 0 then w else up3 (up3 (up3 w 1 k 4 1) 1 k 5 0) 1 k 6 0) else up3 w 1 k 7 (w 1 k 7 - 1)) else w)) := by
  unfold m_X6_beginOrWait
  simp only [gI_snd_6 hk, gI_snd_9 hk, gI_snd_4 hk, Option.bind_some, pZ_snd_6 hk _ (Or.inr rfl), pI_snd_7 hk, pI_snd_8 hk, pI_snd_9 hk]
  by_cases h4 : w 1 k 4 = 0
  · rw [if_pos h4, if_pos h4]
    by_cases h7 : w 1 k 7 ≤ 0
    · rw [if_pos h7, if_pos h7]
      by_cases h3 : w 1 k 3 ≤ 0
      · rw [if_pos h3, if_pos h3]
      · rw [if_neg h3, if_neg h3]
        by_cases hq : q = 0
        · rw [if_pos hq, if_pos hq]
        · rw [if_neg hq, if_neg hq]
    · rw [if_neg h7, if_neg h7]
  · rw [if_neg h4, if_neg h4]
theorem c_beginL (hI : ∀ i, i < 5 → InvS w i) (hR : ∀ i, i < 6 → b01 (w 4 i 0)) : ∀ (d k : Nat), k + d = 5 → ∀ (N : Nat), d < N → m_X3_beginSpeaking_L10 N (some n) (some (n + 1)) 5 (nI k) (ovr σ n (bgnW w k)) = some ((), ovr σ n (bgnW w 5)) := by
  intro d
  induction d with
  | zero =>
    intro k hk N hN
    obtain ⟨N, rfl⟩ : ∃ m, N = m + 1 := ⟨N - 1, by omega⟩
    rw [show m_X3_beginSpeaking_L10 (N + 1) = m_X3_beginSpeaking_B10 (m_X3_beginSpeaking_L10 N) from rfl]
    unfold m_X3_beginSpeaking_B10
    rw [if_pos (show (5 : Int32) ≤ nI k from nI_le (a := 5) (by omega) (by omega))]
    obtain rfl : k = 5 := by omega
    rfl
  | succ d ih =>
    intro k hk N hN
    obtain ⟨N, rfl⟩ : ∃ m, N = m + 1 := ⟨N - 1, by omega⟩
    rw [show m_X3_beginSpeaking_L10 (N + 1) = m_X3_beginSpeaking_B10 (m_X3_beginSpeaking_L10 N) from rfl]
    unfold m_X3_beginSpeaking_B10 m_X3_beginSpeaking_b42
    rw [if_neg (show ¬ (5 : Int32) ≤ nI k from nI_ge (b := 5) (by omega) (by decide))]
    have hk5 : k < 5 := by omega
    have nx := ih (k + 1) (by omega) N (by omega)
    obtain ⟨h0, h4, hP⟩ := hI k hk5
    simp only [ald_1 hk5, Option.bind_some, gI_snd_1 hk5, gI_snd_2 hk5, bgnW_k, ob_net, ob_snd hk5, ← nI_succ]
    rcases h0 with h0 | h0
    · rw [if_pos h0, bgnW_n w k (fun j => by
        rw [bgn_k w hk5, if_neg, if_neg, if_neg]
        · rintro ⟨-, ⟨h, -⟩, -⟩; rw [h0] at h; exact absurd h (by decide)
        · rintro ⟨⟨⟨h, -⟩, -⟩, -⟩; rw [h0] at h; exact absurd h (by decide)
        · rintro ⟨⟨⟨h, -⟩, -⟩, -⟩; rw [h0] at h; exact absurd h (by decide))]
      exact nx
    · obtain ⟨⟨v, hv, hwv⟩, ⟨q, hq6, hq, -, -⟩, ⟨p, hp16, hp⟩, ⟨u, hu, hpu⟩⟩ := hP h0
      have hc : (w 1 k 1).toNatClampNeg = v := by rw [hwv]; exact nI_clamp (by omega)
      rw [if_neg (by rw [h0]; exact one_ne), hwv, c_quiet hv (by rw [bgnW_c w k (by decide)]; exact hR v hv)]
      simp only [bnd_some, bgnW_c w k (by decide : (4 : Nat) ≠ 1), ob_snd hk5, Option.bind_some]
      rw [c_begin1 hk5]
      simp only [bnd_some, bgnW_k]
      by_cases hs : w 1 k 4 = 0
      · have hr : rest w k := ⟨h0, hs⟩
        rw [if_pos hs]
        by_cases hz : w 1 k 7 ≤ 0
        · rw [if_pos hz]
          have hz0 : w 1 k 7 = 0 := by
            rw [hpu] at hz ⊢
            have h2 := Int32.le_iff_toInt_le.mp hz
            rw [nI_toInt (by omega), Int32.toInt_zero] at h2
            rw [show u = 0 by omega]; rfl
          have same : ¬ beg w k → bgnW w k = bgnW w (k + 1) := fun nb => bgnW_n w k (fun j => by
            rw [bgn_k w hk5, if_neg (fun h => nb h.1), if_neg (fun h => nb h.1), if_neg]
            rintro ⟨-, -, h⟩; rw [hz0] at h; exact absurd h (by decide))
          by_cases hw3 : w 1 k 3 ≤ 0
          · rw [if_pos hw3, same (fun h => absurd hw3 (Int32.not_le.mpr h.2.1))]
            exact nx
          · rw [if_neg hw3]
            by_cases hq2 : w 4 v 0 = 0 ∧ w 4 v 1 = 0
            · rw [if_pos hq2, if_neg one_ne, bgnW_b w hk5 ⟨hr, Int32.not_le.mp hw3, hz0, by rw [quiet, hc]; exact hq2⟩]
              exact nx
            · rw [if_neg hq2, if_pos rfl, same (fun h => hq2 (by have h2 := h.2.2.2; rw [quiet, hc] at h2; exact h2))]
              exact nx
        · rw [if_neg hz, bgnW_p w hk5 hr (Int32.not_le.mp hz)]
          exact nx
      · rw [if_neg hs, bgnW_n w k (fun j => by
          rw [bgn_k w hk5, if_neg (fun h => hs h.1.1.2), if_neg (fun h => hs h.1.1.2), if_neg (fun h => hs h.2.1.2)])]
        exact nx
theorem c_begin (hI : ∀ i, i < 5 → InvS w i) (hR : ∀ i, i < 6 → b01 (w 4 i 0)) : m_X3_beginSpeaking (some n) (ovr σ n w) = some ((), ovr σ n (bgn w)) := by
  unfold m_X3_beginSpeaking
  simp only [gR_net_0, Option.bind_some, len_1]
  have h := c_beginL (σ := σ) (n := n) hI hR 5 0 rfl 1000 (by decide)
  have e0 : bgnW w 0 = w := by funext c i j; simp [bgnW]
  have e5 : bgnW w 5 = bgn w := by
    funext c i j
    simp only [bgnW]
    by_cases hc : c = 1
    · by_cases hi : i < 5
      · rw [if_pos ⟨hc, hi⟩]
      · rw [if_neg (fun e => hi e.2)]
        subst hc
        simp [bgn, bgnQ, bgnP, hi]
    · rw [if_neg (fun e => hc e.1), bgn_c w hc]
  rw [e0, e5] at h
  exact h
theorem w8_bit (w : NW) (h : Nat → Int32) (k : Nat) : bitG (w8 w h) k = bitG w k := by simp [bitG, w8]
theorem c_machine {k p : Nat} (hk : k < 4) (h0 : b01 (w 2 k 0)) (h4 : b01 (w 2 k 4)) (hp : w 2 k 0 = 1 → ∃ p, 2 ≤ p ∧ p ≤ 20 ∧ w 2 k 3 = nI p) : m_X2_makesNoiseAt (some (macA n k)) (w 0 0 0) (ovr σ n w) = some (if nois w k then 1 else 0, ovr σ n w) := by
  unfold m_X2_makesNoiseAt
  simp only [gI_mac_1 hk, gI_mac_5 hk, gI_mac_4 hk, Option.bind_some]
  rcases h0 with h0 | h0
  · rw [if_pos h0, if_neg (fun e => absurd (e.1.symm.trans h0) one_ne)]
    rfl
  · obtain ⟨p, h2, h20, hq⟩ := hp h0
    rw [if_neg (by rw [h0]; exact one_ne)]
    rcases h4 with h4 | h4
    · rw [if_pos h4, if_neg (fun e => absurd (e.2.1.symm.trans h4) one_ne)]
      rfl
    · rw [if_neg (by rw [h4]; exact one_ne), if_neg (by rw [hq]; exact nI_ge (a := 0) (by omega) (by omega)), if_neg (by rw [hq]; exact nI_ne0 (by omega) (by omega))]
      by_cases ht : w 0 0 0 - w 0 0 0 / w 2 k 3 * w 2 k 3 = 0
      · rw [if_pos ht, if_pos ⟨h0, h4, ht⟩]
        rfl
      · rw [if_neg ht, if_neg (fun e => ht e.2.2)]
        rfl
theorem w8_nois (w : NW) (h : Nat → Int32) (k : Nat) : nois (w8 w h) k ↔ nois w k := by simp [nois, w8]
theorem w8_spk (w : NW) (h : Nat → Int32) (k : Nat) : spk (w8 w h) k ↔ spk w k := by simp [spk, w8]
theorem snd1_w8 (w : NW) (h h' : Nat → Int32) (a s : Int32) : snd1 (w8 w h) h' a s = snd1 w h' a s := by
  funext k
  simp only [snd1, lossG_w8]
  rw [w8_o w h (by decide)]
theorem c_carryM (hI : ∀ i, i < 4 → InvM w i) : ∀ (d k : Nat), k + d = 4 → ∀ (N : Nat), d < N → m_X3_carryBits_L91 N (some n) (some (n + 2)) 4 (nI k) (ovr σ n (w8 w (hrM w k))) = some ((), ovr σ n (w8 w (hear w))) := by
  intro d
  induction d with
  | zero =>
    intro k hk N hN
    obtain ⟨N, rfl⟩ : ∃ m, N = m + 1 := ⟨N - 1, by omega⟩
    rw [show m_X3_carryBits_L91 (N + 1) = m_X3_carryBits_B91 (m_X3_carryBits_L91 N) from rfl]
    unfold m_X3_carryBits_B91
    rw [if_pos (show (4 : Int32) ≤ nI k from nI_le (a := 4) (by omega) (by omega))]
    obtain rfl : k = 4 := by omega
    rfl
  | succ d ih =>
    intro k hk N hN
    obtain ⟨N, rfl⟩ : ∃ m, N = m + 1 := ⟨N - 1, by omega⟩
    rw [show m_X3_carryBits_L91 (N + 1) = m_X3_carryBits_B91 (m_X3_carryBits_L91 N) from rfl]
    unfold m_X3_carryBits_B91 m_X3_carryBits_b127
    rw [if_neg (show ¬ (4 : Int32) ≤ nI k from nI_ge (b := 4) (by omega) (by decide))]
    have hk4 : k < 4 := by omega
    have nx := ih (k + 1) (by omega) N (by omega)
    rw [show hrM w (k + 1) = if nois w k then snd1 w (hrM w k) (w 2 k 1) (w 2 k 2) else hrM w k from rfl] at nx
    obtain ⟨h0, h4, hP⟩ := hI k hk4
    simp only [ald_2 hk4, Option.bind_some, gI_net_6, ob_mac hk4]
    rw [c_machine (p := 0) hk4 (by rw [w8_o _ _ (by decide)]; exact h0) (by rw [w8_o _ _ (by decide)]; exact h4) (by rw [w8_o _ _ (by decide), w8_o _ _ (by decide)]; exact fun h => (hP h).2)]
    simp only [bnd_some, gI_mac_2 hk4, gI_mac_3 hk4, Option.bind_some, ob_net, w8_o _ _ (by decide : (2 : Nat) ≠ 8), c_spread, ← nI_succ]
    by_cases hn : nois w k
    · rw [if_pos hn] at nx
      rw [if_pos ((w8_nois _ _ _).mpr hn), if_neg one_ne]
      exact nx
    · rw [if_neg hn] at nx
      rw [if_neg (fun e => hn ((w8_nois _ _ _).mp e)), if_pos rfl]
      exact nx
theorem c_carryS (hM : ∀ i, i < 4 → InvM w i) (hI : ∀ i, i < 5 → InvS w i) : ∀ (d k : Nat), k + d = 5 → ∀ (N : Nat), d < N → m_X3_carryBits_L34 N (some n) (some (n + 1)) 5 (nI k) (ovr σ n (w8 w (hrS w k))) = some ((), ovr σ n (w8 w (hear w))) := by
  intro d
  induction d with
  | zero =>
    intro k hk N hN
    obtain ⟨N, rfl⟩ : ∃ m, N = m + 1 := ⟨N - 1, by omega⟩
    rw [show m_X3_carryBits_L34 (N + 1) = m_X3_carryBits_B34 (m_X3_carryBits_L34 N) from rfl]
    unfold m_X3_carryBits_B34
    rw [if_pos (show (5 : Int32) ≤ nI k from nI_le (a := 5) (by omega) (by omega))]
    obtain rfl : k = 5 := by omega
    simp only [gR_net_1, Option.bind_some, len_2]
    exact c_carryM (σ := σ) (n := n) hM 4 0 rfl 1000 (by decide)
  | succ d ih =>
    intro k hk N hN
    obtain ⟨N, rfl⟩ : ∃ m, N = m + 1 := ⟨N - 1, by omega⟩
    rw [show m_X3_carryBits_L34 (N + 1) = m_X3_carryBits_B34 (m_X3_carryBits_L34 N) from rfl]
    unfold m_X3_carryBits_B34 m_X3_carryBits_b75
    rw [if_neg (show ¬ (5 : Int32) ≤ nI k from nI_ge (b := 5) (by omega) (by decide))]
    have hk5 : k < 5 := by omega
    have nx := ih (k + 1) (by omega) N (by omega)
    rw [show hrS w (k + 1) = if spk w k ∧ bitG w k = 1 then snd1 w (hrS w k) (w 1 k 1) (w 1 k 2) else hrS w k from rfl] at nx
    obtain ⟨h0, h4, hP⟩ := hI k hk5
    simp only [ald_1 hk5, Option.bind_some, ob_snd hk5]
    rw [c_isSpeaking hk5 (by rw [w8_o _ _ (by decide)]; exact h0) (by rw [w8_o _ _ (by decide)]; exact h4)]
    simp only [bnd_some, ob_snd hk5, Option.bind_some]
    by_cases hs : spk w k
    · obtain ⟨-, -, ⟨p, hp16, hp⟩, -⟩ := hP hs.1
      rw [if_pos ((w8_spk _ _ _).mpr hs), if_neg one_ne, c_bit hk5 (by rw [w8_o _ _ (by decide)]; exact hp) hp16]
      simp only [bnd_some, gI_snd_2 hk5, gI_snd_5 hk5, Option.bind_some, ob_net, w8_o _ _ (by decide : (1 : Nat) ≠ 8), w8_bit, c_spread, ← nI_succ]
      by_cases hb : bitG w k = 1
      · rw [if_pos ⟨hs, hb⟩] at nx
        rw [if_pos hb]
        exact nx
      · rw [if_neg (fun e => hb e.2)] at nx
        rw [if_neg hb]
        exact nx
    · rw [if_neg (fun e => hs e.1)] at nx
      rw [if_neg (fun e => hs ((w8_spk _ _ _).mp e)), if_pos rfl, ← nI_succ]
      exact nx
theorem c_carry0 : ∀ (d k : Nat), k + d = 6 → ∀ (N : Nat), d < N → ∀ (w : NW), m_X3_carryBits_L2 N (some n) (nI k) (ovr σ n w) = m_X3_carryBits_L34 1000 (some n) (some (n + 1)) 5 (nI 0) (ovr σ n (fun c i j => if c = 8 ∧ i = 0 ∧ k ≤ j ∧ j < 6 then 0 else w c i j)) := by
  intro d
  induction d with
  | zero =>
    intro k hk N hN w
    obtain ⟨N, rfl⟩ : ∃ m, N = m + 1 := ⟨N - 1, by omega⟩
    rw [show m_X3_carryBits_L2 (N + 1) = m_X3_carryBits_B2 (m_X3_carryBits_L2 N) from rfl]
    unfold m_X3_carryBits_B2
    simp only [gR_net_7, gR_net_0, Option.bind_some, len_7, len_1]
    rw [if_pos (show (6 : Int32) ≤ nI k from nI_le (a := 6) (by omega) (by omega)), nI0]
    congr 2
    funext c i j
    rw [if_neg (by omega)]
  | succ d ih =>
    intro k hk N hN w
    obtain ⟨N, rfl⟩ : ∃ m, N = m + 1 := ⟨N - 1, by omega⟩
    rw [show m_X3_carryBits_L2 (N + 1) = m_X3_carryBits_B2 (m_X3_carryBits_L2 N) from rfl]
    unfold m_X3_carryBits_B2
    have hk6 : k < 6 := by omega
    simp only [gR_net_7, Option.bind_some, len_7, nar0, ast_7 hk6, ← nI_succ]
    rw [if_neg (show ¬ (6 : Int32) ≤ nI k from nI_ge (b := 6) (by omega) (by decide)), ih (k + 1) (by omega) N (by omega)]
    congr 2
    funext c i j
    by_cases h : c = 8 ∧ i = 0 ∧ k ≤ j ∧ j < 6
    · rw [if_pos h]
      by_cases hj : j = k
      · rw [if_neg (by omega)]
        obtain ⟨rfl, rfl, -⟩ := h
        subst hj
        rw [up3_eq]
      · rw [if_pos (by omega)]
    · rw [if_neg h, if_neg (by omega)]
      simp only [up3]
      rw [if_neg]
      rintro ⟨rfl, rfl, rfl⟩
      exact h ⟨rfl, rfl, by omega, hk6⟩
theorem c_carry (hM : ∀ i, i < 4 → InvM w i) (hI : ∀ i, i < 5 → InvS w i) : m_X3_carryBits (some n) (ovr σ n w) = some ((), ovr σ n (w8 w (hear w))) := by
  unfold m_X3_carryBits
  rw [nI0, c_carry0 6 0 rfl 1000 (by decide) w, ← c_carryS (σ := σ) (n := n) hM hI 5 0 rfl 1000 (by decide)]
  congr 2
  funext c i j
  simp only [w8, hrS]
  by_cases h : c = 8 ∧ i = 0 ∧ j < 6
  · rw [if_pos h, if_pos ⟨h.1, h.2.1, Nat.zero_le _, h.2.2⟩]
  · rw [if_neg h, if_neg (fun e => h ⟨e.1, e.2.1, e.2.2.2⟩)]
end CLS2

