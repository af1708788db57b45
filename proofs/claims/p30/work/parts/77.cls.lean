/-! LEVEL 2: the class's senders, machines and receivers: the same functions, on w -/
abbrev b01 (x : Int32) : Prop := x = 0 ∨ x = 1
def InvS (g : NW) (i : Nat) : Prop := b01 (g 1 i 0) ∧ b01 (g 1 i 4) ∧ (g 1 i 0 = 1 → (∃ v, v < 6 ∧ g 1 i 1 = nI v) ∧ (∃ q, q ≤ 6 ∧ g 1 i 3 = nI q ∧ (g 1 i 4 = 1 → 1 ≤ q) ∧ ∀ j, j < q → ∃ x, x < 32 ∧ g 1 i (8 + j) = nI x) ∧ (∃ p, p ≤ 16 ∧ g 1 i 6 = nI p) ∧ (∃ u, u < 100 ∧ g 1 i 7 = nI u))
def InvM (g : NW) (i : Nat) : Prop := b01 (g 2 i 0) ∧ b01 (g 2 i 4) ∧ (g 2 i 0 = 1 → (∃ v, v < 6 ∧ g 2 i 1 = nI v) ∧ (∃ p, 2 ≤ p ∧ p ≤ 20 ∧ g 2 i 3 = nI p))
def InvL (g : NW) (i : Nat) : Prop := b01 (g 3 i 0) ∧ b01 (g 3 i 5)
def InvR (g : NW) (i : Nat) : Prop := b01 (g 4 i 0) ∧ (∃ f, f < 16 ∧ g 4 i 1 = nI f) ∧ (∃ o, o < 16 ∧ g 4 i 6 = nI o)
def Inv (g : NW) : Prop := (∀ i, i < 5 → InvS g i) ∧ (∀ i, i < 4 → InvM g i) ∧ (∀ i, i < 8 → InvL g i) ∧ (∀ i, i < 6 → InvR g i)
section CLS1
variable {σ : SG} {n : Nat} {w : NW}
theorem c_loss (a b : Int32) : m_X3_lossBetween (some n) a b (ovr σ n w) = some (lossG w a b, ovr σ n w) := by
  unfold m_X3_lossBetween m_X3_lossBetween_b19 m_X3_lossBetween_b39 lossG
  have e0 : sAld (some (n + 5)) 1 0 (ovr σ n w) = some (w 6 0 0) := ald_5 (i := 0) (by decide)
  have e1 : sAld (some (n + 5)) 1 1 (ovr σ n w) = some (w 6 0 1) := ald_5 (i := 1) (by decide)
  simp only [three_ne, if_false, gR_net_4, Option.bind_some, e0, e1]
  split <;> split <;> rfl
theorem lossG_c (w : NW) (c i j : Nat) (v : Int32) (h : (6 : Nat) ≠ c) (a b : Int32) : lossG (up3 w c i j v) a b = lossG w a b := by
  unfold lossG
  rw [up3_c h, up3_c h]
theorem c_spreadL (a s : Int32) : ∀ (d k : Nat), k + d = 6 → ∀ (N : Nat), d < N → ∀ (w : NW), m_X3_spreadOne_L2 N (some n) a s (nI k) (ovr σ n w) = some ((), ovr σ n (fun c i j => if c = 8 ∧ i = 0 ∧ k ≤ j ∧ j < 6 then snd1 w (w 8 0) a s j else w c i j)) := by
  intro d
  induction d with
  | zero =>
    intro k hk N hN w
    obtain ⟨N, rfl⟩ : ∃ m, N = m + 1 := ⟨N - 1, by omega⟩
    rw [show m_X3_spreadOne_L2 (N + 1) = m_X3_spreadOne_B2 (m_X3_spreadOne_L2 N) from rfl]
    unfold m_X3_spreadOne_B2
    simp only [gR_net_7, Option.bind_some, len_7]
    rw [if_pos (show (6 : Int32) ≤ nI k from nI_le (a := 6) (by omega) (by omega))]
    congr 3
    funext c i j
    rw [if_neg (by omega)]
  | succ d ih =>
    intro k hk N hN w
    obtain ⟨N, rfl⟩ : ∃ m, N = m + 1 := ⟨N - 1, by omega⟩
    rw [show m_X3_spreadOne_L2 (N + 1) = m_X3_spreadOne_B2 (m_X3_spreadOne_L2 N) from rfl]
    unfold m_X3_spreadOne_B2 m_X3_spreadOne_b35
    have e2 : sAld (some (n + 5)) 1 2 (ovr σ n w) = some (w 6 0 2) := ald_5 (i := 2) (by decide)
    have hk6 : k < 6 := by omega
    simp only [gR_net_7, gR_net_4, Option.bind_some, len_7, ob_net, c_loss, bnd_some, e2, ast_7 hk6, nar1, ← nI_succ]
    rw [if_neg (show ¬ (6 : Int32) ≤ nI k from nI_ge (b := 6) (by omega) (by decide))]
    by_cases hc : s - lossG w a (nI k) < w 6 0 2
    · rw [if_pos hc, ih (k + 1) (by omega) N (by omega)]
      congr 3
      funext c i j
      by_cases h : c = 8 ∧ i = 0 ∧ k ≤ j ∧ j < 6
      · rw [if_pos h]
        by_cases hj : j = k
        · rw [if_neg (by omega)]
          obtain ⟨rfl, rfl, -⟩ := h
          subst hj
          simp [snd1, hc]
        · rw [if_pos (by omega)]
      · rw [if_neg h, if_neg (by omega)]
    · rw [if_neg hc, ih (k + 1) (by omega) N (by omega)]
      congr 3
      funext c i j
      by_cases h : c = 8 ∧ i = 0 ∧ k ≤ j ∧ j < 6
      · rw [if_pos h]
        obtain ⟨rfl, rfl, h3, h4⟩ := h
        by_cases hj : j = k
        · rw [if_neg (by omega)]
          subst hj
          simp [snd1, hc, up3]
        · rw [if_pos (by omega)]
          simp only [snd1]
          rw [lossG_c _ _ _ _ _ (by decide), up3_c (by decide), up3_f hj]
      · rw [if_neg h, if_neg (by omega)]
        simp only [up3]
        rw [if_neg]
        rintro ⟨rfl, rfl, rfl⟩
        exact h ⟨rfl, rfl, by omega, hk6⟩
/-- what is heard, in a Net -/
def w8 (w : NW) (h : Nat → Int32) : NW := fun c i j => if c = 8 ∧ i = 0 ∧ j < 6 then h j else w c i j
theorem w8_o (w : NW) (h : Nat → Int32) {c i j : Nat} (hc : c ≠ 8) : w8 w h c i j = w c i j := by simp [w8, hc]
theorem w8_h (w : NW) (h : Nat → Int32) {j : Nat} (hj : j < 6) : w8 w h 8 0 j = h j := by simp [w8, hj]
theorem lossG_w8 (w : NW) (h : Nat → Int32) (a b : Int32) : lossG (w8 w h) a b = lossG w a b := by simp [lossG, w8]
theorem c_spread (h : Nat → Int32) (a s : Int32) : m_X3_spreadOne (some n) a s (ovr σ n (w8 w h)) = some ((), ovr σ n (w8 w (snd1 w h a s))) := by
  unfold m_X3_spreadOne
  rw [nI0, c_spreadL a s 6 0 rfl 1000 (by decide)]
  congr 3
  funext c i j
  by_cases hh : c = 8 ∧ i = 0 ∧ j < 6
  · rw [if_pos ⟨hh.1, hh.2.1, Nat.zero_le _, hh.2.2⟩]
    obtain ⟨rfl, rfl, h3⟩ := hh
    simp [snd1, lossG_w8, w8, h3]
  · rw [if_neg (fun e => hh ⟨e.1, e.2.1, e.2.2.2⟩)]
    simp only [w8]
    rw [if_neg hh, if_neg hh]
theorem c_frameBit (x : Int32) {p : Nat} (hp : p < 14) (σ : SG) : m_X8_frameBit x (nI p) σ = some (frm x (nI p), σ) := by
  unfold m_X8_frameBit frm
  simp only [two_ne, if_false]
  by_cases h4 : (4 : Int32) ≤ nI p
  · rw [if_pos h4, if_pos h4]
    split <;> rfl
  · rw [if_neg h4, if_neg h4]
    have hp4 : p < 4 := by
      rcases Nat.lt_or_ge p 4 with h | h
      · exact h
      · exact absurd (nI_le (a := 4) h (by omega)) h4
    have e : ∀ q : Fin 4, (14 : Int32) >>> ((3 - nI q.val) &&& 31) &&& 1 = if (3 : Int32) ≤ nI q.val then 0 else 1 := by decide
    rw [e ⟨p, hp4⟩]
theorem c_bit {k p : Nat} (hk : k < 5) (hp : w 1 k 6 = nI p) (hp2 : p ≤ 16) : m_X6_bitToSend (some (sndA n k)) (ovr σ n w) = some (bitG w k, ovr σ n w) := by
  unfold m_X6_bitToSend bitG
  have e : sAld (some (queA n k)) 1 0 (ovr σ n w) = some (w 1 k 8) := ald_que (j := 0) hk (by decide)
  simp only [gI_snd_8 hk, Option.bind_some, gR_snd_3 hk, e, hp]
  by_cases h : (14 : Int32) ≤ nI p
  · rw [if_pos h, if_pos h]
  · rw [if_neg h, if_neg h]
    have hp14 : p < 14 := by
      rcases Nat.lt_or_ge p 14 with h2 | h2
      · exact h2
      · exact absurd (nI_le (a := 14) h2 (by omega)) h
    rw [c_frameBit _ hp14]
    rfl
theorem c_isSpeaking {k : Nat} (hk : k < 5) (h0 : b01 (w 1 k 0)) (h4 : b01 (w 1 k 4)) : m_X6_isSpeaking (some (sndA n k)) (ovr σ n w) = some (if spk w k then 1 else 0, ovr σ n w) := by
  unfold m_X6_isSpeaking
  simp only [gI_snd_1 hk, gI_snd_6 hk, Option.bind_some]
  rcases h0 with h0 | h0 <;> rcases h4 with h4 | h4 <;> simp [h0, h4, chkZ, spk]
theorem c_quiet {v : Nat} (hv : v < 6) (h0 : b01 (w 4 v 0)) : m_X3_isQuietOn (some n) (nI v) (ovr σ n w) = some (if w 4 v 0 = 0 ∧ w 4 v 1 = 0 then 1 else 0, ovr σ n w) := by
  unfold m_X3_isQuietOn m_X4_isQuiet
  rw [if_neg (nI_pos (by omega))]
  simp only [gR_net_3, Option.bind_some, len_4, ald_4 hv, ob_rcv hv, gI_rcv_0 hv, gI_rcv_1 hv]
  rw [if_neg (show ¬ (6 : Int32) ≤ nI v from nI_ge (b := 6) (by omega) (by decide))]
  rcases h0 with h0 | h0
  · by_cases h1 : w 4 v 1 = 0
    · simp [h0, h1, chkZ, bnd]
    · simp [h0, h1, chkZ, bnd]
  · simp [h0, chkZ, bnd]
theorem c_heard {v : Nat} (hv : v < 6) (h0 : b01 (w 8 0 v)) : m_X3_isHeardOn (some n) (nI v) (ovr σ n w) = some (w 8 0 v, ovr σ n w) := by
  unfold m_X3_isHeardOn
  rw [if_neg (nI_pos (by omega))]
  simp only [gR_net_7, Option.bind_some, len_7, ald_7 hv]
  rw [if_neg (show ¬ (6 : Int32) ≤ nI v from nI_ge (b := 6) (by omega) (by decide))]
  rcases h0 with h0 | h0 <;> simp [h0, chkZ]
/-- the senders below k have begun -/
def bgnW (w : NW) (k : Nat) : NW := fun c i j => if c = 1 ∧ i < k then bgn w c i j else w c i j
def bg1 (w : NW) (k : Nat) : NW := fun c i j => if c = 1 ∧ i = k then bgn w c i j else w c i j
theorem bgnW_up (w : NW) (k : Nat) : (fun c i j => if c = 1 ∧ i = k then bgn w c i j else bgnW w k c i j) = bgnW w (k + 1) := by
  funext c i j
  simp only [bgnW]
  by_cases h : c = 1 ∧ i = k
  · rw [if_pos h, if_pos ⟨h.1, by omega⟩]
  · rw [if_neg h]
    by_cases h2 : c = 1 ∧ i < k
    · rw [if_pos h2, if_pos ⟨h2.1, by omega⟩]
    · rw [if_neg h2, if_neg]
      rintro ⟨h3, h4⟩
      by_cases hik : i = k
      · exact h ⟨h3, hik⟩
      · exact h2 ⟨h3, by omega⟩
end CLS1

