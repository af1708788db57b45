/-! LEVEL 2: what is sent and heard, in the reference -/
abbrev spk (g : NW) (i : Nat) : Prop := g 1 i 0 = 1 ∧ g 1 i 4 = 1
abbrev nois (g : NW) (i : Nat) : Prop := g 2 i 0 = 1 ∧ g 2 i 4 = 1 ∧ g 0 0 0 - g 0 0 0 / g 2 i 3 * g 2 i 3 = 0
def hrS (g : NW) : Nat → Nat → Int32
  | 0 => fun _ => 0
  | k + 1 => if spk g k ∧ bitG g k = 1 then snd1 g (hrS g k) (g 1 k 1) (g 1 k 2) else hrS g k
def hrM (g : NW) : Nat → Nat → Int32
  | 0 => hrS g 5
  | k + 1 => if nois g k then snd1 g (hrM g k) (g 2 k 1) (g 2 k 2) else hrM g k
def hear (g : NW) : Nat → Int32 := hrM g 4
/-- the bits that the senders send -/
def btsG (g : NW) (j : Nat) : Int32 := if spk g j then bitG g j else 0
def bts (g : NW) (k : Nat) (r : Nat → Nat → Int32) : Nat → Int32 := fun j => if j < k then btsG g j else r 7 j
def rws (r : Nat → Nat → Int32) (h b : Nat → Int32) : Nat → Nat → Int32 := fun k j => if k = 6 ∧ j < 6 then h j else if k = 7 ∧ j < 5 then b j else r k j
theorem rws_6 (r : Nat → Nat → Int32) (h b : Nat → Int32) {j : Nat} (hj : j < 6) : rws r h b 6 j = h j := by simp [rws, hj]
theorem rws_7 (r : Nat → Nat → Int32) (h b : Nat → Int32) {j : Nat} (hj : j < 5) : rws r h b 7 j = b j := by simp [rws, hj]
theorem rws_o (r : Nat → Nat → Int32) (h b : Nat → Int32) {k j : Nat} (h6 : k ≠ 6) (h7 : k ≠ 7) : rws r h b k j = r k j := by simp [rws, h6, h7]
theorem xS_s1 (i : Nat) : xS i 0 + 1 = xS i 1 := rfl
theorem xM_s1 (i : Nat) : xM i 0 + 1 = xM i 1 := rfl
theorem xL_s1 (i : Nat) : xL i 0 + 1 = xL i 1 := rfl
theorem xR_s1 (i : Nat) : xR i 0 + 1 = xR i 1 := rfl
theorem up2_eq (r : Nat → Nat → Int32) (k j : Nat) (v : Int32) : up2 r k j v k j = v := by simp [up2]
section REF2
variable {σ : SG} {M : Nat} {r : Nat → Nat → Int32} {g : NW}
theorem q_sound2 (h b : Nat → Int32) (a s : Int32) : m_X9_sound (some M) a s (ovs σ M (rws r h b) g) = some ((), ovs σ M (rws r (snd1 g h a s) b) g) := by
  rw [q_sound]
  congr 3
  funext k j
  simp only [rw6, rws]
  by_cases h6 : k = 6 ∧ j < 6
  · rw [if_pos h6, if_pos h6]
    simp only [snd1, rws_6 r h b h6.2]
  · rw [if_neg h6, if_neg h6, if_neg h6]
theorem q_sendM (hper : ∀ k, k < 4 → g 2 k 0 = 1 → ¬ g 2 k 3 = 0) (b : Nat → Int32) : ∀ (d k : Nat), k + d = 4 → ∀ (n : Nat), d < n → m_X9_send_L120 n (some M) (nI k) (ovs σ M (rws r (hrM g k) b) g) = some ((), ovs σ M (rws r (hrM g 4) b) g) := by
  intro d
  induction d with
  | zero =>
    intro k hk n hn
    obtain ⟨n, rfl⟩ : ∃ m, n = m + 1 := ⟨n - 1, by omega⟩
    rw [show m_X9_send_L120 (n + 1) = m_X9_send_B120 (m_X9_send_L120 n) from rfl]
    unfold m_X9_send_B120
    rw [if_pos (show (4 : Int32) ≤ nI k from nI_le (a := 4) (by omega) (by omega))]
    rw [show k = 4 by omega]
  | succ d ih =>
    intro k hk n hn
    obtain ⟨n, rfl⟩ : ∃ m, n = m + 1 := ⟨n - 1, by omega⟩
    rw [show m_X9_send_L120 (n + 1) = m_X9_send_B120 (m_X9_send_L120 n) from rfl]
    unfold m_X9_send_B120 m_X9_send_b188
    rw [if_neg (show ¬ (4 : Int32) ≤ nI k from nI_ge (b := 4) (by omega) (by decide))]
    have hk4 : k < 4 := by omega
    simp only [q_m, bnd_some, ob_s, Option.bind_some, q_isMachine hk4, gR_s_0, xM_p4, xM_p3, xM_p2, xM_s1, sld_M hk4 (by decide : 4 < 5), sld_M hk4 (by decide : 3 < 5), sld_M hk4 (by decide : 2 < 5), sld_M hk4 (by decide : 1 < 5), sl4, ← nI_succ, q_sound2]
    have nx := ih (k + 1) (by omega) n (by omega)
    rw [show hrM g (k + 1) = if nois g k then snd1 g (hrM g k) (g 2 k 1) (g 2 k 2) else hrM g k from rfl] at nx
    by_cases hp : g 2 k 0 = 1
    · have hq := hper k hk4 hp
      simp only [thr, hp, if_true, one_ne, if_false, hq]
      by_cases hr : g 2 k 4 = 1
      · simp only [hr, if_true]
        by_cases ht : g 0 0 0 - g 0 0 0 / g 2 k 3 * g 2 k 3 = 0
        · rw [if_pos ht]
          rw [if_pos ⟨hp, hr, ht⟩] at nx
          exact nx
        · rw [if_neg ht]
          rw [if_neg (fun h => ht h.2.2)] at nx
          exact nx
      · simp only [hr, if_false]
        rw [if_neg (fun h => hr h.2.1)] at nx
        exact nx
    · simp only [thr, hp, if_false, if_true]
      rw [if_neg (fun h => hp h.1)] at nx
      exact nx
theorem q_sendS (hper : ∀ k, k < 4 → g 2 k 0 = 1 → ¬ g 2 k 3 = 0) : ∀ (d k : Nat), k + d = 5 → ∀ (n : Nat), d < n → m_X9_send_L23 n (some M) (nI k) (ovs σ M (rws r (hrS g k) (bts g k r)) g) = some ((), ovs σ M (rws r (hear g) (btsG g)) g) := by
  intro d
  induction d with
  | zero =>
    intro k hk n hn
    obtain ⟨n, rfl⟩ : ∃ m, n = m + 1 := ⟨n - 1, by omega⟩
    rw [show m_X9_send_L23 (n + 1) = m_X9_send_B23 (m_X9_send_L23 n) from rfl]
    unfold m_X9_send_B23
    rw [if_pos (show (5 : Int32) ≤ nI k from nI_le (a := 5) (by omega) (by omega))]
    obtain rfl : k = 5 := by omega
    have h := q_sendM (σ := σ) (M := M) (r := r) hper (bts g 5 r) 4 0 rfl 1000 (by decide)
    rw [nI0]
    simp only [hrM] at h
    rw [h]
    congr 3
    funext q j
    simp only [rws, hear, hrM]
    by_cases h6 : q = 6 ∧ j < 6
    · rw [if_pos h6, if_pos h6]
    · rw [if_neg h6, if_neg h6]
      by_cases h7 : q = 7 ∧ j < 5
      · rw [if_pos h7, if_pos h7, bts, if_pos h7.2]
      · rw [if_neg h7, if_neg h7]
  | succ d ih =>
    intro k hk n hn
    obtain ⟨n, rfl⟩ : ∃ m, n = m + 1 := ⟨n - 1, by omega⟩
    rw [show m_X9_send_L23 (n + 1) = m_X9_send_B23 (m_X9_send_L23 n) from rfl]
    unfold m_X9_send_B23 m_X9_send_b55 m_X9_send_b56 m_X9_send_b75 m_X9_send_b112
    rw [if_neg (show ¬ (5 : Int32) ≤ nI k from nI_ge (b := 5) (by omega) (by decide))]
    have hk5 : k < 5 := by omega
    have nx := ih (k + 1) (by omega) n (by omega)
    have eb : ∀ v, v = btsG g k → up2 (rws r (hrS g k) (bts g k r)) 7 k v = rws r (hrS g k) (bts g (k + 1) r) := by
      intro v hv
      funext q j
      simp only [up2, rws, bts]
      by_cases h7 : q = 7
      · subst h7
        by_cases hj : j = k
        · subst hj
          simp [hk5, hv]
        · by_cases h5 : j < 5
          · have : (j < k) = (j < k + 1) := propext ⟨fun h => by omega, fun h => by omega⟩
            simp [hj, h5, this]
          · simp [hj, h5]
      · simp [h7]
    simp only [ob_s, Option.bind_some, q_isSender hk5, bnd_some, gR_s_0, gR_s_6, q_n, xS_p4, xS_s1, xS_p2, sld_S hk5 (by decide : 4 < 14), sld_S hk5 (by decide : 1 < 14), sld_S hk5 (by decide : 2 < 14), q_bitOf hk5, sst_7 hk5, sld_7 hk5, up2_eq, ← nI_succ]
    by_cases hp : g 1 k 0 = 1
    · simp only [thr, hp, if_true, one_ne, if_false]
      by_cases hs : g 1 k 4 = 1
      · have hbt : btsG g k = bitG g k := by simp [btsG, hp, hs]
        simp only [hs, if_true, one_ne, if_false, eb _ hbt.symm]
        rw [show hrS g (k + 1) = if spk g k ∧ bitG g k = 1 then snd1 g (hrS g k) (g 1 k 1) (g 1 k 2) else hrS g k from rfl] at nx
        by_cases h1 : bitG g k = 1
        · rw [if_pos ⟨⟨hp, hs⟩, h1⟩] at nx
          rw [if_pos h1, q_sound2]
          exact nx
        · rw [if_neg (fun h => h1 h.2)] at nx
          rw [if_neg h1]
          exact nx
      · have hbt : btsG g k = 0 := by simp [btsG, hs]
        simp only [hs, if_true, if_false, eb _ hbt.symm, Ne.symm one_ne]
        rw [show hrS g (k + 1) = if spk g k ∧ bitG g k = 1 then snd1 g (hrS g k) (g 1 k 1) (g 1 k 2) else hrS g k from rfl, if_neg (fun h => hs h.1.2)] at nx
        exact nx
    · have hbt : btsG g k = 0 := by simp [btsG, hp]
      simp only [thr, hp, if_true, if_false, eb _ hbt.symm, Ne.symm one_ne]
      rw [show hrS g (k + 1) = if spk g k ∧ bitG g k = 1 then snd1 g (hrS g k) (g 1 k 1) (g 1 k 2) else hrS g k from rfl, if_neg (fun h => hp h.1.1)] at nx
      exact nx
theorem q_send0 : ∀ (d k : Nat), k + d = 6 → ∀ (n : Nat), d < n → ∀ (r : Nat → Nat → Int32), m_X9_send_L2 n (some M) (nI k) (ovs σ M r g) = m_X9_send_L23 1000 (some M) (nI 0) (ovs σ M (fun q j => if q = 6 ∧ k ≤ j ∧ j < 6 then 0 else r q j) g) := by
  intro d
  induction d with
  | zero =>
    intro k hk n hn r
    obtain ⟨n, rfl⟩ : ∃ m, n = m + 1 := ⟨n - 1, by omega⟩
    rw [show m_X9_send_L2 (n + 1) = m_X9_send_B2 (m_X9_send_L2 n) from rfl]
    unfold m_X9_send_B2
    rw [if_pos (show (6 : Int32) ≤ nI k from nI_le (a := 6) (by omega) (by omega)), nI0]
    congr 2
    funext q j
    rw [if_neg (by omega)]
  | succ d ih =>
    intro k hk n hn r
    obtain ⟨n, rfl⟩ : ∃ m, n = m + 1 := ⟨n - 1, by omega⟩
    rw [show m_X9_send_L2 (n + 1) = m_X9_send_B2 (m_X9_send_L2 n) from rfl]
    unfold m_X9_send_B2
    rw [if_neg (show ¬ (6 : Int32) ≤ nI k from nI_ge (b := 6) (by omega) (by decide))]
    have hk6 : k < 6 := by omega
    simp only [gR_s_5, Option.bind_some, sst_6 hk6, ← nI_succ]
    rw [ih (k + 1) (by omega) n (by omega)]
    congr 2
    funext q j
    simp only [up2]
    by_cases h : q = 6 ∧ k ≤ j ∧ j < 6
    · rw [if_pos h]
      by_cases hj : j = k
      · subst hj; simp [h.1]
      · rw [if_pos ⟨h.1, by omega, h.2.2⟩]
    · rw [if_neg h, if_neg (by omega), if_neg]
      rintro ⟨rfl, rfl⟩
      exact h ⟨rfl, by omega, hk6⟩
theorem q_send (hper : ∀ k, k < 4 → g 2 k 0 = 1 → ¬ g 2 k 3 = 0) : m_X9_send (some M) (ovs σ M r g) = some ((), ovs σ M (rws r (hear g) (btsG g)) g) := by
  unfold m_X9_send
  rw [nI0, q_send0 6 0 rfl 1000 (by decide) r]
  have h := q_sendS (σ := σ) (M := M) (r := r) (g := g) hper 5 0 rfl 1000 (by decide)
  rw [← h]
  congr 2
  funext q j
  simp only [rws, bts, hrS]
  by_cases h6 : q = 6 ∧ j < 6
  · rw [if_pos ⟨h6.1, Nat.zero_le _, h6.2⟩, if_pos h6]
  · rw [if_neg (fun h => h6 ⟨h.1, h.2.2⟩), if_neg h6]
    by_cases h7 : q = 7 ∧ j < 5
    · rw [if_pos h7, if_neg (by omega), h7.1]
    · rw [if_neg h7]
end REF2
