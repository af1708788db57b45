/-! LEVEL 2: a sender goes on, in the reference -/
def finL (g : NW) (k n : Nat) : NW := fun c i q => if c = 1 ∧ i = k ∧ 8 ≤ q ∧ q < 8 + n then g 1 k (q + 1) else g c i q
def finG (g : NW) (k : Nat) : NW := up3 (up3 (finL (up3 g 1 k 4 0) k 5) 1 k 3 (g 1 k 3 - 1)) 7 0 0 (g 7 0 0 + 1)
theorem xS_q (k j : Nat) : nI (xS k 8) + nI j = nI (xS k (8 + j)) := by rw [nI_add, show xS k 8 + j = xS k (8 + j) from Nat.add_assoc _ _ _]
theorem xS_qs (k j : Nat) : xS k (8 + j) + 1 = xS k (8 + (j + 1)) := rfl
theorem finL_up (g : NW) (k n : Nat) : up3 (finL g k n) 1 k (8 + n) (g 1 k (8 + (n + 1))) = finL g k (n + 1) := by
  funext c i q
  simp only [up3, finL]
  by_cases h : c = 1 ∧ i = k
  · obtain ⟨rfl, rfl⟩ := h
    by_cases hq : q = 8 + n
    · subst hq
      simp
      rfl
    · have : (8 ≤ q ∧ q < 8 + n) = (8 ≤ q ∧ q < 8 + (n + 1)) := propext ⟨fun h => by omega, fun h => by omega⟩
      simp only [hq, and_false, if_false, true_and, this]
  · rw [if_neg (fun e => h ⟨e.1, e.2.1⟩), if_neg (fun e => h ⟨e.1, e.2.1⟩), if_neg (fun e => h ⟨e.1, e.2.1⟩)]
def advG (g : NW) (k : Nat) : NW := if g 1 k 6 + 1 = 17 then (if g 1 k 5 + 1 < g 6 0 3 then up3 (up3 g 1 k 6 0) 1 k 5 (g 1 k 5 + 1) else finG (up3 (up3 g 1 k 6 0) 1 k 5 (g 1 k 5 + 1)) k) else up3 g 1 k 6 (g 1 k 6 + 1)
/-- disturbed: it gives way -/
def dstG (g : NW) (k : Nat) : NW := up3 (up3 (up3 g 1 k 4 0) 1 k 7 (3 + 2 * nI k)) 7 0 1 (g 7 0 1 + 1)
abbrev isD (g : NW) (h : Nat → Int32) (k : Nat) : Prop := ¬ 14 ≤ g 1 k 6 ∧ bitG g k = 0 ∧ h (g 1 k 1).toNatClampNeg = 1
def mov1 (h : Nat → Int32) (g : NW) (k : Nat) : NW := if spk g k then (if isD g h k then dstG g k else advG g k) else g
def movN (h : Nat → Int32) (g : NW) : Nat → NW
  | 0 => g
  | k + 1 => mov1 h (movN h g k) k
section REF4
variable {σ : SG} {M : Nat} {r : Nat → Nat → Int32} {g : NW}
theorem q_finL {k : Nat} (hk : k < 5) : ∀ (d j : Nat), j + d = 5 → ∀ (n : Nat), d < n → m_X9_finish_L11 n (some M) (nI (xS k 0)) (nI j) (ovs σ M r (finL g k j)) = some ((), ovs σ M r (up3 (up3 (finL g k 5) 1 k 3 (g 1 k 3 - 1)) 7 0 0 (g 7 0 0 + 1))) := by
  intro d
  induction d with
  | zero =>
    intro j hj n hn
    obtain ⟨n, rfl⟩ : ∃ m, n = m + 1 := ⟨n - 1, by omega⟩
    rw [show m_X9_finish_L11 (n + 1) = m_X9_finish_B11 (m_X9_finish_L11 n) from rfl]
    unfold m_X9_finish_B11
    rw [if_pos (show (5 : Int32) ≤ nI j from nI_le (a := 5) (by omega) (by omega))]
    obtain rfl : j = 5 := by omega
    have e1 : finL g k 5 1 k 3 = g 1 k 3 := by simp [finL]
    have e2 : finL g k 5 7 0 0 = g 7 0 0 := by simp [finL]
    simp only [gR_s_0, Option.bind_some, xS_p3, sld_S hk (by decide : 3 < 14), sst_S hk (by decide : 3 < 14), sl5, st5, up3_c (by decide : (7 : Nat) ≠ 1), e1, e2]
  | succ d ih =>
    intro j hj n hn
    obtain ⟨n, rfl⟩ : ∃ m, n = m + 1 := ⟨n - 1, by omega⟩
    rw [show m_X9_finish_L11 (n + 1) = m_X9_finish_B11 (m_X9_finish_L11 n) from rfl]
    unfold m_X9_finish_B11
    rw [if_neg (show ¬ (5 : Int32) ≤ nI j from nI_ge (b := 5) (by omega) (by decide))]
    have e1 : finL g k j 1 k (8 + (j + 1)) = g 1 k (8 + (j + 1)) := by simp only [finL]; rw [if_neg (by omega)]
    simp only [gR_s_0, Option.bind_some, xS_p8, xS_q, ← nI_succ, xS_qs, sld_S hk (show 8 + (j + 1) < 14 by omega), sst_S hk (show 8 + j < 14 by omega), e1, finL_up]
    exact ih (j + 1) (by omega) n (by omega)
theorem q_finish {k : Nat} (hk : k < 5) : m_X9_finish (some M) (nI (xS k 0)) (ovs σ M r g) = some ((), ovs σ M r (finG g k)) := by
  unfold m_X9_finish
  simp only [gR_s_0, Option.bind_some, xS_p4, sst_S hk (by decide : 4 < 14)]
  have h := q_finL (σ := σ) (M := M) (r := r) (g := up3 g 1 k 4 0) hk 5 0 rfl 1000 (by decide)
  have e : finL (up3 g 1 k 4 0) k 0 = up3 g 1 k 4 0 := by
    funext c i q
    simp only [finL]
    rw [if_neg (by omega)]
  rw [e] at h
  refine h.trans ?_
  rw [finG, up3_f (by decide), up3_c (by decide)]
theorem q_adv {k : Nat} (hk : k < 5) : m_X9_goOn_b80 (some M) (nI (xS k 0)) (ovs σ M r g) = some ((), ovs σ M r (advG g k)) := by
  unfold m_X9_goOn_b80 advG
  simp only [gR_s_0, Option.bind_some, xS_p5, xS_p6, sld_S hk (by decide : 6 < 14), sst_S hk (by decide : 6 < 14), sld_S hk (by decide : 5 < 14), sst_S hk (by decide : 5 < 14), up3_eq, up3_up3, up3_f (by decide : (5 : Nat) ≠ 6), sl3, up3_c (by decide : (6 : Nat) ≠ 1), ob_s, q_finish hk, bnd_some]
  split
  · split <;> rfl
  · rfl
theorem q_goOn {h b : Nat → Int32} {k v : Nat} (hk : k < 5) (hv : v < 6) (hw : g 1 k 1 = nI v) (hb : b k = bitG g k) : m_X9_goOn (some M) (nI k) (ovs σ M (rws r h b) g) = some ((), ovs σ M (rws r h b) (if isD g h k then dstG g k else advG g k)) := by
  unfold m_X9_goOn
  have hc : (g 1 k 1).toNatClampNeg = v := by rw [hw]; exact nI_clamp (by omega)
  simp only [q_n, bnd_some, gR_s_0, gR_s_6, gR_s_5, Option.bind_some, ← nI_succ, xS_s1, xS_p6, xS_p4, xS_p7, sld_S hk (by decide : 6 < 14), sld_S hk (by decide : 1 < 14), sld_7 hk, rws_7 r h b hk, hb, hw, sld_6 hv, rws_6 r h b hv, sst_S hk (by decide : 4 < 14), sst_S hk (by decide : 7 < 14), sl6, st6, up3_c (by decide : (7 : Nat) ≠ 1), q_adv hk]
  by_cases h1 : 14 ≤ g 1 k 6
  · rw [if_pos h1, if_neg (fun e => e.1 h1)]
  · rw [if_neg h1]
    by_cases h2 : bitG g k = 0
    · rw [if_pos h2]
      by_cases h3 : h v = 1
      · rw [if_pos h3, if_pos ⟨h1, h2, by rw [hc]; exact h3⟩]
        rfl
      · rw [if_neg h3, if_neg]
        rintro ⟨-, -, h4⟩
        rw [hc] at h4
        exact h3 h4
    · rw [if_neg h2, if_neg (fun e => h2 e.2.1)]
end REF4
/-! what a move leaves -/
theorem finL_o (g : NW) (k n : Nat) {c i j : Nat} (h : ¬ (c = 1 ∧ i = k)) : finL g k n c i j = g c i j := by
  simp only [finL]
  rw [if_neg (fun e => h ⟨e.1, e.2.1⟩)]
theorem up3_o {w : NW} {c i j c' i' j' : Nat} {v : Int32} (h : ¬ (c' = c ∧ i' = i)) : up3 w c i j v c' i' j' = w c' i' j' := by
  simp only [up3]
  rw [if_neg (fun e => h ⟨e.1, e.2.1⟩)]
theorem finG_o (g : NW) (k : Nat) {c i j : Nat} (h : ¬ (c = 1 ∧ i = k)) (h7 : c ≠ 7) : finG g k c i j = g c i j := by
  unfold finG
  rw [up3_c h7, up3_o h, finL_o _ _ _ h, up3_o h]
theorem advG_o (g : NW) (k : Nat) {c i j : Nat} (h : ¬ (c = 1 ∧ i = k)) (h7 : c ≠ 7) : advG g k c i j = g c i j := by
  unfold advG
  split
  · split
    · rw [up3_o h, up3_o h]
    · rw [finG_o _ _ h h7, up3_o h, up3_o h]
  · rw [up3_o h]
theorem dstG_o (g : NW) (k : Nat) {c i j : Nat} (h : ¬ (c = 1 ∧ i = k)) (h7 : c ≠ 7) : dstG g k c i j = g c i j := by
  unfold dstG
  rw [up3_c h7, up3_o h, up3_o h]
theorem mov1_o (h : Nat → Int32) (g : NW) (k : Nat) {c i j : Nat} (ho : ¬ (c = 1 ∧ i = k)) (h7 : c ≠ 7) : mov1 h g k c i j = g c i j := by
  unfold mov1
  split
  · split
    · exact dstG_o _ _ ho h7
    · exact advG_o _ _ ho h7
  · rfl
theorem movN_s (h : Nat → Int32) (g : NW) : ∀ (n k j : Nat), n ≤ k → movN h g n 1 k j = g 1 k j := by
  intro n
  induction n with
  | zero => intro k j _; rfl
  | succ n ih => intro k j hk; rw [show movN h g (n + 1) = mov1 h (movN h g n) n from rfl, mov1_o _ _ _ (by omega) (by decide)]; exact ih k j (by omega)
theorem movN_c (h : Nat → Int32) (g : NW) {c : Nat} (h1 : c ≠ 1) (h7 : c ≠ 7) : ∀ (n i j : Nat), movN h g n c i j = g c i j := by
  intro n
  induction n with
  | zero => intro i j; rfl
  | succ n ih => intro i j; rw [show movN h g (n + 1) = mov1 h (movN h g n) n from rfl, mov1_o _ _ _ (fun e => h1 e.1) h7]; exact ih i j
section REF5
variable {σ : SG} {M : Nat} {r : Nat → Nat → Int32} {g : NW}
theorem q_moves {h : Nat → Int32} (hw : ∀ k, k < 5 → g 1 k 0 = 1 → ∃ v, v < 6 ∧ g 1 k 1 = nI v) : ∀ (d k : Nat), k + d = 5 → ∀ (n : Nat), d < n → m_X9_beat_L10 n (some M) (nI k) (ovs σ M (rws r h (btsG g)) (movN h g k)) = m_X9_beat_L51 1000 (some M) (nI 0) (ovs σ M (rws r h (btsG g)) (movN h g 5)) := by
  intro d
  induction d with
  | zero =>
    intro k hk n hn
    obtain ⟨n, rfl⟩ : ∃ m, n = m + 1 := ⟨n - 1, by omega⟩
    rw [show m_X9_beat_L10 (n + 1) = m_X9_beat_B10 (m_X9_beat_L10 n) from rfl]
    unfold m_X9_beat_B10
    rw [if_pos (show (5 : Int32) ≤ nI k from nI_le (a := 5) (by omega) (by omega))]
    obtain rfl : k = 5 := by omega
    rfl
  | succ d ih =>
    intro k hk n hn
    obtain ⟨n, rfl⟩ : ∃ m, n = m + 1 := ⟨n - 1, by omega⟩
    rw [show m_X9_beat_L10 (n + 1) = m_X9_beat_B10 (m_X9_beat_L10 n) from rfl]
    unfold m_X9_beat_B10 m_X9_beat_b43
    rw [if_neg (show ¬ (5 : Int32) ≤ nI k from nI_ge (b := 5) (by omega) (by decide))]
    have hk5 : k < 5 := by omega
    have nx := ih (k + 1) (by omega) n (by omega)
    rw [show movN h g (k + 1) = mov1 h (movN h g k) k from rfl] at nx
    have es : ∀ j, movN h g k 1 k j = g 1 k j := fun j => movN_s h g k k j (Nat.le_refl k)
    simp only [ob_s, Option.bind_some, q_isSender hk5, bnd_some, gR_s_0, q_n, xS_p4, sld_S hk5 (by decide : 4 < 14), es, ← nI_succ]
    by_cases hp : g 1 k 0 = 1
    · by_cases hs : g 1 k 4 = 1
      · obtain ⟨v, hv6, hv⟩ := hw k hk5 hp
        have hb : btsG g k = bitG (movN h g k) k := by
          unfold btsG bitG
          rw [if_pos ⟨hp, hs⟩, es, es]
        simp only [thr, hp, hs, if_true, one_ne, if_false]
        rw [q_goOn hk5 hv6 (by rw [es]; exact hv) hb]
        unfold mov1 at nx
        rw [if_pos ⟨by rw [es]; exact hp, by rw [es]; exact hs⟩] at nx
        exact nx
      · simp only [thr, hp, hs, if_true, one_ne, if_false]
        unfold mov1 at nx
        rw [if_neg (fun e => hs (by rw [← es]; exact e.2))] at nx
        exact nx
    · simp only [thr, hp, if_true, if_false]
      unfold mov1 at nx
      rw [if_neg (fun e => hp (by rw [← es]; exact e.1))] at nx
      exact nx
end REF5
