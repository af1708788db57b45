/-! LEVEL 2: the class's senders go on -/
def drpG (g : NW) (k : Nat) : NW := up3 (finL (up3 g 1 k 4 0) k 5) 1 k 3 (g 1 k 3 - 1)
theorem nI_pr (j : Nat) : nI (j + 1) - 1 = nI j := by
  rw [nI_succ]
  simp
theorem advG_eq (g : NW) (k : Nat) : advG g k = if g 1 k 6 + 1 = 17 then (if g 1 k 5 + 1 < g 6 0 3 then up3 (up3 g 1 k 6 0) 1 k 5 (g 1 k 5 + 1) else up3 (drpG (up3 (up3 g 1 k 6 0) 1 k 5 (g 1 k 5 + 1)) k) 7 0 0 (g 7 0 0 + 1)) else up3 g 1 k 6 (g 1 k 6 + 1) := by
  unfold advG finG drpG
  rw [up3_c (c' := 7) (by decide), up3_c (c' := 7) (by decide)]
theorem drpG_7 (g : NW) (k i j : Nat) : drpG g k 7 i j = g 7 i j := by
  unfold drpG
  rw [up3_c (by decide), finL_o _ _ _ (by omega), up3_c (by decide)]
section CLS3
variable {σ : SG} {n : Nat} {w : NW}
theorem c_dropL {k : Nat} (hk : k < 5) : ∀ (d j : Nat), j + d = 5 → ∀ (N : Nat), d < N → m_X6_dropFirstWord_L2 N (some (sndA n k)) (nI (j + 1)) (ovr σ n (finL w k j)) = some ((), ovr σ n (up3 (finL w k 5) 1 k 3 (w 1 k 3 - 1))) := by
  intro d
  induction d with
  | zero =>
    intro j hj N hN
    obtain ⟨N, rfl⟩ : ∃ m, N = m + 1 := ⟨N - 1, by omega⟩
    rw [show m_X6_dropFirstWord_L2 (N + 1) = m_X6_dropFirstWord_B2 (m_X6_dropFirstWord_L2 N) from rfl]
    unfold m_X6_dropFirstWord_B2
    obtain rfl : j = 5 := by omega
    have e1 : finL w k 5 1 k 3 = w 1 k 3 := by simp [finL]
    simp only [gR_snd_3 hk, Option.bind_some, len_que hk, gI_snd_4 hk, pI_snd_4 hk, e1]
    rw [if_pos (show (6 : Int32) ≤ nI (5 + 1) from nI_le (a := 6) (by omega) (by omega))]
  | succ d ih =>
    intro j hj N hN
    obtain ⟨N, rfl⟩ : ∃ m, N = m + 1 := ⟨N - 1, by omega⟩
    rw [show m_X6_dropFirstWord_L2 (N + 1) = m_X6_dropFirstWord_B2 (m_X6_dropFirstWord_L2 N) from rfl]
    unfold m_X6_dropFirstWord_B2
    have e1 : finL w k j 1 k (8 + (j + 1)) = w 1 k (8 + (j + 1)) := by simp only [finL]; rw [if_neg (by omega)]
    simp only [gR_snd_3 hk, Option.bind_some, len_que hk, ald_que hk (show j + 1 < 6 by omega), nI_pr, ast_que hk (show j < 6 by omega), e1, finL_up]
    rw [if_neg (show ¬ (6 : Int32) ≤ nI (j + 1) from nI_ge (b := 6) (by omega) (by decide)), ← nI_succ]
    exact ih (j + 1) (by omega) N (by omega)
theorem c_drop {k : Nat} (hk : k < 5) : m_X6_dropFirstWord (some (sndA n k)) (ovr σ n w) = some ((), ovr σ n (up3 (finL w k 5) 1 k 3 (w 1 k 3 - 1))) := by
  unfold m_X6_dropFirstWord
  have h := c_dropL (σ := σ) (n := n) (w := w) hk 5 0 rfl 1000 (by decide)
  have e : finL w k 0 = w := by
    funext c i q
    simp only [finL]
    rw [if_neg (by omega)]
  rw [e] at h
  exact h
theorem c_goOn {k p : Nat} (hk : k < 5) (hp : w 1 k 6 = nI p) (hp16 : p ≤ 16) (cp : Int32) : m_X6_goOn (some (sndA n k)) cp (ovr σ n w) = some (if w 1 k 6 + 1 = 17 then (if w 1 k 5 + 1 < cp then (0, ovr σ n (up3 (up3 w 1 k 6 0) 1 k 5 (w 1 k 5 + 1))) else (1, ovr σ n (drpG (up3 (up3 w 1 k 6 0) 1 k 5 (w 1 k 5 + 1)) k))) else (0, ovr σ n (up3 w 1 k 6 (w 1 k 6 + 1)))) := by
  unfold m_X6_goOn
  simp only [gI_snd_8 hk, Option.bind_some, pI_snd_8 hk, pI_snd_7 hk, gI_snd_7 hk, up3_eq, up3_up3, up3_f (by decide : (5 : Nat) ≠ 6), pZ_snd_6 hk _ (Or.inl rfl), ob_snd hk, c_drop hk, bnd_some]
  by_cases h : w 1 k 6 + 1 = 17
  · rw [if_pos (show 16 < w 1 k 6 + 1 by rw [h]; decide), if_pos h]
    by_cases h2 : w 1 k 5 + 1 < cp
    · rw [if_neg (Int32.not_le.mpr h2), if_pos h2]
      rfl
    · rw [if_pos (Int32.not_lt.mp h2), if_neg h2]
      unfold drpG
      rw [up3_f (w := up3 (up3 w 1 k 6 0) 1 k 5 (w 1 k 5 + 1)) (by decide : (3 : Nat) ≠ 4)]
      rfl
  · rw [if_neg (show ¬ 16 < w 1 k 6 + 1 from ?_), if_neg h]
    · rfl
    · rw [hp, ← nI_succ]
      rw [hp, ← nI_succ] at h
      refine nI_nlt (b := p + 1) (a := 16) ?_ (by decide)
      rcases Nat.lt_or_ge p 16 with h3 | h3
      · omega
      · exact absurd (by rw [show p = 16 by omega]; rfl) h
theorem c_giveWay {k : Nat} (hk : k < 5) : m_X6_giveWay (some (sndA n k)) (ovr σ n w) = some ((), ovr σ n (up3 (up3 w 1 k 4 0) 1 k 7 (3 + 2 * nI k))) := by
  unfold m_X6_giveWay
  simp only [pZ_snd_6 hk _ (Or.inl rfl), gI_snd_0 hk, Option.bind_some, pI_snd_9 hk]
theorem c_disturbed {k p : Nat} (hk : k < 5) (hp : w 1 k 6 = nI p) (hp16 : p ≤ 16) (q : Int32) : m_X6_isDisturbedBy (some (sndA n k)) q (ovr σ n w) = some (if ¬ q = 0 ∧ ¬ 14 ≤ w 1 k 6 ∧ bitG w k = 0 then 1 else 0, ovr σ n w) := by
  unfold m_X6_isDisturbedBy
  simp only [gI_snd_8 hk, Option.bind_some, ob_snd hk, c_bit hk hp hp16, bnd_some]
  by_cases h1 : q = 0
  · rw [if_pos h1, if_neg (fun e => e.1 h1)]; rfl
  · rw [if_neg h1]
    by_cases h2 : 14 ≤ w 1 k 6
    · rw [if_pos h2, if_neg (fun e => e.2.1 h2)]; rfl
    · rw [if_neg h2]
      by_cases h3 : bitG w k = 0
      · rw [if_pos h3, if_pos ⟨h1, h2, h3⟩]; rfl
      · rw [if_neg h3, if_neg (fun e => h3 e.2.2)]; rfl
theorem c_moveL {h : Nat → Int32} (hI : ∀ i, i < 5 → InvS w i) (hh : ∀ j, j < 6 → w 8 0 j = h j) (hb : ∀ j, j < 6 → b01 (h j)) : ∀ (d k : Nat), k + d = 5 → ∀ (N : Nat), d < N → m_X3_moveSenders_L10 N (some n) (some (n + 1)) 5 (nI k) (ovr σ n (movN h w k)) = some ((), ovr σ n (movN h w 5)) := by
  intro d
  induction d with
  | zero =>
    intro k hk N hN
    obtain ⟨N, rfl⟩ : ∃ m, N = m + 1 := ⟨N - 1, by omega⟩
    rw [show m_X3_moveSenders_L10 (N + 1) = m_X3_moveSenders_B10 (m_X3_moveSenders_L10 N) from rfl]
    unfold m_X3_moveSenders_B10
    rw [if_pos (show (5 : Int32) ≤ nI k from nI_le (a := 5) (by omega) (by omega))]
    obtain rfl : k = 5 := by omega
    rfl
  | succ d ih =>
    intro k hk N hN
    obtain ⟨N, rfl⟩ : ∃ m, N = m + 1 := ⟨N - 1, by omega⟩
    rw [show m_X3_moveSenders_L10 (N + 1) = m_X3_moveSenders_B10 (m_X3_moveSenders_L10 N) from rfl]
    unfold m_X3_moveSenders_B10 m_X3_moveSenders_b90
    rw [if_neg (show ¬ (5 : Int32) ≤ nI k from nI_ge (b := 5) (by omega) (by decide))]
    have hk5 : k < 5 := by omega
    have nx := ih (k + 1) (by omega) N (by omega)
    rw [show movN h w (k + 1) = mov1 h (movN h w k) k from rfl] at nx
    have es : ∀ j, movN h w k 1 k j = w 1 k j := fun j => movN_s h w k k j (Nat.le_refl k)
    have e8 : ∀ j, movN h w k 8 0 j = w 8 0 j := fun j => movN_c h w (by decide) (by decide) k 0 j
    obtain ⟨h0, h4, hP⟩ := hI k hk5
    simp only [ald_1 hk5, Option.bind_some, ob_snd hk5]
    rw [c_isSpeaking hk5 (by rw [es]; exact h0) (by rw [es]; exact h4)]
    simp only [bnd_some, ← nI_succ]
    unfold mov1 at nx
    by_cases hs : spk (movN h w k) k
    · have hs0 : w 1 k 0 = 1 := by rw [← es]; exact hs.1
      obtain ⟨⟨v, hv, hwv⟩, -, ⟨p, hp16, hp⟩, -⟩ := hP hs0
      have hc : (movN h w k 1 k 1).toNatClampNeg = v := by rw [es, hwv]; exact nI_clamp (by omega)
      have hp2 : movN h w k 1 k 6 = nI p := by rw [es]; exact hp
      rw [if_pos hs] at nx
      rw [if_pos hs, if_neg one_ne]
      simp only [gI_snd_2 hk5, Option.bind_some, ob_net, es 1, hwv]
      rw [c_heard hv (by rw [e8, hh v hv]; exact hb v hv)]
      simp only [bnd_some, ob_snd hk5, Option.bind_some, e8, hh v hv]
      rw [c_disturbed hk5 hp2 hp16]
      have ed : (¬ h v = 0 ∧ ¬ 14 ≤ movN h w k 1 k 6 ∧ bitG (movN h w k) k = 0) ↔ isD (movN h w k) h k := by
        constructor
        · rintro ⟨h1, h2, h3⟩
          refine ⟨h2, h3, ?_⟩
          rw [hc]
          rcases hb v hv with h5 | h5
          · exact absurd h5 h1
          · exact h5
        · rintro ⟨h2, h3, h1⟩
          rw [hc] at h1
          exact ⟨by rw [h1]; exact one_ne, h2, h3⟩
      simp only [bnd_some, ob_snd hk5, Option.bind_some]
      have t1 : ∀ W : NW, sAld (some (n + 6)) 1 1 (ovr σ n W) = some (W 7 0 1) := fun W => ald_6 (i := 1) (by decide)
      have t0 : ∀ W : NW, sAld (some (n + 6)) 1 0 (ovr σ n W) = some (W 7 0 0) := fun W => ald_6 (i := 0) (by decide)
      have u1 : ∀ (W : NW) (x : Int32), sAst (some (n + 6)) 1 1 x (ovr σ n W) = some (ovr σ n (up3 W 7 0 1 x)) := fun W x => ast_6 (i := 1) (by decide) x
      have u0 : ∀ (W : NW) (x : Int32), sAst (some (n + 6)) 1 0 x (ovr σ n W) = some (ovr σ n (up3 W 7 0 0 x)) := fun W x => ast_6 (i := 0) (by decide) x
      have t3 : ∀ W : NW, sAld (some (n + 5)) 1 3 (ovr σ n W) = some (W 6 0 3) := fun W => ald_5 (i := 3) (by decide)
      by_cases hd : isD (movN h w k) h k
      · rw [if_pos hd] at nx
        rw [if_pos (ed.mpr hd), if_neg one_ne]
        simp only [ob_snd hk5, c_giveWay hk5, bnd_some, gR_net_5, Option.bind_some, t1, u1, up3_c (by decide : (7 : Nat) ≠ 1)]
        exact nx
      · rw [if_neg hd, advG_eq] at nx
        rw [if_neg (fun e => hd (ed.mp e)), if_pos rfl]
        simp only [ob_snd hk5, gR_net_4, Option.bind_some, t3, c_goOn hk5 hp2 hp16]
        by_cases h17 : movN h w k 1 k 6 + 1 = 17
        · rw [if_pos h17] at nx ⊢
          by_cases hcp : movN h w k 1 k 5 + 1 < movN h w k 6 0 3
          · rw [if_pos hcp] at nx ⊢
            simp only [bnd_some, if_true]
            exact nx
          · rw [if_neg hcp] at nx ⊢
            simp only [bnd_some, one_ne, if_false, gR_net_5, Option.bind_some, t0, u0, drpG_7, up3_c (by decide : (7 : Nat) ≠ 1)]
            exact nx
        · rw [if_neg h17] at nx ⊢
          simp only [bnd_some, if_true]
          exact nx
    · rw [if_neg hs] at nx
      rw [if_neg hs, if_pos rfl]
      exact nx
theorem c_move {h : Nat → Int32} (hI : ∀ i, i < 5 → InvS w i) (hh : ∀ j, j < 6 → w 8 0 j = h j) (hb : ∀ j, j < 6 → b01 (h j)) : m_X3_moveSenders (some n) (ovr σ n w) = some ((), ovr σ n (movN h w 5)) := by
  unfold m_X3_moveSenders
  simp only [gR_net_0, Option.bind_some, len_1]
  exact c_moveL (σ := σ) (n := n) hI hh hb 5 0 rfl 1000 (by decide)
end CLS3

