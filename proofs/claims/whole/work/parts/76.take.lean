/-! LEVEL 2: receivers and lamps, in the reference -/
abbrev isOfG (g : NW) (k : Nat) (a l : Int32) : Prop := g 3 k 0 = 1 ∧ g 3 k 1 = a ∧ g 3 k 2 = l
def lvl (c v : Int32) : Int32 := if c = 4 then 9 else if c = 5 then 0 else if 9 ≤ v then 9 else v + 1
def lmp1 (g : NW) (a l c f : Int32) (k : Nat) : NW := if isOfG g k a l then (if 4 ≤ c then (if c = 7 then up3 g 3 k 4 0 else if g 3 k 5 = 1 then up3 g 3 k 4 (lvl c (g 3 k 4)) else g) else up3 g 3 k 5 (if g 3 k 3 = c then 1 else if f = 0 then g 3 k 5 else 0)) else g
def lmpN (g : NW) (a l c f : Int32) : Nat → NW
  | 0 => g
  | k + 1 => lmp1 (lmpN g a l c f k) a l c f k
def opnV (o l c : Int32) : Int32 := if 4 ≤ c then o &&& ((15 : Int32) - ((1 : Int32) <<< (l &&& 31))) else (o &&& ((15 : Int32) - ((1 : Int32) <<< (l &&& 31)))) ||| ((1 : Int32) <<< (l &&& 31))
def frsh (o l c : Int32) : Int32 := if 4 ≤ c then 0 else if ((o >>> (l &&& 31)) &&& 1) = 0 then 1 else 0
def actG (g : NW) (a : Nat) (w : Int32) : NW := up3 (lmpN g (nI a) (w / 8) (w - w / 8 * 8) (frsh (g 4 a 6) (w / 8) (w - w / 8 * 8)) 8) 4 a 6 (opnV (g 4 a 6) (w / 8) (w - w / 8 * 8))
def telG (g : NW) (a : Nat) (w : Int32) : NW := if g 4 a 4 = w + 1 ∧ ¬ 17 < g 0 0 0 - g 4 a 5 then up3 (up3 g 7 0 3 (g 7 0 3 + 1)) 4 a 5 (g 0 0 0) else up3 (actG (up3 (up3 g 7 0 2 (g 7 0 2 + 1)) 4 a 4 (w + 1)) a w) 4 a 5 (g 0 0 0)
def lisG (g : NW) (a : Nat) : NW := up3 (up3 (up3 (up3 g 4 a 0 0) 4 a 1 0) 4 a 2 0) 4 a 3 0
/-- the word of ten bits -/
def wrd (b : Int32) : Nat → Int32
  | 0 => 0
  | k + 1 => 2 * wrd b k + ((b >>> ((9 - 2 * nI k) &&& 31)) &&& 1)
def tak1 (h : Nat → Int32) (g : NW) (a : Nat) : NW :=
  if g 4 a 0 = 0 then up3 (up3 g 4 a 1 (g 4 a 1 * 2 - g 4 a 1 * 2 / 16 * 16 + h a)) 4 a 0 (if g 4 a 1 * 2 - g 4 a 1 * 2 / 16 * 16 + h a = 14 then 1 else 0)
  else if (g 4 a 2 + 1) - (g 4 a 2 + 1) / 2 * 2 = 0 ∧ ((2 * g 4 a 3 + h a) - (2 * g 4 a 3 + h a) / 4 * 4 = 0 ∨ (2 * g 4 a 3 + h a) - (2 * g 4 a 3 + h a) / 4 * 4 = 3) then lisG (up3 (up3 (up3 g 4 a 2 (g 4 a 2 + 1)) 4 a 3 (2 * g 4 a 3 + h a)) 7 0 4 (g 7 0 4 + 1)) a
  else if g 4 a 2 + 1 = 10 then lisG (telG (up3 (up3 g 4 a 2 (g 4 a 2 + 1)) 4 a 3 (2 * g 4 a 3 + h a)) a (wrd (2 * g 4 a 3 + h a) 5)) a
  else up3 (up3 g 4 a 2 (g 4 a 2 + 1)) 4 a 3 (2 * g 4 a 3 + h a)
def takN (h : Nat → Int32) (g : NW) : Nat → NW
  | 0 => g
  | k + 1 => tak1 h (takN h g k) k
/-- a beat -/
def beatG (g : NW) : NW := up3 (takN (hear (bgn g)) (movN (hear (bgn g)) (bgn g) 5) 6) 0 0 0 (takN (hear (bgn g)) (movN (hear (bgn g)) (bgn g) 5) 6 0 0 0 + 1)
theorem eight_ne : ¬ (8 : Int32) = 0 := by decide
theorem sixteen_ne : ¬ (16 : Int32) = 0 := by decide
theorem four_ne : ¬ (4 : Int32) = 0 := by decide
section REF6
variable {σ : SG} {M : Nat} {r : Nat → Nat → Int32} {g : NW}
theorem q_isOf {k : Nat} (hk : k < 8) (a l : Int32) : m_X9_isOf (some M) (nI k) a l (ovs σ M r g) = some (if isOfG g k a l then 1 else 0, ovs σ M r g) := by
  unfold m_X9_isOf
  simp only [ob_s, Option.bind_some, q_isLamp hk, bnd_some, gR_s_0, q_l, ← nI_succ, xL_s1, xL_p2, sld_L hk (by decide : 1 < 6), sld_L hk (by decide : 2 < 6), thr]
  by_cases h1 : g 3 k 0 = 1
  · by_cases h2 : g 3 k 1 = a
    · by_cases h3 : g 3 k 2 = l
      · simp [h1, h2, h3, chkZ, isOfG]
      · simp [h1, h2, h3, chkZ, isOfG]
    · simp [h1, h2, chkZ, isOfG]
  · simp [h1, chkZ, isOfG]
theorem lmpN_o (g : NW) (a l c f : Int32) {c' i j : Nat} (h : c' ≠ 3) : ∀ n, lmpN g a l c f n c' i j = g c' i j := by
  intro n
  induction n with
  | zero => rfl
  | succ n ih =>
    rw [show lmpN g a l c f (n + 1) = lmp1 (lmpN g a l c f n) a l c f n from rfl]
    unfold lmp1
    split
    · split
      · split
        · rw [up3_c h]; exact ih
        · split
          · rw [up3_c h]; exact ih
          · exact ih
      · rw [up3_c h]; exact ih
    · exact ih
theorem q_actL {a : Nat} (ha : a < 6) (l c f : Int32) : ∀ (d k : Nat), k + d = 8 → ∀ (n : Nat), d < n → m_X9_act_L46 n (some M) (nI a) l c f (nI k) (ovs σ M r (lmpN g (nI a) l c f k)) = some ((), ovs σ M r (up3 (lmpN g (nI a) l c f 8) 4 a 6 (opnV (g 4 a 6) l c))) := by
  intro d
  induction d with
  | zero =>
    intro k hk n hn
    obtain ⟨n, rfl⟩ : ∃ m, n = m + 1 := ⟨n - 1, by omega⟩
    rw [show m_X9_act_L46 (n + 1) = m_X9_act_B46 (m_X9_act_L46 n) from rfl]
    unfold m_X9_act_B46 m_X9_act_b273
    rw [if_pos (show (8 : Int32) ≤ nI k from nI_le (a := 8) (by omega) (by omega))]
    obtain rfl : k = 8 := by omega
    simp only [gR_s_0, Option.bind_some, q_r, bnd_some, xR_p6, sld_R ha (by decide : 6 < 7), sst_R ha (by decide : 6 < 7), lmpN_o g _ _ _ _ (by decide : (4 : Nat) ≠ 3), opnV]
    split <;> rfl
  | succ d ih =>
    intro k hk n hn
    obtain ⟨n, rfl⟩ : ∃ m, n = m + 1 := ⟨n - 1, by omega⟩
    rw [show m_X9_act_L46 (n + 1) = m_X9_act_B46 (m_X9_act_L46 n) from rfl]
    unfold m_X9_act_B46 m_X9_act_b218 m_X9_act_b217 m_X9_act_b121 m_X9_act_b218
    rw [if_neg (show ¬ (8 : Int32) ≤ nI k from nI_ge (b := 8) (by omega) (by decide))]
    have hk8 : k < 8 := by omega
    have nx := ih (k + 1) (by omega) n (by omega)
    rw [show lmpN g (nI a) l c f (k + 1) = lmp1 (lmpN g (nI a) l c f k) (nI a) l c f k from rfl] at nx
    generalize lmpN g (nI a) l c f k = G at nx ⊢
    simp only [q_l, bnd_some, ob_s, Option.bind_some, q_isOf hk8, gR_s_0, xL_p3, xL_p4, xL_p5, sld_L hk8 (by decide : 3 < 6), sld_L hk8 (by decide : 4 < 6), sld_L hk8 (by decide : 5 < 6), sst_L hk8 (by decide : 4 < 6), sst_L hk8 (by decide : 5 < 6), ← nI_succ]
    unfold lmp1 at nx
    by_cases ho : isOfG G k (nI a) l
    · rw [if_pos ho] at nx
      rw [if_pos ho, if_neg one_ne]
      by_cases h4 : 4 ≤ c
      · rw [if_pos h4] at nx ⊢
        by_cases h7 : c = 7
        · rw [if_pos h7] at nx ⊢
          exact nx
        · rw [if_neg h7] at nx ⊢
          by_cases h5 : G 3 k 5 = 1
          · rw [if_pos h5] at nx ⊢
            unfold lvl at nx
            by_cases c4 : c = 4
            · rw [if_pos c4] at nx ⊢
              exact nx
            · rw [if_neg c4] at nx ⊢
              by_cases c5 : c = 5
              · rw [if_pos c5] at nx ⊢
                exact nx
              · rw [if_neg c5] at nx ⊢
                by_cases h9 : 9 ≤ G 3 k 4
                · rw [if_pos h9] at nx ⊢
                  exact nx
                · rw [if_neg h9] at nx ⊢
                  exact nx
          · rw [if_neg h5] at nx ⊢
            exact nx
      · rw [if_neg h4] at nx ⊢
        by_cases h3 : G 3 k 3 = c
        · rw [if_pos h3] at nx ⊢
          exact nx
        · rw [if_neg h3] at nx ⊢
          by_cases hf : f = 0
          · rw [if_pos hf] at nx ⊢
            exact nx
          · rw [if_neg hf] at nx ⊢
            exact nx
    · rw [if_neg ho] at nx
      rw [if_neg ho, if_pos rfl]
      exact nx
theorem q_act {a : Nat} (ha : a < 6) (w : Int32) : m_X9_act (some M) (nI a) w (ovs σ M r g) = some ((), ovs σ M r (actG g a w)) := by
  unfold m_X9_act m_X9_act_b40 m_X9_act_b41 actG
  rw [if_neg eight_ne, if_neg eight_ne]
  have key : ∀ f, m_X9_act_L46 1000 (some M) (nI a) (w / 8) (w - w / 8 * 8) f 0 (ovs σ M r g) = some ((), ovs σ M r (up3 (lmpN g (nI a) (w / 8) (w - w / 8 * 8) f 8) 4 a 6 (opnV (g 4 a 6) (w / 8) (w - w / 8 * 8)))) := fun f => q_actL (g := g) ha _ _ f 8 0 rfl 1000 (by decide)
  simp only [gR_s_0, Option.bind_some, q_r, bnd_some, xR_p6, sld_R ha (by decide : 6 < 7), key, frsh]
  split
  · rfl
  · split <;> rfl
theorem q_tell {a : Nat} (ha : a < 6) (w : Int32) : m_X9_tell (some M) (nI a) w (ovs σ M r g) = some ((), ovs σ M r (telG g a w)) := by
  unfold m_X9_tell m_X9_tell_b53 m_X9_tell_b81 telG
  have e : ∀ G : NW, G 0 0 0 = g 0 0 0 → actG G a w 0 0 0 = g 0 0 0 := by
    intro G hG
    unfold actG
    rw [up3_c (by decide), lmpN_o _ _ _ _ _ (by decide)]
    exact hG
  simp only [q_r, bnd_some, gR_s_0, Option.bind_some, xR_p4, xR_p5, sld_R ha (by decide : 4 < 7), sld_R ha (by decide : 5 < 7), sl4, sl7, st7, sl8, st8, sst_R ha (by decide : 4 < 7), sst_R ha (by decide : 5 < 7), ob_s, q_act ha, up3_c (by decide : (0 : Nat) ≠ 7), up3_c (by decide : (0 : Nat) ≠ 4)]
  rw [e _ (by rw [up3_c (by decide), up3_c (by decide)])]
  by_cases h1 : g 4 a 4 = w + 1
  · by_cases h2 : 17 < g 0 0 0 - g 4 a 5
    · rw [if_pos h1, if_pos h2, if_neg (fun e => e.2 h2)]
    · rw [if_pos h1, if_neg h2, if_pos ⟨h1, h2⟩]
  · rw [if_neg h1, if_neg (fun e => h1 e.1)]
theorem q_listen {a : Nat} (ha : a < 6) : m_X9_listenAgain (some M) (nI (xR a 0)) (ovs σ M r g) = some ((), ovs σ M r (lisG g a)) := by
  unfold m_X9_listenAgain lisG
  simp only [gR_s_0, Option.bind_some, xR_p0, ← nI_succ, xR_s1, xR_p2, xR_p3, sst_R ha (by decide : 0 < 7), sst_R ha (by decide : 1 < 7), sst_R ha (by decide : 2 < 7), sst_R ha (by decide : 3 < 7)]
theorem q_takeL {a : Nat} (ha : a < 6) : ∀ (d k : Nat), k + d = 5 → ∀ (n : Nat), d < n → m_X9_take_L179 n (some M) (nI a) (nI (xR a 0)) (wrd (g 4 a 3) k) (nI k) (ovs σ M r g) = some ((), ovs σ M r (lisG (telG g a (wrd (g 4 a 3) 5)) a)) := by
  intro d
  induction d with
  | zero =>
    intro k hk n hn
    obtain ⟨n, rfl⟩ : ∃ m, n = m + 1 := ⟨n - 1, by omega⟩
    rw [show m_X9_take_L179 (n + 1) = m_X9_take_B179 (m_X9_take_L179 n) from rfl]
    unfold m_X9_take_B179
    rw [if_pos (show (5 : Int32) ≤ nI k from nI_le (a := 5) (by omega) (by omega))]
    obtain rfl : k = 5 := by omega
    simp only [ob_s, Option.bind_some, q_tell ha, bnd_some, q_listen ha]
  | succ d ih =>
    intro k hk n hn
    obtain ⟨n, rfl⟩ : ∃ m, n = m + 1 := ⟨n - 1, by omega⟩
    rw [show m_X9_take_L179 (n + 1) = m_X9_take_B179 (m_X9_take_L179 n) from rfl]
    unfold m_X9_take_B179
    rw [if_neg (show ¬ (5 : Int32) ≤ nI k from nI_ge (b := 5) (by omega) (by decide))]
    simp only [gR_s_0, Option.bind_some, xR_p3, sld_R ha (by decide : 3 < 7), ← nI_succ]
    exact ih (k + 1) (by omega) n (by omega)
theorem q_take {h : Nat → Int32} {a : Nat} (ha : a < 6) (hr : r 6 a = h a) : m_X9_take (some M) (nI a) (ovs σ M r g) = some ((), ovs σ M r (tak1 h g a)) := by
  unfold m_X9_take m_X9_take_b69 m_X9_take_b141 m_X9_take_b160 tak1
  simp only [q_r, bnd_some, gR_s_0, gR_s_5, Option.bind_some, xR_p0, ← nI_succ, xR_s1, xR_p2, xR_p3, sld_R ha (by decide : 0 < 7), sld_R ha (by decide : 1 < 7), sld_R ha (by decide : 2 < 7), sld_R ha (by decide : 3 < 7), sst_R ha (by decide : 0 < 7), sst_R ha (by decide : 1 < 7), sst_R ha (by decide : 2 < 7), sst_R ha (by decide : 3 < 7), sld_6 ha, hr, sixteen_ne, four_ne, two_ne, if_false, up3_eq, up3_f (by decide : (3 : Nat) ≠ 2), up3_f (by decide : (2 : Nat) ≠ 3), sl9, st9, ob_s, q_listen ha, up3_c (by decide : (7 : Nat) ≠ 4)]
  by_cases h0 : g 4 a 0 = 0
  · rw [if_pos h0, if_pos h0]
    split <;> rfl
  · rw [if_neg h0, if_neg h0]
    have key := q_takeL (σ := σ) (M := M) (r := r) (g := up3 (up3 g 4 a 2 (g 4 a 2 + 1)) 4 a 3 (2 * g 4 a 3 + h a)) ha 5 0 rfl 1000 (by decide)
    rw [up3_eq] at key
    replace key : m_X9_take_L179 1000 (some M) (nI a) (nI (xR a 0)) 0 0 (ovs σ M r (up3 (up3 g 4 a 2 (g 4 a 2 + 1)) 4 a 3 (2 * g 4 a 3 + h a))) = _ := key
    generalize hm : g 4 a 2 + 1 = m at key ⊢
    generalize hb : 2 * g 4 a 3 + h a = b at key ⊢
    by_cases h1 : m - m / 2 * 2 = 0
    · rw [if_pos h1]
      by_cases h2 : b - b / 4 * 4 = 0
      · rw [if_pos h2, if_pos ⟨h1, Or.inl h2⟩]
      · rw [if_neg h2]
        by_cases h3 : b - b / 4 * 4 = 3
        · rw [if_pos h3, if_pos ⟨h1, Or.inr h3⟩]
        · rw [if_neg h3, if_neg (show ¬ (m - m / 2 * 2 = 0 ∧ (b - b / 4 * 4 = 0 ∨ b - b / 4 * 4 = 3)) from fun e => e.2.elim h2 h3)]
          by_cases h4 : m = 10
          · rw [if_pos h4, if_pos h4]; exact key
          · rw [if_neg h4, if_neg h4]
    · rw [if_neg h1, if_neg (show ¬ (m - m / 2 * 2 = 0 ∧ (b - b / 4 * 4 = 0 ∨ b - b / 4 * 4 = 3)) from fun e => h1 e.1)]
      by_cases h4 : m = 10
      · rw [if_pos h4, if_pos h4]; exact key
      · rw [if_neg h4, if_neg h4]
theorem q_takes {h : Nat → Int32} (hr : ∀ a, a < 6 → r 6 a = h a) : ∀ (d k : Nat), k + d = 6 → ∀ (n : Nat), d < n → m_X9_beat_L51 n (some M) (nI k) (ovs σ M r (takN h g k)) = some ((), ovs σ M r (up3 (takN h g 6) 0 0 0 (takN h g 6 0 0 0 + 1))) := by
  intro d
  induction d with
  | zero =>
    intro k hk n hn
    obtain ⟨n, rfl⟩ : ∃ m, n = m + 1 := ⟨n - 1, by omega⟩
    rw [show m_X9_beat_L51 (n + 1) = m_X9_beat_B51 (m_X9_beat_L51 n) from rfl]
    unfold m_X9_beat_B51
    rw [if_pos (show (6 : Int32) ≤ nI k from nI_le (a := 6) (by omega) (by omega))]
    obtain rfl : k = 6 := by omega
    simp only [gR_s_0, Option.bind_some, sl4, st4]
  | succ d ih =>
    intro k hk n hn
    obtain ⟨n, rfl⟩ : ∃ m, n = m + 1 := ⟨n - 1, by omega⟩
    rw [show m_X9_beat_L51 (n + 1) = m_X9_beat_B51 (m_X9_beat_L51 n) from rfl]
    unfold m_X9_beat_B51
    rw [if_neg (show ¬ (6 : Int32) ≤ nI k from nI_ge (b := 6) (by omega) (by decide))]
    have hk6 : k < 6 := by omega
    simp only [ob_s, Option.bind_some, q_take hk6 (hr k hk6), bnd_some, ← nI_succ]
    exact ih (k + 1) (by omega) n (by omega)
theorem bgn_c (g : NW) {c i j : Nat} (h : c ≠ 1) : bgn g c i j = g c i j := by simp [bgn, bgnQ, bgnP, h]
theorem bgn_f (g : NW) {i j : Nat} (h : j ≠ 4) (h5 : j ≠ 5) (h6 : j ≠ 6) (h7 : j ≠ 7) : bgn g 1 i j = g 1 i j := by simp [bgn, bgnQ, bgnP, h, h5, h6, h7]
theorem q_beat (hw : ∀ k, k < 5 → g 1 k 0 = 1 → ∃ v, v < 6 ∧ g 1 k 1 = nI v) (hper : ∀ k, k < 4 → g 2 k 0 = 1 → ¬ g 2 k 3 = 0) : m_X9_beat (some M) (ovs σ M r g) = some ((), ovs σ M (rws (rw8 r (bgi g)) (hear (bgn g)) (btsG (bgn g))) (beatG g)) := by
  unfold m_X9_beat
  have hw2 : ∀ k, k < 5 → bgn g 1 k 0 = 1 → ∃ v, v < 6 ∧ bgn g 1 k 1 = nI v := by
    intro k hk hp
    rw [bgn_f g (by decide) (by decide) (by decide) (by decide)] at hp ⊢
    exact hw k hk hp
  have hper2 : ∀ k, k < 4 → bgn g 2 k 0 = 1 → ¬ bgn g 2 k 3 = 0 := by
    intro k hk hp
    rw [bgn_c g (by decide)] at hp ⊢
    exact hper k hk hp
  simp only [ob_s, Option.bind_some, q_begin hw, bnd_some, q_send hper2]
  have h1 := q_moves (σ := σ) (M := M) (r := rw8 r (bgi g)) (g := bgn g) (h := hear (bgn g)) hw2 5 0 rfl 1000 (by decide)
  rw [show movN (hear (bgn g)) (bgn g) 0 = bgn g from rfl] at h1
  rw [nI0, h1]
  exact q_takes (g := movN (hear (bgn g)) (bgn g) 5) (h := hear (bgn g)) (fun a ha => rws_6 _ _ _ ha) 6 0 rfl 1000 (by decide)
end REF6
