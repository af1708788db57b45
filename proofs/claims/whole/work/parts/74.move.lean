/-! LEVEL 2: senders begin and go on, in the reference -/
theorem up3_f {w : NW} {c i j j' : Nat} {v : Int32} (h : j' ≠ j) : up3 w c i j v c i j' = w c i j' := by simp [up3, h]
theorem up3_c {w : NW} {c i j c' i' j' : Nat} {v : Int32} (h : c' ≠ c) : up3 w c i j v c' i' j' = w c' i' j' := by simp [up3, h]
theorem up3_i {w : NW} {c i j i' j' : Nat} {v : Int32} (h : i' ≠ i) : up3 w c i j v c i' j' = w c i' j' := by simp [up3, h]
theorem up3_up3 (w : NW) (c i j : Nat) (u v : Int32) : up3 (up3 w c i j u) c i j v = up3 w c i j v := by
  funext c' i' j'
  simp only [up3]
  split <;> simp_all
theorem up3_self (w : NW) (c i j : Nat) (v : Int32) (h : v = w c i j) : up3 w c i j v = w := by
  funext c' i' j'
  simp only [up3]
  split
  next e => obtain ⟨rfl, rfl, rfl⟩ := e; exact h
  · rfl
abbrev rest (g : NW) (k : Nat) : Prop := g 1 k 0 = 1 ∧ g 1 k 4 = 0
abbrev quiet (g : NW) (k : Nat) : Prop := g 4 (g 1 k 1).toNatClampNeg 0 = 0 ∧ g 4 (g 1 k 1).toNatClampNeg 1 = 0
abbrev beg (g : NW) (k : Nat) : Prop := rest g k ∧ 0 < g 1 k 3 ∧ g 1 k 7 = 0 ∧ quiet g k
def bgnP (g : NW) (k : Nat) : NW := fun c i j => if c = 1 ∧ i < k ∧ j = 7 ∧ rest g i ∧ 0 < g 1 i 7 then g 1 i 7 - 1 else g c i j
def bgnQ (g : NW) (k : Nat) : NW := fun c i j => if c = 1 ∧ i < k ∧ beg g i ∧ j = 4 then 1 else if c = 1 ∧ i < k ∧ beg g i ∧ (j = 5 ∨ j = 6) then 0 else bgnP g 5 c i j
def bgn (g : NW) : NW := bgnQ g 5
/-- the row 8 of the reference's: who begins -/
def rw8 (r : Nat → Nat → Int32) (b : Nat → Int32) : Nat → Nat → Int32 := fun k j => if k = 8 ∧ j < 5 then b j else r k j
def bgi (g : NW) (j : Nat) : Int32 := if beg g j then 1 else 0
def bg8 (g : NW) (k : Nat) (r : Nat → Nat → Int32) : Nat → Int32 := fun j => if j < k then bgi g j else r 8 j
theorem nar0 : vp_nar .boolean 0 = 0 := by rfl
theorem nar1 : vp_nar .boolean 1 = 1 := by rfl
theorem bgnP_s (g : NW) {k j : Nat} : bgnP g k 1 k j = g 1 k j := by simp [bgnP]
theorem bgnP_c (g : NW) {k c i j : Nat} (h : c ≠ 1) : bgnP g k c i j = g c i j := by simp [bgnP, h]
theorem bgnP_up (g : NW) (k : Nat) (v : Int32) (hv : v = if rest g k ∧ 0 < g 1 k 7 then g 1 k 7 - 1 else g 1 k 7) : up3 (bgnP g k) 1 k 7 v = bgnP g (k + 1) := by
  funext c i j
  simp only [up3, bgnP]
  by_cases h : c = 1 ∧ i = k ∧ j = 7
  · obtain ⟨rfl, rfl, rfl⟩ := h
    simp only [and_self, if_true, true_and, Nat.lt_succ_self]
    exact hv
  · rw [if_neg h]
    by_cases h2 : c = 1 ∧ i < k ∧ j = 7 ∧ rest g i ∧ 0 < g 1 i 7
    · rw [if_pos h2, if_pos ⟨h2.1, by omega, h2.2.2⟩]
    · rw [if_neg h2, if_neg]
      rintro ⟨h3, h4, h5⟩
      by_cases hik : i = k
      · exact h ⟨h3, hik, h5.1⟩
      · exact h2 ⟨h3, by omega, h5⟩
section REF3
variable {σ : SG} {M : Nat} {r : Nat → Nat → Int32} {g : NW}
theorem rw8_up (g : NW) (r : Nat → Nat → Int32) {k : Nat} (hk : k < 5) (v : Int32) (hv : v = bgi g k) : up2 (rw8 r (bg8 g k r)) 8 k v = rw8 r (bg8 g (k + 1) r) := by
  funext q j
  simp only [up2, rw8, bg8]
  by_cases h8 : q = 8
  · subst h8
    by_cases hj : j = k
    · subst hj
      simp [hk, hv]
    · by_cases h5 : j < 5
      · have : (j < k) = (j < k + 1) := propext ⟨fun h => by omega, fun h => by omega⟩
        simp [hj, h5, this]
      · simp [hj, h5]
  · simp [h8]
theorem q_begin1 (hw : ∀ k, k < 5 → g 1 k 0 = 1 → ∃ v, v < 6 ∧ g 1 k 1 = nI v) : ∀ (d k : Nat), k + d = 5 → ∀ (n : Nat), d < n → m_X9_begin_L2 n (some M) (nI k) (ovs σ M (rw8 r (bg8 g k r)) (bgnP g k)) = m_X9_begin_L153 1000 (some M) (nI 0) (ovs σ M (rw8 r (bgi g)) (bgnP g 5)) := by
  intro d
  induction d with
  | zero =>
    intro k hk n hn
    obtain ⟨n, rfl⟩ : ∃ m, n = m + 1 := ⟨n - 1, by omega⟩
    rw [show m_X9_begin_L2 (n + 1) = m_X9_begin_B2 (m_X9_begin_L2 n) from rfl]
    unfold m_X9_begin_B2
    rw [if_pos (show (5 : Int32) ≤ nI k from nI_le (a := 5) (by omega) (by omega)), nI0]
    obtain rfl : k = 5 := by omega
    congr 2
    funext q j
    simp only [rw8, bg8]
    by_cases h : q = 8 ∧ j < 5
    · rw [if_pos h, if_pos h, if_pos h.2]
    · rw [if_neg h, if_neg h]
  | succ d ih =>
    intro k hk n hn
    obtain ⟨n, rfl⟩ : ∃ m, n = m + 1 := ⟨n - 1, by omega⟩
    rw [show m_X9_begin_L2 (n + 1) = m_X9_begin_B2 (m_X9_begin_L2 n) from rfl]
    unfold m_X9_begin_B2 m_X9_begin_b47 m_X9_begin_b48 m_X9_begin_b109 m_X9_begin_b110 m_X9_begin_b142 m_X9_begin_b143
    rw [if_neg (show ¬ (5 : Int32) ≤ nI k from nI_ge (b := 5) (by omega) (by decide))]
    have hk5 : k < 5 := by omega
    have nx := ih (k + 1) (by omega) n (by omega)
    have sub0 : g 1 k 7 - 0 = g 1 k 7 := by simp
    by_cases hp : g 1 k 0 = 1
    · obtain ⟨v, hv6, hv⟩ := hw k hk5 hp
      have hc : (g 1 k 1).toNatClampNeg = v := by rw [hv]; exact nI_clamp (by omega)
      simp only [q_n, bnd_some, gR_s_0, gR_s_7, Option.bind_some, ← nI_succ, xS_s1, sld_S hk5 (by decide : 1 < 14), bgnP_s, hv, q_r, ob_s, q_isSender hk5, thr, hp, if_true, one_ne, if_false, xS_p3, xS_p4, xS_p7, sld_S hk5 (by decide : 4 < 14), sld_S hk5 (by decide : 3 < 14), sld_S hk5 (by decide : 7 < 14), xR_p0, xR_s1, sld_R hv6 (by decide : 0 < 7), sld_R hv6 (by decide : 1 < 7), bgnP_c g (by decide : (4 : Nat) ≠ 1), sst_8 hk5, nar0, nar1, sst_S hk5 (by decide : 7 < 14)]
      by_cases hs : g 1 k 4 = 0
      · simp only [hs, if_true, one_ne, if_false]
        have e0 : rest g k := ⟨hp, hs⟩
        by_cases hw3 : g 1 k 3 ≤ 0
        · have nb : bgi g k = 0 := by
            unfold bgi; rw [if_neg]; rintro ⟨-, h, -⟩; exact absurd hw3 (Int32.not_le.mpr h)
          simp only [hw3, if_true, rw8_up g r hk5 0 nb.symm]
          by_cases hz : g 1 k 7 ≤ 0
          · rw [if_pos hz, bgnP_up g k _ (by rw [sub0, if_neg]; rintro ⟨-, h⟩; exact absurd hz (Int32.not_le.mpr h))]; exact nx
          · rw [if_neg hz, bgnP_up g k _ (by rw [if_pos ⟨e0, Int32.not_le.mp hz⟩])]; exact nx
        · simp only [hw3, if_false]
          by_cases hz0 : g 1 k 7 = 0
          · simp only [hz0, if_true]
            have hz : g 1 k 7 ≤ 0 := by rw [hz0]; decide
            have e7 : ∀ v', v' = (0 : Int32) - 0 → up3 (bgnP g k) 1 k 7 v' = bgnP g (k + 1) := fun v' hv' => bgnP_up g k _ (by rw [if_neg (fun h => absurd hz (Int32.not_le.mpr h.2)), hv', hz0]; decide)
            by_cases hq0 : g 4 v 0 = 0
            · by_cases hq1 : g 4 v 1 = 0
              · have nb : bgi g k = 1 := by
                  unfold bgi; rw [if_pos]; exact ⟨e0, Int32.not_le.mp hw3, hz0, by rw [quiet, hc]; exact ⟨hq0, hq1⟩⟩
                simp only [hq0, hq1, if_true, rw8_up g r hk5 1 nb.symm, e7 _ rfl]
                exact nx
              · have nb : bgi g k = 0 := by
                  unfold bgi; rw [if_neg]; rintro ⟨-, -, -, h⟩; rw [quiet, hc] at h; exact hq1 h.2
                simp only [hq0, hq1, if_true, if_false, rw8_up g r hk5 0 nb.symm, e7 _ rfl]
                exact nx
            · have nb : bgi g k = 0 := by
                unfold bgi; rw [if_neg]; rintro ⟨-, -, -, h⟩; rw [quiet, hc] at h; exact hq0 h.1
              simp only [hq0, if_false, rw8_up g r hk5 0 nb.symm, e7 _ rfl]
              exact nx
          · have nb : bgi g k = 0 := by
              unfold bgi; rw [if_neg]; rintro ⟨-, -, h, -⟩; exact hz0 h
            simp only [hz0, if_false, rw8_up g r hk5 0 nb.symm]
            by_cases hz : g 1 k 7 ≤ 0
            · rw [if_pos hz, bgnP_up g k _ (by rw [sub0, if_neg]; rintro ⟨-, h⟩; exact absurd hz (Int32.not_le.mpr h))]; exact nx
            · rw [if_neg hz, bgnP_up g k _ (by rw [if_pos ⟨e0, Int32.not_le.mp hz⟩])]; exact nx
      · have nb : bgi g k = 0 := by
          unfold bgi; rw [if_neg]; rintro ⟨h, -⟩; exact hs h.2
        simp only [hs, if_true, if_false, rw8_up g r hk5 0 nb.symm]
        rw [bgnP_up g k _ (by rw [sub0, if_neg]; rintro ⟨h, -⟩; exact hs h.2)]
        exact nx
    · have nb : bgi g k = 0 := by
        unfold bgi; rw [if_neg]; rintro ⟨h, -⟩; exact hp h.1
      simp only [q_n, bnd_some, gR_s_0, gR_s_7, Option.bind_some, ← nI_succ, xS_s1, sld_S hk5 (by decide : 1 < 14), bgnP_s, m_X9_r, ob_s, q_isSender hk5, thr, hp, if_true, if_false, xS_p7, sld_S hk5 (by decide : 7 < 14), sst_8 hk5, nar0, sst_S hk5 (by decide : 7 < 14), rw8_up g r hk5 0 nb.symm]
      rw [bgnP_up g k _ (by rw [sub0, if_neg]; rintro ⟨h, -⟩; exact hp h.1)]
      exact nx
theorem q_begin2 : ∀ (d k : Nat), k + d = 5 → ∀ (n : Nat), d < n → m_X9_begin_L153 n (some M) (nI k) (ovs σ M (rw8 r (bgi g)) (bgnQ g k)) = some ((), ovs σ M (rw8 r (bgi g)) (bgn g)) := by
  intro d
  induction d with
  | zero =>
    intro k hk n hn
    obtain ⟨n, rfl⟩ : ∃ m, n = m + 1 := ⟨n - 1, by omega⟩
    rw [show m_X9_begin_L153 (n + 1) = m_X9_begin_B153 (m_X9_begin_L153 n) from rfl]
    unfold m_X9_begin_B153
    rw [if_pos (show (5 : Int32) ≤ nI k from nI_le (a := 5) (by omega) (by omega))]
    obtain rfl : k = 5 := by omega
    rfl
  | succ d ih =>
    intro k hk n hn
    obtain ⟨n, rfl⟩ : ∃ m, n = m + 1 := ⟨n - 1, by omega⟩
    rw [show m_X9_begin_L153 (n + 1) = m_X9_begin_B153 (m_X9_begin_L153 n) from rfl]
    unfold m_X9_begin_B153 m_X9_begin_b204
    rw [if_neg (show ¬ (5 : Int32) ≤ nI k from nI_ge (b := 5) (by omega) (by decide))]
    have hk5 : k < 5 := by omega
    have nx := ih (k + 1) (by omega) n (by omega)
    simp only [q_n, bnd_some, gR_s_0, gR_s_7, Option.bind_some, sld_8 hk5, ← nI_succ, xS_p4, xS_p5, xS_p6, sst_S hk5 (by decide : 4 < 14), sst_S hk5 (by decide : 5 < 14), sst_S hk5 (by decide : 6 < 14)]
    rw [show rw8 r (bgi g) 8 k = bgi g k by simp [rw8, hk5]]
    by_cases hb : beg g k
    · have e : up3 (up3 (up3 (bgnQ g k) 1 k 4 1) 1 k 5 0) 1 k 6 0 = bgnQ g (k + 1) := by
        funext c i j
        simp only [up3, bgnQ]
        by_cases hc : c = 1
        · subst hc
          by_cases hi : i = k
          · subst hi
            have hb1 : (beg g i) = True := eq_true hb
            simp only [true_and, Nat.lt_succ_self, hb1, Nat.lt_irrefl, false_and, if_false]
            by_cases h6 : j = 6
            · subst h6; rfl
            · by_cases h5 : j = 5
              · subst h5; rfl
              · by_cases h4 : j = 4
                · subst h4; rfl
                · simp only [h4, h5, h6, if_false, or_self]
          · have : (i < k) = (i < k + 1) := propext ⟨fun h => by omega, fun h => by omega⟩
            simp [hi, this]
        · simp [hc]
      rw [show bgi g k = 1 from if_pos hb, if_neg one_ne, e]
      exact nx
    · have e : bgnQ g k = bgnQ g (k + 1) := by
        funext c i j
        simp only [bgnQ]
        by_cases hi : i = k
        · subst hi
          have hb1 : (beg g i) = False := eq_false hb
          simp only [hb1, false_and, and_false, if_false]
        · have : (i < k) = (i < k + 1) := propext ⟨fun h => by omega, fun h => by omega⟩
          simp [this]
      rw [show bgi g k = 0 from if_neg hb, if_pos rfl, e]
      exact nx
theorem q_begin (hw : ∀ k, k < 5 → g 1 k 0 = 1 → ∃ v, v < 6 ∧ g 1 k 1 = nI v) : m_X9_begin (some M) (ovs σ M r g) = some ((), ovs σ M (rw8 r (bgi g)) (bgn g)) := by
  unfold m_X9_begin
  have h1 := q_begin1 (σ := σ) (M := M) (r := r) hw 5 0 rfl 1000 (by decide)
  have h2 := q_begin2 (σ := σ) (M := M) (r := r) (g := g) 5 0 rfl 1000 (by decide)
  have e1 : bgnP g 0 = g := by funext c i j; simp [bgnP]
  have e2 : bgnQ g 0 = bgnP g 5 := by funext c i j; simp [bgnQ]
  have e3 : rw8 r (bg8 g 0 r) = r := by
    funext q j
    simp only [rw8, bg8]
    split
    next h => rw [if_neg (by omega), h.1]
    · rfl
  rw [e1, e3] at h1
  rw [e2] at h2
  rw [nI0, h1, h2]
end REF3
