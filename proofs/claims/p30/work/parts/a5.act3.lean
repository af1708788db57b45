/-! LEVEL 2: remove, say, run, set: both sides -/
section ACT3
variable {z0 : Nat} {σ σ1 : SG} {W W1 : Nat → NW} {P P1 : Nat → Nat} {kp : Nat} {h : Int32} {g : NW}
theorem ne_out {a : Int32} {n k : Nat} (h : a < 0 ∨ nI n ≤ a) (hk : k < n) (hn : n < 2 ^ 31) : ¬ a = nI k := by
  rintro rfl
  rcases h with h | h
  · exact nI_pos (by omega) h
  · exact nI_ge hk hn h
theorem thr_0 {v : Int32} (h : v = 0) : thr v = 0 := by subst h; rfl
theorem thr_1 {v : Int32} (h : v = 1) : thr v = 1 := by subst h; rfl
theorem rel_gone {w : NW} (hR : Rel g w) {c : Nat} (i : Nat) (hc : c = 1 ∨ c = 2 ∨ c = 3) : Rel (up3 g c i 0 0) (up3 w c i 0 0) := by
  refine hR.slot (c0 := c) (i0 := i) hc (fun c' i' j hn => up3_slot _ _ hn) (fun c' i' j hn => up3_slot _ _ hn) (fun j h1 h2 => ?_) (fun e j hj hl => ?_)
  · by_cases hj : j = 0
    · subst hj; rw [up3_eq, up3_eq]
    · have e : ∀ G : NW, up3 G c i 0 0 c i j = G c i j := fun G => if_neg (fun e => hj e.2.2)
      rw [e, e]
      rcases hc with rfl | rfl | rfl
      · exact hR.1.c1 i (h1 rfl)
      · refine hR.1.c2 i ?_
        rcases h2 rfl with h3 | h3
        · exact Or.inl h3
        · rw [up3_eq] at h3
          exact absurd h3 (by decide)
      · exact hR.1.c3 i j
  · subst e
    have e : ∀ (G : NW) (q : Nat), q ≠ 0 → up3 G 1 i 0 0 1 i q = G 1 i q := fun G q hq => if_neg (fun e => hq e.2.2)
    rw [e _ _ (by decide)] at hl
    rw [e _ _ (by omega), e _ _ (by omega)]
    exact hR.1.cq i hj hl
theorem inv_gone (hI : Inv g) {c : Nat} (i : Nat) (hc : c = 1 ∨ c = 2 ∨ c = 3) : Inv (up3 g c i 0 0) := by
  refine hI.slot (c0 := c) (i0 := i) (fun c' i' j hn => up3_slot _ _ hn) (fun e hi => ?_) (fun e hi => ?_) (fun e hi => ?_) (by omega)
  · subst e
    refine ⟨Or.inl (up3_eq _ _ _ _ _), ?_, fun hp => ?_⟩
    · rw [show up3 g 1 i 0 0 1 i 4 = g 1 i 4 from if_neg (by omega)]
      exact (hI.1 i hi).2.1
    · rw [up3_eq] at hp
      exact absurd hp (by decide)
  · subst e
    refine ⟨Or.inl (up3_eq _ _ _ _ _), ?_, fun hp => ?_⟩
    · rw [show up3 g 2 i 0 0 2 i 4 = g 2 i 4 from if_neg (by omega)]
      exact (hI.2.1 i hi).2.1
    · rw [up3_eq] at hp
      exact absurd hp (by decide)
  · subst e
    refine ⟨Or.inl (up3_eq _ _ _ _ _), ?_⟩
    rw [show up3 g 3 i 0 0 3 i 5 = g 3 i 5 from if_neg (by omega)]
    exact (hI.2.2.1 i hi).2
/-! a word for a sender -/
theorem c_word_out {b : Int32} (h : b < 0 ∨ nI 32 ≤ b) (σ : SG) : m_X8_isWord b σ = some (0, σ) := by
  unfold m_X8_isWord
  by_cases h0 : b < 0
  · rw [if_pos h0]; rfl
  · rw [if_neg h0, if_pos (show 32 ≤ b from h.resolve_left h0)]; rfl
theorem c_word {x : Nat} (h : x < 32) (σ : SG) : m_X8_isWord (nI x) σ = some (1, σ) := by
  unfold m_X8_isWord
  rw [if_neg (nI_pos (by omega)), if_neg (show ¬ (32 : Int32) ≤ nI x from nI_ge (b := 32) h (by decide))]
  rfl
def sayG (g : NW) (i q : Nat) (b : Int32) : NW := up3 (up3 g 1 i (8 + q) b) 1 i 3 (nI (q + 1))
theorem sayG_o (g : NW) (i q : Nat) (b : Int32) {c i' j : Nat} (h : ¬ (c = 1 ∧ i' = i)) : sayG g i q b c i' j = g c i' j := by
  unfold sayG
  rw [up3_slot _ _ h, up3_slot _ _ h]
theorem sayG_j (g : NW) (i q : Nat) (b : Int32) {j : Nat} (h3 : j ≠ 3) (h8 : j ≠ 8 + q) : sayG g i q b 1 i j = g 1 i j := (if_neg (fun e => h3 e.2.2)).trans (if_neg (fun e => h8 e.2.2))
theorem sayG_3 (g : NW) (i q : Nat) (b : Int32) : sayG g i q b 1 i 3 = nI (q + 1) := up3_eq _ _ _ _ _
theorem sayG_q (g : NW) (i q : Nat) (b : Int32) : sayG g i q b 1 i (8 + q) = b := (if_neg (by omega)).trans (up3_eq _ _ _ _ _)
theorem rel_say {w : NW} (hR : Rel g w) {i q : Nat} (hq : g 1 i 3 = nI q) (h6 : q < 6) (b : Int32) : Rel (sayG g i q b) (sayG w i q b) := by
  refine hR.slot (c0 := 1) (i0 := i) (Or.inl rfl) (fun c' i' j hn => sayG_o _ _ _ _ hn) (fun c' i' j hn => sayG_o _ _ _ _ hn) (fun j h1 _ => ?_) (fun _ j hj hl => ?_)
  · have hj8 := h1 rfl
    by_cases h3 : j = 3
    · subst h3; rw [sayG_3, sayG_3]
    · rw [sayG_j _ _ _ _ h3 (by omega), sayG_j _ _ _ _ h3 (by omega)]
      exact hR.1.c1 i hj8
  · rw [sayG_3, nI_ltI (by omega) (by omega)] at hl
    by_cases hjq : j = q
    · subst hjq; rw [sayG_q, sayG_q]
    · rw [sayG_j _ _ _ _ (by omega) (by omega), sayG_j _ _ _ _ (by omega) (by omega)]
      exact hR.1.cq i hj (by rw [hq]; exact nI_lt (by omega) (by omega))
theorem inv_say (hI : Inv g) {i q x : Nat} (hq : g 1 i 3 = nI q) (h6 : q < 6) (hp : g 1 i 0 = 1) (hx : x < 32) : Inv (sayG g i q (nI x)) := by
  refine hI.slot (c0 := 1) (i0 := i) (fun c' i' j hn => sayG_o _ _ _ _ hn) (fun _ hi => ?_) (fun e => absurd e (by decide)) (fun e => absurd e (by decide)) (by decide)
  obtain ⟨h0, h4, hP⟩ := hI.1 i hi
  obtain ⟨hw, ⟨q', hq6, hq', hs, hx'⟩, hpl, hpa⟩ := hP hp
  obtain rfl : q' = q := (nI_eq (by omega) (by omega)).mp (hq'.symm.trans hq)
  unfold InvS
  rw [sayG_j (j := 0) _ _ _ _ (by decide) (by omega), sayG_j (j := 1) _ _ _ _ (by decide) (by omega), sayG_j (j := 4) _ _ _ _ (by decide) (by omega), sayG_j (j := 6) _ _ _ _ (by decide) (by omega), sayG_j (j := 7) _ _ _ _ (by decide) (by omega), sayG_3]
  refine ⟨h0, h4, fun _ => ⟨hw, ⟨q' + 1, by omega, rfl, fun _ => by omega, fun j hj => ?_⟩, hpl, hpa⟩⟩
  by_cases hjq : j = q'
  · subst hjq; exact ⟨x, hx, sayG_q _ _ _ _⟩
  · rw [sayG_j _ _ _ _ (by omega) (by omega)]
    exact hx' j (by omega)
end ACT3


