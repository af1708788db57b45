/-! LEVEL 2: senders begin and go on, in the reference -/
theorem up3_f {w : NW} {c i j j' : Nat} {v : Int32} (h : j' ≠ j) : up3 w c i j v c i j' = w c i j' := by simp [up3, h]
theorem up3_c {w : NW} {c i j c' i' j' : Nat} {v : Int32} (h : c' ≠ c) : up3 w c i j v c' i' j' = w c' i' j' := by simp [up3, h]
theorem up3_i {w : NW} {c i j i' j' : Nat} {v : Int32} (h : i' ≠ i) : up3 w c i j v c i' j' = w c i' j' := by simp [up3, h]
theorem up3_up3 (w : NW) (c i j : Nat) (u v : Int32) : up3 (up3 w c i j u) c i j v = up3 w c i j v := by
  funext c' i' j'
  simp only [up3]
  split <;> simp_all
theorem up3_self (w : NW) (c i j : Nat) (v : Int32) (h : v = w c i j) : up3 w c i j v = w := by
  funext c' i' j'
  simp only [up3]
  split
  next e => obtain ⟨rfl, rfl, rfl⟩ := e; exact h
  · rfl
abbrev rest (g : NW) (k : Nat) : Prop := g 1 k 0 = 1 ∧ g 1 k 4 = 0
abbrev quiet (g : NW) (k : Nat) : Prop := g 4 (g 1 k 1).toNatClampNeg 0 = 0 ∧ g 4 (g 1 k 1).toNatClampNeg 1 = 0
abbrev beg (g : NW) (k : Nat) : Prop := rest g k ∧ 0 < g 1 k 3 ∧ g 1 k 7 = 0 ∧ quiet g k
def bgnP (g : NW) (k : Nat) : NW := fun c i j => if c = 1 ∧ i < k ∧ j = 7 ∧ rest g i ∧ 0 < g 1 i 7 then g 1 i 7 - 1 else g c i j
def bgnQ (g : NW) (k : Nat) : NW := fun c i j => if c = 1 ∧ i < k ∧ beg g i ∧ j = 4 then 1 else if c = 1 ∧ i < k ∧ beg g i ∧ (j = 5 ∨ j = 6) then 0 else bgnP g 5 c i j
def bgn (g : NW) : NW := bgnQ g 5
/-- the row 8 of the reference's: who begins -/
def rw8 (r : Nat → Nat → Int32) (b : Nat → Int32) : Nat → Nat → Int32 := fun k j => if k = 8 ∧ j < 5 then b j else r k j
def bgi (g : NW) (j : Nat) : Int32 := if beg g j then 1 else 0
def bg8 (g : NW) (k : Nat) (r : Nat → Nat → Int32) : Nat → Int32 := fun j => if j < k then bgi g j else r 8 j
theorem nar0 : vp_nar .boolean 0 = 0 := by rfl
theorem nar1 : vp_nar .boolean 1 = 1 := by rfl
theorem bgnP_s (g : NW) {k j : Nat} : bgnP g k 1 k j = g 1 k j := by simp [bgnP]
theorem bgnP_c (g : NW) {k c i j : Nat} (h : c ≠ 1) : bgnP g k c i j = g c i j := by simp [bgnP, h]
theorem bgnP_up (g : NW) (k : Nat) (v : Int32) (hv : v = if rest g k ∧ 0 < g 1 k 7 then g 1 k 7 - 1 else g 1 k 7) : up3 (bgnP g k) 1 k 7 v = bgnP g (k + 1) := by
  funext c i j
  simp only [up3, bgnP]
  by_cases h : c = 1 ∧ i = k ∧ j = 7
  · obtain ⟨rfl, rfl, rfl⟩ := h
    simp only [and_self, if_true, true_and, Nat.lt_succ_self]
    exact hv
  · rw [if_neg h]
    by_cases h2 : c = 1 ∧ i < k ∧ j = 7 ∧ rest g i ∧ 0 < g 1 i 7
    · rw [if_pos h2, if_pos ⟨h2.1, by omega, h2.2.2⟩]
    · rw [if_neg h2, if_neg]
      rintro ⟨h3, h4, h5⟩
      by_cases hik : i = k
      · exact h ⟨h3, hik, h5.1⟩
      · exact h2 ⟨h3, by omega, h5⟩
section REF3
variable {σ : SG} {M : Nat} {r : Nat → Nat → Int32} {g : NW}
theorem rw8_up (g : NW) (r : Nat → Nat → Int32) {k : Nat} (hk : k < 5) (v : Int32) (hv : v = bgi g k) : up2 (rw8 r (bg8 g k r)) 8 k v = rw8 r (bg8 g (k + 1) r) := by
  funext q j
  simp only [up2, rw8, bg8]
  by_cases h8 : q = 8
  · subst h8
    by_cases hj : j = k
    · subst hj
      simp [hk, hv]
    · by_cases h5 : j < 5
      · have : (j < k) = (j < k + 1) := propext ⟨fun h => by omega, fun h => by omega⟩
        simp [hj, h5, this]
      · simp [hj, h5]
  · simp [h8]
end REF3

