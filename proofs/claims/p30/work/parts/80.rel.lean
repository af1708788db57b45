/-! LEVEL 2: THE RELATION between the reference's numbers g and a Net's w -/
def Base (g w : NW) : Prop := (∀ i j, w 0 i j = g 0 i j) ∧ (∀ i j, w 6 i j = g 6 i j) ∧ (∀ i j, w 7 i j = g 7 i j) ∧ (∀ i j, w 3 i j = g 3 i j) ∧ (∀ i j, j < 8 → w 1 i j = g 1 i j) ∧ (∀ i j, j < 6 → nI j < g 1 i 3 → w 1 i (8 + j) = g 1 i (8 + j)) ∧ (∀ i j, (j ≠ 3 ∨ g 2 i 0 = 1) → w 2 i j = g 2 i j)
/-- k pairs: the bits of u, each with its opposite -/
def enc : Nat → Nat → Nat
  | 0, _ => 0
  | k + 1, u => 4 * enc k (u / 2) + (if u % 2 = 1 then 2 else 1)
def encB (m u : Nat) : Nat := if m % 2 = 0 then enc (m / 2) u else 2 * enc (m / 2) (u / 2) + u % 2
def RdOK (m b u : Int32) : Prop := ∃ mm uu : Nat, mm ≤ 9 ∧ m = nI mm ∧ u = nI uu ∧ uu < 2 ^ ((mm + 1) / 2) ∧ b = nI (encB mm uu)
def LastOK (l x : Int32) : Prop := (l = 0 ∧ x = -5) ∨ ∃ u : Nat, u < 32 ∧ l = nI (u + 1) ∧ x = nI u
def RelR (g w : NW) (i : Nat) : Prop := w 4 i 0 = g 4 i 0 ∧ w 4 i 1 = g 4 i 1 ∧ (g 4 i 0 = 1 → w 4 i 2 = g 4 i 2 ∧ RdOK (g 4 i 2) (g 4 i 3) (w 4 i 3)) ∧ LastOK (g 4 i 4) (w 4 i 4) ∧ w 4 i 5 = g 4 i 5 ∧ w 4 i 6 = g 4 i 6 ∧ (g 4 i 0 = 0 → g 4 i 2 = 0 ∧ g 4 i 3 = 0)
def Rel (g w : NW) : Prop := Base g w ∧ ∀ i, i < 6 → RelR g w i
theorem Base.c0 {g w : NW} (h : Base g w) (i j : Nat) : w 0 i j = g 0 i j := h.1 i j
theorem Base.c6 {g w : NW} (h : Base g w) (i j : Nat) : w 6 i j = g 6 i j := h.2.1 i j
theorem Base.c7 {g w : NW} (h : Base g w) (i j : Nat) : w 7 i j = g 7 i j := h.2.2.1 i j
theorem Base.c3 {g w : NW} (h : Base g w) (i j : Nat) : w 3 i j = g 3 i j := h.2.2.2.1 i j
theorem Base.c1 {g w : NW} (h : Base g w) (i : Nat) {j : Nat} (hj : j < 8) : w 1 i j = g 1 i j := h.2.2.2.2.1 i j hj
theorem Base.cq {g w : NW} (h : Base g w) (i : Nat) {j : Nat} (hj : j < 6) (hl : nI j < g 1 i 3) : w 1 i (8 + j) = g 1 i (8 + j) := h.2.2.2.2.2.1 i j hj hl
theorem Base.c2 {g w : NW} (h : Base g w) (i : Nat) {j : Nat} (hj : j ≠ 3 ∨ g 2 i 0 = 1) : w 2 i j = g 2 i j := h.2.2.2.2.2.2 i j hj
/-- the same number written on both sides, at an entry that both have -/
theorem Base.up {g w : NW} (h : Base g w) {c i j : Nat} (v : Int32) (hc : c ≠ 1 ∨ j ≠ 3) (hc2 : c ≠ 2 ∨ j ≠ 0) : Base (up3 g c i j v) (up3 w c i j v) := by
  have key : ∀ c' i' j', w c' i' j' = g c' i' j' → up3 w c i j v c' i' j' = up3 g c i j v c' i' j' := by
    intro c' i' j' e
    simp only [up3, e]
  refine ⟨fun i' j' => key _ _ _ (h.c0 i' j'), fun i' j' => key _ _ _ (h.c6 i' j'), fun i' j' => key _ _ _ (h.c7 i' j'), fun i' j' => key _ _ _ (h.c3 i' j'), fun i' j' hj => key _ _ _ (h.c1 i' hj), fun i' j' hj hl => ?_, fun i' j' hj => ?_⟩
  · refine key _ _ _ (h.cq i' hj ?_)
    have e : up3 g c i j v 1 i' 3 = g 1 i' 3 := by
      simp only [up3]
      rw [if_neg]
      rintro ⟨h1, -, h3⟩
      exact hc.elim (fun z => z h1.symm) (fun z => z h3.symm)
    rwa [e] at hl
  · refine key _ _ _ (h.c2 i' ?_)
    rcases hj with hj | hj
    · exact Or.inl hj
    · refine Or.inr ?_
      have e : up3 g c i j v 2 i' 0 = g 2 i' 0 := by
        simp only [up3]
        rw [if_neg]
        rintro ⟨h1, -, h3⟩
        exact hc2.elim (fun z => z h1.symm) (fun z => z h3.symm)
      rwa [e] at hj
theorem Base.up4 {g w : NW} (h : Base g w) {i j : Nat} (v : Int32) : Base g (up3 w 4 i j v) := by
  refine ⟨fun i' j' => ?_, fun i' j' => ?_, fun i' j' => ?_, fun i' j' => ?_, fun i' j' hj => ?_, fun i' j' hj hl => ?_, fun i' j' hj => ?_⟩ <;> rw [up3_c (by decide)]
  · exact h.c0 _ _
  · exact h.c6 _ _
  · exact h.c7 _ _
  · exact h.c3 _ _
  · exact h.c1 _ hj
  · exact h.cq _ hj hl
  · exact h.c2 _ hj
theorem Base.up4g {g w : NW} (h : Base g w) {i j : Nat} (v : Int32) : Base (up3 g 4 i j v) w := by
  refine ⟨fun i' j' => ?_, fun i' j' => ?_, fun i' j' => ?_, fun i' j' => ?_, fun i' j' hj => ?_, fun i' j' hj hl => ?_, fun i' j' hj => ?_⟩
  · rw [up3_c (by decide)]; exact h.c0 _ _
  · rw [up3_c (by decide)]; exact h.c6 _ _
  · rw [up3_c (by decide)]; exact h.c7 _ _
  · rw [up3_c (by decide)]; exact h.c3 _ _
  · rw [up3_c (by decide)]; exact h.c1 _ hj
  · rw [up3_c (by decide)] at hl ⊢; exact h.cq _ hj hl
  · rw [up3_c (by decide)] at hj ⊢; exact h.c2 _ hj
theorem Base.hw8 {g w : NW} (h : Base g w) (x : Nat → Int32) : Base g (w8 w x) := by
  refine ⟨fun i' j' => ?_, fun i' j' => ?_, fun i' j' => ?_, fun i' j' => ?_, fun i' j' hj => ?_, fun i' j' hj hl => ?_, fun i' j' hj => ?_⟩ <;> rw [w8_o _ _ (by decide)]
  · exact h.c0 _ _
  · exact h.c6 _ _
  · exact h.c7 _ _
  · exact h.c3 _ _
  · exact h.c1 _ hj
  · exact h.cq _ hj hl
  · exact h.c2 _ hj
theorem RelR.of4 {g w g' w' : NW} {i : Nat} (h : RelR g w i) (hg : ∀ j, g' 4 i j = g 4 i j) (hw : ∀ j, w' 4 i j = w 4 i j) : RelR g' w' i := by
  unfold RelR
  simp only [hg, hw]
  exact h
/-- the queue's length is at least one -/
theorem nI_0lt {q : Nat} (h : 1 ≤ q) (h6 : q ≤ 6) : nI 0 < nI q := nI_lt (by omega) (by omega)
theorem Base.bit {g w : NW} (h : Base g w) {k : Nat} (hI : InvS g k) (hs : spk g k) : bitG w k = bitG g k := by
  obtain ⟨-, -, hP⟩ := hI
  obtain ⟨-, ⟨q, hq6, hq, h1, -⟩, -⟩ := hP hs.1
  unfold bitG
  rw [h.c1 k (by decide : 6 < 8), show w 1 k 8 = g 1 k 8 from h.cq k (j := 0) (by decide) (by rw [hq]; exact nI_0lt (h1 hs.2) hq6)]
theorem Base.spks {g w : NW} (h : Base g w) (k : Nat) : spk w k ↔ spk g k := by
  show (w 1 k 0 = 1 ∧ w 1 k 4 = 1) ↔ (g 1 k 0 = 1 ∧ g 1 k 4 = 1)
  rw [h.c1 k (by decide), h.c1 k (by decide)]

