/-! LEVEL 2, second text: the reference's block of 11 cells. r k j: row k (0: the object's own numbers, by field), place j; its row 1 as numbers g c i j like a Net's -/
def up2 (r : Nat → Nat → Int32) (k j : Nat) (v : Int32) : Nat → Nat → Int32 := fun k' j' => if k' = k ∧ j' = j then v else r k' j'
/-! the row 1 as numbers: settings (6), the time (0), totals (7), senders (1), machines (2), lamps (3), receivers (4) -/
def xS (i j : Nat) : Nat := 10 + 14 * i + j
def xM (i j : Nat) : Nat := 80 + 5 * i + j
def xL (i j : Nat) : Nat := 100 + 6 * i + j
def xR (i j : Nat) : Nat := 148 + 7 * i + j
def flat (g : NW) : Nat → Int32 := fun k => if k < 4 then g 6 0 k else if k < 5 then g 0 0 0 else if k < 10 then g 7 0 (k - 5) else if k < 80 then g 1 ((k - 10) / 14) ((k - 10) % 14) else if k < 100 then g 2 ((k - 80) / 5) ((k - 80) % 5) else if k < 148 then g 3 ((k - 100) / 6) ((k - 100) % 6) else if k < 190 then g 4 ((k - 148) / 7) ((k - 148) % 7) else 0
/-- where an entry stands -/
def posN (c i j : Nat) : Nat := if c = 6 then j else if c = 0 then 4 else if c = 7 then 5 + j else if c = 1 then xS i j else if c = 2 then xM i j else if c = 3 then xL i j else xR i j
def okN (c i j : Nat) : Prop := (c = 6 ∧ i = 0 ∧ j < 4) ∨ (c = 0 ∧ i = 0 ∧ j = 0) ∨ (c = 7 ∧ i = 0 ∧ j < 5) ∨ (c = 1 ∧ i < 5 ∧ j < 14) ∨ (c = 2 ∧ i < 4 ∧ j < 5) ∨ (c = 3 ∧ i < 8 ∧ j < 6) ∨ (c = 4 ∧ i < 6 ∧ j < 7)
theorem flat_at {g : NW} {c i j : Nat} (h : okN c i j) : flat g (posN c i j) = g c i j := by
  rcases h with ⟨rfl, rfl, h⟩ | ⟨rfl, rfl, rfl⟩ | ⟨rfl, rfl, h⟩ | ⟨rfl, hi, h⟩ | ⟨rfl, hi, h⟩ | ⟨rfl, hi, h⟩ | ⟨rfl, hi, h⟩
  · simp [posN, flat, h]
  · simp [posN, flat]
  · simp only [posN, flat]; simp; rw [if_neg (by omega), if_neg (by omega), if_pos (by omega)]
  · show flat g (xS i j) = g 1 i j
    unfold flat xS
    rw [if_neg (by omega), if_neg (by omega), if_neg (by omega), if_pos (by omega)]
    rw [show (10 + 14 * i + j - 10) / 14 = i by omega, show (10 + 14 * i + j - 10) % 14 = j by omega]
  · show flat g (xM i j) = g 2 i j
    unfold flat xM
    rw [if_neg (by omega), if_neg (by omega), if_neg (by omega), if_neg (by omega), if_pos (by omega)]
    rw [show (80 + 5 * i + j - 80) / 5 = i by omega, show (80 + 5 * i + j - 80) % 5 = j by omega]
  · show flat g (xL i j) = g 3 i j
    unfold flat xL
    rw [if_neg (by omega), if_neg (by omega), if_neg (by omega), if_neg (by omega), if_neg (by omega), if_pos (by omega)]
    rw [show (100 + 6 * i + j - 100) / 6 = i by omega, show (100 + 6 * i + j - 100) % 6 = j by omega]
  · show flat g (xR i j) = g 4 i j
    unfold flat xR
    rw [if_neg (by omega), if_neg (by omega), if_neg (by omega), if_neg (by omega), if_neg (by omega), if_neg (by omega), if_pos (by omega)]
    rw [show (148 + 7 * i + j - 148) / 7 = i by omega, show (148 + 7 * i + j - 148) % 7 = j by omega]
theorem posN_inv (k : Nat) (hk : k < 190) : ∃ c i j, okN c i j ∧ k = posN c i j := by
  by_cases h1 : k < 4
  · exact ⟨6, 0, k, Or.inl ⟨rfl, rfl, h1⟩, by simp [posN]⟩
  by_cases h2 : k < 5
  · exact ⟨0, 0, 0, Or.inr (Or.inl ⟨rfl, rfl, rfl⟩), by simp [posN]; omega⟩
  by_cases h3 : k < 10
  · exact ⟨7, 0, k - 5, Or.inr (Or.inr (Or.inl ⟨rfl, rfl, by omega⟩)), by simp [posN]; omega⟩
  by_cases h4 : k < 80
  · exact ⟨1, (k - 10) / 14, (k - 10) % 14, Or.inr (Or.inr (Or.inr (Or.inl ⟨rfl, by omega, by omega⟩))), by simp [posN, xS]; omega⟩
  by_cases h5 : k < 100
  · exact ⟨2, (k - 80) / 5, (k - 80) % 5, Or.inr (Or.inr (Or.inr (Or.inr (Or.inl ⟨rfl, by omega, by omega⟩)))), by simp [posN, xM]; omega⟩
  by_cases h6 : k < 148
  · exact ⟨3, (k - 100) / 6, (k - 100) % 6, Or.inr (Or.inr (Or.inr (Or.inr (Or.inr (Or.inl ⟨rfl, by omega, by omega⟩))))), by simp [posN, xL]; omega⟩
  · exact ⟨4, (k - 148) / 7, (k - 148) % 7, Or.inr (Or.inr (Or.inr (Or.inr (Or.inr (Or.inr ⟨rfl, by omega, by omega⟩))))), by simp [posN, xR]; omega⟩
theorem posN_lt {c i j : Nat} (h : okN c i j) : posN c i j < 190 := by
  rcases h with ⟨rfl, rfl, h⟩ | ⟨rfl, rfl, rfl⟩ | ⟨rfl, rfl, h⟩ | ⟨rfl, hi, h⟩ | ⟨rfl, hi, h⟩ | ⟨rfl, hi, h⟩ | ⟨rfl, hi, h⟩ <;> simp [posN, xS, xM, xL, xR] <;> omega
theorem flat_out {g : NW} {k : Nat} (h : ¬ k < 190) : flat g k = 0 := by
  unfold flat
  rw [if_neg (by omega), if_neg (by omega), if_neg (by omega), if_neg (by omega), if_neg (by omega), if_neg (by omega), if_neg h]
theorem posN_inj {c i j c' i' j' : Nat} (h : okN c i j) (h' : okN c' i' j') (e : posN c i j = posN c' i' j') : c = c' ∧ i = i' ∧ j = j' := by
  rcases h with ⟨rfl, rfl, h⟩ | ⟨rfl, rfl, rfl⟩ | ⟨rfl, rfl, h⟩ | ⟨rfl, hi, h⟩ | ⟨rfl, hi, h⟩ | ⟨rfl, hi, h⟩ | ⟨rfl, hi, h⟩ <;>
    rcases h' with ⟨rfl, rfl, h'⟩ | ⟨rfl, rfl, rfl⟩ | ⟨rfl, rfl, h'⟩ | ⟨rfl, hi', h'⟩ | ⟨rfl, hi', h'⟩ | ⟨rfl, hi', h'⟩ | ⟨rfl, hi', h'⟩ <;>
    simp [posN, xS, xM, xL, xR] at e ⊢ <;> omega
theorem flat_up {g : NW} {c i j : Nat} {v : Int32} (h : okN c i j) (k : Nat) : (if k = posN c i j then v else flat g k) = flat (up3 g c i j v) k := by
  by_cases hk : k < 190
  · obtain ⟨c', i', j', h', rfl⟩ := posN_inv k hk
    rw [flat_at h', flat_at h']
    simp only [up3]
    by_cases e : posN c' i' j' = posN c i j
    · obtain ⟨rfl, rfl, rfl⟩ := posN_inj h' h e
      simp
    · rw [if_neg e, if_neg]
      rintro ⟨rfl, rfl, rfl⟩
      exact e rfl
  · rw [flat_out hk, flat_out hk, if_neg]
    have := posN_lt h
    omega
/-! places by numbers -/
theorem nI_mul (a b : Nat) : nI a * nI b = nI (a * b) := by simp [nI, Int32.ofNat_mul]
theorem nI_lit (a : Nat) : (OfNat.ofNat a : Int32) = nI a := rfl
theorem xS_0 (i : Nat) : (10 : Int32) + (14 : Int32) * nI i = nI (xS i 0) := by
  show nI 10 + nI 14 * nI i = _
  rw [nI_mul, nI_add]; rfl
theorem xM_0 (i : Nat) : (80 : Int32) + (5 : Int32) * nI i = nI (xM i 0) := by
  show nI 80 + nI 5 * nI i = _
  rw [nI_mul, nI_add]; rfl
theorem xL_0 (i : Nat) : (100 : Int32) + (6 : Int32) * nI i = nI (xL i 0) := by
  show nI 100 + nI 6 * nI i = _
  rw [nI_mul, nI_add]; rfl
theorem xR_0 (i : Nat) : (148 : Int32) + (7 : Int32) * nI i = nI (xR i 0) := by
  show nI 148 + nI 7 * nI i = _
  rw [nI_mul, nI_add]; rfl
theorem xS_p0 (i : Nat) : nI (xS i 0) + (0 : Int32) = nI (xS i 0) := by
  show nI _ + nI 0 = _
  rw [nI_add]; rfl
theorem xS_p1 (i : Nat) : nI (xS i 0) + (1 : Int32) = nI (xS i 1) := by
  show nI _ + nI 1 = _
  rw [nI_add]; rfl
theorem xS_p2 (i : Nat) : nI (xS i 0) + (2 : Int32) = nI (xS i 2) := by
  show nI _ + nI 2 = _
  rw [nI_add]; rfl
theorem xS_p3 (i : Nat) : nI (xS i 0) + (3 : Int32) = nI (xS i 3) := by
  show nI _ + nI 3 = _
  rw [nI_add]; rfl
theorem xS_p4 (i : Nat) : nI (xS i 0) + (4 : Int32) = nI (xS i 4) := by
  show nI _ + nI 4 = _
  rw [nI_add]; rfl
theorem xS_p5 (i : Nat) : nI (xS i 0) + (5 : Int32) = nI (xS i 5) := by
  show nI _ + nI 5 = _
  rw [nI_add]; rfl
theorem xS_p6 (i : Nat) : nI (xS i 0) + (6 : Int32) = nI (xS i 6) := by
  show nI _ + nI 6 = _
  rw [nI_add]; rfl
theorem xS_p7 (i : Nat) : nI (xS i 0) + (7 : Int32) = nI (xS i 7) := by
  show nI _ + nI 7 = _
  rw [nI_add]; rfl
theorem xS_p8 (i : Nat) : nI (xS i 0) + (8 : Int32) = nI (xS i 8) := by
  show nI _ + nI 8 = _
  rw [nI_add]; rfl
theorem xS_p9 (i : Nat) : nI (xS i 0) + (9 : Int32) = nI (xS i 9) := by
  show nI _ + nI 9 = _
  rw [nI_add]; rfl
theorem xS_p10 (i : Nat) : nI (xS i 0) + (10 : Int32) = nI (xS i 10) := by
  show nI _ + nI 10 = _
  rw [nI_add]; rfl
theorem xS_p11 (i : Nat) : nI (xS i 0) + (11 : Int32) = nI (xS i 11) := by
  show nI _ + nI 11 = _
  rw [nI_add]; rfl
theorem xS_p12 (i : Nat) : nI (xS i 0) + (12 : Int32) = nI (xS i 12) := by
  show nI _ + nI 12 = _
  rw [nI_add]; rfl
theorem xS_p13 (i : Nat) : nI (xS i 0) + (13 : Int32) = nI (xS i 13) := by
  show nI _ + nI 13 = _
  rw [nI_add]; rfl
theorem xM_p0 (i : Nat) : nI (xM i 0) + (0 : Int32) = nI (xM i 0) := by
  show nI _ + nI 0 = _
  rw [nI_add]; rfl
theorem xM_p1 (i : Nat) : nI (xM i 0) + (1 : Int32) = nI (xM i 1) := by
  show nI _ + nI 1 = _
  rw [nI_add]; rfl
theorem xM_p2 (i : Nat) : nI (xM i 0) + (2 : Int32) = nI (xM i 2) := by
  show nI _ + nI 2 = _
  rw [nI_add]; rfl
theorem xM_p3 (i : Nat) : nI (xM i 0) + (3 : Int32) = nI (xM i 3) := by
  show nI _ + nI 3 = _
  rw [nI_add]; rfl
theorem xM_p4 (i : Nat) : nI (xM i 0) + (4 : Int32) = nI (xM i 4) := by
  show nI _ + nI 4 = _
  rw [nI_add]; rfl
theorem xL_p0 (i : Nat) : nI (xL i 0) + (0 : Int32) = nI (xL i 0) := by
  show nI _ + nI 0 = _
  rw [nI_add]; rfl
theorem xL_p1 (i : Nat) : nI (xL i 0) + (1 : Int32) = nI (xL i 1) := by
  show nI _ + nI 1 = _
  rw [nI_add]; rfl
theorem xL_p2 (i : Nat) : nI (xL i 0) + (2 : Int32) = nI (xL i 2) := by
  show nI _ + nI 2 = _
  rw [nI_add]; rfl
theorem xL_p3 (i : Nat) : nI (xL i 0) + (3 : Int32) = nI (xL i 3) := by
  show nI _ + nI 3 = _
  rw [nI_add]; rfl
theorem xL_p4 (i : Nat) : nI (xL i 0) + (4 : Int32) = nI (xL i 4) := by
  show nI _ + nI 4 = _
  rw [nI_add]; rfl
theorem xL_p5 (i : Nat) : nI (xL i 0) + (5 : Int32) = nI (xL i 5) := by
  show nI _ + nI 5 = _
  rw [nI_add]; rfl
theorem xR_p0 (i : Nat) : nI (xR i 0) + (0 : Int32) = nI (xR i 0) := by
  show nI _ + nI 0 = _
  rw [nI_add]; rfl
theorem xR_p1 (i : Nat) : nI (xR i 0) + (1 : Int32) = nI (xR i 1) := by
  show nI _ + nI 1 = _
  rw [nI_add]; rfl
theorem xR_p2 (i : Nat) : nI (xR i 0) + (2 : Int32) = nI (xR i 2) := by
  show nI _ + nI 2 = _
  rw [nI_add]; rfl
theorem xR_p3 (i : Nat) : nI (xR i 0) + (3 : Int32) = nI (xR i 3) := by
  show nI _ + nI 3 = _
  rw [nI_add]; rfl
theorem xR_p4 (i : Nat) : nI (xR i 0) + (4 : Int32) = nI (xR i 4) := by
  show nI _ + nI 4 = _
  rw [nI_add]; rfl
theorem xR_p5 (i : Nat) : nI (xR i 0) + (5 : Int32) = nI (xR i 5) := by
  show nI _ + nI 5 = _
  rw [nI_add]; rfl
theorem xR_p6 (i : Nat) : nI (xR i 0) + (6 : Int32) = nI (xR i 6) := by
  show nI _ + nI 6 = _
  rw [nI_add]; rfl

