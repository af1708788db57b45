/-! LEVEL 2: a sender goes on, in the reference -/
def finL (g : NW) (k n : Nat) : NW := fun c i q => if c = 1 ∧ i = k ∧ 8 ≤ q ∧ q < 8 + n then g 1 k (q + 1) else g c i q
def finG (g : NW) (k : Nat) : NW := up3 (up3 (finL (up3 g 1 k 4 0) k 5) 1 k 3 (g 1 k 3 - 1)) 7 0 0 (g 7 0 0 + 1)
theorem xS_q (k j : Nat) : nI (xS k 8) + nI j = nI (xS k (8 + j)) := by rw [nI_add, show xS k 8 + j = xS k (8 + j) from Nat.add_assoc _ _ _]
theorem xS_qs (k j : Nat) : xS k (8 + j) + 1 = xS k (8 + (j + 1)) := rfl
theorem finL_up (g : NW) (k n : Nat) : up3 (finL g k n) 1 k (8 + n) (g 1 k (8 + (n + 1))) = finL g k (n + 1) := by
  funext c i q
  simp only [up3, finL]
  by_cases h : c = 1 ∧ i = k
  · obtain ⟨rfl, rfl⟩ := h
    by_cases hq : q = 8 + n
    · subst hq
      simp
      rfl
    · have : (8 ≤ q ∧ q < 8 + n) = (8 ≤ q ∧ q < 8 + (n + 1)) := propext ⟨fun h => by omega, fun h => by omega⟩
      simp only [hq, and_false, if_false, true_and, this]
  · rw [if_neg (fun e => h ⟨e.1, e.2.1⟩), if_neg (fun e => h ⟨e.1, e.2.1⟩), if_neg (fun e => h ⟨e.1, e.2.1⟩)]
def advG (g : NW) (k : Nat) : NW := if g 1 k 6 + 1 = 17 then (if g 1 k 5 + 1 < g 6 0 3 then up3 (up3 g 1 k 6 0) 1 k 5 (g 1 k 5 + 1) else finG (up3 (up3 g 1 k 6 0) 1 k 5 (g 1 k 5 + 1)) k) else up3 g 1 k 6 (g 1 k 6 + 1)
/-- disturbed: it gives way -/
def dstG (g : NW) (k : Nat) : NW := up3 (up3 (up3 g 1 k 4 0) 1 k 7 (3 + 2 * nI k)) 7 0 1 (g 7 0 1 + 1)
abbrev isD (g : NW) (h : Nat → Int32) (k : Nat) : Prop := ¬ 14 ≤ g 1 k 6 ∧ bitG g k = 0 ∧ h (g 1 k 1).toNatClampNeg = 1
def mov1 (h : Nat → Int32) (g : NW) (k : Nat) : NW := if spk g k then (if isD g h k then dstG g k else advG g k) else g
def movN (h : Nat → Int32) (g : NW) : Nat → NW
  | 0 => g
  | k + 1 => mov1 h (movN h g k) k
section REF4
variable {σ : SG} {M : Nat} {r : Nat → Nat → Int32} {g : NW}
end REF4
/-! what a move leaves -/
theorem finL_o (g : NW) (k n : Nat) {c i j : Nat} (h : ¬ (c = 1 ∧ i = k)) : finL g k n c i j = g c i j := by
  simp only [finL]
  rw [if_neg (fun e => h ⟨e.1, e.2.1⟩)]
theorem up3_o {w : NW} {c i j c' i' j' : Nat} {v : Int32} (h : ¬ (c' = c ∧ i' = i)) : up3 w c i j v c' i' j' = w c' i' j' := by
  simp only [up3]
  rw [if_neg (fun e => h ⟨e.1, e.2.1⟩)]
theorem finG_o (g : NW) (k : Nat) {c i j : Nat} (h : ¬ (c = 1 ∧ i = k)) (h7 : c ≠ 7) : finG g k c i j = g c i j := by
  unfold finG
  rw [up3_c h7, up3_o h, finL_o _ _ _ h, up3_o h]
theorem advG_o (g : NW) (k : Nat) {c i j : Nat} (h : ¬ (c = 1 ∧ i = k)) (h7 : c ≠ 7) : advG g k c i j = g c i j := by
  unfold advG
  split
  · split
    · rw [up3_o h, up3_o h]
    · rw [finG_o _ _ h h7, up3_o h, up3_o h]
  · rw [up3_o h]
theorem dstG_o (g : NW) (k : Nat) {c i j : Nat} (h : ¬ (c = 1 ∧ i = k)) (h7 : c ≠ 7) : dstG g k c i j = g c i j := by
  unfold dstG
  rw [up3_c h7, up3_o h, up3_o h]
theorem mov1_o (h : Nat → Int32) (g : NW) (k : Nat) {c i j : Nat} (ho : ¬ (c = 1 ∧ i = k)) (h7 : c ≠ 7) : mov1 h g k c i j = g c i j := by
  unfold mov1
  split
  · split
    · exact dstG_o _ _ ho h7
    · exact advG_o _ _ ho h7
  · rfl
theorem movN_s (h : Nat → Int32) (g : NW) : ∀ (n k j : Nat), n ≤ k → movN h g n 1 k j = g 1 k j := by
  intro n
  induction n with
  | zero => intro k j _; rfl
  | succ n ih => intro k j hk; rw [show movN h g (n + 1) = mov1 h (movN h g n) n from rfl, mov1_o _ _ _ (by omega) (by decide)]; exact ih k j (by omega)
theorem movN_c (h : Nat → Int32) (g : NW) {c : Nat} (h1 : c ≠ 1) (h7 : c ≠ 7) : ∀ (n i j : Nat), movN h g n c i j = g c i j := by
  intro n
  induction n with
  | zero => intro i j; rfl
  | succ n ih => intro i j; rw [show movN h g (n + 1) = mov1 h (movN h g n) n from rfl, mov1_o _ _ _ (fun e => h1 e.1) h7]; exact ih i j
section REF5
variable {σ : SG} {M : Nat} {r : Nat → Nat → Int32} {g : NW}
end REF5

