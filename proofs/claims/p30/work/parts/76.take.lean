/-! LEVEL 2: receivers and lamps, in the reference -/
abbrev isOfG (g : NW) (k : Nat) (a l : Int32) : Prop := g 3 k 0 = 1 ∧ g 3 k 1 = a ∧ g 3 k 2 = l
def lvl (c v : Int32) : Int32 := if c = 4 then 9 else if c = 5 then 0 else if 9 ≤ v then 9 else v + 1
def lmp1 (g : NW) (a l c f : Int32) (k : Nat) : NW := if isOfG g k a l then (if 4 ≤ c then (if c = 7 then up3 g 3 k 4 0 else if g 3 k 5 = 1 then up3 g 3 k 4 (lvl c (g 3 k 4)) else g) else up3 g 3 k 5 (if g 3 k 3 = c then 1 else if f = 0 then g 3 k 5 else 0)) else g
def lmpN (g : NW) (a l c f : Int32) : Nat → NW
  | 0 => g
  | k + 1 => lmp1 (lmpN g a l c f k) a l c f k
def opnV (o l c : Int32) : Int32 := if 4 ≤ c then o &&& ((15 : Int32) - ((1 : Int32) <<< (l &&& 31))) else (o &&& ((15 : Int32) - ((1 : Int32) <<< (l &&& 31)))) ||| ((1 : Int32) <<< (l &&& 31))
def frsh (o l c : Int32) : Int32 := if 4 ≤ c then 0 else if ((o >>> (l &&& 31)) &&& 1) = 0 then 1 else 0
def actG (g : NW) (a : Nat) (w : Int32) : NW := up3 (lmpN g (nI a) (w / 8) (w - w / 8 * 8) (frsh (g 4 a 6) (w / 8) (w - w / 8 * 8)) 8) 4 a 6 (opnV (g 4 a 6) (w / 8) (w - w / 8 * 8))
def telG (g : NW) (a : Nat) (w : Int32) : NW := if g 4 a 4 = w + 1 ∧ ¬ 17 < g 0 0 0 - g 4 a 5 then up3 (up3 g 7 0 3 (g 7 0 3 + 1)) 4 a 5 (g 0 0 0) else up3 (actG (up3 (up3 g 7 0 2 (g 7 0 2 + 1)) 4 a 4 (w + 1)) a w) 4 a 5 (g 0 0 0)
def lisG (g : NW) (a : Nat) : NW := up3 (up3 (up3 (up3 g 4 a 0 0) 4 a 1 0) 4 a 2 0) 4 a 3 0
/-- the word of ten bits -/
def wrd (b : Int32) : Nat → Int32
  | 0 => 0
  | k + 1 => 2 * wrd b k + ((b >>> ((9 - 2 * nI k) &&& 31)) &&& 1)
def tak1 (h : Nat → Int32) (g : NW) (a : Nat) : NW :=
  if g 4 a 0 = 0 then up3 (up3 g 4 a 1 (g 4 a 1 * 2 - g 4 a 1 * 2 / 16 * 16 + h a)) 4 a 0 (if g 4 a 1 * 2 - g 4 a 1 * 2 / 16 * 16 + h a = 14 then 1 else 0)
  else if (g 4 a 2 + 1) - (g 4 a 2 + 1) / 2 * 2 = 0 ∧ ((2 * g 4 a 3 + h a) - (2 * g 4 a 3 + h a) / 4 * 4 = 0 ∨ (2 * g 4 a 3 + h a) - (2 * g 4 a 3 + h a) / 4 * 4 = 3) then lisG (up3 (up3 (up3 g 4 a 2 (g 4 a 2 + 1)) 4 a 3 (2 * g 4 a 3 + h a)) 7 0 4 (g 7 0 4 + 1)) a
  else if g 4 a 2 + 1 = 10 then lisG (telG (up3 (up3 g 4 a 2 (g 4 a 2 + 1)) 4 a 3 (2 * g 4 a 3 + h a)) a (wrd (2 * g 4 a 3 + h a) 5)) a
  else up3 (up3 g 4 a 2 (g 4 a 2 + 1)) 4 a 3 (2 * g 4 a 3 + h a)
def takN (h : Nat → Int32) (g : NW) : Nat → NW
  | 0 => g
  | k + 1 => tak1 h (takN h g k) k
/-- a beat -/
def beatG (g : NW) : NW := up3 (takN (hear (bgn g)) (movN (hear (bgn g)) (bgn g) 5) 6) 0 0 0 (takN (hear (bgn g)) (movN (hear (bgn g)) (bgn g) 5) 6 0 0 0 + 1)
theorem eight_ne : ¬ (8 : Int32) = 0 := by decide
theorem sixteen_ne : ¬ (16 : Int32) = 0 := by decide
theorem four_ne : ¬ (4 : Int32) = 0 := by decide
section REF6
variable {σ : SG} {M : Nat} {r : Nat → Nat → Int32} {g : NW}
theorem lmpN_o (g : NW) (a l c f : Int32) {c' i j : Nat} (h : c' ≠ 3) : ∀ n, lmpN g a l c f n c' i j = g c' i j := by
  intro n
  induction n with
  | zero => rfl
  | succ n ih =>
    rw [show lmpN g a l c f (n + 1) = lmp1 (lmpN g a l c f n) a l c f n from rfl]
    unfold lmp1
    split
    · split
      · split
        · rw [up3_c h]; exact ih
        · split
          · rw [up3_c h]; exact ih
          · exact ih
      · rw [up3_c h]; exact ih
    · exact ih
theorem bgn_c (g : NW) {c i j : Nat} (h : c ≠ 1) : bgn g c i j = g c i j := by simp [bgn, bgnQ, bgnP, h]
theorem bgn_f (g : NW) {i j : Nat} (h : j ≠ 4) (h5 : j ≠ 5) (h6 : j ≠ 6) (h7 : j ≠ 7) : bgn g 1 i j = g 1 i j := by simp [bgn, bgnQ, bgnP, h, h5, h6, h7]
end REF6

