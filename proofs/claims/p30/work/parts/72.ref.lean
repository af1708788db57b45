/-! LEVEL 2, third text: what the reference's methods do to its numbers g. Here: the small ones -/
theorem chk0 (σ : SG) : chkZ 0 σ = some (0, σ) := rfl
theorem chk1 (σ : SG) : chkZ 1 σ = some (1, σ) := rfl
theorem nI0 : (0 : Int32) = nI 0 := rfl
theorem three_ne : ¬ (3 : Int32) = 0 := by decide
theorem two_ne : ¬ (2 : Int32) = 0 := by decide
theorem one_ne : ¬ (1 : Int32) = 0 := by decide
section REF1
variable {σ : SG} {M : Nat} {r : Nat → Nat → Int32} {g : NW}
/-- is a thing there: 1 or 0 -/
def thr (v : Int32) : Int32 := if v = 1 then 1 else 0
/-- the loss between wires -/
def lossG (g : NW) (a b : Int32) : Int32 := (if a - a / 3 * 3 = b - b / 3 * 3 then 0 else g 6 0 0) + (if a / 3 = b / 3 then 0 else g 6 0 1)
/-- a bit of a word's frame -/
def frm (w x : Int32) : Int32 := if 4 ≤ x then (if x - x / 2 * 2 = 0 then (w >>> ((4 - (x - 4) / 2) &&& 31)) &&& 1 else 1 - ((w >>> ((4 - (x - 4) / 2) &&& 31)) &&& 1)) else if 3 ≤ x then 0 else 1
def bitG (g : NW) (i : Nat) : Int32 := if 14 ≤ g 1 i 6 then 0 else frm (g 1 i 8) (g 1 i 6)
/-- what a 1 of this strength on the wire a makes of what is heard -/
def snd1 (g : NW) (h : Nat → Int32) (a s : Int32) : Nat → Int32 := fun k => if s - lossG g a (nI k) < g 6 0 2 then h k else 1
/-- the row 6 of the reference's, what is heard -/
def rw6 (r : Nat → Nat → Int32) (h : Nat → Int32) : Nat → Nat → Int32 := fun k j => if k = 6 ∧ j < 6 then h j else r k j
end REF1

