/-! LEVEL 2: what is sent and heard, in the reference -/
abbrev spk (g : NW) (i : Nat) : Prop := g 1 i 0 = 1 ∧ g 1 i 4 = 1
abbrev nois (g : NW) (i : Nat) : Prop := g 2 i 0 = 1 ∧ g 2 i 4 = 1 ∧ g 0 0 0 - g 0 0 0 / g 2 i 3 * g 2 i 3 = 0
def hrS (g : NW) : Nat → Nat → Int32
  | 0 => fun _ => 0
  | k + 1 => if spk g k ∧ bitG g k = 1 then snd1 g (hrS g k) (g 1 k 1) (g 1 k 2) else hrS g k
def hrM (g : NW) : Nat → Nat → Int32
  | 0 => hrS g 5
  | k + 1 => if nois g k then snd1 g (hrM g k) (g 2 k 1) (g 2 k 2) else hrM g k
def hear (g : NW) : Nat → Int32 := hrM g 4
/-- the bits that the senders send -/
def btsG (g : NW) (j : Nat) : Int32 := if spk g j then bitG g j else 0
def bts (g : NW) (k : Nat) (r : Nat → Nat → Int32) : Nat → Int32 := fun j => if j < k then btsG g j else r 7 j
def rws (r : Nat → Nat → Int32) (h b : Nat → Int32) : Nat → Nat → Int32 := fun k j => if k = 6 ∧ j < 6 then h j else if k = 7 ∧ j < 5 then b j else r k j
theorem rws_6 (r : Nat → Nat → Int32) (h b : Nat → Int32) {j : Nat} (hj : j < 6) : rws r h b 6 j = h j := by simp [rws, hj]
theorem rws_7 (r : Nat → Nat → Int32) (h b : Nat → Int32) {j : Nat} (hj : j < 5) : rws r h b 7 j = b j := by simp [rws, hj]
theorem rws_o (r : Nat → Nat → Int32) (h b : Nat → Int32) {k j : Nat} (h6 : k ≠ 6) (h7 : k ≠ 7) : rws r h b k j = r k j := by simp [rws, h6, h7]
theorem xS_s1 (i : Nat) : xS i 0 + 1 = xS i 1 := rfl
theorem xM_s1 (i : Nat) : xM i 0 + 1 = xM i 1 := rfl
theorem xL_s1 (i : Nat) : xL i 0 + 1 = xL i 1 := rfl
theorem xR_s1 (i : Nat) : xR i 0 + 1 = xR i 1 := rfl
theorem up2_eq (r : Nat → Nat → Int32) (k j : Nat) (v : Int32) : up2 r k j v k j = v := by simp [up2]
section REF2
variable {σ : SG} {M : Nat} {r : Nat → Nat → Int32} {g : NW}
end REF2

