/-! LEVEL 2: the text, seventh: perform of the class, and both -/
section PRC
variable {z0 : Nat} {P : Nat → Nat} {kp : Nat} {h : Int32} {L : Nat} {tx : Nat → Int32} {r0 : RW} {g0 : NW} {T : Nat → Nat}
theorem upW_upW (W : Nat → NW) (k : Nat) (w w' : NW) : upW (upW W k w) k w' = upW W k w' := by
  funext i
  unfold upW
  split <;> rfl
theorem upW_self (W : Nat → NW) (k : Nat) : upW W k (W k) = W := by
  funext i
  unfold upW
  split
  · rename_i e; rw [e]
  · rfl
theorem c_beatsB {σ : SG} {W : Nat → NW} (H : HS z0 σ W P kp h L tx r0 g0) (hT : SG1 T L tx) {i : Nat} (hi : i < 80) : m_X5_beatsBehind (some (z0 + 255)) (nI i) σ = some (btI T L i, σ) := by
  unfold m_X5_beatsBehind btI
  rw [show m_X5_beatsBehind_L4 1000 = m_X5_beatsBehind_B4 (m_X5_beatsBehind_B4 (m_X5_beatsBehind_B4 (m_X5_beatsBehind_L4 997))) from rfl]
  unfold m_X5_beatsBehind_B4
  have e1 : nI i + 1 = nI (i + 1) := (nI_succ i).symm
  have e2 : nI i + (1 + 1) = nI (i + 2) := by rw [show ((1 : Int32) + 1) = nI 2 from rfl, nI_add]
  simp only [H.oS, e1, e2, c_sign H hT (show i + 1 < 1000 by omega), c_sign H hT (show i + 2 < 1000 by omega), c_dg, Option.bind_some, bnd_some]
  rw [if_neg (show ¬ (2 : Int32) < 1 by decide), if_neg (show ¬ (2 : Int32) < 1 + 1 by decide), if_pos (show (2 : Int32) < 1 + 1 + 1 by decide)]
  split
  · rfl
  · split <;> rfl
end PRC
