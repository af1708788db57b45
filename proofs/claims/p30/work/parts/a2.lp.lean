/-! LEVEL 2: beats in a row -/
section LPS
variable {σ : SG} {g : NW}
def itb : Nat → NW → NW
  | 0, g => g
  | d + 1, g => itb d (beatG g)
theorem Inv_itb : ∀ (d : Nat) (g : NW), Inv g → Inv (itb d g)
  | 0, _, h => h
  | d + 1, _, h => Inv_itb d _ (Inv_beat h)
theorem c_letPassL {n N : Nat} (hN : N < 1000) : ∀ (d k : Nat), k + d = N → ∀ (F : Nat), d < F → ∀ (g w : NW) (acc : Int32), Rel g w → Inv g → ∃ w' t, m_X3_letPass_L4 F (some n) (nI N) acc (nI k) (ovr σ n w) = some (acc + t, ovr σ n w') ∧ Rel (itb d g) w' ∧ itb d g 7 0 2 = g 7 0 2 + t := by
  intro d
  induction d with
  | zero =>
    intro k hk F hF g w acc hR hI
    obtain ⟨F, rfl⟩ : ∃ m, F = m + 1 := ⟨F - 1, by omega⟩
    rw [show m_X3_letPass_L4 (F + 1) = m_X3_letPass_B4 (m_X3_letPass_L4 F) from rfl]
    unfold m_X3_letPass_B4
    rw [if_pos (nI_le (by omega) (by omega))]
    exact ⟨w, 0, by rw [Int32.add_zero], hR, (Int32.add_zero _).symm⟩
  | succ d ih =>
    intro k hk F hF g w acc hR hI
    obtain ⟨F, rfl⟩ : ∃ m, F = m + 1 := ⟨F - 1, by omega⟩
    rw [show m_X3_letPass_L4 (F + 1) = m_X3_letPass_B4 (m_X3_letPass_L4 F) from rfl]
    unfold m_X3_letPass_B4
    obtain ⟨w1, e, h1, h2, h3⟩ := c_beat (σ := σ) (n := n) hR hI
    obtain ⟨w', t, e1, h4, h5⟩ := ih (k + 1) (by omega) F (by omega) (beatG g) w1 (acc + e) h2 (Inv_beat hI)
    rw [if_neg (nI_ge (by omega) (by omega))]
    simp only [ob_net, h1, bnd_some, Option.bind_some, ← nI_succ, e1]
    exact ⟨w', e + t, by rw [Int32.add_assoc], h4, by rw [show itb (d + 1) g = itb d (beatG g) from rfl, h5, h3, Int32.add_assoc]⟩
theorem c_letPass {n N : Nat} (hN : N < 1000) {w : NW} (hR : Rel g w) (hI : Inv g) : ∃ w' t, m_X3_letPass (some n) (nI N) (ovr σ n w) = some (t, ovr σ n w') ∧ Rel (itb N g) w' ∧ itb N g 7 0 2 = g 7 0 2 + t := by
  obtain ⟨w', t, h1, h2⟩ := c_letPassL (σ := σ) (n := n) hN N 0 (by omega) 1000 hN g w 0 hR hI
  rw [← nI0, Int32.zero_add] at h1
  exact ⟨w', t, h1, h2⟩
end LPS
theorem snn (k : Nat) : ¬ (some k = none) := fun e => nomatch e
