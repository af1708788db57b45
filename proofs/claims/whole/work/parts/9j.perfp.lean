/-! LEVEL 2: perform: both sides -/
section PPF
variable {z0 : Nat} {σ : SG}
theorem P_perform (H : GR z0 σ) : Pair z0 σ (m_X8_perform (some z0)) (m_X9_perform (some (z0 + 257))) := by
  obtain ⟨W, P, kp, h, tl, tx, r, g, H, O⟩ := H
  obtain ⟨T, hT, hX⟩ := txt_T O.2.2.2.2
  have hL := hT.1
  have ec := c_ff H hT
  have qf : ∀ τ : SG, ∃ r', TK r' r ∧ ((∃ p', p' ≤ tl ∧ m_X9_faultOf (some (z0 + 257)) (ovs τ (z0 + 257) r g) = some (nI p', ovs τ (z0 + 257) r' g) ∧ FA T tl 0 0 = some p') ∨ ∃ os, m_X9_faultOf (some (z0 + 257)) (ovs τ (z0 + 257) r g) = some (-1, ovs τ (z0 + 257) r' g) ∧ FA T tl 0 0 = none ∧ PS r' tl T tl os ∧ (∀ o ∈ os, GO o) ∧ ∀ sp, SC T tl 0 sp = os) := fun τ => q_faultOf (σ := τ) (M := z0 + 257) (g := g) hX
  cases hF : FA T tl 0 0 with
  | some p =>
    obtain ⟨r', k, hr⟩ := qf σ
    rcases hr with ⟨p', x1, x2, x3⟩ | ⟨os, x1, x2, -⟩
    · rw [hF] at x3
      have e := Option.some.inj x3
      subst e
      have em : m_X9_perform (some (z0 + 257)) (ovs σ (z0 + 257) r g) = some ((-100) - nI p, ovs σ (z0 + 257) r' g) := by
        unfold m_X9_perform
        simp only [ob_s, x2, Option.bind_some, bnd_some]
        rw [if_neg (nI_pos (by omega))]
      rw [H.meq] at em
      refine ⟨(-100) - nI p, σ, _, ?_, em, H.oM, W, P, kp, h, tl, tx, r', g, H.upM _ _, O.tk k⟩
      unfold m_X8_perform
      simp only [H.g5, H.oS, ec, hF, Option.bind_some, bnd_some]
      rw [if_neg (show ¬ ffI (some p) = -5 from fun e => (nI_pos (n := p) (by omega)) (by rw [show nI p = -5 from e]; decide))]
      rfl
    · rw [hF] at x2
      exact absurd x2 (by simp)
  | none =>
    obtain ⟨r9, k9, hr9⟩ := qf σ
    obtain ⟨os, -, -, P9, hGO, hSC⟩ : ∃ os, m_X9_faultOf (some (z0 + 257)) (ovs σ (z0 + 257) r g) = some (-1, ovs σ (z0 + 257) r9 g) ∧ FA T tl 0 0 = none ∧ PS r9 tl T tl os ∧ (∀ o ∈ os, GO o) ∧ ∀ sp, SC T tl 0 sp = os := by
      rcases hr9 with ⟨p', x1, x2, x3⟩ | x
      · rw [hF] at x3
        exact absurd x3 (by simp)
      · exact x
    obtain ⟨σ1, W1, P1, ek, H1, K, hR1⟩ := g_keep H O
    obtain ⟨σ2, w2, n, g2, y1, H2, y3, y4, y5⟩ := c_perfL hT tl 0 (by omega) 1000 (by omega) σ1 W1 g (-1) 0 H1 hR1 O.2.1 (by rw [hSC]; exact hGO)
    rw [← nI0, Nat.zero_add] at y1
    rw [hSC] at y5
    obtain ⟨r', k, hr⟩ := qf σ2
    rcases hr with ⟨p', x1, x2, x3⟩ | ⟨os2, x1, x2, Q, -, hSC2⟩
    · rw [hF] at x3
      exact absurd x3 (by simp)
    have eo : os2 = os := (hSC2 0).symm.trans (hSC 0)
    subst eo
    have hc : ∀ q j, q ≠ 2 → rcp r' 2 0 (flat g) q j = r' q j := fun q j hq => if_neg (fun e => hq e.1)
    obtain ⟨r4, k4, e4⟩ := q_perfL (σ := σ2) (M := z0 + 257) os2 os2 0 1000 g g2 n (rcp r' 2 0 (flat g)) y5 O.2.1 (by have := Q.2.2.2.2.1; omega) (by omega) (fun j => by rw [Nat.zero_add]) ((hc _ _ (by decide)).trans Q.2.2.2.1) (fun j o ho => by
      rw [hc _ _ (by decide), hc _ _ (by decide)]
      exact Q.2.2.2.2.2 j o ho) (by have := Q.2.2.2.2.1; omega)
    rw [← nI0, Nat.zero_add] at e4
    have O' := O.tk k
    have h12 : r4 0 12 = nI kp := by
      rw [k4 0 12 (by decide) (by decide) (by decide), hc _ _ (by decide)]
      exact O'.2.2.1.2.2.1
    have em : m_X9_perform (some (z0 + 257)) (ovs σ2 (z0 + 257) r g) = some (nI n, ovs σ2 (z0 + 257) (recR r4 kp) g2) := by
      unfold m_X9_perform
      simp only [ob_s, x1, Option.bind_some, bnd_some]
      rw [if_pos (by decide)]
      simp only [ob_s, q_hold, Option.bind_some, bnd_some]
      rw [e4]
      unfold m_X9_perform_b114
      simp only [ob_s, q_recorded O.2.2.1.2.1 h12, Option.bind_some, bnd_some]
    rw [H2.meq] at em
    refine ⟨nI n, σ2, _, ?_, em, H2.oM, _, P1, _, h, tl, tx, _, g2, H2.upM _ _, g_rec O' K y3 y4 k4⟩
    unfold m_X8_perform
    simp only [H.g5, H.oS, ec, hF, Option.bind_some, bnd_some]
    rw [if_pos (show ffI none = -5 from rfl)]
    simp only [H.g4, H.g0, H.oH, ek, Option.bind_some, bnd_some]
    exact y1
end PPF
