/-! LEVEL 2: the class's history -/
def PermP (P : Nat → Nat) : Prop := (∀ i, i < 4 → 3 ≤ P i ∧ P i < 7) ∧ ∀ i, i < 4 → ∀ j, j < 4 → P i = P j → i = j
/-- the same numbers where a Net has them -/
def Same (g' g : NW) : Prop := ∀ c i j, okN c i j → g' c i j = g c i j
theorem Same.refl (g : NW) : Same g g := fun _ _ _ _ => rfl
section HIST
variable {z0 : Nat} {σ : SG} {W : Nat → NW} {P : Nat → Nat} {kp : Nat} {h : Int32}
theorem c_cp (H : HS z0 σ W P kp h) {a b : Nat} (ha : a < 7) (hb : b < 7) (hab : a ≠ b) {g0 : NW} (hR : Rel g0 (W a)) (hI : Inv g0) : ∃ σ' w', m_X3_copyFrom (some (NA z0 b)) (some (NA z0 a)) σ = some ((), σ') ∧ HS z0 σ' (upW W b w') P kp h ∧ ∃ g1, Same g1 g0 ∧ Rel g1 w' := by
  have hA : ∀ w, ovr (ovr σ (NA z0 b) w) (NA z0 a) (W a) = ovr σ (NA z0 b) w := fun w => by
    have := (H.upN hb w).neq ha
    rwa [upW_ne _ _ hab] at this
  obtain ⟨w', e, -, hd⟩ := c_copyNet hA (Rel_BB hR hI) (W b)
  rw [H.neq hb] at e
  exact ⟨_, w', e, H.upN hb w', hd.rel hR⟩
theorem c_keep16 (H : HS z0 σ W P kp h) (hP : PermP P) (hk : kp < 4) {g0 : NW} (hR : Rel g0 (W 0)) (hI : Inv g0) : ∃ σ' w', m_X0_keep_b16 (some (z0 + 109)) (some (NA z0 0)) σ = some ((), σ') ∧ HS z0 σ' (upW W (P kp) w') P (kp + 1) h ∧ ∃ g1, Same g1 g0 ∧ Rel g1 w' := by
  have hp := hP.1 kp hk
  obtain ⟨σ1, w', e1, H1, hg⟩ := c_cp H (a := 0) (b := P kp) (by decide) hp.2 (by omega) hR hI
  obtain ⟨σ2, e2, H2⟩ := H1.pk (kp + 1)
  refine ⟨σ2, w', ?_, H2, hg⟩
  unfold m_X0_keep_b16
  simp only [H.k1, H.k0, H.kl, H.ka hk, H.oN hp.2, e1, H1.k1, ← nI_succ, e2, Option.bind_some, bnd_some]
  rw [if_neg (show ¬ nI kp < 0 from nI_nlt (a := kp) (b := 0) (by omega) (by omega)), if_neg (show ¬ (4 : Int32) ≤ nI kp from nI_ge (b := 4) (by omega) (by decide))]
theorem c_dropOld (H : HS z0 σ W P kp h) (hP : PermP P) (hk : kp = 4) : ∃ σ' P', m_X0_dropOldest (some (z0 + 109)) σ = some ((), σ') ∧ HS z0 σ' W P' 3 h ∧ PermP P' ∧ P' 0 = P 1 ∧ P' 1 = P 2 ∧ P' 2 = P 3 := by
  obtain ⟨σ1, e1, H1⟩ := H.pa (i := 0) (p := P 1) (by decide) (hP.1 1 (by decide)).2
  obtain ⟨σ2, e2, H2⟩ := H1.pa (i := 1) (p := P 2) (by decide) (hP.1 2 (by decide)).2
  obtain ⟨σ3, e3, H3⟩ := H2.pa (i := 2) (p := P 3) (by decide) (hP.1 3 (by decide)).2
  obtain ⟨σ4, e4, H4⟩ := H3.pa (i := 3) (p := P 0) (by decide) (hP.1 0 (by decide)).2
  obtain ⟨σ5, e5, H5⟩ := H4.pk 3
  refine ⟨σ5, _, ?_, H5, ⟨fun i hi => ?_, fun i hi j hj => ?_⟩, rfl, rfl, rfl⟩
  · unfold m_X0_dropOldest
    rw [show m_X0_dropOldest_L9 1000 = m_X0_dropOldest_B9 (m_X0_dropOldest_B9 (m_X0_dropOldest_B9 (m_X0_dropOldest_B9 (m_X0_dropOldest_L9 996)))) from rfl]
    have a0 : sAldR (some (z0 + 110)) 0 σ = some (some (NA z0 (P 0))) := H.ka (i := 0) (by decide)
    have a1 : sAldR (some (z0 + 110)) 1 σ = some (some (NA z0 (P 1))) := H.ka (i := 1) (by decide)
    have a2 : sAldR (some (z0 + 110)) 2 σ1 = some (some (NA z0 (P 2))) := H1.ka (i := 2) (by decide)
    have a3 : sAldR (some (z0 + 110)) 3 σ2 = some (some (NA z0 (P 3))) := H2.ka (i := 3) (by decide)
    have b1 : sAstR (some (z0 + 110)) (1 - 1) (some (NA z0 (P 1))) σ = some σ1 := e1
    have b2 : sAstR (some (z0 + 110)) (2 - 1) (some (NA z0 (P 2))) σ1 = some σ2 := e2
    have b3 : sAstR (some (z0 + 110)) (3 - 1) (some (NA z0 (P 3))) σ2 = some σ3 := e3
    have b4 : sAstR (some (z0 + 110)) (4 - 1) (some (NA z0 (P 0))) σ3 = some σ4 := e4
    have b5 : sPutI (some (z0 + 109)) 0 1 (nI 4 - 1) σ4 = some σ5 := e5
    subst hk
    have s1 : ((1 : Int32) + 1) = 2 := rfl
    have s2 : ((2 : Int32) + 1) = 3 := rfl
    have s3 : ((3 : Int32) + 1) = 4 := rfl
    simp only [H.k0, a0, Option.bind_some]
    unfold m_X0_dropOldest_B9
    simp only [H.k0, H.kl, a1, b1, s1, Option.bind_some]
    rw [if_neg (show ¬ (4 : Int32) ≤ 1 by decide)]
    simp only [H1.k0, H1.kl, a2, b2, s2, Option.bind_some]
    rw [if_neg (show ¬ (4 : Int32) ≤ 2 by decide)]
    simp only [H2.k0, H2.kl, a3, b3, s3, Option.bind_some]
    rw [if_neg (show ¬ (4 : Int32) ≤ 3 by decide)]
    simp only [H3.k0, H3.kl, b4, H4.k1, b5, Option.bind_some]
    rw [if_pos (show (4 : Int32) ≤ 4 by decide)]
  · have : i = 0 ∨ i = 1 ∨ i = 2 ∨ i = 3 := by omega
    rcases this with rfl | rfl | rfl | rfl
    · exact hP.1 1 (by decide)
    · exact hP.1 2 (by decide)
    · exact hP.1 3 (by decide)
    · exact hP.1 0 (by decide)
  · have hq : ∀ u v, u < 4 → v < 4 → P u = P v → u = v := fun u v hu hv => hP.2 u hu v hv
    have h1 : i = 0 ∨ i = 1 ∨ i = 2 ∨ i = 3 := by omega
    have h2 : j = 0 ∨ j = 1 ∨ j = 2 ∨ j = 3 := by omega
    rcases h1 with rfl | rfl | rfl | rfl <;> rcases h2 with rfl | rfl | rfl | rfl <;> intro e <;> first
      | rfl
      | exact absurd (hq 1 2 (by decide) (by decide) e) (by decide)
      | exact absurd (hq 1 3 (by decide) (by decide) e) (by decide)
      | exact absurd (hq 1 0 (by decide) (by decide) e) (by decide)
      | exact absurd (hq 2 1 (by decide) (by decide) e) (by decide)
      | exact absurd (hq 2 3 (by decide) (by decide) e) (by decide)
      | exact absurd (hq 2 0 (by decide) (by decide) e) (by decide)
      | exact absurd (hq 3 1 (by decide) (by decide) e) (by decide)
      | exact absurd (hq 3 2 (by decide) (by decide) e) (by decide)
      | exact absurd (hq 3 0 (by decide) (by decide) e) (by decide)
      | exact absurd (hq 0 1 (by decide) (by decide) e) (by decide)
      | exact absurd (hq 0 2 (by decide) (by decide) e) (by decide)
      | exact absurd (hq 0 3 (by decide) (by decide) e) (by decide)
/-- the present state is kept: the older ones stand where they stood, or one place before it -/
theorem c_keep (H : HS z0 σ W P kp h) (hP : PermP P) (hk : kp ≤ 4) {g0 : NW} (hR : Rel g0 (W 0)) (hI : Inv g0) : ∃ σ' W' P', m_X0_keep (some (z0 + 109)) (some (NA z0 0)) σ = some ((), σ') ∧ HS z0 σ' W' P' (kp1 kp) h ∧ PermP P' ∧ (∀ i, i < 3 → W' i = W i) ∧ (∀ k, k + 1 < kp1 kp → W' (P' k) = W (P (sh1 kp k))) ∧ ∃ g1, Same g1 g0 ∧ Rel g1 (W' (P' (kp1 kp - 1))) := by
  by_cases h4 : kp = 4
  · obtain ⟨σ1, P1, e1, H1, hP1, p0, p1, p2⟩ := c_dropOld H hP h4
    obtain ⟨σ2, w', e2, H2, g1, hg, hR1⟩ := c_keep16 H1 hP1 (by decide) hR hI
    subst h4
    refine ⟨σ2, _, P1, ?_, H2, hP1, fun i hi => upW_ne _ _ ?_, fun k hk1 => ?_, g1, hg, ?_⟩
    · unfold m_X0_keep
      simp only [H.k1, H.k0, H.kl, H.oH, e1, e2, Option.bind_some, bnd_some]
      rw [if_neg (show ¬ nI 4 < 4 by decide)]
    · have := (hP1.1 3 (by decide)).1
      omega
    · have hk3 : k = 0 ∨ k = 1 ∨ k = 2 := by unfold kp1 at hk1; simp at hk1; omega
      rw [upW_ne _ _ (fun e => by have := hP1.2 k (by omega) 3 (by decide) e; omega)]
      rcases hk3 with rfl | rfl | rfl
      · rw [p0]; rfl
      · rw [p1]; rfl
      · rw [p2]; rfl
    · rw [show kp1 4 - 1 = 3 from rfl, upW_eq]; exact hR1
  · obtain ⟨σ2, w', e2, H2, g1, hg, hR1⟩ := c_keep16 H hP (by omega) hR hI
    have hkk : kp1 kp = kp + 1 := if_neg h4
    refine ⟨σ2, _, P, ?_, hkk ▸ H2, hP, fun i hi => upW_ne _ _ ?_, fun k hk1 => ?_, g1, hg, ?_⟩
    · unfold m_X0_keep
      simp only [H.k1, H.k0, H.kl, Option.bind_some]
      rw [if_pos (show nI kp < 4 from nI_lt (b := 4) (by omega) (by decide))]
      exact e2
    · have := (hP.1 kp (by omega)).1
      omega
    · rw [hkk] at hk1
      rw [upW_ne _ _ (fun e => by have := hP.2 k (by omega) kp (by omega) e; omega), show sh1 kp k = k from if_neg h4]
    · rw [hkk, show kp + 1 - 1 = kp from rfl, upW_eq]; exact hR1
/-- the latest state is taken back -/
theorem c_back (H : HS z0 σ W P (kp + 1) h) (hP : PermP P) (hk : kp < 4) {g0 : NW} (hR : Rel g0 (W (P kp))) (hI : Inv g0) : ∃ σ' w', m_X0_takeBack (some (z0 + 109)) (some (NA z0 0)) σ = some ((), σ') ∧ HS z0 σ' (upW W 0 w') P kp h ∧ ∃ g1, Same g1 g0 ∧ Rel g1 w' := by
  obtain ⟨σ1, e1, H1⟩ := H.pk kp
  have hp := hP.1 kp hk
  obtain ⟨σ2, w', e2, H2, hg⟩ := c_cp H1 (a := P kp) (b := 0) hp.2 (by decide) (by omega) hR hI
  refine ⟨σ2, w', ?_, H2, hg⟩
  unfold m_X0_takeBack
  simp only [H.k1, H.k0, H.kl, nI_pr, e1, H1.k0, H1.k1, H1.ka hk, H1.oN (show 0 < 7 by decide), e2, Option.bind_some, bnd_some]
  rw [if_neg (show ¬ nI (kp + 1) ≤ 0 from nI_ge (a := 0) (b := kp + 1) (by omega) (by omega)), if_neg (show ¬ (4 : Int32) < nI (kp + 1) from nI_nlt (a := 4) (b := kp + 1) (by omega) (by decide))]
end HIST
