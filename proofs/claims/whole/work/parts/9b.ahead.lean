/-! LEVEL 2: what would be: silentIn, levelIn; freshness -/
section AHD
variable {z0 : Nat} {σ : SG} {W : Nat → NW} {P : Nat → Nat} {kp : Nat} {h : Int32} {tl : Nat} {tx : Nat → Int32} {r : RW} {g w : NW} {M : Nat}
def qs (g : NW) : Int32 := sm (fS g 5) 5 0 0
theorem sm_nn {f : Nat → Int32} (hf : ∀ k, k < 5 → ∃ q, q ≤ 6 ∧ f k = nI q) : ∀ d k m0, k + d ≤ 5 → ∃ m, m ≤ m0 + 6 * d ∧ sm f d k (nI m0) = nI m
  | 0, k, m0, _ => ⟨m0, by omega, rfl⟩
  | d + 1, k, m0, hk => by
    obtain ⟨q, hq, e⟩ := hf k (by omega)
    obtain ⟨m, hm, e2⟩ := sm_nn hf d (k + 1) (m0 + q) (by omega)
    refine ⟨m, by omega, ?_⟩
    unfold sm
    rw [e, nI_add]
    exact e2
theorem qs_nn (hI : Inv g) : ∃ m, m ≤ 30 ∧ qs g = nI m := by
  obtain ⟨m, hm, e⟩ := sm_nn (f := fS g 5) (fun k hk => by
    unfold fS
    by_cases hp : g 1 k 0 = 1
    · obtain ⟨-, ⟨q, hq6, hq, -⟩, -⟩ := (hI.1 k hk).2.2 hp
      refine ⟨q, hq6, ?_⟩
      rw [if_pos hp, if_neg (by decide), if_neg (by decide), hq]
    · exact ⟨0, by omega, by rw [if_neg hp]; rfl⟩) 5 0 0 (by omega)
  exact ⟨m, by omega, e⟩
def silV (g : NW) : Nat → Nat → Int32
  | 0, _ => -5
  | d + 1, k => if qs g = 0 then nI k else silV (beatG g) d (k + 1)
theorem c_silL {n : Nat} (e1 : ∀ w, sGetR (some z0) 7 1 (ovr σ n w) = some (some n)) : ∀ (d k : Nat), k + d = 601 → ∀ (F : Nat), d < F → ∀ (g w : NW), Rel g w → Inv g → ∃ w', m_X8_silentIn_L13 F (some z0) (nI k) (ovr σ n w) = some (silV g d k, ovr σ n w') := by
  intro d
  induction d with
  | zero =>
    intro k hk F hF g w hR hI
    obtain ⟨F, rfl⟩ : ∃ m, F = m + 1 := ⟨F - 1, by omega⟩
    rw [show m_X8_silentIn_L13 (F + 1) = m_X8_silentIn_B13 (m_X8_silentIn_L13 F) from rfl]
    unfold m_X8_silentIn_B13
    rw [if_pos (show (600 : Int32) < nI k from nI_lt (a := 600) (by omega) (by omega))]
    exact ⟨w, rfl⟩
  | succ d ih =>
    intro k hk F hF g w hR hI
    obtain ⟨F, rfl⟩ : ∃ m, F = m + 1 := ⟨F - 1, by omega⟩
    rw [show m_X8_silentIn_L13 (F + 1) = m_X8_silentIn_B13 (m_X8_silentIn_L13 F) from rfl]
    unfold m_X8_silentIn_B13
    rw [if_neg (show ¬ (600 : Int32) < nI k from nI_nlt (a := 600) (by omega) (by decide))]
    have eq : sm (fun k => if w 1 k 0 = 0 then 0 else w 1 k 3) 5 0 0 = qs g := que_eq hR hI
    simp only [e1, ob_net, c_que, eq, Option.bind_some, bnd_some]
    by_cases h0 : qs g = 0
    · rw [if_pos h0]
      exact ⟨w, by rw [show silV g (d + 1) k = nI k from if_pos h0]⟩
    · rw [if_neg h0]
      obtain ⟨w1, e, h1, h2, -⟩ := c_beat (σ := σ) (n := n) hR hI
      obtain ⟨w', e2⟩ := ih (k + 1) (by omega) F (by omega) (beatG g) w1 h2 (Inv_beat hI)
      simp only [e1, ob_net, h1, Option.bind_some, bnd_some, ← nI_succ, e2]
      exact ⟨w', by rw [show silV g (d + 1) k = silV (beatG g) d (k + 1) from if_neg h0]⟩
theorem q_silL {g0 : NW} : ∀ (d k : Nat), k + d = 600 → ∀ (F : Nat), d < F → ∀ (g : NW) (r : RW), Inv g → (∀ j, j < 190 → r 3 j = flat g0 j) → ∃ r', m_X9_silentIn_L6 F (some M) (nI k) (ovs σ M r g) = some (silV g (d + 1) k, ovs σ M r' g0) ∧ RK r' r := by
  have fin : ∀ (k : Nat) (g : NW) (r : RW), (∀ j, j < 190 → r 3 j = flat g0 j) → m_X9_silentIn_b31 (some M) (nI k) (ovs σ M r g) = some (if qs g = 0 then nI k else -5, ovs σ M r g0) := by
    intro k g r h3
    unfold m_X9_silentIn_b31 m_X9_silentIn_b44
    simp only [ob_s, q_ofS, Option.bind_some, bnd_some, q_putBack h3]
    show (if qs g = 0 then _ else _) = _
    by_cases h0 : qs g = 0
    · rw [if_pos h0, if_pos h0, if_neg one_ne]
    · rw [if_neg h0, if_neg h0]
      rfl
  intro d
  induction d with
  | zero =>
    intro k hk F hF g r hI h3
    obtain ⟨F, rfl⟩ : ∃ m, F = m + 1 := ⟨F - 1, by omega⟩
    obtain rfl : k = 600 := by omega
    rw [show m_X9_silentIn_L6 (F + 1) = m_X9_silentIn_B6 (m_X9_silentIn_L6 F) from rfl]
    unfold m_X9_silentIn_B6
    rw [if_pos (show (600 : Int32) ≤ nI 600 by decide), fin 600 g r h3]
    exact ⟨r, rfl, RK.refl r⟩
  | succ d ih =>
    intro k hk F hF g r hI h3
    obtain ⟨F, rfl⟩ : ∃ m, F = m + 1 := ⟨F - 1, by omega⟩
    rw [show m_X9_silentIn_L6 (F + 1) = m_X9_silentIn_B6 (m_X9_silentIn_L6 F) from rfl]
    unfold m_X9_silentIn_B6
    rw [if_neg (show ¬ (600 : Int32) ≤ nI k from nI_ge (b := 600) (by omega) (by decide))]
    have eq : sm (fS g 5) 5 0 0 = qs g := rfl
    obtain ⟨m, hm, em⟩ := qs_nn hI
    simp only [ob_s, q_ofS, eq, Option.bind_some, bnd_some]
    by_cases h0 : qs g = 0
    · rw [if_pos (by rw [h0]; decide), fin k g r h3]
      refine ⟨r, ?_, RK.refl r⟩
      rw [if_pos h0, show silV g (d + 1 + 1) k = nI k from if_pos h0]
    · have hm0 : 0 < m := by
        rcases Nat.eq_zero_or_pos m with e | e
        · rw [e] at em
          exact absurd em h0
        · exact e
      rw [if_neg (by rw [em]; exact nI_nle hm0 (by omega))]
      obtain ⟨r1, e1, k1⟩ := q_beats (σ := σ) (r := r) (M := M) hI
      obtain ⟨r2, e2, k2⟩ := ih (k + 1) (by omega) F (by omega) (beatG g) r1 (Inv_beat hI) (fun j hj => by rw [k1 3 j (by decide) (by decide) (by decide)]; exact h3 j hj)
      simp only [e1, Option.bind_some, bnd_some, ← nI_succ, e2]
      exact ⟨r2, by rw [show silV g (d + 1 + 1) k = silV (beatG g) (d + 1) (k + 1) from if_neg h0], k2.trans k1⟩
theorem rk_trial {r' : RW} {v : Nat → Int32} (hr : RK r' (rcp r 3 0 v)) : ∀ q j, q ≠ 2 → q ≠ 3 → q ≠ 6 → q ≠ 7 → q ≠ 8 → q ≠ 9 → (q ≠ 0 ∨ j < 13) → r' q j = r q j := fun q j h2 h3 h6 h7 h8 h9 h0 => (hr q j h6 h7 h8).trans (rcp_rk r v (Or.inr rfl) q j h2 h3 h6 h7 h8 h9 h0)
/-- another Net than now was written -/
theorem GOK.ahead (O : GOK W P kp h tl tx r g) (w' : NW) : GOK (upW W 1 w') P kp h tl tx r g := by
  obtain ⟨a, b, c, d, e⟩ := O
  exact ⟨by rw [upW_ne _ _ (by decide)]; exact a, b, c.of (fun i hi => upW_ne _ _ (by omega)) rfl (fun _ _ => rfl), d.of (upW_ne _ _ (by decide)) rfl (fun _ _ => rfl), e⟩
/-- as many words wait where the numbers are the same -/
theorem P_silentIn (H : GR z0 σ) : Pair z0 σ (m_X8_silentIn (some z0)) (m_X9_silentIn (some (z0 + 257))) := by
  obtain ⟨W, P, kp, h, tl, tx, r, g, H, O⟩ := H
  have OR := O.1
  obtain ⟨σ1, w1, e1, H1, g1, hs, hR1⟩ := c_cp H (a := 0) (b := 1) (by decide) (by decide) (by decide) O.1 O.2.1
  have hI1 := Inv_ok hs O.2.1
  have hst : ovr σ1 (NA z0 1) w1 = σ1 := by
    have := H1.neq (k := 1) (by decide)
    rwa [upW_eq] at this
  have eg : ∀ w, sGetR (some z0) 7 1 (ovr σ1 (NA z0 1) w) = some (some (NA z0 1)) := fun w => (H1.upN (k := 1) (by decide) w).g1
  obtain ⟨w2, e2⟩ := c_silL eg 601 0 rfl 1000 (by decide) g1 w1 hR1 hI1
  rw [← nI0, hst] at e2
  have H2 := H1.upN (k := 1) (by decide) w2
  have eM : m_X9_silentIn (some (z0 + 257)) (ovs (ovr σ1 (NA z0 1) w2) (z0 + 257) r g) = m_X9_silentIn_L6 1000 (some (z0 + 257)) 0 (ovs (ovr σ1 (NA z0 1) w2) (z0 + 257) (rcp r 3 0 (flat g)) g) := by
    unfold m_X9_silentIn
    simp only [ob_s, q_keepTrial, Option.bind_some, bnd_some]
  -- the numbers of the copy are those of now
  have eF : srow (rcp r 3 0 (flat g)) g = srow (rcp r 3 0 (flat g)) g1 := by
    funext q j
    unfold srow
    rw [flat_congr hs]
  have eV : ovs (ovr σ1 (NA z0 1) w2) (z0 + 257) (rcp r 3 0 (flat g)) g = ovs (ovr σ1 (NA z0 1) w2) (z0 + 257) (rcp r 3 0 (flat g)) g1 := by
    unfold ovs
    rw [eF]
  obtain ⟨r', e3, k3⟩ := q_silL (σ := ovr σ1 (NA z0 1) w2) (M := z0 + 257) (g0 := g) 600 0 rfl 1000 (by decide) g1 (rcp r 3 0 (flat g)) hI1 (fun j hj => if_pos ⟨rfl, Nat.zero_le _, hj⟩)
  rw [← nI0, ← eV, ← eM, H2.meq] at e3
  refine ⟨silV g1 601 0, _, _, ?_, e3, H2.oM, _, P, kp, h, tl, tx, _, g, H2.upM _ _, ((O.ahead w1).ahead w2).rk (rk_trial k3)⟩
  unfold m_X8_silentIn
  simp only [H.g1, H.g0, H.oN (show 1 < 7 by decide), e1, Option.bind_some, bnd_some]
  exact e2
/-! a lamp stays there while beats pass -/
theorem lmp1_30 (g : NW) (a l c f : Int32) (k i : Nat) : lmp1 g a l c f k 3 i 0 = g 3 i 0 := by
  have e : ∀ (G : NW) (j : Nat) (v : Int32), j ≠ 0 → up3 G 3 k j v 3 i 0 = G 3 i 0 := fun G j v hj => if_neg (fun e => hj e.2.2.symm)
  unfold lmp1
  split
  · split
    · split
      · exact e _ _ _ (by decide)
      · split
        · exact e _ _ _ (by decide)
        · rfl
    · exact e _ _ _ (by decide)
  · rfl
theorem lmpN_30 (g : NW) (a l c f : Int32) (i : Nat) : ∀ n, lmpN g a l c f n 3 i 0 = g 3 i 0
  | 0 => rfl
  | n + 1 => by rw [show lmpN g a l c f (n + 1) = lmp1 (lmpN g a l c f n) a l c f n from rfl, lmp1_30, lmpN_30 g a l c f i n]
theorem lisG_3 (g : NW) (a i j : Nat) : lisG g a 3 i j = g 3 i j := by
  unfold lisG
  rw [up3_c (by decide), up3_c (by decide), up3_c (by decide), up3_c (by decide)]
theorem tak1_30 (h : Nat → Int32) (g : NW) (a i : Nat) : tak1 h g a 3 i 0 = g 3 i 0 := by
  unfold tak1
  split
  · rw [up3_c (by decide), up3_c (by decide)]
  · split
    · rw [lisG_3, up3_c (by decide), up3_c (by decide), up3_c (by decide)]
    · split
      · rw [lisG_3]
        unfold telG
        split
        · rw [up3_c (by decide), up3_c (by decide), up3_c (by decide), up3_c (by decide)]
        · rw [up3_c (by decide)]
          unfold actG
          rw [up3_c (by decide), lmpN_30, up3_c (by decide), up3_c (by decide), up3_c (by decide), up3_c (by decide)]
      · rw [up3_c (by decide), up3_c (by decide)]
theorem takN_30 (h : Nat → Int32) (g : NW) (i : Nat) : ∀ k, takN h g k 3 i 0 = g 3 i 0
  | 0 => rfl
  | k + 1 => by rw [show takN h g (k + 1) = tak1 h (takN h g k) k from rfl, tak1_30, takN_30 h g i k]
theorem beatG_30 (g : NW) (i : Nat) : beatG g 3 i 0 = g 3 i 0 := by
  unfold beatG
  rw [up3_c (by decide), takN_30, movN_c _ _ (by decide) (by decide), bgn_c _ (by decide)]
theorem itb_30 : ∀ (d : Nat) (g : NW) (i : Nat), itb d g 3 i 0 = g 3 i 0
  | 0, _, _ => rfl
  | d + 1, g, i => by rw [show itb (d + 1) g = itb d (beatG g) from rfl, itb_30 d _ i, beatG_30]
theorem q_levL {g0 : NW} {i N : Nat} (hi : i < 8) (hN : N < 1000) : ∀ (d k : Nat), k + d = N → ∀ (F : Nat), d < F → ∀ (g : NW) (r : RW), Inv g → (∀ j, j < 190 → r 3 j = flat g0 j) → ∃ r', m_X9_levelIn_L30 F (some M) (nI i) (nI N) (nI k) (ovs σ M r g) = some (itb d g 3 i 4, ovs σ M r' g0) ∧ RK r' r := by
  intro d
  induction d with
  | zero =>
    intro k hk F hF g r hI h3
    obtain ⟨F, rfl⟩ : ∃ m, F = m + 1 := ⟨F - 1, by omega⟩
    rw [show m_X9_levelIn_L30 (F + 1) = m_X9_levelIn_B30 (m_X9_levelIn_L30 F) from rfl]
    unfold m_X9_levelIn_B30
    rw [if_pos (nI_le (by omega) (by omega))]
    simp only [gR_s_0, q_l, xL_p4, sld_L hi (show 4 < 6 by decide), ob_s, q_putBack h3, Option.bind_some, bnd_some]
    exact ⟨r, rfl, RK.refl r⟩
  | succ d ih =>
    intro k hk F hF g r hI h3
    obtain ⟨F, rfl⟩ : ∃ m, F = m + 1 := ⟨F - 1, by omega⟩
    rw [show m_X9_levelIn_L30 (F + 1) = m_X9_levelIn_B30 (m_X9_levelIn_L30 F) from rfl]
    unfold m_X9_levelIn_B30
    rw [if_neg (nI_ge (by omega) (by omega))]
    obtain ⟨r1, e1, k1⟩ := q_beats (σ := σ) (r := r) (M := M) hI
    obtain ⟨r2, e2, k2⟩ := ih (k + 1) (by omega) F (by omega) (beatG g) r1 (Inv_beat hI) (fun j hj => by rw [k1 3 j (by decide) (by decide) (by decide)]; exact h3 j hj)
    simp only [ob_s, e1, Option.bind_some, bnd_some, ← nI_succ, e2]
    exact ⟨r2, rfl, k2.trans k1⟩
theorem P_levelIn (H : GR z0 σ) (a b : Int32) : Pair z0 σ (m_X8_levelIn (some z0) a b) (m_X9_levelIn (some (z0 + 257)) a b) := by
  have H0 := H
  obtain ⟨W, P, kp, h, tl, tx, r, g, H, O⟩ := H
  have no : m_X3_lampAt (some (NA z0 0)) a σ = some (none, σ) → (∀ τ, m_X9_isLamp (some (z0 + 257)) a (ovs τ (z0 + 257) r g) = some (0, ovs τ (z0 + 257) r g)) → Pair z0 σ (m_X8_levelIn (some z0) a b) (m_X9_levelIn (some (z0 + 257)) a b) := fun e1 e2 => by
    refine Pair.same H0 (v := -1) ?_ ?_
    · unfold m_X8_levelIn
      simp only [H.g0, H.oN (show 0 < 7 by decide), Option.bind_some, bnd_some, e1, if_true]
    · have e : m_X9_levelIn (some (z0 + 257)) a b (ovs σ (z0 + 257) r g) = some (-1, ovs σ (z0 + 257) r g) := by
        unfold m_X9_levelIn
        simp only [ob_s, Option.bind_some, e2, bnd_some, if_true]
      rwa [H.meq] at e
  have out : (a < 0 ∨ nI 8 ≤ a) → Pair z0 σ (m_X8_levelIn (some z0) a b) (m_X9_levelIn (some (z0 + 257)) a b) := fun ho => by
    refine no ?_ (fun τ => q_isLamp_out ho)
    have e := c_lampAt_out (σ := σ) (n := NA z0 0) (w := W 0) ho
    rwa [H.neq (by decide)] at e
  rcases pk_ix a (n := 8) (by decide) with h0 | h0 | ⟨i, hi, rfl⟩
  · exact out (Or.inl h0)
  · exact out (Or.inr h0)
  have ep := c_lampAt (σ := σ) (n := NA z0 0) (w := W 0) hi
  rw [H.neq (by decide), O.1.1.c3 i 0] at ep
  rcases (O.2.1.2.2.1 i hi).1 with hp | hp
  · refine no (by rw [ep, if_pos hp]) (fun τ => ?_)
    rw [q_isLamp hi, thr_0 hp]
  rw [if_neg (by rw [hp]; exact one_ne)] at ep
  have bad : (b < 0 ∨ 400 < b) → Pair z0 σ (m_X8_levelIn (some z0) (nI i) b) (m_X9_levelIn (some (z0 + 257)) (nI i) b) := fun hb => by
    refine Pair.same H0 (v := -2) ?_ ?_
    · unfold m_X8_levelIn
      simp only [H.g0, H.oN (show 0 < 7 by decide), Option.bind_some, bnd_some, ep, if_neg (snn _)]
      by_cases h1 : b < 0
      · rw [if_pos h1]
      · rw [if_neg h1, if_neg (Int32.not_le.mpr (hb.resolve_left h1))]
    · have e : m_X9_levelIn (some (z0 + 257)) (nI i) b (ovs σ (z0 + 257) r g) = some (-2, ovs σ (z0 + 257) r g) := by
        unfold m_X9_levelIn
        simp only [ob_s, Option.bind_some, q_isLamp hi, thr_1 hp, bnd_some, one_ne, if_false, in_out hb, if_true]
      rwa [H.meq] at e
  by_cases h1 : b < 0
  · exact bad (Or.inl h1)
  by_cases h2 : 400 < b
  · exact bad (Or.inr h2)
  obtain ⟨N, rfl, -, hN⟩ := rng (l := 0) (u := 400) rfl rfl (by decide) (by decide) h1 h2
  obtain ⟨σ1, w1, e1, H1, g1, hs, hR1⟩ := c_cp H (a := 0) (b := 1) (by decide) (by decide) (by decide) O.1 O.2.1
  have hI1 := Inv_ok hs O.2.1
  have hst : ovr σ1 (NA z0 1) w1 = σ1 := by
    have := H1.neq (k := 1) (by decide)
    rwa [upW_eq] at this
  obtain ⟨w2, t, e2, hR2, -⟩ := c_letPass (σ := σ1) (n := NA z0 1) (N := N) (by omega) hR1 hI1
  rw [hst] at e2
  have H2 := H1.upN (k := 1) (by decide) w2
  have ep2 := c_lampAt (σ := σ1) (n := NA z0 1) (w := w2) hi
  have hp2 : w2 3 i 0 = 1 := by
    rw [hR2.1.c3 i 0, itb_30, hs 3 i 0 (by unfold okN; omega), hp]
  rw [if_neg (by rw [hp2]; exact one_ne)] at ep2
  have el := gI_lam_5 (σ := σ1) (n := NA z0 1) (w := w2) hi
  rw [hR2.1.c3 i 4] at el
  have eM : m_X9_levelIn (some (z0 + 257)) (nI i) (nI N) (ovs (ovr σ1 (NA z0 1) w2) (z0 + 257) r g) = m_X9_levelIn_L30 1000 (some (z0 + 257)) (nI i) (nI N) 0 (ovs (ovr σ1 (NA z0 1) w2) (z0 + 257) (rcp r 3 0 (flat g)) g) := by
    unfold m_X9_levelIn
    simp only [ob_s, Option.bind_some, q_isLamp hi, thr_1 hp, bnd_some, one_ne, if_false, in_in h1 h2, q_keepTrial]
  have eF : srow (rcp r 3 0 (flat g)) g = srow (rcp r 3 0 (flat g)) g1 := by
    funext q j
    unfold srow
    rw [flat_congr hs]
  have eV : ovs (ovr σ1 (NA z0 1) w2) (z0 + 257) (rcp r 3 0 (flat g)) g = ovs (ovr σ1 (NA z0 1) w2) (z0 + 257) (rcp r 3 0 (flat g)) g1 := by
    unfold ovs
    rw [eF]
  obtain ⟨r', e3, k3⟩ := q_levL (σ := ovr σ1 (NA z0 1) w2) (M := z0 + 257) (g0 := g) hi (N := N) (by omega) N 0 (by omega) 1000 (by omega) g1 (rcp r 3 0 (flat g)) hI1 (fun j hj => if_pos ⟨rfl, Nat.zero_le _, hj⟩)
  rw [← nI0, ← eV, ← eM, H2.meq] at e3
  refine ⟨itb N g1 3 i 4, _, _, ?_, e3, H2.oM, _, P, kp, h, tl, tx, _, g, H2.upM _ _, ((O.ahead w1).ahead w2).rk (rk_trial k3)⟩
  unfold m_X8_levelIn
  simp only [H.g0, H.oN (show 0 < 7 by decide), Option.bind_some, bnd_some, ep, if_neg (snn _), H.g1, H.oN (show 1 < 7 by decide), e1, H1.g1, H1.oN (show 1 < 7 by decide), e2, H2.g1, H2.oN (show 1 < 7 by decide), ep2, el]
  rw [if_neg h1, if_pos (Int32.not_lt.mp h2)]
/-- the two floats are the same one, and no NaN -/
theorem P_freshness (H : GR z0 σ) : ∃ f, m_X8_freshness (some z0) σ = some (f, σ) ∧ m_X9_freshness (some (z0 + 257)) σ = some (f, σ) ∧ f &&& 0x7fffffff ≤ 0x7f800000 := by
  obtain ⟨W, P, kp, h, tl, tx, r, g, H, O⟩ := H
  have a2 : ∀ τ w, sAld (some (NA z0 0 + 6)) 1 2 (ovr τ (NA z0 0) w) = some (w 7 0 2) := fun τ w => ald_6 (i := 2) (by decide)
  have a3 : ∀ τ w, sAld (some (NA z0 0 + 6)) 1 3 (ovr τ (NA z0 0) w) = some (w 7 0 3) := fun τ w => ald_6 (i := 3) (by decide)
  have a4 : ∀ τ w, sAld (some (NA z0 0 + 6)) 1 4 (ovr τ (NA z0 0) w) = some (w 7 0 4) := fun τ w => ald_6 (i := 4) (by decide)
  have key : ∀ f, m_X8_freshness (some z0) (ovr σ (NA z0 0) (W 0)) = some (f, ovr σ (NA z0 0) (W 0)) → m_X9_freshness (some (z0 + 257)) (ovs σ (z0 + 257) r g) = some (f, ovs σ (z0 + 257) r g) → f &&& 0x7fffffff ≤ 0x7f800000 → ∃ f, m_X8_freshness (some z0) σ = some (f, σ) ∧ m_X9_freshness (some (z0 + 257)) σ = some (f, σ) ∧ f &&& 0x7fffffff ≤ 0x7f800000 := by
    intro f h1 h2 h3
    rw [H.neq (by decide)] at h1
    rw [H.meq] at h2
    exact ⟨f, h1, h2, h3⟩
  by_cases h0 : (g 7 0 2 + g 7 0 3) + g 7 0 4 = 0
  · refine key FP.fconst0 ?_ ?_ (by decide)
    · unfold m_X8_freshness
      simp only [H.e0, gR_net_5, a2, a3, a4, O.1.1.c7, Option.bind_some, h0, if_true]
    · unfold m_X9_freshness
      simp only [gR_s_0, sl7, sl8, sl9, Option.bind_some, h0, if_true]
  · refine key (FP.fdiv (FP.i2f (g 7 0 2)) (FP.i2f ((g 7 0 2 + g 7 0 3) + g 7 0 4))) ?_ ?_ (fp_div _ h0)
    · unfold m_X8_freshness
      simp only [H.e0, gR_net_5, a2, a3, a4, O.1.1.c7, Option.bind_some, s_fdiv _ h0]
      rw [if_neg h0]
    · unfold m_X9_freshness
      simp only [gR_s_0, sl7, sl8, sl9, Option.bind_some, s_fdiv _ h0]
      rw [if_neg h0]
end AHD
