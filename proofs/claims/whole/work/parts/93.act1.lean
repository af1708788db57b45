/-! LEVEL 2: new words are counted upwards; pass, undo, save, restore, the text's length -/
theorem lisG_7 (g : NW) (a i j : Nat) : lisG g a 7 i j = g 7 i j := by
  unfold lisG
  rw [up3_c (by decide), up3_c (by decide), up3_c (by decide), up3_c (by decide)]
theorem up702 (g : NW) {j : Nat} (v : Int32) (hj : j ≠ 2) : up3 g 7 0 j v 7 0 2 = g 7 0 2 := by
  simp only [up3]
  rw [if_neg]
  rintro ⟨-, -, e⟩
  exact hj e.symm
theorem telG_72 (g : NW) (a : Nat) (x : Int32) : telG g a x 7 0 2 = g 7 0 2 ∨ telG g a x 7 0 2 = g 7 0 2 + 1 := by
  unfold telG
  split
  · left
    rw [up3_c (by decide), up702 _ _ (by decide)]
  · right
    rw [up3_c (by decide)]
    unfold actG
    rw [up3_c (by decide), lmpN_o _ _ _ _ _ (by decide), up3_c (by decide), up3_eq]
theorem tak1_72 (h : Nat → Int32) (g : NW) (a : Nat) : tak1 h g a 7 0 2 = g 7 0 2 ∨ tak1 h g a 7 0 2 = g 7 0 2 + 1 := by
  unfold tak1
  split
  · left; rw [up3_c (by decide), up3_c (by decide)]
  · split
    · left; rw [lisG_7, up702 _ _ (by decide), up3_c (by decide), up3_c (by decide)]
    · split
      · rw [lisG_7]
        have := telG_72 (up3 (up3 g 4 a 2 (g 4 a 2 + 1)) 4 a 3 (2 * g 4 a 3 + h a)) a (wrd (2 * g 4 a 3 + h a) 5)
        rw [up3_c (by decide), up3_c (by decide)] at this
        exact this
      · left; rw [up3_c (by decide), up3_c (by decide)]
theorem takN_72 (h : Nat → Int32) (g : NW) : ∀ k, ∃ m, m ≤ k ∧ takN h g k 7 0 2 = g 7 0 2 + nI m
  | 0 => ⟨0, by omega, by rw [← nI0, Int32.add_zero]; rfl⟩
  | k + 1 => by
    obtain ⟨m, hm, e⟩ := takN_72 h g k
    rcases tak1_72 h (takN h g k) k with h1 | h1
    · exact ⟨m, by omega, by rw [show takN h g (k + 1) = tak1 h (takN h g k) k from rfl, h1, e]⟩
    · exact ⟨m + 1, by omega, by rw [show takN h g (k + 1) = tak1 h (takN h g k) k from rfl, h1, e, nI_succ, Int32.add_assoc]⟩
theorem beatG_72 (g : NW) : ∃ m, m ≤ 6 ∧ beatG g 7 0 2 = g 7 0 2 + nI m := by
  obtain ⟨m, hm, e⟩ := takN_72 (hear (bgn g)) (movN (hear (bgn g)) (bgn g) 5) 6
  refine ⟨m, hm, ?_⟩
  unfold beatG
  rw [up3_c (by decide), e, movN_72, bgn_c _ (by decide)]
theorem itb_72 : ∀ (d : Nat) (g : NW), ∃ m, m ≤ 6 * d ∧ itb d g 7 0 2 = g 7 0 2 + nI m
  | 0, g => ⟨0, by omega, by rw [← nI0, Int32.add_zero]; rfl⟩
  | d + 1, g => by
    obtain ⟨m1, h1, e1⟩ := beatG_72 g
    obtain ⟨m2, h2, e2⟩ := itb_72 d (beatG g)
    exact ⟨m1 + m2, by omega, by rw [show itb (d + 1) g = itb d (beatG g) from rfl, e2, e1, Int32.add_assoc, nI_add]⟩
theorem add_canc {a t u : Int32} (h : a + t = a + u) : t = u := by
  have : t + a - a = u + a - a := by rw [Int32.add_comm t a, h, Int32.add_comm a u]
  rwa [Int32.add_sub_cancel, Int32.add_sub_cancel] at this
theorem lt_1 {a : Int32} : a < 1 → ¬ 1 ≤ a := fun h => Int32.not_le.mpr h
theorem rng {a lo hi : Int32} {l u : Nat} (hl : lo = nI l) (hu : hi = nI u) (bu : u < 2 ^ 31) (blu : l ≤ u) (h1 : ¬ a < lo) (h2 : ¬ hi < a) : ∃ N, a = nI N ∧ l ≤ N ∧ N ≤ u := by
  have h0 : ¬ a < 0 := by
    intro h
    apply h1
    rw [hl]
    rw [Int32.lt_iff_toInt_lt] at h ⊢
    rw [nI_toInt (by omega)]
    rw [Int32.toInt_zero] at h
    omega
  obtain ⟨j, hj, rfl⟩ := nI_of h0
  rw [hl, nI_ltI hj (by omega)] at h1
  rw [hu, nI_ltI bu hj] at h2
  exact ⟨j, rfl, by omega, by omega⟩
section ACT1
variable {z0 : Nat} {σ : SG}
theorem q_pass_bad {M : Nat} {r : RW} {g : NW} {a : Int32} (h : a < 1 ∨ 99 < a) : m_X9_pass (some M) a (ovs σ M r g) = some (-2, ovs σ M (rcp r 2 0 (flat g)) g) := by
  unfold m_X9_pass m_X9_passes
  simp only [ob_s, q_hold, in_out h, Option.bind_some, bnd_some, if_true]
  rw [if_neg (show ¬ (0 : Int32) ≤ -2 by decide)]
theorem rcp_rk (r : RW) {q : Nat} (v : Nat → Int32) (hq : q = 2 ∨ q = 3) : ∀ q' j, q' ≠ 2 → q' ≠ 3 → q' ≠ 6 → q' ≠ 7 → q' ≠ 8 → q' ≠ 9 → (q' ≠ 0 ∨ j < 13) → rcp r q 0 v q' j = r q' j := fun q' j h2 h3 _ _ _ _ _ => if_neg (fun e => by omega)
theorem P_pass (H : GR z0 σ) (a : Int32) : Pair z0 σ (m_X8_pass (some z0) a) (m_X9_pass (some (z0 + 257)) a) := by
  obtain ⟨W, P, kp, h, tl, tx, r, g, H, O⟩ := H
  have bad : (a < 1 ∨ 99 < a) → Pair z0 σ (m_X8_pass (some z0) a) (m_X9_pass (some (z0 + 257)) a) := by
    intro hb
    refine ⟨-2, σ, ovs σ (z0 + 257) (rcp r 2 0 (flat g)) g, ?_, ?_, H.oM, W, P, kp, h, tl, tx, _, g, H.upM _ _, O.rk (rcp_rk _ _ (Or.inl rfl))⟩
    · unfold m_X8_pass
      by_cases h1 : a < 1
      · rw [if_pos h1]
      · rw [if_neg h1, if_neg (Int32.not_le.mpr (hb.resolve_left h1))]
    · have := q_pass_bad (σ := σ) (M := z0 + 257) (r := r) (g := g) hb
      rwa [H.meq] at this
  by_cases h1 : a < 1
  · exact bad (Or.inl h1)
  by_cases h2 : 99 < a
  · exact bad (Or.inr h2)
  obtain ⟨N, rfl, hN1, hN2⟩ := rng (l := 1) (u := 99) rfl rfl (by decide) (by decide) h1 h2
  obtain ⟨σ1, W1, P1, ek, H1, K, hR1⟩ := g_keep H O
  obtain ⟨w', t, ep, hR2, ht⟩ := c_letPass (σ := σ1) (n := NA z0 0) (N := N) (by omega) hR1 O.2.1
  rw [H1.neq (by decide)] at ep
  have H2 := H1.upN (k := 0) (by decide) w'
  obtain ⟨r', em, kr⟩ := q_passes (σ := ovr σ1 (NA z0 0) w') (M := z0 + 257) (r := rcp r 2 0 (flat g)) hN1 hN2 O.2.1 ht
  have O2 := g_rec O K hR2 (Inv_itb N g O.2.1) kr
  have hr12 : r' 0 12 = nI kp := by
    rw [kr 0 12 (by decide) (by decide) (by decide)]
    exact (if_neg (by omega)).trans O.2.2.1.2.2.1
  obtain ⟨m, hm, et⟩ := itb_72 N g
  have ht0 : t = nI m := add_canc (ht.symm.trans et)
  refine ⟨t, ovr σ1 (NA z0 0) w', _, ?_, ?_, H2.oM, _, P1, _, h, tl, tx, _, _, H2.upM _ _, O2⟩
  · unfold m_X8_pass
    rw [if_neg h1, if_pos (Int32.not_lt.mp h2)]
    simp only [H.g4, H.g0, H.oH, ek, H1.g0, H1.oN (show 0 < 7 by decide), ep, Option.bind_some, bnd_some]
  · have e : m_X9_pass (some (z0 + 257)) (nI N) (ovs (ovr σ1 (NA z0 0) w') (z0 + 257) r g) = some (t, ovs (ovr σ1 (NA z0 0) w') (z0 + 257) (recR r' kp) (itb N g)) := by
      unfold m_X9_pass
      simp only [ob_s, q_hold, em, Option.bind_some, bnd_some]
      rw [if_pos (by rw [ht0]; exact nI_pos' (by omega)), q_recorded O.2.2.1.2.1 hr12]
      rfl
    rwa [H2.meq] at e
theorem P_undo (H : GR z0 σ) : Pair z0 σ (m_X8_undo (some z0)) (m_X9_undo (some (z0 + 257))) := by
  obtain ⟨W, P, kp, h, tl, tx, r, g, H, O⟩ := H
  obtain ⟨hR, hI, ⟨hP, hk4, h12, hk⟩, hS, hT⟩ := O
  by_cases h0 : kp = 0
  · subst h0
    refine Pair.same ⟨W, P, 0, h, tl, tx, r, g, H, hR, hI, ⟨hP, hk4, h12, hk⟩, hS, hT⟩ (v := -5) ?_ ?_
    · unfold m_X8_undo m_X0_isEmpty
      simp only [H.g4, H.oH, H.k1, Option.bind_some]
      rw [if_pos (show nI 0 = 0 from rfl), show chkZ 1 σ = some (1, σ) from rfl]
      simp only [bnd_some]
      rw [if_neg one_ne]
    · have := q_undo_none (σ := σ) (M := z0 + 257) (r := r) (g := g) h12
      rwa [H.meq] at this
  · obtain ⟨k, rfl⟩ : ∃ k, kp = k + 1 := ⟨kp - 1, by omega⟩
    obtain ⟨gk, ha, hb, hc⟩ := hk k (by omega)
    obtain ⟨σ1, w', e1, H1, g1, hs, hR1⟩ := c_back H hP (by omega) ha hb
    have em := q_undo (σ := σ1) (M := z0 + 257) (g := g) (g' := g1) (s := k) (by omega) (r := r) h12 (fun j hj => by rw [flat_congr hs]; exact hc j hj)
    rw [H1.meq] at em
    refine ⟨nI k, σ1, _, ?_, em, H1.oM, _, P, k, h, tl, tx, _, g1, H1.upM _ _, by rw [upW_eq]; exact hR1, Inv_ok hs hb, ⟨hP, by omega, up2_i, fun i hi => ?_⟩, ?_, ?_⟩
    · unfold m_X8_undo m_X0_isEmpty
      simp only [H.g4, H.oH, H.k1, Option.bind_some]
      rw [if_neg (nI_ne0 (by omega) (by omega)), show chkZ 0 σ = some (0, σ) from rfl]
      simp only [bnd_some, if_true, H.g4, H.oH, H.g0, e1, H1.g4, H1.k1, Option.bind_some]
    · obtain ⟨gi, a, b, c⟩ := hk i (by omega)
      have := (hP.1 i (by omega)).1
      exact ⟨gi, by rw [upW_ne _ _ (by omega)]; exact a, b, fun j hj => (up2_o (by omega)).trans (c j hj)⟩
    · exact hS.of (upW_ne _ _ (by decide)) (up2_o (by omega)) (fun j _ => up2_o (by omega))
    · exact hT.of (up2_o (by omega)) (fun j _ => up2_o (by omega))
theorem P_save (H : GR z0 σ) : Pair z0 σ (m_X8_save (some z0)) (m_X9_save (some (z0 + 257))) := by
  obtain ⟨W, P, kp, h, tl, tx, r, g, H, O⟩ := H
  obtain ⟨hR, hI, hH, hS, hT⟩ := O
  obtain ⟨σ1, w', e1, H1, g1, hs, hR1⟩ := c_cp H (a := 0) (b := 2) (by decide) (by decide) (by decide) hR hI
  obtain ⟨σ2, e2, H2⟩ := H1.p3
  have et : sGetI (some (NA z0 0)) 3 6 σ2 = some (g 0 0 0) := by
    have := gI_net_6 (σ := σ2) (n := NA z0 0) (w := upW W 2 w' 0)
    rw [H2.neq (by decide)] at this
    rw [this, upW_ne _ _ (by decide), hR.1.c0]
  have em := q_save (σ := σ2) (M := z0 + 257) r g
  rw [H2.meq] at em
  refine ⟨g 0 0 0, σ2, _, ?_, em, H2.oM, _, P, kp, 1, tl, tx, _, g, H2.upM _ _, by rw [upW_ne _ _ (by decide)]; exact hR, hI, hH.of (fun i hi => upW_ne _ _ (by omega)) ?_ ?_, ⟨up2_i, Or.inr rfl, fun _ => ⟨g1, by rw [upW_eq]; exact hR1, Inv_ok hs hI, fun j hj => ?_⟩⟩, hT.of ?_ ?_⟩
  · unfold m_X8_save
    simp only [H.g2, H.g0, H.oN (show 2 < 7 by decide), e1, e2, H2.g0, et, Option.bind_some, bnd_some]
  · exact (up2_o (by omega)).trans (if_neg (by omega))
  · exact fun j _ => (up2_o (by omega)).trans (if_neg (by omega))
  · rw [up2_o (by omega), flat_congr hs]
    exact if_pos ⟨rfl, Nat.zero_le _, hj⟩
  · exact (up2_o (by omega)).trans (if_neg (by omega))
  · exact fun j _ => (up2_o (by omega)).trans (if_neg (by omega))
theorem P_restore (H : GR z0 σ) : Pair z0 σ (m_X8_restore (some z0)) (m_X9_restore (some (z0 + 257))) := by
  obtain ⟨W, P, kp, h, tl, tx, r, g, H, O⟩ := H
  obtain ⟨h10, hb, hS⟩ := O.2.2.2.1
  rcases hb with h0 | h1
  · subst h0
    refine Pair.same ⟨W, P, kp, _, tl, tx, r, g, H, O⟩ (v := -4) ?_ ?_
    · unfold m_X8_restore
      simp only [H.g3, Option.bind_some, if_true]
    · have := q_restore_no (σ := σ) (M := z0 + 257) (r := r) (g := g) h10
      rwa [H.meq] at this
  · subst h1
    obtain ⟨gs, sa, sb, sc⟩ := hS rfl
    obtain ⟨σ1, W1, P1, ek, H1, K, hR1⟩ := g_keep H O
    obtain ⟨σ2, w', e2, H2, g1, hs, hR2⟩ := c_cp H1 (a := 2) (b := 0) (by decide) (by decide) (by decide) (g0 := gs) (by rw [K.2.1 2 (by decide)]; exact sa) sb
    have et : sGetI (some (NA z0 0)) 3 6 σ2 = some (g1 0 0 0) := by
      have := gI_net_6 (σ := σ2) (n := NA z0 0) (w := upW W1 0 w' 0)
      rw [H2.neq (by decide)] at this
      rw [this, upW_eq, hR2.1.c0]
    have em := q_restore (σ := σ2) (M := z0 + 257) (g := g) (g' := g1) (r := r) (s := kp) O.2.2.1.2.1 O.2.2.1.2.2.1 h10 (fun j hj => by rw [flat_congr hs]; exact sc j hj)
    rw [H2.meq] at em
    refine ⟨g1 0 0 0, σ2, _, ?_, em, H2.oM, _, P1, _, _, tl, tx, _, g1, H2.upM _ _, g_rec O K hR2 (Inv_ok hs sb) (RK.refl _)⟩
    unfold m_X8_restore
    simp only [H.g3, Option.bind_some]
    rw [if_neg one_ne]
    simp only [H.g4, H.g0, H.oH, ek, H1.g0, H1.g2, H1.oN (show 0 < 7 by decide), e2, H2.g0, et, Option.bind_some, bnd_some]
theorem P_clear (H : GR z0 σ) : Pair z0 σ (m_X8_clearText (some z0)) (m_X9_clearText (some (z0 + 257))) := by
  obtain ⟨W, P, kp, h, tl, tx, r, g, H, hR, hI, hH, hS, hT⟩ := H
  obtain ⟨σ1, e1, H1⟩ := H.pl 0
  have em : m_X9_clearText (some (z0 + 257)) (ovs σ1 (z0 + 257) r g) = some (nI tl, ovs σ1 (z0 + 257) (up2 r 0 11 0) g) := by
    unfold m_X9_clearText
    simp only [gI_s_11, pI_s_11, hT.2.1, Option.bind_some]
  rw [H1.meq] at em
  refine ⟨nI tl, σ1, _, ?_, em, H1.oM, W, P, kp, h, 0, tx, _, g, H1.upM _ _, hR, hI, hH.of (fun _ _ => rfl) (up2_o (by omega)) (fun j _ => up2_o (by omega)), hS.of rfl (up2_o (by omega)) (fun j _ => up2_o (by omega)), ⟨by omega, up2_i, fun j hj => absurd hj (by omega)⟩⟩
  unfold m_X8_clearText
  rw [← nI0] at e1
  simp only [H.g5, H.s1, e1, Option.bind_some]
theorem nar_c {c : Nat} (h : c < 127) : vp_nar .char (((Int32.toUInt32 (nI c)) % 65536).toInt32) = nI c := by
  have key : ∀ q : Fin 127, vp_nar .char (((Int32.toUInt32 (nI q.val)) % 65536).toInt32) = nI q.val := by decide +kernel
  exact key ⟨c, h⟩
theorem P_append (H : GR z0 σ) (a : Int32) : Pair z0 σ (m_X8_append (some z0) a) (m_X9_append (some (z0 + 257)) a) := by
  have H0 := H
  obtain ⟨W, P, kp, h, tl, tx, r, g, H, hR, hI, hH, hS, hT⟩ := H
  have hm := H.meq
  have bad : (a < 32 ∨ 126 < a) → Pair z0 σ (m_X8_append (some z0) a) (m_X9_append (some (z0 + 257)) a) := by
    intro hb
    refine Pair.same H0 (v := -2) ?_ ?_
    · unfold m_X8_append
      by_cases h1 : a < 32
      · rw [if_pos h1]
      · rw [if_neg h1, if_neg (Int32.not_le.mpr (hb.resolve_left h1))]
    · unfold m_X9_append
      simp only [in_out hb, bnd_some, if_true]
  by_cases h1 : a < 32
  · exact bad (Or.inl h1)
  by_cases h2 : 126 < a
  · exact bad (Or.inr h2)
  obtain ⟨c, rfl, hc1, hc2⟩ := rng (l := 32) (u := 126) rfl rfl (by decide) (by decide) h1 h2
  obtain ⟨t1, t2, t3⟩ := hT
  by_cases h80 : tl = 80
  · subst h80
    refine Pair.same H0 (v := -3) ?_ ?_
    · unfold m_X8_append m_X5_isFull
      rw [if_neg h1, if_pos (Int32.not_lt.mp h2)]
      simp only [H.g5, H.oS, H.s1, H.s0, H.sl, Option.bind_some]
      rw [if_neg (show ¬ nI 80 < 80 by decide), show chkZ 1 σ = some (1, σ) from rfl]
      simp only [bnd_some]
      rw [if_neg one_ne]
    · have e : m_X9_append (some (z0 + 257)) (nI c) (ovs σ (z0 + 257) r g) = some (-3, ovs σ (z0 + 257) r g) := by
        unfold m_X9_append
        simp only [in_in h1 h2, bnd_some, one_ne, if_false, gI_s_11, t2, Option.bind_some]
        rw [if_pos (show nI 80 = 80 from rfl)]
      rwa [hm] at e
  · obtain ⟨σ1, e1, H1⟩ := H.ps (i := tl) (by omega) (nI c)
    obtain ⟨σ2, e2, H2⟩ := H1.pl (tl + 1)
    have em : m_X9_append (some (z0 + 257)) (nI c) (ovs σ2 (z0 + 257) r g) = some (nI (tl + 1), ovs σ2 (z0 + 257) (up2 (up2 r 10 tl (nI c)) 0 11 (nI (tl + 1))) g) := by
      unfold m_X9_append
      simp only [in_in h1 h2, bnd_some, one_ne, if_false, gI_s_11, t2, Option.bind_some]
      rw [if_neg (show ¬ nI tl = 80 from fun e => h80 ((nI_eq (a := tl) (b := 80) (by omega) (by decide)).mp e))]
      simp only [gR_s_9, nar_c (show c < 127 by omega), sst_10 (show tl < 80 by omega), gI_s_11, pI_s_11, Option.bind_some, up2_o (show ¬ ((0 : Nat) = 10 ∧ (11 : Nat) = tl) by omega), t2, ← nI_succ, up2_i]
    rw [H2.meq] at em
    refine ⟨nI (tl + 1), σ2, _, ?_, em, H2.oM, W, P, kp, h, tl + 1, _, _, g, H2.upM _ _, hR, hI, hH.of (fun _ _ => rfl) ?_ ?_, hS.of rfl ?_ ?_, ⟨by omega, up2_i, fun j hj => ?_⟩⟩
    · unfold m_X8_append m_X5_isFull m_X5_add
      rw [if_neg h1, if_pos (Int32.not_lt.mp h2)]
      simp only [H.g5, H.oS, H.s1, H.s0, H.sl, Option.bind_some]
      rw [if_pos (show nI tl < 80 from nI_lt (b := 80) (by omega) (by decide)), show chkZ 0 σ = some (0, σ) from rfl]
      simp only [bnd_some, if_true, H.g5, H.oS, H.s1, H.s0, H.sl, Option.bind_some]
      rw [if_neg (show ¬ nI tl < 0 from nI_pos (by omega)), if_neg (show ¬ (80 : Int32) ≤ nI tl from nI_ge (b := 80) (by omega) (by decide))]
      simp only [H.s1, H.s0, e1, H1.s1, ← nI_succ, e2, H2.g5, H2.s1, Option.bind_some, bnd_some]
    · rw [up2_o (by omega), up2_o (by omega)]
    · intro j _
      rw [up2_o (by omega), up2_o (by omega)]
    · rw [up2_o (by omega), up2_o (by omega)]
    · intro j _
      rw [up2_o (by omega), up2_o (by omega)]
    · rw [up2_o (k' := 10) (by omega)]
      by_cases hj2 : j = tl
      · subst hj2
        exact ⟨(if_pos rfl).trans up2_i.symm, c, hc1, hc2, if_pos rfl⟩
      · rw [show (fun k => if k = tl then nI c else tx k) j = tx j from if_neg hj2, up2_o (by omega)]
        exact t3 j (by omega)
end ACT1
