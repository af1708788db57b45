/-! LEVEL 2: run, set: both sides -/
section ACT4
variable {z0 : Nat} {σ σ1 : SG} {g : NW}
theorem rel_run {w : NW} (hR : Rel g w) (i : Nat) (v : Int32) : Rel (up3 g 2 i 4 v) (up3 w 2 i 4 v) := by
  refine hR.slot (c0 := 2) (i0 := i) (Or.inr (Or.inl rfl)) (fun c' i' j hn => up3_slot _ _ hn) (fun c' i' j hn => up3_slot _ _ hn) (fun j _ h2 => ?_) (fun e => absurd e (by decide))
  by_cases hj : j = 4
  · subst hj; rw [up3_eq, up3_eq]
  · have e : ∀ (G : NW) (q : Nat), q ≠ 4 → up3 G 2 i 4 v 2 i q = G 2 i q := fun G q hq => if_neg (fun e => hq e.2.2)
    have := h2 rfl
    rw [e _ _ (by decide)] at this
    rw [e _ _ hj, e _ _ hj]
    exact hR.1.c2 i this
theorem inv_run (hI : Inv g) (i : Nat) {v : Int32} (hv : b01 v) : Inv (up3 g 2 i 4 v) := by
  refine hI.slot (c0 := 2) (i0 := i) (fun c' i' j hn => up3_slot _ _ hn) (fun e => absurd e (by decide)) (fun _ hi => ?_) (fun e => absurd e (by decide)) (by decide)
  have e : ∀ (q : Nat), q ≠ 4 → up3 g 2 i 4 v 2 i q = g 2 i q := fun q hq => if_neg (fun e => hq e.2.2)
  have := hI.2.1 i hi
  unfold InvM at this ⊢
  rw [e 0 (by decide), e 1 (by decide), e 3 (by decide), up3_eq]
  exact ⟨this.1, hv, this.2.2⟩
theorem P_run (H : GR z0 σ) (a b : Int32) (hb : b01 b) : Pair z0 σ (m_X8_run (some z0) a b) (m_X9_run (some (z0 + 257)) a b) := by
  have H0 := H
  obtain ⟨W, P, kp, h, tl, tx, r, g, H, O⟩ := H
  have no : m_X3_machineAt (some (NA z0 0)) a σ = some (none, σ) → (∀ τ, m_X9_isMachine (some (z0 + 257)) a (ovs τ (z0 + 257) r g) = some (0, ovs τ (z0 + 257) r g)) → Pair z0 σ (m_X8_run (some z0) a b) (m_X9_run (some (z0 + 257)) a b) := fun e1 e2 => by
    refine Pair.same H0 (v := -1) ?_ ?_
    · unfold m_X8_run
      simp only [H.g0, H.oN (show 0 < 7 by decide), Option.bind_some, bnd_some, e1, if_true]
    · have e : m_X9_run (some (z0 + 257)) a b (ovs σ (z0 + 257) r g) = some (-1, ovs σ (z0 + 257) r g) := by
        unfold m_X9_run
        simp only [ob_s, Option.bind_some, e2, bnd_some, if_true]
      rwa [H.meq] at e
  have out : (a < 0 ∨ nI 4 ≤ a) → Pair z0 σ (m_X8_run (some z0) a b) (m_X9_run (some (z0 + 257)) a b) := fun ho => by
    refine no ?_ (fun τ => q_isMachine_out ho)
    have e := c_machineAt_out (σ := σ) (n := NA z0 0) (w := W 0) ho
    rwa [H.neq (by decide)] at e
  rcases pk_ix a (n := 4) (by decide) with h0 | h0 | ⟨i, hi, rfl⟩
  · exact out (Or.inl h0)
  · exact out (Or.inr h0)
  have ep := c_machineAt (σ := σ) (n := NA z0 0) (w := W 0) hi
  rw [H.neq (by decide), O.1.1.c2 i (Or.inl (by decide))] at ep
  have hM := O.2.1.2.1 i hi
  rcases hM.1 with hp | hp
  · refine no (by rw [ep, if_pos hp]) (fun τ => ?_)
    rw [q_isMachine hi, thr_0 hp]
  · rw [if_neg (by rw [hp]; exact one_ne)] at ep
    obtain ⟨σ1, W1, P1, ek, H1, K, hR1⟩ := g_keep H O
    have e1 := gI_mac_5 (σ := σ1) (n := NA z0 0) (w := W1 0) hi
    have e2 := pZ_mac_5 (σ := σ1) (n := NA z0 0) (w := W1 0) hi b hb
    rw [H1.neq (by decide)] at e1 e2
    rw [hR1.1.c2 i (Or.inl (by decide))] at e1
    refine fin_act H1 O K (rel_run hR1 i b) (inv_run O.2.1 i hb) (v := g 2 i 4) ?_ (fun τ => ?_)
    · unfold m_X8_run
      simp only [H.g0, H.g4, H.oN (show 0 < 7 by decide), H.oH, Option.bind_some, bnd_some, ep, ek, e1, c_asN hM.2.1, e2]
      rw [if_neg (fun e => nomatch e)]
    · unfold m_X9_run m_X9_run_b45
      simp only [ob_s, Option.bind_some, bnd_some, q_isMachine hi, thr_1 hp, one_ne, if_false, q_hold, gR_s_0, q_m, xM_p4, sld_M hi (show 4 < 5 by decide), sst_M hi (show 4 < 5 by decide), q_recorded O.2.2.1.2.1 O.r12]
      rcases hb with rfl | rfl
      · rw [if_pos rfl]
      · rw [if_neg one_ne]
theorem P_set (H : GR z0 σ) (a b : Int32) : Pair z0 σ (m_X8_set (some z0) a b) (m_X9_set (some (z0 + 257)) a b) := by
  have H0 := H
  obtain ⟨W, P, kp, h, tl, tx, r, g, H, O⟩ := H
  have out : (a < 0 ∨ nI 4 ≤ a) → Pair z0 σ (m_X8_set (some z0) a b) (m_X9_set (some (z0 + 257)) a b) := fun ho => by
    refine Pair.same H0 (v := -1) ?_ ?_
    · unfold m_X8_set
      by_cases h0 : a < 0
      · rw [if_pos h0]
      · rw [if_neg h0, if_neg (show ¬ a < 4 from Int32.not_lt.mpr (ho.resolve_left h0))]
    · unfold m_X9_set
      rw [in_out (show a < 0 ∨ (3 : Int32) < a from ho.imp_right (fun h => le_lt (n := 3) h (by decide)))]
      simp only [bnd_some, if_true]
  rcases pk_ix a (n := 4) (by decide) with h0 | h0 | ⟨i, hi, rfl⟩
  · exact out (Or.inl h0)
  · exact out (Or.inr h0)
  have core : ∀ lo hi', lstI (nI i) = some lo → mstI (nI i) = some hi' → (∀ τ, m_X9_set (some (z0 + 257)) (nI i) b τ = m_X9_set_b33 (some (z0 + 257)) (nI i) b b lo hi' τ) → Pair z0 σ (m_X8_set (some z0) (nI i) b) (m_X9_set (some (z0 + 257)) (nI i) b) := by
    intro lo hi' e1 e2 e3
    have bad : (b < lo ∨ hi' < b) → Pair z0 σ (m_X8_set (some z0) (nI i) b) (m_X9_set (some (z0 + 257)) (nI i) b) := fun hb => by
      refine Pair.same H0 (v := -2) ?_ ?_
      · unfold m_X8_set
        rw [if_neg (nI_pos (by omega)), if_pos (show nI i < 4 from nI_lt (b := 4) hi (by decide))]
        simp only [e1, e2, Option.bind_some]
        by_cases h1 : b < lo
        · rw [if_pos h1]
        · rw [if_neg h1, if_neg (Int32.not_le.mpr (hb.resolve_left h1))]
      · rw [e3]
        unfold m_X9_set_b33
        simp only [in_out hb, bnd_some, if_true]
    by_cases h1 : b < lo
    · exact bad (Or.inl h1)
    by_cases h2 : hi' < b
    · exact bad (Or.inr h2)
    obtain ⟨σ1, W1, P1, ek, H1, K, hR1⟩ := g_keep H O
    have g4 := gR_net_4 (σ := σ1) (n := NA z0 0) (w := W1 0)
    have ld := ald_5 (σ := σ1) (n := NA z0 0) (w := W1 0) hi
    have st := ast_5 (σ := σ1) (n := NA z0 0) (w := W1 0) hi b
    rw [H1.neq (by decide)] at g4 ld st
    rw [hR1.1.c6] at ld
    have hR2 : Rel (up3 g 6 0 i b) (up3 (W1 0) 6 0 i b) := ⟨hR1.1.up b (Or.inl (by decide)) (Or.inl (by decide)), fun k hk => (hR1.2 k hk).of4 (fun _ => up3_c (by decide)) (fun _ => up3_c (by decide))⟩
    have hI2 : Inv (up3 g 6 0 i b) := O.2.1.slot (c0 := 6) (i0 := 0) (fun c' i' j hn => up3_slot _ _ hn) (fun e => absurd e (by decide)) (fun e => absurd e (by decide)) (fun e => absurd e (by decide)) (by decide)
    refine fin_act H1 O K hR2 hI2 (v := g 6 0 i) ?_ (fun τ => ?_)
    · unfold m_X8_set
      rw [if_neg (nI_pos (by omega)), if_pos (show nI i < 4 from nI_lt (b := 4) hi (by decide))]
      simp only [e1, e2, H.g0, H.g4, H.oH, ek, H1.g0, g4, ld, st, Option.bind_some, bnd_some]
      rw [if_neg h1, if_pos (Int32.not_lt.mp h2)]
    · rw [e3]
      unfold m_X9_set_b33
      simp only [in_in h1 h2, bnd_some, one_ne, if_false, ob_s, q_hold, gR_s_0, sld_set hi, sst_set hi, Option.bind_some, q_recorded O.2.2.1.2.1 O.r12]
  have hm : ∀ τ, m_X9_in (nI i) 0 3 τ = some (1, τ) := fun τ => in_nI (c := 3) (n := 3) rfl (by decide) (by omega) τ
  have hi4 : i = 0 ∨ i = 1 ∨ i = 2 ∨ i = 3 := by omega
  rcases hi4 with rfl | rfl | rfl | rfl
  · refine core 0 9 rfl rfl (fun τ => ?_)
    unfold m_X9_set m_X9_set_b22
    simp only [hm, bnd_some, one_ne, if_false]
    rw [if_neg (show ¬ (2 : Int32) ≤ nI 0 by decide), if_neg (show ¬ nI 0 = 3 by decide)]
  · refine core 0 9 rfl rfl (fun τ => ?_)
    unfold m_X9_set m_X9_set_b22
    simp only [hm, bnd_some, one_ne, if_false]
    rw [if_neg (show ¬ (2 : Int32) ≤ nI 1 by decide), if_neg (show ¬ nI 1 = 3 by decide)]
  · refine core 1 9 rfl rfl (fun τ => ?_)
    unfold m_X9_set m_X9_set_b22
    simp only [hm, bnd_some, one_ne, if_false]
    rw [if_pos (show (2 : Int32) ≤ nI 2 by decide), if_neg (show ¬ nI 2 = 3 by decide)]
  · refine core 1 3 rfl rfl (fun τ => ?_)
    unfold m_X9_set m_X9_set_b22
    simp only [hm, bnd_some, one_ne, if_false]
    rw [if_pos (show (2 : Int32) ≤ nI 3 by decide), if_pos (show nI 3 = 3 by decide)]
end ACT4
