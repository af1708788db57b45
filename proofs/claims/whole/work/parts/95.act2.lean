/-! LEVEL 2: sender, machine, lamp, remove, say, run, set: both sides -/
section ACT2
variable {z0 : Nat} {σ σ1 : SG} {W W1 : Nat → NW} {P P1 : Nat → Nat} {kp : Nat} {h : Int32} {tl : Nat} {tx : Nat → Int32} {r : RW} {g : NW}
theorem c_wire_out {a : Int32} (h : a < 0 ∨ nI 6 ≤ a) (σ : SG) : m_X8_isWire a σ = some (0, σ) := by
  unfold m_X8_isWire
  by_cases h0 : a < 0
  · rw [if_pos h0]; rfl
  · rw [if_neg h0, if_pos (show 6 ≤ a from h.resolve_left h0)]; rfl
theorem c_wire {i : Nat} (h : i < 6) (σ : SG) : m_X8_isWire (nI i) σ = some (1, σ) := by
  unfold m_X8_isWire
  rw [if_neg (nI_pos (by omega)), if_neg (show ¬ (6 : Int32) ≤ nI i from nI_ge (b := 6) h (by decide))]
  rfl
theorem q_wire_out {a : Int32} (h : a < 0 ∨ nI 6 ≤ a) (σ : SG) : m_X9_isWire a σ = some (0, σ) := by
  unfold m_X9_isWire
  rw [in_out (show a < 0 ∨ (5 : Int32) < a from h.imp_right (fun h => le_lt (n := 5) h (by decide)))]
  rfl
theorem q_wire {i : Nat} (h : i < 6) (σ : SG) : m_X9_isWire (nI i) σ = some (1, σ) := by
  unfold m_X9_isWire
  rw [in_nI (c := 5) (n := 5) rfl (by decide) (by omega)]
  rfl
theorem rcp12 (r : RW) (v : Nat → Int32) : rcp r 2 0 v 0 12 = r 0 12 := if_neg (by omega)
/-- the end of an action that is recorded -/
theorem fin_act {g' w' : NW} {v : Int32} {F G : SG → Option (Int32 × SG)} (H1 : HS z0 σ1 W1 P1 (kp1 kp) h tl tx r g) (O : GOK W P kp h tl tx r g) (K : Kept W P kp W1 P1 g) (hR : Rel g' w') (hI : Inv g') (hF : F σ = some (v, ovr σ1 (NA z0 0) w')) (hG : ∀ τ, G (ovs τ (z0 + 257) r g) = some (v, ovs τ (z0 + 257) (recR (rcp r 2 0 (flat g)) kp) g')) : Pair z0 σ F G := by
  have H2 := H1.upN (k := 0) (by decide) w'
  have e := hG (ovr σ1 (NA z0 0) w')
  rw [H2.meq] at e
  exact ⟨v, _, _, hF, e, H2.oM, _, P1, _, h, tl, tx, _, g', H2.upM _ _, g_rec O K hR hI (RK.refl _)⟩
theorem GOK.r12 (O : GOK W P kp h tl tx r g) : rcp r 2 0 (flat g) 0 12 = nI kp := (rcp12 _ _).trans O.2.2.1.2.2.1
/-! the things that are there, of both -/
theorem b_S (hI : Inv g) {w : NW} (hR : Rel g w) : ∀ i, i < 5 → b01 (w 1 i 0) := fun i hi => by rw [hR.1.c1 i (by decide)]; exact (hI.1 i hi).1
theorem b_M (hI : Inv g) {w : NW} (hR : Rel g w) : ∀ i, i < 4 → b01 (w 2 i 0) := fun i hi => by rw [hR.1.c2 i (Or.inl (by decide))]; exact (hI.2.1 i hi).1
theorem b_L (hI : Inv g) {w : NW} (hR : Rel g w) : ∀ i, i < 8 → b01 (w 3 i 0) := fun i hi => by rw [hR.1.c3 i]; exact (hI.2.2.1 i hi).1
theorem rel_putS {w : NW} (hR : Rel g w) (i : Nat) (a b : Int32) : Rel (putSG g i a b 0) (putSW w i a b) := by
  refine hR.slot (c0 := 1) (i0 := i) (Or.inl rfl) (fun c i' j hn => putSG_o _ _ _ _ _ hn) (fun c i' j hn => ?_) (fun j hj _ => ?_) (fun _ j _ hl => ?_)
  · unfold putSW
    rw [up3_slot _ _ hn, up3_slot _ _ hn, up3_slot _ _ hn, up3_slot _ _ hn, up3_slot _ _ hn, up3_slot _ _ hn, up3_slot _ _ hn, up3_slot _ _ hn]
  · have hj8 : j = 0 ∨ j = 1 ∨ j = 2 ∨ j = 3 ∨ j = 4 ∨ j = 5 ∨ j = 6 ∨ j = 7 := by
      have := hj rfl
      omega
    rcases hj8 with rfl | rfl | rfl | rfl | rfl | rfl | rfl | rfl
    · rw [putSG_0]; simp [putSW, up3]
    · rw [putSG_1]; simp [putSW, up3]
    · rw [putSG_2]; simp [putSW, up3]
    · rw [putSG_3]; simp [putSW, up3]
    · rw [putSG_z _ _ _ _ _ (by omega)]; simp [putSW, up3]
    · rw [putSG_z _ _ _ _ _ (by omega)]; simp [putSW, up3]
    · rw [putSG_z _ _ _ _ _ (by omega)]; simp [putSW, up3]
    · rw [putSG_z _ _ _ _ _ (by omega)]; simp [putSW, up3]
  · rw [putSG_3] at hl
    exact absurd hl (nI_pos (by omega))
theorem inv_putS (hI : Inv g) (i : Nat) {a : Nat} (ha : a < 6) (b : Int32) : Inv (putSG g i (nI a) b 0) := by
  refine hI.slot (c0 := 1) (i0 := i) (fun c i' j hn => putSG_o _ _ _ _ _ hn) (fun _ _ => ?_) (fun e => absurd e (by decide)) (fun e => absurd e (by decide)) (by decide)
  unfold InvS
  rw [putSG_0, putSG_1, putSG_3, putSG_z _ _ _ _ _ (by omega : 4 ≤ 4 ∧ 4 < 14), putSG_z _ _ _ _ _ (by omega : 4 ≤ 6 ∧ 6 < 14), putSG_z _ _ _ _ _ (by omega : 4 ≤ 7 ∧ 7 < 14)]
  exact ⟨Or.inr rfl, Or.inl rfl, fun _ => ⟨⟨a, ha, rfl⟩, ⟨0, by omega, rfl, fun e => absurd e (by decide), fun j hj => absurd hj (by omega)⟩, ⟨0, by omega, rfl⟩, ⟨0, by omega, rfl⟩⟩⟩

theorem rel_putM {w : NW} (hR : Rel g w) (i : Nat) (a b c : Int32) : Rel (up3 (putMG g i a b c) 2 i 4 1) (putMW w i a b c) := by
  refine hR.slot (c0 := 2) (i0 := i) (Or.inr (Or.inl rfl)) (fun c' i' j hn => ?_) (fun c' i' j hn => ?_) (fun j _ hj => ?_) (fun e => absurd e (by decide))
  · rw [up3_slot _ _ hn]; exact putMG_o _ _ _ _ _ hn
  · unfold putMW
    rw [up3_slot _ _ hn, up3_slot _ _ hn, up3_slot _ _ hn, up3_slot _ _ hn, up3_slot _ _ hn]
  · by_cases h5 : j < 5
    · have hj5 : j = 0 ∨ j = 1 ∨ j = 2 ∨ j = 3 ∨ j = 4 := by omega
      rcases hj5 with rfl | rfl | rfl | rfl | rfl <;> simp [putMW, putMG, up3]
    · have e1 : putMW w i a b c 2 i j = w 2 i j := by
        simp only [putMW, up3]
        rw [if_neg (by omega), if_neg (by omega), if_neg (by omega), if_neg (by omega), if_neg (by omega)]
      have e2 : up3 (putMG g i a b c) 2 i 4 1 2 i j = g 2 i j := by
        simp only [putMG, up3]
        rw [if_neg (by omega), if_neg (by omega), if_neg (by omega), if_neg (by omega), if_neg (by omega)]
        exact if_neg (by omega)
      rw [e1, e2]
      exact hR.1.c2 i (Or.inl (by omega))
theorem inv_putM (hI : Inv g) (i : Nat) {a : Nat} (ha : a < 6) (b : Int32) {c : Nat} (h2 : 2 ≤ c) (h20 : c ≤ 20) : Inv (up3 (putMG g i (nI a) b (nI c)) 2 i 4 1) := by
  refine hI.slot (c0 := 2) (i0 := i) (fun c' i' j hn => ?_) (fun e => absurd e (by decide)) (fun _ _ => ?_) (fun e => absurd e (by decide)) (by decide)
  · rw [up3_slot _ _ hn]; exact putMG_o _ _ _ _ _ hn
  · have e : ∀ j, j ≠ 4 → up3 (putMG g i (nI a) b (nI c)) 2 i 4 1 2 i j = putMG g i (nI a) b (nI c) 2 i j := fun j hj => if_neg (fun e => hj e.2.2)
    unfold InvM
    rw [e 0 (by decide), e 1 (by decide), e 3 (by decide), up3_eq, putMG_0, putMG_1, putMG_3]
    exact ⟨Or.inr rfl, Or.inr rfl, fun _ => ⟨⟨a, ha, rfl⟩, ⟨c, h2, h20, rfl⟩⟩⟩
theorem rel_putL {w : NW} (hR : Rel g w) (i : Nat) (a b c : Int32) : Rel (putLG g i a b c) (putLW w i a b c) := by
  refine hR.slot (c0 := 3) (i0 := i) (Or.inr (Or.inr rfl)) (fun c' i' j hn => putLG_o _ _ _ _ _ hn) (fun c' i' j hn => ?_) (fun j _ _ => ?_) (fun e => absurd e (by decide))
  · unfold putLW
    rw [up3_slot _ _ hn, up3_slot _ _ hn, up3_slot _ _ hn, up3_slot _ _ hn, up3_slot _ _ hn, up3_slot _ _ hn]
  · by_cases h6 : j < 6
    · have hj6 : j = 0 ∨ j = 1 ∨ j = 2 ∨ j = 3 ∨ j = 4 ∨ j = 5 := by omega
      rcases hj6 with rfl | rfl | rfl | rfl | rfl | rfl
      · rw [putLG_0]; simp [putLW, up3]
      · rw [putLG_1]; simp [putLW, up3]
      · rw [putLG_2]; simp [putLW, up3]
      · rw [putLG_3]; simp [putLW, up3]
      · rw [putLG_z _ _ _ _ _ (by omega)]; simp [putLW, up3]
      · rw [putLG_z _ _ _ _ _ (by omega)]; simp [putLW, up3]
    · have e1 : putLW w i a b c 3 i j = w 3 i j := by
        simp only [putLW, up3]
        rw [if_neg (by omega), if_neg (by omega), if_neg (by omega), if_neg (by omega), if_neg (by omega), if_neg (by omega)]
      have e2 : putLG g i a b c 3 i j = g 3 i j := by
        simp only [putLG, up3]
        rw [if_neg (by omega), if_neg (by omega), if_neg (by omega), if_neg (by omega)]
        exact if_neg (by omega)
      rw [e1, e2]
      exact hR.1.c3 i j
theorem inv_putL (hI : Inv g) (i : Nat) (a b c : Int32) : Inv (putLG g i a b c) := by
  refine hI.slot (c0 := 3) (i0 := i) (fun c' i' j hn => putLG_o _ _ _ _ _ hn) (fun e => absurd e (by decide)) (fun e => absurd e (by decide)) (fun _ _ => ?_) (by decide)
  unfold InvL
  rw [putLG_0, putLG_z _ _ _ _ _ (by omega)]
  exact ⟨Or.inr rfl, Or.inl rfl⟩
theorem lt_le {a : Int32} {n : Nat} (h : nI n < a) (hn : n + 1 < 2 ^ 31) : nI (n + 1) ≤ a := by
  rw [Int32.lt_iff_toInt_lt, nI_toInt (by omega)] at h
  rw [Int32.le_iff_toInt_le, nI_toInt hn]
  omega
theorem gN_mac {σ : SG} {n : Nat} {w : NW} {i : Nat} (h : i < 4) : sGetI (some (macA n i)) 2 0 (ovr σ n w) = some (nI i) := by simp [sGetI, at_mac h, cMac]
theorem gN_lam {σ : SG} {n : Nat} {w : NW} {i : Nat} (h : i < 8) : sGetI (some (lamA n i)) 1 0 (ovr σ n w) = some (nI i) := by simp [sGetI, at_lam h, cLam]
theorem P_sender (H : GR z0 σ) (a b : Int32) : Pair z0 σ (m_X8_sender (some z0) a b) (m_X9_sender (some (z0 + 257)) a b) := by
  have H0 := H
  obtain ⟨W, P, kp, h, tl, tx, r, g, H, O⟩ := H
  have out : (a < 0 ∨ nI 6 ≤ a) → Pair z0 σ (m_X8_sender (some z0) a b) (m_X9_sender (some (z0 + 257)) a b) := fun ho => by
    refine Pair.same H0 (v := -1) ?_ ?_
    · unfold m_X8_sender
      simp only [c_wire_out ho, bnd_some, if_true]
    · unfold m_X9_sender
      simp only [q_wire_out ho, bnd_some, if_true]
  rcases pk_ix a (n := 6) (by decide) with h0 | h0 | ⟨i, hi, rfl⟩
  · exact out (Or.inl h0)
  · exact out (Or.inr h0)
  have bad0 : (b < 1 ∨ 9 < b) → Pair z0 σ (m_X8_sender (some z0) (nI i) b) (m_X9_sender (some (z0 + 257)) (nI i) b) := fun hb => by
    refine Pair.same H0 (v := -2) ?_ ?_
    · unfold m_X8_sender
      simp only [c_wire hi, bnd_some, one_ne, if_false]
      by_cases h1 : b < 1
      · rw [if_pos h1]
      · rw [if_neg h1, if_neg (Int32.not_le.mpr (hb.resolve_left h1))]
    · unfold m_X9_sender
      simp only [q_wire hi, bnd_some, one_ne, if_false, in_out hb, if_true]
  by_cases l0 : b < 1
  · exact bad0 (Or.inl l0)
  by_cases u0 : 9 < b
  · exact bad0 (Or.inr u0)
  have hb := b_S O.2.1 O.1
  have hc : frN (fun i => W 0 1 i 0) 5 0 = frN (fun i => g 1 i 0) 5 0 := frN_congr (N := 5) (fun i _ => O.1.1.c1 i (by decide)) 5 0 (by omega)
  have ef := c_freeS (σ := σ) (n := NA z0 0) hb
  rw [H.neq (by decide), hc] at ef
  have hle := (frN_rng (fun i => g 1 i 0) 5 0).2
  have eq : ∀ τ r', m_X9_free (some (z0 + 257)) 10 14 5 (ovs τ (z0 + 257) r' g) = some (nI (frN (fun i => g 1 i 0) 5 0), ovs τ (z0 + 257) r' g) := fun τ r' => q_freeS
  generalize frN (fun i => g 1 i 0) 5 0 = k at *
  by_cases h5 : k = 5
  · refine Pair.same H0 (v := -3) ?_ ?_
    · rw [if_pos h5] at ef
      unfold m_X8_sender
      simp only [c_wire hi, bnd_some, one_ne, if_false, H.g0, H.oN (show 0 < 7 by decide), ef, Option.bind_some, if_true]
      rw [if_neg l0, if_pos (Int32.not_lt.mp u0)]
    · have e : m_X9_sender (some (z0 + 257)) (nI i) b (ovs σ (z0 + 257) r g) = some (-3, ovs σ (z0 + 257) r g) := by
        unfold m_X9_sender
        simp only [q_wire hi, bnd_some, one_ne, if_false, in_in l0 u0, ob_s, eq, Option.bind_some]
        rw [if_pos (by rw [h5]; rfl)]
      rwa [H.meq] at e
  · have hl : k < 5 := by omega
    rw [if_neg h5] at ef
    obtain ⟨σ1, W1, P1, ek, H1, K, hR1⟩ := g_keep H O
    have ep := c_putS (σ := σ1) (n := NA z0 0) (w := W1 0) hl (nI i) b
    have eo := ob_snd (σ := σ1) (n := NA z0 0) (w := W1 0) hl
    rw [H1.neq (by decide)] at ep eo
    refine fin_act H1 O K (rel_putS hR1 k (nI i) b) (inv_putS O.2.1 k hi b) (v := nI k) ?_ (fun τ => ?_)
    · unfold m_X8_sender
      simp only [c_wire hi, bnd_some, one_ne, if_false, H.g0, H.g4, H.oN (show 0 < 7 by decide), H.oH, ef, ek, H1.g0, ep, eo, gI_snd_0 hl, Option.bind_some]
      rw [if_neg l0, if_pos (Int32.not_lt.mp u0)]
      rw [if_neg (fun e => nomatch e)]
    · unfold m_X9_sender
      simp only [q_wire hi, bnd_some, one_ne, if_false, in_in l0 u0, ob_s, eq, Option.bind_some, q_hold, q_n, q_putS hl, q_recorded O.2.2.1.2.1 O.r12, gR_s_0]
      rw [if_neg (show ¬ nI k = 5 from fun e => h5 ((nI_eq (a := k) (b := 5) (by omega) (by decide)).mp e))]
theorem P_machine (H : GR z0 σ) (a b c : Int32) : Pair z0 σ (m_X8_machine (some z0) a b c) (m_X9_machine (some (z0 + 257)) a b c) := by
  have H0 := H
  obtain ⟨W, P, kp, h, tl, tx, r, g, H, O⟩ := H
  have out : (a < 0 ∨ nI 6 ≤ a) → Pair z0 σ (m_X8_machine (some z0) a b c) (m_X9_machine (some (z0 + 257)) a b c) := fun ho => by
    refine Pair.same H0 (v := -1) ?_ ?_
    · unfold m_X8_machine
      simp only [c_wire_out ho, bnd_some, if_true]
    · unfold m_X9_machine
      simp only [q_wire_out ho, bnd_some, if_true]
  rcases pk_ix a (n := 6) (by decide) with h0 | h0 | ⟨i, hi, rfl⟩
  · exact out (Or.inl h0)
  · exact out (Or.inr h0)
  have bad0 : (b < 1 ∨ 9 < b) → Pair z0 σ (m_X8_machine (some z0) (nI i) b c) (m_X9_machine (some (z0 + 257)) (nI i) b c) := fun hb => by
    refine Pair.same H0 (v := -2) ?_ ?_
    · unfold m_X8_machine
      simp only [c_wire hi, bnd_some, one_ne, if_false]
      by_cases h1 : b < 1
      · rw [if_pos h1]
      · rw [if_neg h1, if_neg (Int32.not_le.mpr (hb.resolve_left h1))]
    · unfold m_X9_machine
      simp only [q_wire hi, bnd_some, one_ne, if_false, in_out hb, if_true]
  by_cases l0 : b < 1
  · exact bad0 (Or.inl l0)
  by_cases u0 : 9 < b
  · exact bad0 (Or.inr u0)
  have bad1 : (c < 2 ∨ 20 < c) → Pair z0 σ (m_X8_machine (some z0) (nI i) b c) (m_X9_machine (some (z0 + 257)) (nI i) b c) := fun hb => by
    refine Pair.same H0 (v := -2) ?_ ?_
    · unfold m_X8_machine
      simp only [c_wire hi, bnd_some, one_ne, if_false]
      rw [if_neg l0, if_pos (Int32.not_lt.mp u0)]
      by_cases h1 : c < 2
      · rw [if_pos h1]
      · rw [if_neg h1, if_neg (Int32.not_le.mpr (hb.resolve_left h1))]
    · unfold m_X9_machine
      simp only [q_wire hi, bnd_some, one_ne, if_false, in_in l0 u0, in_out hb, if_true]
  by_cases l1 : c < 2
  · exact bad1 (Or.inl l1)
  by_cases u1 : 20 < c
  · exact bad1 (Or.inr u1)
  have hb := b_M O.2.1 O.1
  have hc : frN (fun i => W 0 2 i 0) 4 0 = frN (fun i => g 2 i 0) 4 0 := frN_congr (N := 4) (fun i _ => O.1.1.c2 i (Or.inl (by decide))) 4 0 (by omega)
  have ef := c_freeM (σ := σ) (n := NA z0 0) hb
  rw [H.neq (by decide), hc] at ef
  have hle := (frN_rng (fun i => g 2 i 0) 4 0).2
  have eq : ∀ τ r', m_X9_free (some (z0 + 257)) 80 5 4 (ovs τ (z0 + 257) r' g) = some (nI (frN (fun i => g 2 i 0) 4 0), ovs τ (z0 + 257) r' g) := fun τ r' => q_freeM
  generalize frN (fun i => g 2 i 0) 4 0 = k at *
  by_cases h5 : k = 4
  · refine Pair.same H0 (v := -3) ?_ ?_
    · rw [if_pos h5] at ef
      unfold m_X8_machine
      simp only [c_wire hi, bnd_some, one_ne, if_false, H.g0, H.oN (show 0 < 7 by decide), ef, Option.bind_some, if_true]
      rw [if_neg l0, if_pos (Int32.not_lt.mp u0)]
      rw [if_neg l1, if_pos (Int32.not_lt.mp u1)]
    · have e : m_X9_machine (some (z0 + 257)) (nI i) b c (ovs σ (z0 + 257) r g) = some (-3, ovs σ (z0 + 257) r g) := by
        unfold m_X9_machine
        simp only [q_wire hi, bnd_some, one_ne, if_false, in_in l0 u0, in_in l1 u1, ob_s, eq, Option.bind_some]
        rw [if_pos (by rw [h5]; rfl)]
      rwa [H.meq] at e
  · have hl : k < 4 := by omega
    rw [if_neg h5] at ef
    obtain ⟨σ1, W1, P1, ek, H1, K, hR1⟩ := g_keep H O
    have ep := c_putM (σ := σ1) (n := NA z0 0) (w := W1 0) hl (nI i) b c
    have eo := ob_mac (σ := σ1) (n := NA z0 0) (w := W1 0) hl
    rw [H1.neq (by decide)] at ep eo
    obtain ⟨c, rfl, hc1, hc2⟩ := rng (l := 2) (u := 20) rfl rfl (by decide) (by decide) l1 u1
    refine fin_act H1 O K (rel_putM hR1 k (nI i) b (nI c)) (inv_putM O.2.1 k hi b hc1 hc2) (v := nI k) ?_ (fun τ => ?_)
    · unfold m_X8_machine
      simp only [c_wire hi, bnd_some, one_ne, if_false, H.g0, H.g4, H.oN (show 0 < 7 by decide), H.oH, ef, ek, H1.g0, ep, eo, gN_mac hl, Option.bind_some]
      rw [if_neg l0, if_pos (Int32.not_lt.mp u0)]
      rw [if_neg l1, if_pos (Int32.not_lt.mp u1)]
      rw [if_neg (fun e => nomatch e)]
    · unfold m_X9_machine
      simp only [q_wire hi, bnd_some, one_ne, if_false, in_in l0 u0, in_in l1 u1, ob_s, eq, Option.bind_some, q_hold, q_m, q_putM hl, xM_p4, sst_M hl (show 4 < 5 by decide), q_recorded O.2.2.1.2.1 O.r12, gR_s_0]
      rw [if_neg (show ¬ nI k = 4 from fun e => h5 ((nI_eq (a := k) (b := 4) (by omega) (by decide)).mp e))]
theorem P_lamp (H : GR z0 σ) (a b c : Int32) : Pair z0 σ (m_X8_lamp (some z0) a b c) (m_X9_lamp (some (z0 + 257)) a b c) := by
  have H0 := H
  obtain ⟨W, P, kp, h, tl, tx, r, g, H, O⟩ := H
  have out : (a < 0 ∨ nI 6 ≤ a) → Pair z0 σ (m_X8_lamp (some z0) a b c) (m_X9_lamp (some (z0 + 257)) a b c) := fun ho => by
    refine Pair.same H0 (v := -1) ?_ ?_
    · unfold m_X8_lamp
      simp only [c_wire_out ho, bnd_some, if_true]
    · unfold m_X9_lamp
      simp only [q_wire_out ho, bnd_some, if_true]
  rcases pk_ix a (n := 6) (by decide) with h0 | h0 | ⟨i, hi, rfl⟩
  · exact out (Or.inl h0)
  · exact out (Or.inr h0)
  have bad0 : (b < 0 ∨ 3 < b) → Pair z0 σ (m_X8_lamp (some z0) (nI i) b c) (m_X9_lamp (some (z0 + 257)) (nI i) b c) := fun hb => by
    refine Pair.same H0 (v := -2) ?_ ?_
    · unfold m_X8_lamp
      simp only [c_wire hi, bnd_some, one_ne, if_false]
      by_cases h1 : b < 0
      · rw [if_pos h1]
      · rw [if_neg h1, if_pos (show 4 ≤ b from lt_le (n := 3) (hb.resolve_left h1) (by decide))]
    · unfold m_X9_lamp
      simp only [q_wire hi, bnd_some, one_ne, if_false, in_out hb, if_true]
  by_cases l0 : b < 0
  · exact bad0 (Or.inl l0)
  by_cases u0 : 3 < b
  · exact bad0 (Or.inr u0)
  have bad1 : (c < 0 ∨ 3 < c) → Pair z0 σ (m_X8_lamp (some z0) (nI i) b c) (m_X9_lamp (some (z0 + 257)) (nI i) b c) := fun hb => by
    refine Pair.same H0 (v := -2) ?_ ?_
    · unfold m_X8_lamp
      simp only [c_wire hi, bnd_some, one_ne, if_false]
      rw [if_neg l0, if_neg (show ¬ 4 ≤ b from fun e => u0 (le_lt (n := 3) e (by decide)))]
      by_cases h1 : c < 0
      · rw [if_pos h1]
      · rw [if_neg h1, if_neg (show ¬ c < 4 from Int32.not_lt.mpr (lt_le (n := 3) (hb.resolve_left h1) (by decide)))]
    · unfold m_X9_lamp
      simp only [q_wire hi, bnd_some, one_ne, if_false, in_in l0 u0, in_out hb, if_true]
  by_cases l1 : c < 0
  · exact bad1 (Or.inl l1)
  by_cases u1 : 3 < c
  · exact bad1 (Or.inr u1)
  have hb := b_L O.2.1 O.1
  have hc : frN (fun i => W 0 3 i 0) 8 0 = frN (fun i => g 3 i 0) 8 0 := frN_congr (N := 8) (fun i _ => O.1.1.c3 i 0) 8 0 (by omega)
  have ef := c_freeL (σ := σ) (n := NA z0 0) hb
  rw [H.neq (by decide), hc] at ef
  have hle := (frN_rng (fun i => g 3 i 0) 8 0).2
  have eq : ∀ τ r', m_X9_free (some (z0 + 257)) 100 6 8 (ovs τ (z0 + 257) r' g) = some (nI (frN (fun i => g 3 i 0) 8 0), ovs τ (z0 + 257) r' g) := fun τ r' => q_freeL
  generalize frN (fun i => g 3 i 0) 8 0 = k at *
  by_cases h5 : k = 8
  · refine Pair.same H0 (v := -3) ?_ ?_
    · rw [if_pos h5] at ef
      unfold m_X8_lamp
      simp only [c_wire hi, bnd_some, one_ne, if_false, H.g0, H.oN (show 0 < 7 by decide), ef, Option.bind_some, if_true]
      rw [if_neg l0, if_neg (show ¬ 4 ≤ b from fun e => u0 (le_lt (n := 3) e (by decide)))]
      rw [if_neg l1, if_pos (show c < 4 from Int32.not_le.mp (fun e => u1 (le_lt (n := 3) e (by decide))))]
    · have e : m_X9_lamp (some (z0 + 257)) (nI i) b c (ovs σ (z0 + 257) r g) = some (-3, ovs σ (z0 + 257) r g) := by
        unfold m_X9_lamp
        simp only [q_wire hi, bnd_some, one_ne, if_false, in_in l0 u0, in_in l1 u1, ob_s, eq, Option.bind_some]
        rw [if_pos (by rw [h5]; rfl)]
      rwa [H.meq] at e
  · have hl : k < 8 := by omega
    rw [if_neg h5] at ef
    obtain ⟨σ1, W1, P1, ek, H1, K, hR1⟩ := g_keep H O
    have ep := c_putL (σ := σ1) (n := NA z0 0) (w := W1 0) hl (nI i) b c
    have eo := ob_lam (σ := σ1) (n := NA z0 0) (w := W1 0) hl
    rw [H1.neq (by decide)] at ep eo
    refine fin_act H1 O K (rel_putL hR1 k (nI i) b c) (inv_putL O.2.1 k (nI i) b c) (v := nI k) ?_ (fun τ => ?_)
    · unfold m_X8_lamp
      simp only [c_wire hi, bnd_some, one_ne, if_false, H.g0, H.g4, H.oN (show 0 < 7 by decide), H.oH, ef, ek, H1.g0, ep, eo, gN_lam hl, Option.bind_some]
      rw [if_neg l0, if_neg (show ¬ 4 ≤ b from fun e => u0 (le_lt (n := 3) e (by decide)))]
      rw [if_neg l1, if_pos (show c < 4 from Int32.not_le.mp (fun e => u1 (le_lt (n := 3) e (by decide))))]
      rw [if_neg (fun e => nomatch e)]
    · unfold m_X9_lamp
      simp only [q_wire hi, bnd_some, one_ne, if_false, in_in l0 u0, in_in l1 u1, ob_s, eq, Option.bind_some, q_hold, q_l, q_putL hl, q_recorded O.2.2.1.2.1 O.r12, gR_s_0]
      rw [if_neg (show ¬ nI k = 8 from fun e => h5 ((nI_eq (a := k) (b := 8) (by omega) (by decide)).mp e))]
end ACT2
