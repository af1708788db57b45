/-! LEVEL 2: sender, machine, lamp, remove, say, run, set: both sides -/
section ACT2
variable {z0 : Nat} {σ σ1 : SG} {W W1 : Nat → NW} {P P1 : Nat → Nat} {kp : Nat} {h : Int32} {tl : Nat} {tx : Nat → Int32} {r : RW} {g : NW}
theorem c_wire_out {a : Int32} (h : a < 0 ∨ nI 6 ≤ a) (σ : SG) : m_X8_isWire a σ = some (0, σ) := by
  unfold m_X8_isWire
  by_cases h0 : a < 0
  · rw [if_pos h0]; rfl
  · rw [if_neg h0, if_pos (show 6 ≤ a from h.resolve_left h0)]; rfl
theorem c_wire {i : Nat} (h : i < 6) (σ : SG) : m_X8_isWire (nI i) σ = some (1, σ) := by
  unfold m_X8_isWire
  rw [if_neg (nI_pos (by omega)), if_neg (show ¬ (6 : Int32) ≤ nI i from nI_ge (b := 6) h (by decide))]
  rfl
theorem q_wire_out {a : Int32} (h : a < 0 ∨ nI 6 ≤ a) (σ : SG) : m_X9_isWire a σ = some (0, σ) := by
  unfold m_X9_isWire
  rw [in_out (show a < 0 ∨ (5 : Int32) < a from h.imp_right (fun h => le_lt (n := 5) h (by decide)))]
  rfl
theorem q_wire {i : Nat} (h : i < 6) (σ : SG) : m_X9_isWire (nI i) σ = some (1, σ) := by
  unfold m_X9_isWire
  rw [in_nI (c := 5) (n := 5) rfl (by decide) (by omega)]
  rfl
theorem rcp12 (r : RW) (v : Nat → Int32) : rcp r 2 0 v 0 12 = r 0 12 := if_neg (by omega)
/-- the end of an action that is recorded -/
theorem fin_act {g' w' : NW} {v : Int32} {F G : SG → Option (Int32 × SG)} (H1 : HS z0 σ1 W1 P1 (kp1 kp) h tl tx r g) (O : GOK W P kp h tl tx r g) (K : Kept W P kp W1 P1 g) (hR : Rel g' w') (hI : Inv g') (hF : F σ = some (v, ovr σ1 (NA z0 0) w')) (hG : ∀ τ, G (ovs τ (z0 + 257) r g) = some (v, ovs τ (z0 + 257) (recR (rcp r 2 0 (flat g)) kp) g')) : Pair z0 σ F G := by
  have H2 := H1.upN (k := 0) (by decide) w'
  have e := hG (ovr σ1 (NA z0 0) w')
  rw [H2.meq] at e
  exact ⟨v, _, _, hF, e, _, P1, _, h, tl, tx, _, g', H2.upM _ _, g_rec O K hR hI (RK.refl _)⟩
theorem GOK.r12 (O : GOK W P kp h tl tx r g) : rcp r 2 0 (flat g) 0 12 = nI kp := (rcp12 _ _).trans O.2.2.1.2.2.1
/-! the things that are there, of both -/
theorem b_S (hI : Inv g) {w : NW} (hR : Rel g w) : ∀ i, i < 5 → b01 (w 1 i 0) := fun i hi => by rw [hR.1.c1 i (by decide)]; exact (hI.1 i hi).1
theorem b_M (hI : Inv g) {w : NW} (hR : Rel g w) : ∀ i, i < 4 → b01 (w 2 i 0) := fun i hi => by rw [hR.1.c2 i (Or.inl (by decide))]; exact (hI.2.1 i hi).1
theorem b_L (hI : Inv g) {w : NW} (hR : Rel g w) : ∀ i, i < 8 → b01 (w 3 i 0) := fun i hi => by rw [hR.1.c3 i]; exact (hI.2.2.1 i hi).1
theorem rel_putS {w : NW} (hR : Rel g w) (i : Nat) (a b : Int32) : Rel (putSG g i a b 0) (putSW w i a b) := by
  refine hR.slot (c0 := 1) (i0 := i) (Or.inl rfl) (fun c i' j hn => putSG_o _ _ _ _ _ hn) (fun c i' j hn => ?_) (fun j hj _ => ?_) (fun _ j _ hl => ?_)
  · unfold putSW
    rw [up3_slot _ _ hn, up3_slot _ _ hn, up3_slot _ _ hn, up3_slot _ _ hn, up3_slot _ _ hn, up3_slot _ _ hn, up3_slot _ _ hn, up3_slot _ _ hn]
  · have hj8 : j = 0 ∨ j = 1 ∨ j = 2 ∨ j = 3 ∨ j = 4 ∨ j = 5 ∨ j = 6 ∨ j = 7 := by
      have := hj rfl
      omega
    rcases hj8 with rfl | rfl | rfl | rfl | rfl | rfl | rfl | rfl
    · rw [putSG_0]; simp [putSW, up3]
    · rw [putSG_1]; simp [putSW, up3]
    · rw [putSG_2]; simp [putSW, up3]
    · rw [putSG_3]; simp [putSW, up3]
    · rw [putSG_z _ _ _ _ _ (by omega)]; simp [putSW, up3]
    · rw [putSG_z _ _ _ _ _ (by omega)]; simp [putSW, up3]
    · rw [putSG_z _ _ _ _ _ (by omega)]; simp [putSW, up3]
    · rw [putSG_z _ _ _ _ _ (by omega)]; simp [putSW, up3]
  · rw [putSG_3] at hl
    exact absurd hl (nI_pos (by omega))
theorem inv_putS (hI : Inv g) (i : Nat) {a : Nat} (ha : a < 6) (b : Int32) : Inv (putSG g i (nI a) b 0) := by
  refine hI.slot (c0 := 1) (i0 := i) (fun c i' j hn => putSG_o _ _ _ _ _ hn) (fun _ _ => ?_) (fun e => absurd e (by decide)) (fun e => absurd e (by decide)) (by decide)
  unfold InvS
  rw [putSG_0, putSG_1, putSG_3, putSG_z _ _ _ _ _ (by omega : 4 ≤ 4 ∧ 4 < 14), putSG_z _ _ _ _ _ (by omega : 4 ≤ 6 ∧ 6 < 14), putSG_z _ _ _ _ _ (by omega : 4 ≤ 7 ∧ 7 < 14)]
  exact ⟨Or.inr rfl, Or.inl rfl, fun _ => ⟨⟨a, ha, rfl⟩, ⟨0, by omega, rfl, fun e => absurd e (by decide), fun j hj => absurd hj (by omega)⟩, ⟨0, by omega, rfl⟩, ⟨0, by omega, rfl⟩⟩⟩
theorem P_sender (H : GR z0 σ) (a b : Int32) : Pair z0 σ (m_X8_sender (some z0) a b) (m_X9_sender (some (z0 + 257)) a b) := by
  have H0 := H
  obtain ⟨W, P, kp, h, tl, tx, r, g, H, O⟩ := H
  have out : (a < 0 ∨ nI 6 ≤ a) → Pair z0 σ (m_X8_sender (some z0) a b) (m_X9_sender (some (z0 + 257)) a b) := fun ho => by
    refine Pair.same H0 (v := -1) ?_ ?_
    · unfold m_X8_sender
      simp only [c_wire_out ho, bnd_some, if_true]
    · unfold m_X9_sender
      simp only [q_wire_out ho, bnd_some, if_true]
  rcases pk_ix a (n := 6) (by decide) with h0 | h0 | ⟨i, hi, rfl⟩
  · exact out (Or.inl h0)
  · exact out (Or.inr h0)
  have bad : (b < 1 ∨ 9 < b) → Pair z0 σ (m_X8_sender (some z0) (nI i) b) (m_X9_sender (some (z0 + 257)) (nI i) b) := fun hb => by
    refine Pair.same H0 (v := -2) ?_ ?_
    · unfold m_X8_sender
      simp only [c_wire hi, bnd_some, one_ne, if_false]
      by_cases h1 : b < 1
      · rw [if_pos h1]
      · rw [if_neg h1, if_neg (Int32.not_le.mpr (hb.resolve_left h1))]
    · unfold m_X9_sender
      simp only [q_wire hi, bnd_some, one_ne, if_false, in_out hb, if_true]
  by_cases h1 : b < 1
  · exact bad (Or.inl h1)
  by_cases h2 : 9 < b
  · exact bad (Or.inr h2)
  have hb := b_S O.2.1 O.1
  have hc : frN (fun i => W 0 1 i 0) 5 0 = frN (fun i => g 1 i 0) 5 0 := frN_congr (N := 5) (fun i _ => O.1.1.c1 i (by decide)) 5 0 (by omega)
  have ef := c_freeS (σ := σ) (n := NA z0 0) hb
  rw [H.neq (by decide), hc] at ef
  by_cases h5 : frN (fun i => g 1 i 0) 5 0 = 5
  · refine Pair.same H0 (v := -3) ?_ ?_
    · rw [if_pos h5] at ef
      unfold m_X8_sender
      simp only [c_wire hi, bnd_some, one_ne, if_false, H.g0, H.oN (show 0 < 7 by decide), ef, Option.bind_some, if_true]
      rw [if_neg h1, if_pos (Int32.not_lt.mp h2)]
    · have e : m_X9_sender (some (z0 + 257)) (nI i) b (ovs σ (z0 + 257) r g) = some (-3, ovs σ (z0 + 257) r g) := by
        unfold m_X9_sender
        simp only [q_wire hi, bnd_some, one_ne, if_false, in_in h1 h2, ob_s, q_freeS, Option.bind_some]
        rw [if_pos (by rw [h5]; rfl)]
      rwa [H.meq] at e
  · have hl : frN (fun i => g 1 i 0) 5 0 < 5 := by
      have := (frN_rng (fun i => g 1 i 0) 5 0).2
      omega
    rw [if_neg h5] at ef
    obtain ⟨σ1, W1, P1, ek, H1, K, hR1⟩ := g_keep H O
    have ep := c_putS (σ := σ1) (n := NA z0 0) (w := W1 0) hl (nI i) b
    have eo := ob_snd (σ := σ1) (n := NA z0 0) (w := W1 0) hl
    rw [H1.neq (by decide)] at ep eo
    refine fin_act H1 O K (rel_putS hR1 _ (nI i) b) (inv_putS O.2.1 _ hi b) (v := nI (frN (fun i => g 1 i 0) 5 0)) ?_ (fun τ => ?_)
    · unfold m_X8_sender
      simp only [c_wire hi, bnd_some, one_ne, if_false, H.g0, H.g4, H.oN (show 0 < 7 by decide), H.oH, ef, ek, ep, eo, gI_snd_0 hl, Option.bind_some]
      rw [if_neg h1, if_pos (Int32.not_lt.mp h2), if_neg (fun e => nomatch e)]
    · unfold m_X9_sender
      simp only [q_wire hi, bnd_some, one_ne, if_false, in_in h1 h2, ob_s, q_freeS, Option.bind_some, q_hold, q_n, q_putS hl, q_recorded O.2.2.1.2.1 O.r12]
      rw [if_neg (fun e => h5 ((nI_eq (a := frN (fun i => g 1 i 0) 5 0) (b := 5) (by omega) (by decide)).mp e))]
end ACT2
