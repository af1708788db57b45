/-! LEVEL 2: queries: both sides -/
section QRY
variable {z0 : Nat} {σ : SG} {W : Nat → NW} {P : Nat → Nat} {kp : Nat} {h : Int32} {tl : Nat} {tx : Nat → Int32} {r : RW} {g : NW}
theorem HS.e0 (H : HS z0 σ W P kp h tl tx r g) : sGetR (some z0) 7 0 (ovr σ (NA z0 0) (W 0)) = some (some (NA z0 0)) := by
  rw [H.neq (by decide)]; exact H.g0
theorem PQ {v : Int32} {F G : SG → Option (Int32 × SG)} (H : HS z0 σ W P kp h tl tx r g) (O : GOK W P kp h tl tx r g) (hF : F (ovr σ (NA z0 0) (W 0)) = some (v, ovr σ (NA z0 0) (W 0))) (hG : G (ovs σ (z0 + 257) r g) = some (v, ovs σ (z0 + 257) r g)) : Pair z0 σ F G := by
  rw [H.neq (by decide)] at hF
  rw [H.meq] at hG
  exact Pair.same ⟨W, P, kp, h, tl, tx, r, g, H, O⟩ hF hG
theorem xS_k (i a k : Nat) : nI (xS i a) + nI k = nI (xS i (a + k)) := by rw [nI_add, show xS i a + k = xS i (a + k) from Nat.add_assoc _ _ _]
theorem xM_k (i a k : Nat) : nI (xM i a) + nI k = nI (xM i (a + k)) := by rw [nI_add, show xM i a + k = xM i (a + k) from Nat.add_assoc _ _ _]
theorem xL_k (i a k : Nat) : nI (xL i a) + nI k = nI (xL i (a + k)) := by rw [nI_add, show xL i a + k = xL i (a + k) from Nat.add_assoc _ _ _]
theorem xR_k (i a k : Nat) : nI (xR i a) + nI k = nI (xR i (a + k)) := by rw [nI_add, show xR i a + k = xR i (a + k) from Nat.add_assoc _ _ _]
theorem snn (k : Nat) : ¬ (some k = none) := fun e => nomatch e
theorem P_senderOf_no (H : GR z0 σ) (a b : Int32) (he : ∀ W P kp h tl tx r g, HS z0 σ W P kp h tl tx r g → GOK W P kp h tl tx r g → m_X3_senderAt (some (NA z0 0)) a (ovr σ (NA z0 0) (W 0)) = some (none, ovr σ (NA z0 0) (W 0)) ∧ m_X9_isSender (some (z0 + 257)) a (ovs σ (z0 + 257) r g) = some (0, ovs σ (z0 + 257) r g)) : Pair z0 σ (m_X8_senderOf (some z0) a b) (m_X9_senderOf (some (z0 + 257)) a b) := by
  obtain ⟨W, P, kp, h, tl, tx, r, g, H, O⟩ := H
  obtain ⟨e1, e2⟩ := he _ _ _ _ _ _ _ _ H O
  refine PQ H O (v := -1) ?_ ?_
  · unfold m_X8_senderOf
    simp only [H.e0, ob_net, e1, Option.bind_some, bnd_some, if_true]
  · unfold m_X9_senderOf
    simp only [ob_s, e2, Option.bind_some, bnd_some, if_true]
theorem P_senderOf_out (H : GR z0 σ) {a : Int32} (b : Int32) (ha : a < 0 ∨ nI 5 ≤ a) : Pair z0 σ (m_X8_senderOf (some z0) a b) (m_X9_senderOf (some (z0 + 257)) a b) := P_senderOf_no H a b (fun _ _ _ _ _ _ _ _ _ _ => ⟨c_senderAt_out ha, q_isSender_out ha⟩)
theorem P_senderOf (H : GR z0 σ) (a b : Int32) : Pair z0 σ (m_X8_senderOf (some z0) a b) (m_X9_senderOf (some (z0 + 257)) a b) := by
  have H0 := H
  rcases pk_ix a (n := 5) (by decide) with h0 | h0 | ⟨i, hi, rfl⟩
  · exact P_senderOf_out H b (Or.inl h0)
  · exact P_senderOf_out H b (Or.inr h0)
  obtain ⟨W, P, kp, h, tl, tx, r, g, H, O⟩ := H
  have hI := O.2.1.1 i hi
  have hR := O.1
  by_cases hp : g 1 i 0 = 0
  · refine PQ H O (v := -1) ?_ ?_
    · unfold m_X8_senderOf
      simp only [H.e0, ob_net, c_senderAt hi, show W 0 1 i 0 = 0 from (hR.1.c1 i (by decide)).trans hp, Option.bind_some, bnd_some, if_true]
    · unfold m_X9_senderOf
      simp only [ob_s, q_isSender hi, thr_0 hp, Option.bind_some, bnd_some, if_true]
  have hp1 : g 1 i 0 = 1 := hI.1.resolve_left hp
  have hw0 : ¬ W 0 1 i 0 = 0 := fun e => hp ((hR.1.c1 i (by decide)).symm.trans e)
  obtain ⟨hw, ⟨q, hq6, hq, hs, hx⟩, ⟨p, hp16, hpp⟩, -⟩ := hI.2.2 hp1
  have out : (b < 0 ∨ nI 7 ≤ b) → Pair z0 σ (m_X8_senderOf (some z0) (nI i) b) (m_X9_senderOf (some (z0 + 257)) (nI i) b) := fun ho => by
    refine PQ H O (v := -2) ?_ ?_
    · unfold m_X8_senderOf
      simp only [H.e0, ob_net, c_senderAt hi, if_neg hw0, if_neg (snn _), Option.bind_some, bnd_some, swK]
      rw [if_neg (show ¬ b = 0 from ne_out (k := 0) ho (by decide) (by decide)), if_neg (show ¬ b = 1 from ne_out (k := 1) ho (by decide) (by decide)), if_neg (show ¬ b = 2 from ne_out (k := 2) ho (by decide) (by decide)), if_neg (show ¬ b = 3 from ne_out (k := 3) ho (by decide) (by decide)), if_neg (show ¬ b = 4 from ne_out (k := 4) ho (by decide) (by decide)), if_neg (show ¬ b = 5 from ne_out (k := 5) ho (by decide) (by decide)), if_neg (show ¬ b = 6 from ne_out (k := 6) ho (by decide) (by decide))]
    · unfold m_X9_senderOf m_X9_senderOf_b32
      simp only [ob_s, q_isSender hi, thr_1 hp1, Option.bind_some, bnd_some, one_ne, if_false, q_n, gR_s_0, xS_p4, sld_S hi (show 4 < 14 by decide), swK]
      rw [if_neg (show ¬ b = 0 from ne_out (k := 0) ho (by decide) (by decide)), if_neg (show ¬ b = 1 from ne_out (k := 1) ho (by decide) (by decide)), if_neg (show ¬ b = 2 from ne_out (k := 2) ho (by decide) (by decide)), if_neg (show ¬ b = 3 from ne_out (k := 3) ho (by decide) (by decide)), if_neg (show ¬ b = 4 from ne_out (k := 4) ho (by decide) (by decide)), if_neg (show ¬ b = 5 from ne_out (k := 5) ho (by decide) (by decide)), if_neg (show ¬ b = 6 from ne_out (k := 6) ho (by decide) (by decide))]
      rw [if_neg (show ¬ b = 0 from ne_out (k := 0) ho (by decide) (by decide)), if_neg (show ¬ b = 1 from ne_out (k := 1) ho (by decide) (by decide)), if_neg (show ¬ b = 2 from ne_out (k := 2) ho (by decide) (by decide)), if_neg (show ¬ b = 3 from ne_out (k := 3) ho (by decide) (by decide)), if_neg (show ¬ b = 4 from ne_out (k := 4) ho (by decide) (by decide)), if_neg (show ¬ b = 5 from ne_out (k := 5) ho (by decide) (by decide)), if_neg (show ¬ b = 6 from ne_out (k := 6) ho (by decide) (by decide))]
      split <;> rfl
  rcases pk_ix b (n := 7) (by decide) with h0 | h0 | ⟨k, hk, rfl⟩
  · exact out (Or.inl h0)
  · exact out (Or.inr h0)
  have hk7 : k = 0 ∨ k = 1 ∨ k = 2 ∨ k = 3 ∨ k = 4 ∨ k = 5 ∨ k = 6 := by omega
  rcases hk7 with rfl | rfl | rfl | rfl | rfl | rfl | rfl
  · refine PQ H O (v := g 1 i 1) ?_ ?_
    · unfold m_X8_senderOf
      simp only [H.e0, ob_net, c_senderAt hi, if_neg hw0, if_neg (snn _), Option.bind_some, bnd_some, swK]
      rw [if_pos (show nI 0 = 0 from rfl)]
      simp only [gI_snd_2 hi, hR.1.c1 i (show 1 < 8 by decide), Option.bind_some]
    · unfold m_X9_senderOf m_X9_senderOf_b32 m_X9_senderOf_b76
      simp only [ob_s, q_isSender hi, thr_1 hp1, Option.bind_some, bnd_some, one_ne, if_false, q_n, gR_s_0, xS_p4, sld_S hi (show 4 < 14 by decide), swK]
      rw [if_pos (show nI 0 = 0 from rfl)]
      rw [if_pos (show nI 0 = 0 from rfl)]
      simp only [ob_s, Option.bind_some, bnd_some, gR_s_0, xS_p1, xS_k, sld_S hi (show 1 + 0 < 14 by decide)]
      rcases hI.2.1 with h4 | h4
      · rw [if_neg (by rw [h4]; decide)]
      · rw [if_pos h4]
  · refine PQ H O (v := g 1 i 2) ?_ ?_
    · unfold m_X8_senderOf
      simp only [H.e0, ob_net, c_senderAt hi, if_neg hw0, if_neg (snn _), Option.bind_some, bnd_some, swK]
      rw [if_neg (show ¬ nI 1 = 0 by decide), if_pos (show nI 1 = 1 from rfl)]
      simp only [gI_snd_5 hi, hR.1.c1 i (show 2 < 8 by decide), Option.bind_some]
    · unfold m_X9_senderOf m_X9_senderOf_b32 m_X9_senderOf_b76
      simp only [ob_s, q_isSender hi, thr_1 hp1, Option.bind_some, bnd_some, one_ne, if_false, q_n, gR_s_0, xS_p4, sld_S hi (show 4 < 14 by decide), swK]
      rw [if_neg (show ¬ nI 1 = 0 by decide), if_pos (show nI 1 = 1 from rfl)]
      rw [if_neg (show ¬ nI 1 = 0 by decide), if_pos (show nI 1 = 1 from rfl)]
      simp only [ob_s, Option.bind_some, bnd_some, gR_s_0, xS_p1, xS_k, sld_S hi (show 1 + 1 < 14 by decide)]
      rcases hI.2.1 with h4 | h4
      · rw [if_neg (by rw [h4]; decide)]
      · rw [if_pos h4]
  · refine PQ H O (v := g 1 i 3) ?_ ?_
    · unfold m_X8_senderOf
      simp only [H.e0, ob_net, c_senderAt hi, if_neg hw0, if_neg (snn _), Option.bind_some, bnd_some, swK]
      rw [if_neg (show ¬ nI 2 = 0 by decide), if_neg (show ¬ nI 2 = 1 by decide), if_pos (show nI 2 = 2 from rfl)]
      simp only [gI_snd_4 hi, hR.1.c1 i (show 3 < 8 by decide), Option.bind_some]
    · unfold m_X9_senderOf m_X9_senderOf_b32 m_X9_senderOf_b76
      simp only [ob_s, q_isSender hi, thr_1 hp1, Option.bind_some, bnd_some, one_ne, if_false, q_n, gR_s_0, xS_p4, sld_S hi (show 4 < 14 by decide), swK]
      rw [if_neg (show ¬ nI 2 = 0 by decide), if_neg (show ¬ nI 2 = 1 by decide), if_pos (show nI 2 = 2 from rfl)]
      rw [if_neg (show ¬ nI 2 = 0 by decide), if_neg (show ¬ nI 2 = 1 by decide), if_pos (show nI 2 = 2 from rfl)]
      simp only [ob_s, Option.bind_some, bnd_some, gR_s_0, xS_p1, xS_k, sld_S hi (show 1 + 2 < 14 by decide)]
      rcases hI.2.1 with h4 | h4
      · rw [if_neg (by rw [h4]; decide)]
      · rw [if_pos h4]
  · refine PQ H O (v := if g 1 i 4 = 0 then -5 else g 1 i 6) ?_ ?_
    · unfold m_X8_senderOf
      simp only [H.e0, ob_net, c_senderAt hi, if_neg hw0, if_neg (snn _), Option.bind_some, bnd_some, swK]
      rw [if_neg (show ¬ nI 3 = 0 by decide), if_neg (show ¬ nI 3 = 1 by decide), if_neg (show ¬ nI 3 = 2 by decide), if_pos (show nI 3 = 3 from rfl)]
      simp only [gI_snd_6 hi, hR.1.c1 i (show 4 < 8 by decide), gI_snd_8 hi, hR.1.c1 i (show 6 < 8 by decide), Option.bind_some]
      split <;> rfl
    · unfold m_X9_senderOf m_X9_senderOf_b32 m_X9_senderOf_b76
      simp only [ob_s, q_isSender hi, thr_1 hp1, Option.bind_some, bnd_some, one_ne, if_false, q_n, gR_s_0, xS_p4, sld_S hi (show 4 < 14 by decide), swK]
      rw [if_neg (show ¬ nI 3 = 0 by decide), if_neg (show ¬ nI 3 = 1 by decide), if_neg (show ¬ nI 3 = 2 by decide), if_pos (show nI 3 = 3 from rfl)]
      rw [if_neg (show ¬ nI 3 = 0 by decide), if_neg (show ¬ nI 3 = 1 by decide), if_neg (show ¬ nI 3 = 2 by decide), if_pos (show nI 3 = 3 from rfl)]
      simp only [ob_s, Option.bind_some, bnd_some, gR_s_0, xS_p6, sld_S hi (show 6 < 14 by decide)]
      rcases hI.2.1 with h4 | h4
      · rw [if_neg (by rw [h4]; decide), if_pos h4]; rfl
      · rw [if_pos h4, if_neg (by rw [h4]; decide)]
  · refine PQ H O (v := if g 1 i 4 = 0 then -5 else g 1 i 5) ?_ ?_
    · unfold m_X8_senderOf
      simp only [H.e0, ob_net, c_senderAt hi, if_neg hw0, if_neg (snn _), Option.bind_some, bnd_some, swK]
      rw [if_neg (show ¬ nI 4 = 0 by decide), if_neg (show ¬ nI 4 = 1 by decide), if_neg (show ¬ nI 4 = 2 by decide), if_neg (show ¬ nI 4 = 3 by decide), if_pos (show nI 4 = 4 from rfl)]
      simp only [gI_snd_6 hi, hR.1.c1 i (show 4 < 8 by decide), gI_snd_7 hi, hR.1.c1 i (show 5 < 8 by decide), Option.bind_some]
      split <;> rfl
    · unfold m_X9_senderOf m_X9_senderOf_b32 m_X9_senderOf_b76
      simp only [ob_s, q_isSender hi, thr_1 hp1, Option.bind_some, bnd_some, one_ne, if_false, q_n, gR_s_0, xS_p4, sld_S hi (show 4 < 14 by decide), swK]
      rw [if_neg (show ¬ nI 4 = 0 by decide), if_neg (show ¬ nI 4 = 1 by decide), if_neg (show ¬ nI 4 = 2 by decide), if_neg (show ¬ nI 4 = 3 by decide), if_pos (show nI 4 = 4 from rfl)]
      rw [if_neg (show ¬ nI 4 = 0 by decide), if_neg (show ¬ nI 4 = 1 by decide), if_neg (show ¬ nI 4 = 2 by decide), if_neg (show ¬ nI 4 = 3 by decide), if_pos (show nI 4 = 4 from rfl)]
      simp only [ob_s, Option.bind_some, bnd_some, gR_s_0, xS_p5, sld_S hi (show 5 < 14 by decide)]
      rcases hI.2.1 with h4 | h4
      · rw [if_neg (by rw [h4]; decide), if_pos h4]; rfl
      · rw [if_pos h4, if_neg (by rw [h4]; decide)]
  · refine PQ H O (v := g 1 i 7) ?_ ?_
    · unfold m_X8_senderOf
      simp only [H.e0, ob_net, c_senderAt hi, if_neg hw0, if_neg (snn _), Option.bind_some, bnd_some, swK]
      rw [if_neg (show ¬ nI 5 = 0 by decide), if_neg (show ¬ nI 5 = 1 by decide), if_neg (show ¬ nI 5 = 2 by decide), if_neg (show ¬ nI 5 = 3 by decide), if_neg (show ¬ nI 5 = 4 by decide), if_pos (show nI 5 = 5 from rfl)]
      simp only [gI_snd_9 hi, hR.1.c1 i (show 7 < 8 by decide), Option.bind_some]
    · unfold m_X9_senderOf m_X9_senderOf_b32 m_X9_senderOf_b76
      simp only [ob_s, q_isSender hi, thr_1 hp1, Option.bind_some, bnd_some, one_ne, if_false, q_n, gR_s_0, xS_p4, sld_S hi (show 4 < 14 by decide), swK]
      rw [if_neg (show ¬ nI 5 = 0 by decide), if_neg (show ¬ nI 5 = 1 by decide), if_neg (show ¬ nI 5 = 2 by decide), if_neg (show ¬ nI 5 = 3 by decide), if_neg (show ¬ nI 5 = 4 by decide), if_pos (show nI 5 = 5 from rfl)]
      rw [if_neg (show ¬ nI 5 = 0 by decide), if_neg (show ¬ nI 5 = 1 by decide), if_neg (show ¬ nI 5 = 2 by decide), if_neg (show ¬ nI 5 = 3 by decide), if_neg (show ¬ nI 5 = 4 by decide), if_pos (show nI 5 = 5 from rfl)]
      simp only [ob_s, Option.bind_some, bnd_some, gR_s_0, xS_p7, sld_S hi (show 7 < 14 by decide)]
      rcases hI.2.1 with h4 | h4
      · rw [if_neg (by rw [h4]; decide)]
      · rw [if_pos h4]
  · refine PQ H O (v := if g 1 i 4 = 0 then -5 else bitG g i) ?_ ?_
    · unfold m_X8_senderOf
      simp only [H.e0, ob_net, c_senderAt hi, if_neg hw0, if_neg (snn _), Option.bind_some, bnd_some, swK]
      rw [if_neg (show ¬ nI 6 = 0 by decide), if_neg (show ¬ nI 6 = 1 by decide), if_neg (show ¬ nI 6 = 2 by decide), if_neg (show ¬ nI 6 = 3 by decide), if_neg (show ¬ nI 6 = 4 by decide), if_neg (show ¬ nI 6 = 5 by decide), if_pos (show nI 6 = 6 from rfl)]
      simp only [gI_snd_6 hi, hR.1.c1 i (show 4 < 8 by decide), ob_snd hi, c_bit hi ((hR.1.c1 i (show 6 < 8 by decide)).trans hpp) hp16, Option.bind_some, bnd_some]
      by_cases h4 : g 1 i 4 = 0
      · rw [if_pos h4, if_pos h4]
      · rw [if_neg h4, if_neg h4, hR.1.bit hI ⟨hp1, hI.2.1.resolve_left h4⟩]
    · unfold m_X9_senderOf m_X9_senderOf_b32 m_X9_senderOf_b76
      simp only [ob_s, q_isSender hi, thr_1 hp1, Option.bind_some, bnd_some, one_ne, if_false, q_n, gR_s_0, xS_p4, sld_S hi (show 4 < 14 by decide), swK]
      rw [if_neg (show ¬ nI 6 = 0 by decide), if_neg (show ¬ nI 6 = 1 by decide), if_neg (show ¬ nI 6 = 2 by decide), if_neg (show ¬ nI 6 = 3 by decide), if_neg (show ¬ nI 6 = 4 by decide), if_neg (show ¬ nI 6 = 5 by decide), if_pos (show nI 6 = 6 from rfl)]
      rw [if_neg (show ¬ nI 6 = 0 by decide), if_neg (show ¬ nI 6 = 1 by decide), if_neg (show ¬ nI 6 = 2 by decide), if_neg (show ¬ nI 6 = 3 by decide), if_neg (show ¬ nI 6 = 4 by decide), if_neg (show ¬ nI 6 = 5 by decide), if_pos (show nI 6 = 6 from rfl)]
      simp only [ob_s, Option.bind_some, bnd_some, gR_s_0, q_bitOf hi]
      rcases hI.2.1 with h4 | h4
      · rw [if_neg (by rw [h4]; decide), if_pos h4]; rfl
      · rw [if_pos h4, if_neg (by rw [h4]; decide)]
theorem P_queued_no (H : GR z0 σ) (a b : Int32) (he : ∀ W P kp h tl tx r g, HS z0 σ W P kp h tl tx r g → GOK W P kp h tl tx r g → m_X3_senderAt (some (NA z0 0)) a (ovr σ (NA z0 0) (W 0)) = some (none, ovr σ (NA z0 0) (W 0)) ∧ m_X9_isSender (some (z0 + 257)) a (ovs σ (z0 + 257) r g) = some (0, ovs σ (z0 + 257) r g)) : Pair z0 σ (m_X8_queued (some z0) a b) (m_X9_queued (some (z0 + 257)) a b) := by
  obtain ⟨W, P, kp, h, tl, tx, r, g, H, O⟩ := H
  obtain ⟨e1, e2⟩ := he _ _ _ _ _ _ _ _ H O
  refine PQ H O (v := -1) ?_ ?_
  · unfold m_X8_queued
    simp only [H.e0, ob_net, e1, Option.bind_some, bnd_some, if_true]
  · unfold m_X9_queued
    simp only [ob_s, e2, Option.bind_some, bnd_some, if_true]
theorem P_queued_out (H : GR z0 σ) {a : Int32} (b : Int32) (ha : a < 0 ∨ nI 5 ≤ a) : Pair z0 σ (m_X8_queued (some z0) a b) (m_X9_queued (some (z0 + 257)) a b) := P_queued_no H a b (fun _ _ _ _ _ _ _ _ _ _ => ⟨c_senderAt_out ha, q_isSender_out ha⟩)
theorem P_queued (H : GR z0 σ) (a b : Int32) : Pair z0 σ (m_X8_queued (some z0) a b) (m_X9_queued (some (z0 + 257)) a b) := by
  have H0 := H
  rcases pk_ix a (n := 5) (by decide) with h0 | h0 | ⟨i, hi, rfl⟩
  · exact P_queued_out H b (Or.inl h0)
  · exact P_queued_out H b (Or.inr h0)
  obtain ⟨W, P, kp, h, tl, tx, r, g, H, O⟩ := H
  have hI := O.2.1.1 i hi
  have hR := O.1
  by_cases hp : g 1 i 0 = 0
  · refine PQ H O (v := -1) ?_ ?_
    · unfold m_X8_queued
      simp only [H.e0, ob_net, c_senderAt hi, show W 0 1 i 0 = 0 from (hR.1.c1 i (by decide)).trans hp, Option.bind_some, bnd_some, if_true]
    · unfold m_X9_queued
      simp only [ob_s, q_isSender hi, thr_0 hp, Option.bind_some, bnd_some, if_true]
  have hp1 : g 1 i 0 = 1 := hI.1.resolve_left hp
  have hw0 : ¬ W 0 1 i 0 = 0 := fun e => hp ((hR.1.c1 i (by decide)).symm.trans e)
  obtain ⟨hw, ⟨q, hq6, hq, hs, hx⟩, -, -⟩ := hI.2.2 hp1
  have hqw : W 0 1 i 3 = nI q := (hR.1.c1 i (by decide)).trans hq
  by_cases hb : 0 ≤ b
  · by_cases hqb : nI q ≤ b
    · refine PQ H O (v := -5) ?_ ?_
      · unfold m_X8_queued m_X6_wordAt
        simp only [H.e0, ob_net, ob_snd hi, c_senderAt hi, if_neg hw0, if_neg (snn _), Option.bind_some, bnd_some, gI_snd_4 hi, hqw]
        rw [if_pos hb, if_neg (Int32.not_lt.mpr hb), if_pos hqb]
        rfl
      · unfold m_X9_queued
        simp only [ob_s, q_isSender hi, thr_1 hp1, Option.bind_some, bnd_some, one_ne, if_false, q_n, gR_s_0, xS_p3, sld_S hi (show 3 < 14 by decide), hq]
        rw [if_pos hb, if_pos hqb]
    · obtain ⟨j, hj, rfl⟩ := nI_of (Int32.not_lt.mpr hb)
      rw [nI_leI (by omega) hj] at hqb
      have hj6 : j < 6 := by omega
      refine PQ H O (v := g 1 i (8 + j)) ?_ ?_
      · unfold m_X8_queued m_X6_wordAt
        simp only [H.e0, ob_net, ob_snd hi, c_senderAt hi, if_neg hw0, if_neg (snn _), Option.bind_some, bnd_some, gI_snd_4 hi, gR_snd_3 hi, len_que hi, ald_que hi hj6, hqw]
        rw [if_pos hb, if_neg (Int32.not_lt.mpr hb), if_neg (nI_ge (by omega) (by omega)), if_pos (show nI j < 6 from nI_lt (b := 6) hj6 (by decide)), hR.1.cq i hj6 (by rw [hq]; exact nI_lt (by omega) (by omega))]
        rfl
      · unfold m_X9_queued
        simp only [ob_s, q_isSender hi, thr_1 hp1, Option.bind_some, bnd_some, one_ne, if_false, q_n, gR_s_0, xS_p3, xS_p8, xS_k, sld_S hi (show 3 < 14 by decide), sld_S hi (show 8 + j < 14 by omega), hq]
        rw [if_pos hb, if_neg (nI_ge (by omega) (by omega))]
  · refine PQ H O (v := -2) ?_ ?_
    · unfold m_X8_queued
      simp only [H.e0, ob_net, c_senderAt hi, if_neg hw0, if_neg (snn _), Option.bind_some, bnd_some]
      rw [if_neg hb]
    · unfold m_X9_queued
      simp only [ob_s, q_isSender hi, thr_1 hp1, Option.bind_some, bnd_some, one_ne, if_false]
      rw [if_neg hb]
theorem P_machineOf_no (H : GR z0 σ) (a b : Int32) (he : ∀ W P kp h tl tx r g, HS z0 σ W P kp h tl tx r g → GOK W P kp h tl tx r g → m_X3_machineAt (some (NA z0 0)) a (ovr σ (NA z0 0) (W 0)) = some (none, ovr σ (NA z0 0) (W 0)) ∧ m_X9_isMachine (some (z0 + 257)) a (ovs σ (z0 + 257) r g) = some (0, ovs σ (z0 + 257) r g)) : Pair z0 σ (m_X8_machineOf (some z0) a b) (m_X9_machineOf (some (z0 + 257)) a b) := by
  obtain ⟨W, P, kp, h, tl, tx, r, g, H, O⟩ := H
  obtain ⟨e1, e2⟩ := he _ _ _ _ _ _ _ _ H O
  refine PQ H O (v := -1) ?_ ?_
  · unfold m_X8_machineOf
    simp only [H.e0, ob_net, e1, Option.bind_some, bnd_some, if_true]
  · unfold m_X9_machineOf
    simp only [ob_s, e2, Option.bind_some, bnd_some, if_true]
theorem P_machineOf_out (H : GR z0 σ) {a : Int32} (b : Int32) (ha : a < 0 ∨ nI 4 ≤ a) : Pair z0 σ (m_X8_machineOf (some z0) a b) (m_X9_machineOf (some (z0 + 257)) a b) := P_machineOf_no H a b (fun _ _ _ _ _ _ _ _ _ _ => ⟨c_machineAt_out ha, q_isMachine_out ha⟩)
theorem P_machineOf (H : GR z0 σ) (a b : Int32) : Pair z0 σ (m_X8_machineOf (some z0) a b) (m_X9_machineOf (some (z0 + 257)) a b) := by
  have H0 := H
  rcases pk_ix a (n := 4) (by decide) with h0 | h0 | ⟨i, hi, rfl⟩
  · exact P_machineOf_out H b (Or.inl h0)
  · exact P_machineOf_out H b (Or.inr h0)
  obtain ⟨W, P, kp, h, tl, tx, r, g, H, O⟩ := H
  have hI := O.2.1.2.1 i hi
  have hR := O.1
  by_cases hp : g 2 i 0 = 0
  · refine PQ H O (v := -1) ?_ ?_
    · unfold m_X8_machineOf
      simp only [H.e0, ob_net, c_machineAt hi, show W 0 2 i 0 = 0 from (hR.1.c2 i (Or.inl (by decide))).trans hp, Option.bind_some, bnd_some, if_true]
    · unfold m_X9_machineOf
      simp only [ob_s, q_isMachine hi, thr_0 hp, Option.bind_some, bnd_some, if_true]
  have hp1 : g 2 i 0 = 1 := hI.1.resolve_left hp
  have hw0 : ¬ W 0 2 i 0 = 0 := fun e => hp ((hR.1.c2 i (Or.inl (by decide))).symm.trans e)
  have out : (b < 0 ∨ nI 4 ≤ b) → Pair z0 σ (m_X8_machineOf (some z0) (nI i) b) (m_X9_machineOf (some (z0 + 257)) (nI i) b) := fun ho => by
    refine PQ H O (v := -2) ?_ ?_
    · unfold m_X8_machineOf
      simp only [H.e0, ob_net, c_machineAt hi, if_neg hw0, if_neg (snn _), Option.bind_some, bnd_some, swK]
      rw [if_neg (show ¬ b = 0 from ne_out (k := 0) ho (by decide) (by decide)), if_neg (show ¬ b = 1 from ne_out (k := 1) ho (by decide) (by decide)), if_neg (show ¬ b = 2 from ne_out (k := 2) ho (by decide) (by decide)), if_neg (show ¬ b = 3 from ne_out (k := 3) ho (by decide) (by decide))]
    · unfold m_X9_machineOf
      simp only [ob_s, q_isMachine hi, thr_1 hp1, Option.bind_some, bnd_some, one_ne, if_false, in_out (show b < 0 ∨ (3 : Int32) < b from ho.imp_right (fun h => le_lt (n := 3) h (by decide))), if_true]
  rcases pk_ix b (n := 4) (by decide) with h0 | h0 | ⟨k, hk, rfl⟩
  · exact out (Or.inl h0)
  · exact out (Or.inr h0)
  have em : m_X9_machineOf (some (z0 + 257)) (nI i) (nI k) (ovs σ (z0 + 257) r g) = some (g 2 i (1 + k), ovs σ (z0 + 257) r g) := by
    unfold m_X9_machineOf
    have hin : ∀ τ, m_X9_in (nI k) 0 3 τ = some (1, τ) := fun τ => in_nI (c := 3) (n := 3) rfl (by decide) (by omega) τ
    simp only [ob_s, q_isMachine hi, thr_1 hp1, Option.bind_some, bnd_some, one_ne, if_false, hin, gR_s_0, q_m, xM_p1, xM_k, sld_M hi (show 1 + k < 5 by omega)]
  have hkn : k = 0 ∨ k = 1 ∨ k = 2 ∨ k = 3 := by omega
  rcases hkn with rfl | rfl | rfl | rfl
  · refine PQ H O (v := g 2 i (1 + 0)) ?_ em
    unfold m_X8_machineOf
    simp only [H.e0, ob_net, c_machineAt hi, if_neg hw0, if_neg (snn _), Option.bind_some, bnd_some, swK]
    rw [if_pos (show nI 0 = 0 from rfl)]
    simp only [gI_mac_2 hi, hR.1.c2 i (show 1 ≠ 3 ∨ g 2 i 0 = 1 from Or.inr hp1), Option.bind_some]
  · refine PQ H O (v := g 2 i (1 + 1)) ?_ em
    unfold m_X8_machineOf
    simp only [H.e0, ob_net, c_machineAt hi, if_neg hw0, if_neg (snn _), Option.bind_some, bnd_some, swK]
    rw [if_neg (show ¬ nI 1 = 0 by decide), if_pos (show nI 1 = 1 from rfl)]
    simp only [gI_mac_3 hi, hR.1.c2 i (show 2 ≠ 3 ∨ g 2 i 0 = 1 from Or.inr hp1), Option.bind_some]
  · refine PQ H O (v := g 2 i (1 + 2)) ?_ em
    unfold m_X8_machineOf
    simp only [H.e0, ob_net, c_machineAt hi, if_neg hw0, if_neg (snn _), Option.bind_some, bnd_some, swK]
    rw [if_neg (show ¬ nI 2 = 0 by decide), if_neg (show ¬ nI 2 = 1 by decide), if_pos (show nI 2 = 2 from rfl)]
    simp only [gI_mac_4 hi, hR.1.c2 i (show 3 ≠ 3 ∨ g 2 i 0 = 1 from Or.inr hp1), Option.bind_some]
  · refine PQ H O (v := g 2 i (1 + 3)) ?_ em
    unfold m_X8_machineOf
    simp only [H.e0, ob_net, c_machineAt hi, if_neg hw0, if_neg (snn _), Option.bind_some, bnd_some, swK]
    rw [if_neg (show ¬ nI 3 = 0 by decide), if_neg (show ¬ nI 3 = 1 by decide), if_neg (show ¬ nI 3 = 2 by decide), if_pos (show nI 3 = 3 from rfl)]
    simp only [gI_mac_5 hi, hR.1.c2 i (show 4 ≠ 3 ∨ g 2 i 0 = 1 from Or.inr hp1), Option.bind_some, c_asN hI.2.1, bnd_some]
theorem P_lampOf_no (H : GR z0 σ) (a b : Int32) (he : ∀ W P kp h tl tx r g, HS z0 σ W P kp h tl tx r g → GOK W P kp h tl tx r g → m_X3_lampAt (some (NA z0 0)) a (ovr σ (NA z0 0) (W 0)) = some (none, ovr σ (NA z0 0) (W 0)) ∧ m_X9_isLamp (some (z0 + 257)) a (ovs σ (z0 + 257) r g) = some (0, ovs σ (z0 + 257) r g)) : Pair z0 σ (m_X8_lampOf (some z0) a b) (m_X9_lampOf (some (z0 + 257)) a b) := by
  obtain ⟨W, P, kp, h, tl, tx, r, g, H, O⟩ := H
  obtain ⟨e1, e2⟩ := he _ _ _ _ _ _ _ _ H O
  refine PQ H O (v := -1) ?_ ?_
  · unfold m_X8_lampOf
    simp only [H.e0, ob_net, e1, Option.bind_some, bnd_some, if_true]
  · unfold m_X9_lampOf
    simp only [ob_s, e2, Option.bind_some, bnd_some, if_true]
theorem P_lampOf_out (H : GR z0 σ) {a : Int32} (b : Int32) (ha : a < 0 ∨ nI 8 ≤ a) : Pair z0 σ (m_X8_lampOf (some z0) a b) (m_X9_lampOf (some (z0 + 257)) a b) := P_lampOf_no H a b (fun _ _ _ _ _ _ _ _ _ _ => ⟨c_lampAt_out ha, q_isLamp_out ha⟩)
theorem P_lampOf (H : GR z0 σ) (a b : Int32) : Pair z0 σ (m_X8_lampOf (some z0) a b) (m_X9_lampOf (some (z0 + 257)) a b) := by
  have H0 := H
  rcases pk_ix a (n := 8) (by decide) with h0 | h0 | ⟨i, hi, rfl⟩
  · exact P_lampOf_out H b (Or.inl h0)
  · exact P_lampOf_out H b (Or.inr h0)
  obtain ⟨W, P, kp, h, tl, tx, r, g, H, O⟩ := H
  have hI := O.2.1.2.2.1 i hi
  have hR := O.1
  by_cases hp : g 3 i 0 = 0
  · refine PQ H O (v := -1) ?_ ?_
    · unfold m_X8_lampOf
      simp only [H.e0, ob_net, c_lampAt hi, show W 0 3 i 0 = 0 from (hR.1.c3 i 0).trans hp, Option.bind_some, bnd_some, if_true]
    · unfold m_X9_lampOf
      simp only [ob_s, q_isLamp hi, thr_0 hp, Option.bind_some, bnd_some, if_true]
  have hp1 : g 3 i 0 = 1 := hI.1.resolve_left hp
  have hw0 : ¬ W 0 3 i 0 = 0 := fun e => hp ((hR.1.c3 i 0).symm.trans e)
  have out : (b < 0 ∨ nI 5 ≤ b) → Pair z0 σ (m_X8_lampOf (some z0) (nI i) b) (m_X9_lampOf (some (z0 + 257)) (nI i) b) := fun ho => by
    refine PQ H O (v := -2) ?_ ?_
    · unfold m_X8_lampOf
      simp only [H.e0, ob_net, c_lampAt hi, if_neg hw0, if_neg (snn _), Option.bind_some, bnd_some, swK]
      rw [if_neg (show ¬ b = 0 from ne_out (k := 0) ho (by decide) (by decide)), if_neg (show ¬ b = 1 from ne_out (k := 1) ho (by decide) (by decide)), if_neg (show ¬ b = 2 from ne_out (k := 2) ho (by decide) (by decide)), if_neg (show ¬ b = 3 from ne_out (k := 3) ho (by decide) (by decide)), if_neg (show ¬ b = 4 from ne_out (k := 4) ho (by decide) (by decide))]
    · unfold m_X9_lampOf
      simp only [ob_s, q_isLamp hi, thr_1 hp1, Option.bind_some, bnd_some, one_ne, if_false, in_out (show b < 0 ∨ (4 : Int32) < b from ho.imp_right (fun h => le_lt (n := 4) h (by decide))), if_true]
  rcases pk_ix b (n := 5) (by decide) with h0 | h0 | ⟨k, hk, rfl⟩
  · exact out (Or.inl h0)
  · exact out (Or.inr h0)
  have em : m_X9_lampOf (some (z0 + 257)) (nI i) (nI k) (ovs σ (z0 + 257) r g) = some (g 3 i (1 + k), ovs σ (z0 + 257) r g) := by
    unfold m_X9_lampOf
    have hin : ∀ τ, m_X9_in (nI k) 0 4 τ = some (1, τ) := fun τ => in_nI (c := 4) (n := 4) rfl (by decide) (by omega) τ
    simp only [ob_s, q_isLamp hi, thr_1 hp1, Option.bind_some, bnd_some, one_ne, if_false, hin, gR_s_0, q_l, xL_p1, xL_k, sld_L hi (show 1 + k < 6 by omega)]
  have hkn : k = 0 ∨ k = 1 ∨ k = 2 ∨ k = 3 ∨ k = 4 := by omega
  rcases hkn with rfl | rfl | rfl | rfl | rfl
  · refine PQ H O (v := g 3 i (1 + 0)) ?_ em
    unfold m_X8_lampOf
    simp only [H.e0, ob_net, c_lampAt hi, if_neg hw0, if_neg (snn _), Option.bind_some, bnd_some, swK]
    rw [if_pos (show nI 0 = 0 from rfl)]
    simp only [gI_lam_2 hi, hR.1.c3 i 1, Option.bind_some]
  · refine PQ H O (v := g 3 i (1 + 1)) ?_ em
    unfold m_X8_lampOf
    simp only [H.e0, ob_net, c_lampAt hi, if_neg hw0, if_neg (snn _), Option.bind_some, bnd_some, swK]
    rw [if_neg (show ¬ nI 1 = 0 by decide), if_pos (show nI 1 = 1 from rfl)]
    simp only [gI_lam_3 hi, hR.1.c3 i 2, Option.bind_some]
  · refine PQ H O (v := g 3 i (1 + 2)) ?_ em
    unfold m_X8_lampOf
    simp only [H.e0, ob_net, c_lampAt hi, if_neg hw0, if_neg (snn _), Option.bind_some, bnd_some, swK]
    rw [if_neg (show ¬ nI 2 = 0 by decide), if_neg (show ¬ nI 2 = 1 by decide), if_pos (show nI 2 = 2 from rfl)]
    simp only [gI_lam_4 hi, hR.1.c3 i 3, Option.bind_some]
  · refine PQ H O (v := g 3 i (1 + 3)) ?_ em
    unfold m_X8_lampOf
    simp only [H.e0, ob_net, c_lampAt hi, if_neg hw0, if_neg (snn _), Option.bind_some, bnd_some, swK]
    rw [if_neg (show ¬ nI 3 = 0 by decide), if_neg (show ¬ nI 3 = 1 by decide), if_neg (show ¬ nI 3 = 2 by decide), if_pos (show nI 3 = 3 from rfl)]
    simp only [gI_lam_5 hi, hR.1.c3 i 4, Option.bind_some]
  · refine PQ H O (v := g 3 i (1 + 4)) ?_ em
    unfold m_X8_lampOf
    simp only [H.e0, ob_net, c_lampAt hi, if_neg hw0, if_neg (snn _), Option.bind_some, bnd_some, swK]
    rw [if_neg (show ¬ nI 4 = 0 by decide), if_neg (show ¬ nI 4 = 1 by decide), if_neg (show ¬ nI 4 = 2 by decide), if_neg (show ¬ nI 4 = 3 by decide), if_pos (show nI 4 = 4 from rfl)]
    simp only [gI_lam_6 hi, hR.1.c3 i 5, Option.bind_some, c_asN hI.2, bnd_some]
end QRY
