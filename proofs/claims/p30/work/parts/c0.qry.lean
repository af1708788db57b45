/-! p30: what the class's queries answer, of an object that shows the numbers g -/
def CG (z0 : Nat) (σ : SG) (g : NW) : Prop := ∃ W P kp h, HS z0 σ W P kp h ∧ Rel g (W 0) ∧ Inv g
section CQ
variable {z0 : Nat} {σ : SG} {W : Nat → NW} {P : Nat → Nat} {kp : Nat} {h : Int32} {g : NW}
theorem HS.e0 (H : HS z0 σ W P kp h) : sGetR (some z0) 7 0 (ovr σ (NA z0 0) (W 0)) = some (some (NA z0 0)) := by
  rw [H.neq (by decide)]; exact H.g0
theorem QQ {α : Type} {v : α} {F : SG → Option (α × SG)} (H : HS z0 σ W P kp h) (hF : F (ovr σ (NA z0 0) (W 0)) = some (v, ovr σ (NA z0 0) (W 0))) : F σ = some (v, σ) := by
  rw [H.neq (by decide)] at hF
  exact hF
theorem CG.oX (C : CG z0 σ g) : sObj (some z0) 7 σ = some () := by
  obtain ⟨W, P, kp, h, H, -⟩ := C
  exact H.oX
theorem CG.inv (C : CG z0 σ g) : Inv g := by
  obtain ⟨W, P, kp, h, H, hR, hI⟩ := C
  exact hI
theorem C_sender_out (C : CG z0 σ g) (b : Int32) : m_X8_senderOf (some z0) 5 b σ = some (-1, σ) := by
  obtain ⟨W, P, kp, h, H, hR, hI⟩ := C
  refine QQ H ?_
  unfold m_X8_senderOf
  simp only [H.e0, ob_net, c_senderAt_out (show (5 : Int32) < 0 ∨ nI 5 ≤ (5 : Int32) from Or.inr (by decide)), Option.bind_some, bnd_some, if_true]
theorem C_sender_no (C : CG z0 σ g) {i : Nat} (hi : i < 5) (hp : g 1 i 0 = 0) (b : Int32) : m_X8_senderOf (some z0) (nI i) b σ = some (-1, σ) := by
  obtain ⟨W, P, kp, h, H, hR, hI⟩ := C
  refine QQ H ?_
  unfold m_X8_senderOf
  simp only [H.e0, ob_net, c_senderAt hi, show W 0 1 i 0 = 0 from (hR.1.c1 i (by decide)).trans hp, Option.bind_some, bnd_some, if_true]
theorem C_sender_0 (C : CG z0 σ g) {i : Nat} (hi : i < 5) (hp : g 1 i 0 = 1) : m_X8_senderOf (some z0) (nI i) 0 σ = some (g 1 i 1, σ) := by
  obtain ⟨W, P, kp, h, H, hR, hI⟩ := C
  have hw0 : ¬ W 0 1 i 0 = 0 := fun e => one_ne (hp.symm.trans ((hR.1.c1 i (by decide)).symm.trans e))
  refine QQ H ?_
  unfold m_X8_senderOf
  simp only [H.e0, ob_net, c_senderAt hi, if_neg hw0, if_neg (snn _), Option.bind_some, bnd_some, swK]
  rw [if_pos trivial]
  simp only [gI_snd_2 hi, hR.1.c1 i (show 1 < 8 by decide), Option.bind_some]
theorem C_sender_1 (C : CG z0 σ g) {i : Nat} (hi : i < 5) (hp : g 1 i 0 = 1) : m_X8_senderOf (some z0) (nI i) 1 σ = some (g 1 i 2, σ) := by
  obtain ⟨W, P, kp, h, H, hR, hI⟩ := C
  have hw0 : ¬ W 0 1 i 0 = 0 := fun e => one_ne (hp.symm.trans ((hR.1.c1 i (by decide)).symm.trans e))
  refine QQ H ?_
  unfold m_X8_senderOf
  simp only [H.e0, ob_net, c_senderAt hi, if_neg hw0, if_neg (snn _), Option.bind_some, bnd_some, swK]
  rw [if_neg (show ¬ (1 : Int32) = 0 by decide), if_pos trivial]
  simp only [gI_snd_5 hi, hR.1.c1 i (show 2 < 8 by decide), Option.bind_some]
theorem C_sender_2 (C : CG z0 σ g) {i : Nat} (hi : i < 5) (hp : g 1 i 0 = 1) : m_X8_senderOf (some z0) (nI i) 2 σ = some (g 1 i 3, σ) := by
  obtain ⟨W, P, kp, h, H, hR, hI⟩ := C
  have hw0 : ¬ W 0 1 i 0 = 0 := fun e => one_ne (hp.symm.trans ((hR.1.c1 i (by decide)).symm.trans e))
  refine QQ H ?_
  unfold m_X8_senderOf
  simp only [H.e0, ob_net, c_senderAt hi, if_neg hw0, if_neg (snn _), Option.bind_some, bnd_some, swK]
  rw [if_neg (show ¬ (2 : Int32) = 0 by decide), if_neg (show ¬ (2 : Int32) = 1 by decide), if_pos trivial]
  simp only [gI_snd_4 hi, hR.1.c1 i (show 3 < 8 by decide), Option.bind_some]
theorem C_sender_3 (C : CG z0 σ g) {i : Nat} (hi : i < 5) (hp : g 1 i 0 = 1) : m_X8_senderOf (some z0) (nI i) 3 σ = some (if g 1 i 4 = 0 then -5 else g 1 i 6, σ) := by
  obtain ⟨W, P, kp, h, H, hR, hI⟩ := C
  have hw0 : ¬ W 0 1 i 0 = 0 := fun e => one_ne (hp.symm.trans ((hR.1.c1 i (by decide)).symm.trans e))
  refine QQ H ?_
  unfold m_X8_senderOf
  simp only [H.e0, ob_net, c_senderAt hi, if_neg hw0, if_neg (snn _), Option.bind_some, bnd_some, swK]
  rw [if_neg (show ¬ (3 : Int32) = 0 by decide), if_neg (show ¬ (3 : Int32) = 1 by decide), if_neg (show ¬ (3 : Int32) = 2 by decide), if_pos trivial]
  simp only [gI_snd_6 hi, hR.1.c1 i (show 4 < 8 by decide), gI_snd_8 hi, hR.1.c1 i (show 6 < 8 by decide), Option.bind_some]
  split <;> rfl
theorem C_sender_4 (C : CG z0 σ g) {i : Nat} (hi : i < 5) (hp : g 1 i 0 = 1) : m_X8_senderOf (some z0) (nI i) 4 σ = some (if g 1 i 4 = 0 then -5 else g 1 i 5, σ) := by
  obtain ⟨W, P, kp, h, H, hR, hI⟩ := C
  have hw0 : ¬ W 0 1 i 0 = 0 := fun e => one_ne (hp.symm.trans ((hR.1.c1 i (by decide)).symm.trans e))
  refine QQ H ?_
  unfold m_X8_senderOf
  simp only [H.e0, ob_net, c_senderAt hi, if_neg hw0, if_neg (snn _), Option.bind_some, bnd_some, swK]
  rw [if_neg (show ¬ (4 : Int32) = 0 by decide), if_neg (show ¬ (4 : Int32) = 1 by decide), if_neg (show ¬ (4 : Int32) = 2 by decide), if_neg (show ¬ (4 : Int32) = 3 by decide), if_pos trivial]
  simp only [gI_snd_6 hi, hR.1.c1 i (show 4 < 8 by decide), gI_snd_7 hi, hR.1.c1 i (show 5 < 8 by decide), Option.bind_some]
  split <;> rfl
theorem C_sender_5 (C : CG z0 σ g) {i : Nat} (hi : i < 5) (hp : g 1 i 0 = 1) : m_X8_senderOf (some z0) (nI i) 5 σ = some (g 1 i 7, σ) := by
  obtain ⟨W, P, kp, h, H, hR, hI⟩ := C
  have hw0 : ¬ W 0 1 i 0 = 0 := fun e => one_ne (hp.symm.trans ((hR.1.c1 i (by decide)).symm.trans e))
  refine QQ H ?_
  unfold m_X8_senderOf
  simp only [H.e0, ob_net, c_senderAt hi, if_neg hw0, if_neg (snn _), Option.bind_some, bnd_some, swK]
  rw [if_neg (show ¬ (5 : Int32) = 0 by decide), if_neg (show ¬ (5 : Int32) = 1 by decide), if_neg (show ¬ (5 : Int32) = 2 by decide), if_neg (show ¬ (5 : Int32) = 3 by decide), if_neg (show ¬ (5 : Int32) = 4 by decide), if_pos trivial]
  simp only [gI_snd_9 hi, hR.1.c1 i (show 7 < 8 by decide), Option.bind_some]
theorem C_sender_6 (C : CG z0 σ g) {i : Nat} (hi : i < 5) (hp : g 1 i 0 = 1) : m_X8_senderOf (some z0) (nI i) 6 σ = some (if g 1 i 4 = 0 then -5 else bitG g i, σ) := by
  obtain ⟨W, P, kp, h, H, hR, hI⟩ := C
  have hw0 : ¬ W 0 1 i 0 = 0 := fun e => one_ne (hp.symm.trans ((hR.1.c1 i (by decide)).symm.trans e))
  refine QQ H ?_
  unfold m_X8_senderOf
  simp only [H.e0, ob_net, c_senderAt hi, if_neg hw0, if_neg (snn _), Option.bind_some, bnd_some, swK]
  rw [if_neg (show ¬ (6 : Int32) = 0 by decide), if_neg (show ¬ (6 : Int32) = 1 by decide), if_neg (show ¬ (6 : Int32) = 2 by decide), if_neg (show ¬ (6 : Int32) = 3 by decide), if_neg (show ¬ (6 : Int32) = 4 by decide), if_neg (show ¬ (6 : Int32) = 5 by decide), if_pos trivial]
  obtain ⟨-, ⟨p, hp16, hpp⟩, -⟩ := ((hI.1 i hi).2.2 hp).2
  simp only [gI_snd_6 hi, hR.1.c1 i (show 4 < 8 by decide), ob_snd hi, c_bit hi ((hR.1.c1 i (show 6 < 8 by decide)).trans hpp) hp16, Option.bind_some, bnd_some]
  rcases (hI.1 i hi).2.1 with h4 | h4
  · rw [if_pos h4, if_pos h4]
  · rw [if_neg (by rw [h4]; exact one_ne), if_neg (by rw [h4]; exact one_ne), hR.1.bit (hI.1 i hi) ⟨hp, h4⟩]
theorem C_machine_out (C : CG z0 σ g) (b : Int32) : m_X8_machineOf (some z0) 4 b σ = some (-1, σ) := by
  obtain ⟨W, P, kp, h, H, hR, hI⟩ := C
  refine QQ H ?_
  unfold m_X8_machineOf
  simp only [H.e0, ob_net, c_machineAt_out (show (4 : Int32) < 0 ∨ nI 4 ≤ (4 : Int32) from Or.inr (by decide)), Option.bind_some, bnd_some, if_true]
theorem C_machine_no (C : CG z0 σ g) {i : Nat} (hi : i < 4) (hp : g 2 i 0 = 0) (b : Int32) : m_X8_machineOf (some z0) (nI i) b σ = some (-1, σ) := by
  obtain ⟨W, P, kp, h, H, hR, hI⟩ := C
  refine QQ H ?_
  unfold m_X8_machineOf
  simp only [H.e0, ob_net, c_machineAt hi, show W 0 2 i 0 = 0 from (hR.1.c2 i (Or.inl (by decide))).trans hp, Option.bind_some, bnd_some, if_true]
theorem C_machine_0 (C : CG z0 σ g) {i : Nat} (hi : i < 4) (hp : g 2 i 0 = 1) : m_X8_machineOf (some z0) (nI i) 0 σ = some (g 2 i 1, σ) := by
  obtain ⟨W, P, kp, h, H, hR, hI⟩ := C
  have hw0 : ¬ W 0 2 i 0 = 0 := fun e => one_ne (hp.symm.trans ((hR.1.c2 i (Or.inl (by decide))).symm.trans e))
  refine QQ H ?_
  unfold m_X8_machineOf
  simp only [H.e0, ob_net, c_machineAt hi, if_neg hw0, if_neg (snn _), Option.bind_some, bnd_some, swK]
  rw [if_pos trivial]
  simp only [gI_mac_2 hi, hR.1.c2 i (show 1 ≠ 3 ∨ g 2 i 0 = 1 from Or.inr hp), Option.bind_some]
theorem C_machine_2 (C : CG z0 σ g) {i : Nat} (hi : i < 4) (hp : g 2 i 0 = 1) : m_X8_machineOf (some z0) (nI i) 2 σ = some (g 2 i 3, σ) := by
  obtain ⟨W, P, kp, h, H, hR, hI⟩ := C
  have hw0 : ¬ W 0 2 i 0 = 0 := fun e => one_ne (hp.symm.trans ((hR.1.c2 i (Or.inl (by decide))).symm.trans e))
  refine QQ H ?_
  unfold m_X8_machineOf
  simp only [H.e0, ob_net, c_machineAt hi, if_neg hw0, if_neg (snn _), Option.bind_some, bnd_some, swK]
  rw [if_neg (show ¬ (2 : Int32) = 0 by decide), if_neg (show ¬ (2 : Int32) = 1 by decide), if_pos trivial]
  simp only [gI_mac_4 hi, hR.1.c2 i (show 3 ≠ 3 ∨ g 2 i 0 = 1 from Or.inr hp), Option.bind_some]
theorem C_machine_3 (C : CG z0 σ g) {i : Nat} (hi : i < 4) (hp : g 2 i 0 = 1) : m_X8_machineOf (some z0) (nI i) 3 σ = some (g 2 i 4, σ) := by
  obtain ⟨W, P, kp, h, H, hR, hI⟩ := C
  have hw0 : ¬ W 0 2 i 0 = 0 := fun e => one_ne (hp.symm.trans ((hR.1.c2 i (Or.inl (by decide))).symm.trans e))
  refine QQ H ?_
  unfold m_X8_machineOf
  simp only [H.e0, ob_net, c_machineAt hi, if_neg hw0, if_neg (snn _), Option.bind_some, bnd_some, swK]
  rw [if_neg (show ¬ (3 : Int32) = 0 by decide), if_neg (show ¬ (3 : Int32) = 1 by decide), if_neg (show ¬ (3 : Int32) = 2 by decide), if_pos trivial]
  simp only [gI_mac_5 hi, hR.1.c2 i (show 4 ≠ 3 ∨ g 2 i 0 = 1 from Or.inr hp), Option.bind_some, c_asN (hI.2.1 i hi).2.1, bnd_some]
theorem C_lamp_out (C : CG z0 σ g) (b : Int32) : m_X8_lampOf (some z0) 8 b σ = some (-1, σ) := by
  obtain ⟨W, P, kp, h, H, hR, hI⟩ := C
  refine QQ H ?_
  unfold m_X8_lampOf
  simp only [H.e0, ob_net, c_lampAt_out (show (8 : Int32) < 0 ∨ nI 8 ≤ (8 : Int32) from Or.inr (by decide)), Option.bind_some, bnd_some, if_true]
theorem C_lamp_no (C : CG z0 σ g) {i : Nat} (hi : i < 8) (hp : g 3 i 0 = 0) (b : Int32) : m_X8_lampOf (some z0) (nI i) b σ = some (-1, σ) := by
  obtain ⟨W, P, kp, h, H, hR, hI⟩ := C
  refine QQ H ?_
  unfold m_X8_lampOf
  simp only [H.e0, ob_net, c_lampAt hi, show W 0 3 i 0 = 0 from (hR.1.c3 i 0).trans hp, Option.bind_some, bnd_some, if_true]
theorem C_lamp_0 (C : CG z0 σ g) {i : Nat} (hi : i < 8) (hp : g 3 i 0 = 1) : m_X8_lampOf (some z0) (nI i) 0 σ = some (g 3 i 1, σ) := by
  obtain ⟨W, P, kp, h, H, hR, hI⟩ := C
  have hw0 : ¬ W 0 3 i 0 = 0 := fun e => one_ne (hp.symm.trans ((hR.1.c3 i 0).symm.trans e))
  refine QQ H ?_
  unfold m_X8_lampOf
  simp only [H.e0, ob_net, c_lampAt hi, if_neg hw0, if_neg (snn _), Option.bind_some, bnd_some, swK]
  rw [if_pos trivial]
  simp only [gI_lam_2 hi, hR.1.c3, Option.bind_some]
theorem C_lamp_1 (C : CG z0 σ g) {i : Nat} (hi : i < 8) (hp : g 3 i 0 = 1) : m_X8_lampOf (some z0) (nI i) 1 σ = some (g 3 i 2, σ) := by
  obtain ⟨W, P, kp, h, H, hR, hI⟩ := C
  have hw0 : ¬ W 0 3 i 0 = 0 := fun e => one_ne (hp.symm.trans ((hR.1.c3 i 0).symm.trans e))
  refine QQ H ?_
  unfold m_X8_lampOf
  simp only [H.e0, ob_net, c_lampAt hi, if_neg hw0, if_neg (snn _), Option.bind_some, bnd_some, swK]
  rw [if_neg (show ¬ (1 : Int32) = 0 by decide), if_pos trivial]
  simp only [gI_lam_3 hi, hR.1.c3, Option.bind_some]
theorem C_lamp_2 (C : CG z0 σ g) {i : Nat} (hi : i < 8) (hp : g 3 i 0 = 1) : m_X8_lampOf (some z0) (nI i) 2 σ = some (g 3 i 3, σ) := by
  obtain ⟨W, P, kp, h, H, hR, hI⟩ := C
  have hw0 : ¬ W 0 3 i 0 = 0 := fun e => one_ne (hp.symm.trans ((hR.1.c3 i 0).symm.trans e))
  refine QQ H ?_
  unfold m_X8_lampOf
  simp only [H.e0, ob_net, c_lampAt hi, if_neg hw0, if_neg (snn _), Option.bind_some, bnd_some, swK]
  rw [if_neg (show ¬ (2 : Int32) = 0 by decide), if_neg (show ¬ (2 : Int32) = 1 by decide), if_pos trivial]
  simp only [gI_lam_4 hi, hR.1.c3, Option.bind_some]
theorem C_lamp_3 (C : CG z0 σ g) {i : Nat} (hi : i < 8) (hp : g 3 i 0 = 1) : m_X8_lampOf (some z0) (nI i) 3 σ = some (g 3 i 4, σ) := by
  obtain ⟨W, P, kp, h, H, hR, hI⟩ := C
  have hw0 : ¬ W 0 3 i 0 = 0 := fun e => one_ne (hp.symm.trans ((hR.1.c3 i 0).symm.trans e))
  refine QQ H ?_
  unfold m_X8_lampOf
  simp only [H.e0, ob_net, c_lampAt hi, if_neg hw0, if_neg (snn _), Option.bind_some, bnd_some, swK]
  rw [if_neg (show ¬ (3 : Int32) = 0 by decide), if_neg (show ¬ (3 : Int32) = 1 by decide), if_neg (show ¬ (3 : Int32) = 2 by decide), if_pos trivial]
  simp only [gI_lam_5 hi, hR.1.c3, Option.bind_some]
theorem C_lamp_4 (C : CG z0 σ g) {i : Nat} (hi : i < 8) (hp : g 3 i 0 = 1) : m_X8_lampOf (some z0) (nI i) 4 σ = some (g 3 i 5, σ) := by
  obtain ⟨W, P, kp, h, H, hR, hI⟩ := C
  have hw0 : ¬ W 0 3 i 0 = 0 := fun e => one_ne (hp.symm.trans ((hR.1.c3 i 0).symm.trans e))
  refine QQ H ?_
  unfold m_X8_lampOf
  simp only [H.e0, ob_net, c_lampAt hi, if_neg hw0, if_neg (snn _), Option.bind_some, bnd_some, swK]
  rw [if_neg (show ¬ (4 : Int32) = 0 by decide), if_neg (show ¬ (4 : Int32) = 1 by decide), if_neg (show ¬ (4 : Int32) = 2 by decide), if_neg (show ¬ (4 : Int32) = 3 by decide), if_pos trivial]
  simp only [gI_lam_6 hi, hR.1.c3, Option.bind_some, c_asN (hI.2.2.1 i hi).2, bnd_some]
theorem C_queued_in (C : CG z0 σ g) {i j q : Nat} (hi : i < 5) (hp : g 1 i 0 = 1) (hq : g 1 i 3 = nI q) (hq6 : q ≤ 6) (hj : j < q) : m_X8_queued (some z0) (nI i) (nI j) σ = some (g 1 i (8 + j), σ) := by
  obtain ⟨W, P, kp, h, H, hR, hI⟩ := C
  have hw0 : ¬ W 0 1 i 0 = 0 := fun e => one_ne (hp.symm.trans ((hR.1.c1 i (by decide)).symm.trans e))
  have hqw : W 0 1 i 3 = nI q := (hR.1.c1 i (by decide)).trans hq
  have hj6 : j < 6 := by omega
  have hb : 0 ≤ nI j := nI_pos' (by omega)
  refine QQ H ?_
  unfold m_X8_queued m_X6_wordAt
  simp only [H.e0, ob_net, ob_snd hi, c_senderAt hi, if_neg hw0, if_neg (snn _), Option.bind_some, bnd_some, gI_snd_4 hi, gR_snd_3 hi, len_que hi, ald_que hi hj6, hqw]
  rw [if_pos hb, if_neg (Int32.not_lt.mpr hb), if_neg (nI_ge (by omega) (by omega)), if_pos (show nI j < 6 from nI_lt (b := 6) hj6 (by decide)), hR.1.cq i hj6 (by rw [hq]; exact nI_lt (by omega) (by omega))]
  rfl
theorem C_queued_out (C : CG z0 σ g) {i j q : Nat} (hi : i < 5) (hp : g 1 i 0 = 1) (hq : g 1 i 3 = nI q) (hq6 : q ≤ 6) (hj : q ≤ j) (hj2 : j < 100) : m_X8_queued (some z0) (nI i) (nI j) σ = some (-5, σ) := by
  obtain ⟨W, P, kp, h, H, hR, hI⟩ := C
  have hw0 : ¬ W 0 1 i 0 = 0 := fun e => one_ne (hp.symm.trans ((hR.1.c1 i (by decide)).symm.trans e))
  have hqw : W 0 1 i 3 = nI q := (hR.1.c1 i (by decide)).trans hq
  have hb : 0 ≤ nI j := nI_pos' (by omega)
  refine QQ H ?_
  unfold m_X8_queued m_X6_wordAt
  simp only [H.e0, ob_net, ob_snd hi, c_senderAt hi, if_neg hw0, if_neg (snn _), Option.bind_some, bnd_some, gI_snd_4 hi, hqw]
  rw [if_pos hb, if_neg (Int32.not_lt.mpr hb), if_pos (nI_le hj (by omega))]
  rfl
theorem C_frame {x p : Nat} (hx : x < 32) (hp : p < 14) (a : Option Nat) (σ : SG) : m_X8_frame a (nI x) (nI p) σ = some (frm (nI x) (nI p), σ) := by
  unfold m_X8_frame
  simp only [c_word hx, c_frameBit _ hp, bnd_some, one_ne, if_false]
  rw [if_neg (nI_pos (by omega)), if_pos (show nI p < 14 from nI_lt (b := 14) hp (by decide))]
theorem C_loss (C : CG z0 σ g) {i j : Nat} (hi : i < 6) (hj : j < 6) : m_X8_loss (some z0) (nI i) (nI j) σ = some (lossG g (nI i) (nI j), σ) := by
  obtain ⟨W, P, kp, h, H, hR, hI⟩ := C
  refine QQ H ?_
  unfold m_X8_loss
  simp only [c_wire hi, c_wire hj, bnd_some, one_ne, if_false, H.e0, ob_net, c_loss, lossG_rel hR.1, Option.bind_some]
theorem C_total (C : CG z0 σ g) {j : Nat} (hj : j < 5) : m_X8_total (some z0) (nI j) σ = some (g 7 0 j, σ) := by
  obtain ⟨W, P, kp, h, H, hR, hI⟩ := C
  refine QQ H ?_
  unfold m_X8_total
  simp only [H.e0, gR_net_5, ald_6 hj, hR.1.c7, Option.bind_some]
  rw [if_neg (nI_pos (by omega)), if_pos (show nI j < 5 from nI_lt (b := 5) hj (by decide))]
theorem C_rcv_out (C : CG z0 σ g) (b : Int32) : m_X8_receiver (some z0) 6 b σ = some (-1, σ) := by
  unfold m_X8_receiver
  simp only [c_wire_out (show (6 : Int32) < 0 ∨ nI 6 ≤ (6 : Int32) from Or.inr (by decide)), bnd_some, if_true]
theorem C_rcv_0 (C : CG z0 σ g) {i : Nat} (hi : i < 6) : m_X8_receiver (some z0) (nI i) 0 σ = some (if g 4 i 0 = 0 then -5 else g 4 i 2, σ) := by
  obtain ⟨W, P, kp, h, H, hR, hI⟩ := C
  obtain ⟨r0, r1, r2, r4, r5, r6, -⟩ := hR.2 i hi
  obtain ⟨hb, -⟩ := hI.2.2.2 i hi
  refine QQ H ?_
  unfold m_X8_receiver
  simp only [c_wire hi, bnd_some, one_ne, if_false, H.e0, gR_net_3, ald_4 hi, Option.bind_some, swK]
  rw [if_pos trivial]
  simp only [gI_rcv_0 hi, gI_rcv_2 hi, r0, Option.bind_some]
  rcases hb with hb | hb
  · rw [if_pos hb, if_pos hb]
  · rw [if_neg (by rw [hb]; decide), if_neg (by rw [hb]; decide), (r2 hb).1]
theorem C_rcv_1 (C : CG z0 σ g) {i : Nat} (hi : i < 6) : m_X8_receiver (some z0) (nI i) 1 σ = some (if g 4 i 0 = 0 then g 4 i 1 else -5, σ) := by
  obtain ⟨W, P, kp, h, H, hR, hI⟩ := C
  obtain ⟨r0, r1, r2, r4, r5, r6, -⟩ := hR.2 i hi
  obtain ⟨hb, -⟩ := hI.2.2.2 i hi
  refine QQ H ?_
  unfold m_X8_receiver
  simp only [c_wire hi, bnd_some, one_ne, if_false, H.e0, gR_net_3, ald_4 hi, Option.bind_some, swK]
  rw [if_pos trivial]
  simp only [gI_rcv_0 hi, gI_rcv_1 hi, r0, r1, Option.bind_some]
  split <;> rfl
theorem C_rcv_2 (C : CG z0 σ g) {i : Nat} (hi : i < 6) : m_X8_receiver (some z0) (nI i) 2 σ = some (if g 4 i 4 = 0 then -5 else g 4 i 4 - 1, σ) := by
  obtain ⟨W, P, kp, h, H, hR, hI⟩ := C
  obtain ⟨r0, r1, r2, r4, r5, r6, -⟩ := hR.2 i hi
  obtain ⟨hb, -⟩ := hI.2.2.2 i hi
  refine QQ H ?_
  unfold m_X8_receiver
  simp only [c_wire hi, bnd_some, one_ne, if_false, H.e0, gR_net_3, ald_4 hi, Option.bind_some, swK]
  rw [if_neg (show ¬ (2 : Int32) = 0 by decide), if_neg (show ¬ (2 : Int32) = 1 by decide), if_pos trivial]
  simp only [gI_rcv_4 hi, Option.bind_some]
  rcases r4 with ⟨e1, e2⟩ | ⟨u, hu, e1, e2⟩
  · rw [if_pos e1, e2]
  · rw [if_neg (by rw [e1]; exact nI_ne0 (by omega) (by omega)), e1, e2, nI_pr]
theorem C_rcv_3 (C : CG z0 σ g) {i : Nat} (hi : i < 6) : m_X8_receiver (some z0) (nI i) 3 σ = some (if g 4 i 4 = 0 then -5 else g 0 0 0 - g 4 i 5, σ) := by
  obtain ⟨W, P, kp, h, H, hR, hI⟩ := C
  obtain ⟨r0, r1, r2, r4, r5, r6, -⟩ := hR.2 i hi
  obtain ⟨hb, -⟩ := hI.2.2.2 i hi
  refine QQ H ?_
  unfold m_X8_receiver
  simp only [c_wire hi, bnd_some, one_ne, if_false, H.e0, gR_net_3, ald_4 hi, Option.bind_some, swK]
  rw [if_neg (show ¬ (3 : Int32) = 0 by decide), if_neg (show ¬ (3 : Int32) = 1 by decide), if_neg (show ¬ (3 : Int32) = 2 by decide), if_pos trivial]
  simp only [gI_rcv_4 hi, gI_rcv_5 hi, gI_net_6, r5, hR.1.c0, Option.bind_some]
  rcases r4 with ⟨e1, e2⟩ | ⟨u, hu, e1, e2⟩
  · rw [if_pos e2, if_pos e1]
  · rw [if_neg (by rw [e2]; exact nI_m5 hu), if_neg (by rw [e1]; exact nI_ne0 (by omega) (by omega))]
theorem C_rcv_4 (C : CG z0 σ g) {i : Nat} (hi : i < 6) : m_X8_receiver (some z0) (nI i) 4 σ = some (g 4 i 6, σ) := by
  obtain ⟨W, P, kp, h, H, hR, hI⟩ := C
  obtain ⟨r0, r1, r2, r4, r5, r6, -⟩ := hR.2 i hi
  obtain ⟨hb, -⟩ := hI.2.2.2 i hi
  refine QQ H ?_
  unfold m_X8_receiver
  simp only [c_wire hi, bnd_some, one_ne, if_false, H.e0, gR_net_3, ald_4 hi, Option.bind_some, swK]
  rw [if_neg (show ¬ (4 : Int32) = 0 by decide), if_neg (show ¬ (4 : Int32) = 1 by decide), if_neg (show ¬ (4 : Int32) = 2 by decide), if_neg (show ¬ (4 : Int32) = 3 by decide), if_pos trivial]
  simp only [gI_rcv_6 hi, r6, Option.bind_some]
theorem C_count_0 (C : CG z0 σ g) : m_X8_count (some z0) 0 σ = some (g 0 0 0, σ) := by
  obtain ⟨W, P, kp, h, H, hR, hI⟩ := C
  have hB := hR.1
  have bS : ∀ i, i < 5 → b01 (W 0 1 i 0) ∧ b01 (W 0 1 i 4) := fun i hi => by
    rw [hB.c1 i (by decide), hB.c1 i (by decide)]
    exact ⟨(hI.1 i hi).1, (hI.1 i hi).2.1⟩
  refine QQ H ?_
  unfold m_X8_count
  simp only [swK]
  rw [if_pos trivial]
  simp only [H.e0, gI_net_6, hB.c0, Option.bind_some, bnd_some]
theorem C_count_1 (C : CG z0 σ g) : m_X8_count (some z0) 1 σ = some (sm (fun k => g 1 k 0) 5 0 0, σ) := by
  obtain ⟨W, P, kp, h, H, hR, hI⟩ := C
  have hB := hR.1
  have bS : ∀ i, i < 5 → b01 (W 0 1 i 0) ∧ b01 (W 0 1 i 4) := fun i hi => by
    rw [hB.c1 i (by decide), hB.c1 i (by decide)]
    exact ⟨(hI.1 i hi).1, (hI.1 i hi).2.1⟩
  refine QQ H ?_
  unfold m_X8_count
  simp only [swK]
  rw [if_neg (show ¬ (1 : Int32) = 0 by decide), if_pos trivial]
  simp only [H.e0, gR_net_0, c_pinS (fun i hi => (bS i hi).1), Option.bind_some, bnd_some]
  rw [sm_congr (N := 5) (f' := fun k => g 1 k 0) (fun i hi => hB.c1 i (by decide)) 5 0 0 (by omega)]
theorem C_count_2 (C : CG z0 σ g) : m_X8_count (some z0) 2 σ = some (sm (fun k => g 2 k 0) 4 0 0, σ) := by
  obtain ⟨W, P, kp, h, H, hR, hI⟩ := C
  have hB := hR.1
  have bS : ∀ i, i < 5 → b01 (W 0 1 i 0) ∧ b01 (W 0 1 i 4) := fun i hi => by
    rw [hB.c1 i (by decide), hB.c1 i (by decide)]
    exact ⟨(hI.1 i hi).1, (hI.1 i hi).2.1⟩
  refine QQ H ?_
  unfold m_X8_count
  simp only [swK]
  rw [if_neg (show ¬ (2 : Int32) = 0 by decide), if_neg (show ¬ (2 : Int32) = 1 by decide), if_pos trivial]
  simp only [H.e0, gR_net_1, c_pinM (b_M hI hR), Option.bind_some, bnd_some]
  rw [sm_congr (N := 4) (f' := fun k => g 2 k 0) (fun i hi => hB.c2 i (Or.inl (by decide))) 4 0 0 (by omega)]
theorem C_count_3 (C : CG z0 σ g) : m_X8_count (some z0) 3 σ = some (sm (fun k => g 3 k 0) 8 0 0, σ) := by
  obtain ⟨W, P, kp, h, H, hR, hI⟩ := C
  have hB := hR.1
  have bS : ∀ i, i < 5 → b01 (W 0 1 i 0) ∧ b01 (W 0 1 i 4) := fun i hi => by
    rw [hB.c1 i (by decide), hB.c1 i (by decide)]
    exact ⟨(hI.1 i hi).1, (hI.1 i hi).2.1⟩
  refine QQ H ?_
  unfold m_X8_count
  simp only [swK]
  rw [if_neg (show ¬ (3 : Int32) = 0 by decide), if_neg (show ¬ (3 : Int32) = 1 by decide), if_neg (show ¬ (3 : Int32) = 2 by decide), if_pos trivial]
  simp only [H.e0, gR_net_2, c_pinL (b_L hI hR), Option.bind_some, bnd_some]
  rw [sm_congr (N := 8) (f' := fun k => g 3 k 0) (fun i hi => hB.c3 i 0) 8 0 0 (by omega)]
theorem C_count_4 (C : CG z0 σ g) : m_X8_count (some z0) 4 σ = some (sm (fun k => if g 1 k 0 = 1 then g 1 k 4 else 0) 5 0 0, σ) := by
  obtain ⟨W, P, kp, h, H, hR, hI⟩ := C
  have hB := hR.1
  have bS : ∀ i, i < 5 → b01 (W 0 1 i 0) ∧ b01 (W 0 1 i 4) := fun i hi => by
    rw [hB.c1 i (by decide), hB.c1 i (by decide)]
    exact ⟨(hI.1 i hi).1, (hI.1 i hi).2.1⟩
  refine QQ H ?_
  unfold m_X8_count
  simp only [swK]
  rw [if_neg (show ¬ (4 : Int32) = 0 by decide), if_neg (show ¬ (4 : Int32) = 1 by decide), if_neg (show ¬ (4 : Int32) = 2 by decide), if_neg (show ¬ (4 : Int32) = 3 by decide), if_pos trivial]
  simp only [H.e0, ob_net, c_spks bS, Option.bind_some, bnd_some]
  rw [sm_congr (N := 5) (f' := fun k => if g 1 k 0 = 1 then g 1 k 4 else 0) (fun i hi => by rw [hB.c1 i (by decide), hB.c1 i (by decide)]) 5 0 0 (by omega)]
theorem C_count_5 (C : CG z0 σ g) : m_X8_count (some z0) 5 σ = some (qs g, σ) := by
  obtain ⟨W, P, kp, h, H, hR, hI⟩ := C
  have hB := hR.1
  have bS : ∀ i, i < 5 → b01 (W 0 1 i 0) ∧ b01 (W 0 1 i 4) := fun i hi => by
    rw [hB.c1 i (by decide), hB.c1 i (by decide)]
    exact ⟨(hI.1 i hi).1, (hI.1 i hi).2.1⟩
  refine QQ H ?_
  unfold m_X8_count
  simp only [swK]
  rw [if_neg (show ¬ (5 : Int32) = 0 by decide), if_neg (show ¬ (5 : Int32) = 1 by decide), if_neg (show ¬ (5 : Int32) = 2 by decide), if_neg (show ¬ (5 : Int32) = 3 by decide), if_neg (show ¬ (5 : Int32) = 4 by decide), if_pos trivial]
  simp only [H.e0, ob_net, c_que, Option.bind_some, bnd_some]
  rw [que_eq hR hI]
  rfl
theorem C_count_6 (C : CG z0 σ g) : m_X8_count (some z0) 6 σ = some (sm (fun k => if g 3 k 0 = 0 then 0 else if g 3 k 4 ≤ 0 then 0 else 1) 8 0 0, σ) := by
  obtain ⟨W, P, kp, h, H, hR, hI⟩ := C
  have hB := hR.1
  have bS : ∀ i, i < 5 → b01 (W 0 1 i 0) ∧ b01 (W 0 1 i 4) := fun i hi => by
    rw [hB.c1 i (by decide), hB.c1 i (by decide)]
    exact ⟨(hI.1 i hi).1, (hI.1 i hi).2.1⟩
  refine QQ H ?_
  unfold m_X8_count
  simp only [swK]
  rw [if_neg (show ¬ (6 : Int32) = 0 by decide), if_neg (show ¬ (6 : Int32) = 1 by decide), if_neg (show ¬ (6 : Int32) = 2 by decide), if_neg (show ¬ (6 : Int32) = 3 by decide), if_neg (show ¬ (6 : Int32) = 4 by decide), if_neg (show ¬ (6 : Int32) = 5 by decide), if_pos trivial]
  simp only [H.e0, ob_net, c_lit, Option.bind_some, bnd_some]
  rw [sm_congr (N := 8) (f' := fun k => if g 3 k 0 = 0 then 0 else if g 3 k 4 ≤ 0 then 0 else 1) (fun i hi => by rw [hB.c3 i 0, hB.c3 i 4]) 8 0 0 (by omega)]
theorem C_count_7 (C : CG z0 σ g) : m_X8_count (some z0) 7 σ = some (g 6 0 0, σ) := by
  obtain ⟨W, P, kp, h, H, hR, hI⟩ := C
  have hB := hR.1
  have bS : ∀ i, i < 5 → b01 (W 0 1 i 0) ∧ b01 (W 0 1 i 4) := fun i hi => by
    rw [hB.c1 i (by decide), hB.c1 i (by decide)]
    exact ⟨(hI.1 i hi).1, (hI.1 i hi).2.1⟩
  refine QQ H ?_
  unfold m_X8_count
  simp only [swK]
  rw [if_neg (show ¬ (7 : Int32) = 0 by decide), if_neg (show ¬ (7 : Int32) = 1 by decide), if_neg (show ¬ (7 : Int32) = 2 by decide), if_neg (show ¬ (7 : Int32) = 3 by decide), if_neg (show ¬ (7 : Int32) = 4 by decide), if_neg (show ¬ (7 : Int32) = 5 by decide), if_neg (show ¬ (7 : Int32) = 6 by decide), if_pos trivial]
  have e : sAld (some (NA z0 0 + 5)) 1 0 (ovr σ (NA z0 0) (W 0)) = some (W 0 6 0 0) := ald_5 (i := 0) (by decide)
  simp only [H.e0, gR_net_4, e, hB.c6, Option.bind_some, bnd_some]
theorem C_count_8 (C : CG z0 σ g) : m_X8_count (some z0) 8 σ = some (g 6 0 1, σ) := by
  obtain ⟨W, P, kp, h, H, hR, hI⟩ := C
  have hB := hR.1
  have bS : ∀ i, i < 5 → b01 (W 0 1 i 0) ∧ b01 (W 0 1 i 4) := fun i hi => by
    rw [hB.c1 i (by decide), hB.c1 i (by decide)]
    exact ⟨(hI.1 i hi).1, (hI.1 i hi).2.1⟩
  refine QQ H ?_
  unfold m_X8_count
  simp only [swK]
  rw [if_neg (show ¬ (8 : Int32) = 0 by decide), if_neg (show ¬ (8 : Int32) = 1 by decide), if_neg (show ¬ (8 : Int32) = 2 by decide), if_neg (show ¬ (8 : Int32) = 3 by decide), if_neg (show ¬ (8 : Int32) = 4 by decide), if_neg (show ¬ (8 : Int32) = 5 by decide), if_neg (show ¬ (8 : Int32) = 6 by decide), if_neg (show ¬ (8 : Int32) = 7 by decide), if_pos trivial]
  have e : sAld (some (NA z0 0 + 5)) 1 1 (ovr σ (NA z0 0) (W 0)) = some (W 0 6 0 1) := ald_5 (i := 1) (by decide)
  simp only [H.e0, gR_net_4, e, hB.c6, Option.bind_some, bnd_some]
theorem C_count_9 (C : CG z0 σ g) : m_X8_count (some z0) 9 σ = some (g 6 0 2, σ) := by
  obtain ⟨W, P, kp, h, H, hR, hI⟩ := C
  have hB := hR.1
  have bS : ∀ i, i < 5 → b01 (W 0 1 i 0) ∧ b01 (W 0 1 i 4) := fun i hi => by
    rw [hB.c1 i (by decide), hB.c1 i (by decide)]
    exact ⟨(hI.1 i hi).1, (hI.1 i hi).2.1⟩
  refine QQ H ?_
  unfold m_X8_count
  simp only [swK]
  rw [if_neg (show ¬ (9 : Int32) = 0 by decide), if_neg (show ¬ (9 : Int32) = 1 by decide), if_neg (show ¬ (9 : Int32) = 2 by decide), if_neg (show ¬ (9 : Int32) = 3 by decide), if_neg (show ¬ (9 : Int32) = 4 by decide), if_neg (show ¬ (9 : Int32) = 5 by decide), if_neg (show ¬ (9 : Int32) = 6 by decide), if_neg (show ¬ (9 : Int32) = 7 by decide), if_neg (show ¬ (9 : Int32) = 8 by decide), if_pos trivial]
  have e : sAld (some (NA z0 0 + 5)) 1 2 (ovr σ (NA z0 0) (W 0)) = some (W 0 6 0 2) := ald_5 (i := 2) (by decide)
  simp only [H.e0, gR_net_4, e, hB.c6, Option.bind_some, bnd_some]
theorem C_count_10 (C : CG z0 σ g) : m_X8_count (some z0) 10 σ = some (g 6 0 3, σ) := by
  obtain ⟨W, P, kp, h, H, hR, hI⟩ := C
  have hB := hR.1
  have bS : ∀ i, i < 5 → b01 (W 0 1 i 0) ∧ b01 (W 0 1 i 4) := fun i hi => by
    rw [hB.c1 i (by decide), hB.c1 i (by decide)]
    exact ⟨(hI.1 i hi).1, (hI.1 i hi).2.1⟩
  refine QQ H ?_
  unfold m_X8_count
  simp only [swK]
  rw [if_neg (show ¬ (10 : Int32) = 0 by decide), if_neg (show ¬ (10 : Int32) = 1 by decide), if_neg (show ¬ (10 : Int32) = 2 by decide), if_neg (show ¬ (10 : Int32) = 3 by decide), if_neg (show ¬ (10 : Int32) = 4 by decide), if_neg (show ¬ (10 : Int32) = 5 by decide), if_neg (show ¬ (10 : Int32) = 6 by decide), if_neg (show ¬ (10 : Int32) = 7 by decide), if_neg (show ¬ (10 : Int32) = 8 by decide), if_neg (show ¬ (10 : Int32) = 9 by decide), if_pos trivial]
  have e : sAld (some (NA z0 0 + 5)) 1 3 (ovr σ (NA z0 0) (W 0)) = some (W 0 6 0 3) := ald_5 (i := 3) (by decide)
  simp only [H.e0, gR_net_4, e, hB.c6, Option.bind_some, bnd_some]
theorem C_fresh (C : CG z0 σ g) : ∃ f, m_X8_freshness (some z0) σ = some (f, σ) ∧ ((g 7 0 2 + g 7 0 3) + g 7 0 4 = 0 → f = FP.fconst0) ∧ (¬ (g 7 0 2 + g 7 0 3) + g 7 0 4 = 0 → f = FP.fdiv (FP.i2f (g 7 0 2)) (FP.i2f ((g 7 0 2 + g 7 0 3) + g 7 0 4))) ∧ f &&& 0x7fffffff ≤ 0x7f800000 := by
  obtain ⟨W, P, kp, h, H, hR, hI⟩ := C
  have a2 : ∀ τ w, sAld (some (NA z0 0 + 6)) 1 2 (ovr τ (NA z0 0) w) = some (w 7 0 2) := fun τ w => ald_6 (i := 2) (by decide)
  have a3 : ∀ τ w, sAld (some (NA z0 0 + 6)) 1 3 (ovr τ (NA z0 0) w) = some (w 7 0 3) := fun τ w => ald_6 (i := 3) (by decide)
  have a4 : ∀ τ w, sAld (some (NA z0 0 + 6)) 1 4 (ovr τ (NA z0 0) w) = some (w 7 0 4) := fun τ w => ald_6 (i := 4) (by decide)
  by_cases h0 : (g 7 0 2 + g 7 0 3) + g 7 0 4 = 0
  · refine ⟨FP.fconst0, QQ H ?_, fun _ => rfl, fun hn => absurd h0 hn, by decide⟩
    unfold m_X8_freshness
    simp only [H.e0, gR_net_5, a2, a3, a4, hR.1.c7, Option.bind_some, h0, if_true]
  · refine ⟨FP.fdiv (FP.i2f (g 7 0 2)) (FP.i2f ((g 7 0 2 + g 7 0 3) + g 7 0 4)), QQ H ?_, fun h => absurd h h0, fun _ => rfl, fp_div _ h0⟩
    unfold m_X8_freshness
    simp only [H.e0, gR_net_5, a2, a3, a4, hR.1.c7, Option.bind_some, s_fdiv _ h0]
    rw [if_neg h0]
end CQ
