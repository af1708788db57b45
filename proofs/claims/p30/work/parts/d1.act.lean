/-! p30: things are removed; words, settings, beats; what was is brought back; what would be -/
section ATS
variable {z0 T : Nat} {σ : SG} {g : NW} {s u : Option (Nat × NW)}
theorem A_remove0_no (S : ST z0 σ T g s u) {i : Nat} (hi : i < 5) (hp : g 1 i 0 = 0) : m_X8_remove (some z0) 0 (nI i) σ = some (-1, σ) := by
  obtain ⟨W, P, kp, h, H, hR, hI, hJ, K⟩ := S
  have et' : m_X3_thingsOf (some (NA z0 0)) 0 σ = some (some (NA z0 0 + 1), σ) := by
    have e : m_X3_thingsOf (some (NA z0 0)) 0 (ovr σ (NA z0 0) (W 0)) = some (some (NA z0 0 + 1), ovr σ (NA z0 0) (W 0)) := by
      unfold m_X3_thingsOf
      simp only [swK]
      rw [if_pos trivial]
      simp only [gR_net_0, Option.bind_some]
    rwa [H.neq (by decide)] at e
  have ep := c_presS (σ := σ) (n := NA z0 0) (w := W 0) hi
  rw [H.neq (by decide), hR.1.c1 i (by decide), if_pos hp] at ep
  unfold m_X8_remove
  simp only [H.g0, H.oN (show 0 < 7 by decide), Option.bind_some, et', bnd_some, ep]
  rw [if_neg (fun e => nomatch e), if_pos trivial]
theorem A_remove0 (S : ST z0 σ T g s u) {i : Nat} (hi : i < 5) (hp : g 1 i 0 = 1) : ∃ σ', m_X8_remove (some z0) 0 (nI i) σ = some (g 1 i 1, σ') ∧ ST z0 σ' T (up3 g 1 i 0 0) s (some (T, g)) := by
  obtain ⟨W, P, kp, h, H, hR, hI, hJ, K⟩ := S
  have et' : m_X3_thingsOf (some (NA z0 0)) 0 σ = some (some (NA z0 0 + 1), σ) := by
    have e : m_X3_thingsOf (some (NA z0 0)) 0 (ovr σ (NA z0 0) (W 0)) = some (some (NA z0 0 + 1), ovr σ (NA z0 0) (W 0)) := by
      unfold m_X3_thingsOf
      simp only [swK]
      rw [if_pos trivial]
      simp only [gR_net_0, Option.bind_some]
    rwa [H.neq (by decide)] at e
  have ep := c_presS (σ := σ) (n := NA z0 0) (w := W 0) hi
  rw [H.neq (by decide), hR.1.c1 i (by decide), if_neg (by rw [hp]; exact one_ne)] at ep
  obtain ⟨σ1, W1, P1, ek, H1, -, hR1, K1⟩ := s_keep H hR hI hJ K
  have e1 := pZT_snd_1 (σ := σ1) (n := NA z0 0) (w := W1 0) hi 0 (Or.inl rfl)
  rw [H1.neq (by decide)] at e1
  have e2 := gT_snd_2 (σ := σ1) (n := NA z0 0) (w := up3 (W1 0) 1 i 0 0) hi
  rw [show up3 (W1 0) 1 i 0 0 1 i 1 = W1 0 1 i 1 from if_neg (by omega), hR1.1.c1 i (by decide)] at e2
  refine ⟨_, ?_, s_fin H1 K1 (rel_gone hR1 i (Or.inl rfl)) (inv_gone hI i (Or.inl rfl)) (hJ.slot (c0 := 1) (i0 := i) (Or.inl rfl) (fun c' i' j hn => up3_slot _ _ hn) (fun e => ?_) (fun e => ?_))⟩
  · unfold m_X8_remove
    simp only [H.g0, H.g4, H.oN (show 0 < 7 by decide), H.oH, Option.bind_some, et', bnd_some, ep, ek, e1, e2]
    rw [if_neg (fun e => nomatch e), if_neg (fun e => nomatch e)]
  · first
      | exact absurd e (by decide)
      | (intro h1; rw [up3_eq] at h1; exact absurd h1 (by decide))
  · first
      | exact absurd e (by decide)
      | (intro h1; rw [up3_eq] at h1; exact absurd h1 (by decide))
theorem A_remove1_no (S : ST z0 σ T g s u) {i : Nat} (hi : i < 4) (hp : g 2 i 0 = 0) : m_X8_remove (some z0) 1 (nI i) σ = some (-1, σ) := by
  obtain ⟨W, P, kp, h, H, hR, hI, hJ, K⟩ := S
  have et' : m_X3_thingsOf (some (NA z0 0)) 1 σ = some (some (NA z0 0 + 2), σ) := by
    have e : m_X3_thingsOf (some (NA z0 0)) 1 (ovr σ (NA z0 0) (W 0)) = some (some (NA z0 0 + 2), ovr σ (NA z0 0) (W 0)) := by
      unfold m_X3_thingsOf
      simp only [swK]
      rw [if_neg (show ¬ (1 : Int32) = 0 by decide), if_pos trivial]
      simp only [gR_net_1, Option.bind_some]
    rwa [H.neq (by decide)] at e
  have ep := c_presM (σ := σ) (n := NA z0 0) (w := W 0) hi
  rw [H.neq (by decide), hR.1.c2 i (Or.inl (by decide)), if_pos hp] at ep
  unfold m_X8_remove
  simp only [H.g0, H.oN (show 0 < 7 by decide), Option.bind_some, et', bnd_some, ep]
  rw [if_neg (fun e => nomatch e), if_pos trivial]
theorem A_remove1 (S : ST z0 σ T g s u) {i : Nat} (hi : i < 4) (hp : g 2 i 0 = 1) : ∃ σ', m_X8_remove (some z0) 1 (nI i) σ = some (g 2 i 1, σ') ∧ ST z0 σ' T (up3 g 2 i 0 0) s (some (T, g)) := by
  obtain ⟨W, P, kp, h, H, hR, hI, hJ, K⟩ := S
  have et' : m_X3_thingsOf (some (NA z0 0)) 1 σ = some (some (NA z0 0 + 2), σ) := by
    have e : m_X3_thingsOf (some (NA z0 0)) 1 (ovr σ (NA z0 0) (W 0)) = some (some (NA z0 0 + 2), ovr σ (NA z0 0) (W 0)) := by
      unfold m_X3_thingsOf
      simp only [swK]
      rw [if_neg (show ¬ (1 : Int32) = 0 by decide), if_pos trivial]
      simp only [gR_net_1, Option.bind_some]
    rwa [H.neq (by decide)] at e
  have ep := c_presM (σ := σ) (n := NA z0 0) (w := W 0) hi
  rw [H.neq (by decide), hR.1.c2 i (Or.inl (by decide)), if_neg (by rw [hp]; exact one_ne)] at ep
  obtain ⟨σ1, W1, P1, ek, H1, -, hR1, K1⟩ := s_keep H hR hI hJ K
  have e1 := pZT_mac_1 (σ := σ1) (n := NA z0 0) (w := W1 0) hi 0 (Or.inl rfl)
  rw [H1.neq (by decide)] at e1
  have e2 := gT_mac_2 (σ := σ1) (n := NA z0 0) (w := up3 (W1 0) 2 i 0 0) hi
  rw [show up3 (W1 0) 2 i 0 0 2 i 1 = W1 0 2 i 1 from if_neg (by omega), hR1.1.c2 i (Or.inl (by decide))] at e2
  refine ⟨_, ?_, s_fin H1 K1 (rel_gone hR1 i (Or.inr (Or.inl rfl))) (inv_gone hI i (Or.inr (Or.inl rfl))) (hJ.slot (c0 := 2) (i0 := i) (Or.inr (Or.inl rfl)) (fun c' i' j hn => up3_slot _ _ hn) (fun e => ?_) (fun e => ?_))⟩
  · unfold m_X8_remove
    simp only [H.g0, H.g4, H.oN (show 0 < 7 by decide), H.oH, Option.bind_some, et', bnd_some, ep, ek, e1, e2]
    rw [if_neg (fun e => nomatch e), if_neg (fun e => nomatch e)]
  · first
      | exact absurd e (by decide)
      | (intro h1; rw [up3_eq] at h1; exact absurd h1 (by decide))
  · first
      | exact absurd e (by decide)
      | (intro h1; rw [up3_eq] at h1; exact absurd h1 (by decide))
theorem A_remove2_no (S : ST z0 σ T g s u) {i : Nat} (hi : i < 8) (hp : g 3 i 0 = 0) : m_X8_remove (some z0) 2 (nI i) σ = some (-1, σ) := by
  obtain ⟨W, P, kp, h, H, hR, hI, hJ, K⟩ := S
  have et' : m_X3_thingsOf (some (NA z0 0)) 2 σ = some (some (NA z0 0 + 3), σ) := by
    have e : m_X3_thingsOf (some (NA z0 0)) 2 (ovr σ (NA z0 0) (W 0)) = some (some (NA z0 0 + 3), ovr σ (NA z0 0) (W 0)) := by
      unfold m_X3_thingsOf
      simp only [swK]
      rw [if_neg (show ¬ (2 : Int32) = 0 by decide), if_neg (show ¬ (2 : Int32) = 1 by decide), if_pos trivial]
      simp only [gR_net_2, Option.bind_some]
    rwa [H.neq (by decide)] at e
  have ep := c_presL (σ := σ) (n := NA z0 0) (w := W 0) hi
  rw [H.neq (by decide), hR.1.c3 i 0, if_pos hp] at ep
  unfold m_X8_remove
  simp only [H.g0, H.oN (show 0 < 7 by decide), Option.bind_some, et', bnd_some, ep]
  rw [if_neg (fun e => nomatch e), if_pos trivial]
theorem A_remove2 (S : ST z0 σ T g s u) {i : Nat} (hi : i < 8) (hp : g 3 i 0 = 1) : ∃ σ', m_X8_remove (some z0) 2 (nI i) σ = some (g 3 i 1, σ') ∧ ST z0 σ' T (up3 g 3 i 0 0) s (some (T, g)) := by
  obtain ⟨W, P, kp, h, H, hR, hI, hJ, K⟩ := S
  have et' : m_X3_thingsOf (some (NA z0 0)) 2 σ = some (some (NA z0 0 + 3), σ) := by
    have e : m_X3_thingsOf (some (NA z0 0)) 2 (ovr σ (NA z0 0) (W 0)) = some (some (NA z0 0 + 3), ovr σ (NA z0 0) (W 0)) := by
      unfold m_X3_thingsOf
      simp only [swK]
      rw [if_neg (show ¬ (2 : Int32) = 0 by decide), if_neg (show ¬ (2 : Int32) = 1 by decide), if_pos trivial]
      simp only [gR_net_2, Option.bind_some]
    rwa [H.neq (by decide)] at e
  have ep := c_presL (σ := σ) (n := NA z0 0) (w := W 0) hi
  rw [H.neq (by decide), hR.1.c3 i 0, if_neg (by rw [hp]; exact one_ne)] at ep
  obtain ⟨σ1, W1, P1, ek, H1, -, hR1, K1⟩ := s_keep H hR hI hJ K
  have e1 := pZT_lam_1 (σ := σ1) (n := NA z0 0) (w := W1 0) hi 0 (Or.inl rfl)
  rw [H1.neq (by decide)] at e1
  have e2 := gT_lam_2 (σ := σ1) (n := NA z0 0) (w := up3 (W1 0) 3 i 0 0) hi
  rw [show up3 (W1 0) 3 i 0 0 3 i 1 = W1 0 3 i 1 from if_neg (by omega), hR1.1.c3 i 1] at e2
  refine ⟨_, ?_, s_fin H1 K1 (rel_gone hR1 i (Or.inr (Or.inr rfl))) (inv_gone hI i (Or.inr (Or.inr rfl))) (hJ.slot (c0 := 3) (i0 := i) (Or.inr (Or.inr rfl)) (fun c' i' j hn => up3_slot _ _ hn) (fun e => ?_) (fun e => ?_))⟩
  · unfold m_X8_remove
    simp only [H.g0, H.g4, H.oN (show 0 < 7 by decide), H.oH, Option.bind_some, et', bnd_some, ep, ek, e1, e2]
    rw [if_neg (fun e => nomatch e), if_neg (fun e => nomatch e)]
  · first
      | exact absurd e (by decide)
      | (intro h1; rw [up3_eq] at h1; exact absurd h1 (by decide))
  · first
      | exact absurd e (by decide)
      | (intro h1; rw [up3_eq] at h1; exact absurd h1 (by decide))
theorem A_remove1_out (S : ST z0 σ T g s u) : m_X8_remove (some z0) 1 4 σ = some (-1, σ) := by
  obtain ⟨W, P, kp, h, H, hR, hI, hJ, K⟩ := S
  have et' : m_X3_thingsOf (some (NA z0 0)) 1 σ = some (some (NA z0 0 + 2), σ) := by
    have e : m_X3_thingsOf (some (NA z0 0)) 1 (ovr σ (NA z0 0) (W 0)) = some (some (NA z0 0 + 2), ovr σ (NA z0 0) (W 0)) := by
      unfold m_X3_thingsOf
      simp only [swK]
      rw [if_neg (show ¬ (1 : Int32) = 0 by decide), if_pos trivial]
      simp only [gR_net_1, Option.bind_some]
    rwa [H.neq (by decide)] at e
  have ep := c_presM_out (σ := σ) (n := NA z0 0) (w := W 0) (a := 4) (Or.inr (by decide))
  rw [H.neq (by decide)] at ep
  unfold m_X8_remove
  simp only [H.g0, H.oN (show 0 < 7 by decide), Option.bind_some, et', bnd_some, ep]
  rw [if_neg (fun e => nomatch e), if_pos trivial]
theorem say_no {W : Nat → NW} {P : Nat → Nat} {kp : Nat} {h : Int32} (H : HS z0 σ W P kp h) (hR : Rel g (W 0)) {i : Nat} (hi : i < 5) (hp : g 1 i 0 = 0) (b : Int32) : m_X8_say (some z0) (nI i) b σ = some (-1, σ) := by
  have e : m_X3_refusalOfWord (some (NA z0 0)) (nI i) b (ovr σ (NA z0 0) (W 0)) = some (-1, ovr σ (NA z0 0) (W 0)) := by
    unfold m_X3_refusalOfWord
    simp only [ob_net, c_senderAt hi, hR.1.c1 i (show 0 < 8 by decide), hp, Option.bind_some, bnd_some, if_true]
  rw [H.neq (by decide)] at e
  unfold m_X8_say
  simp only [H.g0, H.oN (show 0 < 7 by decide), e, Option.bind_some, bnd_some]
  rw [if_neg (by decide)]
theorem A_say_no (S : ST z0 σ T g s u) {i : Nat} (hi : i < 5) (hp : g 1 i 0 = 0) (b : Int32) : m_X8_say (some z0) (nI i) b σ = some (-1, σ) := by
  obtain ⟨W, P, kp, h, H, hR, hI, hJ, K⟩ := S
  exact say_no H hR hi hp b
theorem A_say_full (S : ST z0 σ T g s u) {i x : Nat} (hi : i < 5) (hp : g 1 i 0 = 1) (hq : g 1 i 3 = nI 6) (hx : x < 32) : m_X8_say (some z0) (nI i) (nI x) σ = some (-3, σ) := by
  obtain ⟨W, P, kp, h, H, hR, hI, hJ, K⟩ := S
  have hqw : W 0 1 i 3 = nI 6 := (hR.1.c1 i (by decide)).trans hq
  have e : m_X3_refusalOfWord (some (NA z0 0)) (nI i) (nI x) (ovr σ (NA z0 0) (W 0)) = some (-3, ovr σ (NA z0 0) (W 0)) := by
    unfold m_X3_refusalOfWord m_X6_isQueueFull
    simp only [ob_net, ob_snd hi, c_senderAt hi, hR.1.c1 i (show 0 < 8 by decide), hp, one_ne, if_false, Option.bind_some, bnd_some, c_word hx, if_neg (snn _), gI_snd_4 hi, gR_snd_3 hi, len_que hi, hqw]
    rw [if_neg (show ¬ nI 6 < 6 by decide), show ∀ τ, chkZ 1 τ = some (1, τ) from fun τ => rfl]
    simp only [bnd_some, one_ne, if_false]
  rw [H.neq (by decide)] at e
  unfold m_X8_say
  simp only [H.g0, H.oN (show 0 < 7 by decide), e, Option.bind_some, bnd_some]
  rw [if_neg (by decide)]
theorem A_say (S : ST z0 σ T g s u) {i x q : Nat} (hi : i < 5) (hp : g 1 i 0 = 1) (hq : g 1 i 3 = nI q) (hq5 : q < 6) (hx : x < 32) : ∃ σ', m_X8_say (some z0) (nI i) (nI x) σ = some (nI (q + 1), σ') ∧ ST z0 σ' T (sayG g i q (nI x)) s (some (T, g)) := by
  obtain ⟨W, P, kp, h, H, hR, hI, hJ, K⟩ := S
  have e : ∀ τ (w : NW), Rel g w → m_X3_refusalOfWord (some (NA z0 0)) (nI i) (nI x) (ovr τ (NA z0 0) w) = some (0, ovr τ (NA z0 0) w) := fun τ w hRw => by
    have hqw : w 1 i 3 = nI q := (hRw.1.c1 i (by decide)).trans hq
    unfold m_X3_refusalOfWord m_X6_isQueueFull
    simp only [ob_net, ob_snd hi, c_senderAt hi, hRw.1.c1 i (show 0 < 8 by decide), hp, one_ne, if_false, Option.bind_some, bnd_some, c_word hx, if_neg (snn _), gI_snd_4 hi, gR_snd_3 hi, len_que hi, hqw]
    rw [if_pos (show nI q < 6 from nI_lt (b := 6) hq5 (by decide)), show ∀ τ, chkZ 0 τ = some (0, τ) from fun τ => rfl]
    simp only [bnd_some, if_true]
  have e5 := e σ (W 0) hR
  rw [H.neq (by decide)] at e5
  obtain ⟨σ1, W1, P1, ek, H1, -, hR1, K1⟩ := s_keep H hR hI hJ K
  have e6 : m_X3_giveWord (some (NA z0 0)) (nI i) (nI x) (ovr σ1 (NA z0 0) (W1 0)) = some (nI (q + 1), ovr σ1 (NA z0 0) (sayG (W1 0) i q (nI x))) := by
    have hqw : W1 0 1 i 3 = nI q := (hR1.1.c1 i (by decide)).trans hq
    unfold m_X3_giveWord m_X6_addWord
    simp only [ob_net, ob_snd hi, c_senderAt hi, hR1.1.c1 i (show 0 < 8 by decide), hp, one_ne, if_false, Option.bind_some, bnd_some, if_neg (snn _), gI_snd_4 hi, gR_snd_3 hi, len_que hi, hqw]
    rw [if_neg (nI_pos (by omega)), if_neg (show ¬ (6 : Int32) ≤ nI q from nI_ge (b := 6) hq5 (by decide))]
    simp only [ast_que hi hq5, gI_snd_4 hi, pI_snd_4 hi, Option.bind_some, bnd_some, show up3 (W1 0) 1 i (8 + q) (nI x) 1 i 3 = nI q from (if_neg (by omega)).trans hqw, ← nI_succ, up3_eq]
    rfl
  rw [H1.neq (by decide)] at e6
  refine ⟨_, ?_, s_fin H1 K1 (rel_say hR1 hq hq5 _) (inv_say hI hq hq5 hp hx) (hJ.slot (c0 := 1) (i0 := i) (Or.inl rfl) (fun c' i' j hn => ?_) (fun _ => ?_) (fun e => absurd e (by decide)))⟩
  · unfold m_X8_say
    simp only [H.g0, H.g4, H.oN (show 0 < 7 by decide), H.oH, e5, ek, H1.g0, H1.oN (show 0 < 7 by decide), e6, Option.bind_some, bnd_some]
    rw [if_pos (by decide)]
  · exact sayG_o _ _ _ _ hn
  · have := hJ.2.2.1 i hi
    unfold JS at this ⊢
    rw [sayG_j (j := 0) _ _ _ _ (by decide) (by omega), sayG_j (j := 4) _ _ _ _ (by decide) (by omega), sayG_j (j := 5) _ _ _ _ (by decide) (by omega), sayG_j (j := 7) _ _ _ _ (by decide) (by omega)]
    exact this
theorem A_run (S : ST z0 σ T g s u) {i : Nat} (hi : i < 4) (hp : g 2 i 0 = 1) {b : Int32} (hb : b01 b) : ∃ σ', m_X8_run (some z0) (nI i) b σ = some (g 2 i 4, σ') ∧ ST z0 σ' T (up3 g 2 i 4 b) s (some (T, g)) := by
  obtain ⟨W, P, kp, h, H, hR, hI, hJ, K⟩ := S
  have ep := c_machineAt (σ := σ) (n := NA z0 0) (w := W 0) hi
  rw [H.neq (by decide), hR.1.c2 i (Or.inl (by decide)), if_neg (by rw [hp]; exact one_ne)] at ep
  have hM := hI.2.1 i hi
  obtain ⟨σ1, W1, P1, ek, H1, -, hR1, K1⟩ := s_keep H hR hI hJ K
  have e1 := gI_mac_5 (σ := σ1) (n := NA z0 0) (w := W1 0) hi
  have e2 := pZ_mac_5 (σ := σ1) (n := NA z0 0) (w := W1 0) hi b hb
  rw [H1.neq (by decide)] at e1 e2
  rw [hR1.1.c2 i (Or.inl (by decide))] at e1
  refine ⟨_, ?_, s_fin H1 K1 (rel_run hR1 i b) (inv_run hI i hb) (hJ.slot (c0 := 2) (i0 := i) (Or.inr (Or.inl rfl)) (fun c' i' j hn => up3_slot _ _ hn) (fun e => absurd e (by decide)) (fun e => absurd e (by decide)))⟩
  unfold m_X8_run
  simp only [H.g0, H.g4, H.oN (show 0 < 7 by decide), H.oH, Option.bind_some, bnd_some, ep, ek, e1, c_asN hM.2.1, e2]
  rw [if_neg (fun e => nomatch e)]
theorem A_set (S : ST z0 σ T g s u) {i v l m : Nat} (hi : i < 4) (e1 : lstI (nI i) = some (nI l)) (e2 : mstI (nI i) = some (nI m)) (h1 : l ≤ v) (h2 : v ≤ m) (hm : m < 100) (h3 : i = 3 → 1 ≤ v ∧ v ≤ 3) : ∃ σ', m_X8_set (some z0) (nI i) (nI v) σ = some (g 6 0 i, σ') ∧ ST z0 σ' T (up3 g 6 0 i (nI v)) s (some (T, g)) := by
  obtain ⟨W, P, kp, h, H, hR, hI, hJ, K⟩ := S
  obtain ⟨σ1, W1, P1, ek, H1, -, hR1, K1⟩ := s_keep H hR hI hJ K
  have g4 := gR_net_4 (σ := σ1) (n := NA z0 0) (w := W1 0)
  have ld := ald_5 (σ := σ1) (n := NA z0 0) (w := W1 0) hi
  have st := ast_5 (σ := σ1) (n := NA z0 0) (w := W1 0) hi (nI v)
  rw [H1.neq (by decide)] at g4 ld st
  rw [hR1.1.c6] at ld
  have hR2 : Rel (up3 g 6 0 i (nI v)) (up3 (W1 0) 6 0 i (nI v)) := ⟨hR1.1.up (nI v) (Or.inl (by decide)) (Or.inl (by decide)), fun k hk => (hR1.2 k hk).of4 (fun _ => up3_c (by decide)) (fun _ => up3_c (by decide))⟩
  have hI2 : Inv (up3 g 6 0 i (nI v)) := hI.slot (c0 := 6) (i0 := 0) (fun c' i' j hn => up3_slot _ _ hn) (fun e => absurd e (by decide)) (fun e => absurd e (by decide)) (fun e => absurd e (by decide)) (by decide)
  refine ⟨_, ?_, s_fin H1 K1 hR2 hI2 (hJ.of (up3_c (by decide)) ?_ (fun i hi => Or.inl fun j _ => up3_c (by decide)) (fun i hi => Or.inl fun j _ => up3_c (by decide)) (fun i hi j _ => up3_c (by decide)))⟩
  · unfold m_X8_set
    rw [if_neg (nI_pos (by omega)), if_pos (show nI i < 4 from nI_lt (b := 4) hi (by decide))]
    simp only [e1, e2, H.g0, H.g4, H.oH, ek, H1.g0, g4, ld, st, Option.bind_some, bnd_some]
    rw [if_neg (nI_nlt h1 (by omega)), if_pos (nI_le h2 (by omega))]
  · by_cases e : i = 3
    · subst e
      exact ⟨v, (h3 rfl).1, (h3 rfl).2, up3_eq _ _ _ _ _⟩
    · exact hJ.2.1.of (up3_f (Ne.symm e))
theorem A_pass (S : ST z0 σ T g s u) {N : Nat} (h1 : 1 ≤ N) (h2 : N ≤ 99) : ∃ t σ', m_X8_pass (some z0) (nI N) σ = some (t, σ') ∧ itb N g 7 0 2 = g 7 0 2 + t ∧ ST z0 σ' (T + N) (itb N g) s (some (T, g)) := by
  obtain ⟨W, P, kp, h, H, hR, hI, hJ, K⟩ := S
  obtain ⟨σ1, W1, P1, ek, H1, -, hR1, K1⟩ := s_keep H hR hI hJ K
  obtain ⟨w', t, ep, hR2, ht⟩ := c_letPass (σ := σ1) (n := NA z0 0) (N := N) (by omega) hR1 hI
  rw [H1.neq (by decide)] at ep
  refine ⟨t, _, ?_, ht, s_fin H1 K1 hR2 (Inv_itb N g hI) (JT_itb N hJ)⟩
  unfold m_X8_pass
  rw [if_neg (show ¬ nI N < 1 from nI_nlt (b := 1) h1 (by omega)), if_pos (show nI N ≤ 99 from nI_le (b := 99) h2 (by decide))]
  simp only [H.g4, H.g0, H.oH, ek, H1.g0, H1.oN (show 0 < 7 by decide), ep, Option.bind_some, bnd_some]
theorem A_undo_no (S : ST z0 σ T g s none) : m_X8_undo (some z0) σ = some (-5, σ) := by
  obtain ⟨W, P, kp, h, H, hR, hI, hJ, -, -, -, -, hu⟩ := S
  obtain rfl : kp = 0 := hu
  unfold m_X8_undo m_X0_isEmpty
  simp only [H.g4, H.oH, H.k1, Option.bind_some]
  rw [if_pos (show nI 0 = 0 from rfl), show chkZ 1 σ = some (1, σ) from rfl]
  simp only [bnd_some]
  rw [if_neg one_ne]
theorem A_undo {q : Nat × NW} (S : ST z0 σ T g s (some q)) : ∃ v σ' g', v < 4 ∧ m_X8_undo (some z0) σ = some (nI v, σ') ∧ JT q.1 g' ∧ CG z0 σ' g' := by
  obtain ⟨W, P, kp, h, H, hR, hI, hJ, hP, hk4, -, -, h0, a, b, g1, c, d⟩ := S
  obtain ⟨k, rfl⟩ : ∃ k, kp = k + 1 := ⟨kp - 1, by omega⟩
  obtain ⟨σ1, w', e1, H1, g2, hs, hR1⟩ := c_back H hP (by omega) d (Inv_ok c a)
  refine ⟨k, σ1, g2, by omega, ?_, (b.same c).same hs, _, P, k, h, H1, by rw [upW_eq]; exact hR1, Inv_ok hs (Inv_ok c a)⟩
  unfold m_X8_undo m_X0_isEmpty
  simp only [H.g4, H.oH, H.k1, Option.bind_some]
  rw [if_neg (nI_ne0 (by omega) (by omega)), show chkZ 0 σ = some (0, σ) from rfl]
  simp only [bnd_some, if_true, H.g4, H.oH, H.g0, e1, H1.g4, H1.k1, Option.bind_some]
theorem A_save (S : ST z0 σ T g s u) : ∃ σ', m_X8_save (some z0) σ = some (nI T, σ') ∧ ST z0 σ' T g (some (T, g)) u := by
  obtain ⟨W, P, kp, h, H, hR, hI, hJ, hP, hk4, hh, hs, hu⟩ := S
  obtain ⟨σ1, w', e1, H1, g1, c, hR1⟩ := c_cp H (a := 0) (b := 2) (by decide) (by decide) (by decide) hR hI
  obtain ⟨σ2, e2, H2⟩ := H1.p3
  have et : sGetI (some (NA z0 0)) 3 6 σ2 = some (nI T) := by
    have := gI_net_6 (σ := σ2) (n := NA z0 0) (w := upW W 2 w' 0)
    rw [H2.neq (by decide)] at this
    rw [this, upW_ne _ _ (by decide), hR.1.c0, hJ.1]
  have eW : ∀ j, j < kp → upW W 2 w' (P j) = W (P j) := fun j hj => upW_ne _ _ (by have := (hP.1 j (by omega)).1; omega)
  refine ⟨σ2, ?_, _, P, kp, 1, H2, by rw [upW_ne _ _ (by decide)]; exact hR, hI, hJ, hP, hk4, fun j hj => by rw [eW j hj]; exact hh j hj, ⟨rfl, hI, hJ, g1, c, by rw [upW_eq]; exact hR1⟩, ?_⟩
  · unfold m_X8_save
    simp only [H.g2, H.g0, H.oN (show 2 < 7 by decide), e1, e2, H2.g0, et, Option.bind_some, bnd_some]
  · unfold UNs at hu ⊢
    cases u with
    | none => exact hu
    | some q =>
      obtain ⟨h0, a, b, d⟩ := hu
      refine ⟨h0, a, b, ?_⟩
      show ∃ g1, Same g1 q.2 ∧ Rel g1 (upW W 2 w' (P (kp - 1)))
      rw [eW _ (by omega)]
      exact d
theorem A_restore_no (S : ST z0 σ T g none u) : m_X8_restore (some z0) σ = some (-4, σ) := by
  obtain ⟨W, P, kp, h, H, hR, hI, hJ, -, -, -, hs, -⟩ := S
  obtain rfl : h = 0 := hs
  unfold m_X8_restore
  simp only [H.g3, Option.bind_some, if_true]
theorem A_restore {q : Nat × NW} (S : ST z0 σ T g (some q) u) : ∃ σ' g', m_X8_restore (some z0) σ = some (nI q.1, σ') ∧ Same g' q.2 ∧ ST z0 σ' q.1 g' (some q) (some (T, g)) := by
  obtain ⟨W, P, kp, h, H, hR, hI, hJ, K⟩ := S
  have K0 := K
  obtain ⟨-, -, -, ⟨rfl, sI, sJ, gs, sc, sR⟩, -⟩ := K0
  obtain ⟨σ1, W1, P1, ek, H1, e2W, hR1, K1⟩ := s_keep H hR hI hJ K
  obtain ⟨σ2, w', e2, H2, g1, hs, hR2⟩ := c_cp H1 (a := 2) (b := 0) (by decide) (by decide) (by decide) (g0 := gs) (by rw [e2W]; exact sR) (Inv_ok sc sI)
  have hss : Same g1 q.2 := hs.trans sc
  have et : sGetI (some (NA z0 0)) 3 6 σ2 = some (nI q.1) := by
    have := gI_net_6 (σ := σ2) (n := NA z0 0) (w := upW W1 0 w' 0)
    rw [H2.neq (by decide)] at this
    rw [this, upW_eq, hR2.1.c0, (sJ.same hss).1]
  refine ⟨σ2, g1, ?_, hss, _, P1, _, _, H2, by rw [upW_eq]; exact hR2, Inv_ok hss sI, sJ.same hss, K1.up (by decide) w'⟩
  unfold m_X8_restore
  simp only [H.g3, Option.bind_some]
  rw [if_neg one_ne]
  simp only [H.g4, H.g0, H.oH, ek, H1.g0, H1.g2, H1.oN (show 0 < 7 by decide), e2, H2.g0, et, Option.bind_some, bnd_some]
theorem silV_same : ∀ (d k : Nat) {a b : NW}, Same a b → Inv b → silV a d k = silV b d k
  | 0, _, _, _, _, _ => rfl
  | d + 1, k, a, b, h, hI => by
    show (if qs a = 0 then nI k else silV (beatG a) d (k + 1)) = (if qs b = 0 then nI k else silV (beatG b) d (k + 1))
    rw [h.q_qs, silV_same d (k + 1) (h.beat hI) (Inv_beat hI)]
theorem A_silentIn (S : ST z0 σ T g s u) : ∃ σ', m_X8_silentIn (some z0) σ = some (silV g 601 0, σ') ∧ ST z0 σ' T g s u := by
  obtain ⟨W, P, kp, h, H, hR, hI, hJ, K⟩ := S
  obtain ⟨σ1, w1, e1, H1, g1, hs, hR1⟩ := c_cp H (a := 0) (b := 1) (by decide) (by decide) (by decide) hR hI
  have hst : ovr σ1 (NA z0 1) w1 = σ1 := by
    have := H1.neq (k := 1) (by decide)
    rwa [upW_eq] at this
  have eg : ∀ w, sGetR (some z0) 7 1 (ovr σ1 (NA z0 1) w) = some (some (NA z0 1)) := fun w => (H1.upN (k := 1) (by decide) w).g1
  obtain ⟨w2, e2⟩ := c_silL eg 601 0 rfl 1000 (by decide) g1 w1 hR1 (Inv_ok hs hI)
  rw [← nI0, hst, silV_same 601 0 hs hI] at e2
  refine ⟨_, ?_, _, P, kp, h, H1.upN (k := 1) (by decide) w2, by rw [upW_ne _ _ (by decide), upW_ne _ _ (by decide)]; exact hR, hI, hJ, (K.up (by decide) w1).up (by decide) w2⟩
  unfold m_X8_silentIn
  simp only [H.g1, H.g0, H.oN (show 1 < 7 by decide), e1, Option.bind_some, bnd_some]
  exact e2
theorem A_levelIn_no (S : ST z0 σ T g s u) {i : Nat} (hi : i < 8) (hp : g 3 i 0 = 0) (b : Int32) : m_X8_levelIn (some z0) (nI i) b σ = some (-1, σ) := by
  obtain ⟨W, P, kp, h, H, hR, hI, hJ, K⟩ := S
  have ep := c_lampAt (σ := σ) (n := NA z0 0) (w := W 0) hi
  rw [H.neq (by decide), hR.1.c3 i 0, if_pos hp] at ep
  unfold m_X8_levelIn
  simp only [H.g0, H.oN (show 0 < 7 by decide), Option.bind_some, bnd_some, ep, if_true]
theorem A_levelIn (S : ST z0 σ T g s u) {i N : Nat} (hi : i < 8) (hp : g 3 i 0 = 1) (hN : N ≤ 400) : ∃ σ', m_X8_levelIn (some z0) (nI i) (nI N) σ = some (itb N g 3 i 4, σ') ∧ ST z0 σ' T g s u := by
  obtain ⟨W, P, kp, h, H, hR, hI, hJ, K⟩ := S
  have ep := c_lampAt (σ := σ) (n := NA z0 0) (w := W 0) hi
  rw [H.neq (by decide), hR.1.c3 i 0, if_neg (by rw [hp]; exact one_ne)] at ep
  obtain ⟨σ1, w1, e1, H1, g1, hs, hR1⟩ := c_cp H (a := 0) (b := 1) (by decide) (by decide) (by decide) hR hI
  have hI1 := Inv_ok hs hI
  have hst : ovr σ1 (NA z0 1) w1 = σ1 := by
    have := H1.neq (k := 1) (by decide)
    rwa [upW_eq] at this
  obtain ⟨w2, t, e2, hR2, -⟩ := c_letPass (σ := σ1) (n := NA z0 1) (N := N) (by omega) hR1 hI1
  rw [hst] at e2
  have H2 := H1.upN (k := 1) (by decide) w2
  have ep2 := c_lampAt (σ := σ1) (n := NA z0 1) (w := w2) hi
  have hp2 : w2 3 i 0 = 1 := by
    rw [hR2.1.c3 i 0, itb_30, hs 3 i 0 (ok3 hi (by decide)), hp]
  rw [if_neg (by rw [hp2]; exact one_ne)] at ep2
  have el := gI_lam_5 (σ := σ1) (n := NA z0 1) (w := w2) hi
  rw [hR2.1.c3 i 4, Same.q_itb N hs hI 3 i 4 (ok3 hi (by decide))] at el
  refine ⟨_, ?_, _, P, kp, h, H2, by rw [upW_ne _ _ (by decide), upW_ne _ _ (by decide)]; exact hR, hI, hJ, (K.up (by decide) w1).up (by decide) w2⟩
  unfold m_X8_levelIn
  simp only [H.g0, H.oN (show 0 < 7 by decide), Option.bind_some, bnd_some, ep, if_neg (snn _), H.g1, H.oN (show 1 < 7 by decide), e1, H1.g1, H1.oN (show 1 < 7 by decide), e2, H2.g1, H2.oN (show 1 < 7 by decide), ep2, el]
  rw [if_neg (nI_pos (by omega)), if_pos (show nI N ≤ 400 from nI_le (b := 400) hN (by decide))]
end ATS
