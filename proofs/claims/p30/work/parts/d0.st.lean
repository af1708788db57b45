/-! p30: the object as it stands: now, its snapshot, the state that was kept last -/
def SNs (s : Option (Nat × NW)) (W : Nat → NW) (h : Int32) : Prop := match s with
  | none => h = 0
  | some q => h = 1 ∧ Inv q.2 ∧ JT q.1 q.2 ∧ ∃ g1, Same g1 q.2 ∧ Rel g1 (W 2)
def UNs (u : Option (Nat × NW)) (W : Nat → NW) (P : Nat → Nat) (kp : Nat) : Prop := match u with
  | none => kp = 0
  | some q => 0 < kp ∧ Inv q.2 ∧ JT q.1 q.2 ∧ ∃ g1, Same g1 q.2 ∧ Rel g1 (W (P (kp - 1)))
def HIs (W : Nat → NW) (P : Nat → Nat) (kp : Nat) (h : Int32) (s u : Option (Nat × NW)) : Prop := PermP P ∧ kp ≤ 4 ∧ (∀ k, k < kp → ∃ gk, Rel gk (W (P k)) ∧ Inv gk) ∧ SNs s W h ∧ UNs u W P kp
def ST (z0 : Nat) (σ : SG) (T : Nat) (g : NW) (s u : Option (Nat × NW)) : Prop := ∃ W P kp h, HS z0 σ W P kp h ∧ Rel g (W 0) ∧ Inv g ∧ JT T g ∧ HIs W P kp h s u
section STS
variable {z0 T : Nat} {σ : SG} {W : Nat → NW} {P : Nat → Nat} {kp : Nat} {h : Int32} {g : NW} {s u : Option (Nat × NW)}
theorem ST.cg (S : ST z0 σ T g s u) : CG z0 σ g := by
  obtain ⟨W, P, kp, h, H, hR, hI, -⟩ := S
  exact ⟨W, P, kp, h, H, hR, hI⟩
theorem ST.inv (S : ST z0 σ T g s u) : Inv g := by
  obtain ⟨W, P, kp, h, H, hR, hI, -⟩ := S
  exact hI
theorem ST.jt (S : ST z0 σ T g s u) : JT T g := by
  obtain ⟨W, P, kp, h, H, hR, hI, hJ, -⟩ := S
  exact hJ
theorem SNs.of {W' : Nat → NW} (K : SNs s W h) (e : W' 2 = W 2) : SNs s W' h := by
  unfold SNs at K ⊢
  rw [e]
  exact K
theorem HIs.up {k : Nat} (K : HIs W P kp h s u) (hk : k < 2) (w : NW) : HIs (upW W k w) P kp h s u := by
  obtain ⟨hP, hk4, hh, hs, hu⟩ := K
  have e : ∀ j, j < kp → upW W k w (P j) = W (P j) := fun j hj => upW_ne _ _ (by have := (hP.1 j (by omega)).1; omega)
  refine ⟨hP, hk4, fun j hj => by rw [e j hj]; exact hh j hj, hs.of (upW_ne _ _ (by omega)), ?_⟩
  unfold UNs at hu ⊢
  cases u with
  | none => exact hu
  | some q =>
    obtain ⟨h0, a, b, c⟩ := hu
    refine ⟨h0, a, b, ?_⟩
    show ∃ g1, Same g1 q.2 ∧ Rel g1 (upW W k w (P (kp - 1)))
    rw [e _ (by omega)]
    exact c
theorem kp1_le (h : kp ≤ 4) : kp1 kp ≤ 4 := by unfold kp1; split <;> omega
theorem kp1_pos (kp : Nat) : 0 < kp1 kp := by unfold kp1; split <;> omega
theorem s_keep (H : HS z0 σ W P kp h) (hR : Rel g (W 0)) (hI : Inv g) (hJ : JT T g) (K : HIs W P kp h s u) : ∃ σ1 W1 P1, m_X0_keep (some (z0 + 109)) (some (NA z0 0)) σ = some ((), σ1) ∧ HS z0 σ1 W1 P1 (kp1 kp) h ∧ W1 2 = W 2 ∧ Rel g (W1 0) ∧ HIs W1 P1 (kp1 kp) h s (some (T, g)) := by
  obtain ⟨hP, hk4, hh, hs, hu⟩ := K
  obtain ⟨σ1, W1, P1, e, H1, hP1, a, b, g1, c, d⟩ := c_keep H hP hk4 hR hI
  refine ⟨σ1, W1, P1, e, H1, a 2 (by decide), by rw [a 0 (by decide)]; exact hR, hP1, kp1_le hk4, fun k hk => ?_, hs.of (a 2 (by decide)), kp1_pos kp, hI, hJ, g1, c, d⟩
  by_cases hl : k + 1 < kp1 kp
  · rw [b k hl]
    exact hh (sh1 kp k) (by unfold sh1; unfold kp1 at hl; split at hl <;> split <;> omega)
  · obtain rfl : k = kp1 kp - 1 := by omega
    exact ⟨g1, d, Inv_ok c hI⟩
theorem s_fin {g' w' : NW} {T' : Nat} (H1 : HS z0 σ W P kp h) (K : HIs W P kp h s u) (hR : Rel g' w') (hI : Inv g') (hJ : JT T' g') : ST z0 (ovr σ (NA z0 0) w') T' g' s u :=
  ⟨_, P, kp, h, H1.upN (by decide) w', by rw [upW_eq]; exact hR, hI, hJ, K.up (by decide) w'⟩
theorem JT.of {g' : NW} (hJ : JT T g) (e0 : g' 0 0 0 = g 0 0 0) (e6 : JC g') (eS : ∀ i, i < 5 → (∀ j, j < 14 → g' 1 i j = g 1 i j) ∨ JS g' i) (eL : ∀ i, i < 8 → (∀ j, j < 6 → g' 3 i j = g 3 i j) ∨ JL g' i) (eR : ∀ i, i < 6 → ∀ j, j < 7 → g' 4 i j = g 4 i j) : JT T g' := by
  obtain ⟨h0, hC, h1, h3, h4⟩ := hJ
  refine ⟨e0.trans h0, e6, fun i hi => ?_, fun i hi => ?_, fun i hi => (h4 i hi).of (eR i hi)⟩
  · rcases eS i hi with e | e
    · exact (h1 i hi).of e
    · exact e
  · rcases eL i hi with e | e
    · exact (h3 i hi).of e
    · exact e
theorem JC.of {g' : NW} (h : JC g) (e : g' 6 0 3 = g 6 0 3) : JC g' := by
  obtain ⟨a, h1, h3, e1⟩ := h
  exact ⟨a, h1, h3, e.trans e1⟩
/-- one thing's numbers change -/
theorem JT.slot {g' : NW} {c0 i0 : Nat} (hJ : JT T g) (hc : c0 = 1 ∨ c0 = 2 ∨ c0 = 3) (hg : ∀ c i j, ¬ (c = c0 ∧ i = i0) → g' c i j = g c i j) (h1 : c0 = 1 → JS g' i0) (h3 : c0 = 3 → JL g' i0) : JT T g' := by
  refine hJ.of (hg _ _ _ (by omega)) (hJ.2.1.of (hg _ _ _ (by omega))) (fun i hi => ?_) (fun i hi => ?_) (fun i hi j hj => hg _ _ _ (by omega))
  · by_cases e : 1 = c0 ∧ i = i0
    · exact Or.inr (e.2 ▸ h1 e.1.symm)
    · exact Or.inl fun j _ => hg _ _ _ e
  · by_cases e : 3 = c0 ∧ i = i0
    · exact Or.inr (e.2 ▸ h3 e.1.symm)
    · exact Or.inl fun j _ => hg _ _ _ e
/-! senders, machines, lamps are added -/
theorem A_sender (S : ST z0 σ T g s u) {i b : Nat} (hi : i < 6) (h1 : 1 ≤ b) (h9 : b ≤ 9) :
    (frN (fun i => g 1 i 0) 5 0 = 5 → m_X8_sender (some z0) (nI i) (nI b) σ = some (-3, σ)) ∧ (¬ frN (fun i => g 1 i 0) 5 0 = 5 → ∃ σ', m_X8_sender (some z0) (nI i) (nI b) σ = some (nI (frN (fun i => g 1 i 0) 5 0), σ') ∧ ST z0 σ' T (putSG g (frN (fun i => g 1 i 0) 5 0) (nI i) (nI b) 0) s (some (T, g))) := by
  obtain ⟨W, P, kp, h, H, hR, hI, hJ, K⟩ := S
  have l0 : ¬ nI b < 1 := nI_nlt (b := 1) h1 (by omega)
  have u0 : nI b ≤ 9 := nI_le (b := 9) h9 (by decide)
  have hb := b_S hI hR
  have hc : frN (fun i => W 0 1 i 0) 5 0 = frN (fun i => g 1 i 0) 5 0 := frN_congr (N := 5) (fun i _ => hR.1.c1 i (by decide)) 5 0 (by omega)
  have ef := c_freeS (σ := σ) (n := NA z0 0) hb
  rw [H.neq (by decide), hc] at ef
  have hle := (frN_rng (fun i => g 1 i 0) 5 0).2
  generalize frN (fun i => g 1 i 0) 5 0 = k at *
  refine ⟨fun h5 => ?_, fun h5 => ?_⟩
  · rw [if_pos h5] at ef
    unfold m_X8_sender
    simp only [c_wire hi, bnd_some, one_ne, if_false, H.g0, H.oN (show 0 < 7 by decide), ef, Option.bind_some, if_true]
    rw [if_neg l0, if_pos u0]
  · have hl : k < 5 := by omega
    rw [if_neg h5] at ef
    obtain ⟨σ1, W1, P1, ek, H1, -, hR1, K1⟩ := s_keep H hR hI hJ K
    have ep := c_putS (σ := σ1) (n := NA z0 0) (w := W1 0) hl (nI i) (nI b)
    have eo := ob_snd (σ := σ1) (n := NA z0 0) (w := W1 0) hl
    rw [H1.neq (by decide)] at ep eo
    refine ⟨_, ?_, s_fin H1 K1 (rel_putS hR1 k (nI i) (nI b)) (inv_putS hI k hi (nI b)) (hJ.slot (c0 := 1) (i0 := k) (Or.inl rfl) (fun c i' j hn => putSG_o _ _ _ _ _ hn) (fun _ _ => ?_) (fun e => absurd e (by decide)))⟩
    · unfold m_X8_sender
      simp only [c_wire hi, bnd_some, one_ne, if_false, H.g0, H.g4, H.oN (show 0 < 7 by decide), H.oH, ef, ek, H1.g0, ep, eo, gI_snd_0 hl, Option.bind_some]
      rw [if_neg l0, if_pos u0]
      rw [if_neg (fun e => nomatch e)]
    · rw [putSG_z _ _ _ _ _ (by omega : 4 ≤ 7 ∧ 7 < 14), putSG_z _ _ _ _ _ (by omega : 4 ≤ 4 ∧ 4 < 14)]
      exact ⟨⟨0, by omega, rfl⟩, fun e => absurd e (by decide)⟩
theorem A_machine (S : ST z0 σ T g s u) {i b c : Nat} (hi : i < 6) (h1 : 1 ≤ b) (h9 : b ≤ 9) (h2 : 2 ≤ c) (h20 : c ≤ 20) :
    (frN (fun i => g 2 i 0) 4 0 = 4 → m_X8_machine (some z0) (nI i) (nI b) (nI c) σ = some (-3, σ)) ∧ (¬ frN (fun i => g 2 i 0) 4 0 = 4 → ∃ σ', m_X8_machine (some z0) (nI i) (nI b) (nI c) σ = some (nI (frN (fun i => g 2 i 0) 4 0), σ') ∧ ST z0 σ' T (up3 (putMG g (frN (fun i => g 2 i 0) 4 0) (nI i) (nI b) (nI c)) 2 (frN (fun i => g 2 i 0) 4 0) 4 1) s (some (T, g))) := by
  obtain ⟨W, P, kp, h, H, hR, hI, hJ, K⟩ := S
  have l0 : ¬ nI b < 1 := nI_nlt (b := 1) h1 (by omega)
  have u0 : nI b ≤ 9 := nI_le (b := 9) h9 (by decide)
  have l1 : ¬ nI c < 2 := nI_nlt (b := 2) h2 (by omega)
  have u1 : nI c ≤ 20 := nI_le (b := 20) h20 (by decide)
  have hb := b_M hI hR
  have hc : frN (fun i => W 0 2 i 0) 4 0 = frN (fun i => g 2 i 0) 4 0 := frN_congr (N := 4) (fun i _ => hR.1.c2 i (Or.inl (by decide))) 4 0 (by omega)
  have ef := c_freeM (σ := σ) (n := NA z0 0) hb
  rw [H.neq (by decide), hc] at ef
  have hle := (frN_rng (fun i => g 2 i 0) 4 0).2
  generalize frN (fun i => g 2 i 0) 4 0 = k at *
  refine ⟨fun h5 => ?_, fun h5 => ?_⟩
  · rw [if_pos h5] at ef
    unfold m_X8_machine
    simp only [c_wire hi, bnd_some, one_ne, if_false, H.g0, H.oN (show 0 < 7 by decide), ef, Option.bind_some, if_true]
    rw [if_neg l0, if_pos u0]
    rw [if_neg l1, if_pos u1]
  · have hl : k < 4 := by omega
    rw [if_neg h5] at ef
    obtain ⟨σ1, W1, P1, ek, H1, -, hR1, K1⟩ := s_keep H hR hI hJ K
    have ep := c_putM (σ := σ1) (n := NA z0 0) (w := W1 0) hl (nI i) (nI b) (nI c)
    have eo := ob_mac (σ := σ1) (n := NA z0 0) (w := W1 0) hl
    rw [H1.neq (by decide)] at ep eo
    refine ⟨_, ?_, s_fin H1 K1 (rel_putM hR1 k (nI i) (nI b) (nI c)) (inv_putM hI k hi (nI b) h2 h20) (hJ.slot (c0 := 2) (i0 := k) (Or.inr (Or.inl rfl)) (fun c' i' j hn => ?_) (fun e => absurd e (by decide)) (fun e => absurd e (by decide)))⟩
    · unfold m_X8_machine
      simp only [c_wire hi, bnd_some, one_ne, if_false, H.g0, H.g4, H.oN (show 0 < 7 by decide), H.oH, ef, ek, H1.g0, ep, eo, gN_mac hl, Option.bind_some]
      rw [if_neg l0, if_pos u0]
      rw [if_neg l1, if_pos u1]
      rw [if_neg (fun e => nomatch e)]
    · rw [up3_slot _ _ hn]; exact putMG_o _ _ _ _ _ hn
theorem A_lamp (S : ST z0 σ T g s u) {i b c : Nat} (hi : i < 6) (hb4 : b < 4) (hc4 : c < 4) :
    (frN (fun i => g 3 i 0) 8 0 = 8 → m_X8_lamp (some z0) (nI i) (nI b) (nI c) σ = some (-3, σ)) ∧ (¬ frN (fun i => g 3 i 0) 8 0 = 8 → ∃ σ', m_X8_lamp (some z0) (nI i) (nI b) (nI c) σ = some (nI (frN (fun i => g 3 i 0) 8 0), σ') ∧ ST z0 σ' T (putLG g (frN (fun i => g 3 i 0) 8 0) (nI i) (nI b) (nI c)) s (some (T, g))) := by
  obtain ⟨W, P, kp, h, H, hR, hI, hJ, K⟩ := S
  have l0 : ¬ nI b < 0 := nI_pos (by omega)
  have u0 : ¬ (4 : Int32) ≤ nI b := nI_ge (b := 4) hb4 (by decide)
  have l1 : ¬ nI c < 0 := nI_pos (by omega)
  have u1 : nI c < 4 := nI_lt (b := 4) hc4 (by decide)
  have hb := b_L hI hR
  have hc : frN (fun i => W 0 3 i 0) 8 0 = frN (fun i => g 3 i 0) 8 0 := frN_congr (N := 8) (fun i _ => hR.1.c3 i 0) 8 0 (by omega)
  have ef := c_freeL (σ := σ) (n := NA z0 0) hb
  rw [H.neq (by decide), hc] at ef
  have hle := (frN_rng (fun i => g 3 i 0) 8 0).2
  generalize frN (fun i => g 3 i 0) 8 0 = k at *
  refine ⟨fun h5 => ?_, fun h5 => ?_⟩
  · rw [if_pos h5] at ef
    unfold m_X8_lamp
    simp only [c_wire hi, bnd_some, one_ne, if_false, H.g0, H.oN (show 0 < 7 by decide), ef, Option.bind_some, if_true]
    rw [if_neg l0, if_neg u0]
    rw [if_neg l1, if_pos u1]
  · have hl : k < 8 := by omega
    rw [if_neg h5] at ef
    obtain ⟨σ1, W1, P1, ek, H1, -, hR1, K1⟩ := s_keep H hR hI hJ K
    have ep := c_putL (σ := σ1) (n := NA z0 0) (w := W1 0) hl (nI i) (nI b) (nI c)
    have eo := ob_lam (σ := σ1) (n := NA z0 0) (w := W1 0) hl
    rw [H1.neq (by decide)] at ep eo
    refine ⟨_, ?_, s_fin H1 K1 (rel_putL hR1 k (nI i) (nI b) (nI c)) (inv_putL hI k (nI i) (nI b) (nI c)) (hJ.slot (c0 := 3) (i0 := k) (Or.inr (Or.inr rfl)) (fun c' i' j hn => putLG_o _ _ _ _ _ hn) (fun e => absurd e (by decide)) (fun _ _ => ?_))⟩
    · unfold m_X8_lamp
      simp only [c_wire hi, bnd_some, one_ne, if_false, H.g0, H.g4, H.oN (show 0 < 7 by decide), H.oH, ef, ek, H1.g0, ep, eo, gN_lam hl, Option.bind_some]
      rw [if_neg l0, if_neg u0]
      rw [if_neg l1, if_pos u1]
      rw [if_neg (fun e => nomatch e)]
    · rw [putLG_z _ _ _ _ _ (by omega), putLG_1]
      exact ⟨⟨0, by omega, rfl⟩, i, hi, rfl⟩
end STS
