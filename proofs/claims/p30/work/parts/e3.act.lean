/-! p30: an act of the law answers true, the switch -/
section LACS
variable {z0 T : Nat} {σ : SG} {g : NW} {s u : Option (Nat × NW)}
theorem acts_end {v : Option (Int32 × SG)} (e : ∃ σ' g' u', v = some (1, σ') ∧ ST z0 σ' T g' s u') : ∃ σ' T' g' u', v = some (1, σ') ∧ T ≤ T' ∧ T' ≤ T + 60 ∧ ST z0 σ' T' g' s u' := by
  obtain ⟨σ', g', u', h1, h2⟩ := e
  exact ⟨σ', T, g', u', h1, Nat.le_refl _, by omega, h2⟩
theorem n4 : ¬ (4 : Int32) = 0 := by decide
theorem n5 : ¬ (5 : Int32) = 0 := by decide
theorem n6 : ¬ (6 : Int32) = 0 := by decide
theorem n9 : ¬ (9 : Int32) = 0 := by decide
theorem n10 : ¬ (10 : Int32) = 0 := by decide
theorem n19 : ¬ (19 : Int32) = 0 := by decide
theorem n60 : ¬ (60 : Int32) = 0 := by decide
theorem r46 {C : Nat} (hC : C < 2 ^ 31) : (nI C >>> ((4 : Int32) &&& 31)) - (nI C >>> ((4 : Int32) &&& 31)) / 6 * 6 = nI (C / 2 ^ 4 % 6) := mr hC 4 (by decide) (d := 6) (by decide) (by decide)
theorem r45 {C : Nat} (hC : C < 2 ^ 31) : (nI C >>> ((4 : Int32) &&& 31)) - (nI C >>> ((4 : Int32) &&& 31)) / 5 * 5 = nI (C / 2 ^ 4 % 5) := mr hC 4 (by decide) (d := 5) (by decide) (by decide)
theorem r44 {C : Nat} (hC : C < 2 ^ 31) : (nI C >>> ((4 : Int32) &&& 31)) - (nI C >>> ((4 : Int32) &&& 31)) / 4 * 4 = nI (C / 2 ^ 4 % 4) := mr hC 4 (by decide) (d := 4) (by decide) (by decide)
theorem r460 {C : Nat} (hC : C < 2 ^ 31) : (nI C >>> ((4 : Int32) &&& 31)) - (nI C >>> ((4 : Int32) &&& 31)) / 60 * 60 = nI (C / 2 ^ 4 % 60) := mr hC 4 (by decide) (d := 60) (by decide) (by decide)
theorem r89 {C : Nat} (hC : C < 2 ^ 31) : (nI C >>> ((8 : Int32) &&& 31)) - (nI C >>> ((8 : Int32) &&& 31)) / 9 * 9 = nI (C / 2 ^ 8 % 9) := mr hC 8 (by decide) (d := 9) (by decide) (by decide)
theorem r84 {C : Nat} (hC : C < 2 ^ 31) : (nI C >>> ((8 : Int32) &&& 31)) - (nI C >>> ((8 : Int32) &&& 31)) / 4 * 4 = nI (C / 2 ^ 8 % 4) := mr hC 8 (by decide) (d := 4) (by decide) (by decide)
theorem r810 {C : Nat} (hC : C < 2 ^ 31) : (nI C >>> ((8 : Int32) &&& 31)) - (nI C >>> ((8 : Int32) &&& 31)) / 10 * 10 = nI (C / 2 ^ 8 % 10) := mr hC 8 (by decide) (d := 10) (by decide) (by decide)
theorem r83 {C : Nat} (hC : C < 2 ^ 31) : (nI C >>> ((8 : Int32) &&& 31)) - (nI C >>> ((8 : Int32) &&& 31)) / 3 * 3 = nI (C / 2 ^ 8 % 3) := mr hC 8 (by decide) (d := 3) (by decide) (by decide)
theorem r104 {C : Nat} (hC : C < 2 ^ 31) : (nI C >>> ((10 : Int32) &&& 31)) - (nI C >>> ((10 : Int32) &&& 31)) / 4 * 4 = nI (C / 2 ^ 10 % 4) := mr hC 10 (by decide) (d := 4) (by decide) (by decide)
theorem r1219 {C : Nat} (hC : C < 2 ^ 31) : (nI C >>> ((12 : Int32) &&& 31)) - (nI C >>> ((12 : Int32) &&& 31)) / 19 * 19 = nI (C / 2 ^ 12 % 19) := mr hC 12 (by decide) (d := 19) (by decide) (by decide)
theorem r73 {C : Nat} (hC : C < 2 ^ 31) : (nI C >>> ((7 : Int32) &&& 31)) - (nI C >>> ((7 : Int32) &&& 31)) / 3 * 3 = nI (C / 2 ^ 7 % 3) := mr hC 7 (by decide) (d := 3) (by decide) (by decide)
theorem r10 {C : Nat} (hC : C < 2 ^ 31) : nI C - nI C / 10 * 10 = nI (C % 10) := pk_rem (d := 10) hC (by decide) (by decide)
theorem one_nI (n : Nat) : (1 : Int32) + nI n = nI (1 + n) := nI_add 1 n
theorem two_nI (n : Nat) : (2 : Int32) + nI n = nI (2 + n) := nI_add 2 n
theorem K_0 (S : ST z0 σ T g s u) {C : Nat} (hC : C < 2 ^ 31) (h : C % 10 = 0) : ∃ σ' g' u', m_L_acts (some z0) (nI C) σ = some (1, σ') ∧ ST z0 σ' T g' s u' := by
  have G := S.cg
  have hi : C / 2 ^ 4 % 6 < 6 := Nat.mod_lt _ (by decide)
  have hb : C / 2 ^ 8 % 9 < 9 := Nat.mod_lt _ (by decide)
  obtain ⟨a5, an⟩ := A_sender S hi (show 1 ≤ 1 + C / 2 ^ 8 % 9 by omega) (show 1 + C / 2 ^ 8 % 9 ≤ 9 by omega)
  obtain ⟨f5, fn⟩ := sm_full (p := fun k => g 1 k 0) (N := 5) (fun k hk => (G.inv.1 k hk).1) 5 0 0 (by omega)
  have hle := (frN_rng (fun i => g 1 i 0) 5 0).2
  unfold m_L_acts
  simp only [r46 hC, r89 hC, r10 hC, one_nI, h, n5, n6, n9, n10, if_false, swK, G.oX, C_count_1 G, Option.bind_some, bnd_some]
  rw [if_pos (show nI 0 = 0 from rfl)]
  generalize C / 2 ^ 4 % 6 = i at *
  generalize 1 + C / 2 ^ 8 % 9 = b at *
  by_cases h5 : frN (fun i => g 1 i 0) 5 0 = 5
  · refine ⟨σ, g, u, ?_, S⟩
    simp only [a5 h5, bnd_some, if_true]
    rw [f5 h5, if_pos (show (0 : Int32) + nI 5 = 5 by decide)]
    rfl
  · obtain ⟨m, hm, em⟩ := fn h5
    obtain ⟨σ', e, S'⟩ := an h5
    have G' := S'.cg
    generalize frN (fun i => g 1 i 0) 5 0 = k at *
    have hk : k < 5 := by omega
    have p0 := putSG_0 g k (nI i) (nI b) 0
    refine ⟨σ', _, _, ?_, S'⟩
    simp only [e, bnd_some]
    rw [em, Int32.zero_add, if_neg (show ¬ nI m = 5 from fun e => absurd ((nI_eq (a := m) (b := 5) (by omega) (by decide)).mp e) (by omega)), if_neg (nI_pos (by omega))]
    simp only [G'.oX, C_sender_0 G' hk p0, C_sender_1 G' hk p0, C_sender_2 G' hk p0, C_sender_3 G' hk p0, putSG_1, putSG_2, putSG_3, putSG_z g k (nI i) (nI b) 0 (show 4 ≤ 4 ∧ 4 < 14 by omega), Option.bind_some, bnd_some, if_true]
    rfl
theorem K_1 (S : ST z0 σ T g s u) {C : Nat} (hC : C < 2 ^ 31) (h : C % 10 = 1) : ∃ σ' g' u', m_L_acts (some z0) (nI C) σ = some (1, σ') ∧ ST z0 σ' T g' s u' := by
  have G := S.cg
  have hi : C / 2 ^ 4 % 6 < 6 := Nat.mod_lt _ (by decide)
  have hb : C / 2 ^ 8 % 9 < 9 := Nat.mod_lt _ (by decide)
  have hc : C / 2 ^ 12 % 19 < 19 := Nat.mod_lt _ (by decide)
  obtain ⟨a5, an⟩ := A_machine S hi (show 1 ≤ 1 + C / 2 ^ 8 % 9 by omega) (show 1 + C / 2 ^ 8 % 9 ≤ 9 by omega) (show 2 ≤ 2 + C / 2 ^ 12 % 19 by omega) (show 2 + C / 2 ^ 12 % 19 ≤ 20 by omega)
  obtain ⟨f5, fn⟩ := sm_full (p := fun k => g 2 k 0) (N := 4) (fun k hk => (G.inv.2.1 k hk).1) 4 0 0 (by omega)
  have hle := (frN_rng (fun i => g 2 i 0) 4 0).2
  unfold m_L_acts
  simp only [r46 hC, r89 hC, r10 hC, r1219 hC, one_nI, two_nI, h, n5, n6, n9, n10, n19, three_ne, if_false, swK, G.oX, C_count_2 G, Option.bind_some, bnd_some]
  rw [if_neg (show ¬ nI 1 = 0 by decide), if_pos (show nI 1 = 1 from rfl)]
  generalize C / 2 ^ 4 % 6 = i at *
  generalize 1 + C / 2 ^ 8 % 9 = b at *
  generalize 2 + C / 2 ^ 12 % 19 = c at *
  by_cases h5 : frN (fun i => g 2 i 0) 4 0 = 4
  · refine ⟨σ, g, u, ?_, S⟩
    simp only [a5 h5, bnd_some, if_true]
    rw [f5 h5, if_pos (show (0 : Int32) + nI 4 = 4 by decide)]
    rfl
  · obtain ⟨m, hm, em⟩ := fn h5
    obtain ⟨σ', e, S'⟩ := an h5
    have G' := S'.cg
    generalize frN (fun i => g 2 i 0) 4 0 = k at *
    have hk : k < 4 := by omega
    have q : ∀ j, j ≠ 4 → up3 (putMG g k (nI i) (nI b) (nI c)) 2 k 4 1 2 k j = putMG g k (nI i) (nI b) (nI c) 2 k j := fun j hj => up3_f hj
    have p0 : up3 (putMG g k (nI i) (nI b) (nI c)) 2 k 4 1 2 k 0 = 1 := (q 0 (by decide)).trans (putMG_0 _ _ _ _ _)
    have p3 : up3 (putMG g k (nI i) (nI b) (nI c)) 2 k 4 1 2 k 3 = nI c := (q 3 (by decide)).trans (putMG_3 _ _ _ _ _)
    have run : ∀ x : Int32, b01 x → ∃ σ2 g2 u2, m_L_acts_b276 (some z0) (nI k) x σ' = some (1, σ2) ∧ ST z0 σ2 T g2 s u2 := fun x hx => by
      obtain ⟨σ2, e2, S2⟩ := A_run S' hk p0 hx
      refine ⟨σ2, _, _, ?_, S2⟩
      unfold m_L_acts_b276
      simp only [G'.oX, e2, up3_eq, Option.bind_some, bnd_some, if_true]
      rfl
    simp only [e, bnd_some]
    rw [em, Int32.zero_add, if_neg (show ¬ nI m = 4 from fun e => absurd ((nI_eq (a := m) (b := 4) (by omega) (by decide)).mp e) (by omega)), if_neg (nI_pos (by omega))]
    simp only [G'.oX, C_machine_2 G' hk p0, C_machine_3 G' hk p0, p3, up3_eq, Option.bind_some, bnd_some, if_true]
    split
    · exact run 0 (Or.inl rfl)
    · exact run 1 (Or.inr rfl)
theorem K_2 (S : ST z0 σ T g s u) {C : Nat} (hC : C < 2 ^ 31) (h : C % 10 = 2) : ∃ σ' g' u', m_L_acts (some z0) (nI C) σ = some (1, σ') ∧ ST z0 σ' T g' s u' := by
  have G := S.cg
  have hi : C / 2 ^ 4 % 6 < 6 := Nat.mod_lt _ (by decide)
  have hb : C / 2 ^ 8 % 4 < 4 := Nat.mod_lt _ (by decide)
  have hc : C / 2 ^ 10 % 4 < 4 := Nat.mod_lt _ (by decide)
  obtain ⟨a5, an⟩ := A_lamp S hi hb hc
  obtain ⟨f5, fn⟩ := sm_full (p := fun k => g 3 k 0) (N := 8) (fun k hk => (G.inv.2.2.1 k hk).1) 8 0 0 (by omega)
  have hle := (frN_rng (fun i => g 3 i 0) 8 0).2
  unfold m_L_acts
  simp only [r46 hC, r84 hC, r10 hC, r104 hC, h, n4, n5, n6, n10, if_false, swK, G.oX, C_count_3 G, Option.bind_some, bnd_some]
  rw [if_neg (show ¬ nI 2 = 0 by decide), if_neg (show ¬ nI 2 = 1 by decide), if_pos (show nI 2 = 2 from rfl)]
  generalize C / 2 ^ 4 % 6 = i at *
  generalize C / 2 ^ 8 % 4 = b at *
  generalize C / 2 ^ 10 % 4 = c at *
  by_cases h5 : frN (fun i => g 3 i 0) 8 0 = 8
  · refine ⟨σ, g, u, ?_, S⟩
    simp only [a5 h5, bnd_some, if_true]
    rw [f5 h5, if_pos (show (0 : Int32) + nI 8 = 8 by decide)]
    rfl
  · obtain ⟨m, hm, em⟩ := fn h5
    obtain ⟨σ', e, S'⟩ := an h5
    have G' := S'.cg
    generalize frN (fun i => g 3 i 0) 8 0 = k at *
    have hk : k < 8 := by omega
    have p0 := putLG_0 g k (nI i) (nI b) (nI c)
    refine ⟨σ', _, _, ?_, S'⟩
    simp only [e, bnd_some]
    rw [em, Int32.zero_add, if_neg (show ¬ nI m = 8 from fun e => absurd ((nI_eq (a := m) (b := 8) (by omega) (by decide)).mp e) (by omega)), if_neg (nI_pos (by omega))]
    simp only [G'.oX, C_lamp_1 G' hk p0, C_lamp_2 G' hk p0, C_lamp_3 G' hk p0, C_lamp_4 G' hk p0, putLG_2, putLG_3, putLG_z g k (nI i) (nI b) (nI c) (show 4 ≤ 4 ∧ 4 < 6 by omega), putLG_z g k (nI i) (nI b) (nI c) (show 4 ≤ 5 ∧ 5 < 6 by omega), Option.bind_some, bnd_some, if_true]
    rfl
theorem K_3 (S : ST z0 σ T g s u) {C : Nat} (hC : C < 2 ^ 31) (h : C % 10 = 3) : ∃ σ' g' u', m_L_acts (some z0) (nI C) σ = some (1, σ') ∧ ST z0 σ' T g' s u' := by
  have G := S.cg
  have hi : C / 2 ^ 4 % 5 < 5 := Nat.mod_lt _ (by decide)
  have hk : C / 2 ^ 7 % 3 < 3 := Nat.mod_lt _ (by decide)
  unfold m_L_acts
  simp only [r45 hC, r73 hC, r10 hC, h, n5, n6, n10, three_ne, if_false, swK]
  rw [if_neg (show ¬ nI 3 = 0 by decide), if_neg (show ¬ nI 3 = 1 by decide), if_neg (show ¬ nI 3 = 2 by decide), if_pos (show nI 3 = 3 from rfl)]
  generalize C / 2 ^ 4 % 5 = i at *
  generalize C / 2 ^ 7 % 3 = k at *
  have h3 : k = 0 ∨ k = 1 ∨ k = 2 := by omega
  rcases h3 with rfl | rfl | rfl
  · obtain ⟨r, e, R⟩ := R_0 S hi
    rw [if_pos (show nI 0 = 0 from rfl)]
    simp only [G.oX, e, Option.bind_some, bnd_some]
    exact K_remove S hC R
  · obtain ⟨r, e, R⟩ := R_1 S hi
    rw [if_neg (show ¬ nI 1 = 0 by decide), if_pos (show nI 1 = 1 from rfl)]
    simp only [G.oX, e, Option.bind_some, bnd_some]
    exact K_remove S hC R
  · obtain ⟨r, e, R⟩ := R_2 S hi
    rw [if_neg (show ¬ nI 2 = 0 by decide), if_neg (show ¬ nI 2 = 1 by decide)]
    simp only [G.oX, e, Option.bind_some, bnd_some]
    exact K_remove S hC R
theorem K_4 (S : ST z0 σ T g s u) {C : Nat} (hC : C < 2 ^ 31) (h : C % 10 = 4) : ∃ σ' g' u', m_L_acts (some z0) (nI C) σ = some (1, σ') ∧ ST z0 σ' T g' s u' := by
  have hk : C / 2 ^ 4 % 4 < 4 := Nat.mod_lt _ (by decide)
  have h9 : C / 2 ^ 8 % 9 < 9 := Nat.mod_lt _ (by decide)
  have h3 : C / 2 ^ 8 % 3 < 3 := Nat.mod_lt _ (by decide)
  have h10 : C / 2 ^ 8 % 10 < 10 := Nat.mod_lt _ (by decide)
  unfold m_L_acts
  simp only [r44 hC, r89 hC, r83 hC, r810 hC, r10 hC, one_nI, h, n4, n5, n6, n9, n10, three_ne, if_false, swK]
  rw [if_neg (show ¬ nI 4 = 0 by decide), if_neg (show ¬ nI 4 = 1 by decide), if_neg (show ¬ nI 4 = 2 by decide), if_neg (show ¬ nI 4 = 3 by decide), if_pos (show nI 4 = 4 from rfl)]
  generalize C / 2 ^ 4 % 4 = k at *
  have h4 : k = 0 ∨ k = 1 ∨ k = 2 ∨ k = 3 := by omega
  rcases h4 with rfl | rfl | rfl | rfl
  · rw [if_neg (show ¬ (2 : Int32) ≤ nI 0 by decide)]
    exact K_set S (l := 0) (m := 9) (by decide) rfl rfl (by omega) (by omega) (by decide) (fun e => absurd e (by decide))
  · rw [if_neg (show ¬ (2 : Int32) ≤ nI 1 by decide)]
    exact K_set S (l := 0) (m := 9) (by decide) rfl rfl (by omega) (by omega) (by decide) (fun e => absurd e (by decide))
  · rw [if_pos (show (2 : Int32) ≤ nI 2 by decide), if_pos (show nI 2 = 2 from rfl)]
    exact K_set S (l := 1) (m := 9) (by decide) rfl rfl (by omega) (by omega) (by decide) (fun e => absurd e (by decide))
  · rw [if_pos (show (2 : Int32) ≤ nI 3 by decide), if_neg (show ¬ nI 3 = 2 by decide)]
    exact K_set S (l := 1) (m := 3) (by decide) rfl rfl (by omega) (by omega) (by decide) (fun _ => by omega)
theorem K_567 (S : ST z0 σ T g s u) {C : Nat} (hC : C < 2 ^ 31) (h : C % 10 = 5 ∨ C % 10 = 6 ∨ C % 10 = 7) : ∃ σ' g' u', m_L_acts (some z0) (nI C) σ = some (1, σ') ∧ ST z0 σ' T g' s u' := by
  have hi : C / 2 ^ 4 % 5 < 5 := Nat.mod_lt _ (by decide)
  have K := K_say S hC hi
  unfold m_L_acts
  rcases h with h | h | h <;> simp only [r45 hC, r10 hC, h, n5, n6, n10, if_false, swK]
  · rw [if_neg (show ¬ nI 5 = 0 by decide), if_neg (show ¬ nI 5 = 1 by decide), if_neg (show ¬ nI 5 = 2 by decide), if_neg (show ¬ nI 5 = 3 by decide), if_neg (show ¬ nI 5 = 4 by decide), if_pos (show nI 5 = 5 from rfl)]
    exact K
  · rw [if_neg (show ¬ nI 6 = 0 by decide), if_neg (show ¬ nI 6 = 1 by decide), if_neg (show ¬ nI 6 = 2 by decide), if_neg (show ¬ nI 6 = 3 by decide), if_neg (show ¬ nI 6 = 4 by decide), if_neg (show ¬ nI 6 = 5 by decide), if_pos (show nI 6 = 6 from rfl)]
    exact K
  · rw [if_neg (show ¬ nI 7 = 0 by decide), if_neg (show ¬ nI 7 = 1 by decide), if_neg (show ¬ nI 7 = 2 by decide), if_neg (show ¬ nI 7 = 3 by decide), if_neg (show ¬ nI 7 = 4 by decide), if_neg (show ¬ nI 7 = 5 by decide), if_neg (show ¬ nI 7 = 6 by decide), if_pos (show nI 7 = 7 from rfl)]
    exact K
theorem K_89 (S : ST z0 σ T g s u) {C : Nat} (hC : C < 2 ^ 31) (h : C % 10 = 8 ∨ C % 10 = 9) : ∃ σ' T' g' u', m_L_acts (some z0) (nI C) σ = some (1, σ') ∧ T ≤ T' ∧ T' ≤ T + 60 ∧ ST z0 σ' T' g' s u' := by
  have G := S.cg
  have h60 : C / 2 ^ 4 % 60 < 60 := Nat.mod_lt _ (by decide)
  obtain ⟨t, σ', e, et, S'⟩ := A_pass S (show 1 ≤ 1 + C / 2 ^ 4 % 60 by omega) (show 1 + C / 2 ^ 4 % 60 ≤ 99 by omega)
  have G' := S'.cg
  have e2 : m_X8_total (some z0) 2 σ = some (g 7 0 2, σ) := C_total G (j := 2) (by decide)
  have e2' : m_X8_total (some z0) 2 σ' = some (itb (1 + C / 2 ^ 4 % 60) g 7 0 2, σ') := C_total G' (j := 2) (by decide)
  refine ⟨σ', T + (1 + C / 2 ^ 4 % 60), _, _, ?_, by omega, by omega, S'⟩
  have last : (if (60 : Int32) = 0 then (none : Option (Int32 × SG)) else
    (sObj (some z0) 7 σ).bind fun _ =>
    bnd (m_X8_count (some z0) (0 : Int32) σ) fun r105 σ106 =>
    (sObj (some z0) 7 σ106).bind fun _ =>
    bnd (m_X8_total (some z0) (2 : Int32) σ106) fun r107 σ108 =>
    (sObj (some z0) 7 σ108).bind fun _ =>
    bnd (m_X8_pass (some z0) (nI (1 + C / 2 ^ 4 % 60)) σ108) fun r109 σ110 =>
    (sObj (some z0) 7 σ110).bind fun _ =>
    bnd (m_X8_total (some z0) (2 : Int32) σ110) fun r111 σ112 =>
    if r109 = (r111 - r107) then (
      (sObj (some z0) 7 σ112).bind fun _ =>
      bnd (m_X8_count (some z0) (0 : Int32) σ112) fun r114 σ115 =>
      if r114 = (r105 + nI (1 + C / 2 ^ 4 % 60)) then (
        chkZ (1 : Int32) σ115
      ) else (
        chkZ (0 : Int32) σ115
      )
    ) else (
      chkZ (0 : Int32) σ112
    )) = some (1, σ') := by
    rw [if_neg n60]
    simp only [G.oX, C_count_0 G, e2, e, G'.oX, e2', C_count_0 G', et, S.jt.1, S'.jt.1, add_sub_self, nI_add, Option.bind_some, bnd_some, if_true]
    rfl
  unfold m_L_acts
  rcases h with h | h <;> simp only [r460 hC, r10 hC, h, one_nI, n5, n6, n10, if_false, swK]
  · rw [if_neg (show ¬ nI 8 = 0 by decide), if_neg (show ¬ nI 8 = 1 by decide), if_neg (show ¬ nI 8 = 2 by decide), if_neg (show ¬ nI 8 = 3 by decide), if_neg (show ¬ nI 8 = 4 by decide), if_neg (show ¬ nI 8 = 5 by decide), if_neg (show ¬ nI 8 = 6 by decide), if_neg (show ¬ nI 8 = 7 by decide)]
    exact last
  · rw [if_neg (show ¬ nI 9 = 0 by decide), if_neg (show ¬ nI 9 = 1 by decide), if_neg (show ¬ nI 9 = 2 by decide), if_neg (show ¬ nI 9 = 3 by decide), if_neg (show ¬ nI 9 = 4 by decide), if_neg (show ¬ nI 9 = 5 by decide), if_neg (show ¬ nI 9 = 6 by decide), if_neg (show ¬ nI 9 = 7 by decide)]
    exact last
theorem L_acts (S : ST z0 σ T g s u) {C : Nat} (hC : C < 2 ^ 31) : ∃ σ' T' g' u', m_L_acts (some z0) (nI C) σ = some (1, σ') ∧ T ≤ T' ∧ T' ≤ T + 60 ∧ ST z0 σ' T' g' s u' := by
  have hm : C % 10 < 10 := Nat.mod_lt _ (by decide)
  have h : C % 10 = 0 ∨ C % 10 = 1 ∨ C % 10 = 2 ∨ C % 10 = 3 ∨ C % 10 = 4 ∨ (C % 10 = 5 ∨ C % 10 = 6 ∨ C % 10 = 7) ∨ (C % 10 = 8 ∨ C % 10 = 9) := by omega
  rcases h with h | h | h | h | h | h | h
  · exact acts_end (K_0 S hC h)
  · exact acts_end (K_1 S hC h)
  · exact acts_end (K_2 S hC h)
  · exact acts_end (K_3 S hC h)
  · exact acts_end (K_4 S hC h)
  · exact acts_end (K_567 S hC h)
  · exact K_89 S hC h
end LACS
