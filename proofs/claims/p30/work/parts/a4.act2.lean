/-! LEVEL 2: sender, machine, lamp, remove, say, run, set: both sides -/
section ACT2
variable {z0 : Nat} {σ σ1 : SG} {W W1 : Nat → NW} {P P1 : Nat → Nat} {kp : Nat} {h : Int32} {g : NW}
theorem c_wire_out {a : Int32} (h : a < 0 ∨ nI 6 ≤ a) (σ : SG) : m_X8_isWire a σ = some (0, σ) := by
  unfold m_X8_isWire
  by_cases h0 : a < 0
  · rw [if_pos h0]; rfl
  · rw [if_neg h0, if_pos (show 6 ≤ a from h.resolve_left h0)]; rfl
theorem c_wire {i : Nat} (h : i < 6) (σ : SG) : m_X8_isWire (nI i) σ = some (1, σ) := by
  unfold m_X8_isWire
  rw [if_neg (nI_pos (by omega)), if_neg (show ¬ (6 : Int32) ≤ nI i from nI_ge (b := 6) h (by decide))]
  rfl
/-! the things that are there, of both -/
theorem b_S (hI : Inv g) {w : NW} (hR : Rel g w) : ∀ i, i < 5 → b01 (w 1 i 0) := fun i hi => by rw [hR.1.c1 i (by decide)]; exact (hI.1 i hi).1
theorem b_M (hI : Inv g) {w : NW} (hR : Rel g w) : ∀ i, i < 4 → b01 (w 2 i 0) := fun i hi => by rw [hR.1.c2 i (Or.inl (by decide))]; exact (hI.2.1 i hi).1
theorem b_L (hI : Inv g) {w : NW} (hR : Rel g w) : ∀ i, i < 8 → b01 (w 3 i 0) := fun i hi => by rw [hR.1.c3 i]; exact (hI.2.2.1 i hi).1
theorem rel_putS {w : NW} (hR : Rel g w) (i : Nat) (a b : Int32) : Rel (putSG g i a b 0) (putSW w i a b) := by
  refine hR.slot (c0 := 1) (i0 := i) (Or.inl rfl) (fun c i' j hn => putSG_o _ _ _ _ _ hn) (fun c i' j hn => ?_) (fun j hj _ => ?_) (fun _ j _ hl => ?_)
  · unfold putSW
    rw [up3_slot _ _ hn, up3_slot _ _ hn, up3_slot _ _ hn, up3_slot _ _ hn, up3_slot _ _ hn, up3_slot _ _ hn, up3_slot _ _ hn, up3_slot _ _ hn]
  · have hj8 : j = 0 ∨ j = 1 ∨ j = 2 ∨ j = 3 ∨ j = 4 ∨ j = 5 ∨ j = 6 ∨ j = 7 := by
      have := hj rfl
      omega
    rcases hj8 with rfl | rfl | rfl | rfl | rfl | rfl | rfl | rfl
    · rw [putSG_0]; simp [putSW, up3]
    · rw [putSG_1]; simp [putSW, up3]
    · rw [putSG_2]; simp [putSW, up3]
    · rw [putSG_3]; simp [putSW, up3]
    · rw [putSG_z _ _ _ _ _ (by omega)]; simp [putSW, up3]
    · rw [putSG_z _ _ _ _ _ (by omega)]; simp [putSW, up3]
    · rw [putSG_z _ _ _ _ _ (by omega)]; simp [putSW, up3]
    · rw [putSG_z _ _ _ _ _ (by omega)]; simp [putSW, up3]
  · rw [putSG_3] at hl
    exact absurd hl (nI_pos (by omega))
theorem inv_putS (hI : Inv g) (i : Nat) {a : Nat} (ha : a < 6) (b : Int32) : Inv (putSG g i (nI a) b 0) := by
  refine hI.slot (c0 := 1) (i0 := i) (fun c i' j hn => putSG_o _ _ _ _ _ hn) (fun _ _ => ?_) (fun e => absurd e (by decide)) (fun e => absurd e (by decide)) (by decide)
  unfold InvS
  rw [putSG_0, putSG_1, putSG_3, putSG_z _ _ _ _ _ (by omega : 4 ≤ 4 ∧ 4 < 14), putSG_z _ _ _ _ _ (by omega : 4 ≤ 6 ∧ 6 < 14), putSG_z _ _ _ _ _ (by omega : 4 ≤ 7 ∧ 7 < 14)]
  exact ⟨Or.inr rfl, Or.inl rfl, fun _ => ⟨⟨a, ha, rfl⟩, ⟨0, by omega, rfl, fun e => absurd e (by decide), fun j hj => absurd hj (by omega)⟩, ⟨0, by omega, rfl⟩, ⟨0, by omega, rfl⟩⟩⟩

theorem rel_putM {w : NW} (hR : Rel g w) (i : Nat) (a b c : Int32) : Rel (up3 (putMG g i a b c) 2 i 4 1) (putMW w i a b c) := by
  refine hR.slot (c0 := 2) (i0 := i) (Or.inr (Or.inl rfl)) (fun c' i' j hn => ?_) (fun c' i' j hn => ?_) (fun j _ hj => ?_) (fun e => absurd e (by decide))
  · rw [up3_slot _ _ hn]; exact putMG_o _ _ _ _ _ hn
  · unfold putMW
    rw [up3_slot _ _ hn, up3_slot _ _ hn, up3_slot _ _ hn, up3_slot _ _ hn, up3_slot _ _ hn]
  · by_cases h5 : j < 5
    · have hj5 : j = 0 ∨ j = 1 ∨ j = 2 ∨ j = 3 ∨ j = 4 := by omega
      rcases hj5 with rfl | rfl | rfl | rfl | rfl <;> simp [putMW, putMG, up3]
    · have e1 : putMW w i a b c 2 i j = w 2 i j := by
        simp only [putMW, up3]
        rw [if_neg (by omega), if_neg (by omega), if_neg (by omega), if_neg (by omega), if_neg (by omega)]
      have e2 : up3 (putMG g i a b c) 2 i 4 1 2 i j = g 2 i j := by
        simp only [putMG, up3]
        rw [if_neg (by omega), if_neg (by omega), if_neg (by omega), if_neg (by omega), if_neg (by omega)]
        exact if_neg (by omega)
      rw [e1, e2]
      exact hR.1.c2 i (Or.inl (by omega))
theorem inv_putM (hI : Inv g) (i : Nat) {a : Nat} (ha : a < 6) (b : Int32) {c : Nat} (h2 : 2 ≤ c) (h20 : c ≤ 20) : Inv (up3 (putMG g i (nI a) b (nI c)) 2 i 4 1) := by
  refine hI.slot (c0 := 2) (i0 := i) (fun c' i' j hn => ?_) (fun e => absurd e (by decide)) (fun _ _ => ?_) (fun e => absurd e (by decide)) (by decide)
  · rw [up3_slot _ _ hn]; exact putMG_o _ _ _ _ _ hn
  · have e : ∀ j, j ≠ 4 → up3 (putMG g i (nI a) b (nI c)) 2 i 4 1 2 i j = putMG g i (nI a) b (nI c) 2 i j := fun j hj => if_neg (fun e => hj e.2.2)
    unfold InvM
    rw [e 0 (by decide), e 1 (by decide), e 3 (by decide), up3_eq, putMG_0, putMG_1, putMG_3]
    exact ⟨Or.inr rfl, Or.inr rfl, fun _ => ⟨⟨a, ha, rfl⟩, ⟨c, h2, h20, rfl⟩⟩⟩
theorem rel_putL {w : NW} (hR : Rel g w) (i : Nat) (a b c : Int32) : Rel (putLG g i a b c) (putLW w i a b c) := by
  refine hR.slot (c0 := 3) (i0 := i) (Or.inr (Or.inr rfl)) (fun c' i' j hn => putLG_o _ _ _ _ _ hn) (fun c' i' j hn => ?_) (fun j _ _ => ?_) (fun e => absurd e (by decide))
  · unfold putLW
    rw [up3_slot _ _ hn, up3_slot _ _ hn, up3_slot _ _ hn, up3_slot _ _ hn, up3_slot _ _ hn, up3_slot _ _ hn]
  · by_cases h6 : j < 6
    · have hj6 : j = 0 ∨ j = 1 ∨ j = 2 ∨ j = 3 ∨ j = 4 ∨ j = 5 := by omega
      rcases hj6 with rfl | rfl | rfl | rfl | rfl | rfl
      · rw [putLG_0]; simp [putLW, up3]
      · rw [putLG_1]; simp [putLW, up3]
      · rw [putLG_2]; simp [putLW, up3]
      · rw [putLG_3]; simp [putLW, up3]
      · rw [putLG_z _ _ _ _ _ (by omega)]; simp [putLW, up3]
      · rw [putLG_z _ _ _ _ _ (by omega)]; simp [putLW, up3]
    · have e1 : putLW w i a b c 3 i j = w 3 i j := by
        simp only [putLW, up3]
        rw [if_neg (by omega), if_neg (by omega), if_neg (by omega), if_neg (by omega), if_neg (by omega), if_neg (by omega)]
      have e2 : putLG g i a b c 3 i j = g 3 i j := by
        simp only [putLG, up3]
        rw [if_neg (by omega), if_neg (by omega), if_neg (by omega), if_neg (by omega)]
        exact if_neg (by omega)
      rw [e1, e2]
      exact hR.1.c3 i j
theorem inv_putL (hI : Inv g) (i : Nat) (a b c : Int32) : Inv (putLG g i a b c) := by
  refine hI.slot (c0 := 3) (i0 := i) (fun c' i' j hn => putLG_o _ _ _ _ _ hn) (fun e => absurd e (by decide)) (fun e => absurd e (by decide)) (fun _ _ => ?_) (by decide)
  unfold InvL
  rw [putLG_0, putLG_z _ _ _ _ _ (by omega)]
  exact ⟨Or.inr rfl, Or.inl rfl⟩
theorem lt_le {a : Int32} {n : Nat} (h : nI n < a) (hn : n + 1 < 2 ^ 31) : nI (n + 1) ≤ a := by
  rw [Int32.lt_iff_toInt_lt, nI_toInt (by omega)] at h
  rw [Int32.le_iff_toInt_le, nI_toInt hn]
  omega
theorem gN_mac {σ : SG} {n : Nat} {w : NW} {i : Nat} (h : i < 4) : sGetI (some (macA n i)) 2 0 (ovr σ n w) = some (nI i) := by simp [sGetI, at_mac h, cMac]
theorem gN_lam {σ : SG} {n : Nat} {w : NW} {i : Nat} (h : i < 8) : sGetI (some (lamA n i)) 1 0 (ovr σ n w) = some (nI i) := by simp [sGetI, at_lam h, cLam]
end ACT2


