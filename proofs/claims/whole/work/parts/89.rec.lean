/-! LEVEL 2: what was held goes into the reference's history; taken back; restored -/
section REC
variable {σ : SG} {M : Nat}
/-- before: the oldest is dropped, from place k on -/
def dro (r : RW) (k : Nat) : RW := fun q j => if q = 4 ∧ k ≤ j ∧ j < 570 then r 4 (190 + j) else r q j
/-- before: slot s is what is held, from its place k on -/
def slo (r : RW) (s k : Nat) : RW := fun q j => if q = 4 ∧ 190 * s + k ≤ j ∧ j < 190 * s + 190 then r 2 (j - 190 * s) else r q j
def recR (r : RW) (s : Nat) : RW := if s = 4 then up2 (slo (up2 (dro r 0) 0 12 (nI 3)) 3 0) 0 12 (nI 4) else up2 (slo r s 0) 0 12 (nI (s + 1))
theorem dro_end (r : RW) : dro r 570 = r := by
  funext q j
  exact if_neg (by omega)
theorem dro_step (r : RW) (k : Nat) (hk : k < 570) : dro (up2 r 4 k (r 4 (190 + k))) (k + 1) = dro r k := by
  funext q j
  unfold dro up2
  by_cases h : q = 4 ∧ k ≤ j ∧ j < 570
  · rw [if_pos h]
    by_cases hj : j = k
    · subst hj; rw [if_neg (by omega), if_pos ⟨h.1, rfl⟩]
    · rw [if_pos (by omega), if_neg (by omega)]
  · rw [if_neg h, if_neg (by omega), if_neg (by omega)]
theorem slo_end (r : RW) (s : Nat) : slo r s 190 = r := by
  funext q j
  exact if_neg (by omega)
theorem slo_step (r : RW) (s k : Nat) (hk : k < 190) : slo (up2 r 4 (190 * s + k) (r 2 k)) s (k + 1) = slo r s k := by
  funext q j
  unfold slo up2
  by_cases h : q = 4 ∧ 190 * s + k ≤ j ∧ j < 190 * s + 190
  · rw [if_pos h]
    by_cases hj : j = 190 * s + k
    · subst hj; rw [if_neg (by omega), if_pos ⟨h.1, rfl⟩, Nat.add_sub_cancel_left]
    · rw [if_pos (by omega), if_neg (by omega)]
  · rw [if_neg h, if_neg (by omega), if_neg (by omega)]
theorem q_recL {g : NW} {v : Int32} {s : Nat} (hs : s < 4) : ∀ (d k : Nat), k + d = 190 → ∀ (F : Nat), d < F → ∀ (r : RW), r 0 12 = nI s → m_X9_recorded_L51 F (some M) v (nI k) (ovs σ M r g) = some (v, ovs σ M (up2 (slo r s k) 0 12 (nI (s + 1))) g) := by
  intro d
  induction d with
  | zero =>
    intro k hk F hF r hr
    obtain ⟨F, rfl⟩ : ∃ m, F = m + 1 := ⟨F - 1, by omega⟩
    obtain rfl : k = 190 := by omega
    rw [show m_X9_recorded_L51 (F + 1) = m_X9_recorded_B51 (m_X9_recorded_L51 F) from rfl]
    unfold m_X9_recorded_B51
    rw [if_pos (show (190 : Int32) ≤ nI 190 by decide)]
    simp only [gI_s_12, pI_s_12, hr, Option.bind_some, ← nI_succ, slo_end]
  | succ d ih =>
    intro k hk F hF r hr
    obtain ⟨F, rfl⟩ : ∃ m, F = m + 1 := ⟨F - 1, by omega⟩
    have hk' : k < 190 := by omega
    rw [show m_X9_recorded_L51 (F + 1) = m_X9_recorded_B51 (m_X9_recorded_L51 F) from rfl]
    unfold m_X9_recorded_B51
    rw [if_neg (show ¬ (190 : Int32) ≤ nI k from nI_ge (b := 190) hk' (by decide))]
    simp only [gR_s_3, gR_s_1, gI_s_12, hr, nI_190, sld_2 hk', sst_4 (show 190 * s + k < 760 by omega), Option.bind_some, ← nI_succ]
    rw [ih (k + 1) (by omega) F (by omega) _ (by simp [up2, hr]), slo_step _ _ _ hk']
theorem q_rec0 {g : NW} {v : Int32} {s : Nat} (hs : s < 4) {r : RW} (hr : r 0 12 = nI s) : m_X9_recorded_b49 (some M) v (ovs σ M r g) = some (v, ovs σ M (up2 (slo r s 0) 0 12 (nI (s + 1))) g) := by
  have h := q_recL (σ := σ) (M := M) (g := g) (v := v) hs 190 0 rfl 1000 (by decide) r hr
  rw [← nI0] at h
  exact h
theorem q_droL {g : NW} {v : Int32} : ∀ (d k : Nat), k + d = 570 → ∀ (F : Nat), d < F → ∀ (r : RW), r 0 12 = nI 4 → m_X9_recorded_L10 F (some M) v (nI k) (ovs σ M r g) = some (v, ovs σ M (up2 (slo (up2 (dro r k) 0 12 (nI 3)) 3 0) 0 12 (nI 4)) g) := by
  intro d
  induction d with
  | zero =>
    intro k hk F hF r hr
    obtain ⟨F, rfl⟩ : ∃ m, F = m + 1 := ⟨F - 1, by omega⟩
    obtain rfl : k = 570 := by omega
    rw [show m_X9_recorded_L10 (F + 1) = m_X9_recorded_B10 (m_X9_recorded_L10 F) from rfl]
    unfold m_X9_recorded_B10
    rw [if_pos (show (570 : Int32) ≤ nI 570 by decide)]
    simp only [gI_s_12, pI_s_12, hr, Option.bind_some, dro_end]
    rw [show (nI 4 : Int32) - 1 = nI 3 from rfl]
    exact q_rec0 (by decide) (by simp [up2])
  | succ d ih =>
    intro k hk F hF r hr
    obtain ⟨F, rfl⟩ : ∃ m, F = m + 1 := ⟨F - 1, by omega⟩
    have hk' : k < 570 := by omega
    rw [show m_X9_recorded_L10 (F + 1) = m_X9_recorded_B10 (m_X9_recorded_L10 F) from rfl]
    unfold m_X9_recorded_B10
    rw [if_neg (show ¬ (570 : Int32) ≤ nI k from nI_ge (b := 570) hk' (by decide))]
    simp only [gR_s_3, nI_190', sld_4 (show 190 + k < 760 by omega), sst_4 (show k < 760 by omega), Option.bind_some, ← nI_succ]
    rw [ih (k + 1) (by omega) F (by omega) _ (by simp [up2, hr]), dro_step _ _ hk']
theorem q_recorded {g : NW} {v : Int32} {s : Nat} (hs : s ≤ 4) {r : RW} (hr : r 0 12 = nI s) : m_X9_recorded (some M) v (ovs σ M r g) = some (v, ovs σ M (recR r s) g) := by
  unfold m_X9_recorded recR
  simp only [gI_s_12, hr, Option.bind_some]
  by_cases h : s = 4
  · subst h
    rw [if_pos (show nI 4 = 4 from rfl), if_pos rfl]
    have h := q_droL (σ := σ) (M := M) (g := g) (v := v) 570 0 rfl 1000 (by decide) r hr
    rw [← nI0] at h
    exact h
  · rw [if_neg (show ¬ nI s = 4 from fun e => h ((nI_eq (a := s) (b := 4) (by omega) (by decide)).mp e)), if_neg h]
    exact q_rec0 (by omega) hr
/-- how many states are kept after one more, and from where -/
def kp1 (s : Nat) : Nat := if s = 4 then 4 else s + 1
def sh1 (s k : Nat) : Nat := if s = 4 then k + 1 else k
theorem up2_o {r : RW} {k j k' j' : Nat} {v : Int32} (h : ¬ (k' = k ∧ j' = j)) : up2 r k j v k' j' = r k' j' := if_neg h
theorem up2_i {r : RW} {k j : Nat} {v : Int32} : up2 r k j v k j = v := if_pos ⟨rfl, rfl⟩
theorem slo_o {r : RW} {s k q j : Nat} (h : ¬ (q = 4 ∧ 190 * s + k ≤ j ∧ j < 190 * s + 190)) : slo r s k q j = r q j := if_neg h
theorem slo_i {r : RW} {s k j : Nat} (h : 190 * s + k ≤ j ∧ j < 190 * s + 190) : slo r s k 4 j = r 2 (j - 190 * s) := if_pos ⟨rfl, h⟩
theorem dro_o {r : RW} {k q j : Nat} (h : ¬ (q = 4 ∧ k ≤ j ∧ j < 570)) : dro r k q j = r q j := if_neg h
theorem dro_i {r : RW} {k j : Nat} (h : k ≤ j ∧ j < 570) : dro r k 4 j = r 4 (190 + j) := if_pos ⟨rfl, h⟩
theorem recR_12 (r : RW) {s : Nat} : recR r s 0 12 = nI (kp1 s) := by
  unfold recR kp1
  split <;> exact up2_i
theorem recR_o (r : RW) (s : Nat) {q j : Nat} (h : q ≠ 4) (h0 : q ≠ 0 ∨ j ≠ 12) : recR r s q j = r q j := by
  have hc : ¬ (q = 0 ∧ j = 12) := by omega
  unfold recR
  split
  · rw [up2_o hc, slo_o (fun e => h e.1), up2_o hc, dro_o (fun e => h e.1)]
  · rw [up2_o hc, slo_o (fun e => h e.1)]
theorem recR_old (r : RW) {s k j : Nat} (hk : k + 1 < kp1 s) (hj : j < 190) : recR r s 4 (190 * k + j) = r 4 (190 * sh1 s k + j) := by
  unfold recR sh1
  unfold kp1 at hk
  by_cases h : s = 4
  · rw [if_pos h] at hk
    rw [if_pos h, if_pos h, up2_o (by omega), slo_o (by omega), up2_o (by omega), dro_i (by omega)]
    congr 1
    omega
  · rw [if_neg h] at hk
    rw [if_neg h, if_neg h, up2_o (by omega), slo_o (by omega)]
theorem recR_new (r : RW) {s j : Nat} (hj : j < 190) : recR r s 4 (190 * (kp1 s - 1) + j) = r 2 j := by
  unfold recR kp1
  by_cases h : s = 4
  · rw [if_pos h, if_pos h, up2_o (by omega), slo_i (by omega), up2_o (by omega), dro_o (by omega)]
    exact congrArg (r 2) (by omega)
  · rw [if_neg h, if_neg h, up2_o (by omega), slo_i (by omega)]
    exact congrArg (r 2) (by omega)
theorem q_undo_none {g : NW} {r : RW} (hr : r 0 12 = nI 0) : m_X9_undo (some M) (ovs σ M r g) = some (-5, ovs σ M r g) := by
  unfold m_X9_undo
  simp only [gI_s_12, hr, Option.bind_some]
  rw [if_pos (show nI 0 = 0 from rfl)]
theorem q_undo {g g' : NW} {s : Nat} (hs : s < 4) {r : RW} (hr : r 0 12 = nI (s + 1)) (h : ∀ j, j < 190 → r 4 (190 * s + j) = flat g' j) : m_X9_undo (some M) (ovs σ M r g) = some (nI s, ovs σ M (up2 r 0 12 (nI s)) g') := by
  unfold m_X9_undo
  simp only [gI_s_12, pI_s_12, hr, Option.bind_some]
  rw [if_neg (show ¬ nI (s + 1) = 0 from fun e => Nat.succ_ne_zero s ((nI_eq (a := s + 1) (b := 0) (by omega) (by decide)).mp e)), nI_pr]
  have e := q_undoL (σ := σ) (M := M) (r := up2 r 0 12 (nI s)) hs (by simp [up2]) 190 0 rfl 1000 (by decide) (flat g)
  rw [← nI0, sput_flat (g' := g') (fun j hj => by simp only [up2]; rw [if_neg (by omega)]; exact h j hj)] at e
  exact e
theorem q_restoreL {r : RW} {s : Nat} (hs : s ≤ 4) (hr : r 0 12 = nI s) {g' : NW} (hg : ∀ j, j < 190 → r 5 j = flat g' j) : ∀ (d k : Nat), k + d = 190 → ∀ (F : Nat), d < F → ∀ (f : Nat → Int32), (∀ j, ¬ (k ≤ j ∧ j < 190) → f j = flat g' j) → m_X9_restore_L16 F (some M) (nI k) (ovm σ M (st1 r f)) = some (g' 0 0 0, ovs σ M (recR r s) g') := by
  intro d
  induction d with
  | zero =>
    intro k hk F hF f hf
    obtain ⟨F, rfl⟩ : ∃ m, F = m + 1 := ⟨F - 1, by omega⟩
    obtain rfl : k = 190 := by omega
    obtain rfl : f = flat g' := funext fun j => hf j (by omega)
    rw [show m_X9_restore_L16 (F + 1) = m_X9_restore_B16 (m_X9_restore_L16 F) from rfl]
    unfold m_X9_restore_B16
    rw [if_pos (show (190 : Int32) ≤ nI 190 by decide), st1_flat]
    rw [show ovm σ M (srow r g') = ovs σ M r g' from rfl]
    have e4 : sAld (some (M + 1)) 1 4 (ovs σ M r g') = some (g' 0 0 0) := by
      rw [show (4 : Int32) = nI 4 from rfl, sld_1 (by decide)]
      exact congrArg some (flat_at (g := g') (c := 0) (i := 0) (j := 0) (Or.inr (Or.inl ⟨rfl, rfl, rfl⟩)))
    simp only [gR_s_0, e4, ob_s, q_recorded hs hr, Option.bind_some, bnd_some]
  | succ d ih =>
    intro k hk F hF f hf
    obtain ⟨F, rfl⟩ : ∃ m, F = m + 1 := ⟨F - 1, by omega⟩
    have hk' : k < 190 := by omega
    rw [show m_X9_restore_L16 (F + 1) = m_X9_restore_B16 (m_X9_restore_L16 F) from rfl]
    unfold m_X9_restore_B16
    rw [if_neg (show ¬ (190 : Int32) ≤ nI k from nI_ge (b := 190) hk' (by decide))]
    simp only [gR_mdl_0, gR_mdl_4, mld_5 hk', mst_1 hk', Option.bind_some, ← nI_succ, st1_up]
    rw [st1_of (by decide), hg k hk']
    exact ih (k + 1) (by omega) F (by omega) _ (fun j hj => by
      by_cases hjk : j = k
      · rw [if_pos hjk, hjk]
      · rw [if_neg hjk]; exact hf j (by omega))
theorem q_restore_no {g : NW} {r : RW} (hr : r 0 10 = 0) : m_X9_restore (some M) (ovs σ M r g) = some (-4, ovs σ M r g) := by
  unfold m_X9_restore
  simp only [gI_s_10, hr, Option.bind_some, if_true]
theorem q_restore {g g' : NW} {r : RW} {s : Nat} (hs : s ≤ 4) (hr : r 0 12 = nI s) (h1 : r 0 10 = 1) (hg : ∀ j, j < 190 → r 5 j = flat g' j) : m_X9_restore (some M) (ovs σ M r g) = some (g' 0 0 0, ovs σ M (recR (rcp r 2 0 (flat g)) s) g') := by
  unfold m_X9_restore
  simp only [gI_s_10, h1, ob_s, q_hold, Option.bind_some, bnd_some]
  rw [if_neg (by decide)]
  -- the loop passes through rows that are no numbers of a Net: it starts from those of g
  have key : ∀ (d k : Nat), k + d = 190 → ∀ (F : Nat), d < F → ∀ (f : Nat → Int32), (∀ j, ¬ (k ≤ j ∧ j < 190) → f j = flat g' j) → m_X9_restore_L16 F (some M) (nI k) (ovm σ M (st1 (rcp r 2 0 (flat g)) f)) = some (g' 0 0 0, ovs σ M (recR (rcp r 2 0 (flat g)) s) g') := q_restoreL hs (by simp [rcp, hr]) (fun j hj => by simp only [rcp]; rw [if_neg (by omega)]; exact hg j hj)
  have e := key 190 0 rfl 1000 (by decide) (flat g) (fun j hj => by
    rw [flat_out (g := g) (by omega), flat_out (g := g') (by omega)])
  rw [← nI0] at e
  exact e
end REC
